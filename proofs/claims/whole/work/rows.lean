section
-- ===== PART A: goes FIRST, ahead of the names: the tables' words, and 'selects' of the private methods out of them =====
/-- a private method of a class that the tables say can be made, by its rows of tables_1 -/
def lw_okq (q : MethodName × Nat) : Prop := (q.1.cls ≠ "java/lang/invoke/MethodHandle" ∧ q.1.cls ≠ "java/lang/invoke/VarHandle") ∧ Cond.instantiable q.1.cls q.2 ∈ tables_1 ∧ Cond.privateMethod q.1 ∈ tables_1 ∧ Cond.instanceMethod q.1 ∈ tables_1
theorem lw_p0 : lw_okq (⟨"TwoKings$LawReader", "readSum", "()Z"⟩, 7) := ⟨⟨by decide +kernel, by decide +kernel⟩, List.mem_of_getElem? (i := 80) (by decide +kernel), List.mem_of_getElem? (i := 573) (by decide +kernel), List.mem_of_getElem? (i := 574) (by decide +kernel)⟩
theorem lw_p1 : lw_okq (⟨"TwoKings$LawReader", "readTerm", "()Z"⟩, 7) := ⟨⟨by decide +kernel, by decide +kernel⟩, List.mem_of_getElem? (i := 80) (by decide +kernel), List.mem_of_getElem? (i := 577) (by decide +kernel), List.mem_of_getElem? (i := 578) (by decide +kernel)⟩
theorem lw_p2 : lw_okq (⟨"TwoKings$LawReader", "readFactor", "()Z"⟩, 7) := ⟨⟨by decide +kernel, by decide +kernel⟩, List.mem_of_getElem? (i := 80) (by decide +kernel), List.mem_of_getElem? (i := 581) (by decide +kernel), List.mem_of_getElem? (i := 582) (by decide +kernel)⟩
theorem lw_p3 : lw_okq (⟨"TwoKings$LawReader", "readBracket", "()Z"⟩, 7) := ⟨⟨by decide +kernel, by decide +kernel⟩, List.mem_of_getElem? (i := 80) (by decide +kernel), List.mem_of_getElem? (i := 586) (by decide +kernel), List.mem_of_getElem? (i := 587) (by decide +kernel)⟩
theorem lw_p4 : lw_okq (⟨"TwoKings$LawReader", "opens", "()Z"⟩, 7) := ⟨⟨by decide +kernel, by decide +kernel⟩, List.mem_of_getElem? (i := 80) (by decide +kernel), List.mem_of_getElem? (i := 590) (by decide +kernel), List.mem_of_getElem? (i := 591) (by decide +kernel)⟩
theorem lw_p5 : lw_okq (⟨"TwoKings$LawReader", "readGroup", "()Z"⟩, 7) := ⟨⟨by decide +kernel, by decide +kernel⟩, List.mem_of_getElem? (i := 80) (by decide +kernel), List.mem_of_getElem? (i := 618) (by decide +kernel), List.mem_of_getElem? (i := 619) (by decide +kernel)⟩
theorem lw_p6 : lw_okq (⟨"TwoKings$LawReader", "readChoice", "()Z"⟩, 7) := ⟨⟨by decide +kernel, by decide +kernel⟩, List.mem_of_getElem? (i := 80) (by decide +kernel), List.mem_of_getElem? (i := 622) (by decide +kernel), List.mem_of_getElem? (i := 623) (by decide +kernel)⟩
theorem lw_p7 : lw_okq (⟨"TwoKings$LawReader", "readPart", "()Z"⟩, 7) := ⟨⟨by decide +kernel, by decide +kernel⟩, List.mem_of_getElem? (i := 80) (by decide +kernel), List.mem_of_getElem? (i := 626) (by decide +kernel), List.mem_of_getElem? (i := 627) (by decide +kernel)⟩
theorem lw_p8 : lw_okq (⟨"TwoKings$LawReader", "readTest", "()Z"⟩, 7) := ⟨⟨by decide +kernel, by decide +kernel⟩, List.mem_of_getElem? (i := 80) (by decide +kernel), List.mem_of_getElem? (i := 630) (by decide +kernel), List.mem_of_getElem? (i := 631) (by decide +kernel)⟩
theorem lw_p9 : lw_okq (⟨"TwoKings$LawReader", "readNot", "()Z"⟩, 7) := ⟨⟨by decide +kernel, by decide +kernel⟩, List.mem_of_getElem? (i := 80) (by decide +kernel), List.mem_of_getElem? (i := 635) (by decide +kernel), List.mem_of_getElem? (i := 636) (by decide +kernel)⟩
theorem lw_p10 : lw_okq (⟨"TwoKings$OrdersReader", "obeyLine", "(ILTwoKings$King;)V"⟩, 8) := ⟨⟨by decide +kernel, by decide +kernel⟩, List.mem_of_getElem? (i := 126) (by decide +kernel), List.mem_of_getElem? (i := 708) (by decide +kernel), List.mem_of_getElem? (i := 709) (by decide +kernel)⟩
theorem lw_p11 : lw_okq (⟨"TwoKings$Treaty", "agrees", "(III)Z"⟩, 6) := ⟨⟨by decide +kernel, by decide +kernel⟩, List.mem_of_getElem? (i := 147) (by decide +kernel), List.mem_of_getElem? (i := 732) (by decide +kernel), List.mem_of_getElem? (i := 733) (by decide +kernel)⟩
theorem lw_p12 : lw_okq (⟨"TwoKings$Treaty", "joinActs", "(II)V"⟩, 6) := ⟨⟨by decide +kernel, by decide +kernel⟩, List.mem_of_getElem? (i := 147) (by decide +kernel), List.mem_of_getElem? (i := 737) (by decide +kernel), List.mem_of_getElem? (i := 738) (by decide +kernel)⟩
theorem lw_p13 : lw_okq (⟨"TwoKings$Treaty", "shareAhead", "()V"⟩, 6) := ⟨⟨by decide +kernel, by decide +kernel⟩, List.mem_of_getElem? (i := 147) (by decide +kernel), List.mem_of_getElem? (i := 741) (by decide +kernel), List.mem_of_getElem? (i := 742) (by decide +kernel)⟩
theorem lw_p14 : lw_okq (⟨"TwoKings$Treaty", "closeAhead", "()V"⟩, 6) := ⟨⟨by decide +kernel, by decide +kernel⟩, List.mem_of_getElem? (i := 147) (by decide +kernel), List.mem_of_getElem? (i := 745) (by decide +kernel), List.mem_of_getElem? (i := 746) (by decide +kernel)⟩
theorem lw_p15 : lw_okq (⟨"TwoKings$Treaty", "findMoments", "()V"⟩, 6) := ⟨⟨by decide +kernel, by decide +kernel⟩, List.mem_of_getElem? (i := 147) (by decide +kernel), List.mem_of_getElem? (i := 749) (by decide +kernel), List.mem_of_getElem? (i := 750) (by decide +kernel)⟩
def lw_privs_1 : List (MethodName × Nat) := [(⟨"TwoKings$LawReader", "readSum", "()Z"⟩, 7), (⟨"TwoKings$LawReader", "readTerm", "()Z"⟩, 7), (⟨"TwoKings$LawReader", "readFactor", "()Z"⟩, 7), (⟨"TwoKings$LawReader", "readBracket", "()Z"⟩, 7), (⟨"TwoKings$LawReader", "opens", "()Z"⟩, 7), (⟨"TwoKings$LawReader", "readGroup", "()Z"⟩, 7), (⟨"TwoKings$LawReader", "readChoice", "()Z"⟩, 7), (⟨"TwoKings$LawReader", "readPart", "()Z"⟩, 7), (⟨"TwoKings$LawReader", "readTest", "()Z"⟩, 7), (⟨"TwoKings$LawReader", "readNot", "()Z"⟩, 7), (⟨"TwoKings$OrdersReader", "obeyLine", "(ILTwoKings$King;)V"⟩, 8), (⟨"TwoKings$Treaty", "agrees", "(III)Z"⟩, 6), (⟨"TwoKings$Treaty", "joinActs", "(II)V"⟩, 6), (⟨"TwoKings$Treaty", "shareAhead", "()V"⟩, 6), (⟨"TwoKings$Treaty", "closeAhead", "()V"⟩, 6), (⟨"TwoKings$Treaty", "findMoments", "()V"⟩, 6)]
theorem lw_r1 : ∀ q ∈ lw_privs_1, lw_okq q := List.forall_mem_cons.mpr ⟨lw_p0, List.forall_mem_cons.mpr ⟨lw_p1, List.forall_mem_cons.mpr ⟨lw_p2, List.forall_mem_cons.mpr ⟨lw_p3, List.forall_mem_cons.mpr ⟨lw_p4, List.forall_mem_cons.mpr ⟨lw_p5, List.forall_mem_cons.mpr ⟨lw_p6, List.forall_mem_cons.mpr ⟨lw_p7, List.forall_mem_cons.mpr ⟨lw_p8, List.forall_mem_cons.mpr ⟨lw_p9, List.forall_mem_cons.mpr ⟨lw_p10, List.forall_mem_cons.mpr ⟨lw_p11, List.forall_mem_cons.mpr ⟨lw_p12, List.forall_mem_cons.mpr ⟨lw_p13, List.forall_mem_cons.mpr ⟨lw_p14, List.forall_mem_cons.mpr ⟨lw_p15, fun _ h => absurd h List.not_mem_nil⟩⟩⟩⟩⟩⟩⟩⟩⟩⟩⟩⟩⟩⟩⟩⟩
theorem lw_p16 : lw_okq (⟨"TwoKings$Treaty", "momentBehind", "(I)I"⟩, 6) := ⟨⟨by decide +kernel, by decide +kernel⟩, List.mem_of_getElem? (i := 147) (by decide +kernel), List.mem_of_getElem? (i := 756) (by decide +kernel), List.mem_of_getElem? (i := 757) (by decide +kernel)⟩
theorem lw_p17 : lw_okq (⟨"TwoKings", "goesBy", "(LTwoKings$Meeting;)Z"⟩, 14) := ⟨⟨by decide +kernel, by decide +kernel⟩, List.mem_of_getElem? (i := 24) (by decide +kernel), List.mem_of_getElem? (i := 765) (by decide +kernel), List.mem_of_getElem? (i := 766) (by decide +kernel)⟩
theorem lw_p18 : lw_okq (⟨"TwoKings$Meeting", "draw", "()I"⟩, 4) := ⟨⟨by decide +kernel, by decide +kernel⟩, List.mem_of_getElem? (i := 199) (by decide +kernel), List.mem_of_getElem? (i := 785) (by decide +kernel), List.mem_of_getElem? (i := 786) (by decide +kernel)⟩
theorem lw_p19 : lw_okq (⟨"TwoKings$Law", "reckon", "(I)I"⟩, 8) := ⟨⟨by decide +kernel, by decide +kernel⟩, List.mem_of_getElem? (i := 48) (by decide +kernel), List.mem_of_getElem? (i := 802) (by decide +kernel), List.mem_of_getElem? (i := 803) (by decide +kernel)⟩
theorem lw_p20 : lw_okq (⟨"TwoKings$Law", "seenAt", "(I)I"⟩, 8) := ⟨⟨by decide +kernel, by decide +kernel⟩, List.mem_of_getElem? (i := 48) (by decide +kernel), List.mem_of_getElem? (i := 806) (by decide +kernel), List.mem_of_getElem? (i := 807) (by decide +kernel)⟩
theorem lw_p21 : lw_okq (⟨"TwoKings$Lane", "packed", "()I"⟩, 7) := ⟨⟨by decide +kernel, by decide +kernel⟩, List.mem_of_getElem? (i := 277) (by decide +kernel), List.mem_of_getElem? (i := 934) (by decide +kernel), List.mem_of_getElem? (i := 935) (by decide +kernel)⟩
theorem lw_p22 : lw_okq (⟨"TwoKings$Lane", "add", "(II)V"⟩, 7) := ⟨⟨by decide +kernel, by decide +kernel⟩, List.mem_of_getElem? (i := 277) (by decide +kernel), List.mem_of_getElem? (i := 940) (by decide +kernel), List.mem_of_getElem? (i := 941) (by decide +kernel)⟩
theorem lw_p23 : lw_okq (⟨"TwoKings$Lane", "unpack", "(I)V"⟩, 7) := ⟨⟨by decide +kernel, by decide +kernel⟩, List.mem_of_getElem? (i := 277) (by decide +kernel), List.mem_of_getElem? (i := 944) (by decide +kernel), List.mem_of_getElem? (i := 945) (by decide +kernel)⟩
theorem lw_p24 : lw_okq (⟨"TwoKings$Lane", "allHavePassed", "()Z"⟩, 7) := ⟨⟨by decide +kernel, by decide +kernel⟩, List.mem_of_getElem? (i := 277) (by decide +kernel), List.mem_of_getElem? (i := 948) (by decide +kernel), List.mem_of_getElem? (i := 949) (by decide +kernel)⟩
theorem lw_p25 : lw_okq (⟨"TwoKings$Lane", "addMoves", "(II)V"⟩, 7) := ⟨⟨by decide +kernel, by decide +kernel⟩, List.mem_of_getElem? (i := 277) (by decide +kernel), List.mem_of_getElem? (i := 952) (by decide +kernel), List.mem_of_getElem? (i := 953) (by decide +kernel)⟩
theorem lw_p26 : lw_okq (⟨"TwoKings$Lane", "landing", "(I)I"⟩, 7) := ⟨⟨by decide +kernel, by decide +kernel⟩, List.mem_of_getElem? (i := 277) (by decide +kernel), List.mem_of_getElem? (i := 956) (by decide +kernel), List.mem_of_getElem? (i := 957) (by decide +kernel)⟩
theorem lw_p27 : lw_okq (⟨"TwoKings$Lane", "standsAt", "(I)I"⟩, 7) := ⟨⟨by decide +kernel, by decide +kernel⟩, List.mem_of_getElem? (i := 277) (by decide +kernel), List.mem_of_getElem? (i := 960) (by decide +kernel), List.mem_of_getElem? (i := 961) (by decide +kernel)⟩
theorem lw_p28 : lw_okq (⟨"TwoKings$Ceremonies", "sortInto", "([III)V"⟩, 11) := ⟨⟨by decide +kernel, by decide +kernel⟩, List.mem_of_getElem? (i := 307) (by decide +kernel), List.mem_of_getElem? (i := 996) (by decide +kernel), List.mem_of_getElem? (i := 997) (by decide +kernel)⟩
theorem lw_p29 : lw_okq (⟨"TwoKings$Ceremonies", "leastPile", "(II)I"⟩, 11) := ⟨⟨by decide +kernel, by decide +kernel⟩, List.mem_of_getElem? (i := 307) (by decide +kernel), List.mem_of_getElem? (i := 1013) (by decide +kernel), List.mem_of_getElem? (i := 1014) (by decide +kernel)⟩
theorem lw_p30 : lw_okq (⟨"TwoKings$Ceremonies", "seatedBadly", "(I)I"⟩, 11) := ⟨⟨by decide +kernel, by decide +kernel⟩, List.mem_of_getElem? (i := 307) (by decide +kernel), List.mem_of_getElem? (i := 1025) (by decide +kernel), List.mem_of_getElem? (i := 1026) (by decide +kernel)⟩
theorem lw_p31 : lw_okq (⟨"TwoKings$Ceremonies", "goesToNextRow", "(I)Z"⟩, 11) := ⟨⟨by decide +kernel, by decide +kernel⟩, List.mem_of_getElem? (i := 307) (by decide +kernel), List.mem_of_getElem? (i := 1030) (by decide +kernel), List.mem_of_getElem? (i := 1031) (by decide +kernel)⟩
def lw_privs_2 : List (MethodName × Nat) := [(⟨"TwoKings$Treaty", "momentBehind", "(I)I"⟩, 6), (⟨"TwoKings", "goesBy", "(LTwoKings$Meeting;)Z"⟩, 14), (⟨"TwoKings$Meeting", "draw", "()I"⟩, 4), (⟨"TwoKings$Law", "reckon", "(I)I"⟩, 8), (⟨"TwoKings$Law", "seenAt", "(I)I"⟩, 8), (⟨"TwoKings$Lane", "packed", "()I"⟩, 7), (⟨"TwoKings$Lane", "add", "(II)V"⟩, 7), (⟨"TwoKings$Lane", "unpack", "(I)V"⟩, 7), (⟨"TwoKings$Lane", "allHavePassed", "()Z"⟩, 7), (⟨"TwoKings$Lane", "addMoves", "(II)V"⟩, 7), (⟨"TwoKings$Lane", "landing", "(I)I"⟩, 7), (⟨"TwoKings$Lane", "standsAt", "(I)I"⟩, 7), (⟨"TwoKings$Ceremonies", "sortInto", "([III)V"⟩, 11), (⟨"TwoKings$Ceremonies", "leastPile", "(II)I"⟩, 11), (⟨"TwoKings$Ceremonies", "seatedBadly", "(I)I"⟩, 11), (⟨"TwoKings$Ceremonies", "goesToNextRow", "(I)Z"⟩, 11)]
theorem lw_r2 : ∀ q ∈ lw_privs_2, lw_okq q := List.forall_mem_cons.mpr ⟨lw_p16, List.forall_mem_cons.mpr ⟨lw_p17, List.forall_mem_cons.mpr ⟨lw_p18, List.forall_mem_cons.mpr ⟨lw_p19, List.forall_mem_cons.mpr ⟨lw_p20, List.forall_mem_cons.mpr ⟨lw_p21, List.forall_mem_cons.mpr ⟨lw_p22, List.forall_mem_cons.mpr ⟨lw_p23, List.forall_mem_cons.mpr ⟨lw_p24, List.forall_mem_cons.mpr ⟨lw_p25, List.forall_mem_cons.mpr ⟨lw_p26, List.forall_mem_cons.mpr ⟨lw_p27, List.forall_mem_cons.mpr ⟨lw_p28, List.forall_mem_cons.mpr ⟨lw_p29, List.forall_mem_cons.mpr ⟨lw_p30, List.forall_mem_cons.mpr ⟨lw_p31, fun _ h => absurd h List.not_mem_nil⟩⟩⟩⟩⟩⟩⟩⟩⟩⟩⟩⟩⟩⟩⟩⟩
theorem lw_p32 : lw_okq (⟨"TwoKings$Ceremonies", "swapSeats", "(II)V"⟩, 11) := ⟨⟨by decide +kernel, by decide +kernel⟩, List.mem_of_getElem? (i := 307) (by decide +kernel), List.mem_of_getElem? (i := 1034) (by decide +kernel), List.mem_of_getElem? (i := 1035) (by decide +kernel)⟩
theorem lw_p33 : lw_okq (⟨"TwoKings$Ceremonies", "waysTo", "(I)J"⟩, 11) := ⟨⟨by decide +kernel, by decide +kernel⟩, List.mem_of_getElem? (i := 307) (by decide +kernel), List.mem_of_getElem? (i := 1067) (by decide +kernel), List.mem_of_getElem? (i := 1068) (by decide +kernel)⟩
theorem lw_p34 : lw_okq (⟨"TwoKingsModel", "types", "(I)V"⟩, 63) := ⟨⟨by decide +kernel, by decide +kernel⟩, List.mem_of_getElem? (i := 1097) (by decide +kernel), List.mem_of_getElem? (i := 1309) (by decide +kernel), List.mem_of_getElem? (i := 1310) (by decide +kernel)⟩
theorem lw_p35 : lw_okq (⟨"TwoKingsModel", "beginsText", "(I)V"⟩, 63) := ⟨⟨by decide +kernel, by decide +kernel⟩, List.mem_of_getElem? (i := 1097) (by decide +kernel), List.mem_of_getElem? (i := 1317) (by decide +kernel), List.mem_of_getElem? (i := 1318) (by decide +kernel)⟩
theorem lw_p36 : lw_okq (⟨"TwoKingsModel", "readsRule", "()Z"⟩, 63) := ⟨⟨by decide +kernel, by decide +kernel⟩, List.mem_of_getElem? (i := 1097) (by decide +kernel), List.mem_of_getElem? (i := 1321) (by decide +kernel), List.mem_of_getElem? (i := 1322) (by decide +kernel)⟩
theorem lw_p37 : lw_okq (⟨"TwoKingsModel", "here", "()I"⟩, 63) := ⟨⟨by decide +kernel, by decide +kernel⟩, List.mem_of_getElem? (i := 1097) (by decide +kernel), List.mem_of_getElem? (i := 1325) (by decide +kernel), List.mem_of_getElem? (i := 1326) (by decide +kernel)⟩
theorem lw_p38 : lw_okq (⟨"TwoKingsModel", "wrongAt", "(II)Z"⟩, 63) := ⟨⟨by decide +kernel, by decide +kernel⟩, List.mem_of_getElem? (i := 1097) (by decide +kernel), List.mem_of_getElem? (i := 1329) (by decide +kernel), List.mem_of_getElem? (i := 1330) (by decide +kernel)⟩
theorem lw_p39 : lw_okq (⟨"TwoKingsModel", "readsSum", "()Z"⟩, 63) := ⟨⟨by decide +kernel, by decide +kernel⟩, List.mem_of_getElem? (i := 1097) (by decide +kernel), List.mem_of_getElem? (i := 1333) (by decide +kernel), List.mem_of_getElem? (i := 1334) (by decide +kernel)⟩
theorem lw_p40 : lw_okq (⟨"TwoKingsModel", "readsFactor", "()Z"⟩, 63) := ⟨⟨by decide +kernel, by decide +kernel⟩, List.mem_of_getElem? (i := 1097) (by decide +kernel), List.mem_of_getElem? (i := 1337) (by decide +kernel), List.mem_of_getElem? (i := 1338) (by decide +kernel)⟩
theorem lw_p41 : lw_okq (⟨"TwoKingsModel", "opens", "(I)Z"⟩, 63) := ⟨⟨by decide +kernel, by decide +kernel⟩, List.mem_of_getElem? (i := 1097) (by decide +kernel), List.mem_of_getElem? (i := 1341) (by decide +kernel), List.mem_of_getElem? (i := 1342) (by decide +kernel)⟩
theorem lw_p42 : lw_okq (⟨"TwoKingsModel", "isDigit", "()Z"⟩, 63) := ⟨⟨by decide +kernel, by decide +kernel⟩, List.mem_of_getElem? (i := 1097) (by decide +kernel), List.mem_of_getElem? (i := 1346) (by decide +kernel), List.mem_of_getElem? (i := 1347) (by decide +kernel)⟩
theorem lw_p43 : lw_okq (⟨"TwoKingsModel", "readsNumber", "()Z"⟩, 63) := ⟨⟨by decide +kernel, by decide +kernel⟩, List.mem_of_getElem? (i := 1097) (by decide +kernel), List.mem_of_getElem? (i := 1350) (by decide +kernel), List.mem_of_getElem? (i := 1351) (by decide +kernel)⟩
theorem lw_p44 : lw_okq (⟨"TwoKingsModel", "notes", "(II)V"⟩, 63) := ⟨⟨by decide +kernel, by decide +kernel⟩, List.mem_of_getElem? (i := 1097) (by decide +kernel), List.mem_of_getElem? (i := 1354) (by decide +kernel), List.mem_of_getElem? (i := 1355) (by decide +kernel)⟩
theorem lw_p45 : lw_okq (⟨"TwoKingsModel", "closesSums", "(Z)V"⟩, 63) := ⟨⟨by decide +kernel, by decide +kernel⟩, List.mem_of_getElem? (i := 1097) (by decide +kernel), List.mem_of_getElem? (i := 1364) (by decide +kernel), List.mem_of_getElem? (i := 1365) (by decide +kernel)⟩
theorem lw_p46 : lw_okq (⟨"TwoKingsModel", "waitTop", "()I"⟩, 63) := ⟨⟨by decide +kernel, by decide +kernel⟩, List.mem_of_getElem? (i := 1097) (by decide +kernel), List.mem_of_getElem? (i := 1368) (by decide +kernel), List.mem_of_getElem? (i := 1369) (by decide +kernel)⟩
theorem lw_p47 : lw_okq (⟨"TwoKingsModel", "hasOpenSum", "(I)Z"⟩, 63) := ⟨⟨by decide +kernel, by decide +kernel⟩, List.mem_of_getElem? (i := 1097) (by decide +kernel), List.mem_of_getElem? (i := 1372) (by decide +kernel), List.mem_of_getElem? (i := 1373) (by decide +kernel)⟩
def lw_privs_3 : List (MethodName × Nat) := [(⟨"TwoKings$Ceremonies", "swapSeats", "(II)V"⟩, 11), (⟨"TwoKings$Ceremonies", "waysTo", "(I)J"⟩, 11), (⟨"TwoKingsModel", "types", "(I)V"⟩, 63), (⟨"TwoKingsModel", "beginsText", "(I)V"⟩, 63), (⟨"TwoKingsModel", "readsRule", "()Z"⟩, 63), (⟨"TwoKingsModel", "here", "()I"⟩, 63), (⟨"TwoKingsModel", "wrongAt", "(II)Z"⟩, 63), (⟨"TwoKingsModel", "readsSum", "()Z"⟩, 63), (⟨"TwoKingsModel", "readsFactor", "()Z"⟩, 63), (⟨"TwoKingsModel", "opens", "(I)Z"⟩, 63), (⟨"TwoKingsModel", "isDigit", "()Z"⟩, 63), (⟨"TwoKingsModel", "readsNumber", "()Z"⟩, 63), (⟨"TwoKingsModel", "notes", "(II)V"⟩, 63), (⟨"TwoKingsModel", "closesSums", "(Z)V"⟩, 63), (⟨"TwoKingsModel", "waitTop", "()I"⟩, 63), (⟨"TwoKingsModel", "hasOpenSum", "(I)Z"⟩, 63)]
theorem lw_r3 : ∀ q ∈ lw_privs_3, lw_okq q := List.forall_mem_cons.mpr ⟨lw_p32, List.forall_mem_cons.mpr ⟨lw_p33, List.forall_mem_cons.mpr ⟨lw_p34, List.forall_mem_cons.mpr ⟨lw_p35, List.forall_mem_cons.mpr ⟨lw_p36, List.forall_mem_cons.mpr ⟨lw_p37, List.forall_mem_cons.mpr ⟨lw_p38, List.forall_mem_cons.mpr ⟨lw_p39, List.forall_mem_cons.mpr ⟨lw_p40, List.forall_mem_cons.mpr ⟨lw_p41, List.forall_mem_cons.mpr ⟨lw_p42, List.forall_mem_cons.mpr ⟨lw_p43, List.forall_mem_cons.mpr ⟨lw_p44, List.forall_mem_cons.mpr ⟨lw_p45, List.forall_mem_cons.mpr ⟨lw_p46, List.forall_mem_cons.mpr ⟨lw_p47, fun _ h => absurd h List.not_mem_nil⟩⟩⟩⟩⟩⟩⟩⟩⟩⟩⟩⟩⟩⟩⟩⟩
theorem lw_p48 : lw_okq (⟨"TwoKingsModel", "readsCondition", "()Z"⟩, 63) := ⟨⟨by decide +kernel, by decide +kernel⟩, List.mem_of_getElem? (i := 1097) (by decide +kernel), List.mem_of_getElem? (i := 1376) (by decide +kernel), List.mem_of_getElem? (i := 1377) (by decide +kernel)⟩
theorem lw_p49 : lw_okq (⟨"TwoKingsModel", "readsCompared", "()Z"⟩, 63) := ⟨⟨by decide +kernel, by decide +kernel⟩, List.mem_of_getElem? (i := 1097) (by decide +kernel), List.mem_of_getElem? (i := 1380) (by decide +kernel), List.mem_of_getElem? (i := 1381) (by decide +kernel)⟩
theorem lw_p50 : lw_okq (⟨"TwoKingsModel", "endsPiece", "()V"⟩, 63) := ⟨⟨by decide +kernel, by decide +kernel⟩, List.mem_of_getElem? (i := 1097) (by decide +kernel), List.mem_of_getElem? (i := 1384) (by decide +kernel), List.mem_of_getElem? (i := 1385) (by decide +kernel)⟩
theorem lw_p51 : lw_okq (⟨"TwoKingsModel", "lands", "(Z)V"⟩, 63) := ⟨⟨by decide +kernel, by decide +kernel⟩, List.mem_of_getElem? (i := 1097) (by decide +kernel), List.mem_of_getElem? (i := 1388) (by decide +kernel), List.mem_of_getElem? (i := 1389) (by decide +kernel)⟩
theorem lw_p52 : lw_okq (⟨"TwoKingsModel", "jumps", "(I)V"⟩, 63) := ⟨⟨by decide +kernel, by decide +kernel⟩, List.mem_of_getElem? (i := 1097) (by decide +kernel), List.mem_of_getElem? (i := 1392) (by decide +kernel), List.mem_of_getElem? (i := 1393) (by decide +kernel)⟩
theorem lw_p53 : lw_okq (⟨"TwoKingsModel", "takes", "(I)Z"⟩, 63) := ⟨⟨by decide +kernel, by decide +kernel⟩, List.mem_of_getElem? (i := 1097) (by decide +kernel), List.mem_of_getElem? (i := 1396) (by decide +kernel), List.mem_of_getElem? (i := 1397) (by decide +kernel)⟩
theorem lw_p54 : lw_okq (⟨"TwoKingsModel", "readsLine", "()Z"⟩, 63) := ⟨⟨by decide +kernel, by decide +kernel⟩, List.mem_of_getElem? (i := 1097) (by decide +kernel), List.mem_of_getElem? (i := 1407) (by decide +kernel), List.mem_of_getElem? (i := 1408) (by decide +kernel)⟩
theorem lw_p55 : lw_okq (⟨"TwoKingsModel", "readsAmount", "()Z"⟩, 63) := ⟨⟨by decide +kernel, by decide +kernel⟩, List.mem_of_getElem? (i := 1097) (by decide +kernel), List.mem_of_getElem? (i := 1411) (by decide +kernel), List.mem_of_getElem? (i := 1412) (by decide +kernel)⟩
theorem lw_p56 : lw_okq (⟨"TwoKingsModel", "obeys", "(II)V"⟩, 63) := ⟨⟨by decide +kernel, by decide +kernel⟩, List.mem_of_getElem? (i := 1097) (by decide +kernel), List.mem_of_getElem? (i := 1415) (by decide +kernel), List.mem_of_getElem? (i := 1416) (by decide +kernel)⟩
theorem lw_p57 : lw_okq (⟨"TwoKingsModel", "breathsGo", "(I)V"⟩, 63) := ⟨⟨by decide +kernel, by decide +kernel⟩, List.mem_of_getElem? (i := 1097) (by decide +kernel), List.mem_of_getElem? (i := 1426) (by decide +kernel), List.mem_of_getElem? (i := 1427) (by decide +kernel)⟩
theorem lw_p58 : lw_okq (⟨"TwoKingsModel", "thereNow", "()I"⟩, 63) := ⟨⟨by decide +kernel, by decide +kernel⟩, List.mem_of_getElem? (i := 1097) (by decide +kernel), List.mem_of_getElem? (i := 1430) (by decide +kernel), List.mem_of_getElem? (i := 1431) (by decide +kernel)⟩
theorem lw_p59 : lw_okq (⟨"TwoKingsModel", "haveMet", "()Z"⟩, 63) := ⟨⟨by decide +kernel, by decide +kernel⟩, List.mem_of_getElem? (i := 1097) (by decide +kernel), List.mem_of_getElem? (i := 1434) (by decide +kernel), List.mem_of_getElem? (i := 1435) (by decide +kernel)⟩
theorem lw_p60 : lw_okq (⟨"TwoKingsModel", "apartNow", "()I"⟩, 63) := ⟨⟨by decide +kernel, by decide +kernel⟩, List.mem_of_getElem? (i := 1097) (by decide +kernel), List.mem_of_getElem? (i := 1438) (by decide +kernel), List.mem_of_getElem? (i := 1439) (by decide +kernel)⟩
theorem lw_p61 : lw_okq (⟨"TwoKingsModel", "goesOn", "()Z"⟩, 63) := ⟨⟨by decide +kernel, by decide +kernel⟩, List.mem_of_getElem? (i := 1097) (by decide +kernel), List.mem_of_getElem? (i := 1445) (by decide +kernel), List.mem_of_getElem? (i := 1446) (by decide +kernel)⟩
theorem lw_p62 : lw_okq (⟨"TwoKingsModel", "goneSet", "()I"⟩, 63) := ⟨⟨by decide +kernel, by decide +kernel⟩, List.mem_of_getElem? (i := 1097) (by decide +kernel), List.mem_of_getElem? (i := 1449) (by decide +kernel), List.mem_of_getElem? (i := 1450) (by decide +kernel)⟩
theorem lw_p63 : lw_okq (⟨"TwoKingsModel", "breathGoes", "()V"⟩, 63) := ⟨⟨by decide +kernel, by decide +kernel⟩, List.mem_of_getElem? (i := 1097) (by decide +kernel), List.mem_of_getElem? (i := 1453) (by decide +kernel), List.mem_of_getElem? (i := 1454) (by decide +kernel)⟩
def lw_privs_4 : List (MethodName × Nat) := [(⟨"TwoKingsModel", "readsCondition", "()Z"⟩, 63), (⟨"TwoKingsModel", "readsCompared", "()Z"⟩, 63), (⟨"TwoKingsModel", "endsPiece", "()V"⟩, 63), (⟨"TwoKingsModel", "lands", "(Z)V"⟩, 63), (⟨"TwoKingsModel", "jumps", "(I)V"⟩, 63), (⟨"TwoKingsModel", "takes", "(I)Z"⟩, 63), (⟨"TwoKingsModel", "readsLine", "()Z"⟩, 63), (⟨"TwoKingsModel", "readsAmount", "()Z"⟩, 63), (⟨"TwoKingsModel", "obeys", "(II)V"⟩, 63), (⟨"TwoKingsModel", "breathsGo", "(I)V"⟩, 63), (⟨"TwoKingsModel", "thereNow", "()I"⟩, 63), (⟨"TwoKingsModel", "haveMet", "()Z"⟩, 63), (⟨"TwoKingsModel", "apartNow", "()I"⟩, 63), (⟨"TwoKingsModel", "goesOn", "()Z"⟩, 63), (⟨"TwoKingsModel", "goneSet", "()I"⟩, 63), (⟨"TwoKingsModel", "breathGoes", "()V"⟩, 63)]
theorem lw_r4 : ∀ q ∈ lw_privs_4, lw_okq q := List.forall_mem_cons.mpr ⟨lw_p48, List.forall_mem_cons.mpr ⟨lw_p49, List.forall_mem_cons.mpr ⟨lw_p50, List.forall_mem_cons.mpr ⟨lw_p51, List.forall_mem_cons.mpr ⟨lw_p52, List.forall_mem_cons.mpr ⟨lw_p53, List.forall_mem_cons.mpr ⟨lw_p54, List.forall_mem_cons.mpr ⟨lw_p55, List.forall_mem_cons.mpr ⟨lw_p56, List.forall_mem_cons.mpr ⟨lw_p57, List.forall_mem_cons.mpr ⟨lw_p58, List.forall_mem_cons.mpr ⟨lw_p59, List.forall_mem_cons.mpr ⟨lw_p60, List.forall_mem_cons.mpr ⟨lw_p61, List.forall_mem_cons.mpr ⟨lw_p62, List.forall_mem_cons.mpr ⟨lw_p63, fun _ h => absurd h List.not_mem_nil⟩⟩⟩⟩⟩⟩⟩⟩⟩⟩⟩⟩⟩⟩⟩⟩
theorem lw_p64 : lw_okq (⟨"TwoKingsModel", "asks", "(I)V"⟩, 63) := ⟨⟨by decide +kernel, by decide +kernel⟩, List.mem_of_getElem? (i := 1097) (by decide +kernel), List.mem_of_getElem? (i := 1458) (by decide +kernel), List.mem_of_getElem? (i := 1459) (by decide +kernel)⟩
theorem lw_p65 : lw_okq (⟨"TwoKingsModel", "feels", "(I)V"⟩, 63) := ⟨⟨by decide +kernel, by decide +kernel⟩, List.mem_of_getElem? (i := 1097) (by decide +kernel), List.mem_of_getElem? (i := 1462) (by decide +kernel), List.mem_of_getElem? (i := 1463) (by decide +kernel)⟩
theorem lw_p66 : lw_okq (⟨"TwoKingsModel", "byLaw", "(II)I"⟩, 63) := ⟨⟨by decide +kernel, by decide +kernel⟩, List.mem_of_getElem? (i := 1097) (by decide +kernel), List.mem_of_getElem? (i := 1466) (by decide +kernel), List.mem_of_getElem? (i := 1467) (by decide +kernel)⟩
theorem lw_p67 : lw_okq (⟨"TwoKingsModel", "comesTo", "(II)I"⟩, 63) := ⟨⟨by decide +kernel, by decide +kernel⟩, List.mem_of_getElem? (i := 1097) (by decide +kernel), List.mem_of_getElem? (i := 1470) (by decide +kernel), List.mem_of_getElem? (i := 1471) (by decide +kernel)⟩
theorem lw_p68 : lw_okq (⟨"TwoKingsModel", "holdsAny", "(I)Z"⟩, 63) := ⟨⟨by decide +kernel, by decide +kernel⟩, List.mem_of_getElem? (i := 1097) (by decide +kernel), List.mem_of_getElem? (i := 1477) (by decide +kernel), List.mem_of_getElem? (i := 1478) (by decide +kernel)⟩
theorem lw_p69 : lw_okq (⟨"TwoKingsModel", "moves", "(I)V"⟩, 63) := ⟨⟨by decide +kernel, by decide +kernel⟩, List.mem_of_getElem? (i := 1097) (by decide +kernel), List.mem_of_getElem? (i := 1481) (by decide +kernel), List.mem_of_getElem? (i := 1482) (by decide +kernel)⟩
theorem lw_p70 : lw_okq (⟨"TwoKingsModel", "hasRule", "(I)Z"⟩, 63) := ⟨⟨by decide +kernel, by decide +kernel⟩, List.mem_of_getElem? (i := 1097) (by decide +kernel), List.mem_of_getElem? (i := 1488) (by decide +kernel), List.mem_of_getElem? (i := 1489) (by decide +kernel)⟩
theorem lw_p71 : lw_okq (⟨"TwoKingsModel", "offenceTo", "(I)I"⟩, 63) := ⟨⟨by decide +kernel, by decide +kernel⟩, List.mem_of_getElem? (i := 1097) (by decide +kernel), List.mem_of_getElem? (i := 1492) (by decide +kernel), List.mem_of_getElem? (i := 1493) (by decide +kernel)⟩
theorem lw_p72 : lw_okq (⟨"TwoKingsModel", "readsPair", "()Z"⟩, 63) := ⟨⟨by decide +kernel, by decide +kernel⟩, List.mem_of_getElem? (i := 1097) (by decide +kernel), List.mem_of_getElem? (i := 1524) (by decide +kernel), List.mem_of_getElem? (i := 1525) (by decide +kernel)⟩
theorem lw_p73 : lw_okq (⟨"TwoKingsModel", "contradictsAt", "()I"⟩, 63) := ⟨⟨by decide +kernel, by decide +kernel⟩, List.mem_of_getElem? (i := 1097) (by decide +kernel), List.mem_of_getElem? (i := 1532) (by decide +kernel), List.mem_of_getElem? (i := 1533) (by decide +kernel)⟩
theorem lw_p74 : lw_okq (⟨"TwoKingsModel", "laysMoments", "(I)Z"⟩, 63) := ⟨⟨by decide +kernel, by decide +kernel⟩, List.mem_of_getElem? (i := 1097) (by decide +kernel), List.mem_of_getElem? (i := 1536) (by decide +kernel), List.mem_of_getElem? (i := 1537) (by decide +kernel)⟩
theorem lw_p75 : lw_okq (⟨"TwoKingsModel", "lifts", "(I)Z"⟩, 63) := ⟨⟨by decide +kernel, by decide +kernel⟩, List.mem_of_getElem? (i := 1097) (by decide +kernel), List.mem_of_getElem? (i := 1540) (by decide +kernel), List.mem_of_getElem? (i := 1541) (by decide +kernel)⟩
theorem lw_p76 : lw_okq (⟨"TwoKingsModel", "named", "()I"⟩, 63) := ⟨⟨by decide +kernel, by decide +kernel⟩, List.mem_of_getElem? (i := 1097) (by decide +kernel), List.mem_of_getElem? (i := 1544) (by decide +kernel), List.mem_of_getElem? (i := 1545) (by decide +kernel)⟩
theorem lw_p77 : lw_okq (⟨"TwoKingsModel", "atOnceWith", "(I)I"⟩, 63) := ⟨⟨by decide +kernel, by decide +kernel⟩, List.mem_of_getElem? (i := 1097) (by decide +kernel), List.mem_of_getElem? (i := 1555) (by decide +kernel), List.mem_of_getElem? (i := 1556) (by decide +kernel)⟩
theorem lw_p78 : lw_okq (⟨"TwoKingsModel", "aheadOf", "(I)I"⟩, 63) := ⟨⟨by decide +kernel, by decide +kernel⟩, List.mem_of_getElem? (i := 1097) (by decide +kernel), List.mem_of_getElem? (i := 1559) (by decide +kernel), List.mem_of_getElem? (i := 1560) (by decide +kernel)⟩
theorem lw_p79 : lw_okq (⟨"TwoKingsModel", "octet", "(I)I"⟩, 63) := ⟨⟨by decide +kernel, by decide +kernel⟩, List.mem_of_getElem? (i := 1097) (by decide +kernel), List.mem_of_getElem? (i := 1567) (by decide +kernel), List.mem_of_getElem? (i := 1568) (by decide +kernel)⟩
def lw_privs_5 : List (MethodName × Nat) := [(⟨"TwoKingsModel", "asks", "(I)V"⟩, 63), (⟨"TwoKingsModel", "feels", "(I)V"⟩, 63), (⟨"TwoKingsModel", "byLaw", "(II)I"⟩, 63), (⟨"TwoKingsModel", "comesTo", "(II)I"⟩, 63), (⟨"TwoKingsModel", "holdsAny", "(I)Z"⟩, 63), (⟨"TwoKingsModel", "moves", "(I)V"⟩, 63), (⟨"TwoKingsModel", "hasRule", "(I)Z"⟩, 63), (⟨"TwoKingsModel", "offenceTo", "(I)I"⟩, 63), (⟨"TwoKingsModel", "readsPair", "()Z"⟩, 63), (⟨"TwoKingsModel", "contradictsAt", "()I"⟩, 63), (⟨"TwoKingsModel", "laysMoments", "(I)Z"⟩, 63), (⟨"TwoKingsModel", "lifts", "(I)Z"⟩, 63), (⟨"TwoKingsModel", "named", "()I"⟩, 63), (⟨"TwoKingsModel", "atOnceWith", "(I)I"⟩, 63), (⟨"TwoKingsModel", "aheadOf", "(I)I"⟩, 63), (⟨"TwoKingsModel", "octet", "(I)I"⟩, 63)]
theorem lw_r5 : ∀ q ∈ lw_privs_5, lw_okq q := List.forall_mem_cons.mpr ⟨lw_p64, List.forall_mem_cons.mpr ⟨lw_p65, List.forall_mem_cons.mpr ⟨lw_p66, List.forall_mem_cons.mpr ⟨lw_p67, List.forall_mem_cons.mpr ⟨lw_p68, List.forall_mem_cons.mpr ⟨lw_p69, List.forall_mem_cons.mpr ⟨lw_p70, List.forall_mem_cons.mpr ⟨lw_p71, List.forall_mem_cons.mpr ⟨lw_p72, List.forall_mem_cons.mpr ⟨lw_p73, List.forall_mem_cons.mpr ⟨lw_p74, List.forall_mem_cons.mpr ⟨lw_p75, List.forall_mem_cons.mpr ⟨lw_p76, List.forall_mem_cons.mpr ⟨lw_p77, List.forall_mem_cons.mpr ⟨lw_p78, List.forall_mem_cons.mpr ⟨lw_p79, fun _ h => absurd h List.not_mem_nil⟩⟩⟩⟩⟩⟩⟩⟩⟩⟩⟩⟩⟩⟩⟩⟩
theorem lw_p80 : lw_okq (⟨"TwoKingsModel", "searches", "(II)I"⟩, 63) := ⟨⟨by decide +kernel, by decide +kernel⟩, List.mem_of_getElem? (i := 1097) (by decide +kernel), List.mem_of_getElem? (i := 1571) (by decide +kernel), List.mem_of_getElem? (i := 1572) (by decide +kernel)⟩
theorem lw_p81 : lw_okq (⟨"TwoKingsModel", "unfolds", "(II)V"⟩, 63) := ⟨⟨by decide +kernel, by decide +kernel⟩, List.mem_of_getElem? (i := 1097) (by decide +kernel), List.mem_of_getElem? (i := 1575) (by decide +kernel), List.mem_of_getElem? (i := 1576) (by decide +kernel)⟩
theorem lw_p82 : lw_okq (⟨"TwoKingsModel", "isThrough", "(I)Z"⟩, 63) := ⟨⟨by decide +kernel, by decide +kernel⟩, List.mem_of_getElem? (i := 1097) (by decide +kernel), List.mem_of_getElem? (i := 1579) (by decide +kernel), List.mem_of_getElem? (i := 1580) (by decide +kernel)⟩
theorem lw_p83 : lw_okq (⟨"TwoKingsModel", "goesTo", "(II)I"⟩, 63) := ⟨⟨by decide +kernel, by decide +kernel⟩, List.mem_of_getElem? (i := 1097) (by decide +kernel), List.mem_of_getElem? (i := 1583) (by decide +kernel), List.mem_of_getElem? (i := 1584) (by decide +kernel)⟩
theorem lw_p84 : lw_okq (⟨"TwoKingsModel", "leastGifts", "(II)I"⟩, 63) := ⟨⟨by decide +kernel, by decide +kernel⟩, List.mem_of_getElem? (i := 1097) (by decide +kernel), List.mem_of_getElem? (i := 1600) (by decide +kernel), List.mem_of_getElem? (i := 1601) (by decide +kernel)⟩
theorem lw_p85 : lw_okq (⟨"TwoKingsModel", "unlike", "(III)I"⟩, 63) := ⟨⟨by decide +kernel, by decide +kernel⟩, List.mem_of_getElem? (i := 1097) (by decide +kernel), List.mem_of_getElem? (i := 1607) (by decide +kernel), List.mem_of_getElem? (i := 1608) (by decide +kernel)⟩
theorem lw_p86 : lw_okq (⟨"TwoKingsModel", "sumOf", "(II)I"⟩, 63) := ⟨⟨by decide +kernel, by decide +kernel⟩, List.mem_of_getElem? (i := 1097) (by decide +kernel), List.mem_of_getElem? (i := 1615) (by decide +kernel), List.mem_of_getElem? (i := 1616) (by decide +kernel)⟩
theorem lw_p87 : lw_okq (⟨"TwoKingsModel", "mayBeSeats", "(I)V"⟩, 63) := ⟨⟨by decide +kernel, by decide +kernel⟩, List.mem_of_getElem? (i := 1097) (by decide +kernel), List.mem_of_getElem? (i := 1623) (by decide +kernel), List.mem_of_getElem? (i := 1624) (by decide +kernel)⟩
theorem lw_p88 : lw_okq (⟨"TwoKingsModel", "wrongsNow", "(I)I"⟩, 63) := ⟨⟨by decide +kernel, by decide +kernel⟩, List.mem_of_getElem? (i := 1097) (by decide +kernel), List.mem_of_getElem? (i := 1627) (by decide +kernel), List.mem_of_getElem? (i := 1628) (by decide +kernel)⟩
theorem lw_p89 : lw_okq (⟨"TwoKingsModel", "nextSeats", "(I)Z"⟩, 63) := ⟨⟨by decide +kernel, by decide +kernel⟩, List.mem_of_getElem? (i := 1097) (by decide +kernel), List.mem_of_getElem? (i := 1631) (by decide +kernel), List.mem_of_getElem? (i := 1632) (by decide +kernel)⟩
theorem lw_p90 : lw_okq (⟨"TwoKingsModel", "changesSeats", "(II)V"⟩, 63) := ⟨⟨by decide +kernel, by decide +kernel⟩, List.mem_of_getElem? (i := 1097) (by decide +kernel), List.mem_of_getElem? (i := 1635) (by decide +kernel), List.mem_of_getElem? (i := 1636) (by decide +kernel)⟩
def lw_privs_6 : List (MethodName × Nat) := [(⟨"TwoKingsModel", "searches", "(II)I"⟩, 63), (⟨"TwoKingsModel", "unfolds", "(II)V"⟩, 63), (⟨"TwoKingsModel", "isThrough", "(I)Z"⟩, 63), (⟨"TwoKingsModel", "goesTo", "(II)I"⟩, 63), (⟨"TwoKingsModel", "leastGifts", "(II)I"⟩, 63), (⟨"TwoKingsModel", "unlike", "(III)I"⟩, 63), (⟨"TwoKingsModel", "sumOf", "(II)I"⟩, 63), (⟨"TwoKingsModel", "mayBeSeats", "(I)V"⟩, 63), (⟨"TwoKingsModel", "wrongsNow", "(I)I"⟩, 63), (⟨"TwoKingsModel", "nextSeats", "(I)Z"⟩, 63), (⟨"TwoKingsModel", "changesSeats", "(II)V"⟩, 63)]
theorem lw_r6 : ∀ q ∈ lw_privs_6, lw_okq q := List.forall_mem_cons.mpr ⟨lw_p80, List.forall_mem_cons.mpr ⟨lw_p81, List.forall_mem_cons.mpr ⟨lw_p82, List.forall_mem_cons.mpr ⟨lw_p83, List.forall_mem_cons.mpr ⟨lw_p84, List.forall_mem_cons.mpr ⟨lw_p85, List.forall_mem_cons.mpr ⟨lw_p86, List.forall_mem_cons.mpr ⟨lw_p87, List.forall_mem_cons.mpr ⟨lw_p88, List.forall_mem_cons.mpr ⟨lw_p89, List.forall_mem_cons.mpr ⟨lw_p90, fun _ h => absurd h List.not_mem_nil⟩⟩⟩⟩⟩⟩⟩⟩⟩⟩⟩
def lw_privs : List (MethodName × Nat) := lw_privs_1 ++ (lw_privs_2 ++ (lw_privs_3 ++ (lw_privs_4 ++ (lw_privs_5 ++ (lw_privs_6)))))
def lw_tbl : List Cond := k2_sels lw_privs ++ tables_1
theorem lw_privs_ok : ∀ q ∈ lw_privs, lw_okq q := by
  show ∀ q ∈ lw_privs_1 ++ (lw_privs_2 ++ (lw_privs_3 ++ (lw_privs_4 ++ (lw_privs_5 ++ (lw_privs_6))))), lw_okq q
  exact List.forall_mem_append.mpr ⟨lw_r1, List.forall_mem_append.mpr ⟨lw_r2, List.forall_mem_append.mpr ⟨lw_r3, List.forall_mem_append.mpr ⟨lw_r4, List.forall_mem_append.mpr ⟨lw_r5, lw_r6⟩⟩⟩⟩⟩
end
section
def RX0 : String := "TwoKings$Ceremonies"
def TX0 : u_T := fun k => match k with
  | 0 => ("TwoKings$Ceremonies", "tape", "LTwoKings$Tape;", true)
  | 1 => ("TwoKings$Ceremonies", "mine", "[I", true)
  | 2 => ("TwoKings$Ceremonies", "yours", "[I", true)
  | 3 => ("TwoKings$Ceremonies", "pileHeight", "[I", true)
  | 4 => ("TwoKings$Ceremonies", "readBy", "[[I", true)
  | 5 => ("TwoKings$Ceremonies", "seats", "[I", true)
  | 6 => ("TwoKings$Ceremonies", "leastSeats", "[I", true)
  | 7 => ("TwoKings$Ceremonies", "ways", "[J", true)
  | 8 => ("TwoKings$Ceremonies", "best", "I", false)
  | 9 => ("TwoKings$Ceremonies", "second", "I", false)
  | _ => ("TwoKings$Ceremonies", "third", "I", false)
def tyX0 : Nat → FieldType := fun k => match k with
  | 0 => .object "TwoKings$Tape"
  | 1 => .array .int
  | 2 => .array .int
  | 3 => .array .int
  | 4 => .array (.array .int)
  | 5 => .array .int
  | 6 => .array .int
  | 7 => .array .long
  | 8 => .int
  | 9 => .int
  | _ => .int
theorem nmX0 : ∀ a, a < 11 → ∀ b, b < 11 → a ≠ b → (TX0 a).2.1 ≠ (TX0 b).2.1 := by decide +kernel
theorem tyX0_ok : ∀ k, k < 11 → parseFieldDescriptor (TX0 k).2.2.1 = some (tyX0 k) := by decide +kernel
abbrev cX0_init : ByteArray := prog_2_method_1_code
def yX0_init : MethodName := ⟨RX0, "<init>", "(LTwoKings$Tape;)V"⟩
abbrev cX0_allWithin : ByteArray := prog_2_method_2_code
def yX0_allWithin : MethodName := ⟨RX0, "allWithin", "(III)Z"⟩
abbrev cX0_sign : ByteArray := prog_2_method_3_code
def yX0_sign : MethodName := ⟨RX0, "sign", "(I)V"⟩
abbrev cX0_readTitles : ByteArray := prog_2_method_4_code
def yX0_readTitles : MethodName := ⟨RX0, "readTitles", "(II)V"⟩
abbrev cX0_openGifts : ByteArray := prog_2_method_5_code
def yX0_openGifts : MethodName := ⟨RX0, "openGifts", "(I)V"⟩
abbrev cX0_sortInto : ByteArray := prog_2_method_6_code
def yX0_sortInto : MethodName := ⟨RX0, "sortInto", "([III)V"⟩
abbrev cX0_pile : ByteArray := prog_2_method_7_code
def yX0_pile : MethodName := ⟨RX0, "pile", "(III)V"⟩
abbrev cX0_leastPile : ByteArray := prog_2_method_8_code
def yX0_leastPile : MethodName := ⟨RX0, "leastPile", "(II)I"⟩
abbrev cX0_seatAll : ByteArray := prog_2_method_9_code
def yX0_seatAll : MethodName := ⟨RX0, "seatAll", "(I)V"⟩
abbrev cX0_seatedBehind : ByteArray := prog_2_method_10_code
def yX0_seatedBehind : MethodName := ⟨RX0, "seatedBehind", "(I)I"⟩
abbrev cX0_seatedBadly : ByteArray := prog_2_method_11_code
def yX0_seatedBadly : MethodName := ⟨RX0, "seatedBadly", "(I)I"⟩
abbrev cX0_goesToNextRow : ByteArray := prog_2_method_12_code
def yX0_goesToNextRow : MethodName := ⟨RX0, "goesToNextRow", "(I)Z"⟩
abbrev cX0_swapSeats : ByteArray := prog_2_method_13_code
def yX0_swapSeats : MethodName := ⟨RX0, "swapSeats", "(II)V"⟩
abbrev cX0_cut : ByteArray := prog_2_method_14_code
def yX0_cut : MethodName := ⟨RX0, "cut", "(I)V"⟩
abbrev cX0_climb : ByteArray := prog_2_method_15_code
def yX0_climb : MethodName := ⟨RX0, "climb", "(III)J"⟩
abbrev cX0_waysTo : ByteArray := prog_2_method_16_code
def yX0_waysTo : MethodName := ⟨RX0, "waysTo", "(I)J"⟩
def RX1 : String := "TwoKings$King"
def TX1 : u_T := fun k => match k with
  | 0 => ("TwoKings$King", "stepsLeft", "I", false)
  | 1 => ("TwoKings$King", "bow", "I", false)
  | 2 => ("TwoKings$King", "offence", "I", false)
  | 3 => ("TwoKings$King", "hatOn", "Z", false)
  | 4 => ("TwoKings$King", "limps", "Z", false)
  | 5 => ("TwoKings$King", "hasLeft", "Z", false)
  | 6 => ("TwoKings$King", "forward", "I", false)
  | 7 => ("TwoKings$King", "deeper", "I", false)
  | 8 => ("TwoKings$King", "higher", "I", false)
  | 9 => ("TwoKings$King", "hatOnNext", "Z", false)
  | _ => ("TwoKings$King", "leavesNext", "Z", false)
def tyX1 : Nat → FieldType := fun k => match k with
  | 0 => .int
  | 1 => .int
  | 2 => .int
  | 3 => .boolean
  | 4 => .boolean
  | 5 => .boolean
  | 6 => .int
  | 7 => .int
  | 8 => .int
  | 9 => .boolean
  | _ => .boolean
theorem nmX1 : ∀ a, a < 11 → ∀ b, b < 11 → a ≠ b → (TX1 a).2.1 ≠ (TX1 b).2.1 := by decide +kernel
theorem tyX1_ok : ∀ k, k < 11 → parseFieldDescriptor (TX1 k).2.2.1 = some (tyX1 k) := by decide +kernel
abbrev cX1_init : ByteArray := prog_3_method_1_code
def yX1_init : MethodName := ⟨RX1, "<init>", "()V"⟩
abbrev cX1_begin : ByteArray := prog_3_method_2_code
def yX1_begin : MethodName := ⟨RX1, "begin", "(IZ)V"⟩
abbrev cX1_become : ByteArray := prog_3_method_3_code
def yX1_become : MethodName := ⟨RX1, "become", "(LTwoKings$King;)V"⟩
abbrev cX1_ask : ByteArray := prog_3_method_4_code
def yX1_ask : MethodName := ⟨RX1, "ask", "(LTwoKings$Law;)V"⟩
abbrev cX1_goForward : ByteArray := prog_3_method_5_code
def yX1_goForward : MethodName := ⟨RX1, "goForward", "(I)V"⟩
abbrev cX1_appease : ByteArray := prog_3_method_6_code
def yX1_appease : MethodName := ⟨RX1, "appease", "(I)V"⟩
abbrev cX1_move : ByteArray := prog_3_method_7_code
def yX1_move : MethodName := ⟨RX1, "move", "()V"⟩
abbrev cX1_takeOffence : ByteArray := prog_3_method_8_code
def yX1_takeOffence : MethodName := ⟨RX1, "takeOffence", "(LTwoKings$King;II)V"⟩
def RX2 : String := "TwoKings$Lane"
def TX2 : u_T := fun k => match k with
  | 0 => ("TwoKings$Lane", "queue", "[I", true)
  | 1 => ("TwoKings$Lane", "known", "[I", true)
  | 2 => ("TwoKings$Lane", "row", "[I", true)
  | 3 => ("TwoKings$Lane", "places", "I", false)
  | 4 => ("TwoKings$Lane", "tail", "I", false)
  | 5 => ("TwoKings$Lane", "moves", "I", false)
  | _ => ("TwoKings$Lane", "firstPlace", "I", false)
def tyX2 : Nat → FieldType := fun k => match k with
  | 0 => .array .int
  | 1 => .array .int
  | 2 => .array .int
  | 3 => .int
  | 4 => .int
  | 5 => .int
  | _ => .int
theorem nmX2 : ∀ a, a < 7 → ∀ b, b < 7 → a ≠ b → (TX2 a).2.1 ≠ (TX2 b).2.1 := by decide +kernel
theorem tyX2_ok : ∀ k, k < 7 → parseFieldDescriptor (TX2 k).2.2.1 = some (tyX2 k) := by decide +kernel
abbrev cX2_init : ByteArray := prog_4_method_1_code
def yX2_init : MethodName := ⟨RX2, "<init>", "()V"⟩
abbrev cX2_readFrom : ByteArray := prog_4_method_2_code
def yX2_readFrom : MethodName := ⟨RX2, "readFrom", "(LTwoKings$Tape;I)I"⟩
abbrev cX2_canPass : ByteArray := prog_4_method_3_code
def yX2_canPass : MethodName := ⟨RX2, "canPass", "()Z"⟩
abbrev cX2_addMoves : ByteArray := prog_4_method_4_code
def yX2_addMoves : MethodName := ⟨RX2, "addMoves", "(II)V"⟩
abbrev cX2_add : ByteArray := prog_4_method_5_code
def yX2_add : MethodName := ⟨RX2, "add", "(II)V"⟩
abbrev cX2_allHavePassed : ByteArray := prog_4_method_6_code
def yX2_allHavePassed : MethodName := ⟨RX2, "allHavePassed", "()Z"⟩
abbrev cX2_landing : ByteArray := prog_4_method_7_code
def yX2_landing : MethodName := ⟨RX2, "landing", "(I)I"⟩
abbrev cX2_standsAt : ByteArray := prog_4_method_8_code
def yX2_standsAt : MethodName := ⟨RX2, "standsAt", "(I)I"⟩
abbrev cX2_packed : ByteArray := prog_4_method_9_code
def yX2_packed : MethodName := ⟨RX2, "packed", "()I"⟩
abbrev cX2_unpack : ByteArray := prog_4_method_10_code
def yX2_unpack : MethodName := ⟨RX2, "unpack", "(I)V"⟩
def RX3 : String := "TwoKings$Law"
def TX3 : u_T := fun k => match k with
  | 0 => ("TwoKings$Law", "code", "[I", true)
  | 1 => ("TwoKings$Law", "letters", "[I", true)
  | 2 => ("TwoKings$Law", "amountAt", "[I", true)
  | 3 => ("TwoKings$Law", "testAt", "[I", true)
  | 4 => ("TwoKings$Law", "stack", "[I", true)
  | 5 => ("TwoKings$Law", "seen", "[I", true)
  | 6 => ("TwoKings$Law", "size", "I", false)
  | _ => ("TwoKings$Law", "rules", "I", false)
def tyX3 : Nat → FieldType := fun k => match k with
  | 0 => .array .int
  | 1 => .array .int
  | 2 => .array .int
  | 3 => .array .int
  | 4 => .array .int
  | 5 => .array .int
  | 6 => .int
  | _ => .int
theorem nmX3 : ∀ a, a < 8 → ∀ b, b < 8 → a ≠ b → (TX3 a).2.1 ≠ (TX3 b).2.1 := by decide +kernel
theorem tyX3_ok : ∀ k, k < 8 → parseFieldDescriptor (TX3 k).2.2.1 = some (tyX3 k) := by decide +kernel
abbrev cX3_init : ByteArray := prog_5_method_1_code
def yX3_init : MethodName := ⟨RX3, "<init>", "()V"⟩
abbrev cX3_clear : ByteArray := prog_5_method_2_code
def yX3_clear : MethodName := ⟨RX3, "clear", "()V"⟩
abbrev cX3_become : ByteArray := prog_5_method_3_code
def yX3_become : MethodName := ⟨RX3, "become", "(LTwoKings$Law;)V"⟩
abbrev cX3_beginRule : ByteArray := prog_5_method_4_code
def yX3_beginRule : MethodName := ⟨RX3, "beginRule", "(I)V"⟩
abbrev cX3_beginTest : ByteArray := prog_5_method_5_code
def yX3_beginTest : MethodName := ⟨RX3, "beginTest", "()V"⟩
abbrev cX3_put : ByteArray := prog_5_method_6_code
def yX3_put : MethodName := ⟨RX3, "put", "(II)I"⟩
abbrev cX3_letGoOnHere : ByteArray := prog_5_method_7_code
def yX3_letGoOnHere : MethodName := ⟨RX3, "letGoOnHere", "(I)V"⟩
abbrev cX3_lookAt : ByteArray := prog_5_method_8_code
def yX3_lookAt : MethodName := ⟨RX3, "lookAt", "(ILTwoKings$King;LTwoKings$King;II)V"⟩
abbrev cX3_amountOf : ByteArray := prog_5_method_9_code
def yX3_amountOf : MethodName := ⟨RX3, "amountOf", "(II)I"⟩
abbrev cX3_anyHolds : ByteArray := prog_5_method_10_code
def yX3_anyHolds : MethodName := ⟨RX3, "anyHolds", "(I)Z"⟩
abbrev cX3_speaksOf : ByteArray := prog_5_method_11_code
def yX3_speaksOf : MethodName := ⟨RX3, "speaksOf", "(I)Z"⟩
abbrev cX3_reckon : ByteArray := prog_5_method_12_code
def yX3_reckon : MethodName := ⟨RX3, "reckon", "(I)I"⟩
abbrev cX3_seenAt : ByteArray := prog_5_method_13_code
def yX3_seenAt : MethodName := ⟨RX3, "seenAt", "(I)I"⟩
abbrev cX3_isRefused : ByteArray := prog_5_method_14_code
def yX3_isRefused : MethodName := ⟨RX3, "isRefused", "(II)Z"⟩
abbrev cX3_join : ByteArray := prog_5_method_15_code
def yX3_join : MethodName := ⟨RX3, "join", "(III)I"⟩
def RX4 : String := "TwoKings$LawReader"
def TX4 : u_T := fun k => match k with
  | 0 => ("TwoKings$Reader", "tape", "LTwoKings$Tape;", true)
  | 1 => ("TwoKings$Reader", "end", "I", false)
  | 2 => ("TwoKings$Reader", "fault", "I", false)
  | 3 => ("TwoKings$Reader", "at", "I", false)
  | 4 => ("TwoKings$Reader", "value", "I", false)
  | 5 => ("TwoKings$LawReader", "draft", "LTwoKings$Law;", true)
  | _ => ("TwoKings$LawReader", "open", "I", false)
def tyX4 : Nat → FieldType := fun k => match k with
  | 0 => .object "TwoKings$Tape"
  | 1 => .int
  | 2 => .int
  | 3 => .int
  | 4 => .int
  | 5 => .object "TwoKings$Law"
  | _ => .int
theorem nmX4 : ∀ a, a < 7 → ∀ b, b < 7 → a ≠ b → (TX4 a).2.1 ≠ (TX4 b).2.1 := by decide +kernel
theorem tyX4_ok : ∀ k, k < 7 → parseFieldDescriptor (TX4 k).2.2.1 = some (tyX4 k) := by decide +kernel
abbrev cX4_init : ByteArray := prog_6_method_1_code
def yX4_init : MethodName := ⟨RX4, "<init>", "(LTwoKings$Tape;)V"⟩
abbrev cX4_readLine : ByteArray := prog_6_method_2_code
def yX4_readLine : MethodName := ⟨RX4, "readLine", "(I)Z"⟩
abbrev cX4_readGroup : ByteArray := prog_6_method_3_code
def yX4_readGroup : MethodName := ⟨RX4, "readGroup", "()Z"⟩
abbrev cX4_readChoice : ByteArray := prog_6_method_4_code
def yX4_readChoice : MethodName := ⟨RX4, "readChoice", "()Z"⟩
abbrev cX4_readPart : ByteArray := prog_6_method_5_code
def yX4_readPart : MethodName := ⟨RX4, "readPart", "()Z"⟩
abbrev cX4_readTest : ByteArray := prog_6_method_6_code
def yX4_readTest : MethodName := ⟨RX4, "readTest", "()Z"⟩
abbrev cX4_readNot : ByteArray := prog_6_method_7_code
def yX4_readNot : MethodName := ⟨RX4, "readNot", "()Z"⟩
abbrev cX4_readSum : ByteArray := prog_6_method_8_code
def yX4_readSum : MethodName := ⟨RX4, "readSum", "()Z"⟩
abbrev cX4_readTerm : ByteArray := prog_6_method_9_code
def yX4_readTerm : MethodName := ⟨RX4, "readTerm", "()Z"⟩
abbrev cX4_readFactor : ByteArray := prog_6_method_10_code
def yX4_readFactor : MethodName := ⟨RX4, "readFactor", "()Z"⟩
abbrev cX4_readBracket : ByteArray := prog_6_method_11_code
def yX4_readBracket : MethodName := ⟨RX4, "readBracket", "()Z"⟩
abbrev cX4_opens : ByteArray := prog_6_method_12_code
def yX4_opens : MethodName := ⟨RX4, "opens", "()Z"⟩
def RX5 : String := "TwoKings$Meeting"
def TX5 : u_T := fun k => match k with
  | 0 => ("TwoKings$Meeting", "first", "LTwoKings$King;", true)
  | 1 => ("TwoKings$Meeting", "other", "LTwoKings$King;", true)
  | 2 => ("TwoKings$Meeting", "breath", "I", false)
  | _ => ("TwoKings$Meeting", "x", "I", false)
def tyX5 : Nat → FieldType := fun k => match k with
  | 0 => .object "TwoKings$King"
  | 1 => .object "TwoKings$King"
  | 2 => .int
  | _ => .int
theorem nmX5 : ∀ a, a < 4 → ∀ b, b < 4 → a ≠ b → (TX5 a).2.1 ≠ (TX5 b).2.1 := by decide +kernel
theorem tyX5_ok : ∀ k, k < 4 → parseFieldDescriptor (TX5 k).2.2.1 = some (tyX5 k) := by decide +kernel
abbrev cX5_init : ByteArray := prog_7_method_1_code
def yX5_init : MethodName := ⟨RX5, "<init>", "()V"⟩
abbrev cX5_kingOf : ByteArray := prog_7_method_2_code
def yX5_kingOf : MethodName := ⟨RX5, "kingOf", "(I)LTwoKings$King;"⟩
abbrev cX5_become : ByteArray := prog_7_method_3_code
def yX5_become : MethodName := ⟨RX5, "become", "(LTwoKings$Meeting;)V"⟩
abbrev cX5_whoArrived : ByteArray := prog_7_method_4_code
def yX5_whoArrived : MethodName := ⟨RX5, "whoArrived", "()I"⟩
abbrev cX5_haveMet : ByteArray := prog_7_method_5_code
def yX5_haveMet : MethodName := ⟨RX5, "haveMet", "()Z"⟩
abbrev cX5_whoLeft : ByteArray := prog_7_method_6_code
def yX5_whoLeft : MethodName := ⟨RX5, "whoLeft", "()I"⟩
abbrev cX5_lead : ByteArray := prog_7_method_7_code
def yX5_lead : MethodName := ⟨RX5, "lead", "()I"⟩
abbrev cX5_whoIsNearer : ByteArray := prog_7_method_8_code
def yX5_whoIsNearer : MethodName := ⟨RX5, "whoIsNearer", "()I"⟩
abbrev cX5_breathe : ByteArray := prog_7_method_9_code
def yX5_breathe : MethodName := ⟨RX5, "breathe", "(LTwoKings$Law;II)Z"⟩
abbrev cX5_draw : ByteArray := prog_7_method_10_code
def yX5_draw : MethodName := ⟨RX5, "draw", "()I"⟩
def RX6 : String := "TwoKings$OrdersReader"
def TX6 : u_T := fun k => match k with
  | 0 => ("TwoKings$Reader", "tape", "LTwoKings$Tape;", true)
  | 1 => ("TwoKings$Reader", "end", "I", false)
  | 2 => ("TwoKings$Reader", "fault", "I", false)
  | 3 => ("TwoKings$Reader", "at", "I", false)
  | 4 => ("TwoKings$Reader", "value", "I", false)
  | 5 => ("TwoKings$OrdersReader", "whom", "[I", true)
  | 6 => ("TwoKings$OrdersReader", "what", "[I", true)
  | _ => ("TwoKings$OrdersReader", "much", "[I", true)
def tyX6 : Nat → FieldType := fun k => match k with
  | 0 => .object "TwoKings$Tape"
  | 1 => .int
  | 2 => .int
  | 3 => .int
  | 4 => .int
  | 5 => .array .int
  | 6 => .array .int
  | _ => .array .int
theorem nmX6 : ∀ a, a < 8 → ∀ b, b < 8 → a ≠ b → (TX6 a).2.1 ≠ (TX6 b).2.1 := by decide +kernel
theorem tyX6_ok : ∀ k, k < 8 → parseFieldDescriptor (TX6 k).2.2.1 = some (tyX6 k) := by decide +kernel
abbrev cX6_init : ByteArray := prog_8_method_1_code
def yX6_init : MethodName := ⟨RX6, "<init>", "(LTwoKings$Tape;)V"⟩
abbrev cX6_readLine : ByteArray := prog_8_method_2_code
def yX6_readLine : MethodName := ⟨RX6, "readLine", "(I)Z"⟩
abbrev cX6_obey : ByteArray := prog_8_method_3_code
def yX6_obey : MethodName := ⟨RX6, "obey", "(LTwoKings$Meeting;I)V"⟩
abbrev cX6_obeyLine : ByteArray := prog_8_method_4_code
def yX6_obeyLine : MethodName := ⟨RX6, "obeyLine", "(ILTwoKings$King;)V"⟩
def RX7 : String := "TwoKings$Reader"
def TX7 : u_T := fun k => match k with
  | _ => ("", "", "", false)
def tyX7 : Nat → FieldType := fun k => match k with
  | _ => .int
theorem nmX7 : ∀ a, a < 0 → ∀ b, b < 0 → a ≠ b → (TX7 a).2.1 ≠ (TX7 b).2.1 := by decide +kernel
theorem tyX7_ok : ∀ k, k < 0 → parseFieldDescriptor (TX7 k).2.2.1 = some (tyX7 k) := by decide +kernel
abbrev cX7_init : ByteArray := prog_9_method_1_code
def yX7_init : MethodName := ⟨RX7, "<init>", "(LTwoKings$Tape;)V"⟩
abbrev cX7_readText : ByteArray := prog_9_method_3_code
def yX7_readText : MethodName := ⟨RX7, "readText", "(I)I"⟩
abbrev cX7_isOn : ByteArray := prog_9_method_4_code
def yX7_isOn : MethodName := ⟨RX7, "isOn", "(Ljava/lang/String;)Z"⟩
abbrev cX7_takes : ByteArray := prog_9_method_5_code
def yX7_takes : MethodName := ⟨RX7, "takes", "(Ljava/lang/String;)Z"⟩
abbrev cX7_readNumber : ByteArray := prog_9_method_6_code
def yX7_readNumber : MethodName := ⟨RX7, "readNumber", "(I)Z"⟩
abbrev cX7_cannotStand : ByteArray := prog_9_method_7_code
def yX7_cannotStand : MethodName := ⟨RX7, "cannotStand", "()Z"⟩
abbrev cX7_fails : ByteArray := prog_9_method_8_code
def yX7_fails : MethodName := ⟨RX7, "fails", "(II)Z"⟩
def RX8 : String := "TwoKings$Tape"
def TX8 : u_T := fun k => match k with
  | 0 => ("TwoKings$Tape", "bytes", "[I", true)
  | _ => ("TwoKings$Tape", "size", "I", false)
def tyX8 : Nat → FieldType := fun k => match k with
  | 0 => .array .int
  | _ => .int
theorem nmX8 : ∀ a, a < 2 → ∀ b, b < 2 → a ≠ b → (TX8 a).2.1 ≠ (TX8 b).2.1 := by decide +kernel
theorem tyX8_ok : ∀ k, k < 2 → parseFieldDescriptor (TX8 k).2.2.1 = some (tyX8 k) := by decide +kernel
abbrev cX8_init : ByteArray := prog_10_method_1_code
def yX8_init : MethodName := ⟨RX8, "<init>", "()V"⟩
abbrev cX8_has : ByteArray := prog_10_method_2_code
def yX8_has : MethodName := ⟨RX8, "has", "(I)Z"⟩
abbrev cX8_append : ByteArray := prog_10_method_3_code
def yX8_append : MethodName := ⟨RX8, "append", "(I)V"⟩
abbrev cX8_byteAt : ByteArray := prog_10_method_4_code
def yX8_byteAt : MethodName := ⟨RX8, "byteAt", "(I)I"⟩
abbrev cX8_clear : ByteArray := prog_10_method_5_code
def yX8_clear : MethodName := ⟨RX8, "clear", "()V"⟩
def RX9 : String := "TwoKings$Treaty"
def TX9 : u_T := fun k => match k with
  | 0 => ("TwoKings$Treaty", "atOnce", "[I", true)
  | 1 => ("TwoKings$Treaty", "ahead", "[I", true)
  | 2 => ("TwoKings$Treaty", "moment", "[I", true)
  | 3 => ("TwoKings$Treaty", "lines", "I", false)
  | 4 => ("TwoKings$Treaty", "named", "I", false)
  | _ => ("TwoKings$Treaty", "contradiction", "I", false)
def tyX9 : Nat → FieldType := fun k => match k with
  | 0 => .array .int
  | 1 => .array .int
  | 2 => .array .int
  | 3 => .int
  | 4 => .int
  | _ => .int
theorem nmX9 : ∀ a, a < 6 → ∀ b, b < 6 → a ≠ b → (TX9 a).2.1 ≠ (TX9 b).2.1 := by decide +kernel
theorem tyX9_ok : ∀ k, k < 6 → parseFieldDescriptor (TX9 k).2.2.1 = some (tyX9 k) := by decide +kernel
abbrev cX9_init : ByteArray := prog_11_method_1_code
def yX9_init : MethodName := ⟨RX9, "<init>", "()V"⟩
abbrev cX9_become : ByteArray := prog_11_method_2_code
def yX9_become : MethodName := ⟨RX9, "become", "(LTwoKings$TreatyReader;I)V"⟩
abbrev cX9_names : ByteArray := prog_11_method_3_code
def yX9_names : MethodName := ⟨RX9, "names", "(I)Z"⟩
abbrev cX9_atOnceWith : ByteArray := prog_11_method_4_code
def yX9_atOnceWith : MethodName := ⟨RX9, "atOnceWith", "(I)I"⟩
abbrev cX9_aheadOf : ByteArray := prog_11_method_5_code
def yX9_aheadOf : MethodName := ⟨RX9, "aheadOf", "(I)I"⟩
abbrev cX9_momentOf : ByteArray := prog_11_method_6_code
def yX9_momentOf : MethodName := ⟨RX9, "momentOf", "(I)I"⟩
abbrev cX9_lastMoment : ByteArray := prog_11_method_7_code
def yX9_lastMoment : MethodName := ⟨RX9, "lastMoment", "()I"⟩
abbrev cX9_agrees : ByteArray := prog_11_method_8_code
def yX9_agrees : MethodName := ⟨RX9, "agrees", "(III)Z"⟩
abbrev cX9_joinActs : ByteArray := prog_11_method_9_code
def yX9_joinActs : MethodName := ⟨RX9, "joinActs", "(II)V"⟩
abbrev cX9_shareAhead : ByteArray := prog_11_method_10_code
def yX9_shareAhead : MethodName := ⟨RX9, "shareAhead", "()V"⟩
abbrev cX9_closeAhead : ByteArray := prog_11_method_11_code
def yX9_closeAhead : MethodName := ⟨RX9, "closeAhead", "()V"⟩
abbrev cX9_findMoments : ByteArray := prog_11_method_12_code
def yX9_findMoments : MethodName := ⟨RX9, "findMoments", "()V"⟩
abbrev cX9_momentBehind : ByteArray := prog_11_method_13_code
def yX9_momentBehind : MethodName := ⟨RX9, "momentBehind", "(I)I"⟩
def RX10 : String := "TwoKings$TreatyReader"
def TX10 : u_T := fun k => match k with
  | 0 => ("TwoKings$Reader", "tape", "LTwoKings$Tape;", true)
  | 1 => ("TwoKings$Reader", "end", "I", false)
  | 2 => ("TwoKings$Reader", "fault", "I", false)
  | 3 => ("TwoKings$Reader", "at", "I", false)
  | 4 => ("TwoKings$Reader", "value", "I", false)
  | 5 => ("TwoKings$TreatyReader", "left", "[I", true)
  | 6 => ("TwoKings$TreatyReader", "sign", "[I", true)
  | _ => ("TwoKings$TreatyReader", "right", "[I", true)
def tyX10 : Nat → FieldType := fun k => match k with
  | 0 => .object "TwoKings$Tape"
  | 1 => .int
  | 2 => .int
  | 3 => .int
  | 4 => .int
  | 5 => .array .int
  | 6 => .array .int
  | _ => .array .int
theorem nmX10 : ∀ a, a < 8 → ∀ b, b < 8 → a ≠ b → (TX10 a).2.1 ≠ (TX10 b).2.1 := by decide +kernel
theorem tyX10_ok : ∀ k, k < 8 → parseFieldDescriptor (TX10 k).2.2.1 = some (tyX10 k) := by decide +kernel
abbrev cX10_init : ByteArray := prog_12_method_1_code
def yX10_init : MethodName := ⟨RX10, "<init>", "(LTwoKings$Tape;)V"⟩
abbrev cX10_readLine : ByteArray := prog_12_method_2_code
def yX10_readLine : MethodName := ⟨RX10, "readLine", "(I)Z"⟩
def RX11 : String := "TwoKings"
def TX11 : u_T := fun k => match k with
  | 0 => ("TwoKings", "tape", "LTwoKings$Tape;", true)
  | 1 => ("TwoKings", "law", "LTwoKings$Law;", true)
  | 2 => ("TwoKings", "lawReader", "LTwoKings$LawReader;", true)
  | 3 => ("TwoKings", "ordersReader", "LTwoKings$OrdersReader;", true)
  | 4 => ("TwoKings", "treaty", "LTwoKings$Treaty;", true)
  | 5 => ("TwoKings", "treatyReader", "LTwoKings$TreatyReader;", true)
  | 6 => ("TwoKings", "now", "LTwoKings$Meeting;", true)
  | 7 => ("TwoKings", "trial", "LTwoKings$Meeting;", true)
  | 8 => ("TwoKings", "kept", "LTwoKings$Meeting;", true)
  | 9 => ("TwoKings", "mules", "LTwoKings$Lane;", true)
  | 10 => ("TwoKings", "ceremonies", "LTwoKings$Ceremonies;", true)
  | 11 => ("TwoKings", "hasKept", "Z", false)
  | 12 => ("TwoKings", "stepTolerance", "I", false)
  | _ => ("TwoKings", "bowTolerance", "I", false)
def tyX11 : Nat → FieldType := fun k => match k with
  | 0 => .object "TwoKings$Tape"
  | 1 => .object "TwoKings$Law"
  | 2 => .object "TwoKings$LawReader"
  | 3 => .object "TwoKings$OrdersReader"
  | 4 => .object "TwoKings$Treaty"
  | 5 => .object "TwoKings$TreatyReader"
  | 6 => .object "TwoKings$Meeting"
  | 7 => .object "TwoKings$Meeting"
  | 8 => .object "TwoKings$Meeting"
  | 9 => .object "TwoKings$Lane"
  | 10 => .object "TwoKings$Ceremonies"
  | 11 => .boolean
  | 12 => .int
  | _ => .int
theorem nmX11 : ∀ a, a < 14 → ∀ b, b < 14 → a ≠ b → (TX11 a).2.1 ≠ (TX11 b).2.1 := by decide +kernel
theorem tyX11_ok : ∀ k, k < 14 → parseFieldDescriptor (TX11 k).2.2.1 = some (tyX11 k) := by decide +kernel
abbrev cX11_init : ByteArray := prog_1_method_1_code
def yX11_init : MethodName := ⟨RX11, "<init>", "()V"⟩
abbrev cX11_king : ByteArray := prog_1_method_2_code
def yX11_king : MethodName := ⟨RX11, "king", "(IIZ)Z"⟩
abbrev cX11_tolerance : ByteArray := prog_1_method_3_code
def yX11_tolerance : MethodName := ⟨RX11, "tolerance", "(II)Z"⟩
abbrev cX11_feed : ByteArray := prog_1_method_4_code
def yX11_feed : MethodName := ⟨RX11, "feed", "(IIIII)I"⟩
abbrev cX11_law : ByteArray := prog_1_method_5_code
def yX11_law : MethodName := ⟨RX11, "law", "(I)I"⟩
abbrev cX11_orders : ByteArray := prog_1_method_6_code
def yX11_orders : MethodName := ⟨RX11, "orders", "(I)I"⟩
abbrev cX11_treaty : ByteArray := prog_1_method_7_code
def yX11_treaty : MethodName := ⟨RX11, "treaty", "(I)I"⟩
abbrev cX11_breaths : ByteArray := prog_1_method_8_code
def yX11_breaths : MethodName := ⟨RX11, "breaths", "(I)I"⟩
abbrev cX11_tried : ByteArray := prog_1_method_9_code
def yX11_tried : MethodName := ⟨RX11, "tried", "(II)I"⟩
abbrev cX11_kingIs : ByteArray := prog_1_method_10_code
def yX11_kingIs : MethodName := ⟨RX11, "kingIs", "(II)I"⟩
abbrev cX11_meet : ByteArray := prog_1_method_11_code
def yX11_meet : MethodName := ⟨RX11, "meet", "(II)I"⟩
abbrev cX11_leaves : ByteArray := prog_1_method_12_code
def yX11_leaves : MethodName := ⟨RX11, "leaves", "(II)I"⟩
abbrev cX11_worst : ByteArray := prog_1_method_13_code
def yX11_worst : MethodName := ⟨RX11, "worst", "(I)I"⟩
abbrev cX11_nearer : ByteArray := prog_1_method_14_code
def yX11_nearer : MethodName := ⟨RX11, "nearer", "(II)I"⟩
abbrev cX11_moments : ByteArray := prog_1_method_15_code
def yX11_moments : MethodName := ⟨RX11, "moments", "(I)I"⟩
abbrev cX11_act : ByteArray := prog_1_method_16_code
def yX11_act : MethodName := ⟨RX11, "act", "(II)I"⟩
abbrev cX11_lane : ByteArray := prog_1_method_17_code
def yX11_lane : MethodName := ⟨RX11, "lane", "(II)I"⟩
abbrev cX11_signing : ByteArray := prog_1_method_18_code
def yX11_signing : MethodName := ⟨RX11, "signing", "(II)I"⟩
abbrev cX11_titles : ByteArray := prog_1_method_19_code
def yX11_titles : MethodName := ⟨RX11, "titles", "(III)I"⟩
abbrev cX11_gifts : ByteArray := prog_1_method_20_code
def yX11_gifts : MethodName := ⟨RX11, "gifts", "(II)I"⟩
abbrev cX11_cushions : ByteArray := prog_1_method_21_code
def yX11_cushions : MethodName := ⟨RX11, "cushions", "(IIII)I"⟩
abbrev cX11_table : ByteArray := prog_1_method_22_code
def yX11_table : MethodName := ⟨RX11, "table", "(II)I"⟩
abbrev cX11_drums : ByteArray := prog_1_method_23_code
def yX11_drums : MethodName := ⟨RX11, "drums", "(IIII)I"⟩
abbrev cX11_tent : ByteArray := prog_1_method_24_code
def yX11_tent : MethodName := ⟨RX11, "tent", "(II)I"⟩
abbrev cX11_stairs : ByteArray := prog_1_method_25_code
def yX11_stairs : MethodName := ⟨RX11, "stairs", "(III)J"⟩
abbrev cX11_heralds : ByteArray := prog_1_method_26_code
def yX11_heralds : MethodName := ⟨RX11, "heralds", "(II)I"⟩
abbrev cX11_seed : ByteArray := prog_1_method_27_code
def yX11_seed : MethodName := ⟨RX11, "seed", "(I)Z"⟩
abbrev cX11_keep : ByteArray := prog_1_method_28_code
def yX11_keep : MethodName := ⟨RX11, "keep", "()I"⟩
abbrev cX11_undo : ByteArray := prog_1_method_29_code
def yX11_undo : MethodName := ⟨RX11, "undo", "()Z"⟩
abbrev cX11_check : ByteArray := prog_1_method_30_code
def yX11_check : MethodName := ⟨RX11, "check", "()I"⟩
abbrev cX11_count : ByteArray := prog_1_method_31_code
def yX11_count : MethodName := ⟨RX11, "count", "(I)I"⟩
abbrev cX11_goesBy : ByteArray := prog_1_method_32_code
def yX11_goesBy : MethodName := ⟨RX11, "goesBy", "(LTwoKings$Meeting;)Z"⟩
abbrev cX11_triedKing : ByteArray := prog_1_method_33_code
def yX11_triedKing : MethodName := ⟨RX11, "triedKing", "(LTwoKings$King;I)I"⟩
abbrev cX11_outside : ByteArray := prog_1_method_34_code
def yX11_outside : MethodName := ⟨RX11, "outside", "(III)Z"⟩
abbrev cX11_whoOfBits : ByteArray := prog_1_method_35_code
def yX11_whoOfBits : MethodName := ⟨RX11, "whoOfBits", "(I)I"⟩
def RX12 : String := "TwoKingsModel"
def TX12 : u_T := fun k => match k with
  | 0 => ("TwoKingsModel", "now", "[I", true)
  | 1 => ("TwoKingsModel", "aside", "[I", true)
  | 2 => ("TwoKingsModel", "kept", "[I", true)
  | 3 => ("TwoKingsModel", "mostSteps", "I", false)
  | 4 => ("TwoKingsModel", "mostDegrees", "I", false)
  | 5 => ("TwoKingsModel", "tape", "[B", true)
  | 6 => ("TwoKingsModel", "taped", "I", false)
  | 7 => ("TwoKingsModel", "place0", "I", false)
  | 8 => ("TwoKingsModel", "length0", "I", false)
  | 9 => ("TwoKingsModel", "fault", "I", false)
  | 10 => ("TwoKingsModel", "number0", "I", false)
  | 11 => ("TwoKingsModel", "open", "I", false)
  | 12 => ("TwoKingsModel", "codeMany", "I", false)
  | 13 => ("TwoKingsModel", "waiting", "I", false)
  | 14 => ("TwoKingsModel", "saidMany", "I", false)
  | 15 => ("TwoKingsModel", "clauses", "I", false)
  | 16 => ("TwoKingsModel", "said", "[I", true)
  | 17 => ("TwoKingsModel", "waitsAt", "[I", true)
  | 18 => ("TwoKingsModel", "saidLetter", "[I", true)
  | 19 => ("TwoKingsModel", "saidFrom", "[I", true)
  | 20 => ("TwoKingsModel", "saidHalf", "[I", true)
  | 21 => ("TwoKingsModel", "saidTo", "[I", true)
  | 22 => ("TwoKingsModel", "codes", "[I", true)
  | 23 => ("TwoKingsModel", "clauseOf", "[I", true)
  | 24 => ("TwoKingsModel", "codeFrom", "[I", true)
  | 25 => ("TwoKingsModel", "codeHalf", "[I", true)
  | 26 => ("TwoKingsModel", "codeTo", "[I", true)
  | 27 => ("TwoKingsModel", "stack", "[I", true)
  | 28 => ("TwoKingsModel", "facts", "[I", true)
  | 29 => ("TwoKingsModel", "lines", "I", false)
  | 30 => ("TwoKingsModel", "drawn", "[I", true)
  | 31 => ("TwoKingsModel", "forward", "[I", true)
  | 32 => ("TwoKingsModel", "bends", "[I", true)
  | 33 => ("TwoKingsModel", "rises", "[I", true)
  | 34 => ("TwoKingsModel", "grew", "[I", true)
  | 35 => ("TwoKingsModel", "nearerIn", "[I", true)
  | 36 => ("TwoKingsModel", "isOff", "[Z", true)
  | 37 => ("TwoKingsModel", "goesAway", "[Z", true)
  | 38 => ("TwoKingsModel", "wentBy", "I", false)
  | 39 => ("TwoKingsModel", "firstThere", "I", false)
  | 40 => ("TwoKingsModel", "worstNow", "I", false)
  | 41 => ("TwoKingsModel", "lineA", "[I", true)
  | 42 => ("TwoKingsModel", "lineB", "[I", true)
  | 43 => ("TwoKingsModel", "newA", "[I", true)
  | 44 => ("TwoKingsModel", "newB", "[I", true)
  | 45 => ("TwoKingsModel", "momentOf", "[I", true)
  | 46 => ("TwoKingsModel", "isAtOnce", "[Z", true)
  | 47 => ("TwoKingsModel", "newAtOnce", "[Z", true)
  | 48 => ("TwoKingsModel", "treatyLines", "I", false)
  | 49 => ("TwoKingsModel", "newLines", "I", false)
  | 50 => ("TwoKingsModel", "queue", "[I", true)
  | 51 => ("TwoKingsModel", "farTo", "[I", true)
  | 52 => ("TwoKingsModel", "firstBy", "[I", true)
  | 53 => ("TwoKingsModel", "power", "[I", true)
  | 54 => ("TwoKingsModel", "laneNow", "[I", true)
  | 55 => ("TwoKingsModel", "readBy", "[I", true)
  | 56 => ("TwoKingsModel", "giftBy", "[I", true)
  | 57 => ("TwoKingsModel", "seatNow", "[I", true)
  | 58 => ("TwoKingsModel", "seatBest", "[I", true)
  | 59 => ("TwoKingsModel", "ways", "I", false)
  | 60 => ("TwoKingsModel", "fewest", "I", false)
  | 61 => ("TwoKingsModel", "climbs", "[J", true)
  | _ => ("TwoKingsModel", "isKept", "Z", false)
def tyX12 : Nat → FieldType := fun k => match k with
  | 0 => .array .int
  | 1 => .array .int
  | 2 => .array .int
  | 3 => .int
  | 4 => .int
  | 5 => .array .byte
  | 6 => .int
  | 7 => .int
  | 8 => .int
  | 9 => .int
  | 10 => .int
  | 11 => .int
  | 12 => .int
  | 13 => .int
  | 14 => .int
  | 15 => .int
  | 16 => .array .int
  | 17 => .array .int
  | 18 => .array .int
  | 19 => .array .int
  | 20 => .array .int
  | 21 => .array .int
  | 22 => .array .int
  | 23 => .array .int
  | 24 => .array .int
  | 25 => .array .int
  | 26 => .array .int
  | 27 => .array .int
  | 28 => .array .int
  | 29 => .int
  | 30 => .array .int
  | 31 => .array .int
  | 32 => .array .int
  | 33 => .array .int
  | 34 => .array .int
  | 35 => .array .int
  | 36 => .array .boolean
  | 37 => .array .boolean
  | 38 => .int
  | 39 => .int
  | 40 => .int
  | 41 => .array .int
  | 42 => .array .int
  | 43 => .array .int
  | 44 => .array .int
  | 45 => .array .int
  | 46 => .array .boolean
  | 47 => .array .boolean
  | 48 => .int
  | 49 => .int
  | 50 => .array .int
  | 51 => .array .int
  | 52 => .array .int
  | 53 => .array .int
  | 54 => .array .int
  | 55 => .array .int
  | 56 => .array .int
  | 57 => .array .int
  | 58 => .array .int
  | 59 => .int
  | 60 => .int
  | 61 => .array .long
  | _ => .boolean
theorem nmX12 : ∀ a, a < 63 → ∀ b, b < 63 → a ≠ b → (TX12 a).2.1 ≠ (TX12 b).2.1 := by decide +kernel
theorem tyX12_ok : ∀ k, k < 63 → parseFieldDescriptor (TX12 k).2.2.1 = some (tyX12 k) := by decide +kernel
abbrev cX12_init : ByteArray := prog_14_method_1_code
def yX12_init : MethodName := ⟨RX12, "<init>", "()V"⟩
abbrev cX12_in : ByteArray := prog_14_method_2_code
def yX12_in : MethodName := ⟨RX12, "in", "(III)Z"⟩
abbrev cX12_min : ByteArray := prog_14_method_3_code
def yX12_min : MethodName := ⟨RX12, "min", "(II)I"⟩
abbrev cX12_max : ByteArray := prog_14_method_4_code
def yX12_max : MethodName := ⟨RX12, "max", "(II)I"⟩
abbrev cX12_size : ByteArray := prog_14_method_5_code
def yX12_size : MethodName := ⟨RX12, "size", "(I)I"⟩
abbrev cX12_has : ByteArray := prog_14_method_6_code
def yX12_has : MethodName := ⟨RX12, "has", "(II)Z"⟩
abbrev cX12_bits : ByteArray := prog_14_method_7_code
def yX12_bits : MethodName := ⟨RX12, "bits", "(I)I"⟩
abbrev cX12_copies : ByteArray := prog_14_method_8_code
def yX12_copies : MethodName := ⟨RX12, "copies", "([I[I)V"⟩
abbrev cX12_haveMet : ByteArray := prog_14_method_9_code
def yX12_haveMet : MethodName := ⟨RX12, "haveMet", "()Z"⟩
abbrev cX12_goneSet : ByteArray := prog_14_method_10_code
def yX12_goneSet : MethodName := ⟨RX12, "goneSet", "()I"⟩
abbrev cX12_king : ByteArray := prog_14_method_11_code
def yX12_king : MethodName := ⟨RX12, "king", "(IIZ)Z"⟩
abbrev cX12_tolerance : ByteArray := prog_14_method_12_code
def yX12_tolerance : MethodName := ⟨RX12, "tolerance", "(II)Z"⟩
abbrev cX12_types : ByteArray := prog_14_method_13_code
def yX12_types : MethodName := ⟨RX12, "types", "(I)V"⟩
abbrev cX12_feed : ByteArray := prog_14_method_14_code
def yX12_feed : MethodName := ⟨RX12, "feed", "(IIIII)I"⟩
abbrev cX12_octet : ByteArray := prog_14_method_15_code
def yX12_octet : MethodName := ⟨RX12, "octet", "(I)I"⟩
abbrev cX12_here : ByteArray := prog_14_method_16_code
def yX12_here : MethodName := ⟨RX12, "here", "()I"⟩
abbrev cX12_isDigit : ByteArray := prog_14_method_17_code
def yX12_isDigit : MethodName := ⟨RX12, "isDigit", "()Z"⟩
abbrev cX12_wrongAt : ByteArray := prog_14_method_18_code
def yX12_wrongAt : MethodName := ⟨RX12, "wrongAt", "(II)Z"⟩
abbrev cX12_takes : ByteArray := prog_14_method_19_code
def yX12_takes : MethodName := ⟨RX12, "takes", "(I)Z"⟩
abbrev cX12_readsNumber : ByteArray := prog_14_method_20_code
def yX12_readsNumber : MethodName := ⟨RX12, "readsNumber", "()Z"⟩
abbrev cX12_notes : ByteArray := prog_14_method_21_code
def yX12_notes : MethodName := ⟨RX12, "notes", "(II)V"⟩
abbrev cX12_opens : ByteArray := prog_14_method_22_code
def yX12_opens : MethodName := ⟨RX12, "opens", "(I)Z"⟩
abbrev cX12_waitTop : ByteArray := prog_14_method_23_code
def yX12_waitTop : MethodName := ⟨RX12, "waitTop", "()I"⟩
abbrev cX12_factOf : ByteArray := prog_14_method_24_code
def yX12_factOf : MethodName := ⟨RX12, "factOf", "(I)I"⟩
abbrev cX12_sumSign : ByteArray := prog_14_method_25_code
def yX12_sumSign : MethodName := ⟨RX12, "sumSign", "(I)I"⟩
abbrev cX12_closesSums : ByteArray := prog_14_method_26_code
def yX12_closesSums : MethodName := ⟨RX12, "closesSums", "(Z)V"⟩
abbrev cX12_readsFactor : ByteArray := prog_14_method_27_code
def yX12_readsFactor : MethodName := ⟨RX12, "readsFactor", "()Z"⟩
abbrev cX12_hasOpenSum : ByteArray := prog_14_method_28_code
def yX12_hasOpenSum : MethodName := ⟨RX12, "hasOpenSum", "(I)Z"⟩
abbrev cX12_readsSum : ByteArray := prog_14_method_29_code
def yX12_readsSum : MethodName := ⟨RX12, "readsSum", "()Z"⟩
abbrev cX12_endsPiece : ByteArray := prog_14_method_30_code
def yX12_endsPiece : MethodName := ⟨RX12, "endsPiece", "()V"⟩
abbrev cX12_lands : ByteArray := prog_14_method_31_code
def yX12_lands : MethodName := ⟨RX12, "lands", "(Z)V"⟩
abbrev cX12_jumps : ByteArray := prog_14_method_32_code
def yX12_jumps : MethodName := ⟨RX12, "jumps", "(I)V"⟩
abbrev cX12_readsCompared : ByteArray := prog_14_method_33_code
def yX12_readsCompared : MethodName := ⟨RX12, "readsCompared", "()Z"⟩
abbrev cX12_readsCondition : ByteArray := prog_14_method_34_code
def yX12_readsCondition : MethodName := ⟨RX12, "readsCondition", "()Z"⟩
abbrev cX12_readsRule : ByteArray := prog_14_method_35_code
def yX12_readsRule : MethodName := ⟨RX12, "readsRule", "()Z"⟩
abbrev cX12_beginsText : ByteArray := prog_14_method_36_code
def yX12_beginsText : MethodName := ⟨RX12, "beginsText", "(I)V"⟩
abbrev cX12_law : ByteArray := prog_14_method_37_code
def yX12_law : MethodName := ⟨RX12, "law", "(I)I"⟩
abbrev cX12_reckon : ByteArray := prog_14_method_38_code
def yX12_reckon : MethodName := ⟨RX12, "reckon", "(III)I"⟩
abbrev cX12_comesTo : ByteArray := prog_14_method_39_code
def yX12_comesTo : MethodName := ⟨RX12, "comesTo", "(II)I"⟩
abbrev cX12_byLaw : ByteArray := prog_14_method_40_code
def yX12_byLaw : MethodName := ⟨RX12, "byLaw", "(II)I"⟩
abbrev cX12_holdsAny : ByteArray := prog_14_method_41_code
def yX12_holdsAny : MethodName := ⟨RX12, "holdsAny", "(I)Z"⟩
abbrev cX12_hasRule : ByteArray := prog_14_method_42_code
def yX12_hasRule : MethodName := ⟨RX12, "hasRule", "(I)Z"⟩
abbrev cX12_readsAmount : ByteArray := prog_14_method_43_code
def yX12_readsAmount : MethodName := ⟨RX12, "readsAmount", "()Z"⟩
abbrev cX12_obeys : ByteArray := prog_14_method_44_code
def yX12_obeys : MethodName := ⟨RX12, "obeys", "(II)V"⟩
abbrev cX12_readsLine : ByteArray := prog_14_method_45_code
def yX12_readsLine : MethodName := ⟨RX12, "readsLine", "()Z"⟩
abbrev cX12_orders : ByteArray := prog_14_method_46_code
def yX12_orders : MethodName := ⟨RX12, "orders", "(I)I"⟩
abbrev cX12_feels : ByteArray := prog_14_method_47_code
def yX12_feels : MethodName := ⟨RX12, "feels", "(I)V"⟩
abbrev cX12_asks : ByteArray := prog_14_method_48_code
def yX12_asks : MethodName := ⟨RX12, "asks", "(I)V"⟩
abbrev cX12_moves : ByteArray := prog_14_method_49_code
def yX12_moves : MethodName := ⟨RX12, "moves", "(I)V"⟩
abbrev cX12_offenceTo : ByteArray := prog_14_method_50_code
def yX12_offenceTo : MethodName := ⟨RX12, "offenceTo", "(I)I"⟩
abbrev cX12_apartNow : ByteArray := prog_14_method_51_code
def yX12_apartNow : MethodName := ⟨RX12, "apartNow", "()I"⟩
abbrev cX12_goesOn : ByteArray := prog_14_method_52_code
def yX12_goesOn : MethodName := ⟨RX12, "goesOn", "()Z"⟩
abbrev cX12_thereNow : ByteArray := prog_14_method_53_code
def yX12_thereNow : MethodName := ⟨RX12, "thereNow", "()I"⟩
abbrev cX12_breathGoes : ByteArray := prog_14_method_54_code
def yX12_breathGoes : MethodName := ⟨RX12, "breathGoes", "()V"⟩
abbrev cX12_breathsGo : ByteArray := prog_14_method_55_code
def yX12_breathsGo : MethodName := ⟨RX12, "breathsGo", "(I)V"⟩
abbrev cX12_breaths : ByteArray := prog_14_method_56_code
def yX12_breaths : MethodName := ⟨RX12, "breaths", "(I)I"⟩
abbrev cX12_tried : ByteArray := prog_14_method_57_code
def yX12_tried : MethodName := ⟨RX12, "tried", "(II)I"⟩
abbrev cX12_kingIs : ByteArray := prog_14_method_58_code
def yX12_kingIs : MethodName := ⟨RX12, "kingIs", "(II)I"⟩
abbrev cX12_meet : ByteArray := prog_14_method_59_code
def yX12_meet : MethodName := ⟨RX12, "meet", "(II)I"⟩
abbrev cX12_leaves : ByteArray := prog_14_method_60_code
def yX12_leaves : MethodName := ⟨RX12, "leaves", "(II)I"⟩
abbrev cX12_worst : ByteArray := prog_14_method_61_code
def yX12_worst : MethodName := ⟨RX12, "worst", "(I)I"⟩
abbrev cX12_nearer : ByteArray := prog_14_method_62_code
def yX12_nearer : MethodName := ⟨RX12, "nearer", "(II)I"⟩
abbrev cX12_readsPair : ByteArray := prog_14_method_63_code
def yX12_readsPair : MethodName := ⟨RX12, "readsPair", "()Z"⟩
abbrev cX12_treaty : ByteArray := prog_14_method_64_code
def yX12_treaty : MethodName := ⟨RX12, "treaty", "(I)I"⟩
abbrev cX12_named : ByteArray := prog_14_method_65_code
def yX12_named : MethodName := ⟨RX12, "named", "()I"⟩
abbrev cX12_laysMoments : ByteArray := prog_14_method_66_code
def yX12_laysMoments : MethodName := ⟨RX12, "laysMoments", "(I)Z"⟩
abbrev cX12_lifts : ByteArray := prog_14_method_67_code
def yX12_lifts : MethodName := ⟨RX12, "lifts", "(I)Z"⟩
abbrev cX12_contradictsAt : ByteArray := prog_14_method_68_code
def yX12_contradictsAt : MethodName := ⟨RX12, "contradictsAt", "()I"⟩
abbrev cX12_moments : ByteArray := prog_14_method_69_code
def yX12_moments : MethodName := ⟨RX12, "moments", "(I)I"⟩
abbrev cX12_atOnceWith : ByteArray := prog_14_method_70_code
def yX12_atOnceWith : MethodName := ⟨RX12, "atOnceWith", "(I)I"⟩
abbrev cX12_aheadOf : ByteArray := prog_14_method_71_code
def yX12_aheadOf : MethodName := ⟨RX12, "aheadOf", "(I)I"⟩
abbrev cX12_act : ByteArray := prog_14_method_72_code
def yX12_act : MethodName := ⟨RX12, "act", "(II)I"⟩
abbrev cX12_unfolds : ByteArray := prog_14_method_73_code
def yX12_unfolds : MethodName := ⟨RX12, "unfolds", "(II)V"⟩
abbrev cX12_isThrough : ByteArray := prog_14_method_74_code
def yX12_isThrough : MethodName := ⟨RX12, "isThrough", "(I)Z"⟩
abbrev cX12_goesTo : ByteArray := prog_14_method_75_code
def yX12_goesTo : MethodName := ⟨RX12, "goesTo", "(II)I"⟩
abbrev cX12_searches : ByteArray := prog_14_method_76_code
def yX12_searches : MethodName := ⟨RX12, "searches", "(II)I"⟩
abbrev cX12_lane : ByteArray := prog_14_method_77_code
def yX12_lane : MethodName := ⟨RX12, "lane", "(II)I"⟩
abbrev cX12_signing : ByteArray := prog_14_method_78_code
def yX12_signing : MethodName := ⟨RX12, "signing", "(II)I"⟩
abbrev cX12_titles : ByteArray := prog_14_method_79_code
def yX12_titles : MethodName := ⟨RX12, "titles", "(III)I"⟩
abbrev cX12_unlike : ByteArray := prog_14_method_80_code
def yX12_unlike : MethodName := ⟨RX12, "unlike", "(III)I"⟩
abbrev cX12_leastGifts : ByteArray := prog_14_method_81_code
def yX12_leastGifts : MethodName := ⟨RX12, "leastGifts", "(II)I"⟩
abbrev cX12_gifts : ByteArray := prog_14_method_82_code
def yX12_gifts : MethodName := ⟨RX12, "gifts", "(II)I"⟩
abbrev cX12_sumOf : ByteArray := prog_14_method_83_code
def yX12_sumOf : MethodName := ⟨RX12, "sumOf", "(II)I"⟩
abbrev cX12_cushions : ByteArray := prog_14_method_84_code
def yX12_cushions : MethodName := ⟨RX12, "cushions", "(IIII)I"⟩
abbrev cX12_wrongsNow : ByteArray := prog_14_method_85_code
def yX12_wrongsNow : MethodName := ⟨RX12, "wrongsNow", "(I)I"⟩
abbrev cX12_changesSeats : ByteArray := prog_14_method_86_code
def yX12_changesSeats : MethodName := ⟨RX12, "changesSeats", "(II)V"⟩
abbrev cX12_nextSeats : ByteArray := prog_14_method_87_code
def yX12_nextSeats : MethodName := ⟨RX12, "nextSeats", "(I)Z"⟩
abbrev cX12_mayBeSeats : ByteArray := prog_14_method_88_code
def yX12_mayBeSeats : MethodName := ⟨RX12, "mayBeSeats", "(I)V"⟩
abbrev cX12_table : ByteArray := prog_14_method_89_code
def yX12_table : MethodName := ⟨RX12, "table", "(II)I"⟩
abbrev cX12_drums : ByteArray := prog_14_method_90_code
def yX12_drums : MethodName := ⟨RX12, "drums", "(IIII)I"⟩
abbrev cX12_tent : ByteArray := prog_14_method_91_code
def yX12_tent : MethodName := ⟨RX12, "tent", "(II)I"⟩
abbrev cX12_stairs : ByteArray := prog_14_method_92_code
def yX12_stairs : MethodName := ⟨RX12, "stairs", "(III)J"⟩
abbrev cX12_heralds : ByteArray := prog_14_method_93_code
def yX12_heralds : MethodName := ⟨RX12, "heralds", "(II)I"⟩
abbrev cX12_seed : ByteArray := prog_14_method_94_code
def yX12_seed : MethodName := ⟨RX12, "seed", "(I)Z"⟩
abbrev cX12_keep : ByteArray := prog_14_method_95_code
def yX12_keep : MethodName := ⟨RX12, "keep", "()I"⟩
abbrev cX12_undo : ByteArray := prog_14_method_96_code
def yX12_undo : MethodName := ⟨RX12, "undo", "()Z"⟩
abbrev cX12_check : ByteArray := prog_14_method_97_code
def yX12_check : MethodName := ⟨RX12, "check", "()I"⟩
abbrev cX12_count : ByteArray := prog_14_method_98_code
def yX12_count : MethodName := ⟨RX12, "count", "(I)I"⟩
def RJ11 : String := "java/lang/Character"
abbrev cJ11_isValidCodePoint_9a6ad : ByteArray := prog_15_method_11_code
def yJ11_isValidCodePoint_9a6ad : MethodName := ⟨RJ11, "isValidCodePoint", "(I)Z"⟩
abbrev cJ11_highSurrogate_5068e : ByteArray := prog_15_method_28_code
def yJ11_highSurrogate_5068e : MethodName := ⟨RJ11, "highSurrogate", "(I)C"⟩
abbrev cJ11_lowSurrogate_5068e : ByteArray := prog_15_method_29_code
def yJ11_lowSurrogate_5068e : MethodName := ⟨RJ11, "lowSurrogate", "(I)C"⟩
def RJ6 : String := "java/lang/Integer"
abbrev cJ6_numberOfTrailingZeros_0f7a4 : ByteArray := prog_16_method_48_code
def yJ6_numberOfTrailingZeros_0f7a4 : MethodName := ⟨RJ6, "numberOfTrailingZeros", "(I)I"⟩
def RJ9 : String := "java/lang/Math"
abbrev cJ9_abs_0f7a4 : ByteArray := prog_17_method_59_code
def yJ9_abs_0f7a4 : MethodName := ⟨RJ9, "abs", "(I)I"⟩
abbrev cJ9_max_7cf53 : ByteArray := prog_17_method_65_code
def yJ9_max_7cf53 : MethodName := ⟨RJ9, "max", "(II)I"⟩
abbrev cJ9_min_7cf53 : ByteArray := prog_17_method_69_code
def yJ9_min_7cf53 : MethodName := ⟨RJ9, "min", "(II)I"⟩
def RJ0 : String := "java/lang/String"
abbrev cJ0_length_8abf5 : ByteArray := prog_18_method_54_code
def yJ0_length_8abf5 : MethodName := ⟨RJ0, "length", "()I"⟩
abbrev cJ0_indexOf_0f7a4 : ByteArray := prog_18_method_79_code
def yJ0_indexOf_0f7a4 : MethodName := ⟨RJ0, "indexOf", "(I)I"⟩
abbrev cJ0_indexOf_7cf53 : ByteArray := prog_18_method_80_code
def yJ0_indexOf_7cf53 : MethodName := ⟨RJ0, "indexOf", "(II)I"⟩
abbrev cJ0_coder_7d493 : ByteArray := prog_18_method_152_code
def yJ0_coder_7d493 : MethodName := ⟨RJ0, "coder", "()B"⟩
abbrev cJ0_isLatin1_aae02 : ByteArray := prog_18_method_154_code
def yJ0_isLatin1_aae02 : MethodName := ⟨RJ0, "isLatin1", "()Z"⟩
abbrev cJ0_checkBoundsBeginEnd_23922 : ByteArray := prog_18_method_158_code
def yJ0_checkBoundsBeginEnd_23922 : MethodName := ⟨RJ0, "checkBoundsBeginEnd", "(III)V"⟩
def RJ1 : String := "java/lang/StringLatin1"
abbrev cJ1_canEncode_9a6ad : ByteArray := prog_19_method_4_code
def yJ1_canEncode_9a6ad : MethodName := ⟨RJ1, "canEncode", "(I)Z"⟩
abbrev cJ1_indexOf_4cfef : ByteArray := prog_19_method_22_code
def yJ1_indexOf_4cfef : MethodName := ⟨RJ1, "indexOf", "([BIII)I"⟩
abbrev cJ1_indexOfChar_4cfef : ByteArray := prog_19_method_23_code
def yJ1_indexOfChar_4cfef : MethodName := ⟨RJ1, "indexOfChar", "([BIII)I"⟩
def RJ2 : String := "java/lang/StringUTF16"
abbrev cJ2_getChar_3b067 : ByteArray := prog_20_method_5_code
def yJ2_getChar_3b067 : MethodName := ⟨RJ2, "getChar", "([BI)C"⟩
abbrev cJ2_length_9d52b : ByteArray := prog_20_method_6_code
def yJ2_length_9d52b : MethodName := ⟨RJ2, "length", "([B)I"⟩
abbrev cJ2_indexOf_4cfef : ByteArray := prog_20_method_40_code
def yJ2_indexOf_4cfef : MethodName := ⟨RJ2, "indexOf", "([BIII)I"⟩
abbrev cJ2_indexOfChar_4cfef : ByteArray := prog_20_method_47_code
def yJ2_indexOfChar_4cfef : MethodName := ⟨RJ2, "indexOfChar", "([BIII)I"⟩
abbrev cJ2_indexOfCharUnsafe_4cfef : ByteArray := prog_20_method_48_code
def yJ2_indexOfCharUnsafe_4cfef : MethodName := ⟨RJ2, "indexOfCharUnsafe", "([BIII)I"⟩
abbrev cJ2_indexOfSupplementary_4cfef : ByteArray := prog_20_method_49_code
def yJ2_indexOfSupplementary_4cfef : MethodName := ⟨RJ2, "indexOfSupplementary", "([BIII)I"⟩
abbrev cJ2_checkBoundsBeginEnd_d044e : ByteArray := prog_20_method_93_code
def yJ2_checkBoundsBeginEnd_d044e : MethodName := ⟨RJ2, "checkBoundsBeginEnd", "(II[B)V"⟩
def RJ10 : String := "java/lang/System"
def RJ7 : String := "java/util/Arrays"
abbrev cJ7_fill_d0a16 : ByteArray := prog_22_method_101_code
def yJ7_fill_d0a16 : MethodName := ⟨RJ7, "fill", "([JJ)V"⟩
abbrev cJ7_fill_53178 : ByteArray := prog_22_method_103_code
def yJ7_fill_53178 : MethodName := ⟨RJ7, "fill", "([II)V"⟩
def RJ3 : String := "jdk/internal/util/Preconditions"
abbrev cJ3_checkFromToIndex_8c36e : ByteArray := prog_23_method_12_code
def yJ3_checkFromToIndex_8c36e : MethodName := ⟨RJ3, "checkFromToIndex", "(IIILjava/util/function/BiFunction;)I"⟩
def RL : String := "TwoKingsLaw"
abbrev cL_law : ByteArray := code
def yL_law : MethodName := ⟨RL, "law", "([I)Z"⟩
abbrev vwCl : List vw_C := [(RX0, TX0, 11), (RX1, TX1, 11), (RX2, TX2, 7), (RX3, TX3, 8), (RX4, TX4, 7), (RX5, TX5, 4), (RX6, TX6, 8), (RX8, TX8, 2), (RX9, TX9, 6), (RX10, TX10, 8), (RX11, TX11, 14), (RX12, TX12, 63)]
def am_N : Nat := 238
end
section
/-! ===== THE SMALL MACHINE: configurations over cells that are numbered; one step as a predicate ===== -/
/-- an instruction: its place, itself, resolved numbers, a number that it carries, places of its words -/
abbrev am_E : Type := Nat × Instr × List Nat × Int32 × List Nat
/-- a cell's form: its kind (class number; 100 ints, 101 booleans, 102 bytes, 103 longs, 104 rows of ints), its length, what its reference places hold -/
abbrev am_S : Type := Nat × Nat × List (Option Nat)
abbrev am_V : Type := Nat → Nat → Int32
abbrev am_X : Type := Nat → Nat → Int64
abbrev am_H : Type := List am_S × am_V × am_X
abbrev am_L : Type := List (Option Value)
abbrev am_C : Type := List am_E × am_L × List Value × am_H × Nat × Nat
/-- constants that lie there before: an array of ints by its number -/
abbrev am_K : Type := Nat → Option (Nat × (Nat → Int32))
def am_get : am_L → Nat → Option Value
  | [], _ => none
  | a :: _, 0 => a
  | _ :: as, n + 1 => am_get as n
def am_isL : Option Value → Bool
  | some (.long _) => true
  | some (.double _) => true
  | _ => false
def am_set : am_L → Nat → Value → Option am_L
  | [], _, _ => none
  | _ :: as, 0, v => some (some v :: as)
  | a :: as, n + 1, v => match Nat.beq n 0 && am_isL a with
    | true => none
    | false => match am_set as n v with
      | none => none
      | some r => some (a :: r)
def am_setL : am_L → Nat → Value → Option am_L
  | [], _, _ => none
  | _ :: as, 0, v => match as with
    | [] => none
    | _ :: r => some (some v :: none :: r)
  | a :: as, n + 1, v => match Nat.beq n 0 && am_isL a with
    | true => none
    | false => match am_setL as n v with
      | none => none
      | some r => some (a :: r)
def am_at : List am_S → Nat → Option am_S
  | [], _ => none
  | a :: _, 0 => some a
  | _ :: as, n + 1 => am_at as n
def am_nth : List (Option Nat) → Nat → Option (Option Nat)
  | [], _ => none
  | a :: _, 0 => some a
  | _ :: as, n + 1 => am_nth as n
def am_mem (k : Nat) : List Nat → Bool
  | [] => false
  | a :: as => match Nat.beq k a with
    | true => true
    | false => am_mem k as
/-- in a list of pairs: what stands behind the first that is k -/
def am_pick (k : Nat) : List Nat → Option Nat
  | a :: b :: as => match Nat.beq k a with
    | true => some b
    | false => am_pick k as
  | _ => none
def am_pop : Nat → List Value → List Value → Option (List Value × List Value)
  | 0, acc, st => some (acc, st)
  | n + 1, acc, v :: st => am_pop n (v :: acc) st
  | _ + 1, _, [] => none
def am_push : Option Value → List Value → List Value
  | none, st => st
  | some v, st => v :: st
def am_up (v : am_V) (k j : Nat) (x : Int32) : am_V := fun a b => match Nat.beq a k && Nat.beq b j with
  | true => x
  | false => v a b
def am_upX (v : am_X) (k j : Nat) (x : Int64) : am_X := fun a b => match Nat.beq a k && Nat.beq b j with
  | true => x
  | false => v a b
/-- a row copied over another -/
def am_cpy (v : am_V) (k k2 sp dp n : Nat) : am_V := fun a b => match Nat.beq a k2 && (Nat.ble dp b && Nat.blt b (dp + n)) with
  | true => v k (sp + (b - dp))
  | false => v a b
def am_setR : List (Option Nat) → Nat → Option Nat → List (Option Nat)
  | [], _, _ => []
  | _ :: as, 0, q => q :: as
  | a :: as, n + 1, q => a :: am_setR as n q
def am_setS : List am_S → Nat → am_S → List am_S
  | [], _, _ => []
  | _ :: as, 0, q => q :: as
  | a :: as, n + 1, q => a :: am_setS as n q
def am_ws : List Value → Nat
  | [] => 0
  | v :: st => v.category + am_ws st
/-- references of a list are of cells that stand, or of constants -/
def am_rv (n : Nat) : Value → Bool
  | .ref k => Nat.blt k n || Nat.ble 1000 k
  | _ => true
def am_rl (n : Nat) : am_L → Bool
  | [] => true
  | some v :: l => am_rv n v && am_rl n l
  | none :: l => am_rl n l
def am_rs (n : Nat) : List Value → Bool
  | [] => true
  | v :: l => am_rv n v && am_rs n l
def am_rq (n : Nat) : List (Option Nat) → Bool
  | [] => true
  | some k :: l => (Nat.blt k n || Nat.ble 1000 k) && am_rq n l
  | none :: l => am_rq n l
def am_rh (n : Nat) : List am_S → Bool
  | [] => true
  | a :: l => am_rq n a.2.2 && am_rh n l
def am_nones : Nat → List (Option Nat)
  | 0 => []
  | n + 1 => none :: am_nones n
def am_rows (b : Nat) : Nat → List (Option Nat)
  | 0 => []
  | n + 1 => some b :: am_rows (b + 1) n
def am_reps : Nat → am_S → List am_S
  | 0, _ => []
  | n + 1, s => s :: am_reps n s
abbrev am_T : Type := Nat → List Value → am_H → Nat → Nat → (Option Value → am_H → Prop) → Prop
/-- what the texts' indexOf answers: by number of the text -/
abbrev am_I : Type := Nat → Option (Int32 → Int32)
def am_br (cd : Jvm.ClassFile.Cond) (x y : Int32) (A B : Prop) : Prop := match cd with
  | .eq => (x = y → A) ∧ (¬ x = y → B)
  | .ne => (¬ x = y → A) ∧ (x = y → B)
  | .lt => (x < y → A) ∧ (¬ x < y → B)
  | .ge => (y ≤ x → A) ∧ (¬ y ≤ x → B)
  | .gt => (y < x → A) ∧ (¬ y < x → B)
  | .le => (x ≤ y → A) ∧ (¬ x ≤ y → B)
/-- a table switch: the cases in order, from lo on -/
def am_tab (x : Int32) (f : Nat → Prop) : Int32 → List Nat → Prop
  | _, [] => True
  | lo, t :: ts => (x = lo → f t) ∧ am_tab x f (lo + 1) ts
/-- a lookup switch: pairs of a key (plus 2^31) and a target -/
def am_look (x : Int32) (f : Nat → Prop) (d : Nat) : List Nat → Prop
  | k :: t :: ts => (x = Int32.ofNat k → f t) ∧ (¬ x = Int32.ofNat k → am_look x f d ts)
  | _ => f d
def am_ent : Nat → List Value → am_L
  | 0, _ => []
  | n + 1, [] => none :: am_ent n []
  | n + 1, v :: vs => match am_isL (some v) with
    | true => some v :: (match n with
      | 0 => []
      | k + 1 => none :: am_ent k vs)
    | false => some v :: am_ent n vs
/-- a primitive of the JDK -/
def am_prim (I : am_I) (pk : Nat) (st : List Value) (hp : am_H) (g : List Value → am_H → Prop) : Prop := match pk with
  | 0 => match st with
    | .ref _ :: r => g r hp
    | _ => False
  | 1 => match st with
    | .int y :: .int x :: r => g (.int (if x < y then y else x) :: r) hp
    | _ => False
  | 2 => match st with
    | .int y :: .int x :: r => g (.int (if y < x then y else x) :: r) hp
    | _ => False
  | 3 => match st with
    | .int x :: r => g (.int (if 0 ≤ x then x else 0 - x) :: r) hp
    | _ => False
  | 4 => match st with
    | .int n :: .int dp :: .ref k2 :: .int sp :: .ref k :: r => match am_at hp.1 k with
      | some (100, n0, _) => match am_at hp.1 k2 with
        | some (100, n1, _) => (¬ sp < 0 ∧ ¬ dp < 0 ∧ ¬ n < 0 ∧ sp.toNatClampNeg + n.toNatClampNeg ≤ n0 ∧ dp.toNatClampNeg + n.toNatClampNeg ≤ n1) ∧ g r (hp.1, am_cpy hp.2.1 k k2 sp.toNatClampNeg dp.toNatClampNeg n.toNatClampNeg, hp.2.2)
        | _ => False
      | _ => False
    | _ => False
  | _ => match st with
    | .int c :: .ref k :: r => match I k with
      | some f => (0 ≤ c ∧ c < 65536) ∧ g (.int (f c) :: r) hp
      | none => False
    | _ => False
/-- the remainder as the machine reckons it -/
def am_rem (x y : Int32) : Int32 := x - x / y * y
/-- one step: what must hold of a configuration, P of those that follow, Q at a return -/
def am_step (K : am_K) (I : am_I) (Tc : am_T) (cd : List am_E) (mc ms : Nat) (Q : Option Value → am_H → Prop) (P : am_C → Prop) (c : am_C) : Prop := match c with
  | ([], _) => False
  | ((_, ins, rs, im, _) :: is, ls, st, hp, nc, ns) => match ins with
    | .iconst _ => P (is, ls, .int im :: st, hp, nc, ns)
    | .bipush _ => P (is, ls, .int im :: st, hp, nc, ns)
    | .sipush _ => P (is, ls, .int im :: st, hp, nc, ns)
    | .ldc _ => match rs with
      | [] => P (is, ls, .int im :: st, hp, nc, ns)
      | k :: _ => P (is, ls, .ref k :: st, hp, nc, ns)
    | .ldc_w _ => P (is, ls, .int im :: st, hp, nc, ns)
    | .ldc2_w _ => P (is, ls, .long (-1) :: st, hp, nc, ns)
    | .lconst _ => P (is, ls, .long im.toInt64 :: st, hp, nc, ns)
    | .iload_n _ => match rs with
      | [i] => match am_get ls i with
        | some (.int x) => P (is, ls, .int x :: st, hp, nc, ns)
        | _ => False
      | _ => False
    | .iload _ => match rs with
      | [i] => match am_get ls i with
        | some (.int x) => P (is, ls, .int x :: st, hp, nc, ns)
        | _ => False
      | _ => False
    | .aload_n _ => match rs with
      | [i] => match am_get ls i with
        | some (.ref x) => P (is, ls, .ref x :: st, hp, nc, ns)
        | _ => False
      | _ => False
    | .aload _ => match rs with
      | [i] => match am_get ls i with
        | some (.ref x) => P (is, ls, .ref x :: st, hp, nc, ns)
        | _ => False
      | _ => False
    | .lload_n _ => match rs with
      | [i] => match am_get ls i with
        | some (.long x) => P (is, ls, .long x :: st, hp, nc, ns)
        | _ => False
      | _ => False
    | .lload _ => match rs with
      | [i] => match am_get ls i with
        | some (.long x) => P (is, ls, .long x :: st, hp, nc, ns)
        | _ => False
      | _ => False
    | .istore_n _ => match rs, st with
      | [i], .int x :: r => match am_set ls i (.int x) with
        | some l2 => P (is, l2, r, hp, nc, ns)
        | none => False
      | _, _ => False
    | .istore _ => match rs, st with
      | [i], .int x :: r => match am_set ls i (.int x) with
        | some l2 => P (is, l2, r, hp, nc, ns)
        | none => False
      | _, _ => False
    | .astore_n _ => match rs, st with
      | [i], .ref x :: r => match am_set ls i (.ref x) with
        | some l2 => P (is, l2, r, hp, nc, ns)
        | none => False
      | _, _ => False
    | .astore _ => match rs, st with
      | [i], .ref x :: r => match am_set ls i (.ref x) with
        | some l2 => P (is, l2, r, hp, nc, ns)
        | none => False
      | _, _ => False
    | .lstore_n _ => match rs, st with
      | [i], .long x :: r => match am_setL ls i (.long x) with
        | some l2 => P (is, l2, r, hp, nc, ns)
        | none => False
      | _, _ => False
    | .lstore _ => match rs, st with
      | [i], .long x :: r => match am_setL ls i (.long x) with
        | some l2 => P (is, l2, r, hp, nc, ns)
        | none => False
      | _, _ => False
    | .iinc _ _ => match rs with
      | [i] => match am_get ls i with
        | some (.int x) => match am_set ls i (.int (x + im)) with
          | some l2 => P (is, l2, st, hp, nc, ns)
          | none => False
        | _ => False
      | _ => False
    | .iadd => match st with
      | .int y :: .int x :: r => P (is, ls, .int (x + y) :: r, hp, nc, ns)
      | _ => False
    | .isub => match st with
      | .int y :: .int x :: r => P (is, ls, .int (x - y) :: r, hp, nc, ns)
      | _ => False
    | .imul => match st with
      | .int y :: .int x :: r => P (is, ls, .int (x * y) :: r, hp, nc, ns)
      | _ => False
    | .iand => match st with
      | .int y :: .int x :: r => P (is, ls, .int (x &&& y) :: r, hp, nc, ns)
      | _ => False
    | .ior => match st with
      | .int y :: .int x :: r => P (is, ls, .int (x ||| y) :: r, hp, nc, ns)
      | _ => False
    | .ixor => match st with
      | .int y :: .int x :: r => P (is, ls, .int (x ^^^ y) :: r, hp, nc, ns)
      | _ => False
    | .ishl => match st with
      | .int y :: .int x :: r => P (is, ls, .int (x <<< (y &&& 31)) :: r, hp, nc, ns)
      | _ => False
    | .ishr => match st with
      | .int y :: .int x :: r => P (is, ls, .int (x >>> (y &&& 31)) :: r, hp, nc, ns)
      | _ => False
    | .iushr => match st with
      | .int y :: .int x :: r => P (is, ls, .int ((x.toUInt32 >>> (y.toUInt32 &&& Int32.toUInt32 31)).toInt32) :: r, hp, nc, ns)
      | _ => False
    | .idiv => match st with
      | .int y :: .int x :: r => ¬ y = 0 ∧ P (is, ls, .int (x / y) :: r, hp, nc, ns)
      | _ => False
    | .irem => match st with
      | .int y :: .int x :: r => ¬ y = 0 ∧ P (is, ls, .int (am_rem x y) :: r, hp, nc, ns)
      | _ => False
    | .ineg => match st with
      | .int x :: r => P (is, ls, .int (-x) :: r, hp, nc, ns)
      | _ => False
    | .i2b => match st with
      | .int x :: r => P (is, ls, .int (x.toInt8.toInt32) :: r, hp, nc, ns)
      | _ => False
    | .i2c => match st with
      | .int x :: r => P (is, ls, .int ((x.toUInt32 % 65536).toInt32) :: r, hp, nc, ns)
      | _ => False
    | .i2l => match st with
      | .int x :: r => P (is, ls, .long x.toInt64 :: r, hp, nc, ns)
      | _ => False
    | .ladd => match st with
      | .long y :: .long x :: r => P (is, ls, .long (x + y) :: r, hp, nc, ns)
      | _ => False
    | .lcmp => match st with
      | .long y :: .long x :: r => P (is, ls, .int (lg_cmp x y) :: r, hp, nc, ns)
      | _ => False
    | .dup => match st with
      | .int x :: r => P (is, ls, .int x :: .int x :: r, hp, nc, ns)
      | .ref x :: r => P (is, ls, .ref x :: .ref x :: r, hp, nc, ns)
      | _ => False
    | .dup2 => match st with
      | .int i :: .ref k :: r => P (is, ls, .int i :: .ref k :: .int i :: .ref k :: r, hp, nc, ns)
      | _ => False
    | .pop => match st with
      | .int _ :: r => P (is, ls, r, hp, nc, ns)
      | _ => False
    | .goto _ => match rs with
      | [t] => P (cd.drop t, ls, st, hp, nc, ns)
      | _ => False
    | .if_icmp cnd _ => match rs, st with
      | [t], .int y :: .int x :: r => am_br cnd x y (P (cd.drop t, ls, r, hp, nc, ns)) (P (is, ls, r, hp, nc, ns))
      | _, _ => False
    | .ifCond cnd _ => match rs, st with
      | [t], .int x :: r => am_br cnd x 0 (P (cd.drop t, ls, r, hp, nc, ns)) (P (is, ls, r, hp, nc, ns))
      | _, _ => False
    | .tableswitch _ _ _ _ => match rs, st with
      | d :: ts, .int x :: r => am_tab x (fun t => P (cd.drop t, ls, r, hp, nc, ns)) im ts ∧ ((x < im ∨ im + Int32.ofNat ts.length ≤ x) → P (cd.drop d, ls, r, hp, nc, ns))
      | _, _ => False
    | .lookupswitch _ _ => match rs, st with
      | d :: ts, .int x :: r => am_look x (fun t => P (cd.drop t, ls, r, hp, nc, ns)) d ts
      | _, _ => False
    | .getfield _ => match rs, st with
      | j :: f :: cs, .ref k :: r => match am_at hp.1 k with
        | some (kd, _, q) => match am_mem kd cs with
          | true => match f with
            | 0 => P (is, ls, .int (hp.2.1 k j) :: r, hp, nc, ns)
            | _ => match am_nth q j with
              | some (some a) => P (is, ls, .ref a :: r, hp, nc, ns)
              | _ => False
          | false => False
        | none => False
      | _, _ => False
    | .putfield _ => match rs, st with
      | j :: f :: cs, v :: .ref k :: r => match am_at hp.1 k with
        | some (kd, n, q) => match am_mem kd cs with
          | true => match f, v with
            | 0, .int x => P (is, ls, r, (hp.1, am_up hp.2.1 k j x, hp.2.2), nc, ns)
            | 1, .int x => (x = 0 ∨ x = 1) ∧ P (is, ls, r, (hp.1, am_up hp.2.1 k j x, hp.2.2), nc, ns)
            | 2, .ref a => match Nat.blt j q.length with
              | true => P (is, ls, r, (am_setS hp.1 k (kd, n, am_setR q j (some a)), hp.2.1, hp.2.2), nc, ns)
              | false => False
            | _, _ => False
          | false => False
        | none => False
      | _, _ => False
    | .getstatic _ => match rs with
      | [k] => P (is, ls, .ref k :: st, hp, nc, ns)
      | _ => False
    | .iaload => match st with
      | .int i :: .ref k :: r => match am_at hp.1 k with
        | some (100, n, _) => vp_in i n ∧ P (is, ls, .int (hp.2.1 k i.toNatClampNeg) :: r, hp, nc, ns)
        | none => match K k with
          | some (n, f) => vp_in i n ∧ P (is, ls, .int (f i.toNatClampNeg) :: r, hp, nc, ns)
          | none => False
        | _ => False
      | _ => False
    | .baload => match st with
      | .int i :: .ref k :: r => match am_at hp.1 k with
        | some (101, n, _) => vp_in i n ∧ P (is, ls, .int (hp.2.1 k i.toNatClampNeg) :: r, hp, nc, ns)
        | some (102, n, _) => vp_in i n ∧ P (is, ls, .int (hp.2.1 k i.toNatClampNeg) :: r, hp, nc, ns)
        | _ => False
      | _ => False
    | .laload => match st with
      | .int i :: .ref k :: r => match am_at hp.1 k with
        | some (103, n, _) => vp_in i n ∧ P (is, ls, .long (hp.2.2 k i.toNatClampNeg) :: r, hp, nc, ns)
        | _ => False
      | _ => False
    | .aaload => match st with
      | .int i :: .ref k :: r => match am_at hp.1 k with
        | some (104, n, q) => vp_in i n ∧ (match am_nth q i.toNatClampNeg with
          | some (some a) => P (is, ls, .ref a :: r, hp, nc, ns)
          | _ => False)
        | _ => False
      | _ => False
    | .iastore => match st with
      | .int x :: .int i :: .ref k :: r => match am_at hp.1 k with
        | some (100, n, _) => vp_in i n ∧ P (is, ls, r, (hp.1, am_up hp.2.1 k i.toNatClampNeg x, hp.2.2), nc, ns)
        | _ => False
      | _ => False
    | .bastore => match st with
      | .int x :: .int i :: .ref k :: r => match am_at hp.1 k with
        | some (101, n, _) => vp_in i n ∧ P (is, ls, r, (hp.1, am_up hp.2.1 k i.toNatClampNeg (vp_nar .boolean x), hp.2.2), nc, ns)
        | some (102, n, _) => vp_in i n ∧ P (is, ls, r, (hp.1, am_up hp.2.1 k i.toNatClampNeg (vp_nar .byte x), hp.2.2), nc, ns)
        | _ => False
      | _ => False
    | .lastore => match st with
      | .long x :: .int i :: .ref k :: r => match am_at hp.1 k with
        | some (103, n, _) => vp_in i n ∧ P (is, ls, r, (hp.1, hp.2.1, am_upX hp.2.2 k i.toNatClampNeg x), nc, ns)
        | _ => False
      | _ => False
    | .arraylength => match st with
      | .ref k :: r => match am_at hp.1 k with
        | some (100, n, _) => P (is, ls, .int (Int32.ofNat n) :: r, hp, nc, ns)
        | some (103, n, _) => P (is, ls, .int (Int32.ofNat n) :: r, hp, nc, ns)
        | none => match K k with
          | some (n, _) => P (is, ls, .int (Int32.ofNat n) :: r, hp, nc, ns)
          | none => False
        | _ => False
      | _ => False
    | .invokestatic _ => match rs with
      | [0, n, mid] => match am_pop n [] st with
        | some (as, r) => match Nat.ble (am_ws r) 8 with
          | true => Tc mid as hp 0 0 (fun o h2 => P (is, ls, am_push o r, h2, nc, ns))
          | false => False
        | none => False
      | [2, pk] => match Nat.ble (am_ws st) 16 with
        | true => am_prim I pk st hp (fun s2 h2 => P (is, ls, s2, h2, nc, ns))
        | false => False
      | _ => False
    | .invokevirtual _ => match rs with
      | 1 :: n :: cs => match am_pop n [] st with
        | some (.ref k :: as, r) => match am_at hp.1 k with
          | some (kd, _, _) => match am_pick kd cs with
            | some mid => match Nat.ble (am_ws r) 8 with
              | true => Tc mid (.ref k :: as) hp 0 0 (fun o h2 => P (is, ls, am_push o r, h2, nc, ns))
              | false => False
            | none => False
          | none => False
        | _ => False
      | [2, pk] => match Nat.ble (am_ws st) 10 with
        | true => am_prim I pk st hp (fun s2 h2 => P (is, ls, s2, h2, nc, ns))
        | false => False
      | _ => False
    | .invokespecial _ => match rs with
      | [3, n, mid, c2, s2] => match am_pop n [] st with
        | some (.ref k :: as, r) => match Nat.ble (am_ws r) 8 && (am_rl hp.1.length ls && am_rs hp.1.length r) with
          | true => (nc + c2 ≤ mc ∧ ns + s2 ≤ ms) ∧ Tc mid (.ref k :: as) hp c2 s2 (fun o h2 => P (is, ls, am_push o r, h2, nc + c2, ns + s2))
          | false => False
        | _ => False
      | [2, pk] => match Nat.ble (am_ws st) 8 with
        | true => am_prim I pk st hp (fun s2 h2 => P (is, ls, s2, h2, nc, ns))
        | false => False
      | _ => False
    | .ireturn => match rs, st with
      | [0], [.int x] => Q (some (.int x)) hp
      | [1], [.int x] => (x = 0 ∨ x = 1) ∧ Q (some (.int x)) hp
      | _, _ => False
    | .lreturn => match st with
      | [.long x] => Q (some (.long x)) hp
      | _ => False
    | .areturn => match st with
      | [.ref k] => Q (some (.ref k)) hp
      | _ => False
    | .return_ => match st with
      | [] => Q none hp
      | _ => False
    | .new _ => match rs with
      | [ci, n] => match am_rl hp.1.length ls && (am_rs hp.1.length st && (am_rh hp.1.length hp.1 && Nat.blt hp.1.length 1000)) with
        | true => (nc + 1 ≤ mc ∧ ns + n ≤ ms ∧ ∀ j, hp.2.1 hp.1.length j = 0) ∧ P (is, ls, .ref hp.1.length :: st, (hp.1 ++ [(ci, 0, am_nones n)], hp.2.1, hp.2.2), nc + 1, ns + n)
        | false => False
      | _ => False
    | .newarray _ => match rs, st with
      | [kd, n], .int x :: r => match am_rl hp.1.length ls && (am_rs hp.1.length r && (am_rh hp.1.length hp.1 && Nat.blt hp.1.length 1000)) with
        | true => (x = im ∧ nc + 1 ≤ mc ∧ ns + n ≤ ms ∧ (∀ j, hp.2.1 hp.1.length j = 0) ∧ ∀ j, hp.2.2 hp.1.length j = 0) ∧ P (is, ls, .ref hp.1.length :: r, (hp.1 ++ [(kd, n, [])], hp.2.1, hp.2.2), nc + 1, ns + n)
        | false => False
      | _, _ => False
    | .multianewarray _ _ => match rs, st with
      | [n, k], .int y :: .int x :: r => match am_rl hp.1.length ls && (am_rs hp.1.length r && (am_rh hp.1.length hp.1 && Nat.blt (hp.1.length + n) 1000)) with
        | true => (x = im ∧ y = im ∧ nc + (1 + n) ≤ mc ∧ ns + (n + n * k) ≤ ms ∧ (∀ i j, i ≤ n → hp.2.1 (hp.1.length + i) j = 0)) ∧ P (is, ls, .ref hp.1.length :: r, (hp.1 ++ ((104, n, am_rows (hp.1.length + 1) n) :: am_reps n (100, k, [])), hp.2.1, hp.2.2), nc + (1 + n), ns + (n + n * k))
        | false => False
      | _, _ => False
    | _ => False
/-- a method's table: its instructions, how many locals -/
abbrev am_M : Type := Nat → List am_E × Nat
def am_run (K : am_K) (I : am_I) (M : am_M) : Nat → am_T
  | 0 => fun _ _ _ _ _ _ => False
  | d + 1 => fun mid as hp mc ms Q => Nat.ble (am_ws as) (M mid).2 = true ∧ ∀ P : am_C → Prop, (∀ c, am_step K I (am_run K I M d) (M mid).1 mc ms Q P c → P c) → P ((M mid).1, am_ent (M mid).2 as, [], hp, 0, 0)
end
section
/-! ===== the small machine's cells on the heap; what holds of a state; which instruction lists are right ===== -/
def am_v (ad : Nat → Nat) : Value → Value
  | .ref k => .ref (ad k)
  | v => v
def am_isR (ci j : Nat) : Bool := match vwCl[ci]? with
  | some (_, T, _) => !(decide ((T j).2.2.1 = "I") || decide ((T j).2.2.1 = "Z"))
  | none => false
def am_nf (ci : Nat) : Nat := match vwCl[ci]? with
  | some (_, _, N) => N
  | none => 0
def am_fv (ad : Nat → Nat) (v : am_V) (k ci : Nat) (q : List (Option Nat)) (j : Nat) : Value := match am_isR ci j with
  | true => va_rf ((q.getD j none).map ad)
  | false => .int (v k j)
def am_fs (ad : Nat → Nat) (v : am_V) (k ci : Nat) (q : List (Option Nat)) : List Value := (List.range (am_nf ci)).map (am_fv ad v k ci q)
def am_cell (cA : Nat → ClassId) (ad : Nat → Nat) (v : am_V) (w : am_X) (k : Nat) (s : am_S) : va_E :=
  if s.1 < 100 then .inr (s.1, am_fs ad v k s.1 s.2.2)
  else if s.1 = 103 then .inl (cA 103, s.2.1, .inr (.inl (w k)))
  else if s.1 = 104 then .inl (cA 104, s.2.1, .inr (.inr (.inr (.inr (fun j => (s.2.2.getD j none).map ad)))))
  else .inl (cA s.1, s.2.1, .inl (v k))
def am_cw (cA : Nat → ClassId) (ad : Nat → Nat) (hp : am_H) : va_W := hp.1.mapIdx (fun k s => (ad k, am_cell cA ad hp.2.1 hp.2.2 k s))
def am_tys (cA : Nat → ClassId) : List (ClassId × FieldType) := [(cA 100, .int), (cA 101, .boolean), (cA 102, .byte), (cA 103, .long), (cA 104, .array .int)]
def am_LV (ad : Nat → Nat) (ls : am_L) (la : Array Slot) (nL : Nat) : Prop := la.size = nL ∧ lv_wf la ∧ (∀ (i : Nat) (v : Value), am_get ls i = some v → la[i]? = some (.val (am_v ad v))) ∧ ls.length = nL
def am_pcl : List am_E → Nat
  | [] => 0
  | e :: _ => e.1
def am_isAC (comp : ClassId) (x : Class) : Bool := match x.kind with
  | .array component _ => component == comp
  | _ => false
theorem am_idx_bare (vm : Vm) (comp : ClassId) : vm.bare.classes.findIdx? (am_isAC comp) = vm.classes.findIdx? (am_isAC comp) := by
  simp only [Vm.bare, Array.findIdx?_map]
  rfl
theorem am_over_spec {s : State} {t : FieldType} {a : Array Value} (h : (Jvm.Cond.arrayOver (.array t)).before a s = true) :
    ∃ (comp c : ClassId) (k : Class), s.vm.findClass (FieldType.array t).toString = some comp ∧ s.vm.classes.findIdx? (am_isAC comp) = some c ∧ s.vm.classes[c]? = some k ∧ k.kind = .array comp (.array t) ∧ s.vm.findClass ("[" ++ (FieldType.array t).toString) = some c := by
  unfold Jvm.Cond.before at h
  simp only [Cond.holds, Cond.value, beq_iff_eq] at h
  cases hc : s.vm.findClass (FieldType.array t).toString with
  | none => simp [hc] at h
  | some comp =>
    simp only [hc, Option.bind_some, Option.bind_eq_some_iff, Option.map_eq_some_iff] at h
    obtain ⟨c, hi, k, hk, hb⟩ := h
    obtain ⟨hlt, hp, -⟩ := Array.findIdx?_eq_some_iff_getElem.mp hi
    have hkk : s.vm.classes[c] = k := (Array.getElem?_eq_some_iff.mp hk).2
    rw [hkk] at hp
    cases hkind : k.kind with
    | array component ty =>
      rw [hkind] at hb hp
      simp at hb hp
      exact ⟨comp, c, k, rfl, hi, hk, by rw [hkind, hp, hb.1], hb.2⟩
    | _ => rw [hkind] at hb; simp at hb
theorem am_over_moved {t : FieldType} {u U : State} {a b : Array Value} (hvm : u.vm.Alike U.vm) (h : (Jvm.Cond.arrayOver (.array t)).before a u = true) : (Jvm.Cond.arrayOver (.array t)).before b U = true := by
  obtain ⟨comp, c, k, h1, h2, h3, h4, h5⟩ := am_over_spec h
  obtain ⟨k', hk', he⟩ := hvm.2.2 _ _ h3
  have hi : U.vm.classes.findIdx? (am_isAC comp) = some c := by
    rw [← am_idx_bare]
    first | rw [hvm.bare_eq] | rw [← hvm.bare_eq]
    rw [am_idx_bare]
    exact h2
  have hkind : k'.kind = .array comp (.array t) := by rw [he]; exact h4
  have f1 : U.vm.findClass (FieldType.array t).toString = some comp := by rw [hvm.findClass]; exact h1
  have f2 : U.vm.findClass ("[" ++ (FieldType.array t).toString) = some c := by rw [hvm.findClass]; exact h5
  unfold Cond.before Cond.holds
  simp only [Cond.value]
  rw [f1, Option.bind_some]
  refine (congrArg (fun o : Option Nat => (o.bind (fun c => (U.vm.classes[c]?).map fun (k : Class) => match k.kind with | .array _ ty => decide (ty = FieldType.array t) && decide (U.vm.findClass ("[" ++ (FieldType.array t).toString) = some c) | _ => false) == some true)) hi).trans ?_
  simp [hk', hkind, f2]
def am_okw (w : Jvm.Cond) : Bool := goodWord w || (match w with
  | .fieldLinkNest _ _ _ _ _ _ => true
  | .methodLinkNest _ _ _ _ => true
  | .declares _ => true
  | .arrayOver (.array _) => true
  | _ => false)
def am_TW (U : State) : Prop := ∀ w ∈ lw_tbl, am_okw w = true → ∀ a : Array Value, w.before a U = true
theorem am_TW.warm {s U : State} (hW : s.WarmedH U.vm) (h : am_TW s) : am_TW U := by
  intro w hw hok a
  have h0 := h w hw hok
  rcases (Bool.or_eq_true _ _).mp hok with hg | hg
  · exact word_at hW (good_of_word hg) (h0 a)
  · cases w <;> first | exact absurd (show false = true from hg) (by decide) | skip
    case arrayOver ty =>
      cases ty <;> first | exact absurd (show false = true from hg) (by decide) | skip
      exact am_over_moved hW.alike (h0 #[])
    case fieldLinkNest => exact va_Nw.use rfl (va_Nw.warmF hW (h0 #[]))
    case methodLinkNest => exact va_Nw.use rfl (va_Nw.warmM hW (h0 #[]))
    case declares => exact va_Nw.use rfl (va_Nw.warmD hW (h0 #[]))
theorem am_TW.at {s : State} (h : am_TW s) {i : Nat} {w : Jvm.Cond} (hi : lw_tbl[i]? = some w) (hok : am_okw w = true) (a : Array Value) : w.before a s = true := h w (List.mem_of_getElem? hi) hok a
theorem am_at_eq : ∀ (l : List am_S) (k : Nat), am_at l k = l[k]?
  | [], k => by cases k <;> rfl
  | _ :: _, 0 => rfl
  | _ :: as, k + 1 => am_at_eq as k
theorem am_nth_eq : ∀ (l : List (Option Nat)) (k : Nat), am_nth l k = l[k]?
  | [], k => by cases k <;> rfl
  | _ :: _, 0 => rfl
  | _ :: as, k + 1 => am_nth_eq as k
theorem am_cw_at {cA : Nat → ClassId} {ad : Nat → Nat} {hp : am_H} {k : Nat} {z : am_S} (h : am_at hp.1 k = some z) : (am_cw cA ad hp)[k]? = some (ad k, am_cell cA ad hp.2.1 hp.2.2 k z) := by
  rw [am_at_eq] at h
  simp [am_cw, h]
theorem am_fs_at {ad : Nat → Nat} {v : am_V} {k ci : Nat} {q : List (Option Nat)} {j : Nat} (h : j < am_nf ci) : (am_fs ad v k ci q)[j]? = some (am_fv ad v k ci q j) := by
  simp [am_fs, h]
theorem am_fs_len {ad : Nat → Nat} {v : am_V} {k ci : Nat} {q : List (Option Nat)} : (am_fs ad v k ci q).length = am_nf ci := by
  simp [am_fs]
end
section
/-! ===== the checker of instruction lists ===== -/
def am_d (bytes : ByteArray) (pc : Nat) (ins : Instr) (len : Nat) (is : List am_E) : Bool := decide (decode bytes pc = .ok (ins, len)) && Nat.beq (am_pcl is) (pc + len)
def am_dj (bytes : ByteArray) (pc : Nat) (ins : Instr) (len : Nat) : Bool := decide (decode bytes pc = .ok (ins, len))
def am_j (cd : List am_E) (pc : Nat) (off : Int) (t : Nat) : Bool := decide ((pc : Int) + off = ((am_pcl (cd.drop t) : Nat) : Int))
def am_fok (own : String) (idx : Nat) (wl : List Nat) (j ci : Nat) : Bool := match vwCl[ci]? with
  | some (_, T, N) => Nat.blt j N && (match wl with
    | [wi] => decide (lw_tbl[wi]? = some (.fieldLink own idx (T j).1 (T j).2.1 (T j).2.2.1)) || decide (lw_tbl[wi]? = some (.fieldLinkNest own idx (T j).1 (T j).2.1 (T j).2.2.1 "TwoKings"))
    | [wi, wj] => decide (lw_tbl[wi]? = some (.fieldLink own idx own (T j).2.1 (T j).2.2.1)) && decide (lw_tbl[wj]? = some (.sameField own (T j).1 (T j).2.1 (T j).2.2.1))
    | _ => false)
  | none => false
def am_isRT (d : String) : Bool := match parseFieldDescriptor d with
  | some (.object _) => true
  | some (.array _) => true
  | _ => false
def am_pok (own : String) (isI : Bool) (idx : Nat) (wl : List Nat) (j f ci : Nat) : Bool := match vwCl[ci]? with
  | some (_, T, N) => Nat.blt j N && ((match (T j).2.2.2 with
    | false => am_fok own idx wl j ci
    | true => isI && (decide ((T j).1 = own) && (match wl with
      | [wi] => decide (lw_tbl[wi]? = some (.fieldLink own idx (T j).1 (T j).2.1 (T j).2.2.1))
      | _ => false))) && (match f with
    | 0 => decide ((T j).2.2.1 = "I") && !am_isR ci j
    | 1 => decide ((T j).2.2.1 = "Z") && !am_isR ci j
    | _ => am_isRT (T j).2.2.1 && am_isR ci j))
  | none => false
/-- a method's row: its name, code, locals, what it returns; places of its words: code, initialized, static or instance -/
abbrev am_Y : Type := Nat → MethodName × ByteArray × Nat × Option FieldType × Nat × Nat × Nat
def am_np (d : String) : Option Nat := (parseMethodDescriptor d).map (fun d => d.parameters.length)
def am_sok (Y : am_Y) (own : String) (idx : Nat) (wl : List Nat) (n mid : Nat) : Bool := match wl with
  | [wi] => decide (am_np (Y mid).1.desc = some n ∧ mid < am_N) && (decide (lw_tbl[(Y mid).2.2.2.2.2.2]? = some (.static (Y mid).1)) && (decide (lw_tbl[wi]? = some (.methodLink own idx (Y mid).1)) || decide (lw_tbl[wi]? = some (.methodLinkNest own idx (Y mid).1 "TwoKings"))))
  | _ => false
def am_iok (Y : am_Y) (own : String) (idx : Nat) (wl : List Nat) (n mid : Nat) : Bool := match wl with
  | [wi] => decide (am_np (Y mid).1.desc = some (n - 1) ∧ mid < am_N) && (decide ((Y mid).1.name = "<init>" ∧ (Y mid).2.2.2.1 = none ∧ 1 ≤ n) && (decide (lw_tbl[(Y mid).2.2.2.2.2.2]? = some (.instanceMethod (Y mid).1)) && (decide (lw_tbl[wi]? = some (.methodLink own idx (Y mid).1)) || decide (lw_tbl[wi]? = some (.methodLinkNest own idx (Y mid).1 "TwoKings")))))
  | _ => false
/-- a virtual call: pairs (class, method); the words' places: link, sameMethod, declares, then a selects each -/
def am_vok (Y : am_Y) (own : String) (idx : Nat) (wi sm dc n : Nat) : List Nat → List Nat → Bool
  | [], _ => true
  | ci :: mid :: cs, w :: ws => (match vwCl[ci]? with
    | some (C, _, _) => decide (lw_tbl[(Y mid).2.2.2.2.2.2]? = some (.instanceMethod (Y mid).1)) && (decide (am_np (Y mid).1.desc = some (n - 1) ∧ 1 ≤ n ∧ mid < am_N) && ((decide (lw_tbl[wi]? = some (.methodLink own idx (Y mid).1)) && decide (lw_tbl[w]? = some (.selects C (Y mid).1 (Y mid).1))) || (match lw_tbl[wi]? with
      | some (.methodLink o i x) => decide (o = own ∧ i = idx) && (decide (lw_tbl[w]? = some (.selects C x (Y mid).1)) && (decide (lw_tbl[sm]? = some (.sameMethod x.cls "TwoKings$Reader" x.name x.desc)) && (decide (lw_tbl[dc]? = some (.declares ⟨"TwoKings$Reader", x.name, x.desc⟩)) && decide (am_np x.desc = some (n - 1)))))
      | _ => false)))
    | none => false) && am_vok Y own idx wi sm dc n cs ws
  | _, _ => false
def am_primN (pk : Nat) : MethodName := match pk with
  | 0 => Lib.objectInit
  | 1 => Lib.Math.max.name
  | 2 => Lib.Math.min.name
  | 3 => Lib.Math.abs.name
  | 4 => arraycopyName
  | _ => yJ0_indexOf_0f7a4
def am_pl (own : String) (i pk : Nat) (wl : List Nat) : Bool := match wl with
  | [wi] => decide (lw_tbl[wi]? = some (.methodLink own i (am_primN pk)))
  | _ => false
def am_vw (Y : am_Y) (own : String) (i n : Nat) (cs wl : List Nat) : Bool := match wl with
  | wi :: sm :: dc :: ws => am_vok Y own i wi sm dc n cs ws
  | _ => false
/-- the tables have what the primitives want -/
def am_primsOk : Bool := decide (Jvm.Cond.instanceMethod Lib.objectInit ∈ lw_tbl) && (decide (Jvm.Cond.code Lib.objectInit ⟨#[0xb1]⟩ 1 none ∈ lw_tbl) && (decide (Jvm.Cond.initialized "java/lang/Math" ∈ lw_tbl) && (decide (Jvm.Cond.static Lib.Math.max.name ∈ lw_tbl) && (decide (Jvm.Cond.static Lib.Math.min.name ∈ lw_tbl) && (decide (Jvm.Cond.static Lib.Math.abs.name ∈ lw_tbl) && (decide (Jvm.Cond.code Lib.Math.max.name Lib.Math.max.code 2 (some .int) ∈ lw_tbl) && (decide (Jvm.Cond.code Lib.Math.min.name Lib.Math.min.code 2 (some .int) ∈ lw_tbl) && (decide (Jvm.Cond.code Lib.Math.abs.name Lib.Math.abs.code 1 (some .int) ∈ lw_tbl) && (decide (Jvm.Cond.native arraycopyName ∈ lw_tbl) && (decide (Jvm.Cond.static arraycopyName ∈ lw_tbl) && decide (Jvm.Cond.initialized "java/lang/System" ∈ lw_tbl)))))))))))
theorem am_primsOk_t : am_primsOk = true := by decide +kernel
def am_lok (cd : List am_E) (pc : Nat) : List (Int × Int) → List Nat → Bool
  | [], [] => true
  | (k, o) :: ps, a :: t :: ts => decide ((Int32.ofNat a).toInt = k) && (am_j cd pc o t && am_lok cd pc ps ts)
  | _, _ => false
def am_tok (cd : List am_E) (pc : Nat) : List Int → List Nat → Bool
  | [], [] => true
  | o :: os, t :: ts => am_j cd pc o t && am_tok cd pc os ts
  | _, _ => false
def am_sxok (own : String) (idx wi : Nat) (k : Nat) : Bool := match lw_tbl[wi]? with
  | some (.stringRef o i _) => decide (o = own ∧ i = idx) && Nat.beq k (2000 + wi)
  | _ => false
def am_okb (Y : am_Y) (own : String) (bytes : ByteArray) (isI : Bool) (ret : Option FieldType) (cd : List am_E) (q : am_E) (is : List am_E) : Bool := match q with
  | (pc, ins, rs, im, wl) => match ins with
    | .iconst n => am_d bytes pc ins 1 is && decide (Int32.ofInt n = im)
    | .bipush n => am_d bytes pc ins 2 is && decide ((Int8.ofInt n).toInt32 = im)
    | .sipush n => am_d bytes pc ins 3 is && decide ((Int16.ofInt n).toInt32 = im)
    | .ldc i => am_d bytes pc ins 2 is && (match rs, wl with
      | [], [wi] => decide (lw_tbl[wi]? = some (.constant own i im))
      | [k], [wi] => am_sxok own i wi k
      | _, _ => false)
    | .ldc_w i => am_d bytes pc ins 3 is && (match wl with
      | [wi] => decide (lw_tbl[wi]? = some (.constant own i im))
      | _ => false)
    | .ldc2_w i => am_d bytes pc ins 3 is && (match wl with
      | [wi] => decide (lw_tbl[wi]? = some (.constantLong own i (-1)))
      | _ => false)
    | .lconst n => am_d bytes pc ins 1 is && decide (Int64.ofNat (n : Nat) = im.toInt64)
    | .iload_n k => am_d bytes pc ins 1 is && decide (rs = [(k : Nat)])
    | .aload_n k => am_d bytes pc ins 1 is && decide (rs = [(k : Nat)])
    | .lload_n k => am_d bytes pc ins 1 is && decide (rs = [(k : Nat)])
    | .istore_n k => am_d bytes pc ins 1 is && decide (rs = [(k : Nat)])
    | .astore_n k => am_d bytes pc ins 1 is && decide (rs = [(k : Nat)])
    | .lstore_n k => am_d bytes pc ins 1 is && decide (rs = [(k : Nat)])
    | .iload k => am_d bytes pc ins 2 is && decide (rs = [k])
    | .aload k => am_d bytes pc ins 2 is && decide (rs = [k])
    | .lload k => am_d bytes pc ins 2 is && decide (rs = [k])
    | .istore k => am_d bytes pc ins 2 is && decide (rs = [k])
    | .astore k => am_d bytes pc ins 2 is && decide (rs = [k])
    | .lstore k => am_d bytes pc ins 2 is && decide (rs = [k])
    | .iinc k n => am_d bytes pc ins 3 is && decide (rs = [k] ∧ Int32.ofInt n = im)
    | .goto off => am_dj bytes pc ins 3 && (match rs with
      | [t] => am_j cd pc off t
      | _ => false)
    | .if_icmp _ off => am_d bytes pc ins 3 is && (match rs with
      | [t] => am_j cd pc off t
      | _ => false)
    | .ifCond _ off => am_d bytes pc ins 3 is && (match rs with
      | [t] => am_j cd pc off t
      | _ => false)
    | .tableswitch dflt lo hi offs => (match decode bytes pc with
      | .ok (i, _) => decide (i = ins)
      | .error _ => false) && (match rs with
      | d :: ts => am_j cd pc dflt d && (am_tok cd pc offs.toList ts && decide (im.toInt = lo ∧ hi = lo + (ts.length : Int) - 1 ∧ 0 ≤ lo ∧ hi < 1000))
      | _ => false)
    | .lookupswitch dflt ps => (match decode bytes pc with
      | .ok (i, _) => decide (i = ins)
      | .error _ => false) && (match rs with
      | d :: ts => am_j cd pc dflt d && (am_lok cd pc ps.toList ts && (ps.toList.zip (ps.toList.drop 1)).all (fun (a, next) => a.1 < next.1))
      | _ => false)
    | .getfield i => am_d bytes pc ins 3 is && (match rs with
      | j :: f :: cs => cs.all (fun ci => am_fok own i wl j ci && (Nat.blt ci 100 && (match f with
        | 0 => !am_isR ci j
        | _ => am_isR ci j)))
      | _ => false)
    | .putfield i => am_d bytes pc ins 3 is && (match rs with
      | j :: f :: cs => cs.all (fun ci => am_pok own isI i wl j f ci && Nat.blt ci 100)
      | _ => false)
    | .getstatic i => am_d bytes pc ins 3 is && (match rs, wl with
      | [k], [wi] => decide (k = 1001) && decide (lw_tbl[wi]? = some (.fieldLink own i "TwoKings$Lane" "WEIGHT" "[I"))
      | _, _ => false)
    | .invokestatic i => am_d bytes pc ins 3 is && (match rs with
      | [0, n, mid] => am_sok Y own i wl n mid
      | [2, pk] => Nat.ble 1 pk && (Nat.ble pk 4 && am_pl own i pk wl)
      | _ => false)
    | .invokespecial i => am_d bytes pc ins 3 is && (match rs with
      | [3, n, mid, _, _] => am_iok Y own i wl n mid
      | [2, pk] => Nat.beq pk 0 && am_pl own i 0 wl
      | _ => false)
    | .invokevirtual i => am_d bytes pc ins 3 is && (match rs with
      | 1 :: n :: cs => am_vw Y own i n cs wl
      | [2, pk] => Nat.beq pk 5 && am_pl own i 5 wl
      | _ => false)
    | .ireturn => am_dj bytes pc ins 1 && (match rs with
      | [0] => decide (ret = some .int)
      | [1] => decide (ret = some .boolean)
      | _ => false)
    | .lreturn => am_dj bytes pc ins 1 && decide (ret = some .long)
    | .areturn => am_dj bytes pc ins 1 && (match ret with
      | some (.object _) => true
      | _ => false)
    | .return_ => am_dj bytes pc ins 1 && decide (ret = none)
    | .new i => am_d bytes pc ins 3 is && (match rs, wl with
      | [ci, n], [wi, wj, wk] => (match vwCl[ci]? with
        | some (C, _, N) => decide (n = N ∧ ci < 100) && (decide (lw_tbl[wi]? = some (.classLink own i C)) && (decide (lw_tbl[wj]? = some (.instantiable C N)) && decide (lw_tbl[wk]? = some (.initialized C))))
        | none => false)
      | _, _ => false)
    | .newarray ty => am_d bytes pc ins 2 is && (match rs, wl with
      | [kd, n], [wi] => decide (im.toNatClampNeg = n ∧ ¬ im < 0 ∧ n ≤ 100000) && (decide (lw_tbl[wi]? = some (.arrayClass (newarray.typeOf ty))) && decide ((kd = 100 ∧ ty = .int) ∨ (kd = 101 ∧ ty = .boolean) ∨ (kd = 102 ∧ ty = .byte) ∨ (kd = 103 ∧ ty = .long)))
      | _, _ => false)
    | .multianewarray i k => am_d bytes pc ins 4 is && (match rs, wl with
      | [n, n2], [wi, wj, wk] => decide (im.toNatClampNeg = n ∧ ¬ im < 0 ∧ n2 = n ∧ n ≤ 1000 ∧ k = 2) && (decide (lw_tbl[wi]? = some (.classLink own i "[[I")) && (decide (lw_tbl[wj]? = some (.arrayOver (.array .int))) && decide (lw_tbl[wk]? = some (.arrayClass .int))))
      | _, _ => false)
    | _ => am_d bytes pc ins 1 is
/-- all of a list -/
def am_chk (Y : am_Y) (own : String) (bytes : ByteArray) (isI : Bool) (ret : Option FieldType) (cd : List am_E) : List am_E → Bool
  | [] => true
  | q :: is => am_okb Y own bytes isI ret cd q is && am_chk Y own bytes isI ret cd is
theorem am_chk_suf {Y : am_Y} {own : String} {bytes : ByteArray} {isI : Bool} {ret : Option FieldType} {cd : List am_E} : ∀ (l : List am_E), am_chk Y own bytes isI ret cd l = true → ∀ (q : am_E) (is : List am_E), (q :: is) <:+ l → am_okb Y own bytes isI ret cd q is = true
  | [], _, q, is, h => by
    have := h.length_le
    simp at this
  | a :: l, hc, q, is, h => by
    have h2 := (Bool.and_eq_true _ _).mp hc
    rcases List.suffix_cons_iff.mp h with h3 | h3
    · cases h3
      exact h2.1
    · exact am_chk_suf l h2.2 q is h3
end
section
def am_str (i : Nat) : Nat := 2000 + i
/-! ===== the relation between configurations and the machine's states; a theorem an instruction ===== -/
/-- constants: arrays of ints, the static row, the texts -/
def am_CU (K : am_K) (ad0 : Nat → Nat) (B : Nat) (U : State) (H : Heap) : Prop := (∀ (k n : Nat) (f : Nat → Int32), K k = some (n, f) → 1000 ≤ k ∧ va_X (ad0 k) n f U H ∧ ad0 k < B) ∧ va_Z "TwoKings$Lane" "WEIGHT" "[I" (.ref (ad0 1001)) (fun a => B ≤ a) U H ∧ ∀ (i : Nat) (o : String) (j : Nat) (tx : String), lw_tbl[i]? = some (.stringRef o j tx) → vk_R o j tx (ad0 (am_str i)) U
def am_Rel (s : State) (D : va_G) (cA : Nat → ClassId) (B : Nat) (cd : List am_E) (nL mc ms n0 : Nat) (ad0 : Nat → Nat) (q : am_C) (ad : Nat → Nat) (H : Heap) (locs : List Loc) (la : Array Slot) : Prop :=
  (q.1 <:+ cd ∧ (mc = 0 → ad = ad0) ∧ (∀ k, (k < n0 ∨ 1000 ≤ k) → ad k = ad0 k) ∧ n0 ≤ q.2.2.2.1.1.length ∧ q.2.2.2.2.1 ≤ mc ∧ q.2.2.2.2.2 ≤ ms) ∧ va_P D vwCl (am_cw cA ad q.2.2.2.1) H ∧ va_D (fun a => B ≤ a) (am_cw cA ad q.2.2.2.1) ∧ va_S (fun a => B ≤ a) s.heap H locs ∧ am_LV ad q.2.1 la nL
def am_PW (p : Program) (l : Launch) (e : Env) (R : Room) (s : State) (m : MethodId) (args : Array Value) (below : List Frame) (meth : Method) (c : Code) (Qf : State → Prop) (D : va_G) (cA : Nat → ClassId) (B : Nat) (cd : List am_E) (nL mc ms n0 : Nat) (ad0 : Nat → Nat) (q : am_C) : Prop :=
  ∀ (ad : Nat → Nat) (H : Heap) (locs : List Loc) (la : Array Slot), am_Rel s D cA B cd nL mc ms n0 ad0 q ad H locs la → W p l e R s m args below meth c H locs q.2.2.2.2.1 q.2.2.2.2.2 Qf (F0 m (am_pcl q.1) la (q.2.2.1.map (am_v ad)))
def am_CX (p : Program) (R : Room) (s : State) (m : MethodId) (meth : Method) (c : Code) (D : va_G) (cA : Nat → ClassId) (B : Nat) (cd : List am_E) (nL mc ms : Nat) (ad0 : Nat → Nat) (K : am_K) (own : String) (bytes : ByteArray) (isI : Bool) (ret : Option FieldType) (Y : am_Y) : Prop :=
  p.tables.exec = Jvm.exec ∧ c.code = bytes ∧ c.maxLocals = nL ∧ s.vm.findClass own = some m.cls ∧ (isI = true → meth.name = "<init>") ∧ am_TW s ∧ va_K D vwCl (am_tys cA) s ∧ am_CU K ad0 B s s.heap ∧ B ≤ s.heap.size ∧ (mc ≤ R.cells ∧ ms ≤ R.slots) ∧ (8 ≤ R.frames ∧ 400 ≤ R.locals) ∧ ∀ (q : am_E) (is : List am_E), (q :: is) <:+ cd → am_okb Y own bytes isI ret cd q is = true
theorem am_Rel.go {s : State} {D : va_G} {cA : Nat → ClassId} {B : Nat} {cd : List am_E} {nL mc ms n0 : Nat} {ad0 : Nat → Nat} {i1 is : List am_E} {ls : am_L} {st st2 : List Value} {hp : am_H} {nc ns : Nat} {ad : Nat → Nat} {H : Heap} {locs : List Loc} {la : Array Slot} (hr : am_Rel s D cA B cd nL mc ms n0 ad0 (i1, ls, st, hp, nc, ns) ad H locs la) (hs : is <:+ cd) : am_Rel s D cA B cd nL mc ms n0 ad0 (is, ls, st2, hp, nc, ns) ad H locs la := ⟨⟨hs, hr.1.2⟩, hr.2⟩
theorem am_Rel.tl {s : State} {D : va_G} {cA : Nat → ClassId} {B : Nat} {cd : List am_E} {nL mc ms n0 : Nat} {ad0 : Nat → Nat} {q : am_E} {is : List am_E} {ls : am_L} {st st2 : List Value} {hp : am_H} {nc ns : Nat} {ad : Nat → Nat} {H : Heap} {locs : List Loc} {la : Array Slot} (hr : am_Rel s D cA B cd nL mc ms n0 ad0 (q :: is, ls, st, hp, nc, ns) ad H locs la) : am_Rel s D cA B cd nL mc ms n0 ad0 (is, ls, st2, hp, nc, ns) ad H locs la := hr.go ((List.suffix_cons _ _).trans hr.1.1)
theorem am_Rel.lv {s : State} {D : va_G} {cA : Nat → ClassId} {B : Nat} {cd : List am_E} {nL mc ms n0 : Nat} {ad0 : Nat → Nat} {q : am_E} {is : List am_E} {ls l2 : am_L} {st st2 : List Value} {hp : am_H} {nc ns : Nat} {ad : Nat → Nat} {H : Heap} {locs : List Loc} {la la2 : Array Slot} (hr : am_Rel s D cA B cd nL mc ms n0 ad0 (q :: is, ls, st, hp, nc, ns) ad H locs la) (h : am_LV ad l2 la2 nL) : am_Rel s D cA B cd nL mc ms n0 ad0 (is, l2, st2, hp, nc, ns) ad H locs la2 := ⟨⟨(List.suffix_cons _ _).trans hr.1.1, hr.1.2⟩, hr.2.1, hr.2.2.1, hr.2.2.2.1, h⟩
theorem am_d_spec {bytes : ByteArray} {pc : Nat} {ins : Instr} {len : Nat} {is : List am_E} (h : am_d bytes pc ins len is = true) : decode bytes pc = .ok (ins, len) ∧ am_pcl is = pc + len := by
  have h2 := (Bool.and_eq_true _ _).mp h
  exact ⟨of_decide_eq_true h2.1, Nat.eq_of_beq_eq_true h2.2⟩
theorem am_j_spec {cd : List am_E} {pc t : Nat} {off : Int} (h : am_j cd pc off t = true) : (pc : Int) + off = ((am_pcl (cd.drop t) : Nat) : Int) := of_decide_eq_true h
/-- the locals as a list of pairs -/
def am_lp (ad : Nat → Nat) : Nat → am_L → List (Nat × Value)
  | _, [] => []
  | i, none :: l => am_lp ad (i + 1) l
  | i, some v :: l => (i, am_v ad v) :: am_lp ad (i + 1) l
theorem am_lp_mem {ad : Nat → Nat} : ∀ (l : am_L) (i : Nat) (q : Nat × Value), q ∈ am_lp ad i l ↔ ∃ (j : Nat) (v : Value), am_get l j = some v ∧ q = (i + j, am_v ad v)
  | [], i, q => by simp [am_lp, am_get]
  | none :: l, i, q => by
    rw [show am_lp ad i (none :: l) = am_lp ad (i + 1) l from rfl, am_lp_mem l (i + 1) q]
    constructor
    · rintro ⟨j, v, h1, h2⟩
      exact ⟨j + 1, v, h1, by rw [h2]; congr 1; omega⟩
    · rintro ⟨j, v, h1, h2⟩
      cases j with
      | zero => cases h1
      | succ j => exact ⟨j, v, h1, by rw [h2]; congr 1; omega⟩
  | some w :: l, i, q => by
    rw [show am_lp ad i (some w :: l) = (i, am_v ad w) :: am_lp ad (i + 1) l from rfl, List.mem_cons, am_lp_mem l (i + 1) q]
    constructor
    · rintro (h | ⟨j, v, h1, h2⟩)
      · exact ⟨0, w, rfl, h⟩
      · exact ⟨j + 1, v, h1, by rw [h2]; congr 1; omega⟩
    · rintro ⟨j, v, h1, h2⟩
      cases j with
      | zero => cases h1; exact Or.inl h2
      | succ j => exact Or.inr ⟨j, v, h1, by rw [h2]; congr 1; omega⟩
theorem am_LV.get {ad : Nat → Nat} {ls : am_L} {la : Array Slot} {nL : Nat} (h : am_LV ad ls la nL) {i : Nat} {v : Value} (hg : am_get ls i = some v) : la[i]? = some (.val (am_v ad v)) := h.2.2.1 i v hg
theorem am_set_len2 : ∀ {l l2 : am_L} {i : Nat} {v : Value}, am_set l i v = some l2 → l2.length = l.length
  | [], _, _, _, h => by simp [am_set] at h
  | _ :: as, l2, 0, v, h => by
    have h2 : some (some v :: as) = some l2 := h
    cases h2
    rfl
  | a :: as, l2, n + 1, v, h => by
    unfold am_set at h
    split at h
    · cases h
    · split at h
      · cases h
      · rename_i r hs
        cases h
        simp [am_set_len2 hs]
theorem am_setL_len2 : ∀ {l l2 : am_L} {i : Nat} {v : Value}, am_setL l i v = some l2 → l2.length = l.length
  | [], _, _, _, h => by simp [am_setL] at h
  | [_], l2, 0, v, h => by simp [am_setL] at h
  | _ :: b :: as, l2, 0, v, h => by
    have h2 : some (some v :: none :: as) = some l2 := h
    cases h2
    rfl
  | a :: as, l2, n + 1, v, h => by
    unfold am_setL at h
    split at h
    · cases h
    · split at h
      · cases h
      · rename_i r hs
        cases h
        simp [am_setL_len2 hs]
theorem am_set_len : ∀ {l l2 : am_L} {i : Nat} {v : Value}, am_set l i v = some l2 → i < l.length
  | [], _, _, _, h => by simp [am_set] at h
  | _ :: _, _, 0, _, _ => by simp
  | a :: as, l2, n + 1, v, h => by
    unfold am_set at h
    split at h
    · cases h
    · split at h
      · cases h
      · rename_i r hs
        have := am_set_len hs
        simp
        omega
theorem am_setL_len : ∀ {l l2 : am_L} {i : Nat} {v : Value}, am_setL l i v = some l2 → i + 1 < l.length
  | [], _, _, _, h => by simp [am_setL] at h
  | [_], _, 0, _, h => by simp [am_setL] at h
  | _ :: _ :: _, _, 0, _, _ => by simp
  | a :: as, l2, n + 1, v, h => by
    unfold am_setL at h
    split at h
    · cases h
    · split at h
      · cases h
      · rename_i r hs
        have := am_setL_len hs
        simp
        omega
theorem am_set_lt {ad : Nat → Nat} {ls l2 : am_L} {la : Array Slot} {nL i : Nat} {v : Value} (h : am_LV ad ls la nL) (hs : am_set ls i v = some l2) : i < nL := by rw [← h.2.2.2]; exact am_set_len hs
theorem am_set_ltL {ad : Nat → Nat} {ls l2 : am_L} {la : Array Slot} {nL i : Nat} {v : Value} (h : am_LV ad ls la nL) (hs : am_setL ls i v = some l2) : i + 1 < nL := by rw [← h.2.2.2]; exact am_setL_len hs
theorem am_LV.has {ad : Nat → Nat} {ls : am_L} {la : Array Slot} {nL : Nat} (h : am_LV ad ls la nL) : lv_has la nL (am_lp ad 0 ls) := by
  refine ⟨h.1, h.2.1, fun q hq => ?_⟩
  obtain ⟨j, v, h1, rfl⟩ := (am_lp_mem ls 0 q).mp hq
  rw [Nat.zero_add]
  exact h.get h1
theorem am_get_set : ∀ {l l2 : am_L} {i : Nat} {v : Value}, am_set l i v = some l2 → ∀ (j : Nat) (w : Value), am_get l2 j = some w → (j = i ∧ w = v) ∨ (j ≠ i ∧ am_get l j = some w ∧ (j + 1 = i → am_isL (some w) = false))
  | [], _, _, _, h, _, _, _ => by simp [am_set] at h
  | _ :: as, l2, 0, v, h, j, w, hw => by
    have h2 : some (some v :: as) = some l2 := h
    cases h2
    cases j with
    | zero => exact Or.inl ⟨rfl, (Option.some.inj hw).symm⟩
    | succ j => exact Or.inr ⟨by omega, hw, by omega⟩
  | a :: as, l2, n + 1, v, h, j, w, hw => by
    unfold am_set at h
    split at h
    · cases h
    · rename_i hb
      split at h
      · cases h
      · rename_i r hs
        cases h
        cases j with
        | zero =>
          refine Or.inr ⟨by omega, hw, fun hj => ?_⟩
          have hn : n = 0 := by omega
          subst hn
          have ha : a = some w := hw
          rw [ha] at hb
          simpa using hb
        | succ j =>
          rcases am_get_set hs j w hw with ⟨h1, h2⟩ | ⟨h1, h2, h3⟩
          · exact Or.inl ⟨by omega, h2⟩
          · exact Or.inr ⟨by omega, h2, fun hj => h3 (by omega)⟩
theorem am_get_setL : ∀ {l l2 : am_L} {i : Nat} {v : Value}, am_setL l i v = some l2 → ∀ (j : Nat) (w : Value), am_get l2 j = some w → (j = i ∧ w = v) ∨ (j ≠ i ∧ j ≠ i + 1 ∧ am_get l j = some w ∧ (j + 1 = i → am_isL (some w) = false))
  | [], _, _, _, h, _, _, _ => by simp [am_setL] at h
  | _ :: [], l2, 0, v, h, j, w, hw => by simp [am_setL] at h
  | _ :: b :: as, l2, 0, v, h, j, w, hw => by
    have h2 : some (some v :: none :: as) = some l2 := h
    cases h2
    cases j with
    | zero => exact Or.inl ⟨rfl, (Option.some.inj hw).symm⟩
    | succ j => cases j with
      | zero => cases hw
      | succ j => exact Or.inr ⟨by omega, by omega, hw, by omega⟩
  | a :: as, l2, n + 1, v, h, j, w, hw => by
    unfold am_setL at h
    split at h
    · cases h
    · rename_i hb
      split at h
      · cases h
      · rename_i r hs
        cases h
        cases j with
        | zero =>
          refine Or.inr ⟨by omega, by omega, hw, fun hj => ?_⟩
          have hn : n = 0 := by omega
          subst hn
          have ha : a = some w := hw
          rw [ha] at hb
          simpa using hb
        | succ j =>
          rcases am_get_setL hs j w hw with ⟨h1, h2⟩ | ⟨h1, h2, h3, h4⟩
          · exact Or.inl ⟨by omega, h2⟩
          · exact Or.inr ⟨by omega, by omega, h3, fun hj => h4 (by omega)⟩
theorem am_v_cat (ad : Nat → Nat) (w : Value) : (am_v ad w).category = w.category := by cases w <;> rfl
theorem am_isL_cat {w : Value} (h : am_isL (some w) = false) : ¬ w.category = 2 := by cases w <;> simp [Value.category, am_isL] at h ⊢
/-- behind a store of one word -/
theorem am_LV.st {ad : Nat → Nat} {ls l2 : am_L} {la2 : Array Slot} {nL i : Nat} {v : Value} (hlen : ls.length = nL) (hs : am_set ls i v = some l2) (h2 : lv_has la2 nL ((i, am_v ad v) :: (am_lp ad 0 ls).filter (fun q => !(q.1 == i) && !(q.1 + 1 == i && q.2.category == 2)))) : am_LV ad l2 la2 nL := by
  refine ⟨h2.1, h2.2.1, fun j w hw => ?_, (am_set_len2 hs).trans hlen⟩
  rcases am_get_set hs j w hw with ⟨rfl, rfl⟩ | ⟨hj, hg, hL⟩
  · exact h2.2.2 (j, am_v ad w) List.mem_cons_self
  · refine h2.2.2 (j, am_v ad w) (List.mem_cons_of_mem _ (List.mem_filter.mpr ⟨(am_lp_mem ls 0 _).mpr ⟨j, w, hg, by rw [Nat.zero_add]⟩, ?_⟩))
    by_cases hji : j + 1 = i
    · have := am_isL_cat (hL hji)
      simp [hj, am_v_cat, this]
    · simp [hj, hji]
theorem am_LV.stL {ad : Nat → Nat} {ls l2 : am_L} {la2 : Array Slot} {nL i : Nat} {v : Value} (hlen : ls.length = nL) (hs : am_setL ls i v = some l2) (h2 : lv_has la2 nL ((i, am_v ad v) :: (am_lp ad 0 ls).filter (fun q => !(q.1 == i) && (!(q.1 == i + 1) && !(q.1 + 1 == i && q.2.category == 2))))) : am_LV ad l2 la2 nL := by
  refine ⟨h2.1, h2.2.1, fun j w hw => ?_, (am_setL_len2 hs).trans hlen⟩
  rcases am_get_setL hs j w hw with ⟨rfl, rfl⟩ | ⟨hj, hj2, hg, hL⟩
  · exact h2.2.2 (j, am_v ad w) List.mem_cons_self
  · refine h2.2.2 (j, am_v ad w) (List.mem_cons_of_mem _ (List.mem_filter.mpr ⟨(am_lp_mem ls 0 _).mpr ⟨j, w, hg, by rw [Nat.zero_add]⟩, ?_⟩))
    by_cases hji : j + 1 = i
    · have := am_isL_cat (hL hji)
      simp [hj, hj2, am_v_cat, this]
    · simp [hj, hj2, hji]
set_option maxHeartbeats 1000000 in
theorem am_s_iconst {p : Program} {l : Launch} {e : Env} {R : Room} {s : State} {m : MethodId} {args : Array Value} {below : List Frame} {meth : Method} {c : Code} {Qf : State → Prop} {D : va_G} {cA : Nat → ClassId} {B : Nat} {cd : List am_E} {nL mc ms n0 : Nat} {ad0 : Nat → Nat} {K : am_K} {I : am_I} {Tc : am_T} {Q : Option Value → am_H → Prop} {own : String} {bytes : ByteArray} {isI : Bool} {ret : Option FieldType} {Y : am_Y} (X : am_CX p R s m meth c D cA B cd nL mc ms ad0 K own bytes isI ret Y) {pc : Nat} {n : Int} {rs : List Nat} {im : Int32} {wl : List Nat} {is : List am_E} {ls : am_L} {st : List Value} {hp : am_H} {nc ns : Nat} (h : am_step K I Tc cd mc ms Q (am_PW p l e R s m args below meth c Qf D cA B cd nL mc ms n0 ad0) ((pc, .iconst n, rs, im, wl) :: is, ls, st, hp, nc, ns)) : (am_PW p l e R s m args below meth c Qf D cA B cd nL mc ms n0 ad0) ((pc, .iconst n, rs, im, wl) :: is, ls, st, hp, nc, ns) := by
  intro ad H locs la hr
  obtain ⟨hx, hb, hml, hown, hisI, hTW, hK, hCU, hBs, hRc, hRf, hV⟩ := X
  have hok := hV _ _ hr.1.1
  obtain ⟨hd, hv⟩ := (Bool.and_eq_true _ _).mp hok
  obtain ⟨hdg, hpc⟩ := am_d_spec hd
  have k := h ad H locs la hr.tl
  dsimp only at k
  rw [hpc] at k
  exact lv_iconst hx hb hdg (of_decide_eq_true hv) k
set_option maxHeartbeats 1000000 in
theorem am_s_bipush {p : Program} {l : Launch} {e : Env} {R : Room} {s : State} {m : MethodId} {args : Array Value} {below : List Frame} {meth : Method} {c : Code} {Qf : State → Prop} {D : va_G} {cA : Nat → ClassId} {B : Nat} {cd : List am_E} {nL mc ms n0 : Nat} {ad0 : Nat → Nat} {K : am_K} {I : am_I} {Tc : am_T} {Q : Option Value → am_H → Prop} {own : String} {bytes : ByteArray} {isI : Bool} {ret : Option FieldType} {Y : am_Y} (X : am_CX p R s m meth c D cA B cd nL mc ms ad0 K own bytes isI ret Y) {pc : Nat} {n : Int} {rs : List Nat} {im : Int32} {wl : List Nat} {is : List am_E} {ls : am_L} {st : List Value} {hp : am_H} {nc ns : Nat} (h : am_step K I Tc cd mc ms Q (am_PW p l e R s m args below meth c Qf D cA B cd nL mc ms n0 ad0) ((pc, .bipush n, rs, im, wl) :: is, ls, st, hp, nc, ns)) : (am_PW p l e R s m args below meth c Qf D cA B cd nL mc ms n0 ad0) ((pc, .bipush n, rs, im, wl) :: is, ls, st, hp, nc, ns) := by
  intro ad H locs la hr
  obtain ⟨hx, hb, hml, hown, hisI, hTW, hK, hCU, hBs, hRc, hRf, hV⟩ := X
  have hok := hV _ _ hr.1.1
  obtain ⟨hd, hv⟩ := (Bool.and_eq_true _ _).mp hok
  obtain ⟨hdg, hpc⟩ := am_d_spec hd
  have k := h ad H locs la hr.tl
  dsimp only at k
  rw [hpc] at k
  exact lv_bipush hx hb hdg (of_decide_eq_true hv) k
set_option maxHeartbeats 1000000 in
theorem am_s_sipush {p : Program} {l : Launch} {e : Env} {R : Room} {s : State} {m : MethodId} {args : Array Value} {below : List Frame} {meth : Method} {c : Code} {Qf : State → Prop} {D : va_G} {cA : Nat → ClassId} {B : Nat} {cd : List am_E} {nL mc ms n0 : Nat} {ad0 : Nat → Nat} {K : am_K} {I : am_I} {Tc : am_T} {Q : Option Value → am_H → Prop} {own : String} {bytes : ByteArray} {isI : Bool} {ret : Option FieldType} {Y : am_Y} (X : am_CX p R s m meth c D cA B cd nL mc ms ad0 K own bytes isI ret Y) {pc : Nat} {n : Int} {rs : List Nat} {im : Int32} {wl : List Nat} {is : List am_E} {ls : am_L} {st : List Value} {hp : am_H} {nc ns : Nat} (h : am_step K I Tc cd mc ms Q (am_PW p l e R s m args below meth c Qf D cA B cd nL mc ms n0 ad0) ((pc, .sipush n, rs, im, wl) :: is, ls, st, hp, nc, ns)) : (am_PW p l e R s m args below meth c Qf D cA B cd nL mc ms n0 ad0) ((pc, .sipush n, rs, im, wl) :: is, ls, st, hp, nc, ns) := by
  intro ad H locs la hr
  obtain ⟨hx, hb, hml, hown, hisI, hTW, hK, hCU, hBs, hRc, hRf, hV⟩ := X
  have hok := hV _ _ hr.1.1
  obtain ⟨hd, hv⟩ := (Bool.and_eq_true _ _).mp hok
  obtain ⟨hdg, hpc⟩ := am_d_spec hd
  have k := h ad H locs la hr.tl
  dsimp only at k
  rw [hpc] at k
  exact lv_sipush hx hb hdg (of_decide_eq_true hv) k
set_option maxHeartbeats 1000000 in
theorem am_s_lconst {p : Program} {l : Launch} {e : Env} {R : Room} {s : State} {m : MethodId} {args : Array Value} {below : List Frame} {meth : Method} {c : Code} {Qf : State → Prop} {D : va_G} {cA : Nat → ClassId} {B : Nat} {cd : List am_E} {nL mc ms n0 : Nat} {ad0 : Nat → Nat} {K : am_K} {I : am_I} {Tc : am_T} {Q : Option Value → am_H → Prop} {own : String} {bytes : ByteArray} {isI : Bool} {ret : Option FieldType} {Y : am_Y} (X : am_CX p R s m meth c D cA B cd nL mc ms ad0 K own bytes isI ret Y) {pc : Nat} {n : Fin 2} {rs : List Nat} {im : Int32} {wl : List Nat} {is : List am_E} {ls : am_L} {st : List Value} {hp : am_H} {nc ns : Nat} (h : am_step K I Tc cd mc ms Q (am_PW p l e R s m args below meth c Qf D cA B cd nL mc ms n0 ad0) ((pc, .lconst n, rs, im, wl) :: is, ls, st, hp, nc, ns)) : (am_PW p l e R s m args below meth c Qf D cA B cd nL mc ms n0 ad0) ((pc, .lconst n, rs, im, wl) :: is, ls, st, hp, nc, ns) := by
  intro ad H locs la hr
  obtain ⟨hx, hb, hml, hown, hisI, hTW, hK, hCU, hBs, hRc, hRf, hV⟩ := X
  have hok := hV _ _ hr.1.1
  obtain ⟨hd, hv⟩ := (Bool.and_eq_true _ _).mp hok
  obtain ⟨hdg, hpc⟩ := am_d_spec hd
  have k := h ad H locs la hr.tl
  dsimp only at k
  rw [hpc] at k
  exact lv_lconst hx hb hdg (of_decide_eq_true hv) k
set_option maxHeartbeats 1000000 in
theorem am_s_iload_n {p : Program} {l : Launch} {e : Env} {R : Room} {s : State} {m : MethodId} {args : Array Value} {below : List Frame} {meth : Method} {c : Code} {Qf : State → Prop} {D : va_G} {cA : Nat → ClassId} {B : Nat} {cd : List am_E} {nL mc ms n0 : Nat} {ad0 : Nat → Nat} {K : am_K} {I : am_I} {Tc : am_T} {Q : Option Value → am_H → Prop} {own : String} {bytes : ByteArray} {isI : Bool} {ret : Option FieldType} {Y : am_Y} (X : am_CX p R s m meth c D cA B cd nL mc ms ad0 K own bytes isI ret Y) {pc : Nat} {k : Fin 4} {rs : List Nat} {im : Int32} {wl : List Nat} {is : List am_E} {ls : am_L} {st : List Value} {hp : am_H} {nc ns : Nat} (h : am_step K I Tc cd mc ms Q (am_PW p l e R s m args below meth c Qf D cA B cd nL mc ms n0 ad0) ((pc, .iload_n k, rs, im, wl) :: is, ls, st, hp, nc, ns)) : (am_PW p l e R s m args below meth c Qf D cA B cd nL mc ms n0 ad0) ((pc, .iload_n k, rs, im, wl) :: is, ls, st, hp, nc, ns) := by
  intro ad H locs la hr
  obtain ⟨hx, hb, hml, hown, hisI, hTW, hK, hCU, hBs, hRc, hRf, hV⟩ := X
  have hok := hV _ _ hr.1.1
  obtain ⟨hd, hv⟩ := (Bool.and_eq_true _ _).mp hok
  obtain ⟨hdg, hpc⟩ := am_d_spec hd
  have hrs := of_decide_eq_true hv
  subst hrs
  dsimp only [am_step] at h
  split at h
  · rename_i x hg
    have k := h ad H locs la hr.tl
    dsimp only at k
    rw [hpc] at k
    exact lv_iload_n hx hb hdg rfl (hr.2.2.2.2.get hg) k
  · exact h.elim
set_option maxHeartbeats 1000000 in
theorem am_s_iload {p : Program} {l : Launch} {e : Env} {R : Room} {s : State} {m : MethodId} {args : Array Value} {below : List Frame} {meth : Method} {c : Code} {Qf : State → Prop} {D : va_G} {cA : Nat → ClassId} {B : Nat} {cd : List am_E} {nL mc ms n0 : Nat} {ad0 : Nat → Nat} {K : am_K} {I : am_I} {Tc : am_T} {Q : Option Value → am_H → Prop} {own : String} {bytes : ByteArray} {isI : Bool} {ret : Option FieldType} {Y : am_Y} (X : am_CX p R s m meth c D cA B cd nL mc ms ad0 K own bytes isI ret Y) {pc : Nat} {k : Nat} {rs : List Nat} {im : Int32} {wl : List Nat} {is : List am_E} {ls : am_L} {st : List Value} {hp : am_H} {nc ns : Nat} (h : am_step K I Tc cd mc ms Q (am_PW p l e R s m args below meth c Qf D cA B cd nL mc ms n0 ad0) ((pc, .iload k, rs, im, wl) :: is, ls, st, hp, nc, ns)) : (am_PW p l e R s m args below meth c Qf D cA B cd nL mc ms n0 ad0) ((pc, .iload k, rs, im, wl) :: is, ls, st, hp, nc, ns) := by
  intro ad H locs la hr
  obtain ⟨hx, hb, hml, hown, hisI, hTW, hK, hCU, hBs, hRc, hRf, hV⟩ := X
  have hok := hV _ _ hr.1.1
  obtain ⟨hd, hv⟩ := (Bool.and_eq_true _ _).mp hok
  obtain ⟨hdg, hpc⟩ := am_d_spec hd
  have hrs := of_decide_eq_true hv
  subst hrs
  dsimp only [am_step] at h
  split at h
  · rename_i x hg
    have k := h ad H locs la hr.tl
    dsimp only at k
    rw [hpc] at k
    exact lv_iload hx hb hdg (hr.2.2.2.2.get hg) k
  · exact h.elim
set_option maxHeartbeats 1000000 in
theorem am_s_aload_n {p : Program} {l : Launch} {e : Env} {R : Room} {s : State} {m : MethodId} {args : Array Value} {below : List Frame} {meth : Method} {c : Code} {Qf : State → Prop} {D : va_G} {cA : Nat → ClassId} {B : Nat} {cd : List am_E} {nL mc ms n0 : Nat} {ad0 : Nat → Nat} {K : am_K} {I : am_I} {Tc : am_T} {Q : Option Value → am_H → Prop} {own : String} {bytes : ByteArray} {isI : Bool} {ret : Option FieldType} {Y : am_Y} (X : am_CX p R s m meth c D cA B cd nL mc ms ad0 K own bytes isI ret Y) {pc : Nat} {k : Fin 4} {rs : List Nat} {im : Int32} {wl : List Nat} {is : List am_E} {ls : am_L} {st : List Value} {hp : am_H} {nc ns : Nat} (h : am_step K I Tc cd mc ms Q (am_PW p l e R s m args below meth c Qf D cA B cd nL mc ms n0 ad0) ((pc, .aload_n k, rs, im, wl) :: is, ls, st, hp, nc, ns)) : (am_PW p l e R s m args below meth c Qf D cA B cd nL mc ms n0 ad0) ((pc, .aload_n k, rs, im, wl) :: is, ls, st, hp, nc, ns) := by
  intro ad H locs la hr
  obtain ⟨hx, hb, hml, hown, hisI, hTW, hK, hCU, hBs, hRc, hRf, hV⟩ := X
  have hok := hV _ _ hr.1.1
  obtain ⟨hd, hv⟩ := (Bool.and_eq_true _ _).mp hok
  obtain ⟨hdg, hpc⟩ := am_d_spec hd
  have hrs := of_decide_eq_true hv
  subst hrs
  dsimp only [am_step] at h
  split at h
  · rename_i x hg
    have k := h ad H locs la hr.tl
    dsimp only at k
    rw [hpc] at k
    exact lv_aload_n hx hb hdg rfl (hr.2.2.2.2.get hg) k
  · exact h.elim
set_option maxHeartbeats 1000000 in
theorem am_s_aload {p : Program} {l : Launch} {e : Env} {R : Room} {s : State} {m : MethodId} {args : Array Value} {below : List Frame} {meth : Method} {c : Code} {Qf : State → Prop} {D : va_G} {cA : Nat → ClassId} {B : Nat} {cd : List am_E} {nL mc ms n0 : Nat} {ad0 : Nat → Nat} {K : am_K} {I : am_I} {Tc : am_T} {Q : Option Value → am_H → Prop} {own : String} {bytes : ByteArray} {isI : Bool} {ret : Option FieldType} {Y : am_Y} (X : am_CX p R s m meth c D cA B cd nL mc ms ad0 K own bytes isI ret Y) {pc : Nat} {k : Nat} {rs : List Nat} {im : Int32} {wl : List Nat} {is : List am_E} {ls : am_L} {st : List Value} {hp : am_H} {nc ns : Nat} (h : am_step K I Tc cd mc ms Q (am_PW p l e R s m args below meth c Qf D cA B cd nL mc ms n0 ad0) ((pc, .aload k, rs, im, wl) :: is, ls, st, hp, nc, ns)) : (am_PW p l e R s m args below meth c Qf D cA B cd nL mc ms n0 ad0) ((pc, .aload k, rs, im, wl) :: is, ls, st, hp, nc, ns) := by
  intro ad H locs la hr
  obtain ⟨hx, hb, hml, hown, hisI, hTW, hK, hCU, hBs, hRc, hRf, hV⟩ := X
  have hok := hV _ _ hr.1.1
  obtain ⟨hd, hv⟩ := (Bool.and_eq_true _ _).mp hok
  obtain ⟨hdg, hpc⟩ := am_d_spec hd
  have hrs := of_decide_eq_true hv
  subst hrs
  dsimp only [am_step] at h
  split at h
  · rename_i x hg
    have k := h ad H locs la hr.tl
    dsimp only at k
    rw [hpc] at k
    exact lv_aload hx hb hdg (hr.2.2.2.2.get hg) k
  · exact h.elim
set_option maxHeartbeats 1000000 in
theorem am_s_lload_n {p : Program} {l : Launch} {e : Env} {R : Room} {s : State} {m : MethodId} {args : Array Value} {below : List Frame} {meth : Method} {c : Code} {Qf : State → Prop} {D : va_G} {cA : Nat → ClassId} {B : Nat} {cd : List am_E} {nL mc ms n0 : Nat} {ad0 : Nat → Nat} {K : am_K} {I : am_I} {Tc : am_T} {Q : Option Value → am_H → Prop} {own : String} {bytes : ByteArray} {isI : Bool} {ret : Option FieldType} {Y : am_Y} (X : am_CX p R s m meth c D cA B cd nL mc ms ad0 K own bytes isI ret Y) {pc : Nat} {k : Fin 4} {rs : List Nat} {im : Int32} {wl : List Nat} {is : List am_E} {ls : am_L} {st : List Value} {hp : am_H} {nc ns : Nat} (h : am_step K I Tc cd mc ms Q (am_PW p l e R s m args below meth c Qf D cA B cd nL mc ms n0 ad0) ((pc, .lload_n k, rs, im, wl) :: is, ls, st, hp, nc, ns)) : (am_PW p l e R s m args below meth c Qf D cA B cd nL mc ms n0 ad0) ((pc, .lload_n k, rs, im, wl) :: is, ls, st, hp, nc, ns) := by
  intro ad H locs la hr
  obtain ⟨hx, hb, hml, hown, hisI, hTW, hK, hCU, hBs, hRc, hRf, hV⟩ := X
  have hok := hV _ _ hr.1.1
  obtain ⟨hd, hv⟩ := (Bool.and_eq_true _ _).mp hok
  obtain ⟨hdg, hpc⟩ := am_d_spec hd
  have hrs := of_decide_eq_true hv
  subst hrs
  dsimp only [am_step] at h
  split at h
  · rename_i x hg
    have k := h ad H locs la hr.tl
    dsimp only at k
    rw [hpc] at k
    exact lv_lload_n hx hb hdg rfl (hr.2.2.2.2.get hg) k
  · exact h.elim
set_option maxHeartbeats 1000000 in
theorem am_s_lload {p : Program} {l : Launch} {e : Env} {R : Room} {s : State} {m : MethodId} {args : Array Value} {below : List Frame} {meth : Method} {c : Code} {Qf : State → Prop} {D : va_G} {cA : Nat → ClassId} {B : Nat} {cd : List am_E} {nL mc ms n0 : Nat} {ad0 : Nat → Nat} {K : am_K} {I : am_I} {Tc : am_T} {Q : Option Value → am_H → Prop} {own : String} {bytes : ByteArray} {isI : Bool} {ret : Option FieldType} {Y : am_Y} (X : am_CX p R s m meth c D cA B cd nL mc ms ad0 K own bytes isI ret Y) {pc : Nat} {k : Nat} {rs : List Nat} {im : Int32} {wl : List Nat} {is : List am_E} {ls : am_L} {st : List Value} {hp : am_H} {nc ns : Nat} (h : am_step K I Tc cd mc ms Q (am_PW p l e R s m args below meth c Qf D cA B cd nL mc ms n0 ad0) ((pc, .lload k, rs, im, wl) :: is, ls, st, hp, nc, ns)) : (am_PW p l e R s m args below meth c Qf D cA B cd nL mc ms n0 ad0) ((pc, .lload k, rs, im, wl) :: is, ls, st, hp, nc, ns) := by
  intro ad H locs la hr
  obtain ⟨hx, hb, hml, hown, hisI, hTW, hK, hCU, hBs, hRc, hRf, hV⟩ := X
  have hok := hV _ _ hr.1.1
  obtain ⟨hd, hv⟩ := (Bool.and_eq_true _ _).mp hok
  obtain ⟨hdg, hpc⟩ := am_d_spec hd
  have hrs := of_decide_eq_true hv
  subst hrs
  dsimp only [am_step] at h
  split at h
  · rename_i x hg
    have k := h ad H locs la hr.tl
    dsimp only at k
    rw [hpc] at k
    exact lv_lload hx hb hdg (hr.2.2.2.2.get hg) k
  · exact h.elim
set_option maxHeartbeats 1000000 in
theorem am_s_istore_n {p : Program} {l : Launch} {e : Env} {R : Room} {s : State} {m : MethodId} {args : Array Value} {below : List Frame} {meth : Method} {c : Code} {Qf : State → Prop} {D : va_G} {cA : Nat → ClassId} {B : Nat} {cd : List am_E} {nL mc ms n0 : Nat} {ad0 : Nat → Nat} {K : am_K} {I : am_I} {Tc : am_T} {Q : Option Value → am_H → Prop} {own : String} {bytes : ByteArray} {isI : Bool} {ret : Option FieldType} {Y : am_Y} (X : am_CX p R s m meth c D cA B cd nL mc ms ad0 K own bytes isI ret Y) {pc : Nat} {k : Fin 4} {rs : List Nat} {im : Int32} {wl : List Nat} {is : List am_E} {ls : am_L} {st : List Value} {hp : am_H} {nc ns : Nat} (h : am_step K I Tc cd mc ms Q (am_PW p l e R s m args below meth c Qf D cA B cd nL mc ms n0 ad0) ((pc, .istore_n k, rs, im, wl) :: is, ls, st, hp, nc, ns)) : (am_PW p l e R s m args below meth c Qf D cA B cd nL mc ms n0 ad0) ((pc, .istore_n k, rs, im, wl) :: is, ls, st, hp, nc, ns) := by
  intro ad H locs la hr
  obtain ⟨hx, hb, hml, hown, hisI, hTW, hK, hCU, hBs, hRc, hRf, hV⟩ := X
  have hok := hV _ _ hr.1.1
  obtain ⟨hd, hv⟩ := (Bool.and_eq_true _ _).mp hok
  obtain ⟨hdg, hpc⟩ := am_d_spec hd
  have hrs := of_decide_eq_true hv
  subst hrs
  dsimp only [am_step] at h
  split at h
  · rename_i i x r he
    cases he
    split at h
    · rename_i l2 hs
      refine lv_istore_n hx hb hdg rfl hr.2.2.2.2.has (am_set_lt hr.2.2.2.2 hs) rfl (fun la2 h2 => ?_)
      have k := h ad H locs la2 (hr.lv (am_LV.st hr.2.2.2.2.2.2.2 hs h2))
      dsimp only at k
      rw [hpc] at k
      exact k
    · exact h.elim
  · exact h.elim
set_option maxHeartbeats 1000000 in
theorem am_s_istore {p : Program} {l : Launch} {e : Env} {R : Room} {s : State} {m : MethodId} {args : Array Value} {below : List Frame} {meth : Method} {c : Code} {Qf : State → Prop} {D : va_G} {cA : Nat → ClassId} {B : Nat} {cd : List am_E} {nL mc ms n0 : Nat} {ad0 : Nat → Nat} {K : am_K} {I : am_I} {Tc : am_T} {Q : Option Value → am_H → Prop} {own : String} {bytes : ByteArray} {isI : Bool} {ret : Option FieldType} {Y : am_Y} (X : am_CX p R s m meth c D cA B cd nL mc ms ad0 K own bytes isI ret Y) {pc : Nat} {k : Nat} {rs : List Nat} {im : Int32} {wl : List Nat} {is : List am_E} {ls : am_L} {st : List Value} {hp : am_H} {nc ns : Nat} (h : am_step K I Tc cd mc ms Q (am_PW p l e R s m args below meth c Qf D cA B cd nL mc ms n0 ad0) ((pc, .istore k, rs, im, wl) :: is, ls, st, hp, nc, ns)) : (am_PW p l e R s m args below meth c Qf D cA B cd nL mc ms n0 ad0) ((pc, .istore k, rs, im, wl) :: is, ls, st, hp, nc, ns) := by
  intro ad H locs la hr
  obtain ⟨hx, hb, hml, hown, hisI, hTW, hK, hCU, hBs, hRc, hRf, hV⟩ := X
  have hok := hV _ _ hr.1.1
  obtain ⟨hd, hv⟩ := (Bool.and_eq_true _ _).mp hok
  obtain ⟨hdg, hpc⟩ := am_d_spec hd
  have hrs := of_decide_eq_true hv
  subst hrs
  dsimp only [am_step] at h
  split at h
  · rename_i i x r he
    cases he
    split at h
    · rename_i l2 hs
      refine lv_istore hx hb hdg hr.2.2.2.2.has (am_set_lt hr.2.2.2.2 hs) rfl (fun la2 h2 => ?_)
      have k := h ad H locs la2 (hr.lv (am_LV.st hr.2.2.2.2.2.2.2 hs h2))
      dsimp only at k
      rw [hpc] at k
      exact k
    · exact h.elim
  · exact h.elim
set_option maxHeartbeats 1000000 in
theorem am_s_astore_n {p : Program} {l : Launch} {e : Env} {R : Room} {s : State} {m : MethodId} {args : Array Value} {below : List Frame} {meth : Method} {c : Code} {Qf : State → Prop} {D : va_G} {cA : Nat → ClassId} {B : Nat} {cd : List am_E} {nL mc ms n0 : Nat} {ad0 : Nat → Nat} {K : am_K} {I : am_I} {Tc : am_T} {Q : Option Value → am_H → Prop} {own : String} {bytes : ByteArray} {isI : Bool} {ret : Option FieldType} {Y : am_Y} (X : am_CX p R s m meth c D cA B cd nL mc ms ad0 K own bytes isI ret Y) {pc : Nat} {k : Fin 4} {rs : List Nat} {im : Int32} {wl : List Nat} {is : List am_E} {ls : am_L} {st : List Value} {hp : am_H} {nc ns : Nat} (h : am_step K I Tc cd mc ms Q (am_PW p l e R s m args below meth c Qf D cA B cd nL mc ms n0 ad0) ((pc, .astore_n k, rs, im, wl) :: is, ls, st, hp, nc, ns)) : (am_PW p l e R s m args below meth c Qf D cA B cd nL mc ms n0 ad0) ((pc, .astore_n k, rs, im, wl) :: is, ls, st, hp, nc, ns) := by
  intro ad H locs la hr
  obtain ⟨hx, hb, hml, hown, hisI, hTW, hK, hCU, hBs, hRc, hRf, hV⟩ := X
  have hok := hV _ _ hr.1.1
  obtain ⟨hd, hv⟩ := (Bool.and_eq_true _ _).mp hok
  obtain ⟨hdg, hpc⟩ := am_d_spec hd
  have hrs := of_decide_eq_true hv
  subst hrs
  dsimp only [am_step] at h
  split at h
  · rename_i i x r he
    cases he
    split at h
    · rename_i l2 hs
      refine lv_astore_n hx hb hdg rfl hr.2.2.2.2.has (am_set_lt hr.2.2.2.2 hs) rfl (fun la2 h2 => ?_)
      have k := h ad H locs la2 (hr.lv (am_LV.st hr.2.2.2.2.2.2.2 hs h2))
      dsimp only at k
      rw [hpc] at k
      exact k
    · exact h.elim
  · exact h.elim
set_option maxHeartbeats 1000000 in
theorem am_s_astore {p : Program} {l : Launch} {e : Env} {R : Room} {s : State} {m : MethodId} {args : Array Value} {below : List Frame} {meth : Method} {c : Code} {Qf : State → Prop} {D : va_G} {cA : Nat → ClassId} {B : Nat} {cd : List am_E} {nL mc ms n0 : Nat} {ad0 : Nat → Nat} {K : am_K} {I : am_I} {Tc : am_T} {Q : Option Value → am_H → Prop} {own : String} {bytes : ByteArray} {isI : Bool} {ret : Option FieldType} {Y : am_Y} (X : am_CX p R s m meth c D cA B cd nL mc ms ad0 K own bytes isI ret Y) {pc : Nat} {k : Nat} {rs : List Nat} {im : Int32} {wl : List Nat} {is : List am_E} {ls : am_L} {st : List Value} {hp : am_H} {nc ns : Nat} (h : am_step K I Tc cd mc ms Q (am_PW p l e R s m args below meth c Qf D cA B cd nL mc ms n0 ad0) ((pc, .astore k, rs, im, wl) :: is, ls, st, hp, nc, ns)) : (am_PW p l e R s m args below meth c Qf D cA B cd nL mc ms n0 ad0) ((pc, .astore k, rs, im, wl) :: is, ls, st, hp, nc, ns) := by
  intro ad H locs la hr
  obtain ⟨hx, hb, hml, hown, hisI, hTW, hK, hCU, hBs, hRc, hRf, hV⟩ := X
  have hok := hV _ _ hr.1.1
  obtain ⟨hd, hv⟩ := (Bool.and_eq_true _ _).mp hok
  obtain ⟨hdg, hpc⟩ := am_d_spec hd
  have hrs := of_decide_eq_true hv
  subst hrs
  dsimp only [am_step] at h
  split at h
  · rename_i i x r he
    cases he
    split at h
    · rename_i l2 hs
      refine lv_astore hx hb hdg hr.2.2.2.2.has (am_set_lt hr.2.2.2.2 hs) rfl (fun la2 h2 => ?_)
      have k := h ad H locs la2 (hr.lv (am_LV.st hr.2.2.2.2.2.2.2 hs h2))
      dsimp only at k
      rw [hpc] at k
      exact k
    · exact h.elim
  · exact h.elim
set_option maxHeartbeats 1000000 in
theorem am_s_lstore_n {p : Program} {l : Launch} {e : Env} {R : Room} {s : State} {m : MethodId} {args : Array Value} {below : List Frame} {meth : Method} {c : Code} {Qf : State → Prop} {D : va_G} {cA : Nat → ClassId} {B : Nat} {cd : List am_E} {nL mc ms n0 : Nat} {ad0 : Nat → Nat} {K : am_K} {I : am_I} {Tc : am_T} {Q : Option Value → am_H → Prop} {own : String} {bytes : ByteArray} {isI : Bool} {ret : Option FieldType} {Y : am_Y} (X : am_CX p R s m meth c D cA B cd nL mc ms ad0 K own bytes isI ret Y) {pc : Nat} {k : Fin 4} {rs : List Nat} {im : Int32} {wl : List Nat} {is : List am_E} {ls : am_L} {st : List Value} {hp : am_H} {nc ns : Nat} (h : am_step K I Tc cd mc ms Q (am_PW p l e R s m args below meth c Qf D cA B cd nL mc ms n0 ad0) ((pc, .lstore_n k, rs, im, wl) :: is, ls, st, hp, nc, ns)) : (am_PW p l e R s m args below meth c Qf D cA B cd nL mc ms n0 ad0) ((pc, .lstore_n k, rs, im, wl) :: is, ls, st, hp, nc, ns) := by
  intro ad H locs la hr
  obtain ⟨hx, hb, hml, hown, hisI, hTW, hK, hCU, hBs, hRc, hRf, hV⟩ := X
  have hok := hV _ _ hr.1.1
  obtain ⟨hd, hv⟩ := (Bool.and_eq_true _ _).mp hok
  obtain ⟨hdg, hpc⟩ := am_d_spec hd
  have hrs := of_decide_eq_true hv
  subst hrs
  dsimp only [am_step] at h
  split at h
  · rename_i i x r he
    cases he
    split at h
    · rename_i l2 hs
      refine lv_lstore_n hx hb hdg rfl hr.2.2.2.2.has (am_set_ltL hr.2.2.2.2 hs) rfl (fun la2 h2 => ?_)
      have k := h ad H locs la2 (hr.lv (am_LV.stL hr.2.2.2.2.2.2.2 hs h2))
      dsimp only at k
      rw [hpc] at k
      exact k
    · exact h.elim
  · exact h.elim
set_option maxHeartbeats 1000000 in
theorem am_s_lstore {p : Program} {l : Launch} {e : Env} {R : Room} {s : State} {m : MethodId} {args : Array Value} {below : List Frame} {meth : Method} {c : Code} {Qf : State → Prop} {D : va_G} {cA : Nat → ClassId} {B : Nat} {cd : List am_E} {nL mc ms n0 : Nat} {ad0 : Nat → Nat} {K : am_K} {I : am_I} {Tc : am_T} {Q : Option Value → am_H → Prop} {own : String} {bytes : ByteArray} {isI : Bool} {ret : Option FieldType} {Y : am_Y} (X : am_CX p R s m meth c D cA B cd nL mc ms ad0 K own bytes isI ret Y) {pc : Nat} {k : Nat} {rs : List Nat} {im : Int32} {wl : List Nat} {is : List am_E} {ls : am_L} {st : List Value} {hp : am_H} {nc ns : Nat} (h : am_step K I Tc cd mc ms Q (am_PW p l e R s m args below meth c Qf D cA B cd nL mc ms n0 ad0) ((pc, .lstore k, rs, im, wl) :: is, ls, st, hp, nc, ns)) : (am_PW p l e R s m args below meth c Qf D cA B cd nL mc ms n0 ad0) ((pc, .lstore k, rs, im, wl) :: is, ls, st, hp, nc, ns) := by
  intro ad H locs la hr
  obtain ⟨hx, hb, hml, hown, hisI, hTW, hK, hCU, hBs, hRc, hRf, hV⟩ := X
  have hok := hV _ _ hr.1.1
  obtain ⟨hd, hv⟩ := (Bool.and_eq_true _ _).mp hok
  obtain ⟨hdg, hpc⟩ := am_d_spec hd
  have hrs := of_decide_eq_true hv
  subst hrs
  dsimp only [am_step] at h
  split at h
  · rename_i i x r he
    cases he
    split at h
    · rename_i l2 hs
      refine lv_lstore hx hb hdg hr.2.2.2.2.has (am_set_ltL hr.2.2.2.2 hs) rfl (fun la2 h2 => ?_)
      have k := h ad H locs la2 (hr.lv (am_LV.stL hr.2.2.2.2.2.2.2 hs h2))
      dsimp only at k
      rw [hpc] at k
      exact k
    · exact h.elim
  · exact h.elim
set_option maxHeartbeats 1000000 in
theorem am_s_iinc {p : Program} {l : Launch} {e : Env} {R : Room} {s : State} {m : MethodId} {args : Array Value} {below : List Frame} {meth : Method} {c : Code} {Qf : State → Prop} {D : va_G} {cA : Nat → ClassId} {B : Nat} {cd : List am_E} {nL mc ms n0 : Nat} {ad0 : Nat → Nat} {K : am_K} {I : am_I} {Tc : am_T} {Q : Option Value → am_H → Prop} {own : String} {bytes : ByteArray} {isI : Bool} {ret : Option FieldType} {Y : am_Y} (X : am_CX p R s m meth c D cA B cd nL mc ms ad0 K own bytes isI ret Y) {pc : Nat} {k : Nat} {n : Int} {rs : List Nat} {im : Int32} {wl : List Nat} {is : List am_E} {ls : am_L} {st : List Value} {hp : am_H} {nc ns : Nat} (h : am_step K I Tc cd mc ms Q (am_PW p l e R s m args below meth c Qf D cA B cd nL mc ms n0 ad0) ((pc, .iinc k n, rs, im, wl) :: is, ls, st, hp, nc, ns)) : (am_PW p l e R s m args below meth c Qf D cA B cd nL mc ms n0 ad0) ((pc, .iinc k n, rs, im, wl) :: is, ls, st, hp, nc, ns) := by
  intro ad H locs la hr
  obtain ⟨hx, hb, hml, hown, hisI, hTW, hK, hCU, hBs, hRc, hRf, hV⟩ := X
  have hok := hV _ _ hr.1.1
  obtain ⟨hd, hv⟩ := (Bool.and_eq_true _ _).mp hok
  obtain ⟨hdg, hpc⟩ := am_d_spec hd
  obtain ⟨hrs, him⟩ := of_decide_eq_true hv
  subst hrs
  dsimp only [am_step] at h
  split at h
  · rename_i x hg
    split at h
    · rename_i l2 hs
      obtain ⟨kk, hkk⟩ := List.getElem?_of_mem ((am_lp_mem (ad := ad) ls 0 (k, .int x)).mpr ⟨k, .int x, hg, by rw [Nat.zero_add]; rfl⟩)
      refine lv_iinc (v := x + im) hx hb hdg hr.2.2.2.2.has hkk (by rw [him]) (am_set_lt hr.2.2.2.2 hs) rfl (fun la2 h2 => ?_)
      have k := h ad H locs la2 (hr.lv (am_LV.st hr.2.2.2.2.2.2.2 hs h2))
      dsimp only at k
      rw [hpc] at k
      exact k
    · exact h.elim
  · exact h.elim
set_option maxHeartbeats 1000000 in
theorem am_s_iadd {p : Program} {l : Launch} {e : Env} {R : Room} {s : State} {m : MethodId} {args : Array Value} {below : List Frame} {meth : Method} {c : Code} {Qf : State → Prop} {D : va_G} {cA : Nat → ClassId} {B : Nat} {cd : List am_E} {nL mc ms n0 : Nat} {ad0 : Nat → Nat} {K : am_K} {I : am_I} {Tc : am_T} {Q : Option Value → am_H → Prop} {own : String} {bytes : ByteArray} {isI : Bool} {ret : Option FieldType} {Y : am_Y} (X : am_CX p R s m meth c D cA B cd nL mc ms ad0 K own bytes isI ret Y) {pc : Nat} {rs : List Nat} {im : Int32} {wl : List Nat} {is : List am_E} {ls : am_L} {st : List Value} {hp : am_H} {nc ns : Nat} (h : am_step K I Tc cd mc ms Q (am_PW p l e R s m args below meth c Qf D cA B cd nL mc ms n0 ad0) ((pc, .iadd, rs, im, wl) :: is, ls, st, hp, nc, ns)) : (am_PW p l e R s m args below meth c Qf D cA B cd nL mc ms n0 ad0) ((pc, .iadd, rs, im, wl) :: is, ls, st, hp, nc, ns) := by
  intro ad H locs la hr
  obtain ⟨hx, hb, hml, hown, hisI, hTW, hK, hCU, hBs, hRc, hRf, hV⟩ := X
  have hok := hV _ _ hr.1.1
  obtain ⟨hdg, hpc⟩ := am_d_spec hok
  dsimp only [am_step] at h
  split at h
  · have k := h ad H locs la hr.tl
    dsimp only at k
    rw [hpc] at k
    exact lv_iadd hx hb hdg k
  · exact h.elim
set_option maxHeartbeats 1000000 in
theorem am_s_isub {p : Program} {l : Launch} {e : Env} {R : Room} {s : State} {m : MethodId} {args : Array Value} {below : List Frame} {meth : Method} {c : Code} {Qf : State → Prop} {D : va_G} {cA : Nat → ClassId} {B : Nat} {cd : List am_E} {nL mc ms n0 : Nat} {ad0 : Nat → Nat} {K : am_K} {I : am_I} {Tc : am_T} {Q : Option Value → am_H → Prop} {own : String} {bytes : ByteArray} {isI : Bool} {ret : Option FieldType} {Y : am_Y} (X : am_CX p R s m meth c D cA B cd nL mc ms ad0 K own bytes isI ret Y) {pc : Nat} {rs : List Nat} {im : Int32} {wl : List Nat} {is : List am_E} {ls : am_L} {st : List Value} {hp : am_H} {nc ns : Nat} (h : am_step K I Tc cd mc ms Q (am_PW p l e R s m args below meth c Qf D cA B cd nL mc ms n0 ad0) ((pc, .isub, rs, im, wl) :: is, ls, st, hp, nc, ns)) : (am_PW p l e R s m args below meth c Qf D cA B cd nL mc ms n0 ad0) ((pc, .isub, rs, im, wl) :: is, ls, st, hp, nc, ns) := by
  intro ad H locs la hr
  obtain ⟨hx, hb, hml, hown, hisI, hTW, hK, hCU, hBs, hRc, hRf, hV⟩ := X
  have hok := hV _ _ hr.1.1
  obtain ⟨hdg, hpc⟩ := am_d_spec hok
  dsimp only [am_step] at h
  split at h
  · have k := h ad H locs la hr.tl
    dsimp only at k
    rw [hpc] at k
    exact lv_isub hx hb hdg k
  · exact h.elim
set_option maxHeartbeats 1000000 in
theorem am_s_imul {p : Program} {l : Launch} {e : Env} {R : Room} {s : State} {m : MethodId} {args : Array Value} {below : List Frame} {meth : Method} {c : Code} {Qf : State → Prop} {D : va_G} {cA : Nat → ClassId} {B : Nat} {cd : List am_E} {nL mc ms n0 : Nat} {ad0 : Nat → Nat} {K : am_K} {I : am_I} {Tc : am_T} {Q : Option Value → am_H → Prop} {own : String} {bytes : ByteArray} {isI : Bool} {ret : Option FieldType} {Y : am_Y} (X : am_CX p R s m meth c D cA B cd nL mc ms ad0 K own bytes isI ret Y) {pc : Nat} {rs : List Nat} {im : Int32} {wl : List Nat} {is : List am_E} {ls : am_L} {st : List Value} {hp : am_H} {nc ns : Nat} (h : am_step K I Tc cd mc ms Q (am_PW p l e R s m args below meth c Qf D cA B cd nL mc ms n0 ad0) ((pc, .imul, rs, im, wl) :: is, ls, st, hp, nc, ns)) : (am_PW p l e R s m args below meth c Qf D cA B cd nL mc ms n0 ad0) ((pc, .imul, rs, im, wl) :: is, ls, st, hp, nc, ns) := by
  intro ad H locs la hr
  obtain ⟨hx, hb, hml, hown, hisI, hTW, hK, hCU, hBs, hRc, hRf, hV⟩ := X
  have hok := hV _ _ hr.1.1
  obtain ⟨hdg, hpc⟩ := am_d_spec hok
  dsimp only [am_step] at h
  split at h
  · have k := h ad H locs la hr.tl
    dsimp only at k
    rw [hpc] at k
    exact lv_imul hx hb hdg k
  · exact h.elim
set_option maxHeartbeats 1000000 in
theorem am_s_iand {p : Program} {l : Launch} {e : Env} {R : Room} {s : State} {m : MethodId} {args : Array Value} {below : List Frame} {meth : Method} {c : Code} {Qf : State → Prop} {D : va_G} {cA : Nat → ClassId} {B : Nat} {cd : List am_E} {nL mc ms n0 : Nat} {ad0 : Nat → Nat} {K : am_K} {I : am_I} {Tc : am_T} {Q : Option Value → am_H → Prop} {own : String} {bytes : ByteArray} {isI : Bool} {ret : Option FieldType} {Y : am_Y} (X : am_CX p R s m meth c D cA B cd nL mc ms ad0 K own bytes isI ret Y) {pc : Nat} {rs : List Nat} {im : Int32} {wl : List Nat} {is : List am_E} {ls : am_L} {st : List Value} {hp : am_H} {nc ns : Nat} (h : am_step K I Tc cd mc ms Q (am_PW p l e R s m args below meth c Qf D cA B cd nL mc ms n0 ad0) ((pc, .iand, rs, im, wl) :: is, ls, st, hp, nc, ns)) : (am_PW p l e R s m args below meth c Qf D cA B cd nL mc ms n0 ad0) ((pc, .iand, rs, im, wl) :: is, ls, st, hp, nc, ns) := by
  intro ad H locs la hr
  obtain ⟨hx, hb, hml, hown, hisI, hTW, hK, hCU, hBs, hRc, hRf, hV⟩ := X
  have hok := hV _ _ hr.1.1
  obtain ⟨hdg, hpc⟩ := am_d_spec hok
  dsimp only [am_step] at h
  split at h
  · have k := h ad H locs la hr.tl
    dsimp only at k
    rw [hpc] at k
    exact lv_iand hx hb hdg k
  · exact h.elim
set_option maxHeartbeats 1000000 in
theorem am_s_ior {p : Program} {l : Launch} {e : Env} {R : Room} {s : State} {m : MethodId} {args : Array Value} {below : List Frame} {meth : Method} {c : Code} {Qf : State → Prop} {D : va_G} {cA : Nat → ClassId} {B : Nat} {cd : List am_E} {nL mc ms n0 : Nat} {ad0 : Nat → Nat} {K : am_K} {I : am_I} {Tc : am_T} {Q : Option Value → am_H → Prop} {own : String} {bytes : ByteArray} {isI : Bool} {ret : Option FieldType} {Y : am_Y} (X : am_CX p R s m meth c D cA B cd nL mc ms ad0 K own bytes isI ret Y) {pc : Nat} {rs : List Nat} {im : Int32} {wl : List Nat} {is : List am_E} {ls : am_L} {st : List Value} {hp : am_H} {nc ns : Nat} (h : am_step K I Tc cd mc ms Q (am_PW p l e R s m args below meth c Qf D cA B cd nL mc ms n0 ad0) ((pc, .ior, rs, im, wl) :: is, ls, st, hp, nc, ns)) : (am_PW p l e R s m args below meth c Qf D cA B cd nL mc ms n0 ad0) ((pc, .ior, rs, im, wl) :: is, ls, st, hp, nc, ns) := by
  intro ad H locs la hr
  obtain ⟨hx, hb, hml, hown, hisI, hTW, hK, hCU, hBs, hRc, hRf, hV⟩ := X
  have hok := hV _ _ hr.1.1
  obtain ⟨hdg, hpc⟩ := am_d_spec hok
  dsimp only [am_step] at h
  split at h
  · have k := h ad H locs la hr.tl
    dsimp only at k
    rw [hpc] at k
    exact lv_ior hx hb hdg k
  · exact h.elim
set_option maxHeartbeats 1000000 in
theorem am_s_ixor {p : Program} {l : Launch} {e : Env} {R : Room} {s : State} {m : MethodId} {args : Array Value} {below : List Frame} {meth : Method} {c : Code} {Qf : State → Prop} {D : va_G} {cA : Nat → ClassId} {B : Nat} {cd : List am_E} {nL mc ms n0 : Nat} {ad0 : Nat → Nat} {K : am_K} {I : am_I} {Tc : am_T} {Q : Option Value → am_H → Prop} {own : String} {bytes : ByteArray} {isI : Bool} {ret : Option FieldType} {Y : am_Y} (X : am_CX p R s m meth c D cA B cd nL mc ms ad0 K own bytes isI ret Y) {pc : Nat} {rs : List Nat} {im : Int32} {wl : List Nat} {is : List am_E} {ls : am_L} {st : List Value} {hp : am_H} {nc ns : Nat} (h : am_step K I Tc cd mc ms Q (am_PW p l e R s m args below meth c Qf D cA B cd nL mc ms n0 ad0) ((pc, .ixor, rs, im, wl) :: is, ls, st, hp, nc, ns)) : (am_PW p l e R s m args below meth c Qf D cA B cd nL mc ms n0 ad0) ((pc, .ixor, rs, im, wl) :: is, ls, st, hp, nc, ns) := by
  intro ad H locs la hr
  obtain ⟨hx, hb, hml, hown, hisI, hTW, hK, hCU, hBs, hRc, hRf, hV⟩ := X
  have hok := hV _ _ hr.1.1
  obtain ⟨hdg, hpc⟩ := am_d_spec hok
  dsimp only [am_step] at h
  split at h
  · have k := h ad H locs la hr.tl
    dsimp only at k
    rw [hpc] at k
    exact lv_ixor hx hb hdg k
  · exact h.elim
set_option maxHeartbeats 1000000 in
theorem am_s_ishl {p : Program} {l : Launch} {e : Env} {R : Room} {s : State} {m : MethodId} {args : Array Value} {below : List Frame} {meth : Method} {c : Code} {Qf : State → Prop} {D : va_G} {cA : Nat → ClassId} {B : Nat} {cd : List am_E} {nL mc ms n0 : Nat} {ad0 : Nat → Nat} {K : am_K} {I : am_I} {Tc : am_T} {Q : Option Value → am_H → Prop} {own : String} {bytes : ByteArray} {isI : Bool} {ret : Option FieldType} {Y : am_Y} (X : am_CX p R s m meth c D cA B cd nL mc ms ad0 K own bytes isI ret Y) {pc : Nat} {rs : List Nat} {im : Int32} {wl : List Nat} {is : List am_E} {ls : am_L} {st : List Value} {hp : am_H} {nc ns : Nat} (h : am_step K I Tc cd mc ms Q (am_PW p l e R s m args below meth c Qf D cA B cd nL mc ms n0 ad0) ((pc, .ishl, rs, im, wl) :: is, ls, st, hp, nc, ns)) : (am_PW p l e R s m args below meth c Qf D cA B cd nL mc ms n0 ad0) ((pc, .ishl, rs, im, wl) :: is, ls, st, hp, nc, ns) := by
  intro ad H locs la hr
  obtain ⟨hx, hb, hml, hown, hisI, hTW, hK, hCU, hBs, hRc, hRf, hV⟩ := X
  have hok := hV _ _ hr.1.1
  obtain ⟨hdg, hpc⟩ := am_d_spec hok
  dsimp only [am_step] at h
  split at h
  · have k := h ad H locs la hr.tl
    dsimp only at k
    rw [hpc] at k
    exact lv_ishl hx hb hdg k
  · exact h.elim
set_option maxHeartbeats 1000000 in
theorem am_s_ishr {p : Program} {l : Launch} {e : Env} {R : Room} {s : State} {m : MethodId} {args : Array Value} {below : List Frame} {meth : Method} {c : Code} {Qf : State → Prop} {D : va_G} {cA : Nat → ClassId} {B : Nat} {cd : List am_E} {nL mc ms n0 : Nat} {ad0 : Nat → Nat} {K : am_K} {I : am_I} {Tc : am_T} {Q : Option Value → am_H → Prop} {own : String} {bytes : ByteArray} {isI : Bool} {ret : Option FieldType} {Y : am_Y} (X : am_CX p R s m meth c D cA B cd nL mc ms ad0 K own bytes isI ret Y) {pc : Nat} {rs : List Nat} {im : Int32} {wl : List Nat} {is : List am_E} {ls : am_L} {st : List Value} {hp : am_H} {nc ns : Nat} (h : am_step K I Tc cd mc ms Q (am_PW p l e R s m args below meth c Qf D cA B cd nL mc ms n0 ad0) ((pc, .ishr, rs, im, wl) :: is, ls, st, hp, nc, ns)) : (am_PW p l e R s m args below meth c Qf D cA B cd nL mc ms n0 ad0) ((pc, .ishr, rs, im, wl) :: is, ls, st, hp, nc, ns) := by
  intro ad H locs la hr
  obtain ⟨hx, hb, hml, hown, hisI, hTW, hK, hCU, hBs, hRc, hRf, hV⟩ := X
  have hok := hV _ _ hr.1.1
  obtain ⟨hdg, hpc⟩ := am_d_spec hok
  dsimp only [am_step] at h
  split at h
  · have k := h ad H locs la hr.tl
    dsimp only at k
    rw [hpc] at k
    exact lv_ishr hx hb hdg k
  · exact h.elim
set_option maxHeartbeats 1000000 in
theorem am_s_iushr {p : Program} {l : Launch} {e : Env} {R : Room} {s : State} {m : MethodId} {args : Array Value} {below : List Frame} {meth : Method} {c : Code} {Qf : State → Prop} {D : va_G} {cA : Nat → ClassId} {B : Nat} {cd : List am_E} {nL mc ms n0 : Nat} {ad0 : Nat → Nat} {K : am_K} {I : am_I} {Tc : am_T} {Q : Option Value → am_H → Prop} {own : String} {bytes : ByteArray} {isI : Bool} {ret : Option FieldType} {Y : am_Y} (X : am_CX p R s m meth c D cA B cd nL mc ms ad0 K own bytes isI ret Y) {pc : Nat} {rs : List Nat} {im : Int32} {wl : List Nat} {is : List am_E} {ls : am_L} {st : List Value} {hp : am_H} {nc ns : Nat} (h : am_step K I Tc cd mc ms Q (am_PW p l e R s m args below meth c Qf D cA B cd nL mc ms n0 ad0) ((pc, .iushr, rs, im, wl) :: is, ls, st, hp, nc, ns)) : (am_PW p l e R s m args below meth c Qf D cA B cd nL mc ms n0 ad0) ((pc, .iushr, rs, im, wl) :: is, ls, st, hp, nc, ns) := by
  intro ad H locs la hr
  obtain ⟨hx, hb, hml, hown, hisI, hTW, hK, hCU, hBs, hRc, hRf, hV⟩ := X
  have hok := hV _ _ hr.1.1
  obtain ⟨hdg, hpc⟩ := am_d_spec hok
  dsimp only [am_step] at h
  split at h
  · have k := h ad H locs la hr.tl
    dsimp only at k
    rw [hpc] at k
    exact lv_iushr hx hb hdg rfl k
  · exact h.elim
set_option maxHeartbeats 1000000 in
theorem am_s_ineg {p : Program} {l : Launch} {e : Env} {R : Room} {s : State} {m : MethodId} {args : Array Value} {below : List Frame} {meth : Method} {c : Code} {Qf : State → Prop} {D : va_G} {cA : Nat → ClassId} {B : Nat} {cd : List am_E} {nL mc ms n0 : Nat} {ad0 : Nat → Nat} {K : am_K} {I : am_I} {Tc : am_T} {Q : Option Value → am_H → Prop} {own : String} {bytes : ByteArray} {isI : Bool} {ret : Option FieldType} {Y : am_Y} (X : am_CX p R s m meth c D cA B cd nL mc ms ad0 K own bytes isI ret Y) {pc : Nat} {rs : List Nat} {im : Int32} {wl : List Nat} {is : List am_E} {ls : am_L} {st : List Value} {hp : am_H} {nc ns : Nat} (h : am_step K I Tc cd mc ms Q (am_PW p l e R s m args below meth c Qf D cA B cd nL mc ms n0 ad0) ((pc, .ineg, rs, im, wl) :: is, ls, st, hp, nc, ns)) : (am_PW p l e R s m args below meth c Qf D cA B cd nL mc ms n0 ad0) ((pc, .ineg, rs, im, wl) :: is, ls, st, hp, nc, ns) := by
  intro ad H locs la hr
  obtain ⟨hx, hb, hml, hown, hisI, hTW, hK, hCU, hBs, hRc, hRf, hV⟩ := X
  have hok := hV _ _ hr.1.1
  obtain ⟨hdg, hpc⟩ := am_d_spec hok
  dsimp only [am_step] at h
  split at h
  · have k := h ad H locs la hr.tl
    dsimp only at k
    rw [hpc] at k
    exact lv_ineg hx hb hdg k
  · exact h.elim
set_option maxHeartbeats 1000000 in
theorem am_s_i2b {p : Program} {l : Launch} {e : Env} {R : Room} {s : State} {m : MethodId} {args : Array Value} {below : List Frame} {meth : Method} {c : Code} {Qf : State → Prop} {D : va_G} {cA : Nat → ClassId} {B : Nat} {cd : List am_E} {nL mc ms n0 : Nat} {ad0 : Nat → Nat} {K : am_K} {I : am_I} {Tc : am_T} {Q : Option Value → am_H → Prop} {own : String} {bytes : ByteArray} {isI : Bool} {ret : Option FieldType} {Y : am_Y} (X : am_CX p R s m meth c D cA B cd nL mc ms ad0 K own bytes isI ret Y) {pc : Nat} {rs : List Nat} {im : Int32} {wl : List Nat} {is : List am_E} {ls : am_L} {st : List Value} {hp : am_H} {nc ns : Nat} (h : am_step K I Tc cd mc ms Q (am_PW p l e R s m args below meth c Qf D cA B cd nL mc ms n0 ad0) ((pc, .i2b, rs, im, wl) :: is, ls, st, hp, nc, ns)) : (am_PW p l e R s m args below meth c Qf D cA B cd nL mc ms n0 ad0) ((pc, .i2b, rs, im, wl) :: is, ls, st, hp, nc, ns) := by
  intro ad H locs la hr
  obtain ⟨hx, hb, hml, hown, hisI, hTW, hK, hCU, hBs, hRc, hRf, hV⟩ := X
  have hok := hV _ _ hr.1.1
  obtain ⟨hdg, hpc⟩ := am_d_spec hok
  dsimp only [am_step] at h
  split at h
  · have k := h ad H locs la hr.tl
    dsimp only at k
    rw [hpc] at k
    exact lv_i2b hx hb hdg rfl k
  · exact h.elim
set_option maxHeartbeats 1000000 in
theorem am_s_i2c {p : Program} {l : Launch} {e : Env} {R : Room} {s : State} {m : MethodId} {args : Array Value} {below : List Frame} {meth : Method} {c : Code} {Qf : State → Prop} {D : va_G} {cA : Nat → ClassId} {B : Nat} {cd : List am_E} {nL mc ms n0 : Nat} {ad0 : Nat → Nat} {K : am_K} {I : am_I} {Tc : am_T} {Q : Option Value → am_H → Prop} {own : String} {bytes : ByteArray} {isI : Bool} {ret : Option FieldType} {Y : am_Y} (X : am_CX p R s m meth c D cA B cd nL mc ms ad0 K own bytes isI ret Y) {pc : Nat} {rs : List Nat} {im : Int32} {wl : List Nat} {is : List am_E} {ls : am_L} {st : List Value} {hp : am_H} {nc ns : Nat} (h : am_step K I Tc cd mc ms Q (am_PW p l e R s m args below meth c Qf D cA B cd nL mc ms n0 ad0) ((pc, .i2c, rs, im, wl) :: is, ls, st, hp, nc, ns)) : (am_PW p l e R s m args below meth c Qf D cA B cd nL mc ms n0 ad0) ((pc, .i2c, rs, im, wl) :: is, ls, st, hp, nc, ns) := by
  intro ad H locs la hr
  obtain ⟨hx, hb, hml, hown, hisI, hTW, hK, hCU, hBs, hRc, hRf, hV⟩ := X
  have hok := hV _ _ hr.1.1
  obtain ⟨hdg, hpc⟩ := am_d_spec hok
  dsimp only [am_step] at h
  split at h
  · have k := h ad H locs la hr.tl
    dsimp only at k
    rw [hpc] at k
    exact lv_i2c hx hb hdg rfl k
  · exact h.elim
set_option maxHeartbeats 1000000 in
theorem am_s_i2l {p : Program} {l : Launch} {e : Env} {R : Room} {s : State} {m : MethodId} {args : Array Value} {below : List Frame} {meth : Method} {c : Code} {Qf : State → Prop} {D : va_G} {cA : Nat → ClassId} {B : Nat} {cd : List am_E} {nL mc ms n0 : Nat} {ad0 : Nat → Nat} {K : am_K} {I : am_I} {Tc : am_T} {Q : Option Value → am_H → Prop} {own : String} {bytes : ByteArray} {isI : Bool} {ret : Option FieldType} {Y : am_Y} (X : am_CX p R s m meth c D cA B cd nL mc ms ad0 K own bytes isI ret Y) {pc : Nat} {rs : List Nat} {im : Int32} {wl : List Nat} {is : List am_E} {ls : am_L} {st : List Value} {hp : am_H} {nc ns : Nat} (h : am_step K I Tc cd mc ms Q (am_PW p l e R s m args below meth c Qf D cA B cd nL mc ms n0 ad0) ((pc, .i2l, rs, im, wl) :: is, ls, st, hp, nc, ns)) : (am_PW p l e R s m args below meth c Qf D cA B cd nL mc ms n0 ad0) ((pc, .i2l, rs, im, wl) :: is, ls, st, hp, nc, ns) := by
  intro ad H locs la hr
  obtain ⟨hx, hb, hml, hown, hisI, hTW, hK, hCU, hBs, hRc, hRf, hV⟩ := X
  have hok := hV _ _ hr.1.1
  obtain ⟨hdg, hpc⟩ := am_d_spec hok
  dsimp only [am_step] at h
  split at h
  · have k := h ad H locs la hr.tl
    dsimp only at k
    rw [hpc] at k
    exact lv_i2l hx hb hdg rfl k
  · exact h.elim
set_option maxHeartbeats 1000000 in
theorem am_s_ladd {p : Program} {l : Launch} {e : Env} {R : Room} {s : State} {m : MethodId} {args : Array Value} {below : List Frame} {meth : Method} {c : Code} {Qf : State → Prop} {D : va_G} {cA : Nat → ClassId} {B : Nat} {cd : List am_E} {nL mc ms n0 : Nat} {ad0 : Nat → Nat} {K : am_K} {I : am_I} {Tc : am_T} {Q : Option Value → am_H → Prop} {own : String} {bytes : ByteArray} {isI : Bool} {ret : Option FieldType} {Y : am_Y} (X : am_CX p R s m meth c D cA B cd nL mc ms ad0 K own bytes isI ret Y) {pc : Nat} {rs : List Nat} {im : Int32} {wl : List Nat} {is : List am_E} {ls : am_L} {st : List Value} {hp : am_H} {nc ns : Nat} (h : am_step K I Tc cd mc ms Q (am_PW p l e R s m args below meth c Qf D cA B cd nL mc ms n0 ad0) ((pc, .ladd, rs, im, wl) :: is, ls, st, hp, nc, ns)) : (am_PW p l e R s m args below meth c Qf D cA B cd nL mc ms n0 ad0) ((pc, .ladd, rs, im, wl) :: is, ls, st, hp, nc, ns) := by
  intro ad H locs la hr
  obtain ⟨hx, hb, hml, hown, hisI, hTW, hK, hCU, hBs, hRc, hRf, hV⟩ := X
  have hok := hV _ _ hr.1.1
  obtain ⟨hdg, hpc⟩ := am_d_spec hok
  dsimp only [am_step] at h
  split at h
  · have k := h ad H locs la hr.tl
    dsimp only at k
    rw [hpc] at k
    exact lv_ladd hx hb hdg k
  · exact h.elim
set_option maxHeartbeats 1000000 in
theorem am_s_lcmp {p : Program} {l : Launch} {e : Env} {R : Room} {s : State} {m : MethodId} {args : Array Value} {below : List Frame} {meth : Method} {c : Code} {Qf : State → Prop} {D : va_G} {cA : Nat → ClassId} {B : Nat} {cd : List am_E} {nL mc ms n0 : Nat} {ad0 : Nat → Nat} {K : am_K} {I : am_I} {Tc : am_T} {Q : Option Value → am_H → Prop} {own : String} {bytes : ByteArray} {isI : Bool} {ret : Option FieldType} {Y : am_Y} (X : am_CX p R s m meth c D cA B cd nL mc ms ad0 K own bytes isI ret Y) {pc : Nat} {rs : List Nat} {im : Int32} {wl : List Nat} {is : List am_E} {ls : am_L} {st : List Value} {hp : am_H} {nc ns : Nat} (h : am_step K I Tc cd mc ms Q (am_PW p l e R s m args below meth c Qf D cA B cd nL mc ms n0 ad0) ((pc, .lcmp, rs, im, wl) :: is, ls, st, hp, nc, ns)) : (am_PW p l e R s m args below meth c Qf D cA B cd nL mc ms n0 ad0) ((pc, .lcmp, rs, im, wl) :: is, ls, st, hp, nc, ns) := by
  intro ad H locs la hr
  obtain ⟨hx, hb, hml, hown, hisI, hTW, hK, hCU, hBs, hRc, hRf, hV⟩ := X
  have hok := hV _ _ hr.1.1
  obtain ⟨hdg, hpc⟩ := am_d_spec hok
  dsimp only [am_step] at h
  split at h
  · have k := h ad H locs la hr.tl
    dsimp only at k
    rw [hpc] at k
    exact W.lcmp hx hb hdg k
  · exact h.elim
set_option maxHeartbeats 1000000 in
theorem am_s_pop {p : Program} {l : Launch} {e : Env} {R : Room} {s : State} {m : MethodId} {args : Array Value} {below : List Frame} {meth : Method} {c : Code} {Qf : State → Prop} {D : va_G} {cA : Nat → ClassId} {B : Nat} {cd : List am_E} {nL mc ms n0 : Nat} {ad0 : Nat → Nat} {K : am_K} {I : am_I} {Tc : am_T} {Q : Option Value → am_H → Prop} {own : String} {bytes : ByteArray} {isI : Bool} {ret : Option FieldType} {Y : am_Y} (X : am_CX p R s m meth c D cA B cd nL mc ms ad0 K own bytes isI ret Y) {pc : Nat} {rs : List Nat} {im : Int32} {wl : List Nat} {is : List am_E} {ls : am_L} {st : List Value} {hp : am_H} {nc ns : Nat} (h : am_step K I Tc cd mc ms Q (am_PW p l e R s m args below meth c Qf D cA B cd nL mc ms n0 ad0) ((pc, .pop, rs, im, wl) :: is, ls, st, hp, nc, ns)) : (am_PW p l e R s m args below meth c Qf D cA B cd nL mc ms n0 ad0) ((pc, .pop, rs, im, wl) :: is, ls, st, hp, nc, ns) := by
  intro ad H locs la hr
  obtain ⟨hx, hb, hml, hown, hisI, hTW, hK, hCU, hBs, hRc, hRf, hV⟩ := X
  have hok := hV _ _ hr.1.1
  obtain ⟨hdg, hpc⟩ := am_d_spec hok
  dsimp only [am_step] at h
  split at h
  · have k := h ad H locs la hr.tl
    dsimp only at k
    rw [hpc] at k
    exact lv_pop hx hb hdg rfl k
  · exact h.elim
set_option maxHeartbeats 1000000 in
theorem am_s_dup2 {p : Program} {l : Launch} {e : Env} {R : Room} {s : State} {m : MethodId} {args : Array Value} {below : List Frame} {meth : Method} {c : Code} {Qf : State → Prop} {D : va_G} {cA : Nat → ClassId} {B : Nat} {cd : List am_E} {nL mc ms n0 : Nat} {ad0 : Nat → Nat} {K : am_K} {I : am_I} {Tc : am_T} {Q : Option Value → am_H → Prop} {own : String} {bytes : ByteArray} {isI : Bool} {ret : Option FieldType} {Y : am_Y} (X : am_CX p R s m meth c D cA B cd nL mc ms ad0 K own bytes isI ret Y) {pc : Nat} {rs : List Nat} {im : Int32} {wl : List Nat} {is : List am_E} {ls : am_L} {st : List Value} {hp : am_H} {nc ns : Nat} (h : am_step K I Tc cd mc ms Q (am_PW p l e R s m args below meth c Qf D cA B cd nL mc ms n0 ad0) ((pc, .dup2, rs, im, wl) :: is, ls, st, hp, nc, ns)) : (am_PW p l e R s m args below meth c Qf D cA B cd nL mc ms n0 ad0) ((pc, .dup2, rs, im, wl) :: is, ls, st, hp, nc, ns) := by
  intro ad H locs la hr
  obtain ⟨hx, hb, hml, hown, hisI, hTW, hK, hCU, hBs, hRc, hRf, hV⟩ := X
  have hok := hV _ _ hr.1.1
  obtain ⟨hdg, hpc⟩ := am_d_spec hok
  dsimp only [am_step] at h
  split at h
  · have k := h ad H locs la hr.tl
    dsimp only at k
    rw [hpc] at k
    exact lv_dup2_11 hx hb hdg rfl rfl k
  · exact h.elim
set_option maxHeartbeats 1000000 in
theorem am_s_dup {p : Program} {l : Launch} {e : Env} {R : Room} {s : State} {m : MethodId} {args : Array Value} {below : List Frame} {meth : Method} {c : Code} {Qf : State → Prop} {D : va_G} {cA : Nat → ClassId} {B : Nat} {cd : List am_E} {nL mc ms n0 : Nat} {ad0 : Nat → Nat} {K : am_K} {I : am_I} {Tc : am_T} {Q : Option Value → am_H → Prop} {own : String} {bytes : ByteArray} {isI : Bool} {ret : Option FieldType} {Y : am_Y} (X : am_CX p R s m meth c D cA B cd nL mc ms ad0 K own bytes isI ret Y) {pc : Nat} {rs : List Nat} {im : Int32} {wl : List Nat} {is : List am_E} {ls : am_L} {st : List Value} {hp : am_H} {nc ns : Nat} (h : am_step K I Tc cd mc ms Q (am_PW p l e R s m args below meth c Qf D cA B cd nL mc ms n0 ad0) ((pc, .dup, rs, im, wl) :: is, ls, st, hp, nc, ns)) : (am_PW p l e R s m args below meth c Qf D cA B cd nL mc ms n0 ad0) ((pc, .dup, rs, im, wl) :: is, ls, st, hp, nc, ns) := by
  intro ad H locs la hr
  obtain ⟨hx, hb, hml, hown, hisI, hTW, hK, hCU, hBs, hRc, hRf, hV⟩ := X
  have hok := hV _ _ hr.1.1
  obtain ⟨hdg, hpc⟩ := am_d_spec hok
  dsimp only [am_step] at h
  split at h
  · have k := h ad H locs la hr.tl
    dsimp only at k
    rw [hpc] at k
    exact lv_dup hx hb hdg rfl k
  · have k := h ad H locs la hr.tl
    dsimp only at k
    rw [hpc] at k
    exact lv_dup hx hb hdg rfl k
  · exact h.elim
set_option maxHeartbeats 1000000 in
theorem am_s_idiv {p : Program} {l : Launch} {e : Env} {R : Room} {s : State} {m : MethodId} {args : Array Value} {below : List Frame} {meth : Method} {c : Code} {Qf : State → Prop} {D : va_G} {cA : Nat → ClassId} {B : Nat} {cd : List am_E} {nL mc ms n0 : Nat} {ad0 : Nat → Nat} {K : am_K} {I : am_I} {Tc : am_T} {Q : Option Value → am_H → Prop} {own : String} {bytes : ByteArray} {isI : Bool} {ret : Option FieldType} {Y : am_Y} (X : am_CX p R s m meth c D cA B cd nL mc ms ad0 K own bytes isI ret Y) {pc : Nat} {rs : List Nat} {im : Int32} {wl : List Nat} {is : List am_E} {ls : am_L} {st : List Value} {hp : am_H} {nc ns : Nat} (h : am_step K I Tc cd mc ms Q (am_PW p l e R s m args below meth c Qf D cA B cd nL mc ms n0 ad0) ((pc, .idiv, rs, im, wl) :: is, ls, st, hp, nc, ns)) : (am_PW p l e R s m args below meth c Qf D cA B cd nL mc ms n0 ad0) ((pc, .idiv, rs, im, wl) :: is, ls, st, hp, nc, ns) := by
  intro ad H locs la hr
  obtain ⟨hx, hb, hml, hown, hisI, hTW, hK, hCU, hBs, hRc, hRf, hV⟩ := X
  have hok := hV _ _ hr.1.1
  obtain ⟨hdg, hpc⟩ := am_d_spec hok
  dsimp only [am_step] at h
  split at h
  · have k := h.2 ad H locs la hr.tl
    dsimp only at k
    rw [hpc] at k
    exact lv_idiv hx hb hdg h.1 k
  · exact h.elim
set_option maxHeartbeats 1000000 in
theorem am_s_irem {p : Program} {l : Launch} {e : Env} {R : Room} {s : State} {m : MethodId} {args : Array Value} {below : List Frame} {meth : Method} {c : Code} {Qf : State → Prop} {D : va_G} {cA : Nat → ClassId} {B : Nat} {cd : List am_E} {nL mc ms n0 : Nat} {ad0 : Nat → Nat} {K : am_K} {I : am_I} {Tc : am_T} {Q : Option Value → am_H → Prop} {own : String} {bytes : ByteArray} {isI : Bool} {ret : Option FieldType} {Y : am_Y} (X : am_CX p R s m meth c D cA B cd nL mc ms ad0 K own bytes isI ret Y) {pc : Nat} {rs : List Nat} {im : Int32} {wl : List Nat} {is : List am_E} {ls : am_L} {st : List Value} {hp : am_H} {nc ns : Nat} (h : am_step K I Tc cd mc ms Q (am_PW p l e R s m args below meth c Qf D cA B cd nL mc ms n0 ad0) ((pc, .irem, rs, im, wl) :: is, ls, st, hp, nc, ns)) : (am_PW p l e R s m args below meth c Qf D cA B cd nL mc ms n0 ad0) ((pc, .irem, rs, im, wl) :: is, ls, st, hp, nc, ns) := by
  intro ad H locs la hr
  obtain ⟨hx, hb, hml, hown, hisI, hTW, hK, hCU, hBs, hRc, hRf, hV⟩ := X
  have hok := hV _ _ hr.1.1
  obtain ⟨hdg, hpc⟩ := am_d_spec hok
  dsimp only [am_step] at h
  split at h
  · have k := h.2 ad H locs la hr.tl
    dsimp only at k
    rw [hpc] at k
    exact lv_irem hx hb hdg h.1 k
  · exact h.elim
set_option maxHeartbeats 1000000 in
theorem am_s_goto {p : Program} {l : Launch} {e : Env} {R : Room} {s : State} {m : MethodId} {args : Array Value} {below : List Frame} {meth : Method} {c : Code} {Qf : State → Prop} {D : va_G} {cA : Nat → ClassId} {B : Nat} {cd : List am_E} {nL mc ms n0 : Nat} {ad0 : Nat → Nat} {K : am_K} {I : am_I} {Tc : am_T} {Q : Option Value → am_H → Prop} {own : String} {bytes : ByteArray} {isI : Bool} {ret : Option FieldType} {Y : am_Y} (X : am_CX p R s m meth c D cA B cd nL mc ms ad0 K own bytes isI ret Y) {pc : Nat} {off : Int} {rs : List Nat} {im : Int32} {wl : List Nat} {is : List am_E} {ls : am_L} {st : List Value} {hp : am_H} {nc ns : Nat} (h : am_step K I Tc cd mc ms Q (am_PW p l e R s m args below meth c Qf D cA B cd nL mc ms n0 ad0) ((pc, .goto off, rs, im, wl) :: is, ls, st, hp, nc, ns)) : (am_PW p l e R s m args below meth c Qf D cA B cd nL mc ms n0 ad0) ((pc, .goto off, rs, im, wl) :: is, ls, st, hp, nc, ns) := by
  intro ad H locs la hr
  obtain ⟨hx, hb, hml, hown, hisI, hTW, hK, hCU, hBs, hRc, hRf, hV⟩ := X
  have hok := hV _ _ hr.1.1
  obtain ⟨hd, hv⟩ := (Bool.and_eq_true _ _).mp hok
  have hdg : decode bytes pc = .ok (.goto off, 3) := of_decide_eq_true hd
  dsimp only [am_step] at h
  split at h
  · rename_i t
    have k := h ad H locs la (hr.go (List.drop_suffix t cd))
    exact lv_goto hx hb hdg (am_j_spec hv) k
  · exact h.elim
set_option maxHeartbeats 1000000 in
theorem am_s_if_icmp {p : Program} {l : Launch} {e : Env} {R : Room} {s : State} {m : MethodId} {args : Array Value} {below : List Frame} {meth : Method} {c : Code} {Qf : State → Prop} {D : va_G} {cA : Nat → ClassId} {B : Nat} {cd : List am_E} {nL mc ms n0 : Nat} {ad0 : Nat → Nat} {K : am_K} {I : am_I} {Tc : am_T} {Q : Option Value → am_H → Prop} {own : String} {bytes : ByteArray} {isI : Bool} {ret : Option FieldType} {Y : am_Y} (X : am_CX p R s m meth c D cA B cd nL mc ms ad0 K own bytes isI ret Y) {pc : Nat} {cnd : Jvm.ClassFile.Cond} {off : Int} {rs : List Nat} {im : Int32} {wl : List Nat} {is : List am_E} {ls : am_L} {st : List Value} {hp : am_H} {nc ns : Nat} (h : am_step K I Tc cd mc ms Q (am_PW p l e R s m args below meth c Qf D cA B cd nL mc ms n0 ad0) ((pc, .if_icmp cnd off, rs, im, wl) :: is, ls, st, hp, nc, ns)) : (am_PW p l e R s m args below meth c Qf D cA B cd nL mc ms n0 ad0) ((pc, .if_icmp cnd off, rs, im, wl) :: is, ls, st, hp, nc, ns) := by
  intro ad H locs la hr
  obtain ⟨hx, hb, hml, hown, hisI, hTW, hK, hCU, hBs, hRc, hRf, hV⟩ := X
  have hok := hV _ _ hr.1.1
  obtain ⟨hd, hv⟩ := (Bool.and_eq_true _ _).mp hok
  obtain ⟨hdg, hpc⟩ := am_d_spec hd
  dsimp only [am_step] at h
  split at h
  · have ht := am_j_spec hv
    cases cnd
    · exact lv_icmp_eq hx hb hdg ht (fun cc => h.1 cc ad H locs la (hr.go (List.drop_suffix _ cd))) (fun cc => by
        have k := h.2 cc ad H locs la hr.tl
        dsimp only at k
        rw [hpc] at k
        exact k)
    · exact lv_icmp_ne hx hb hdg ht (fun cc => h.1 cc ad H locs la (hr.go (List.drop_suffix _ cd))) (fun cc => by
        have k := h.2 cc ad H locs la hr.tl
        dsimp only at k
        rw [hpc] at k
        exact k)
    · exact lv_icmp_lt hx hb hdg ht (fun cc => h.1 cc ad H locs la (hr.go (List.drop_suffix _ cd))) (fun cc => by
        have k := h.2 cc ad H locs la hr.tl
        dsimp only at k
        rw [hpc] at k
        exact k)
    · exact lv_icmp_ge hx hb hdg ht (fun cc => h.1 cc ad H locs la (hr.go (List.drop_suffix _ cd))) (fun cc => by
        have k := h.2 cc ad H locs la hr.tl
        dsimp only at k
        rw [hpc] at k
        exact k)
    · exact lv_icmp_gt hx hb hdg ht (fun cc => h.1 cc ad H locs la (hr.go (List.drop_suffix _ cd))) (fun cc => by
        have k := h.2 cc ad H locs la hr.tl
        dsimp only at k
        rw [hpc] at k
        exact k)
    · exact lv_icmp_le hx hb hdg ht (fun cc => h.1 cc ad H locs la (hr.go (List.drop_suffix _ cd))) (fun cc => by
        have k := h.2 cc ad H locs la hr.tl
        dsimp only at k
        rw [hpc] at k
        exact k)
  · exact h.elim
set_option maxHeartbeats 1000000 in
theorem am_s_ifCond {p : Program} {l : Launch} {e : Env} {R : Room} {s : State} {m : MethodId} {args : Array Value} {below : List Frame} {meth : Method} {c : Code} {Qf : State → Prop} {D : va_G} {cA : Nat → ClassId} {B : Nat} {cd : List am_E} {nL mc ms n0 : Nat} {ad0 : Nat → Nat} {K : am_K} {I : am_I} {Tc : am_T} {Q : Option Value → am_H → Prop} {own : String} {bytes : ByteArray} {isI : Bool} {ret : Option FieldType} {Y : am_Y} (X : am_CX p R s m meth c D cA B cd nL mc ms ad0 K own bytes isI ret Y) {pc : Nat} {cnd : Jvm.ClassFile.Cond} {off : Int} {rs : List Nat} {im : Int32} {wl : List Nat} {is : List am_E} {ls : am_L} {st : List Value} {hp : am_H} {nc ns : Nat} (h : am_step K I Tc cd mc ms Q (am_PW p l e R s m args below meth c Qf D cA B cd nL mc ms n0 ad0) ((pc, .ifCond cnd off, rs, im, wl) :: is, ls, st, hp, nc, ns)) : (am_PW p l e R s m args below meth c Qf D cA B cd nL mc ms n0 ad0) ((pc, .ifCond cnd off, rs, im, wl) :: is, ls, st, hp, nc, ns) := by
  intro ad H locs la hr
  obtain ⟨hx, hb, hml, hown, hisI, hTW, hK, hCU, hBs, hRc, hRf, hV⟩ := X
  have hok := hV _ _ hr.1.1
  obtain ⟨hd, hv⟩ := (Bool.and_eq_true _ _).mp hok
  obtain ⟨hdg, hpc⟩ := am_d_spec hd
  dsimp only [am_step] at h
  split at h
  · have ht := am_j_spec hv
    cases cnd
    · exact lv_if_eq hx hb hdg ht (fun cc => h.1 cc ad H locs la (hr.go (List.drop_suffix _ cd))) (fun cc => by
        have k := h.2 cc ad H locs la hr.tl
        dsimp only at k
        rw [hpc] at k
        exact k)
    · exact lv_if_ne hx hb hdg ht (fun cc => h.1 cc ad H locs la (hr.go (List.drop_suffix _ cd))) (fun cc => by
        have k := h.2 cc ad H locs la hr.tl
        dsimp only at k
        rw [hpc] at k
        exact k)
    · exact lv_if_lt hx hb hdg ht (fun cc => h.1 cc ad H locs la (hr.go (List.drop_suffix _ cd))) (fun cc => by
        have k := h.2 cc ad H locs la hr.tl
        dsimp only at k
        rw [hpc] at k
        exact k)
    · exact lv_if_ge hx hb hdg ht (fun cc => h.1 cc ad H locs la (hr.go (List.drop_suffix _ cd))) (fun cc => by
        have k := h.2 cc ad H locs la hr.tl
        dsimp only at k
        rw [hpc] at k
        exact k)
    · exact lv_if_gt hx hb hdg ht (fun cc => h.1 cc ad H locs la (hr.go (List.drop_suffix _ cd))) (fun cc => by
        have k := h.2 cc ad H locs la hr.tl
        dsimp only at k
        rw [hpc] at k
        exact k)
    · exact lv_if_le hx hb hdg ht (fun cc => h.1 cc ad H locs la (hr.go (List.drop_suffix _ cd))) (fun cc => by
        have k := h.2 cc ad H locs la hr.tl
        dsimp only at k
        rw [hpc] at k
        exact k)
  · exact h.elim
end
section
theorem am_ws0 : u_ws RX0 TX0 11 = ([419, 421, 423, 425, 427, 429, 431, 433, 435, 437, 439] : List Nat).filterMap (fun i => lw_tbl[i]?) := by decide +kernel
theorem am_ws1 : u_ws RX1 TX1 11 = ([327, 329, 331, 333, 335, 337, 339, 341, 343, 345, 347] : List Nat).filterMap (fun i => lw_tbl[i]?) := by decide +kernel
theorem am_ws2 : u_ws RX2 TX2 7 = ([382, 384, 386, 388, 390, 392, 394] : List Nat).filterMap (fun i => lw_tbl[i]?) := by decide +kernel
theorem am_ws3 : u_ws RX3 TX3 8 = ([153, 155, 157, 159, 161, 163, 165, 167] : List Nat).filterMap (fun i => lw_tbl[i]?) := by decide +kernel
theorem am_ws4 : u_ws RX4 TX4 7 = ([205, 207, 209, 211, 213, 201, 203] : List Nat).filterMap (fun i => lw_tbl[i]?) := by decide +kernel
theorem am_ws5 : u_ws RX5 TX5 4 = ([358, 360, 362, 364] : List Nat).filterMap (fun i => lw_tbl[i]?) := by decide +kernel
theorem am_ws6 : u_ws RX6 TX6 8 = ([231, 232, 233, 234, 235, 225, 227, 229] : List Nat).filterMap (fun i => lw_tbl[i]?) := by decide +kernel
theorem am_ws7 : u_ws RX8 TX8 2 = ([132, 134] : List Nat).filterMap (fun i => lw_tbl[i]?) := by decide +kernel
theorem am_ws8 : u_ws RX9 TX9 6 = ([252, 254, 256, 258, 260, 262] : List Nat).filterMap (fun i => lw_tbl[i]?) := by decide +kernel
theorem am_ws9 : u_ws RX10 TX10 8 = ([283, 284, 285, 286, 287, 277, 279, 281] : List Nat).filterMap (fun i => lw_tbl[i]?) := by decide +kernel
theorem am_ws10 : u_ws RX11 TX11 14 = ([457, 459, 461, 463, 465, 467, 469, 471, 473, 475, 477, 479, 481, 483] : List Nat).filterMap (fun i => lw_tbl[i]?) := by decide +kernel
theorem am_ws11 : u_ws RX12 TX12 63 = ([1256, 1258, 1260, 1262, 1264, 1266, 1268, 1270, 1272, 1274, 1276, 1278, 1280, 1282, 1284, 1286, 1288, 1290, 1292, 1294, 1296, 1298, 1300, 1302, 1304, 1306, 1308, 1310, 1312, 1314, 1316, 1318, 1320, 1322, 1324, 1326, 1328, 1330, 1332, 1334, 1336, 1338, 1340, 1342, 1344, 1346, 1348, 1350, 1352, 1354, 1356, 1358, 1360, 1362, 1364, 1366, 1368, 1370, 1372, 1374, 1376, 1378, 1380] : List Nat).filterMap (fun i => lw_tbl[i]?) := by decide +kernel
theorem am_ws_in {C : String} {T : u_T} {N : Nat} {ps : List Nat} (h : u_ws C T N = ps.filterMap (fun i => lw_tbl[i]?)) : ∀ w ∈ u_ws C T N, w ∈ lw_tbl := by
  intro w hw
  rw [h] at hw
  obtain ⟨i, -, hi⟩ := List.mem_filterMap.mp hw
  exact List.mem_of_getElem? hi
theorem am_ws_ok {C : String} {T : u_T} {N : Nat} : ∀ w ∈ u_ws C T N, am_okw w = true := by
  intro w hw
  obtain ⟨k, -, rfl⟩ := List.mem_map.mp hw
  unfold u_lay
  split <;> rfl
/-- what is known of a class -/
theorem am_cls {ci : Nat} {C : String} {T : u_T} {N : Nat} (h : vwCl[ci]? = some (C, T, N)) : ∃ ty0 : Nat → FieldType, (∀ k, k < N → parseFieldDescriptor (T k).2.2.1 = some (ty0 k)) ∧ (∀ a, a < N → ∀ b, b < N → a ≠ b → (T a).2.1 ≠ (T b).2.1) ∧ ∀ w ∈ u_ws C T N, w ∈ lw_tbl := by
  match ci, h with
  | 0, h => cases h; exact ⟨tyX0, tyX0_ok, nmX0, am_ws_in am_ws0⟩
  | 1, h => cases h; exact ⟨tyX1, tyX1_ok, nmX1, am_ws_in am_ws1⟩
  | 2, h => cases h; exact ⟨tyX2, tyX2_ok, nmX2, am_ws_in am_ws2⟩
  | 3, h => cases h; exact ⟨tyX3, tyX3_ok, nmX3, am_ws_in am_ws3⟩
  | 4, h => cases h; exact ⟨tyX4, tyX4_ok, nmX4, am_ws_in am_ws4⟩
  | 5, h => cases h; exact ⟨tyX5, tyX5_ok, nmX5, am_ws_in am_ws5⟩
  | 6, h => cases h; exact ⟨tyX6, tyX6_ok, nmX6, am_ws_in am_ws6⟩
  | 7, h => cases h; exact ⟨tyX8, tyX8_ok, nmX8, am_ws_in am_ws7⟩
  | 8, h => cases h; exact ⟨tyX9, tyX9_ok, nmX9, am_ws_in am_ws8⟩
  | 9, h => cases h; exact ⟨tyX10, tyX10_ok, nmX10, am_ws_in am_ws9⟩
  | 10, h => cases h; exact ⟨tyX11, tyX11_ok, nmX11, am_ws_in am_ws10⟩
  | 11, h => cases h; exact ⟨tyX12, tyX12_ok, nmX12, am_ws_in am_ws11⟩
  | n + 12, h => simp [vwCl] at h
theorem am_hts {s : State} (hTW : am_TW s) {ci : Nat} {C : String} {T : u_T} {N : Nat} (h : vwCl[ci]? = some (C, T, N)) (args : Array Value) : ∀ w ∈ u_ws C T N, w.before args s = true := fun w hw => hTW w ((am_cls h).choose_spec.2.2 w hw) (am_ws_ok w hw) args
/-- cells of a world that has changed in one place -/
theorem am_cw_set {cA : Nat → ClassId} {ad : Nat → Nat} {hp h2 : am_H} {k : Nat} {z z2 : am_S} {x : va_E} (hz : am_at hp.1 k = some z) (hs : ∀ i, h2.1[i]? = if i = k then some z2 else hp.1[i]?) (ho : ∀ (i : Nat) (y : am_S), i ≠ k → am_cell cA ad h2.2.1 h2.2.2 i y = am_cell cA ad hp.2.1 hp.2.2 i y) (hx : am_cell cA ad h2.2.1 h2.2.2 k z2 = x) : (am_cw cA ad hp).set k (ad k, x) = am_cw cA ad h2 := by
  have hk : k < hp.1.length := by
    rw [am_at_eq] at hz
    exact (List.getElem?_eq_some_iff.mp hz).1
  apply List.ext_getElem?
  intro i
  rw [List.getElem?_set]
  simp only [am_cw, List.getElem?_mapIdx, List.length_mapIdx]
  by_cases e : k = i
  · subst e
    simp [hk, hs, hx]
  · have e2 : ¬ i = k := fun q => e q.symm
    rw [if_neg e, hs i, if_neg e2]
    cases hp.1[i]? with
    | none => rfl
    | some y => simp [ho i y e2]
theorem am_cell_lt {cA : Nat → ClassId} {ad : Nat → Nat} {v : am_V} {w : am_X} {k kd n : Nat} {q : List (Option Nat)} (h : kd < 100) : am_cell cA ad v w k (kd, n, q) = .inr (kd, am_fs ad v k kd q) := if_pos h
theorem am_bne {a b : Nat} (h : ¬ a = b) : Nat.beq a b = false := by
  cases hh : Nat.beq a b with
  | false => rfl
  | true => exact absurd (Nat.eq_of_beq_eq_true hh) h
theorem am_beq (a : Nat) : Nat.beq a a = true := Nat.beq_refl a
theorem am_up_eq (v : am_V) (k j : Nat) (x : Int32) (a b : Nat) : am_up v k j x a b = if a = k ∧ b = j then x else v a b := by
  unfold am_up
  by_cases e : a = k
  · subst e
    by_cases f : b = j
    · subst f
      simp [am_beq]
    · simp [am_beq, am_bne f, f]
  · simp [am_bne e, e]
theorem am_upX_eq (v : am_X) (k j : Nat) (x : Int64) (a b : Nat) : am_upX v k j x a b = if a = k ∧ b = j then x else v a b := by
  unfold am_upX
  by_cases e : a = k
  · subst e
    by_cases f : b = j
    · subst f
      simp [am_beq]
    · simp [am_beq, am_bne f, f]
  · simp [am_bne e, e]
theorem am_up_same (v : am_V) (k j : Nat) (x : Int32) : am_up v k j x k = upd (v k) j x := by
  funext b
  rw [am_up_eq]
  unfold upd
  by_cases e : b = j
  · simp [e]
  · simp [e]
theorem am_up_ne (v : am_V) {k i : Nat} (j : Nat) (x : Int32) (h : i ≠ k) : am_up v k j x i = v i := by
  funext b
  rw [am_up_eq]
  simp [h]
theorem am_upX_same (v : am_X) (k j : Nat) (x : Int64) : am_upX v k j x k = vp_updL (v k) j x := by
  funext b
  rw [am_upX_eq]
  unfold vp_updL
  by_cases e : b = j
  · simp [e]
  · simp [e]
theorem am_upX_ne (v : am_X) {k i : Nat} (j : Nat) (x : Int64) (h : i ≠ k) : am_upX v k j x i = v i := by
  funext b
  rw [am_upX_eq]
  simp [h]
theorem am_cell_v {cA : Nat → ClassId} {ad : Nat → Nat} {v v2 : am_V} {w w2 : am_X} {k : Nat} (y : am_S) (hv : v2 k = v k) (hw : w2 k = w k) : am_cell cA ad v2 w2 k y = am_cell cA ad v w k y := by
  unfold am_cell am_fs am_fv
  rw [hv, hw]
theorem am_fs_set {ad : Nat → Nat} {v : am_V} {k ci j : Nat} {q : List (Option Nat)} {x : Int32} (hR : am_isR ci j = false) : am_fs ad (am_up v k j x) k ci q = (am_fs ad v k ci q).set j (.int x) := by
  apply List.ext_getElem?
  intro i
  rw [List.getElem?_set]
  simp only [am_fs, List.getElem?_map, List.length_map, List.length_range]
  by_cases e : j = i
  · subst e
    by_cases hj : j < am_nf ci
    · simp [hj, am_fv, hR, am_up_eq]
    · simp [hj]
  · rw [if_neg e]
    by_cases hi : i < am_nf ci
    · have e2 : ¬ i = j := fun q => e q.symm
      simp [hi, am_fv, am_up_eq, e2]
    · simp [hi]
theorem am_setR_at : ∀ (q : List (Option Nat)) (j : Nat) (x : Option Nat) (i : Nat), (am_setR q j x).getD i none = if i = j ∧ j < q.length then x else q.getD i none
  | [], j, x, i => by simp [am_setR]
  | a :: q, 0, x, i => by cases i <;> simp [am_setR]
  | a :: q, j + 1, x, i => by
    cases i with
    | zero => simp [am_setR]
    | succ i =>
      have := am_setR_at q j x i
      simp only [am_setR, List.getD_cons_succ, this, List.length_cons]
      by_cases e : i = j ∧ j < q.length
      · rw [if_pos e, if_pos ⟨by omega, by omega⟩]
      · rw [if_neg e, if_neg (fun h => e ⟨by omega, by omega⟩)]
theorem am_setS_at : ∀ (l : List am_S) (k : Nat) (z : am_S) (i : Nat), k < l.length → (am_setS l k z)[i]? = if i = k then some z else l[i]?
  | [], k, z, i, h => by simp at h
  | a :: l, 0, z, i, h => by cases i <;> simp [am_setS]
  | a :: l, k + 1, z, i, h => by
    cases i with
    | zero => simp [am_setS]
    | succ i =>
      have := am_setS_at l k z i (by simpa using h)
      simp only [am_setS, List.getElem?_cons_succ, this]
      by_cases e : i = k
      · simp [e]
      · simp [e]
theorem am_fs_setR {ad : Nat → Nat} {v : am_V} {k ci j a : Nat} {q : List (Option Nat)} (hR : am_isR ci j = true) (hj : j < q.length) : am_fs ad v k ci (am_setR q j (some a)) = (am_fs ad v k ci q).set j (.ref (ad a)) := by
  apply List.ext_getElem?
  intro i
  rw [List.getElem?_set]
  simp only [am_fs, List.getElem?_map, List.length_map, List.length_range]
  by_cases e : j = i
  · subst e
    by_cases hj2 : j < am_nf ci
    · rw [if_pos rfl, if_pos hj2, List.getElem?_range hj2]
      show some (am_fv ad v k ci (am_setR q j (some a)) j) = some (Value.ref (ad a))
      unfold am_fv
      rw [hR, am_setR_at, if_pos ⟨rfl, hj⟩]
      rfl
    · simp [hj2]
  · rw [if_neg e]
    by_cases hi : i < am_nf ci
    · have e2 : ¬ (i = j ∧ j < q.length) := fun q => e q.1.symm
      rw [List.getElem?_range hi]
      show some (am_fv ad v k ci (am_setR q j (some a)) i) = some (am_fv ad v k ci q i)
      unfold am_fv
      rw [am_setR_at, if_neg e2]
    · simp [hi]
theorem am_mem_in {k : Nat} : ∀ {l : List Nat}, am_mem k l = true → k ∈ l
  | [], h => by simp [am_mem] at h
  | a :: l, h => by
    unfold am_mem at h
    split at h
    · rename_i e
      rw [Nat.eq_of_beq_eq_true e]
      exact List.mem_cons_self
    · exact List.mem_cons_of_mem _ (am_mem_in h)
end
section
/-! ===== fields, arrays, constants, switches ===== -/
theorem am_blt {a b : Nat} (h : Nat.blt a b = true) : a < b := Nat.le_of_ble_eq_true h
def am_fty (f : Nat) (ty : FieldType) : Prop := match f with
  | 0 => ty = .int
  | 1 => ty = .boolean
  | _ => (∃ C, ty = .object C) ∨ ∃ t, ty = .array t
theorem am_nf_eq {ci : Nat} {C : String} {T : u_T} {N : Nat} (h : vwCl[ci]? = some (C, T, N)) : am_nf ci = N := by
  unfold am_nf
  rw [h]
theorem am_fok_spec {s : State} (hTW : am_TW s) (args : Array Value) {own : String} {idx j ci : Nat} {wl : List Nat} (h : am_fok own idx wl j ci = true) : ∃ (C : String) (T : u_T) (N : Nat), vwCl[ci]? = some (C, T, N) ∧ j < N ∧ ((∃ ref : String, (Cond.fieldLink own idx ref (T j).2.1 (T j).2.2.1).before args s = true ∧ ∀ x, s.fieldFound? (T j).1 (T j).2.1 (T j).2.2.1 = some x → s.fieldFound? ref (T j).2.1 (T j).2.2.1 = some x) ∨ (Cond.fieldLinkNest own idx (T j).1 (T j).2.1 (T j).2.2.1 "TwoKings").before args s = true) := by
  unfold am_fok at h
  split at h
  · rename_i C T N hc
    obtain ⟨h1, h2⟩ := (Bool.and_eq_true _ _).mp h
    refine ⟨C, T, N, hc, am_blt h1, ?_⟩
    split at h2
    · rcases (Bool.or_eq_true _ _).mp h2 with h3 | h3
      · exact Or.inl ⟨_, hTW.at (of_decide_eq_true h3) rfl args, fun _ h9 => h9⟩
      · exact Or.inr (hTW.at (of_decide_eq_true h3) rfl args)
    · obtain ⟨h3, h4⟩ := (Bool.and_eq_true _ _).mp h2
      exact Or.inl ⟨_, hTW.at (of_decide_eq_true h3) rfl args, fun x h9 => u_same (hTW.at (of_decide_eq_true h4) rfl args) x h9⟩
    · cases h2
  · cases h
theorem am_getf {p : Program} {l : Launch} {e : Env} {R : Room} {s : State} {m : MethodId} {args : Array Value} {below : List Frame} {meth : Method} {c : Code} {H : Heap} {locs : List Loc} {cells slots : Nat} {Q : State → Prop} {cc : ByteArray} {pc : Nat} {la : Array Slot} {rest : List Value} {D : va_G} {cA : Nat → ClassId} {ad : Nat → Nat} {hp : am_H} (hx : p.tables.exec = Jvm.exec) (hb : c.code = cc) {own : String} {idx j k kd n : Nat} {wl : List Nat} {q : List (Option Nat)} (hown : s.vm.findClass own = some m.cls) (hTW : am_TW s) (hK : va_K D vwCl (am_tys cA) s) (hP : va_P D vwCl (am_cw cA ad hp) H) (hok : am_fok own idx wl j kd = true) (hlt : kd < 100) (hat : am_at hp.1 k = some (kd, n, q)) {v : Value} (hv : am_fv ad hp.2.1 k kd q j = v) (hdg : decode cc pc = .ok (.getfield idx, 3))
    (kk : W p l e R s m args below meth c H locs cells slots Q (F0 m (pc + 3) la (v :: rest))) : W p l e R s m args below meth c H locs cells slots Q (F0 m pc la (.ref (ad k) :: rest)) := by
  obtain ⟨C, T, N, hc, hj, hl⟩ := am_fok_spec hTW args hok
  have he := am_cw_at (cA := cA) (ad := ad) hat
  rw [am_cell_lt hlt] at he
  have hfv : (am_fs ad hp.2.1 k kd q)[j]? = some v := by rw [am_fs_at (by rw [am_nf_eq hc]; exact hj), hv]
  rcases hl with ⟨ref, hl, hs⟩ | hl
  · exact va_get hx hb (am_hts hTW hc args) (fun _ h => h) hown hK hP k he hc j hj hl hs hfv hdg kk
  · exact va_getN hx hb (am_hts hTW hc args) (fun _ h => h) hown hK hP k he hc j hj hl (fun _ h => h) hfv hdg kk
theorem am_putf {p : Program} {l : Launch} {e : Env} {R : Room} {s : State} {m : MethodId} {args : Array Value} {below : List Frame} {meth : Method} {c : Code} {H : Heap} {locs : List Loc} {cells slots : Nat} {Q : State → Prop} {cc : ByteArray} {pc : Nat} {la : Array Slot} {rest : List Value} {D : va_G} {cA : Nat → ClassId} {ad : Nat → Nat} {hp : am_H} {B : Nat} {isI : Bool} (hx : p.tables.exec = Jvm.exec) (hb : c.code = cc) {own : String} {idx j k kd n f : Nat} {wl : List Nat} {q : List (Option Nat)} (hown : s.vm.findClass own = some m.cls) (hisI : isI = true → meth.name = "<init>") (hTW : am_TW s) (hK : va_K D vwCl (am_tys cA) s) (hP : va_P D vwCl (am_cw cA ad hp) H) (hD : va_D (fun a => B ≤ a) (am_cw cA ad hp)) (hS : va_S (fun a => B ≤ a) s.heap H locs) (hok : am_pok own isI idx wl j f kd = true) (hlt : kd < 100) (hat : am_at hp.1 k = some (kd, n, q)) {v : Value} (hv : ∀ ty : FieldType, am_fty f ty → narrow ty v = v ∧ fits ty v = true) (hdg : decode cc pc = .ok (.putfield idx, 3))
    (kk : ∀ (H1 : Heap) (locs1 : List Loc), va_P D vwCl ((am_cw cA ad hp).set k (ad k, .inr (kd, (am_fs ad hp.2.1 k kd q).set j v))) H1 → va_D (fun a => B ≤ a) ((am_cw cA ad hp).set k (ad k, .inr (kd, (am_fs ad hp.2.1 k kd q).set j v))) → va_S (fun a => B ≤ a) s.heap H1 locs1 → W p l e R s m args below meth c H1 locs1 cells slots Q (F0 m (pc + 3) la rest)) : W p l e R s m args below meth c H locs cells slots Q (F0 m pc la (v :: .ref (ad k) :: rest)) := by
  unfold am_pok at hok
  split at hok
  · rename_i C T N hc
    obtain ⟨h1, h2⟩ := (Bool.and_eq_true _ _).mp hok
    obtain ⟨h3, h4⟩ := (Bool.and_eq_true _ _).mp h2
    have hj : j < N := am_blt h1
    obtain ⟨ty0, hty, hnm, -⟩ := am_cls hc
    have he := am_cw_at (cA := cA) (ad := ad) hat
    rw [am_cell_lt hlt] at he
    have hpd := hty j hj
    have hvv : narrow (ty0 j) v = v ∧ fits (ty0 j) v = true := by
      apply hv
      split at h4
      · obtain ⟨h5, -⟩ := (Bool.and_eq_true _ _).mp h4
        rw [of_decide_eq_true h5] at hpd
        exact (Option.some.inj hpd).symm
      · obtain ⟨h5, -⟩ := (Bool.and_eq_true _ _).mp h4
        rw [of_decide_eq_true h5] at hpd
        exact (Option.some.inj hpd).symm
      · obtain ⟨h5, -⟩ := (Bool.and_eq_true _ _).mp h4
        unfold am_isRT at h5
        rw [hpd] at h5
        have h7 : (∃ C, ty0 j = .object C) ∨ ∃ t, ty0 j = .array t := by
          split at h5
          · rename_i h6
            exact Or.inl ⟨_, Option.some.inj h6⟩
          · rename_i h6
            exact Or.inr ⟨_, Option.some.inj h6⟩
          · cases h5
        unfold am_fty
        split
        · rename_i hn0 hn1
          exact absurd rfl hn0
        · rename_i hn0 hn1
          exact absurd rfl hn1
        · exact h7
    have hl : j < (am_fs ad hp.2.1 k kd q).length := by rw [am_fs_len, am_nf_eq hc]; exact hj
    split at h3
    · rename_i hfin
      obtain ⟨C', T', N', hc', -, hlk⟩ := am_fok_spec hTW args h3
      rw [hc] at hc'
      cases hc'
      rcases hlk with ⟨ref, hlk, hs⟩ | hlk
      · exact va_put hx hb (am_hts hTW hc args) (fun _ h => h) ty0 hty hnm hown hK hP hD hS k he hc j hj hlk hs hfin hpd hvv.1 hvv.2 hl hdg kk
      · exact va_putN hx hb (am_hts hTW hc args) (fun _ h => h) ty0 hty hnm hown hK hP hD hS k he hc j hj hlk (fun _ h => h) hfin hpd hvv.1 hvv.2 hl hdg kk
    · rename_i hfin
      obtain ⟨h5, h6⟩ := (Bool.and_eq_true _ _).mp h3
      obtain ⟨h7, h8⟩ := (Bool.and_eq_true _ _).mp h6
      split at h8
      · exact va_putF hx hb (am_hts hTW hc args) (fun _ h => h) ty0 hty hnm hown hK hP hD hS k he hc j hj (hTW.at (of_decide_eq_true h8) rfl args) (fun _ h => h) hfin (hisI h5) (of_decide_eq_true h7) hpd hvv.1 hvv.2 hl hdg kk
      · cases h8
  · cases hok
theorem am_Rel.wr {s : State} {D : va_G} {cA : Nat → ClassId} {B : Nat} {cd : List am_E} {nL mc ms n0 : Nat} {ad0 : Nat → Nat} {q : am_E} {is : List am_E} {ls : am_L} {st st2 : List Value} {hp h2 : am_H} {nc ns : Nat} {ad : Nat → Nat} {H H1 : Heap} {locs locs1 : List Loc} {la : Array Slot} (hr : am_Rel s D cA B cd nL mc ms n0 ad0 (q :: is, ls, st, hp, nc, ns) ad H locs la) (hl : h2.1.length = hp.1.length) (hP : va_P D vwCl (am_cw cA ad h2) H1) (hD : va_D (fun a => B ≤ a) (am_cw cA ad h2)) (hS : va_S (fun a => B ≤ a) s.heap H1 locs1) : am_Rel s D cA B cd nL mc ms n0 ad0 (is, ls, st2, h2, nc, ns) ad H1 locs1 la := ⟨⟨(List.suffix_cons _ _).trans hr.1.1, hr.1.2.1, hr.1.2.2.1, by show n0 ≤ h2.1.length; rw [hl]; exact hr.1.2.2.2.1, hr.1.2.2.2.2⟩, hP, hD, hS, hr.2.2.2.2⟩
theorem am_setS_len : ∀ (l : List am_S) (k : Nat) (z : am_S), (am_setS l k z).length = l.length
  | [], _, _ => rfl
  | _ :: _, 0, _ => rfl
  | _ :: l, k + 1, z => by simp [am_setS, am_setS_len l k z]
set_option maxHeartbeats 1000000 in
theorem am_s_getfield {p : Program} {l : Launch} {e : Env} {R : Room} {s : State} {m : MethodId} {args : Array Value} {below : List Frame} {meth : Method} {c : Code} {Qf : State → Prop} {D : va_G} {cA : Nat → ClassId} {B : Nat} {cd : List am_E} {nL mc ms n0 : Nat} {ad0 : Nat → Nat} {K : am_K} {I : am_I} {Tc : am_T} {Q : Option Value → am_H → Prop} {own : String} {bytes : ByteArray} {isI : Bool} {ret : Option FieldType} {Y : am_Y} (X : am_CX p R s m meth c D cA B cd nL mc ms ad0 K own bytes isI ret Y) {pc : Nat} {i : Nat} {rs : List Nat} {im : Int32} {wl : List Nat} {is : List am_E} {ls : am_L} {st : List Value} {hp : am_H} {nc ns : Nat} (h : am_step K I Tc cd mc ms Q (am_PW p l e R s m args below meth c Qf D cA B cd nL mc ms n0 ad0) ((pc, .getfield i, rs, im, wl) :: is, ls, st, hp, nc, ns)) : (am_PW p l e R s m args below meth c Qf D cA B cd nL mc ms n0 ad0) ((pc, .getfield i, rs, im, wl) :: is, ls, st, hp, nc, ns) := by
  intro ad H locs la hr
  obtain ⟨hx, hb, hml, hown, hisI, hTW, hK, hCU, hBs, hRc, hRf, hV⟩ := X
  have hok := hV _ _ hr.1.1
  obtain ⟨hd, hv⟩ := (Bool.and_eq_true _ _).mp hok
  obtain ⟨hdg, hpc⟩ := am_d_spec hd
  dsimp only [am_step] at h
  split at h
  · split at h
    · rename_i kd n q hat
      split at h
      · rename_i hm
        obtain ⟨hf, hf2⟩ := (Bool.and_eq_true _ _).mp (List.all_eq_true.mp hv kd (am_mem_in hm))
        obtain ⟨hlt, hR⟩ := (Bool.and_eq_true _ _).mp hf2
        split at h
        · have k := h ad H locs la hr.tl
          dsimp only at k
          rw [hpc] at k
          refine am_getf hx hb hown hTW hK hr.2.1 hf (am_blt hlt) hat ?_ hdg k
          unfold am_fv
          rw [show am_isR kd _ = false by simpa using hR]
          rfl
        · rename_i hne
          split at h
          · rename_i a hn
            have k := h ad H locs la hr.tl
            dsimp only at k
            rw [hpc] at k
            refine am_getf hx hb hown hTW hK hr.2.1 hf (am_blt hlt) hat ?_ hdg k
            unfold am_fv
            split at hR
            · exact absurd rfl hne
            · rw [hR]
              rw [am_nth_eq] at hn
              simp [hn, va_rf, am_v]
          · exact h.elim
      · exact h.elim
    · exact h.elim
  · exact h.elim
set_option maxHeartbeats 1000000 in
theorem am_s_putfield {p : Program} {l : Launch} {e : Env} {R : Room} {s : State} {m : MethodId} {args : Array Value} {below : List Frame} {meth : Method} {c : Code} {Qf : State → Prop} {D : va_G} {cA : Nat → ClassId} {B : Nat} {cd : List am_E} {nL mc ms n0 : Nat} {ad0 : Nat → Nat} {K : am_K} {I : am_I} {Tc : am_T} {Q : Option Value → am_H → Prop} {own : String} {bytes : ByteArray} {isI : Bool} {ret : Option FieldType} {Y : am_Y} (X : am_CX p R s m meth c D cA B cd nL mc ms ad0 K own bytes isI ret Y) {pc : Nat} {i : Nat} {rs : List Nat} {im : Int32} {wl : List Nat} {is : List am_E} {ls : am_L} {st : List Value} {hp : am_H} {nc ns : Nat} (h : am_step K I Tc cd mc ms Q (am_PW p l e R s m args below meth c Qf D cA B cd nL mc ms n0 ad0) ((pc, .putfield i, rs, im, wl) :: is, ls, st, hp, nc, ns)) : (am_PW p l e R s m args below meth c Qf D cA B cd nL mc ms n0 ad0) ((pc, .putfield i, rs, im, wl) :: is, ls, st, hp, nc, ns) := by
  intro ad H locs la hr
  obtain ⟨hx, hb, hml, hown, hisI, hTW, hK, hCU, hBs, hRc, hRf, hV⟩ := X
  have hok := hV _ _ hr.1.1
  obtain ⟨hd, hv⟩ := (Bool.and_eq_true _ _).mp hok
  obtain ⟨hdg, hpc⟩ := am_d_spec hd
  dsimp only [am_step] at h
  split at h
  · rename_i j f cs v k r
    split at h
    · rename_i kd n q hat
      split at h
      · rename_i hm
        obtain ⟨hf, hlt⟩ := (Bool.and_eq_true _ _).mp (List.all_eq_true.mp hv kd (am_mem_in hm))
        have hkl : k < hp.1.length := by
          rw [am_at_eq] at hat
          exact (List.getElem?_eq_some_iff.mp hat).1
        have hf0 := hf
        unfold am_pok at hf0
        split at hf0
        · rename_i C T N hc
          obtain ⟨-, h2⟩ := (Bool.and_eq_true _ _).mp hf0
          obtain ⟨-, h4⟩ := (Bool.and_eq_true _ _).mp h2
          split at h
          · rename_i x
            obtain ⟨-, hR⟩ := (Bool.and_eq_true _ _).mp h4
            refine am_putf hx hb hown hisI hTW hK hr.2.1 hr.2.2.1 hr.2.2.2.1 hf (am_blt hlt) hat (v := .int x) (fun ty hty => ?_) hdg (fun H1 locs1 hP hD hS => ?_)
            · cases hty
              exact ⟨rfl, rfl⟩
            · have e : (am_cw cA ad hp).set k (ad k, .inr (kd, (am_fs ad hp.2.1 k kd q).set j (.int x))) = am_cw cA ad (hp.1, am_up hp.2.1 k j x, hp.2.2) := am_cw_set hat (fun i => by
                  by_cases e : i = k
                  · rw [if_pos e, e, ← am_at_eq]; exact hat
                  · rw [if_neg e]) (fun i y hi => am_cell_v y (am_up_ne _ _ _ hi) rfl) (by rw [am_cell_lt (am_blt hlt), am_fs_set (by simpa using hR)])
              rw [e] at hP hD
              have k := h ad H1 locs1 la (hr.wr rfl hP hD hS)
              dsimp only at k
              rw [hpc] at k
              exact k
          · rename_i x
            obtain ⟨-, hR⟩ := (Bool.and_eq_true _ _).mp h4
            refine am_putf hx hb hown hisI hTW hK hr.2.1 hr.2.2.1 hr.2.2.2.1 hf (am_blt hlt) hat (v := .int x) (fun ty hty => ?_) hdg (fun H1 locs1 hP hD hS => ?_)
            · cases hty
              rcases h.1 with rfl | rfl
              · exact ⟨rfl, rfl⟩
              · exact ⟨rfl, rfl⟩
            · have e : (am_cw cA ad hp).set k (ad k, .inr (kd, (am_fs ad hp.2.1 k kd q).set j (.int x))) = am_cw cA ad (hp.1, am_up hp.2.1 k j x, hp.2.2) := am_cw_set hat (fun i => by
                  by_cases e : i = k
                  · rw [if_pos e, e, ← am_at_eq]; exact hat
                  · rw [if_neg e]) (fun i y hi => am_cell_v y (am_up_ne _ _ _ hi) rfl) (by rw [am_cell_lt (am_blt hlt), am_fs_set (by simpa using hR)])
              rw [e] at hP hD
              have k := h.2 ad H1 locs1 la (hr.wr rfl hP hD hS)
              dsimp only at k
              rw [hpc] at k
              exact k
          · rename_i a
            obtain ⟨-, hR⟩ := (Bool.and_eq_true _ _).mp h4
            split at h
            · rename_i hjl
              refine am_putf hx hb hown hisI hTW hK hr.2.1 hr.2.2.1 hr.2.2.2.1 hf (am_blt hlt) hat (v := .ref (ad a)) (fun ty hty => ?_) hdg (fun H1 locs1 hP hD hS => ?_)
              · rcases hty with ⟨C, rfl⟩ | ⟨t, rfl⟩
                · exact ⟨rfl, rfl⟩
                · exact ⟨rfl, rfl⟩
              · have e : (am_cw cA ad hp).set k (ad k, .inr (kd, (am_fs ad hp.2.1 k kd q).set j (.ref (ad a)))) = am_cw cA ad (am_setS hp.1 k (kd, n, am_setR q j (some a)), hp.2.1, hp.2.2) := am_cw_set hat (fun i => am_setS_at _ _ _ _ hkl) (fun i y hi => rfl) (by rw [am_cell_lt (am_blt hlt), am_fs_setR hR (am_blt hjl)])
                rw [e] at hP hD
                have k := h ad H1 locs1 la (hr.wr (am_setS_len _ _ _) hP hD hS)
                dsimp only at k
                rw [hpc] at k
                exact k
            · exact h.elim
          · exact h.elim
        · cases hf0
      · exact h.elim
    · exact h.elim
  · exact h.elim
end
section
/-! ===== arrays, constants, switches ===== -/
theorem am_cell_i {cA : Nat → ClassId} {ad : Nat → Nat} {v : am_V} {w : am_X} {k kd n : Nat} {q : List (Option Nat)} (h : kd = 100 ∨ kd = 101 ∨ kd = 102) : am_cell cA ad v w k (kd, n, q) = .inl (cA kd, n, .inl (v k)) := by
  rcases h with rfl | rfl | rfl <;> rfl
theorem am_cell_l {cA : Nat → ClassId} {ad : Nat → Nat} {v : am_V} {w : am_X} {k n : Nat} {q : List (Option Nat)} : am_cell cA ad v w k (103, n, q) = .inl (cA 103, n, .inr (.inl (w k))) := rfl
theorem am_cell_q {cA : Nat → ClassId} {ad : Nat → Nat} {v : am_V} {w : am_X} {k n : Nat} {q : List (Option Nat)} : am_cell cA ad v w k (104, n, q) = .inl (cA 104, n, .inr (.inr (.inr (.inr (fun j => (q.getD j none).map ad))))) := rfl
theorem am_setI {cA : Nat → ClassId} {ad : Nat → Nat} {hp : am_H} {k kd n j : Nat} {q : List (Option Nat)} {x : Int32} (hat : am_at hp.1 k = some (kd, n, q)) (h : kd = 100 ∨ kd = 101 ∨ kd = 102) : (am_cw cA ad hp).set k (ad k, .inl (cA kd, n, .inl (upd (hp.2.1 k) j x))) = am_cw cA ad (hp.1, am_up hp.2.1 k j x, hp.2.2) := am_cw_set hat (fun i => by
    by_cases e : i = k
    · rw [if_pos e, e, ← am_at_eq]; exact hat
    · rw [if_neg e]) (fun i y hi => am_cell_v y (am_up_ne _ _ _ hi) rfl) (by rw [am_cell_i h]; dsimp only; rw [am_up_same])
theorem am_setLo {cA : Nat → ClassId} {ad : Nat → Nat} {hp : am_H} {k n j : Nat} {q : List (Option Nat)} {x : Int64} (hat : am_at hp.1 k = some (103, n, q)) : (am_cw cA ad hp).set k (ad k, .inl (cA 103, n, .inr (.inl (vp_updL (hp.2.2 k) j x)))) = am_cw cA ad (hp.1, hp.2.1, am_upX hp.2.2 k j x) := am_cw_set hat (fun i => by
    by_cases e : i = k
    · rw [if_pos e, e, ← am_at_eq]; exact hat
    · rw [if_neg e]) (fun i y hi => am_cell_v y rfl (am_upX_ne _ _ _ hi)) (by rw [am_cell_l]; dsimp only; rw [am_upX_same])
theorem am_aald {p : Program} {l : Launch} {e : Env} {R : Room} {s : State} {m : MethodId} {args : Array Value} {below : List Frame} {meth : Method} {c : Code} {H : Heap} {locs : List Loc} {cells slots : Nat} {Q : State → Prop} {cc : ByteArray} {pc : Nat} {ls : Array Slot} {rest : List Value} {D : va_G} {cl : List vw_C} {a : Nat} {tys : List (ClassId × FieldType)} {ws : va_W} (hexec : p.tables.exec = Jvm.exec) (hb : c.code = cc) (hK : va_K D cl tys s) (hP : va_P D cl ws H) (q0 t0 : Nat) {cA : ClassId} {n : Nat} {f : Nat → Option Nat} (ha : ws[q0]? = some (a, .inl (cA, n, .inr (.inr (.inr (.inr f)))))) {ty : FieldType} (ht : tys[t0]? = some (cA, .array ty)) {i : Int32} (hin : vp_in i n) (hdg : decode cc pc = .ok (.aaload, 1))
    (kk : W p l e R s m args below meth c H locs cells slots Q (F0 m (pc + 1) ls (va_rf (f i.toNatClampNeg) :: rest))) : W p l e R s m args below meth c H locs cells slots Q (F0 m pc ls (.int i :: .ref a :: rest)) := by
  have hlt : i.toNatClampNeg < n := Nat.not_le.mp fun q => hin (Or.inr q)
  refine W.aald (v := va_rf (f i.toNatClampNeg)) (ty := .array ty) hexec hb (hP q0 _ ha) ((hK.2 t0 _ ht).1 n (fun j => va_rf (f j))) rfl (fun q => by cases q) (by show ¬ (i < 0 ∨ (arrV _ _ _).slots.size ≤ _); rw [arrV_size]; exact hin) (by show (arrV _ _ _).slots[_]? = _; rw [arrV_read _ _ hlt]) rfl rfl hdg kk
theorem am_tab_at {x : Int32} {f : Nat → Prop} : ∀ {ts : List Nat} {lo : Int32} {i t : Nat}, am_tab x f lo ts → ts[i]? = some t → x = lo + Int32.ofNat i → f t
  | [], _, _, _, _, h, _ => by simp at h
  | a :: ts, lo, 0, t, h, hi, hx => by
    cases hi
    exact h.1 (by rw [hx]; simp)
  | a :: ts, lo, i + 1, t, h, hi, hx => am_tab_at h.2 (by simpa using hi) (by rw [hx, Int32.ofNat_add, Int32.add_assoc, Int32.add_comm (Int32.ofNat i)]; rfl)
theorem am_tok_at {cd : List am_E} {pc : Nat} : ∀ {os : List Int} {ts : List Nat}, am_tok cd pc os ts = true → os.length = ts.length ∧ ∀ (i : Nat) (t : Nat), ts[i]? = some t → ∃ o, os[i]? = some o ∧ am_j cd pc o t = true
  | [], [], _ => ⟨rfl, fun i t h => by simp at h⟩
  | o :: os, t :: ts, h => by
    obtain ⟨h1, h2⟩ := (Bool.and_eq_true _ _).mp h
    obtain ⟨e, g⟩ := am_tok_at h2
    refine ⟨by simp [e], fun i t2 hi => ?_⟩
    cases i with
    | zero => cases hi; exact ⟨o, rfl, h1⟩
    | succ i => exact g i t2 (by simpa using hi)
  | [], _ :: _, h => by cases h
  | _ :: _, [], h => by cases h
theorem am_look_at {x : Int32} {f : Nat → Prop} {cd : List am_E} {pc d : Nat} {dflt : Int} (hd : am_j cd pc dflt d = true) : ∀ {ps : List (Int × Int)} {ts : List Nat}, am_lok cd pc ps ts = true → am_look x f d ts → ∃ (off : Int) (t : Nat), Op.lookupswitch.offset ps dflt x.toInt = off ∧ am_j cd pc off t = true ∧ f t
  | [], [], _, h => ⟨dflt, d, rfl, hd, h⟩
  | (k, o) :: ps, a :: t :: ts, hl, h => by
    obtain ⟨h1, h2⟩ := (Bool.and_eq_true _ _).mp hl
    obtain ⟨h3, h4⟩ := (Bool.and_eq_true _ _).mp h2
    have hk := of_decide_eq_true h1
    by_cases e : x = Int32.ofNat a
    · exact ⟨o, t, by rw [Op.lookupswitch.offset_cons, if_pos (by rw [e, hk])], h3, h.1 e⟩
    · obtain ⟨off, t2, g1, g2, g3⟩ := am_look_at hd h4 (h.2 e)
      exact ⟨off, t2, by rw [lv_osw e hk]; exact g1, g2, g3⟩
  | [], _ :: _, h, _ => by cases h
  | _ :: _, [], h, _ => by cases h
  | _ :: _, [_], h, _ => by cases h
set_option maxHeartbeats 1000000 in
theorem am_s_iaload {p : Program} {l : Launch} {e : Env} {R : Room} {s : State} {m : MethodId} {args : Array Value} {below : List Frame} {meth : Method} {c : Code} {Qf : State → Prop} {D : va_G} {cA : Nat → ClassId} {B : Nat} {cd : List am_E} {nL mc ms n0 : Nat} {ad0 : Nat → Nat} {K : am_K} {I : am_I} {Tc : am_T} {Q : Option Value → am_H → Prop} {own : String} {bytes : ByteArray} {isI : Bool} {ret : Option FieldType} {Y : am_Y} (X : am_CX p R s m meth c D cA B cd nL mc ms ad0 K own bytes isI ret Y) {pc : Nat} {rs : List Nat} {im : Int32} {wl : List Nat} {is : List am_E} {ls : am_L} {st : List Value} {hp : am_H} {nc ns : Nat} (h : am_step K I Tc cd mc ms Q (am_PW p l e R s m args below meth c Qf D cA B cd nL mc ms n0 ad0) ((pc, .iaload, rs, im, wl) :: is, ls, st, hp, nc, ns)) : (am_PW p l e R s m args below meth c Qf D cA B cd nL mc ms n0 ad0) ((pc, .iaload, rs, im, wl) :: is, ls, st, hp, nc, ns) := by
  intro ad H locs la hr
  obtain ⟨hx, hb, hml, hown, hisI, hTW, hK, hCU, hBs, hRc, hRf, hV⟩ := X
  have hok := hV _ _ hr.1.1
  obtain ⟨hdg, hpc⟩ := am_d_spec hok
  dsimp only [am_step] at h
  split at h
  · rename_i i k r
    split at h
    · rename_i n q hat
      have kk := h.2 ad H locs la hr.tl
      dsimp only at kk
      rw [hpc] at kk
      have he := am_cw_at (cA := cA) (ad := ad) hat
      exact va_iald hx hb hK hr.2.1 k 0 he rfl h.1 hdg kk
    · split at h
      · rename_i n f hk
        obtain ⟨h1, h2, h3⟩ := hCU.1 k n f hk
        have kk := h.2 ad H locs la hr.tl
        dsimp only at kk
        rw [hpc] at kk
        have e : ad k = ad0 k := hr.1.2.2.1 k (Or.inr h1)
        show W _ _ _ _ _ _ _ _ _ _ _ _ _ _ _ (F0 m pc la (.int i :: .ref (ad k) :: List.map (am_v ad) r))
        rw [e]
        exact va_sld hx hb h2 (Nat.lt_of_lt_of_le h3 hBs) (Nat.not_le.mpr h3) hr.2.2.2.1 h.1 hdg kk
      · exact h.elim
    · exact h.elim
  · exact h.elim
set_option maxHeartbeats 1000000 in
theorem am_s_baload {p : Program} {l : Launch} {e : Env} {R : Room} {s : State} {m : MethodId} {args : Array Value} {below : List Frame} {meth : Method} {c : Code} {Qf : State → Prop} {D : va_G} {cA : Nat → ClassId} {B : Nat} {cd : List am_E} {nL mc ms n0 : Nat} {ad0 : Nat → Nat} {K : am_K} {I : am_I} {Tc : am_T} {Q : Option Value → am_H → Prop} {own : String} {bytes : ByteArray} {isI : Bool} {ret : Option FieldType} {Y : am_Y} (X : am_CX p R s m meth c D cA B cd nL mc ms ad0 K own bytes isI ret Y) {pc : Nat} {rs : List Nat} {im : Int32} {wl : List Nat} {is : List am_E} {ls : am_L} {st : List Value} {hp : am_H} {nc ns : Nat} (h : am_step K I Tc cd mc ms Q (am_PW p l e R s m args below meth c Qf D cA B cd nL mc ms n0 ad0) ((pc, .baload, rs, im, wl) :: is, ls, st, hp, nc, ns)) : (am_PW p l e R s m args below meth c Qf D cA B cd nL mc ms n0 ad0) ((pc, .baload, rs, im, wl) :: is, ls, st, hp, nc, ns) := by
  intro ad H locs la hr
  obtain ⟨hx, hb, hml, hown, hisI, hTW, hK, hCU, hBs, hRc, hRf, hV⟩ := X
  have hok := hV _ _ hr.1.1
  obtain ⟨hdg, hpc⟩ := am_d_spec hok
  dsimp only [am_step] at h
  split at h
  · rename_i i k r
    split at h
    · rename_i n q hat
      have kk := h.2 ad H locs la hr.tl
      dsimp only at kk
      rw [hpc] at kk
      exact va_zald hx hb hK hr.2.1 k 1 (am_cw_at (cA := cA) (ad := ad) hat) rfl h.1 hdg kk
    · rename_i n q hat
      have kk := h.2 ad H locs la hr.tl
      dsimp only at kk
      rw [hpc] at kk
      exact va_bald hx hb hK hr.2.1 k 2 (am_cw_at (cA := cA) (ad := ad) hat) rfl h.1 hdg kk
    · exact h.elim
  · exact h.elim
set_option maxHeartbeats 1000000 in
theorem am_s_laload {p : Program} {l : Launch} {e : Env} {R : Room} {s : State} {m : MethodId} {args : Array Value} {below : List Frame} {meth : Method} {c : Code} {Qf : State → Prop} {D : va_G} {cA : Nat → ClassId} {B : Nat} {cd : List am_E} {nL mc ms n0 : Nat} {ad0 : Nat → Nat} {K : am_K} {I : am_I} {Tc : am_T} {Q : Option Value → am_H → Prop} {own : String} {bytes : ByteArray} {isI : Bool} {ret : Option FieldType} {Y : am_Y} (X : am_CX p R s m meth c D cA B cd nL mc ms ad0 K own bytes isI ret Y) {pc : Nat} {rs : List Nat} {im : Int32} {wl : List Nat} {is : List am_E} {ls : am_L} {st : List Value} {hp : am_H} {nc ns : Nat} (h : am_step K I Tc cd mc ms Q (am_PW p l e R s m args below meth c Qf D cA B cd nL mc ms n0 ad0) ((pc, .laload, rs, im, wl) :: is, ls, st, hp, nc, ns)) : (am_PW p l e R s m args below meth c Qf D cA B cd nL mc ms n0 ad0) ((pc, .laload, rs, im, wl) :: is, ls, st, hp, nc, ns) := by
  intro ad H locs la hr
  obtain ⟨hx, hb, hml, hown, hisI, hTW, hK, hCU, hBs, hRc, hRf, hV⟩ := X
  have hok := hV _ _ hr.1.1
  obtain ⟨hdg, hpc⟩ := am_d_spec hok
  dsimp only [am_step] at h
  split at h
  · rename_i i k r
    split at h
    · rename_i n q hat
      have kk := h.2 ad H locs la hr.tl
      dsimp only at kk
      rw [hpc] at kk
      exact va_lald hx hb hK hr.2.1 k 3 (am_cw_at (cA := cA) (ad := ad) hat) rfl h.1 hdg kk
    · exact h.elim
  · exact h.elim
set_option maxHeartbeats 1000000 in
theorem am_s_aaload {p : Program} {l : Launch} {e : Env} {R : Room} {s : State} {m : MethodId} {args : Array Value} {below : List Frame} {meth : Method} {c : Code} {Qf : State → Prop} {D : va_G} {cA : Nat → ClassId} {B : Nat} {cd : List am_E} {nL mc ms n0 : Nat} {ad0 : Nat → Nat} {K : am_K} {I : am_I} {Tc : am_T} {Q : Option Value → am_H → Prop} {own : String} {bytes : ByteArray} {isI : Bool} {ret : Option FieldType} {Y : am_Y} (X : am_CX p R s m meth c D cA B cd nL mc ms ad0 K own bytes isI ret Y) {pc : Nat} {rs : List Nat} {im : Int32} {wl : List Nat} {is : List am_E} {ls : am_L} {st : List Value} {hp : am_H} {nc ns : Nat} (h : am_step K I Tc cd mc ms Q (am_PW p l e R s m args below meth c Qf D cA B cd nL mc ms n0 ad0) ((pc, .aaload, rs, im, wl) :: is, ls, st, hp, nc, ns)) : (am_PW p l e R s m args below meth c Qf D cA B cd nL mc ms n0 ad0) ((pc, .aaload, rs, im, wl) :: is, ls, st, hp, nc, ns) := by
  intro ad H locs la hr
  obtain ⟨hx, hb, hml, hown, hisI, hTW, hK, hCU, hBs, hRc, hRf, hV⟩ := X
  have hok := hV _ _ hr.1.1
  obtain ⟨hdg, hpc⟩ := am_d_spec hok
  dsimp only [am_step] at h
  split at h
  · rename_i i k r
    split at h
    · rename_i n q hat
      obtain ⟨hin, h⟩ := h
      split at h
      · rename_i a hn
        have kk := h ad H locs la hr.tl
        dsimp only at kk
        rw [hpc] at kk
        refine am_aald hx hb hK hr.2.1 k 4 (am_cw_at (cA := cA) (ad := ad) hat) rfl hin hdg ?_
        rw [am_nth_eq] at hn
        rw [show va_rf ((fun j => (q.getD j none).map ad) i.toNatClampNeg) = .ref (ad a) by simp [hn, va_rf]]
        exact kk
      · exact h.elim
    · exact h.elim
  · exact h.elim
set_option maxHeartbeats 1000000 in
theorem am_s_iastore {p : Program} {l : Launch} {e : Env} {R : Room} {s : State} {m : MethodId} {args : Array Value} {below : List Frame} {meth : Method} {c : Code} {Qf : State → Prop} {D : va_G} {cA : Nat → ClassId} {B : Nat} {cd : List am_E} {nL mc ms n0 : Nat} {ad0 : Nat → Nat} {K : am_K} {I : am_I} {Tc : am_T} {Q : Option Value → am_H → Prop} {own : String} {bytes : ByteArray} {isI : Bool} {ret : Option FieldType} {Y : am_Y} (X : am_CX p R s m meth c D cA B cd nL mc ms ad0 K own bytes isI ret Y) {pc : Nat} {rs : List Nat} {im : Int32} {wl : List Nat} {is : List am_E} {ls : am_L} {st : List Value} {hp : am_H} {nc ns : Nat} (h : am_step K I Tc cd mc ms Q (am_PW p l e R s m args below meth c Qf D cA B cd nL mc ms n0 ad0) ((pc, .iastore, rs, im, wl) :: is, ls, st, hp, nc, ns)) : (am_PW p l e R s m args below meth c Qf D cA B cd nL mc ms n0 ad0) ((pc, .iastore, rs, im, wl) :: is, ls, st, hp, nc, ns) := by
  intro ad H locs la hr
  obtain ⟨hx, hb, hml, hown, hisI, hTW, hK, hCU, hBs, hRc, hRf, hV⟩ := X
  have hok := hV _ _ hr.1.1
  obtain ⟨hdg, hpc⟩ := am_d_spec hok
  dsimp only [am_step] at h
  split at h
  · rename_i x i k r
    split at h
    · rename_i n q hat
      refine va_iast hx hb hK hr.2.1 hr.2.2.1 hr.2.2.2.1 k 0 (am_cw_at (cA := cA) (ad := ad) hat) rfl h.1 hdg (fun H1 locs1 hP hD hS => ?_)
      rw [am_setI (cA := cA) (ad := ad) hat (Or.inl rfl)] at hP hD
      have kk := h.2 ad H1 locs1 la (hr.wr rfl hP hD hS)
      dsimp only at kk
      rw [hpc] at kk
      exact kk
    · exact h.elim
  · exact h.elim
set_option maxHeartbeats 1000000 in
theorem am_s_bastore {p : Program} {l : Launch} {e : Env} {R : Room} {s : State} {m : MethodId} {args : Array Value} {below : List Frame} {meth : Method} {c : Code} {Qf : State → Prop} {D : va_G} {cA : Nat → ClassId} {B : Nat} {cd : List am_E} {nL mc ms n0 : Nat} {ad0 : Nat → Nat} {K : am_K} {I : am_I} {Tc : am_T} {Q : Option Value → am_H → Prop} {own : String} {bytes : ByteArray} {isI : Bool} {ret : Option FieldType} {Y : am_Y} (X : am_CX p R s m meth c D cA B cd nL mc ms ad0 K own bytes isI ret Y) {pc : Nat} {rs : List Nat} {im : Int32} {wl : List Nat} {is : List am_E} {ls : am_L} {st : List Value} {hp : am_H} {nc ns : Nat} (h : am_step K I Tc cd mc ms Q (am_PW p l e R s m args below meth c Qf D cA B cd nL mc ms n0 ad0) ((pc, .bastore, rs, im, wl) :: is, ls, st, hp, nc, ns)) : (am_PW p l e R s m args below meth c Qf D cA B cd nL mc ms n0 ad0) ((pc, .bastore, rs, im, wl) :: is, ls, st, hp, nc, ns) := by
  intro ad H locs la hr
  obtain ⟨hx, hb, hml, hown, hisI, hTW, hK, hCU, hBs, hRc, hRf, hV⟩ := X
  have hok := hV _ _ hr.1.1
  obtain ⟨hdg, hpc⟩ := am_d_spec hok
  dsimp only [am_step] at h
  split at h
  · rename_i x i k r
    split at h
    · rename_i n q hat
      refine va_zast hx hb hK hr.2.1 hr.2.2.1 hr.2.2.2.1 k 1 (am_cw_at (cA := cA) (ad := ad) hat) rfl h.1 hdg (fun H1 locs1 hP hD hS => ?_)
      rw [am_setI (cA := cA) (ad := ad) hat (Or.inr (Or.inl rfl))] at hP hD
      have kk := h.2 ad H1 locs1 la (hr.wr rfl hP hD hS)
      dsimp only at kk
      rw [hpc] at kk
      exact kk
    · rename_i n q hat
      refine va_bast hx hb hK hr.2.1 hr.2.2.1 hr.2.2.2.1 k 2 (am_cw_at (cA := cA) (ad := ad) hat) rfl h.1 hdg (fun H1 locs1 hP hD hS => ?_)
      rw [am_setI (cA := cA) (ad := ad) hat (Or.inr (Or.inr rfl))] at hP hD
      have kk := h.2 ad H1 locs1 la (hr.wr rfl hP hD hS)
      dsimp only at kk
      rw [hpc] at kk
      exact kk
    · exact h.elim
  · exact h.elim
set_option maxHeartbeats 1000000 in
theorem am_s_lastore {p : Program} {l : Launch} {e : Env} {R : Room} {s : State} {m : MethodId} {args : Array Value} {below : List Frame} {meth : Method} {c : Code} {Qf : State → Prop} {D : va_G} {cA : Nat → ClassId} {B : Nat} {cd : List am_E} {nL mc ms n0 : Nat} {ad0 : Nat → Nat} {K : am_K} {I : am_I} {Tc : am_T} {Q : Option Value → am_H → Prop} {own : String} {bytes : ByteArray} {isI : Bool} {ret : Option FieldType} {Y : am_Y} (X : am_CX p R s m meth c D cA B cd nL mc ms ad0 K own bytes isI ret Y) {pc : Nat} {rs : List Nat} {im : Int32} {wl : List Nat} {is : List am_E} {ls : am_L} {st : List Value} {hp : am_H} {nc ns : Nat} (h : am_step K I Tc cd mc ms Q (am_PW p l e R s m args below meth c Qf D cA B cd nL mc ms n0 ad0) ((pc, .lastore, rs, im, wl) :: is, ls, st, hp, nc, ns)) : (am_PW p l e R s m args below meth c Qf D cA B cd nL mc ms n0 ad0) ((pc, .lastore, rs, im, wl) :: is, ls, st, hp, nc, ns) := by
  intro ad H locs la hr
  obtain ⟨hx, hb, hml, hown, hisI, hTW, hK, hCU, hBs, hRc, hRf, hV⟩ := X
  have hok := hV _ _ hr.1.1
  obtain ⟨hdg, hpc⟩ := am_d_spec hok
  dsimp only [am_step] at h
  split at h
  · rename_i x i k r
    split at h
    · rename_i n q hat
      refine va_last hx hb hK hr.2.1 hr.2.2.1 hr.2.2.2.1 k 3 (am_cw_at (cA := cA) (ad := ad) hat) rfl h.1 hdg (fun H1 locs1 hP hD hS => ?_)
      rw [am_setLo (cA := cA) (ad := ad) hat] at hP hD
      have kk := h.2 ad H1 locs1 la (hr.wr rfl hP hD hS)
      dsimp only at kk
      rw [hpc] at kk
      exact kk
    · exact h.elim
  · exact h.elim
set_option maxHeartbeats 1000000 in
theorem am_s_arraylength {p : Program} {l : Launch} {e : Env} {R : Room} {s : State} {m : MethodId} {args : Array Value} {below : List Frame} {meth : Method} {c : Code} {Qf : State → Prop} {D : va_G} {cA : Nat → ClassId} {B : Nat} {cd : List am_E} {nL mc ms n0 : Nat} {ad0 : Nat → Nat} {K : am_K} {I : am_I} {Tc : am_T} {Q : Option Value → am_H → Prop} {own : String} {bytes : ByteArray} {isI : Bool} {ret : Option FieldType} {Y : am_Y} (X : am_CX p R s m meth c D cA B cd nL mc ms ad0 K own bytes isI ret Y) {pc : Nat} {rs : List Nat} {im : Int32} {wl : List Nat} {is : List am_E} {ls : am_L} {st : List Value} {hp : am_H} {nc ns : Nat} (h : am_step K I Tc cd mc ms Q (am_PW p l e R s m args below meth c Qf D cA B cd nL mc ms n0 ad0) ((pc, .arraylength, rs, im, wl) :: is, ls, st, hp, nc, ns)) : (am_PW p l e R s m args below meth c Qf D cA B cd nL mc ms n0 ad0) ((pc, .arraylength, rs, im, wl) :: is, ls, st, hp, nc, ns) := by
  intro ad H locs la hr
  obtain ⟨hx, hb, hml, hown, hisI, hTW, hK, hCU, hBs, hRc, hRf, hV⟩ := X
  have hok := hV _ _ hr.1.1
  obtain ⟨hdg, hpc⟩ := am_d_spec hok
  dsimp only [am_step] at h
  split at h
  · rename_i k r
    split at h
    · rename_i n q hat
      have kk := h ad H locs la hr.tl
      dsimp only at kk
      rw [hpc] at kk
      exact va_alen hx hb hK hr.2.1 k 0 (am_cw_at (cA := cA) (ad := ad) hat) (ty := .int) rfl rfl hdg kk
    · rename_i n q hat
      have kk := h ad H locs la hr.tl
      dsimp only at kk
      rw [hpc] at kk
      exact va_alen hx hb hK hr.2.1 k 3 (am_cw_at (cA := cA) (ad := ad) hat) (ty := .long) rfl rfl hdg kk
    · split at h
      · rename_i n f hk
        obtain ⟨h1, h2, h3⟩ := hCU.1 k n f hk
        have kk := h ad H locs la hr.tl
        dsimp only at kk
        rw [hpc] at kk
        have e : ad k = ad0 k := hr.1.2.2.1 k (Or.inr h1)
        show W _ _ _ _ _ _ _ _ _ _ _ _ _ _ _ (F0 m pc la (.ref (ad k) :: List.map (am_v ad) r))
        rw [e]
        exact va_slen hx hb h2 (Nat.lt_of_lt_of_le h3 hBs) (Nat.not_le.mpr h3) hr.2.2.2.1 hdg kk
      · exact h.elim
    · exact h.elim
  · exact h.elim
set_option maxHeartbeats 1000000 in
theorem am_s_getstatic {p : Program} {l : Launch} {e : Env} {R : Room} {s : State} {m : MethodId} {args : Array Value} {below : List Frame} {meth : Method} {c : Code} {Qf : State → Prop} {D : va_G} {cA : Nat → ClassId} {B : Nat} {cd : List am_E} {nL mc ms n0 : Nat} {ad0 : Nat → Nat} {K : am_K} {I : am_I} {Tc : am_T} {Q : Option Value → am_H → Prop} {own : String} {bytes : ByteArray} {isI : Bool} {ret : Option FieldType} {Y : am_Y} (X : am_CX p R s m meth c D cA B cd nL mc ms ad0 K own bytes isI ret Y) {pc : Nat} {i : Nat} {rs : List Nat} {im : Int32} {wl : List Nat} {is : List am_E} {ls : am_L} {st : List Value} {hp : am_H} {nc ns : Nat} (h : am_step K I Tc cd mc ms Q (am_PW p l e R s m args below meth c Qf D cA B cd nL mc ms n0 ad0) ((pc, .getstatic i, rs, im, wl) :: is, ls, st, hp, nc, ns)) : (am_PW p l e R s m args below meth c Qf D cA B cd nL mc ms n0 ad0) ((pc, .getstatic i, rs, im, wl) :: is, ls, st, hp, nc, ns) := by
  intro ad H locs la hr
  obtain ⟨hx, hb, hml, hown, hisI, hTW, hK, hCU, hBs, hRc, hRf, hV⟩ := X
  have hok := hV _ _ hr.1.1
  obtain ⟨hd, hv⟩ := (Bool.and_eq_true _ _).mp hok
  obtain ⟨hdg, hpc⟩ := am_d_spec hd
  dsimp only [am_step] at h
  split at h
  · rename_i k
    split at hv
    · rename_i k2 wi he
      cases he
      obtain ⟨h1, h2⟩ := (Bool.and_eq_true _ _).mp hv
      have hk := of_decide_eq_true h1
      subst hk
      have kk := h ad H locs la hr.tl
      dsimp only at kk
      rw [hpc] at kk
      have e9 : ad 1001 = ad0 1001 := hr.1.2.2.1 1001 (Or.inr (by decide))
      have kk : W p l e R s m args below meth c H locs nc ns Qf (F0 m (pc + 3) la (.ref (ad 1001) :: List.map (am_v ad) st)) := kk
      rw [e9] at kk
      exact va_gets hx hb hCU.2.1 hr.2.2.2.1 hown (hTW.at (of_decide_eq_true h2) rfl args) (fun _ h => h) hdg kk
    · cases hv
  · exact h.elim
set_option maxHeartbeats 1000000 in
theorem am_s_ldc {p : Program} {l : Launch} {e : Env} {R : Room} {s : State} {m : MethodId} {args : Array Value} {below : List Frame} {meth : Method} {c : Code} {Qf : State → Prop} {D : va_G} {cA : Nat → ClassId} {B : Nat} {cd : List am_E} {nL mc ms n0 : Nat} {ad0 : Nat → Nat} {K : am_K} {I : am_I} {Tc : am_T} {Q : Option Value → am_H → Prop} {own : String} {bytes : ByteArray} {isI : Bool} {ret : Option FieldType} {Y : am_Y} (X : am_CX p R s m meth c D cA B cd nL mc ms ad0 K own bytes isI ret Y) {pc : Nat} {i : Nat} {rs : List Nat} {im : Int32} {wl : List Nat} {is : List am_E} {ls : am_L} {st : List Value} {hp : am_H} {nc ns : Nat} (h : am_step K I Tc cd mc ms Q (am_PW p l e R s m args below meth c Qf D cA B cd nL mc ms n0 ad0) ((pc, .ldc i, rs, im, wl) :: is, ls, st, hp, nc, ns)) : (am_PW p l e R s m args below meth c Qf D cA B cd nL mc ms n0 ad0) ((pc, .ldc i, rs, im, wl) :: is, ls, st, hp, nc, ns) := by
  intro ad H locs la hr
  obtain ⟨hx, hb, hml, hown, hisI, hTW, hK, hCU, hBs, hRc, hRf, hV⟩ := X
  have hok := hV _ _ hr.1.1
  obtain ⟨hd, hv⟩ := (Bool.and_eq_true _ _).mp hok
  obtain ⟨hdg, hpc⟩ := am_d_spec hd
  dsimp only [am_step] at h
  split at h
  · split at hv
    · have kk := h ad H locs la hr.tl
      dsimp only at kk
      rw [hpc] at kk
      exact lv_ldc hx hb hown (hTW.at (of_decide_eq_true hv) rfl args) hdg kk
    · rename_i he
      cases he
    · cases hv
  · rename_i k rs2
    split at hv
    · rename_i he
      cases he
    · rename_i k2 wi he
      cases he
      unfold am_sxok at hv
      split at hv
      · rename_i o j tx hw
        obtain ⟨h1, h2⟩ := (Bool.and_eq_true _ _).mp hv
        obtain ⟨rfl, rfl⟩ := of_decide_eq_true h1
        have hk := Nat.eq_of_beq_eq_true h2
        have kk := h ad H locs la hr.tl
        dsimp only at kk
        rw [hpc] at kk
        have e9 : ad k = ad0 k := hr.1.2.2.1 k (Or.inr (by omega))
        have kk : W p l e R s m args below meth c H locs nc ns Qf (F0 m (pc + 2) la (.ref (ad k) :: List.map (am_v ad) st)) := kk
        rw [e9] at kk
        have hZ := hCU.2.2 _ _ _ _ hw
        rw [show am_str wi = k from hk.symm] at hZ
        exact va_ldcS hx hb hown hZ hdg kk
      · cases hv
    · cases hv
set_option maxHeartbeats 1000000 in
theorem am_s_ldc_w {p : Program} {l : Launch} {e : Env} {R : Room} {s : State} {m : MethodId} {args : Array Value} {below : List Frame} {meth : Method} {c : Code} {Qf : State → Prop} {D : va_G} {cA : Nat → ClassId} {B : Nat} {cd : List am_E} {nL mc ms n0 : Nat} {ad0 : Nat → Nat} {K : am_K} {I : am_I} {Tc : am_T} {Q : Option Value → am_H → Prop} {own : String} {bytes : ByteArray} {isI : Bool} {ret : Option FieldType} {Y : am_Y} (X : am_CX p R s m meth c D cA B cd nL mc ms ad0 K own bytes isI ret Y) {pc : Nat} {i : Nat} {rs : List Nat} {im : Int32} {wl : List Nat} {is : List am_E} {ls : am_L} {st : List Value} {hp : am_H} {nc ns : Nat} (h : am_step K I Tc cd mc ms Q (am_PW p l e R s m args below meth c Qf D cA B cd nL mc ms n0 ad0) ((pc, .ldc_w i, rs, im, wl) :: is, ls, st, hp, nc, ns)) : (am_PW p l e R s m args below meth c Qf D cA B cd nL mc ms n0 ad0) ((pc, .ldc_w i, rs, im, wl) :: is, ls, st, hp, nc, ns) := by
  intro ad H locs la hr
  obtain ⟨hx, hb, hml, hown, hisI, hTW, hK, hCU, hBs, hRc, hRf, hV⟩ := X
  have hok := hV _ _ hr.1.1
  obtain ⟨hd, hv⟩ := (Bool.and_eq_true _ _).mp hok
  obtain ⟨hdg, hpc⟩ := am_d_spec hd
  split at hv
  · have kk := h ad H locs la hr.tl
    dsimp only at kk
    rw [hpc] at kk
    exact lv_ldcw hx hb hown (hTW.at (of_decide_eq_true hv) rfl args) hdg kk
  · cases hv
set_option maxHeartbeats 1000000 in
theorem am_s_ldc2_w {p : Program} {l : Launch} {e : Env} {R : Room} {s : State} {m : MethodId} {args : Array Value} {below : List Frame} {meth : Method} {c : Code} {Qf : State → Prop} {D : va_G} {cA : Nat → ClassId} {B : Nat} {cd : List am_E} {nL mc ms n0 : Nat} {ad0 : Nat → Nat} {K : am_K} {I : am_I} {Tc : am_T} {Q : Option Value → am_H → Prop} {own : String} {bytes : ByteArray} {isI : Bool} {ret : Option FieldType} {Y : am_Y} (X : am_CX p R s m meth c D cA B cd nL mc ms ad0 K own bytes isI ret Y) {pc : Nat} {i : Nat} {rs : List Nat} {im : Int32} {wl : List Nat} {is : List am_E} {ls : am_L} {st : List Value} {hp : am_H} {nc ns : Nat} (h : am_step K I Tc cd mc ms Q (am_PW p l e R s m args below meth c Qf D cA B cd nL mc ms n0 ad0) ((pc, .ldc2_w i, rs, im, wl) :: is, ls, st, hp, nc, ns)) : (am_PW p l e R s m args below meth c Qf D cA B cd nL mc ms n0 ad0) ((pc, .ldc2_w i, rs, im, wl) :: is, ls, st, hp, nc, ns) := by
  intro ad H locs la hr
  obtain ⟨hx, hb, hml, hown, hisI, hTW, hK, hCU, hBs, hRc, hRf, hV⟩ := X
  have hok := hV _ _ hr.1.1
  obtain ⟨hd, hv⟩ := (Bool.and_eq_true _ _).mp hok
  obtain ⟨hdg, hpc⟩ := am_d_spec hd
  split at hv
  · have kk := h ad H locs la hr.tl
    dsimp only at kk
    rw [hpc] at kk
    exact lv_ldc2 hx hb hown (hTW.at (of_decide_eq_true hv) rfl args) hdg kk
  · cases hv
set_option maxHeartbeats 1000000 in
theorem am_s_lookupswitch {p : Program} {l : Launch} {e : Env} {R : Room} {s : State} {m : MethodId} {args : Array Value} {below : List Frame} {meth : Method} {c : Code} {Qf : State → Prop} {D : va_G} {cA : Nat → ClassId} {B : Nat} {cd : List am_E} {nL mc ms n0 : Nat} {ad0 : Nat → Nat} {K : am_K} {I : am_I} {Tc : am_T} {Q : Option Value → am_H → Prop} {own : String} {bytes : ByteArray} {isI : Bool} {ret : Option FieldType} {Y : am_Y} (X : am_CX p R s m meth c D cA B cd nL mc ms ad0 K own bytes isI ret Y) {pc : Nat} {dflt : Int} {ps : Array (Int × Int)} {rs : List Nat} {im : Int32} {wl : List Nat} {is : List am_E} {ls : am_L} {st : List Value} {hp : am_H} {nc ns : Nat} (h : am_step K I Tc cd mc ms Q (am_PW p l e R s m args below meth c Qf D cA B cd nL mc ms n0 ad0) ((pc, .lookupswitch dflt ps, rs, im, wl) :: is, ls, st, hp, nc, ns)) : (am_PW p l e R s m args below meth c Qf D cA B cd nL mc ms n0 ad0) ((pc, .lookupswitch dflt ps, rs, im, wl) :: is, ls, st, hp, nc, ns) := by
  intro ad H locs la hr
  obtain ⟨hx, hb, hml, hown, hisI, hTW, hK, hCU, hBs, hRc, hRf, hV⟩ := X
  have hok := hV _ _ hr.1.1
  obtain ⟨hd, hv⟩ := (Bool.and_eq_true _ _).mp hok
  dsimp only [am_step] at h
  split at hd
  · rename_i i9 len hdc
    have hi9 := of_decide_eq_true hd
    subst hi9
    split at h
    · rename_i d ts x r
      obtain ⟨h1, h2⟩ := (Bool.and_eq_true _ _).mp hv
      obtain ⟨h3, h4⟩ := (Bool.and_eq_true _ _).mp h2
      obtain ⟨off, t, g1, g2, g3⟩ := am_look_at h1 h3 h
      have kk := g3 ad H locs la (hr.go (List.drop_suffix t cd))
      exact lv_lookup hx hb hdc h4 g1 (am_j_spec g2) kk
    · exact h.elim
  · cases hd
set_option maxHeartbeats 1000000 in
theorem am_s_tableswitch {p : Program} {l : Launch} {e : Env} {R : Room} {s : State} {m : MethodId} {args : Array Value} {below : List Frame} {meth : Method} {c : Code} {Qf : State → Prop} {D : va_G} {cA : Nat → ClassId} {B : Nat} {cd : List am_E} {nL mc ms n0 : Nat} {ad0 : Nat → Nat} {K : am_K} {I : am_I} {Tc : am_T} {Q : Option Value → am_H → Prop} {own : String} {bytes : ByteArray} {isI : Bool} {ret : Option FieldType} {Y : am_Y} (X : am_CX p R s m meth c D cA B cd nL mc ms ad0 K own bytes isI ret Y) {pc : Nat} {dflt lo hi : Int} {offs : Array Int} {rs : List Nat} {im : Int32} {wl : List Nat} {is : List am_E} {ls : am_L} {st : List Value} {hp : am_H} {nc ns : Nat} (h : am_step K I Tc cd mc ms Q (am_PW p l e R s m args below meth c Qf D cA B cd nL mc ms n0 ad0) ((pc, .tableswitch dflt lo hi offs, rs, im, wl) :: is, ls, st, hp, nc, ns)) : (am_PW p l e R s m args below meth c Qf D cA B cd nL mc ms n0 ad0) ((pc, .tableswitch dflt lo hi offs, rs, im, wl) :: is, ls, st, hp, nc, ns) := by
  intro ad H locs la hr
  obtain ⟨hx, hb, hml, hown, hisI, hTW, hK, hCU, hBs, hRc, hRf, hV⟩ := X
  have hok := hV _ _ hr.1.1
  obtain ⟨hd, hv⟩ := (Bool.and_eq_true _ _).mp hok
  dsimp only [am_step] at h
  split at hd
  · rename_i i9 len hdc
    have hi9 := of_decide_eq_true hd
    subst hi9
    split at h
    · rename_i d ts x r
      obtain ⟨h1, h2⟩ := (Bool.and_eq_true _ _).mp hv
      obtain ⟨h3, h4⟩ := (Bool.and_eq_true _ _).mp h2
      obtain ⟨hlo, hhi, hlo0, hhi0⟩ := of_decide_eq_true h4
      obtain ⟨hlen, hat⟩ := am_tok_at h3
      have hL : ts.length < 1001 := by omega
      have hsum : (im + Int32.ofNat ts.length).toInt = lo + (ts.length : Int) := by
        rw [Int32.toInt_add, hlo, Int32.toInt_ofNat_of_lt (by omega)]
        rw [Int.bmod_eq_of_le] <;> omega
      by_cases ho : x.toInt < lo ∨ hi < x.toInt
      · have kk := h.2 (by
          rcases ho with ho | ho
          · exact Or.inl (Int32.lt_iff_toInt_lt.mpr (by rw [hlo]; exact ho))
          · exact Or.inr (Int32.le_iff_toInt_le.mpr (by rw [hsum]; omega))) ad H locs la (hr.go (List.drop_suffix d cd))
        exact lv_tableOut hx hb hdc ho (am_j_spec h1) kk
      · have ho1 : ¬ x.toInt < lo := fun q => ho (Or.inl q)
        have ho2 : ¬ hi < x.toInt := fun q => ho (Or.inr q)
        have hidx : (x.toInt - lo).toNat < ts.length := by omega
        obtain ⟨t, ht⟩ : ∃ t, ts[(x.toInt - lo).toNat]? = some t := ⟨_, List.getElem?_eq_getElem hidx⟩
        obtain ⟨o, ho3, ho4⟩ := hat _ _ ht
        have hxe : x = im + Int32.ofNat (x.toInt - lo).toNat := by
          apply Int32.toInt_inj.mp
          rw [Int32.toInt_add, hlo, Int32.toInt_ofNat_of_lt (by omega), Int.bmod_eq_of_le] <;> omega
        have kk := am_tab_at h.1 ht hxe ad H locs la (hr.go (List.drop_suffix t cd))
        exact lv_tableIn hx hb hdc ho1 ho2 (by rw [← Array.getElem?_toList]; exact ho3) (am_j_spec ho4) kk
    · exact h.elim
  · cases hd
end
section
/-! ===== calls ===== -/
def am_rm (d mc ms : Nat) : Room := { frames := d + 8, cells := mc, slots := ms, locals := 60 * d + 400 }
def am_Pc (D : va_G) (cA : Nat → ClassId) (B : Nat) (K : am_K) (ad : Nat → Nat) (as : List Value) (hp : am_H) : Array Value → State → Prop := va_Pc (as.map (am_v ad)) (fun U => B ≤ U.heap.size ∧ am_TW U ∧ va_K D vwCl (am_tys cA) U ∧ am_CU K ad B U U.heap ∧ va_P D vwCl (am_cw cA ad hp) U.heap ∧ va_D (fun a => B ≤ a) (am_cw cA ad hp))
def am_Qc (D : va_G) (cA : Nat → ClassId) (B : Nat) (ad : Nat → Nat) (hp : am_H) (mc : Nat) (Q : Option Value → am_H → Prop) : Array Value → State → Outcome → State → Prop := fun _ st oc t => (∃ (o : Option Value) (h2 : am_H) (ad2 : Nat → Nat), oc = .returned (o.map (am_v ad2)) ∧ Q o h2 ∧ (mc = 0 → ad2 = ad) ∧ (∀ k, (k < hp.1.length ∨ 1000 ≤ k) → ad2 k = ad k) ∧ hp.1.length ≤ h2.1.length ∧ va_P D vwCl (am_cw cA ad2 h2) t.heap ∧ va_D (fun a => B ≤ a) (am_cw cA ad2 h2)) ∧ va_F (fun a => B ≤ a) st t
def am_Met (l : Launch) (Y : am_Y) (D : va_G) (cA : Nat → ClassId) (B : Nat) (K : am_K) (mid : Nat) (as : List Value) (hp : am_H) (mc ms : Nat) (Q : Option Value → am_H → Prop) (d : Nat) : Prop :=
  ∀ ad : Nat → Nat, Met l (Y mid).1 [.code (Y mid).1 (Y mid).2.1 (Y mid).2.2.1 (Y mid).2.2.2.1] (am_rm d mc ms) (am_Pc D cA B K ad as hp) (am_Qc D cA B ad hp mc Q) mc ms (fun a => B ≤ a)
/-- a method's row is right -/
def am_yok (Y : am_Y) (mid : Nat) : Prop := lw_tbl[(Y mid).2.2.2.2.1]? = some (.code (Y mid).1 (Y mid).2.1 (Y mid).2.2.1 (Y mid).2.2.2.1) ∧ lw_tbl[(Y mid).2.2.2.2.2.1]? = some (.initialized (Y mid).1.cls) ∧ (Y mid).2.2.1 ≤ 41 ∧ ((Y mid).1.cls ≠ "java/lang/invoke/MethodHandle" ∧ (Y mid).1.cls ≠ "java/lang/invoke/VarHandle") ∧ plainName (Y mid).1.cls = true
theorem am_CU.warm {K : am_K} {ad : Nat → Nat} {B : Nat} {s U : State} {H : Heap} (hW : s.WarmedH U.vm) (hU : U.heap = H) (hB : B ≤ s.heap.size) (hk : ∀ q : Nat, q < s.heap.size → ¬ B ≤ q → H[q]? = s.heap[q]?) (h : am_CU K ad B s s.heap) : am_CU K ad B U U.heap := by
  refine ⟨fun k n f hK => ?_, ?_, fun i o j tx hi => (h.2.2 i o j tx hi).warm hW⟩
  · obtain ⟨h1, h2, h3⟩ := h.1 k n f hK
    refine ⟨h1, (h2.kept ?_).moved hW.alike, h3⟩
    rw [hU]
    exact hk _ (Nat.lt_of_lt_of_le h3 hB) (Nat.not_le.mpr h3)
  · refine (h.2.1.kept (fun a h1 h2 => ?_)).moved hW.alike
    rw [hU]
    exact hk a h1 h2
theorem am_CU.same {K : am_K} {ad : Nat → Nat} {B : Nat} {s U : State} (hv : U.vm = s.vm) (hh : U.heap = s.heap) (hB : B ≤ s.heap.size) (h : am_CU K ad B s s.heap) : am_CU K ad B U U.heap := by
  refine am_CU.warm (by rw [hv]; exact State.WarmedH.refl s) rfl hB (fun q _ _ => by rw [hh]) h
theorem am_CU.ad {K : am_K} {ad ad2 : Nat → Nat} {B : Nat} {U : State} {H : Heap} (he : ∀ k, 1000 ≤ k → ad2 k = ad k) (h : am_CU K ad B U H) : am_CU K ad2 B U H := by
  refine ⟨fun k n f hK => ?_, ?_, fun i o j tx hi => ?_⟩
  · obtain ⟨h1, h2, h3⟩ := h.1 k n f hK
    rw [he k h1]
    exact ⟨h1, h2, h3⟩
  · rw [he 1001 (by decide)]
    exact h.2.1
  · rw [he (am_str i) (by unfold am_str; omega)]
    exact h.2.2 i o j tx hi
theorem am_Pc.blind {D : va_G} {cA : Nat → ClassId} {B : Nat} {K : am_K} {ad : Nat → Nat} {as : List Value} {hp : am_H} : FrameBlind (am_Pc D cA B K ad as hp) := by
  intro a U g mk h
  obtain ⟨h0, h1, h2, h3, h4, h5, h6⟩ := h
  exact ⟨h0, h1, am_TW.warm (s := U) (U := U.calling g mk a) (State.WarmedH.refl U) h2, va_K.moved (u := U) (U := U.calling g mk a) (Vm.Alike.refl U.vm) h3, am_CU.same (s := U) (U := U.calling g mk a) rfl rfl h1 h4, h5, h6⟩
theorem am_Pc.pre {D : va_G} {cA : Nat → ClassId} {B : Nat} {K : am_K} {ad : Nat → Nat} {as : List Value} {hp : am_H} {s : State} {H : Heap} {locs : List Loc} (hB : B ≤ s.heap.size) (hTW : am_TW s) (hK : va_K D vwCl (am_tys cA) s) (hC : am_CU K ad B s s.heap) (hP : va_P D vwCl (am_cw cA ad hp) H) (hD : va_D (fun a => B ≤ a) (am_cw cA ad hp)) (hS : va_S (fun a => B ≤ a) s.heap H locs) : PreS s H (am_Pc D cA B K ad as hp) (as.map (am_v ad)) := by
  refine ⟨am_Pc.blind, fun U hU hW => ⟨rfl, ?_, hTW.warm hW, va_K.moved hW.alike hK, hC.warm hW hU hB (fun q h1 h2 => hS.2.1 q h1 h2), by rw [hU]; exact hP, hD⟩⟩
  rw [hU]
  exact Nat.le_trans hB hS.1
theorem am_callX {p : Program} {l : Launch} {e : Env} {R : Room} {s : State} {m : MethodId} {args : Array Value} {below : List Frame} {meth : Method} {c : Code} {H : Heap} {locs : List Loc} {cells slots mc ms : Nat} {Q : State → Prop} {pc : Nat} {ls : Array Slot} {rest st0 : List Value} {A0 : Nat → Prop} {H0 : Heap} {Qa : State → Outcome → State → Prop} {free : Addr → Prop} (hr : va_Run p l e R s m args below meth c H locs cells slots mc ms (F0 m pc ls st0) rest Qa free) (hS : va_S A0 H0 H locs) (hf : ∀ q, free q → A0 q) (hQ : ∀ (st : State) (v : Option Value) (t : State), Qa st (.returned v) t → va_F A0 st t)
    (kk : ∀ (v : Option Value) (st t : State) (H1 : Heap) (locs1 : List Loc), t.heap = H1 → Qa st (.returned v) t → va_S A0 H0 H1 locs1 → W p l e R s m args below meth c H1 locs1 (cells + mc) (slots + ms) Q (F0 m (pc + 3) ls (v.toList ++ rest))) : W p l e R s m args below meth c H locs cells slots Q (F0 m pc ls st0) := by
  intro T hT X
  obtain ⟨v, st₀, t, T', L, h0, X', hL, e1, e2, hq, st⟩ := hr T hT X
  obtain ⟨hz, hk⟩ := hQ _ _ _ hq
  rw [h0] at hz hk
  obtain ⟨t2, a1, b1⟩ := kk v st₀ t T'.heap (locs ++ L) e1.symm hq
    ⟨Nat.le_trans hS.1 (by rw [e1]; exact hz), fun q h1 h2 => by rw [e1, hk q (Nat.lt_of_lt_of_le h1 hS.1) h2]; exact hS.2.1 q h1 h2, fun q hq => by
      rcases List.mem_append.mp hq with h | h
      · exact hS.2.2 q h
      · exact hf _ (hL q h)⟩ T' rfl X'
  exact ⟨t2, st t2 a1, b1⟩
theorem am_pop_eq : ∀ {n : Nat} {acc st as r : List Value}, am_pop n acc st = some (as, r) → ∃ bs : List Value, bs.length = n ∧ st = bs.reverse ++ r ∧ as = bs ++ acc
  | 0, acc, st, as, r, h => by
    have h2 : some (acc, st) = some (as, r) := h
    cases h2
    exact ⟨[], rfl, rfl, rfl⟩
  | n + 1, acc, [], as, r, h => by
    simp [am_pop] at h
  | n + 1, acc, v :: st, as, r, h => by
    obtain ⟨bs, h1, h2, h3⟩ := am_pop_eq (n := n) (acc := v :: acc) (st := st) h
    exact ⟨bs ++ [v], by simp [h1], by simp [h2], by simp [h3]⟩
theorem am_ws_eq (ad : Nat → Nat) : ∀ r : List Value, ((r.map (am_v ad)).map fun v => v.category).sum = am_ws r
  | [] => rfl
  | v :: r => by
    simp only [List.map_cons, List.sum_cons, am_v_cat, am_ws]
    rw [am_ws_eq ad r]
theorem am_rv_eq {ad ad2 : Nat → Nat} {n : Nat} (he : ∀ k, (k < n ∨ 1000 ≤ k) → ad2 k = ad k) {v : Value} (h : am_rv n v = true) : am_v ad2 v = am_v ad v := by
  cases v <;> try rfl
  rename_i k
  rcases (Bool.or_eq_true _ _).mp h with h | h
  · exact congrArg Value.ref (he k (Or.inl (Nat.le_of_ble_eq_true h)))
  · exact congrArg Value.ref (he k (Or.inr (Nat.le_of_ble_eq_true h)))
theorem am_rs_eq {ad ad2 : Nat → Nat} {n : Nat} (he : ∀ k, (k < n ∨ 1000 ≤ k) → ad2 k = ad k) : ∀ {r : List Value}, am_rs n r = true → r.map (am_v ad2) = r.map (am_v ad)
  | [], _ => rfl
  | v :: r, h => by
    obtain ⟨h1, h2⟩ := (Bool.and_eq_true _ _).mp h
    rw [List.map_cons, List.map_cons, am_rv_eq he h1, am_rs_eq he h2]
theorem am_rl_eq {n : Nat} : ∀ {l : am_L} {i : Nat} {v : Value}, am_rl n l = true → am_get l i = some v → am_rv n v = true
  | [], _, _, _, h => by simp [am_get] at h
  | none :: l, 0, v, _, h => by cases h
  | some w :: l, 0, v, h, hg => by
    cases hg
    exact ((Bool.and_eq_true _ _).mp h).1
  | none :: l, i + 1, v, h, hg => am_rl_eq (l := l) h hg
  | some w :: l, i + 1, v, h, hg => am_rl_eq (l := l) ((Bool.and_eq_true _ _).mp h).2 hg
theorem am_LV.ad {ad ad2 : Nat → Nat} {n : Nat} (he : ∀ k, (k < n ∨ 1000 ≤ k) → ad2 k = ad k) {ls : am_L} {la : Array Slot} {nL : Nat} (hl : am_rl n ls = true) (h : am_LV ad ls la nL) : am_LV ad2 ls la nL := ⟨h.1, h.2.1, fun i v hg => by rw [am_rv_eq he (am_rl_eq hl hg)]; exact h.get hg, h.2.2.2⟩
theorem am_push_eq (ad : Nat → Nat) (o : Option Value) (r : List Value) : (am_push o r).map (am_v ad) = (o.map (am_v ad)).toList ++ r.map (am_v ad) := by cases o <;> rfl
theorem am_prims : Jvm.Cond.instanceMethod Lib.objectInit ∈ lw_tbl ∧ Jvm.Cond.code Lib.objectInit ⟨#[0xb1]⟩ 1 none ∈ lw_tbl ∧ Jvm.Cond.initialized "java/lang/Math" ∈ lw_tbl ∧ Jvm.Cond.static Lib.Math.max.name ∈ lw_tbl ∧ Jvm.Cond.static Lib.Math.min.name ∈ lw_tbl ∧ Jvm.Cond.static Lib.Math.abs.name ∈ lw_tbl ∧ Jvm.Cond.code Lib.Math.max.name Lib.Math.max.code 2 (some .int) ∈ lw_tbl ∧ Jvm.Cond.code Lib.Math.min.name Lib.Math.min.code 2 (some .int) ∈ lw_tbl ∧ Jvm.Cond.code Lib.Math.abs.name Lib.Math.abs.code 1 (some .int) ∈ lw_tbl ∧ Jvm.Cond.native arraycopyName ∈ lw_tbl ∧ Jvm.Cond.static arraycopyName ∈ lw_tbl ∧ Jvm.Cond.initialized "java/lang/System" ∈ lw_tbl := by
  have h := am_primsOk_t
  unfold am_primsOk at h
  simpa only [Bool.and_eq_true, decide_eq_true_eq] using h
/-- the texts' indexOf: what it must do on the machine -/
def am_IOK (l : Launch) (B : Nat) (K : am_K) (I : am_I) : Prop := ∀ {p : Program} {e : Env} {R : Room} {s : State} {m : MethodId} {args : Array Value} {below : List Frame} {meth : Method} {c : Code} {H : Heap} {locs : List Loc} {cells slots : Nat} {Q : State → Prop} {cc : ByteArray} {pc : Nat} {la : Array Slot} {rest : List Value} {ad : Nat → Nat} {k : Nat} {x : Int32} {idx : Nat} {own : String} {f : Int32 → Int32}, p.tables.exec = Jvm.exec → c.code = cc → c.maxLocals = la.size → s.vm.findClass own = some m.cls → am_TW s → am_CU K ad B s s.heap → B ≤ s.heap.size → va_S (fun a => B ≤ a) s.heap H locs → 8 ≤ R.frames → 400 ≤ R.locals → cells ≤ R.cells → slots ≤ R.slots → (Jvm.Cond.methodLink own idx (am_primN 5)).before args s = true → (0 ≤ x ∧ x < 65536) → I k = some f → (rest.map fun v => v.category).sum ≤ 8 → decode cc pc = .ok (.invokevirtual idx, 3) → W p l e R s m args below meth c H locs cells slots Q (F0 m (pc + 3) la (.int (f x) :: rest)) → W p l e R s m args below meth c H locs cells slots Q (F0 m pc la (.int x :: .ref (ad k) :: rest))
theorem am_setC {cA : Nat → ClassId} {ad : Nat → Nat} {hp : am_H} {k k2 n1 sp dp n : Nat} {q : List (Option Nat)} (hat : am_at hp.1 k2 = some (100, n1, q)) : (am_cw cA ad hp).set k2 (ad k2, .inl (cA 100, n1, .inl (va_cpy (hp.2.1 k) (hp.2.1 k2) sp dp n))) = am_cw cA ad (hp.1, am_cpy hp.2.1 k k2 sp dp n, hp.2.2) := am_cw_set hat (fun i => by
    by_cases e : i = k2
    · rw [if_pos e, e, ← am_at_eq]; exact hat
    · rw [if_neg e]) (fun i y hi => am_cell_v y (by
    funext b
    dsimp only
    unfold am_cpy
    rw [am_bne hi]
    rfl) rfl) (by
    rw [am_cell_i (Or.inl rfl)]
    dsimp only
    rw [show am_cpy hp.2.1 k k2 sp dp n k2 = va_cpy (hp.2.1 k) (hp.2.1 k2) sp dp n by
      funext b
      unfold am_cpy va_cpy
      rw [am_beq]
      by_cases h1 : dp ≤ b
      · by_cases h2 : b < dp + n
        · rw [if_pos ⟨h1, h2⟩, show (true && (Nat.ble dp b && Nat.blt b (dp + n))) = true by rw [Nat.ble_eq_true_of_le h1, show Nat.blt b (dp + n) = true from Nat.ble_eq_true_of_le h2]; rfl]
        · rw [if_neg (fun q => h2 q.2), show (true && (Nat.ble dp b && Nat.blt b (dp + n))) = false by
            cases hh : Nat.blt b (dp + n) with
            | false => simp
            | true => exact absurd (Nat.le_of_ble_eq_true hh) h2]
      · rw [if_neg (fun q => h1 q.1), show (true && (Nat.ble dp b && Nat.blt b (dp + n))) = false by
          cases hh : Nat.ble dp b with
          | false => rfl
          | true => exact absurd (Nat.le_of_ble_eq_true hh) h1]])
/-- what every call asks but its link -/
theorem am_cw0 {Y : am_Y} {mid : Nat} (hy : am_yok Y mid) {R : Room} {s : State} (args : Array Value) (hTW : am_TW s) {d mc ms : Nat} (hR : d + 9 ≤ R.frames ∧ 60 * d + 460 ≤ R.locals) :
    ((am_rm d mc ms).cells = mc ∧ (am_rm d mc ms).slots = ms ∧ (am_rm d mc ms).frames + 1 ≤ R.frames ∧ 8 + ((Y mid).2.2.1 + 11) + (am_rm d mc ms).locals ≤ R.locals ∧ (∀ w ∈ [Jvm.Cond.code (Y mid).1 (Y mid).2.1 (Y mid).2.2.1 (Y mid).2.2.2.1], ∀ (a' : Array Value) (U : State), s.WarmedH U.vm → w.before a' U = true) ∧ Jvm.Cond.code (Y mid).1 (Y mid).2.1 (Y mid).2.2.1 (Y mid).2.2.2.1 ∈ [Jvm.Cond.code (Y mid).1 (Y mid).2.1 (Y mid).2.2.1 (Y mid).2.2.2.1]) ∧ (Jvm.Cond.code (Y mid).1 (Y mid).2.1 (Y mid).2.2.1 (Y mid).2.2.2.1).before args s = true ∧ (Jvm.Cond.initialized (Y mid).1.cls).before args s = true ∧ ((Y mid).1.cls ≠ "java/lang/invoke/MethodHandle" ∧ (Y mid).1.cls ≠ "java/lang/invoke/VarHandle") := by
  obtain ⟨h1, h2, h3, h4, -⟩ := hy
  refine ⟨⟨rfl, rfl, ?_, ?_, ?_, List.mem_cons_self⟩, hTW.at h1 rfl args, hTW.at h2 rfl args, h4⟩
  · show d + 8 + 1 ≤ R.frames
    omega
  · show 8 + ((Y mid).2.2.1 + 11) + (60 * d + 400) ≤ R.locals
    omega
  · intro w hw a' U hW
    rw [List.mem_singleton.mp hw]
    exact (hTW.warm hW).at h1 rfl a'
theorem am_np_len {d : String} {n : Nat} (h : am_np d = some n) : ∀ sig, parseMethodDescriptor d = some sig → n = sig.parameters.length := by
  intro sig hs
  unfold am_np at h
  rw [hs] at h
  exact (Option.some.inj h).symm
/-- behind a call -/
theorem am_after {p : Program} {l : Launch} {e : Env} {R : Room} {s : State} {m : MethodId} {args : Array Value} {below : List Frame} {meth : Method} {c : Code} {Qf : State → Prop} {D : va_G} {cA : Nat → ClassId} {B : Nat} {cd : List am_E} {nL mc ms n0 : Nat} {ad0 : Nat → Nat} {q : am_E} {is : List am_E} {ls : am_L} {st r : List Value} {hp : am_H} {nc ns c2 s2 : Nat} {ad : Nat → Nat} {H : Heap} {locs : List Loc} {la : Array Slot} {pc : Nat} {st0 : List Value} {a : Array Value} (hr : am_Rel s D cA B cd nL mc ms n0 ad0 (q :: is, ls, st, hp, nc, ns) ad H locs la) (hpc : am_pcl is = pc + 3) (hc : nc + c2 ≤ mc ∧ ns + s2 ≤ ms) (hg : c2 = 0 ∨ (am_rl hp.1.length ls = true ∧ am_rs hp.1.length r = true)) {Q2 : Option Value → am_H → Prop} (hQ2 : ∀ (o : Option Value) (h2 : am_H), Q2 o h2 → am_PW p l e R s m args below meth c Qf D cA B cd nL mc ms n0 ad0 (is, ls, am_push o r, h2, nc + c2, ns + s2))
    (hv : va_Run p l e R s m args below meth c H locs nc ns c2 s2 (F0 m pc la st0) (r.map (am_v ad)) (am_Qc D cA B ad hp c2 Q2 a) (fun a => B ≤ a)) : W p l e R s m args below meth c H locs nc ns Qf (F0 m pc la st0) := by
  refine am_callX hv hr.2.2.2.1 (fun _ h => h) (fun st v t h => h.2) (fun v st9 t H1 locs1 ht hq hS => ?_)
  obtain ⟨⟨o, h2, ad2, ho, hQ, he0, he, hl, hP, hD⟩, -⟩ := hq
  cases ho
  rw [ht] at hP
  have hrest : r.map (am_v ad2) = r.map (am_v ad) := by
    rcases hg with h | h
    · rw [he0 h]
    · exact am_rs_eq he h.2
  have hLV : am_LV ad2 ls la nL := by
    rcases hg with h | h
    · rw [he0 h]; exact hr.2.2.2.2
    · exact am_LV.ad he h.1 hr.2.2.2.2
  have k := hQ2 o h2 hQ ad2 H1 locs1 la ⟨⟨(List.suffix_cons _ _).trans hr.1.1, fun h0 => ?_, fun k hk => ?_, Nat.le_trans hr.1.2.2.2.1 hl, hc.1, hc.2⟩, hP, hD, hS, hLV⟩
  · dsimp only at k
    rw [hpc, am_push_eq, hrest] at k
    exact k
  · rw [he0 (by have := hc.1; omega)]
    exact hr.1.2.1 h0
  · have hn : n0 ≤ hp.1.length := hr.1.2.2.2.1
    rw [he k (hk.elim (fun h => Or.inl (Nat.lt_of_lt_of_le h hn)) Or.inr)]
    exact hr.1.2.2.1 k hk
set_option maxHeartbeats 1000000 in
theorem am_s_invokestatic {p : Program} {l : Launch} {e : Env} {R : Room} {s : State} {m : MethodId} {args : Array Value} {below : List Frame} {meth : Method} {c : Code} {Qf : State → Prop} {D : va_G} {cA : Nat → ClassId} {B : Nat} {cd : List am_E} {nL mc ms n0 : Nat} {ad0 : Nat → Nat} {K : am_K} {I : am_I} {Tc : am_T} {Q : Option Value → am_H → Prop} {own : String} {bytes : ByteArray} {isI : Bool} {ret : Option FieldType} {Y : am_Y} (X : am_CX p R s m meth c D cA B cd nL mc ms ad0 K own bytes isI ret Y) {pc : Nat} {i : Nat} {dd : Nat} {rs : List Nat} {im : Int32} {wl : List Nat} {is : List am_E} {ls : am_L} {st : List Value} {hp : am_H} {nc ns : Nat} (hI : am_IOK l B K I) (hTc : ∀ (mid : Nat) (as : List Value) (hp : am_H) (c2 s2 : Nat) (Q2 : Option Value → am_H → Prop), mid < am_N → Tc mid as hp c2 s2 Q2 → am_Met l Y D cA B K mid as hp c2 s2 Q2 dd) (hRd : dd + 9 ≤ R.frames ∧ 60 * dd + 460 ≤ R.locals) (hY : ∀ mid, mid < am_N → am_yok Y mid) (h : am_step K I Tc cd mc ms Q (am_PW p l e R s m args below meth c Qf D cA B cd nL mc ms n0 ad0) ((pc, .invokestatic i, rs, im, wl) :: is, ls, st, hp, nc, ns)) : (am_PW p l e R s m args below meth c Qf D cA B cd nL mc ms n0 ad0) ((pc, .invokestatic i, rs, im, wl) :: is, ls, st, hp, nc, ns) := by
  intro ad H locs la hr
  obtain ⟨hx, hb, hml, hown, hisI, hTW, hK, hCU, hBs, hRc, hRf, hV⟩ := X
  have hok := hV _ _ hr.1.1
  obtain ⟨hd, hv⟩ := (Bool.and_eq_true _ _).mp hok
  obtain ⟨hdg, hpc⟩ := am_d_spec hd
  dsimp only [am_step] at h
  split at h
  · rename_i n mid
    split at h
    · rename_i as r hpop
      split at h
      · rename_i hw
        have hv : am_sok Y own i wl n mid = true := hv
        unfold am_sok at hv
        split at hv
        · rename_i wi
          obtain ⟨h1, h2⟩ := (Bool.and_eq_true _ _).mp hv
          obtain ⟨h2, h3⟩ := (Bool.and_eq_true _ _).mp h2
          obtain ⟨hnp, hmid⟩ := of_decide_eq_true h1
          have hst := of_decide_eq_true h2
          have hM := hTc mid as hp 0 0 _ hmid h ad
          obtain ⟨c0, c1, c3, c4⟩ := am_cw0 (hY mid hmid) (R := R) args hTW (mc := 0) (ms := 0) hRd
          obtain ⟨bs, e1, e2, e3⟩ := am_pop_eq hpop
          rw [List.append_nil] at e3
          subst e3
          have hpre := am_Pc.pre (K := K) (as := as) hBs hTW hK (hCU.ad (fun k hk => hr.1.2.2.1 k (Or.inr hk))) hr.2.1 hr.2.2.1 hr.2.2.2.1
          refine am_after (r := r) (c2 := 0) (s2 := 0) hr hpc hr.1.2.2.2.2 (Or.inl rfl) (Q2 := fun o h2 => am_PW p l e R s m args below meth c Qf D cA B cd nL mc ms n0 ad0 (is, ls, am_push o r, h2, nc, ns)) (fun o h2 hq => hq) (a := (as.map (am_v ad)).toArray) ?_
          have hfit : nc + 0 ≤ R.cells ∧ ns + 0 ≤ R.slots := ⟨Nat.le_trans hr.1.2.2.2.2.1 hRc.1, Nat.le_trans hr.1.2.2.2.2.2 hRc.2⟩
          have hstk : List.map (am_v ad) st = (as.map (am_v ad)).reverse ++ r.map (am_v ad) := by rw [e2, List.map_append, List.map_reverse]
          have hWm : 2 * (F0 m pc la (List.map (am_v ad) st)).monitorRoom + ((r.map (am_v ad)).map fun v => v.category).sum ≤ 8 := by
            have hw9 := Nat.le_of_ble_eq_true hw
            rw [am_ws_eq]
            show 2 * 0 + am_ws r ≤ 8
            omega
          rcases (Bool.or_eq_true _ _).mp h3 with h4 | h4
          · exact va_runS (Ts := []) ⟨hx, hb, hml, hown, fun _ h => by cases h⟩ hM ⟨⟨c0.1, c0.2.1, c0.2.2.1, c0.2.2.2.1, c0.2.2.2.2.1, c0.2.2.2.2.2, c1, c3, c4, am_np_len hnp, hTW.at (of_decide_eq_true h4) rfl args⟩, hTW.at hst rfl args⟩ hpre rfl (by rw [List.length_map]; exact e1) hr.2.2.2.2.1 hstk hWm hdg hfit
          · exact va_runSN (Ts := []) ⟨hx, hb, hml, hown, fun _ h => by cases h⟩ hM ⟨⟨c0, c1, c3, c4, am_np_len hnp, hTW.at (of_decide_eq_true h4) rfl args⟩, hTW.at hst rfl args, trivial⟩ hpre rfl (by rw [List.length_map]; exact e1) hr.2.2.2.2.1 hstk hWm hdg hfit
        · cases hv
      · exact h.elim
    · exact h.elim
  · rename_i pk
    have hv : (Nat.ble 1 pk && (Nat.ble pk 4 && am_pl own i pk wl)) = true := hv
    obtain ⟨h1, h2⟩ := (Bool.and_eq_true _ _).mp hv
    obtain ⟨h2, h3⟩ := (Bool.and_eq_true _ _).mp h2
    have p1 := Nat.le_of_ble_eq_true h1
    have p2 := Nat.le_of_ble_eq_true h2
    split at h
    · rename_i hw
      have hww := Nat.le_of_ble_eq_true hw
      unfold am_pl at h3
      split at h3
      · rename_i wi
        have hl := of_decide_eq_true h3
        have hcel : nc ≤ R.cells := Nat.le_trans hr.1.2.2.2.2.1 hRc.1
        have hslo : ns ≤ R.slots := Nat.le_trans hr.1.2.2.2.2.2 hRc.2
        have hmls : c.maxLocals = la.size := by rw [hml]; exact hr.2.2.2.2.1.symm
        have hpk : pk = 1 ∨ pk = 2 ∨ pk = 3 ∨ pk = 4 := by omega
        rcases hpk with rfl | rfl | rfl | rfl
        · simp only [am_prim] at h
          split at h
          · rename_i y x r
            have k := h ad H locs la hr.tl
            dsimp only at k
            rw [hpc] at k
            exact va_mmax hx hb hmls hown (hTW.at hl rfl args) (hTW _ am_prims.2.2.2.1 rfl args) (hTW _ am_prims.2.2.1 rfl args) (hTW _ am_prims.2.2.2.2.2.2.1 rfl args) (by omega) (by rw [am_ws_eq]; simp only [am_ws] at hww; omega) hcel hslo hdg k
          · exact h.elim
        · simp only [am_prim] at h
          split at h
          · rename_i y x r
            have k := h ad H locs la hr.tl
            dsimp only at k
            rw [hpc] at k
            exact va_mmin hx hb hmls hown (hTW.at hl rfl args) (hTW _ am_prims.2.2.2.2.1 rfl args) (hTW _ am_prims.2.2.1 rfl args) (hTW _ am_prims.2.2.2.2.2.2.2.1 rfl args) (by omega) (by rw [am_ws_eq]; simp only [am_ws] at hww; omega) hcel hslo hdg k
          · exact h.elim
        · simp only [am_prim] at h
          split at h
          · rename_i x r
            have k := h ad H locs la hr.tl
            dsimp only at k
            rw [hpc] at k
            exact va_mabs hx hb hmls hown (hTW.at hl rfl args) (hTW _ am_prims.2.2.2.2.2.1 rfl args) (hTW _ am_prims.2.2.1 rfl args) (hTW _ am_prims.2.2.2.2.2.2.2.2.1 rfl args) (by omega) (by rw [am_ws_eq]; simp only [am_ws] at hww; omega) hcel hslo hdg k
          · exact h.elim
        · simp only [am_prim] at h
          split at h
          · rename_i n dp k2 sp k r
            split at h
            · rename_i n0' q0 hat
              split at h
              · rename_i n1' q1 hat2
                obtain ⟨⟨a1, a2, a3, a4, a5⟩, h⟩ := h
                refine va_copyi hx hb hmls hown (hTW.at hl rfl args) (hTW _ am_prims.2.2.2.2.2.2.2.2.2.1 rfl args) (hTW _ am_prims.2.2.2.2.2.2.2.2.2.2.1 rfl args) (hTW _ am_prims.2.2.2.2.2.2.2.2.2.2.2 rfl args) hK hr.2.1 hr.2.2.1 hr.2.2.2.1 k k2 0 0 (ty := .int) (am_cw_at (cA := cA) (ad := ad) hat) (am_cw_at (cA := cA) (ad := ad) hat2) rfl rfl rfl a1 a2 a3 a4 a5 (fun _ _ => rfl) (by omega) (by rw [am_ws_eq]; simp only [am_ws] at hww; have : nativeFrameWords "java/lang/System" "arraycopy" 5 ≤ 100 := (by decide +kernel); omega) hdg (fun H1 locs1 hP hD hS => ?_)
                rw [am_setC hat2] at hP hD
                have k := h ad H1 locs1 la (hr.wr rfl hP hD hS)
                dsimp only at k
                rw [hpc] at k
                exact k
              · exact h.elim
            · exact h.elim
          · exact h.elim
      · cases h3
    · exact h.elim
  · exact h.elim
set_option maxHeartbeats 1000000 in
theorem am_s_invokespecial {p : Program} {l : Launch} {e : Env} {R : Room} {s : State} {m : MethodId} {args : Array Value} {below : List Frame} {meth : Method} {c : Code} {Qf : State → Prop} {D : va_G} {cA : Nat → ClassId} {B : Nat} {cd : List am_E} {nL mc ms n0 : Nat} {ad0 : Nat → Nat} {K : am_K} {I : am_I} {Tc : am_T} {Q : Option Value → am_H → Prop} {own : String} {bytes : ByteArray} {isI : Bool} {ret : Option FieldType} {Y : am_Y} (X : am_CX p R s m meth c D cA B cd nL mc ms ad0 K own bytes isI ret Y) {pc : Nat} {i : Nat} {dd : Nat} {rs : List Nat} {im : Int32} {wl : List Nat} {is : List am_E} {ls : am_L} {st : List Value} {hp : am_H} {nc ns : Nat} (hI : am_IOK l B K I) (hTc : ∀ (mid : Nat) (as : List Value) (hp : am_H) (c2 s2 : Nat) (Q2 : Option Value → am_H → Prop), mid < am_N → Tc mid as hp c2 s2 Q2 → am_Met l Y D cA B K mid as hp c2 s2 Q2 dd) (hRd : dd + 9 ≤ R.frames ∧ 60 * dd + 460 ≤ R.locals) (hY : ∀ mid, mid < am_N → am_yok Y mid) (h : am_step K I Tc cd mc ms Q (am_PW p l e R s m args below meth c Qf D cA B cd nL mc ms n0 ad0) ((pc, .invokespecial i, rs, im, wl) :: is, ls, st, hp, nc, ns)) : (am_PW p l e R s m args below meth c Qf D cA B cd nL mc ms n0 ad0) ((pc, .invokespecial i, rs, im, wl) :: is, ls, st, hp, nc, ns) := by
  intro ad H locs la hr
  obtain ⟨hx, hb, hml, hown, hisI, hTW, hK, hCU, hBs, hRc, hRf, hV⟩ := X
  have hok := hV _ _ hr.1.1
  obtain ⟨hd, hv⟩ := (Bool.and_eq_true _ _).mp hok
  obtain ⟨hdg, hpc⟩ := am_d_spec hd
  dsimp only [am_step] at h
  split at h
  · rename_i n mid c2 s2
    split at h
    · rename_i k as r hpop
      split at h
      · rename_i hw
        obtain ⟨hw, hw2⟩ := (Bool.and_eq_true _ _).mp hw
        obtain ⟨hw2, hw3⟩ := (Bool.and_eq_true _ _).mp hw2
        have hv : am_iok Y own i wl n mid = true := hv
        unfold am_iok at hv
        split at hv
        · rename_i wi
          obtain ⟨h1, h2⟩ := (Bool.and_eq_true _ _).mp hv
          obtain ⟨h2, h3⟩ := (Bool.and_eq_true _ _).mp h2
          obtain ⟨h3, h5⟩ := (Bool.and_eq_true _ _).mp h3
          obtain ⟨hnp, hmid⟩ := of_decide_eq_true h1
          obtain ⟨hini, hret0, hn1⟩ := of_decide_eq_true h2
          have hst := of_decide_eq_true h3
          obtain ⟨hcc, hT⟩ := h
          have hM := hTc mid (.ref k :: as) hp c2 s2 _ hmid hT ad
          obtain ⟨c0, c1, c3, c4⟩ := am_cw0 (hY mid hmid) (R := R) args hTW (mc := c2) (ms := s2) hRd
          obtain ⟨bs, e1, e2, e3⟩ := am_pop_eq hpop
          rw [List.append_nil] at e3
          subst e3
          have hpre := am_Pc.pre (K := K) (as := .ref k :: as) hBs hTW hK (hCU.ad (fun k hk => hr.1.2.2.1 k (Or.inr hk))) hr.2.1 hr.2.2.1 hr.2.2.2.1
          refine am_after (r := r) (c2 := c2) (s2 := s2) hr hpc hcc (Or.inr ⟨hw2, hw3⟩) (Q2 := fun o h2 => am_PW p l e R s m args below meth c Qf D cA B cd nL mc ms n0 ad0 (is, ls, am_push o r, h2, nc + c2, ns + s2)) (fun o h2 hq => hq) (a := (((Value.ref k :: as).map (am_v ad))).toArray) ?_
          have hfit : nc + c2 ≤ R.cells ∧ ns + s2 ≤ R.slots := ⟨Nat.le_trans hcc.1 hRc.1, Nat.le_trans hcc.2 hRc.2⟩
          have hstk : List.map (am_v ad) st = (as.map (am_v ad)).reverse ++ .ref (ad k) :: r.map (am_v ad) := by rw [e2]; simp [am_v]
          have hWm : 2 * (F0 m pc la (List.map (am_v ad) st)).monitorRoom + ((r.map (am_v ad)).map fun v => v.category).sum ≤ 8 := by
            have hw9 := Nat.le_of_ble_eq_true hw
            rw [am_ws_eq]
            show 2 * 0 + am_ws r ≤ 8
            omega
          have hlen : (as.map (am_v ad)).length = n - 1 := by
            rw [List.length_map]
            simp at e1
            omega
          rw [hret0] at c0 c1 hM
          rcases (Bool.or_eq_true _ _).mp h5 with h4 | h4
          · exact va_runI (Ts := []) ⟨hx, hb, hml, hown, fun _ h => by cases h⟩ hM ⟨⟨c0.1, c0.2.1, c0.2.2.1, c0.2.2.2.1, c0.2.2.2.2.1, c0.2.2.2.2.2, c1, c3, c4, am_np_len hnp, hTW.at (of_decide_eq_true h4) rfl args⟩, hini, hTW.at hst rfl args⟩ hpre rfl hlen hr.2.2.2.2.1 hstk hWm hdg hfit
          · exact va_runIN (Ts := []) ⟨hx, hb, hml, hown, fun _ h => by cases h⟩ hM ⟨⟨c0, c1, c3, c4, am_np_len hnp, hTW.at (of_decide_eq_true h4) rfl args⟩, hini, hTW.at hst rfl args⟩ hpre rfl hlen hr.2.2.2.2.1 hstk hWm hdg hfit
        · cases hv
      · exact h.elim
    · exact h.elim
  · rename_i pk
    have hv : (Nat.beq pk 0 && am_pl own i 0 wl) = true := hv
    obtain ⟨h1, h3⟩ := (Bool.and_eq_true _ _).mp hv
    have p1 := Nat.eq_of_beq_eq_true h1
    subst p1
    split at h
    · rename_i hw
      have hww := Nat.le_of_ble_eq_true hw
      unfold am_pl at h3
      split at h3
      · rename_i wi
        have hl := of_decide_eq_true h3
        simp only [am_prim] at h
        split at h
        · rename_i x r
          have k := h ad H locs la hr.tl
          dsimp only at k
          rw [hpc] at k
          refine W.objInit hx hb hown (hTW.at hl rfl args) (hTW _ am_prims.1 rfl args) (hTW _ am_prims.2.1 rfl args) rfl (by rw [hml]; exact hr.2.2.2.2.1) rfl hdg (by omega) (by rw [am_ws_eq]; simp only [am_ws] at hww; show 2 * 0 + _ + 12 ≤ _; omega) ?_
          exact W.eq (g2 := F0 m (pc + 3) la (r.map (am_v ad))) rfl k
        · exact h.elim
      · cases h3
    · exact h.elim
  · exact h.elim
theorem am_vok_at {Y : am_Y} {own : String} {idx wi sm dc n kd mid : Nat} : ∀ {cs ws : List Nat}, am_vok Y own idx wi sm dc n cs ws = true → am_pick kd cs = some mid → ∃ (C : String) (T : u_T) (N w : Nat), vwCl[kd]? = some (C, T, N) ∧ lw_tbl[(Y mid).2.2.2.2.2.2]? = some (.instanceMethod (Y mid).1) ∧ (am_np (Y mid).1.desc = some (n - 1) ∧ 1 ≤ n ∧ mid < am_N) ∧ ((lw_tbl[wi]? = some (.methodLink own idx (Y mid).1) ∧ lw_tbl[w]? = some (.selects C (Y mid).1 (Y mid).1)) ∨ ∃ x : MethodName, lw_tbl[wi]? = some (.methodLink own idx x) ∧ lw_tbl[w]? = some (.selects C x (Y mid).1) ∧ lw_tbl[sm]? = some (.sameMethod x.cls "TwoKings$Reader" x.name x.desc) ∧ lw_tbl[dc]? = some (.declares ⟨"TwoKings$Reader", x.name, x.desc⟩) ∧ am_np x.desc = some (n - 1))
  | [], _, _, h => by simp [am_pick] at h
  | [_], _, _, h => by simp [am_pick] at h
  | ci :: md :: cs, [], h, _ => by cases h
  | ci :: md :: cs, w :: ws, h, hp => by
    obtain ⟨h1, h2⟩ := (Bool.and_eq_true _ _).mp h
    unfold am_pick at hp
    split at hp
    · rename_i e
      have e2 := Nat.eq_of_beq_eq_true e
      cases hp
      subst e2
      split at h1
      · rename_i C T N hc
        obtain ⟨g1, g2⟩ := (Bool.and_eq_true _ _).mp h1
        obtain ⟨g2, g3⟩ := (Bool.and_eq_true _ _).mp g2
        refine ⟨C, T, N, w, hc, of_decide_eq_true g1, of_decide_eq_true g2, ?_⟩
        rcases (Bool.or_eq_true _ _).mp g3 with g4 | g4
        · obtain ⟨g5, g6⟩ := (Bool.and_eq_true _ _).mp g4
          exact Or.inl ⟨of_decide_eq_true g5, of_decide_eq_true g6⟩
        · split at g4
          · rename_i o i x hw
            obtain ⟨g5, g6⟩ := (Bool.and_eq_true _ _).mp g4
            obtain ⟨g6, g7⟩ := (Bool.and_eq_true _ _).mp g6
            obtain ⟨g7, g8⟩ := (Bool.and_eq_true _ _).mp g7
            obtain ⟨g8, g9⟩ := (Bool.and_eq_true _ _).mp g8
            obtain ⟨rfl, rfl⟩ := of_decide_eq_true g5
            exact Or.inr ⟨x, hw, of_decide_eq_true g6, of_decide_eq_true g7, of_decide_eq_true g8, of_decide_eq_true g9⟩
          · cases g4
      · cases h1
    · exact am_vok_at h2 hp
set_option maxHeartbeats 1000000 in
theorem am_s_invokevirtual {p : Program} {l : Launch} {e : Env} {R : Room} {s : State} {m : MethodId} {args : Array Value} {below : List Frame} {meth : Method} {c : Code} {Qf : State → Prop} {D : va_G} {cA : Nat → ClassId} {B : Nat} {cd : List am_E} {nL mc ms n0 : Nat} {ad0 : Nat → Nat} {K : am_K} {I : am_I} {Tc : am_T} {Q : Option Value → am_H → Prop} {own : String} {bytes : ByteArray} {isI : Bool} {ret : Option FieldType} {Y : am_Y} (X : am_CX p R s m meth c D cA B cd nL mc ms ad0 K own bytes isI ret Y) {pc : Nat} {i : Nat} {dd : Nat} {rs : List Nat} {im : Int32} {wl : List Nat} {is : List am_E} {ls : am_L} {st : List Value} {hp : am_H} {nc ns : Nat} (hI : am_IOK l B K I) (hTc : ∀ (mid : Nat) (as : List Value) (hp : am_H) (c2 s2 : Nat) (Q2 : Option Value → am_H → Prop), mid < am_N → Tc mid as hp c2 s2 Q2 → am_Met l Y D cA B K mid as hp c2 s2 Q2 dd) (hRd : dd + 9 ≤ R.frames ∧ 60 * dd + 460 ≤ R.locals) (hY : ∀ mid, mid < am_N → am_yok Y mid) (h : am_step K I Tc cd mc ms Q (am_PW p l e R s m args below meth c Qf D cA B cd nL mc ms n0 ad0) ((pc, .invokevirtual i, rs, im, wl) :: is, ls, st, hp, nc, ns)) : (am_PW p l e R s m args below meth c Qf D cA B cd nL mc ms n0 ad0) ((pc, .invokevirtual i, rs, im, wl) :: is, ls, st, hp, nc, ns) := by
  intro ad H locs la hr
  obtain ⟨hx, hb, hml, hown, hisI, hTW, hK, hCU, hBs, hRc, hRf, hV⟩ := X
  have hok := hV _ _ hr.1.1
  obtain ⟨hd, hv⟩ := (Bool.and_eq_true _ _).mp hok
  obtain ⟨hdg, hpc⟩ := am_d_spec hd
  dsimp only [am_step] at h
  split at h
  · rename_i n cs
    split at h
    · rename_i k as r hpop
      split at h
      · rename_i kd nn qq hat
        split at h
        · rename_i mid hpick
          split at h
          · rename_i hw
            have hv : am_vw Y own i n cs wl = true := hv
            unfold am_vw at hv
            split at hv
            · rename_i wi sm dc ws
              obtain ⟨C, T, N, w, hc, hst, ⟨hnp, hn1, hmid⟩, hlk⟩ := am_vok_at hv hpick
              have hM := hTc mid (.ref k :: as) hp 0 0 _ hmid h ad
              obtain ⟨c0, c1, c3, c4⟩ := am_cw0 (hY mid hmid) (R := R) args hTW (mc := 0) (ms := 0) hRd
              obtain ⟨bs, e1, e2, e3⟩ := am_pop_eq hpop
              rw [List.append_nil] at e3
              subst e3
              have hpre := am_Pc.pre (K := K) (as := .ref k :: as) hBs hTW hK (hCU.ad (fun k hk => hr.1.2.2.1 k (Or.inr hk))) hr.2.1 hr.2.2.1 hr.2.2.2.1
              refine am_after (r := r) (c2 := 0) (s2 := 0) hr hpc hr.1.2.2.2.2 (Or.inl rfl) (Q2 := fun o h2 => am_PW p l e R s m args below meth c Qf D cA B cd nL mc ms n0 ad0 (is, ls, am_push o r, h2, nc, ns)) (fun o h2 hq => hq) (a := (((Value.ref k :: as).map (am_v ad))).toArray) ?_
              have hfit : nc + 0 ≤ R.cells ∧ ns + 0 ≤ R.slots := ⟨Nat.le_trans hr.1.2.2.2.2.1 hRc.1, Nat.le_trans hr.1.2.2.2.2.2 hRc.2⟩
              have hstk : List.map (am_v ad) st = (as.map (am_v ad)).reverse ++ .ref (ad k) :: r.map (am_v ad) := by rw [e2]; simp [am_v]
              have hWm : 2 * (F0 m pc la (List.map (am_v ad) st)).monitorRoom + ((r.map (am_v ad)).map fun v => v.category).sum ≤ 8 := by
                have hw9 := Nat.le_of_ble_eq_true hw
                rw [am_ws_eq]
                show 2 * 0 + am_ws r ≤ 8
                omega
              have hlen : (as.map (am_v ad)).length = n - 1 := by
                rw [List.length_map]
                simp at e1
                omega
              have hkd : kd < 100 := by
                have hl := (List.getElem?_eq_some_iff.mp hc).1
                have : vwCl.length = 12 := rfl
                omega
              have he := am_cw_at (cA := cA) (ad := ad) hat
              rw [am_cell_lt hkd] at he
              have hrecv := va_recv hK hr.2.1 hc he
              have hpreV : PreV s H C (ad k) (am_Pc D cA B K ad (.ref k :: as) hp) (as.map (am_v ad)) := ⟨hpre.1, hrecv, hpre.2⟩
              rcases hlk with ⟨g1, g2⟩ | ⟨x, g1, g2, g3, g4, g5⟩
              · exact va_runV (Ts := []) ⟨hx, hb, hml, hown, fun _ h => by cases h⟩ hM ⟨⟨c0.1, c0.2.1, c0.2.2.1, c0.2.2.2.1, c0.2.2.2.2.1, c0.2.2.2.2.2, c1, c3, c4, am_np_len hnp, hTW.at g1 rfl args⟩, hTW.at hst rfl args, hTW.at g2 rfl args⟩ hpreV rfl hlen hr.2.2.2.2.1 hstk hWm hdg hfit
              · exact va_runU (Ts := []) (owner := "TwoKings$Reader") ⟨hx, hb, hml, hown, fun _ h => by cases h⟩ hM ⟨c0, c1, c3, by decide, am_np_len g5, hTW.at g1 rfl args, hTW.at g3 rfl args, va_Decl.abs (va_Nw.of rfl (hTW.at g4 rfl args)), hTW.at g2 rfl args, hTW.at hst rfl args⟩ hpreV rfl hlen hr.2.2.2.2.1 hstk hWm hdg hfit
            · cases hv
          · exact h.elim
        · exact h.elim
      · exact h.elim
    · exact h.elim
  · rename_i pk
    have hv : (Nat.beq pk 5 && am_pl own i 5 wl) = true := hv
    obtain ⟨h1, h3⟩ := (Bool.and_eq_true _ _).mp hv
    have p1 := Nat.eq_of_beq_eq_true h1
    subst p1
    split at h
    · rename_i hw
      have hww := Nat.le_of_ble_eq_true hw
      unfold am_pl at h3
      split at h3
      · rename_i wi
        have hl := of_decide_eq_true h3
        simp only [am_prim] at h
        split at h
        · rename_i x k r
          split at h
          · rename_i f hf
            obtain ⟨hxx, h⟩ := h
            have kk := h ad H locs la hr.tl
            dsimp only at kk
            rw [hpc] at kk
            exact hI hx hb (by rw [hml]; exact hr.2.2.2.2.1.symm) hown hTW (hCU.ad (fun k hk => hr.1.2.2.1 k (Or.inr hk))) hBs hr.2.2.2.1 hRf.1 hRf.2 (Nat.le_trans hr.1.2.2.2.2.1 hRc.1) (Nat.le_trans hr.1.2.2.2.2.2 hRc.2) (hTW.at hl rfl args) hxx hf (by rw [am_ws_eq]; simp only [am_ws] at hww; show _ ≤ 8; have : (Value.int x).category = 1 := rfl; have : (Value.ref k).category = 1 := rfl; omega) hdg kk
          · exact h.elim
        · exact h.elim
      · cases h3
    · exact h.elim
  · exact h.elim
end
section
/-! ===== new cells ===== -/
theorem am_refs_t : (List.range 12).all (fun ci => match vwCl[ci]? with
  | some (_, T, N) => (List.range N).all (fun j => !am_isR ci j || am_isRT (T j).2.2.1)
  | none => true) = true := by decide +kernel
theorem am_refs {ci : Nat} {C : String} {T : u_T} {N : Nat} (hc : vwCl[ci]? = some (C, T, N)) {j : Nat} (hj : j < N) (hR : am_isR ci j = true) : am_isRT (T j).2.2.1 = true := by
  have hl : ci < 12 := by
    have := (List.getElem?_eq_some_iff.mp hc).1
    have : vwCl.length = 12 := rfl
    omega
  have h := List.all_eq_true.mp am_refs_t ci (List.mem_range.mpr hl)
  rw [hc] at h
  have h2 := List.all_eq_true.mp h j (List.mem_range.mpr hj)
  rw [hR] at h2
  simpa using h2
theorem am_isR_int {ci : Nat} {C : String} {T : u_T} {N : Nat} (hc : vwCl[ci]? = some (C, T, N)) {j : Nat} (hR : am_isR ci j = false) : (T j).2.2.1 = "I" ∨ (T j).2.2.1 = "Z" := by
  unfold am_isR at hR
  rw [hc] at hR
  by_cases hI : (T j).2.2.1 = "I"
  · exact Or.inl hI
  · exact Or.inr (by simpa [hI] using hR)
theorem am_rq_eq {ad ad2 : Nat → Nat} {n : Nat} (he : ∀ k, (k < n ∨ 1000 ≤ k) → ad2 k = ad k) : ∀ {q : List (Option Nat)} {j : Nat}, am_rq n q = true → (q.getD j none).map ad2 = (q.getD j none).map ad
  | [], j, _ => by simp
  | none :: q, 0, h => rfl
  | some k :: q, 0, h => by
    obtain ⟨h1, h2⟩ := (Bool.and_eq_true _ _).mp h
    rcases (Bool.or_eq_true _ _).mp h1 with h3 | h3
    · exact congrArg some (he k (Or.inl (Nat.le_of_ble_eq_true h3)))
    · exact congrArg some (he k (Or.inr (Nat.le_of_ble_eq_true h3)))
  | none :: q, j + 1, h => by
    simp only [List.getD_cons_succ]
    exact am_rq_eq he (q := q) h
  | some k :: q, j + 1, h => by
    simp only [List.getD_cons_succ]
    exact am_rq_eq he ((Bool.and_eq_true _ _).mp h).2
theorem am_rh_at {n : Nat} : ∀ {l : List am_S} {i : Nat} {y : am_S}, am_rh n l = true → l[i]? = some y → am_rq n y.2.2 = true
  | [], _, _, _, h => by simp at h
  | a :: l, 0, y, h, hi => by
    cases hi
    exact ((Bool.and_eq_true _ _).mp h).1
  | a :: l, i + 1, y, h, hi => am_rh_at (l := l) ((Bool.and_eq_true _ _).mp h).2 (by simpa using hi)
theorem am_cell_ad {cA : Nat → ClassId} {ad ad2 : Nat → Nat} {v : am_V} {w : am_X} {n k : Nat} {y : am_S} (he : ∀ k, (k < n ∨ 1000 ≤ k) → ad2 k = ad k) (hy : am_rq n y.2.2 = true) : am_cell cA ad2 v w k y = am_cell cA ad v w k y := by
  have h1 : ∀ j : Nat, (y.2.2.getD j none).map ad2 = (y.2.2.getD j none).map ad := fun j => am_rq_eq he hy
  have h2 : ∀ ci : Nat, am_fs ad2 v k ci y.2.2 = am_fs ad v k ci y.2.2 := by
    intro ci
    unfold am_fs
    apply List.map_congr_left
    intro j _
    unfold am_fv
    rw [h1]
  unfold am_cell
  rw [h2]
  rw [show (fun j => (y.2.2.getD j none).map ad2) = (fun j => (y.2.2.getD j none).map ad) from funext h1]
/-- cells laid behind the others -/
theorem am_cw_app {cA : Nat → ClassId} {ad ad2 : Nat → Nat} {sh zs : List am_S} {v : am_V} {w : am_X} {es : va_W} (he : ∀ k, (k < sh.length ∨ 1000 ≤ k) → ad2 k = ad k) (hh : am_rh sh.length sh = true) (hes : (zs.mapIdx (fun i z => (ad2 (i + sh.length), am_cell cA ad2 v w (i + sh.length) z))) = es) : am_cw cA ad2 (sh ++ zs, v, w) = am_cw cA ad (sh, v, w) ++ es := by
  unfold am_cw
  dsimp only
  rw [List.mapIdx_append, hes]
  congr 1
  apply List.ext_getElem?
  intro i
  rw [List.getElem?_mapIdx, List.getElem?_mapIdx]
  cases h : sh[i]? with
  | none => rfl
  | some y =>
    have hi : i < sh.length := (List.getElem?_eq_some_iff.mp h).1
    show some (ad2 i, am_cell cA ad2 v w i y) = some (ad i, am_cell cA ad v w i y)
    rw [he i (Or.inl hi), am_cell_ad he (am_rh_at hh h)]
theorem am_nones_at : ∀ (n j : Nat), (am_nones n).getD j none = none
  | 0, j => by simp [am_nones]
  | n + 1, 0 => rfl
  | n + 1, j + 1 => by
    simp only [am_nones, List.getD_cons_succ]
    exact am_nones_at n j
/-- the relation behind new cells -/
theorem am_Rel.nw {s : State} {D : va_G} {cA : Nat → ClassId} {B : Nat} {cd : List am_E} {nL mc ms n0 : Nat} {ad0 : Nat → Nat} {q : am_E} {is : List am_E} {ls : am_L} {st st2 : List Value} {hp h2 : am_H} {nc ns c2 s2 : Nat} {ad ad2 : Nat → Nat} {H H1 : Heap} {locs : List Loc} {la : Array Slot} (hr : am_Rel s D cA B cd nL mc ms n0 ad0 (q :: is, ls, st, hp, nc, ns) ad H locs la) (he : ∀ k, (k < hp.1.length ∨ 1000 ≤ k) → ad2 k = ad k) (hl : am_rl hp.1.length ls = true) (hlen : hp.1.length ≤ h2.1.length) (hc : nc + c2 ≤ mc) (hs : ns + s2 ≤ ms) (h0 : 0 < c2) (hP : va_P D vwCl (am_cw cA ad2 h2) H1) (hD : va_D (fun a => B ≤ a) (am_cw cA ad2 h2)) (hS : va_S (fun a => B ≤ a) s.heap H1 locs) : am_Rel s D cA B cd nL mc ms n0 ad0 (is, ls, st2, h2, nc + c2, ns + s2) ad2 H1 locs la := by
  refine ⟨⟨(List.suffix_cons _ _).trans hr.1.1, fun z => absurd z (by omega), fun k hk => ?_, Nat.le_trans hr.1.2.2.2.1 hlen, hc, hs⟩, hP, hD, hS, am_LV.ad he hl hr.2.2.2.2⟩
  have hn : n0 ≤ hp.1.length := hr.1.2.2.2.1
  rw [he k (hk.elim (fun h => Or.inl (Nat.lt_of_lt_of_le h hn)) Or.inr)]
  exact hr.1.2.2.1 k hk
set_option maxHeartbeats 1000000 in
theorem am_s_new {p : Program} {l : Launch} {e : Env} {R : Room} {s : State} {m : MethodId} {args : Array Value} {below : List Frame} {meth : Method} {c : Code} {Qf : State → Prop} {D : va_G} {cA : Nat → ClassId} {B : Nat} {cd : List am_E} {nL mc ms n0 : Nat} {ad0 : Nat → Nat} {K : am_K} {I : am_I} {Tc : am_T} {Q : Option Value → am_H → Prop} {own : String} {bytes : ByteArray} {isI : Bool} {ret : Option FieldType} {Y : am_Y} (X : am_CX p R s m meth c D cA B cd nL mc ms ad0 K own bytes isI ret Y) {pc : Nat} {i : Nat} {rs : List Nat} {im : Int32} {wl : List Nat} {is : List am_E} {ls : am_L} {st : List Value} {hp : am_H} {nc ns : Nat} (h : am_step K I Tc cd mc ms Q (am_PW p l e R s m args below meth c Qf D cA B cd nL mc ms n0 ad0) ((pc, .new i, rs, im, wl) :: is, ls, st, hp, nc, ns)) : (am_PW p l e R s m args below meth c Qf D cA B cd nL mc ms n0 ad0) ((pc, .new i, rs, im, wl) :: is, ls, st, hp, nc, ns) := by
  intro ad H locs la hr
  obtain ⟨hx, hb, hml, hown, hisI, hTW, hK, hCU, hBs, hRc, hRf, hV⟩ := X
  have hok := hV _ _ hr.1.1
  obtain ⟨hd, hv⟩ := (Bool.and_eq_true _ _).mp hok
  obtain ⟨hdg, hpc⟩ := am_d_spec hd
  dsimp only [am_step] at h
  split at h
  · rename_i ci n
    split at h
    · rename_i hg
      obtain ⟨g1, hg⟩ := (Bool.and_eq_true _ _).mp hg
      obtain ⟨g2, hg⟩ := (Bool.and_eq_true _ _).mp hg
      obtain ⟨g3, g4⟩ := (Bool.and_eq_true _ _).mp hg
      obtain ⟨⟨hc1, hc2, hz⟩, h⟩ := h
      have g4 := am_blt g4
      split at hv
      · rename_i ci2 n2 wi wj wk he
        cases he
        split at hv
        · rename_i C T N hc
          obtain ⟨h1, hv⟩ := (Bool.and_eq_true _ _).mp hv
          obtain ⟨h2, hv⟩ := (Bool.and_eq_true _ _).mp hv
          obtain ⟨h3, h4⟩ := (Bool.and_eq_true _ _).mp hv
          obtain ⟨rfl, hci⟩ := of_decide_eq_true h1
          obtain ⟨ty0, hty, hnm, -⟩ := am_cls hc
          refine va_new (fs := am_fs ad hp.2.1 hp.1.length ci (am_nones n)) hx hb (am_hts hTW hc args) (fun _ h => h) ty0 hty hown (hTW.at (of_decide_eq_true h2) rfl args) (hTW.at (of_decide_eq_true h3) rfl args) (hTW.at (of_decide_eq_true h4) rfl args) hK hr.2.1 hr.2.2.1 hr.2.2.2.1 (fun q hq => Nat.le_trans hBs hq) hc (fun j hj => ?_) (Nat.le_trans hc1 hRc.1) (Nat.le_trans hc2 hRc.2) hdg (fun q H1 hP hD hS => ?_)
          · rw [vp_V, List.getD_eq_getElem?_getD, am_fs_at (by rw [am_nf_eq hc]; exact hj)]
            show _ = am_fv ad hp.2.1 hp.1.length ci (am_nones n) j
            have hp1 := hty j hj
            unfold am_fv
            cases hR : am_isR ci j with
            | true =>
              have h5 := am_refs hc hj hR
              unfold am_isRT at h5
              rw [hp1] at h5
              rw [am_nones_at]
              split at h5
              · rename_i h6
                rw [Option.some.inj h6]
                rfl
              · rename_i h6
                rw [Option.some.inj h6]
                rfl
              · cases h5
            | false =>
              show defaultValue (ty0 j) = .int (hp.2.1 hp.1.length j)
              rw [hz j]
              rcases am_isR_int hc hR with h6 | h6
              · rw [h6] at hp1
                rw [← Option.some.inj hp1]
                rfl
              · rw [h6] at hp1
                rw [← Option.some.inj hp1]
                rfl
          · have he : ∀ k, (k < hp.1.length ∨ 1000 ≤ k) → (fun k => if k = hp.1.length then q else ad k) k = ad k := by
              intro k hk
              have : k ≠ hp.1.length := by omega
              simp [this]
            have e : am_cw cA (fun k => if k = hp.1.length then q else ad k) (hp.1 ++ [(ci, 0, am_nones n)], hp.2.1, hp.2.2) = am_cw cA ad hp ++ [(q, .inr (ci, am_fs ad hp.2.1 hp.1.length ci (am_nones n)))] := by
              refine am_cw_app he g3 ?_
              simp only [List.mapIdx_cons, List.mapIdx_nil, Nat.zero_add]
              rw [am_cell_lt hci]
              have : am_fs (fun k => if k = hp.1.length then q else ad k) hp.2.1 hp.1.length ci (am_nones n) = am_fs ad hp.2.1 hp.1.length ci (am_nones n) := by
                unfold am_fs
                apply List.map_congr_left
                intro j _
                unfold am_fv
                rw [am_nones_at]
                rfl
              rw [this, if_pos trivial]
            rw [← e] at hP hD
            have k := h (fun k => if k = hp.1.length then q else ad k) H1 locs la (hr.nw he g1 (by simp) hc1 hc2 (by decide) hP hD hS)
            dsimp only at k
            rw [hpc, List.map_cons, am_rs_eq he g2, show am_v (fun k => if k = hp.1.length then q else ad k) (.ref hp.1.length) = .ref q by simp [am_v]] at k
            exact k
        · cases hv
      · cases hv
    · exact h.elim
  · exact h.elim
set_option maxHeartbeats 1000000 in
theorem am_s_newarray {p : Program} {l : Launch} {e : Env} {R : Room} {s : State} {m : MethodId} {args : Array Value} {below : List Frame} {meth : Method} {c : Code} {Qf : State → Prop} {D : va_G} {cA : Nat → ClassId} {B : Nat} {cd : List am_E} {nL mc ms n0 : Nat} {ad0 : Nat → Nat} {K : am_K} {I : am_I} {Tc : am_T} {Q : Option Value → am_H → Prop} {own : String} {bytes : ByteArray} {isI : Bool} {ret : Option FieldType} {Y : am_Y} (X : am_CX p R s m meth c D cA B cd nL mc ms ad0 K own bytes isI ret Y) {pc : Nat} {ty : ArrayType} {rs : List Nat} {im : Int32} {wl : List Nat} {is : List am_E} {ls : am_L} {st : List Value} {hp : am_H} {nc ns : Nat} (h : am_step K I Tc cd mc ms Q (am_PW p l e R s m args below meth c Qf D cA B cd nL mc ms n0 ad0) ((pc, .newarray ty, rs, im, wl) :: is, ls, st, hp, nc, ns)) : (am_PW p l e R s m args below meth c Qf D cA B cd nL mc ms n0 ad0) ((pc, .newarray ty, rs, im, wl) :: is, ls, st, hp, nc, ns) := by
  intro ad H locs la hr
  obtain ⟨hx, hb, hml, hown, hisI, hTW, hK, hCU, hBs, hRc, hRf, hV⟩ := X
  have hok := hV _ _ hr.1.1
  obtain ⟨hd, hv⟩ := (Bool.and_eq_true _ _).mp hok
  obtain ⟨hdg, hpc⟩ := am_d_spec hd
  dsimp only [am_step] at h
  split at h
  · rename_i kd n x r
    split at h
    · rename_i hg
      obtain ⟨g1, hg⟩ := (Bool.and_eq_true _ _).mp hg
      obtain ⟨g2, hg⟩ := (Bool.and_eq_true _ _).mp hg
      obtain ⟨g3, g4⟩ := (Bool.and_eq_true _ _).mp hg
      obtain ⟨⟨rfl, hc1, hc2, hz, hzX⟩, h⟩ := h
      have g4 := am_blt g4
      split at hv
      · rename_i kd2 n2 wi he
        cases he
        obtain ⟨h1, hv⟩ := (Bool.and_eq_true _ _).mp hv
        obtain ⟨h2, h3⟩ := (Bool.and_eq_true _ _).mp hv
        obtain ⟨hN, hneg, hbig⟩ := of_decide_eq_true h1
        have hkd := of_decide_eq_true h3
        have hcell : ∀ (t0 : Nat) (fty : FieldType) (a0 : vp_A), newarray.typeOf ty = fty → (am_tys cA)[t0]? = some (cA kd, fty) → (∀ c : ClassId, c = c → vp_cell c a0 = arrV c n (fun _ => defaultValue fty)) → refKind fty = false → n * componentBytes fty ≤ 536870912 → (∀ ad2 : Nat → Nat, am_cell cA ad2 hp.2.1 hp.2.2 hp.1.length (kd, n, []) = .inl (cA kd, a0)) → (∀ c2 : ClassId, va_RA s c2 fty → va_RA s (cA kd) fty → c2 = cA kd) → W p l e R s m args below meth c H locs nc ns Qf (F0 m pc la (.int x :: List.map (am_v ad) r)) := by
          intro t0 fty a0 hty ht ha hrk hbytes hac hinj
          refine va_newa hx hb (hTW.at (of_decide_eq_true h2) rfl args) hty hK hr.2.1 hr.2.2.1 hr.2.2.2.1 (fun q hq => Nat.le_trans hBs hq) (fun c => ha c rfl) hneg hN hbytes (Nat.le_trans hc1 hRc.1) (Nat.le_trans hc2 hRc.2) hdg (fun q c2 H1 hK2 hP hD hS => ?_)
          have hcc : c2 = cA kd := hinj c2 ((hK2.2 (am_tys cA).length (c2, fty) (by simp)).2) ((hK.2 t0 _ ht).2)
          subst hcc
          have he : ∀ k, (k < hp.1.length ∨ 1000 ≤ k) → (fun k => if k = hp.1.length then q else ad k) k = ad k := by
            intro k hk
            have : k ≠ hp.1.length := by omega
            simp [this]
          have e : am_cw cA (fun k => if k = hp.1.length then q else ad k) (hp.1 ++ [(kd, n, [])], hp.2.1, hp.2.2) = am_cw cA ad hp ++ [(q, .inl (cA kd, a0))] := by
            refine am_cw_app he g3 ?_
            simp only [List.mapIdx_cons, List.mapIdx_nil, Nat.zero_add]
            rw [hac, if_pos trivial]
          rw [← e] at hP hD
          have k := h (fun k => if k = hp.1.length then q else ad k) H1 locs la (hr.nw he g1 (by simp) hc1 hc2 (by decide) hP hD hS)
          dsimp only at k
          rw [hpc, List.map_cons, am_rs_eq he g2, show am_v (fun k => if k = hp.1.length then q else ad k) (.ref hp.1.length) = .ref q by simp [am_v]] at k
          exact k
        have hz2 : hp.2.1 hp.1.length = fun _ => 0 := funext hz
        have hz3 : hp.2.2 hp.1.length = fun _ => 0 := funext hzX
        have hb4 : ∀ b : Nat, b ≤ 8 → n * b ≤ 536870912 := fun b hb => Nat.le_trans (Nat.mul_le_mul hbig hb) (by decide)
        rcases hkd with ⟨rfl, rfl⟩ | ⟨rfl, rfl⟩ | ⟨rfl, rfl⟩ | ⟨rfl, rfl⟩
        · exact hcell 0 .int (n, .inl (hp.2.1 hp.1.length)) rfl rfl (fun c _ => by rw [vp_cell_i, hz2]; rfl) rfl (hb4 _ (by decide)) (fun _ => rfl) (fun c2 q1 q2 => Option.some.inj ((show s.vm.findClass _ = some c2 from q1).symm.trans (show s.vm.findClass _ = some (cA 100) from q2)))
        · exact hcell 1 .boolean (n, .inl (hp.2.1 hp.1.length)) rfl rfl (fun c _ => by rw [vp_cell_i, hz2]; rfl) rfl (hb4 _ (by decide)) (fun _ => rfl) (fun c2 q1 q2 => Option.some.inj ((show s.vm.findClass _ = some c2 from q1).symm.trans (show s.vm.findClass _ = some (cA 101) from q2)))
        · exact hcell 2 .byte (n, .inl (hp.2.1 hp.1.length)) rfl rfl (fun c _ => by rw [vp_cell_i, hz2]; rfl) rfl (hb4 _ (by decide)) (fun _ => rfl) (fun c2 q1 q2 => Option.some.inj ((show s.vm.findClass _ = some c2 from q1).symm.trans (show s.vm.findClass _ = some (cA 102) from q2)))
        · exact hcell 3 .long (n, .inr (.inl (hp.2.2 hp.1.length))) rfl rfl (fun c _ => by rw [vp_cell_l, hz3]; rfl) rfl (hb4 _ (by decide)) (fun _ => rfl) (fun c2 q1 q2 => Option.some.inj ((show s.vm.findClass _ = some c2 from q1).symm.trans (show s.vm.findClass _ = some (cA 103) from q2)))
      · cases hv
    · exact h.elim
  · exact h.elim
end
section
def va_AOA (ty : FieldType) (U : State) : Prop := (Jvm.Cond.arrayOver (.array ty)).before #[] U = true
theorem va_AOA.use {ty : FieldType} {A : Array Value} {U : State} (h : va_AOA ty U) : (Jvm.Cond.arrayOver (.array ty)).before A U = true := am_over_moved (Vm.Alike.refl U.vm) h
/-! ===== BEGIN new T[n][m]: the outer array a place, the inner ones among the pooled ===== -/
/-- f, but v at every address of l -/
def vr_up {α : Type} (f : Nat → α) (l : List Nat) (v : α) : Nat → α := fun a => if a ∈ l then v else f a
theorem vr_up_in {α : Type} {f : Nat → α} {l : List Nat} {v : α} {a : Nat} (h : a ∈ l) : vr_up f l v a = v := if_pos h
theorem vr_up_ne {α : Type} {f : Nat → α} {l : List Nat} {v : α} {a : Nat} (h : a ∉ l) : vr_up f l v a = f a := if_neg h
theorem vr_rows {L l : List Nat} {f : Nat → va_E} {e : va_E} (h : ∀ a, a ∈ l → a ∉ L) : va_pl L f ++ l.map (fun a => (a, e)) = va_pl (L ++ l) (vr_up f l e) := by
  unfold va_pl
  rw [List.map_append]
  congr 1
  · apply List.map_congr_left
    intro a ha
    rw [vr_up_ne (fun q => h a q ha)]
  · apply List.map_congr_left
    intro a ha
    rw [vr_up_in ha]
theorem vr_lay {X rows : va_W} {x : Nat × va_E} {pl : va_W} {D : va_G} {cl : List vw_C} {H : Heap} (hP : va_P D cl (((X ++ pl) ++ [x]) ++ rows) H) : va_P D cl ((X ++ [x]) ++ (pl ++ rows)) H := by
  rw [List.append_assoc (X ++ pl)] at hP
  have h := va_P.swap hP
  rw [← List.append_assoc X] at h
  have h2 := va_P.swap h
  rw [List.append_assoc (X ++ [x])] at h2
  exact h2
theorem vr_layD {X rows : va_W} {x : Nat × va_E} {pl : va_W} {A : Nat → Prop} (hD : va_D A (((X ++ pl) ++ [x]) ++ rows)) : va_D A ((X ++ [x]) ++ (pl ++ rows)) := by
  rw [List.append_assoc (X ++ pl)] at hD
  have h := va_D.swap hD
  rw [← List.append_assoc X] at h
  have h2 := va_D.swap h
  rw [List.append_assoc (X ++ [x])] at h2
  exact h2
theorem vr_outer (c : ClassId) (N h0 : Nat) : ∀ i : Nat, Jvm.Free.Multi.outerC c N h0 i = arrV c N (fun j => va_rf (if j < i then some (h0 + 1 + j) else none))
  | 0 => by
    show ({ cls := c, slots := Array.replicate N .null, vm := .none } : Cell) = _
    rw [arrV_new]
    refine congrArg (arrV c N) (funext fun j => ?_)
    simp [va_rf]
  | i + 1 => by
    show (Jvm.Free.Multi.outerC c N h0 i).setSlot i (.ref (h0 + 1 + i)) = _
    rw [vr_outer c N h0 i, arrV_store]
    refine congrArg (arrV c N) (funext fun j => ?_)
    by_cases e : j = i
    · subst e
      simp [updV, va_rf]
    · by_cases h : j < i
      · simp [updV, e, h, Nat.lt_succ_of_lt h]
      · simp [updV, e, h, show ¬ j < i + 1 by omega]
section VGM
variable {p : Program} {l : Launch} {e : Env} {R : Room} {s : State} {m : MethodId} {args : Array Value} {below : List Frame} {meth : Method} {c : Code} {H : Heap} {locs : List Loc} {cells slots : Nat} {Q : State → Prop}
variable {cc : ByteArray} {pc : Nat} {ls : Array Slot} {rest : List Value} {D : va_G} {cl : List vw_C} {A : Nat → Prop} {a : Nat} {tys : List (ClassId × FieldType)} {ws : va_W} {H0 : Heap}
theorem va_mna {X : va_W} {L : List Nat} {f : Nat → va_E} {cc : ByteArray} (hexec : p.tables.exec = Jvm.exec) (hb : c.code = cc) {own : String} {index : Nat} {ty : FieldType} {cy : ClassId} (hown : s.vm.findClass own = some m.cls) (hclink : (Cond.classLink own index ("[" ++ (FieldType.array ty).toString)).before args s = true) (hover : va_AOA ty s) (harr : (Cond.arrayClass ty).before args s = true) (hcy : s.vm.findClass (FieldType.array ty).toString = some cy)
    (hK : va_K D cl tys s) (hP : va_P D cl (X ++ va_pl L f) H) (hD : va_D A (X ++ va_pl L f)) (hS : va_S A H0 H locs) (hA : ∀ q, H0.size ≤ q → A q) {n k : Int32} {N' K' : Nat} {z : vp_A} (hn : ¬ n < 0) (hk : ¬ k < 0) (hN : n.toNatClampNeg = N') (hM : k.toNatClampNeg = K')
    (hb1 : N' * 4 ≤ 536870912) (hb2 : K' * componentBytes ty ≤ 536870912) (hb3 : K' ≤ 536870912) (hdf : fits ty (defaultValue ty) = true) (hdd : (defaultValue ty).isDefault = true) (hcells : cells + (1 + N') ≤ R.cells) (hslots : slots + (N' + N' * K') ≤ R.slots) (hz : ∀ c : ClassId, Jvm.Free.Multi.innerC c K' (defaultValue ty) = vp_cell c z) (hdg : decode cc pc = .ok (.multianewarray index 2, 4))
    (kk : ∀ (q : Nat) (r : Nat → Nat) (cA : ClassId) (H1 : Heap), (∀ i j : Nat, i < N' → j < N' → r i = r j → i = j) → (∀ i : Nat, i < N' → r i ∉ L) → va_K D cl (tys ++ [(cA, .array ty)]) s →
      va_P D cl ((X ++ [(q, .inl (cA, N', .inr (.inr (.inr (.inr (fun i => if i < N' then some (r i) else none))))))]) ++ va_pl (L ++ (List.range N').map r) (vr_up f ((List.range N').map r) (.inl (cy, z)))) H1 → va_D A ((X ++ [(q, .inl (cA, N', .inr (.inr (.inr (.inr (fun i => if i < N' then some (r i) else none))))))]) ++ va_pl (L ++ (List.range N').map r) (vr_up f ((List.range N').map r) (.inl (cy, z)))) → va_S A H0 H1 locs →
      W p l e R s m args below meth c H1 locs (cells + 1 + N') (slots + N' + N' * K') Q (F0 m (pc + 4) ls (.ref q :: rest))) : W p l e R s m args below meth c H locs cells slots Q (F0 m pc ls (.int k :: .int n :: rest)) := by
  subst hN
  subst hM
  intro T hT Xs
  obtain ⟨vm₁, cA, comp, -, fA, fC, hO, -, X', step⟩ := Xs.multianewarray2F hexec hown hclink (va_AOA.use hover) harr (g := F0 m pc ls (.int k :: .int n :: rest)) rfl (by rw [hb]; exact hdg) rfl hn hk hb1 hb2 hb3 hdf hdd hcells hslots
  have ec : some cy = some comp := hcy.symm.trans fC
  cases ec
  generalize hF : Jvm.Free.Multi.fill (T.setVm vm₁) cA cy n.toNatClampNeg k.toNatClampNeg (defaultValue ty) n.toNatClampNeg = F at X' step
  have hTh : (T.setVm vm₁).heap = H := hT
  obtain ⟨f1, f2, -, -⟩ := Jvm.Free.Multi.fill_facts (T.setVm vm₁) cA cy n.toNatClampNeg k.toNatClampNeg (defaultValue ty) n.toNatClampNeg
  rw [hF, hTh] at f1 f2
  have hold : ∀ x : Nat, x < H.size → F.heap[x]? = H[x]? := fun x hx => by
    have := Jvm.Free.Multi.fill_old (T.setVm vm₁) cA cy n.toNatClampNeg k.toNatClampNeg (defaultValue ty) (a := x) (by rw [hTh]; exact hx) n.toNatClampNeg
    rw [hF, hTh] at this
    exact this
  have hrow : ∀ j : Nat, j < n.toNatClampNeg → F.heap[H.size + 1 + j]? = some (vp_cell cy z) := fun j hj => by
    have := Jvm.Free.Multi.fill_inner (T.setVm vm₁) cA cy n.toNatClampNeg k.toNatClampNeg (defaultValue ty) n.toNatClampNeg j hj
    rw [hF, hTh, hz] at this
    exact this
  have hout : Jvm.Free.Multi.outerC cA n.toNatClampNeg H.size n.toNatClampNeg = vp_cell cA (n.toNatClampNeg, .inr (.inr (.inr (.inr (fun i => if i < n.toNatClampNeg then some (H.size + 1 + i) else none))))) := by
    rw [vp_cell_q]
    exact vr_outer cA n.toNatClampNeg H.size n.toNatClampNeg
  rw [hout] at f2
  have hlt : ∀ a, a ∈ L → a < H.size := fun a ha => by
    obtain ⟨k9, hk9⟩ := va_pl_get (X := X) (f := f) ha
    exact (hP k9 _ hk9).lt
  have hnl : ∀ i : Nat, i < n.toNatClampNeg → H.size + 1 + i ∉ L := fun i _ h => by
    have := hlt _ h
    omega
  have hnm : ∀ a, a ∈ (List.range n.toNatClampNeg).map (fun i => H.size + 1 + i) → a ∉ L := fun a ha h => by
    obtain ⟨i, -, rfl⟩ := List.mem_map.mp ha
    have := hlt _ h
    omega
  have hP0 : va_P D cl (X ++ va_pl L f) F.heap := hP.kept (fun k9 x hx => hold x.1 ((hP k9 x hx).lt))
  have hP1 : va_P D cl ((X ++ va_pl L f) ++ [(H.size, .inl (cA, n.toNatClampNeg, .inr (.inr (.inr (.inr (fun i => if i < n.toNatClampNeg then some (H.size + 1 + i) else none))))))]) F.heap := hP0.app (fun k9 x hx => by
    have h0 : k9 < 1 := (List.getElem?_eq_some_iff.mp hx).1
    rw [show k9 = 0 by omega] at hx
    cases hx
    exact f2)
  have hP2 : va_P D cl (((X ++ va_pl L f) ++ [(H.size, .inl (cA, n.toNatClampNeg, .inr (.inr (.inr (.inr (fun i => if i < n.toNatClampNeg then some (H.size + 1 + i) else none))))))]) ++ ((List.range n.toNatClampNeg).map (fun i => H.size + 1 + i)).map (fun a => (a, .inl (cy, z)))) F.heap := hP1.app (fun k9 x hx => by
    obtain ⟨a, ha, rfl⟩ := List.mem_map.mp (List.mem_of_getElem? hx)
    obtain ⟨i, hi, rfl⟩ := List.mem_map.mp ha
    exact hrow i (List.mem_range.mp hi))
  have hD2 : va_D A (((X ++ va_pl L f) ++ [(H.size, .inl (cA, n.toNatClampNeg, .inr (.inr (.inr (.inr (fun i => if i < n.toNatClampNeg then some (H.size + 1 + i) else none))))))]) ++ ((List.range n.toNatClampNeg).map (fun i => H.size + 1 + i)).map (fun a => (a, .inl (cy, z)))) := by
    have hD1 := hD.push (e := .inl (cA, n.toNatClampNeg, .inr (.inr (.inr (.inr (fun i => if i < n.toNatClampNeg then some (H.size + 1 + i) else none)))))) hP rfl (hA _ hS.1)
    generalize hW1 : (X ++ va_pl L f) ++ [(H.size, .inl (cA, n.toNatClampNeg, .inr (.inr (.inr (.inr (fun i => if i < n.toNatClampNeg then some (H.size + 1 + i) else none))))))] = W1 at hD1 hP1 ⊢
    have hle : ∀ (k9 : Nat) (x : Nat × va_E), W1[k9]? = some x → x.1 ≤ H.size := fun k9 x hx => by
      rw [← hW1] at hx
      by_cases hl : k9 < (X ++ va_pl L f).length
      · rw [List.getElem?_append_left hl] at hx
        exact Nat.le_of_lt ((hP k9 x hx).lt)
      · rw [List.getElem?_append_right (by omega)] at hx
        have h0 : k9 - (X ++ va_pl L f).length < 1 := (List.getElem?_eq_some_iff.mp hx).1
        rw [show k9 - (X ++ va_pl L f).length = 0 by omega] at hx
        cases hx
        exact Nat.le_refl _
    have hr : ∀ (k9 : Nat) (x : Nat × va_E), (((List.range n.toNatClampNeg).map (fun i => H.size + 1 + i)).map (fun a => ((a, .inl (cy, z)) : Nat × va_E)))[k9]? = some x → x.1 = H.size + 1 + k9 := fun k9 x hx => by
      rw [List.getElem?_map, List.getElem?_map] at hx
      by_cases h9 : k9 < n.toNatClampNeg
      · rw [List.getElem?_range h9] at hx
        cases hx
        rfl
      · have hn0 : (List.range n.toNatClampNeg)[k9]? = none := List.getElem?_eq_none (by rw [List.length_range]; omega)
        rw [hn0] at hx
        cases hx
    refine ⟨fun i j x y hi hj hxy => ?_, fun k9 x hx => ?_⟩
    · by_cases h1 : i < W1.length <;> by_cases h2 : j < W1.length
      · rw [List.getElem?_append_left h1] at hi
        rw [List.getElem?_append_left h2] at hj
        exact hD1.1 i j x y hi hj hxy
      · rw [List.getElem?_append_left h1] at hi
        rw [List.getElem?_append_right (by omega)] at hj
        have := hle _ _ hi
        have := hr _ _ hj
        omega
      · rw [List.getElem?_append_right (by omega)] at hi
        rw [List.getElem?_append_left h2] at hj
        have := hle _ _ hj
        have := hr _ _ hi
        omega
      · rw [List.getElem?_append_right (by omega)] at hi hj
        have := hr _ _ hi
        have := hr _ _ hj
        omega
    · by_cases h1 : k9 < W1.length
      · rw [List.getElem?_append_left h1] at hx
        exact hD1.2 k9 x hx
      · rw [List.getElem?_append_right (by omega)] at hx
        have := hr _ _ hx
        exact hA _ (by have := hS.1; omega)
  have hAr : ArrOfT s cA (.array ty) := fun N9 z9 => by
    obtain ⟨-, k9, hk9, cm9, hkk9⟩ := (hO 0 0 0).1
    exact ⟨(fun q hq => by cases hq), k9, hk9, cm9, hkk9⟩
  have hK2 : va_K D cl (tys ++ [(cA, .array ty)]) s := ⟨hK.1, fun k9 x hx => by
    by_cases hl : k9 < tys.length
    · rw [List.getElem?_append_left hl] at hx
      exact hK.2 k9 x hx
    · rw [List.getElem?_append_right (by omega)] at hx
      have h0 : k9 - tys.length < 1 := (List.getElem?_eq_some_iff.mp hx).1
      rw [show k9 - tys.length = 0 by omega] at hx
      cases hx
      exact ⟨hAr, fA⟩⟩
  obtain ⟨t, a1, b1⟩ := kk H.size (fun i => H.size + 1 + i) cA F.heap (fun i j _ _ h => by have h9 : H.size + 1 + i = H.size + 1 + j := h; omega) hnl hK2 (by rw [← vr_rows hnm]; exact vr_lay hP2) (by rw [← vr_rows hnm]; exact vr_layD hD2) ⟨by rw [f1]; have := hS.1; omega, fun x h1 h2 => (hold x (Nat.lt_of_lt_of_le h1 hS.1)).trans (hS.2.1 x h1 h2), hS.2.2⟩ F rfl X'
  refine ⟨t, step t ?_, b1⟩
  have e : T.heap.size = H.size := by rw [hT]
  rw [e]
  exact a1
end VGM
/-! ===== END ===== -/
end
section
/-! ===== rows of ints ===== -/
theorem am_rows_at : ∀ (n b j : Nat), (am_rows b n).getD j none = if j < n then some (b + j) else none
  | 0, b, j => by simp [am_rows]
  | n + 1, b, 0 => by simp [am_rows]
  | n + 1, b, j + 1 => by
    simp only [am_rows, List.getD_cons_succ, am_rows_at n (b + 1) j]
    by_cases h : j < n
    · rw [if_pos h, if_pos (by omega)]
      congr 1
      omega
    · rw [if_neg h, if_neg (by omega)]
theorem am_reps_eq : ∀ (n : Nat) (z : am_S), am_reps n z = List.replicate n z
  | 0, _ => rfl
  | n + 1, z => by rw [am_reps, am_reps_eq n z]; rfl
theorem am_reps_len (n : Nat) (z : am_S) : (am_reps n z).length = n := by rw [am_reps_eq]; simp
set_option maxHeartbeats 1000000 in
theorem am_s_multianewarray {p : Program} {l : Launch} {e : Env} {R : Room} {s : State} {m : MethodId} {args : Array Value} {below : List Frame} {meth : Method} {c : Code} {Qf : State → Prop} {D : va_G} {cA : Nat → ClassId} {B : Nat} {cd : List am_E} {nL mc ms n0 : Nat} {ad0 : Nat → Nat} {K : am_K} {I : am_I} {Tc : am_T} {Q : Option Value → am_H → Prop} {own : String} {bytes : ByteArray} {isI : Bool} {ret : Option FieldType} {Y : am_Y} (X : am_CX p R s m meth c D cA B cd nL mc ms ad0 K own bytes isI ret Y) {pc : Nat} {i dims : Nat} {rs : List Nat} {im : Int32} {wl : List Nat} {is : List am_E} {ls : am_L} {st : List Value} {hp : am_H} {nc ns : Nat} (h : am_step K I Tc cd mc ms Q (am_PW p l e R s m args below meth c Qf D cA B cd nL mc ms n0 ad0) ((pc, .multianewarray i dims, rs, im, wl) :: is, ls, st, hp, nc, ns)) : (am_PW p l e R s m args below meth c Qf D cA B cd nL mc ms n0 ad0) ((pc, .multianewarray i dims, rs, im, wl) :: is, ls, st, hp, nc, ns) := by
  intro ad H locs la hr
  obtain ⟨hx, hb, hml, hown, hisI, hTW, hK, hCU, hBs, hRc, hRf, hV⟩ := X
  have hok := hV _ _ hr.1.1
  obtain ⟨hd, hv⟩ := (Bool.and_eq_true _ _).mp hok
  obtain ⟨hdg, hpc⟩ := am_d_spec hd
  dsimp only [am_step] at h
  split at h
  · rename_i n n2 y x r
    split at h
    · rename_i hg
      obtain ⟨g1, hg⟩ := (Bool.and_eq_true _ _).mp hg
      obtain ⟨g2, hg⟩ := (Bool.and_eq_true _ _).mp hg
      obtain ⟨g3, g4⟩ := (Bool.and_eq_true _ _).mp hg
      obtain ⟨⟨hx1, hy1, hc1, hc2, hz⟩, h⟩ := h
      have g4 := am_blt g4
      split at hv
      · rename_i n9 n8 wi wj wk he
        cases he
        obtain ⟨h1, hv⟩ := (Bool.and_eq_true _ _).mp hv
        obtain ⟨h2, hv⟩ := (Bool.and_eq_true _ _).mp hv
        obtain ⟨h3, h4⟩ := (Bool.and_eq_true _ _).mp hv
        obtain ⟨hN, hneg, hn2, hbig, hdm⟩ := of_decide_eq_true h1
        subst hdm
        have hn3 := hn2.symm
        subst hn3
        subst hx1
        subst hy1
        have hov : va_AOA .int s := hTW.at (of_decide_eq_true h3) rfl #[]
        have hcl : (Jvm.Cond.classLink own i ("[" ++ (FieldType.array .int).toString)).before args s = true := hTW.at (of_decide_eq_true h2) rfl args
        have hcy : s.vm.findClass (FieldType.array .int).toString = some (cA 100) := (hK.2 0 (cA 100, .int) rfl).2
        have hb4 : ∀ b : Nat, b ≤ 8 → n * b ≤ 536870912 := fun b hb => Nat.le_trans (Nat.mul_le_mul hbig hb) (by decide)
        refine va_mna (X := am_cw cA ad hp) (L := []) (f := fun _ => .inr (0, [])) (z := (n, .inl (fun _ => 0))) hx hb hown hcl hov (hTW.at (of_decide_eq_true h4) rfl args) hcy hK (by simpa [va_pl] using hr.2.1) (by simpa [va_pl] using hr.2.2.1) hr.2.2.2.1 (fun q hq => Nat.le_trans hBs hq) hneg hneg hN hN (hb4 _ (by decide)) (hb4 _ (by decide)) (Nat.le_trans hbig (by decide)) rfl rfl (Nat.le_trans hc1 hRc.1) (Nat.le_trans hc2 hRc.2) (fun c => ?_) hdg (fun q rr c2 H1 hinj hnl hK2 hP hD hS => ?_)
        · rw [vp_cell_i]
          show ({ cls := c, slots := Array.replicate n (.int 0), vm := .none } : Cell) = _
          rw [arrV_new]
        · have hcc : c2 = cA 104 := by
            have q1 := (hK2.2 (am_tys cA).length (c2, .array .int) (by simp)).2
            have q2 := (hK.2 4 (cA 104, .array .int) rfl).2
            exact Option.some.inj ((show s.vm.findClass ("[" ++ (FieldType.array .int).toString) = some c2 from q1).symm.trans (show s.vm.findClass ("[" ++ (FieldType.array .int).toString) = some (cA 104) from q2))
          subst hcc
          have he : ∀ k, (k < hp.1.length ∨ 1000 ≤ k) → (fun k => if k = hp.1.length then q else if hp.1.length < k ∧ k ≤ hp.1.length + n then rr (k - hp.1.length - 1) else ad k) k = ad k := by
            intro k hk
            have a1 : k ≠ hp.1.length := by omega
            have a2 : ¬ (hp.1.length < k ∧ k ≤ hp.1.length + n) := by omega
            simp [a1, a2]
          generalize had2 : (fun k => if k = hp.1.length then q else if hp.1.length < k ∧ k ≤ hp.1.length + n then rr (k - hp.1.length - 1) else ad k) = ad2 at he
          have b1 : ad2 hp.1.length = q := by rw [← had2]; simp
          have b2 : ∀ j, j < n → ad2 (hp.1.length + 1 + j) = rr j := by
            intro j hj
            rw [← had2]
            have a1 : ¬ hp.1.length + 1 + j = hp.1.length := by omega
            have a2 : hp.1.length < hp.1.length + 1 + j ∧ hp.1.length + 1 + j ≤ hp.1.length + n := by omega
            have a3 : hp.1.length + 1 + j - hp.1.length - 1 = j := by omega
            simp only [a1, a2, a3, if_false, and_self, if_true]
          have e : am_cw cA ad2 (hp.1 ++ ((104, n, am_rows (hp.1.length + 1) n) :: am_reps n (100, n, [])), hp.2.1, hp.2.2) = am_cw cA ad hp ++ ([(q, .inl (cA 104, n, .inr (.inr (.inr (.inr (fun i => if i < n then some (rr i) else none))))))] ++ va_pl ([] ++ (List.range n).map rr) (vr_up (fun _ => .inr (0, [])) ((List.range n).map rr) (.inl (cA 100, (n, .inl (fun _ => 0)))))) := by
            refine am_cw_app he g3 ?_
            rw [List.mapIdx_cons, Nat.zero_add, b1, List.singleton_append]
            congr 1
            · rw [am_cell_q]
              congr 4
              rw [show (fun j => ((am_rows (hp.1.length + 1) n).getD j none).map ad2) = (fun i => if i < n then some (rr i) else none) from funext (fun j => by
                rw [am_rows_at]
                by_cases hj : j < n
                · rw [if_pos hj, if_pos hj, Option.map_some, b2 j hj]
                · rw [if_neg hj, if_neg hj]; rfl)]
            · apply List.ext_getElem?
              intro j
              rw [List.getElem?_mapIdx, am_reps_eq, List.nil_append]
              simp only [va_pl, List.map_map, List.getElem?_map, List.getElem?_replicate]
              by_cases hj : j < n
              · rw [if_pos hj, List.getElem?_range hj]
                show some _ = some _
                congr 1
                have c1 : j + 1 + hp.1.length = hp.1.length + 1 + j := by omega
                rw [c1, b2 j hj]
                dsimp only
                rw [am_cell_i (Or.inl rfl)]
                have c2 : hp.2.1 (hp.1.length + 1 + j) = fun _ => 0 := funext (fun i => by
                  have := hz (j + 1) i (by omega)
                  rw [show hp.1.length + (j + 1) = hp.1.length + 1 + j by omega] at this
                  exact this)
                rw [c2]
                show _ = (rr j, vr_up _ _ _ (rr j))
                rw [vr_up_in (List.mem_map.mpr ⟨j, List.mem_range.mpr hj, rfl⟩)]
              · rw [if_neg hj, List.getElem?_eq_none (by rw [List.length_range]; omega)]
                rfl
          rw [List.append_assoc, ← e] at hP hD
          have k := h ad2 H1 locs la (hr.nw he g1 (by simp) hc1 hc2 (by omega) hP hD hS)
          dsimp only at k
          rw [hpc, List.map_cons, am_rs_eq he g2, show am_v ad2 (.ref hp.1.length) = .ref q by simp [am_v, b1]] at k
          rw [Nat.add_assoc, Nat.add_assoc]
          exact k
      · cases hv
    · exact h.elim
  · exact h.elim
end
section
/-! ===== the machine does what the small machine does ===== -/
def am_RT (ret : Option FieldType) (ins : Instr) (o : Option Value) (st : List Value) : Prop := (∃ x : Int32, ins = .ireturn ∧ o = some (.int x) ∧ st = [.int x] ∧ (ret = some .int ∨ (ret = some .boolean ∧ (x = 0 ∨ x = 1)))) ∨ (∃ x : Int64, ins = .lreturn ∧ o = some (.long x) ∧ st = [.long x] ∧ ret = some .long) ∨ (∃ (k : Nat) (C : String), ins = .areturn ∧ o = some (.ref k) ∧ st = [.ref k] ∧ ret = some (.object C)) ∨ (ins = .return_ ∧ o = none ∧ st = [] ∧ ret = none)
set_option maxHeartbeats 4000000 in
theorem am_snd {p : Program} {l : Launch} {e : Env} {R : Room} {s : State} {m : MethodId} {args : Array Value} {below : List Frame} {meth : Method} {c : Code} {Qf : State → Prop} {D : va_G} {cA : Nat → ClassId} {B : Nat} {cd : List am_E} {nL mc ms n0 : Nat} {ad0 : Nat → Nat} {K : am_K} {I : am_I} {Tc : am_T} {Q : Option Value → am_H → Prop} {own : String} {bytes : ByteArray} {isI : Bool} {ret : Option FieldType} {Y : am_Y} {dd : Nat} (X : am_CX p R s m meth c D cA B cd nL mc ms ad0 K own bytes isI ret Y) (hI : am_IOK l B K I) (hTc : ∀ (mid : Nat) (as : List Value) (hp : am_H) (c2 s2 : Nat) (Q2 : Option Value → am_H → Prop), mid < am_N → Tc mid as hp c2 s2 Q2 → am_Met l Y D cA B K mid as hp c2 s2 Q2 dd) (hRd : dd + 9 ≤ R.frames ∧ 60 * dd + 460 ≤ R.locals) (hY : ∀ mid, mid < am_N → am_yok Y mid)
    (hret : ∀ {pc : Nat} {ins : Instr} {rs : List Nat} {im : Int32} {wl : List Nat} {is : List am_E} {ls : am_L} {st : List Value} {hp : am_H} {nc ns : Nat} {ad : Nat → Nat} {H : Heap} {locs : List Loc} {la : Array Slot}, am_Rel s D cA B cd nL mc ms n0 ad0 ((pc, ins, rs, im, wl) :: is, ls, st, hp, nc, ns) ad H locs la → decode bytes pc = .ok (ins, 1) → ∀ o : Option Value, Q o hp → am_RT ret ins o st → W p l e R s m args below meth c H locs nc ns Qf (F0 m pc la (st.map (am_v ad)))) :
    ∀ q : am_C, am_step K I Tc cd mc ms Q (am_PW p l e R s m args below meth c Qf D cA B cd nL mc ms n0 ad0) q → am_PW p l e R s m args below meth c Qf D cA B cd nL mc ms n0 ad0 q := by
  intro q h
  obtain ⟨is, ls, st, hp, nc, ns⟩ := q
  cases is with
  | nil => exact False.elim h
  | cons q is =>
  obtain ⟨pc, ins, rs, im, wl⟩ := q
  cases ins with
  | iconst _ => exact am_s_iconst X h
  | bipush _ => exact am_s_bipush X h
  | sipush _ => exact am_s_sipush X h
  | lconst _ => exact am_s_lconst X h
  | iload_n _ => exact am_s_iload_n X h
  | iload _ => exact am_s_iload X h
  | aload_n _ => exact am_s_aload_n X h
  | aload _ => exact am_s_aload X h
  | lload_n _ => exact am_s_lload_n X h
  | lload _ => exact am_s_lload X h
  | istore_n _ => exact am_s_istore_n X h
  | istore _ => exact am_s_istore X h
  | astore_n _ => exact am_s_astore_n X h
  | astore _ => exact am_s_astore X h
  | lstore_n _ => exact am_s_lstore_n X h
  | lstore _ => exact am_s_lstore X h
  | iinc _ _ => exact am_s_iinc X h
  | iadd => exact am_s_iadd X h
  | isub => exact am_s_isub X h
  | imul => exact am_s_imul X h
  | iand => exact am_s_iand X h
  | ior => exact am_s_ior X h
  | ixor => exact am_s_ixor X h
  | ishl => exact am_s_ishl X h
  | ishr => exact am_s_ishr X h
  | iushr => exact am_s_iushr X h
  | ineg => exact am_s_ineg X h
  | i2b => exact am_s_i2b X h
  | i2c => exact am_s_i2c X h
  | i2l => exact am_s_i2l X h
  | ladd => exact am_s_ladd X h
  | lcmp => exact am_s_lcmp X h
  | pop => exact am_s_pop X h
  | dup2 => exact am_s_dup2 X h
  | dup => exact am_s_dup X h
  | idiv => exact am_s_idiv X h
  | irem => exact am_s_irem X h
  | goto _ => exact am_s_goto X h
  | if_icmp _ _ => exact am_s_if_icmp X h
  | ifCond _ _ => exact am_s_ifCond X h
  | getfield _ => exact am_s_getfield X h
  | putfield _ => exact am_s_putfield X h
  | iaload => exact am_s_iaload X h
  | baload => exact am_s_baload X h
  | laload => exact am_s_laload X h
  | aaload => exact am_s_aaload X h
  | iastore => exact am_s_iastore X h
  | bastore => exact am_s_bastore X h
  | lastore => exact am_s_lastore X h
  | arraylength => exact am_s_arraylength X h
  | getstatic _ => exact am_s_getstatic X h
  | ldc _ => exact am_s_ldc X h
  | ldc_w _ => exact am_s_ldc_w X h
  | ldc2_w _ => exact am_s_ldc2_w X h
  | lookupswitch _ _ => exact am_s_lookupswitch X h
  | tableswitch _ _ _ _ => exact am_s_tableswitch X h
  | invokestatic _ => exact am_s_invokestatic X hI hTc hRd hY h
  | invokespecial _ => exact am_s_invokespecial X hI hTc hRd hY h
  | invokevirtual _ => exact am_s_invokevirtual X hI hTc hRd hY h
  | new _ => exact am_s_new X h
  | newarray _ => exact am_s_newarray X h
  | multianewarray _ _ => exact am_s_multianewarray X h
  | ireturn =>
    intro ad H locs la hr
    have hok := X.2.2.2.2.2.2.2.2.2.2.2 _ _ hr.1.1
    obtain ⟨hd, hv⟩ := (Bool.and_eq_true _ _).mp hok
    have hdg : decode bytes pc = .ok (.ireturn, 1) := of_decide_eq_true hd
    dsimp only [am_step] at h
    split at h
    · rename_i x
      have hv : decide (ret = some .int) = true := hv
      exact hret hr hdg _ h (Or.inl ⟨x, rfl, rfl, rfl, Or.inl (of_decide_eq_true hv)⟩)
    · rename_i x
      have hv : decide (ret = some .boolean) = true := hv
      exact hret hr hdg _ h.2 (Or.inl ⟨x, rfl, rfl, rfl, Or.inr ⟨of_decide_eq_true hv, h.1⟩⟩)
    · exact h.elim
  | lreturn =>
    intro ad H locs la hr
    have hok := X.2.2.2.2.2.2.2.2.2.2.2 _ _ hr.1.1
    obtain ⟨hd, hv⟩ := (Bool.and_eq_true _ _).mp hok
    have hdg : decode bytes pc = .ok (.lreturn, 1) := of_decide_eq_true hd
    dsimp only [am_step] at h
    split at h
    · rename_i x
      exact hret hr hdg _ h (Or.inr (Or.inl ⟨x, rfl, rfl, rfl, of_decide_eq_true hv⟩))
    · exact h.elim
  | areturn =>
    intro ad H locs la hr
    have hok := X.2.2.2.2.2.2.2.2.2.2.2 _ _ hr.1.1
    obtain ⟨hd, hv⟩ := (Bool.and_eq_true _ _).mp hok
    have hdg : decode bytes pc = .ok (.areturn, 1) := of_decide_eq_true hd
    dsimp only [am_step] at h
    split at h
    · rename_i x
      split at hv
      · exact hret hr hdg _ h (Or.inr (Or.inr (Or.inl ⟨x, _, rfl, rfl, rfl, rfl⟩)))
      · cases hv
    · exact h.elim
  | return_ =>
    intro ad H locs la hr
    have hok := X.2.2.2.2.2.2.2.2.2.2.2 _ _ hr.1.1
    obtain ⟨hd, hv⟩ := (Bool.and_eq_true _ _).mp hok
    have hdg : decode bytes pc = .ok (.return_, 1) := of_decide_eq_true hd
    dsimp only [am_step] at h
    split at h
    · exact hret hr hdg _ h (Or.inr (Or.inr (Or.inr ⟨rfl, rfl, rfl, of_decide_eq_true hv⟩)))
    · exact h.elim
  | _ => exact False.elim h
theorem am_ent_len : ∀ (n : Nat) (as : List Value), (am_ent n as).length = n
  | 0, _ => rfl
  | n + 1, [] => by simp [am_ent, am_ent_len n []]
  | n + 1, v :: vs => by
    unfold am_ent
    split
    · cases n with
      | zero => rfl
      | succ k => simp [am_ent_len k vs]
    · simp [am_ent_len n vs]
theorem am_isL_t {v : Value} (h : am_isL (some v) = true) : v.category = 2 := by cases v <;> simp [am_isL, Value.category] at h ⊢
theorem am_isL_f {v : Value} (h : am_isL (some v) = false) : v.category = 1 := by cases v <;> simp [am_isL, Value.category] at h ⊢
theorem am_ent_at {ad : Nat → Nat} : ∀ (n : Nat) (as : List Value) (b i : Nat) (v : Value), am_get (am_ent n as) i = some v → (b + i, am_v ad v) ∈ lv_args b (as.map (am_v ad))
  | 0, as, b, i, v, h => by simp [am_ent, am_get] at h
  | n + 1, [], b, i, v, h => by
    exfalso
    cases i with
    | zero => cases h
    | succ i =>
      have : ∀ (m j : Nat), am_get (am_ent m []) j = none := by
        intro m
        induction m with
        | zero => intro j; rfl
        | succ m ih => intro j; cases j with
          | zero => rfl
          | succ j => exact ih j
      rw [show am_get (am_ent (n + 1) []) (i + 1) = am_get (am_ent n []) i from rfl, this] at h
      cases h
  | n + 1, w :: vs, b, i, v, h => by
    unfold am_ent at h
    split at h
    · rename_i hL
      have hc : (am_v ad w).category = 2 := by rw [am_v_cat]; exact am_isL_t hL
      rw [List.map_cons]
      unfold lv_args
      simp only [hc, if_true]
      cases i with
      | zero =>
        cases h
        exact List.mem_cons_self
      | succ i => cases n with
        | zero => cases i <;> cases h
        | succ k => cases i with
          | zero => cases h
          | succ i =>
            have := am_ent_at (ad := ad) k vs (b + 2) i v h
            rw [show b + 2 + i = b + (i + 1 + 1) by omega] at this
            exact List.mem_cons_of_mem _ this
    · rename_i hL
      have hc : ¬ (am_v ad w).category = 2 := by rw [am_v_cat, am_isL_f hL]; decide
      rw [List.map_cons]
      unfold lv_args
      simp only [hc, if_false]
      cases i with
      | zero =>
        cases h
        exact List.mem_cons_self
      | succ i =>
        have := am_ent_at (ad := ad) n vs (b + 1) i v h
        rw [show b + 1 + i = b + (i + 1) by omega] at this
        exact List.mem_cons_of_mem _ this
theorem am_sl_len (ad : Nat → Nat) : ∀ as : List Value, (lg_sl (as.map (am_v ad))).length = am_ws as
  | [] => rfl
  | v :: vs => by
    have := am_sl_len ad vs
    cases v <;> simp [lg_sl, am_v, am_ws, Value.category] at this ⊢ <;> omega
end
section
/-- a method's list is right -/
def am_mok (Y : am_Y) (M : am_M) (mid : Nat) : Bool := am_chk Y (Y mid).1.cls (Y mid).2.1 (decide ((Y mid).1.name = "<init>")) (Y mid).2.2.2.1 (M mid).1 (M mid).1 && (Nat.beq (am_pcl (M mid).1) 0 && Nat.beq (M mid).2 (Y mid).2.2.1)
set_option maxHeartbeats 4000000 in
/-- THE MACHINE DOES WHAT THE SMALL MACHINE DOES: a run of it is a contract -/
theorem am_run_snd {l : Launch} {K : am_K} {I : am_I} {M : am_M} {Y : am_Y} {D : va_G} {cA : Nat → ClassId} {B : Nat} (hI : am_IOK l B K I) (hY : ∀ mid, mid < am_N → am_yok Y mid) (hM : ∀ mid, mid < am_N → am_mok Y M mid = true) : ∀ (d mid : Nat) (as : List Value) (hp : am_H) (mc ms : Nat) (Q : Option Value → am_H → Prop), mid < am_N → am_run K I M d mid as hp mc ms Q → am_Met l Y D cA B K mid as hp mc ms Q d
  | 0, mid, as, hp, mc, ms, Q, hm, h => False.elim h
  | d + 1, mid, as, hp, mc, ms, Q, hm, h => by
    intro ad0
    obtain ⟨hsz, h⟩ := h
    have hsz := Nat.le_of_ble_eq_true hsz
    obtain ⟨y1, y2, y3, y4, y5⟩ := hY mid hm
    obtain ⟨m1, m2⟩ := (Bool.and_eq_true _ _).mp (hM mid hm)
    obtain ⟨m2, m3⟩ := (Bool.and_eq_true _ _).mp m2
    have m2 := Nat.eq_of_beq_eq_true m2
    have m3 := Nat.eq_of_beq_eq_true m3
    refine Met.ofW (cc := (Y mid).2.1) (maxL := (Y mid).2.2.1) (ret := (Y mid).2.2.2.1) y5 rfl ?_
    intro p e s m args below meth c s₁ Bd hml hv
    obtain ⟨rfl, hBs, hTW, hK, hCU, hP, hD⟩ := hv
    have hx := Bd.exec
    have hb := Bd.bytes
    have hrt := Bd.returns
    have hlocks := Bd.notSynchronized
    have hown : s.vm.findClass (Y mid).1.cls = some m.cls := findClass_of_methodNamed Bd.named
    have hX : am_CX p (am_rm (d + 1) mc ms) s m meth c D cA B (M mid).1 (Y mid).2.2.1 mc ms ad0 K (Y mid).1.cls (Y mid).2.1 (decide ((Y mid).1.name = "<init>")) (Y mid).2.2.2.1 Y := by
      refine ⟨hx, hb, hml, hown, fun hi => ?_, hTW, hK, hCU, hBs, ⟨Nat.le_refl _, Nat.le_refl _⟩, ⟨?_, ?_⟩, fun q is hq => am_chk_suf _ m1 q is hq⟩
      · rw [(name_of_methodNamed Bd.named Bd.method).1]
        exact of_decide_eq_true hi
      · show 8 ≤ d + 1 + 8
        omega
      · show 400 ≤ 60 * (d + 1) + 400
        omega
    have key := h _ (am_snd (p := p) (l := l) (e := e) (R := am_rm (d + 1) mc ms) (s := s) (m := m) (args := (as.map (am_v ad0)).toArray) (below := below) (meth := meth) (c := c) (Qf := MQ below (am_Qc D cA B ad0 hp mc Q) (as.map (am_v ad0)).toArray s mc ms (fun a => B ≤ a)) (n0 := hp.1.length) (dd := d) hX hI (fun mid2 as2 hp2 c2 s2 Q2 hm2 hr2 => am_run_snd hI hY hM d mid2 as2 hp2 c2 s2 Q2 hm2 hr2) ⟨by show d + 9 ≤ d + 1 + 8; omega, by show 60 * d + 460 ≤ 60 * (d + 1) + 400; omega⟩ hY ?_)
    · have hl := lv_entry (as.map (am_v ad0)) (n := (Y mid).2.2.1) (by rw [am_sl_len]; rw [← m3]; exact hsz)
      rw [lg_entry_eq]
      generalize (lg_sl (as.map (am_v ad0)) ++ List.replicate ((Y mid).2.2.1 - (lg_sl (as.map (am_v ad0))).length) Slot.unset).toArray = la at hl ⊢
      have k := key ad0 s.heap [] la ⟨⟨List.suffix_refl _, fun _ => rfl, fun _ _ => rfl, Nat.le_refl _, Nat.zero_le _, Nat.zero_le _⟩, hP, hD, va_S.rf, hl.1, hl.2.1, fun i v hg => ?_, ?_⟩
      · dsimp only at k
        rw [m2] at k
        exact k
      · have := am_ent_at (ad := ad0) (M mid).2 as 0 i v hg
        rw [Nat.zero_add] at this
        exact hl.2.2 _ this
      · show (am_ent (M mid).2 as).length = _
        rw [am_ent_len, m3]
    · intro pc ins rs im wl is ls st hp2 nc ns ad H locs la hr hdg o hQ hRT
      refine W.widen hr.1.2.2.2.2.1 hr.1.2.2.2.2.2 ?_
      have hend : ∀ t : State, t.heap = H → s.WarmedH t.vm → am_Qc D cA B ad0 hp mc Q (as.map (am_v ad0)).toArray s (.returned (o.map (am_v ad))) t := fun t ht _ => ⟨⟨o, hp2, ad, rfl, hQ, hr.1.2.1, hr.1.2.2.1, hr.1.2.2.2.1, by rw [ht]; exact hr.2.1, hr.2.2.1⟩, hr.2.2.2.1.F ht⟩
      rcases hRT with ⟨x, rfl, rfl, rfl, hret⟩ | ⟨x, rfl, rfl, rfl, hret⟩ | ⟨k, C, rfl, rfl, rfl, hret⟩ | ⟨rfl, rfl, rfl, hret⟩
      · rcases hret with hret | ⟨hret, hx01⟩
        · exact W.iret (v := x) hx hb (hrt.trans hret) hend hr.2.2.2.1.2.2 hdg
        · exact W.zret (v := x) (ty := .boolean) hx hb (hrt.trans hret) (by rcases hx01 with rfl | rfl <;> rfl) hend hr.2.2.2.1.2.2 hdg
      · exact W.lret (v := x) hx hb (hrt.trans hret) hend hr.2.2.2.1.2.2 hdg
      · exact W.aret (v := .ref (ad k)) hx hb (hrt.trans hret) (Or.inl ⟨C, rfl⟩) (Or.inr ⟨_, rfl⟩) hend hr.2.2.2.1.2.2 hdg
      · exact W.vret hx hb (hrt.trans hret) hend hr.2.2.2.1.2.2 hdg
end
section
def cd_X0_init : List am_E := [
  (0, .aload_n 0, [0], 0, []),
  (1, .invokespecial 3, [2, 0], 0, [402]),
  (4, .aload_n 0, [0], 0, []),
  (5, .bipush 8, [], 8, []),
  (7, .newarray .int, [100, 8], 8, [137]),
  (9, .putfield 11, [1, 2, 0], 0, [406]),
  (12, .aload_n 0, [0], 0, []),
  (13, .bipush 8, [], 8, []),
  (15, .newarray .int, [100, 8], 8, [137]),
  (17, .putfield 15, [2, 2, 0], 0, [407]),
  (20, .aload_n 0, [0], 0, []),
  (21, .sipush 256, [], 256, []),
  (24, .newarray .int, [100, 256], 256, [137]),
  (26, .putfield 18, [3, 2, 0], 0, [408]),
  (29, .aload_n 0, [0], 0, []),
  (30, .bipush 11, [], 11, []),
  (32, .bipush 11, [], 11, []),
  (34, .multianewarray 21 2, [11, 11], 11, [403, 404, 137]),
  (38, .putfield 23, [4, 2, 0], 0, [409]),
  (41, .aload_n 0, [0], 0, []),
  (42, .bipush 6, [], 6, []),
  (44, .newarray .int, [100, 6], 6, [137]),
  (46, .putfield 26, [5, 2, 0], 0, [410]),
  (49, .aload_n 0, [0], 0, []),
  (50, .bipush 6, [], 6, []),
  (52, .newarray .int, [100, 6], 6, [137]),
  (54, .putfield 29, [6, 2, 0], 0, [411]),
  (57, .aload_n 0, [0], 0, []),
  (58, .bipush 41, [], 41, []),
  (60, .newarray .long, [103, 41], 41, [442]),
  (62, .putfield 32, [7, 2, 0], 0, [412]),
  (65, .aload_n 0, [0], 0, []),
  (66, .aload_n 1, [1], 0, []),
  (67, .putfield 36, [0, 2, 0], 0, [405]),
  (70, .return_, [], 0, [])]
def cd_X0_allWithin : List am_E := [
  (0, .iconst 0, [], 0, []),
  (1, .istore 4, [4], 0, []),
  (3, .iload 4, [4], 0, []),
  (5, .iload_n 1, [1], 0, []),
  (6, .if_icmp .ge 28, [17], 0, []),
  (9, .aload_n 0, [0], 0, []),
  (10, .getfield 36, [0, 2, 0], 0, [405]),
  (13, .iload 4, [4], 0, []),
  (15, .invokevirtual 40, [1, 2, 7, 85], 0, [1062, 0, 0, 657]),
  (18, .iload_n 2, [2], 0, []),
  (19, .iload_n 3, [3], 0, []),
  (20, .invokestatic 46, [0, 3, 135], 0, [1072]),
  (23, .ifCond .eq 5, [15], 0, []),
  (26, .iconst 0, [], 0, []),
  (27, .ireturn, [1], 0, []),
  (28, .iinc 4 1, [4], 1, []),
  (31, .goto (-28), [2], 0, []),
  (34, .iconst 1, [], 1, []),
  (35, .ireturn, [1], 0, [])]
def cd_X0_sign : List am_E := [
  (0, .iconst 0, [], 0, []),
  (1, .istore_n 2, [2], 0, []),
  (2, .iconst 0, [], 0, []),
  (3, .istore_n 3, [3], 0, []),
  (4, .iconst 0, [], 0, []),
  (5, .istore 4, [4], 0, []),
  (7, .iconst 0, [], 0, []),
  (8, .istore 5, [5], 0, []),
  (10, .iload 5, [5], 0, []),
  (12, .iload_n 1, [1], 0, []),
  (13, .if_icmp .ge 59, [43], 0, []),
  (16, .aload_n 0, [0], 0, []),
  (17, .getfield 36, [0, 2, 0], 0, [405]),
  (20, .iconst 2, [], 2, []),
  (21, .iload 5, [5], 0, []),
  (23, .imul, [], 0, []),
  (24, .invokevirtual 40, [1, 2, 7, 85], 0, [1062, 0, 0, 657]),
  (27, .istore 6, [6], 0, []),
  (29, .aload_n 0, [0], 0, []),
  (30, .getfield 36, [0, 2, 0], 0, [405]),
  (33, .iconst 2, [], 2, []),
  (34, .iload 5, [5], 0, []),
  (36, .imul, [], 0, []),
  (37, .iconst 1, [], 1, []),
  (38, .iadd, [], 0, []),
  (39, .invokevirtual 40, [1, 2, 7, 85], 0, [1062, 0, 0, 657]),
  (42, .istore 7, [7], 0, []),
  (44, .iload_n 2, [2], 0, []),
  (45, .iload 6, [6], 0, []),
  (47, .iadd, [], 0, []),
  (48, .istore_n 2, [2], 0, []),
  (49, .iload_n 3, [3], 0, []),
  (50, .iload 7, [7], 0, []),
  (52, .iadd, [], 0, []),
  (53, .istore_n 3, [3], 0, []),
  (54, .iload 4, [4], 0, []),
  (56, .iload 6, [6], 0, []),
  (58, .iload 7, [7], 0, []),
  (60, .iadd, [], 0, []),
  (61, .invokestatic 50, [2, 1], 0, [1063]),
  (64, .istore 4, [4], 0, []),
  (66, .iinc 5 1, [5], 1, []),
  (69, .goto (-59), [8], 0, []),
  (72, .aload_n 0, [0], 0, []),
  (73, .iload 4, [4], 0, []),
  (75, .iload_n 2, [2], 0, []),
  (76, .iload_n 3, [3], 0, []),
  (77, .invokestatic 50, [2, 1], 0, [1063]),
  (80, .invokestatic 50, [2, 1], 0, [1063]),
  (83, .putfield 56, [8, 0, 0], 0, [413]),
  (86, .aload_n 0, [0], 0, []),
  (87, .aload_n 0, [0], 0, []),
  (88, .getfield 56, [8, 0, 0], 0, [413]),
  (91, .iload_n 2, [2], 0, []),
  (92, .if_icmp .ne 7, [57], 0, []),
  (95, .iconst 0, [], 0, []),
  (96, .goto 16, [64], 0, []),
  (99, .aload_n 0, [0], 0, []),
  (100, .getfield 56, [8, 0, 0], 0, [413]),
  (103, .iload_n 3, [3], 0, []),
  (104, .if_icmp .ne 7, [63], 0, []),
  (107, .iconst 1, [], 1, []),
  (108, .goto 4, [64], 0, []),
  (111, .iconst 2, [], 2, []),
  (112, .putfield 60, [9, 0, 0], 0, [415]),
  (115, .return_, [], 0, [])]
def cd_X0_readTitles : List am_E := [
  (0, .aload_n 0, [0], 0, []),
  (1, .getfield 23, [4, 2, 0], 0, [409]),
  (4, .astore_n 3, [3], 0, []),
  (5, .aload_n 3, [3], 0, []),
  (6, .iconst 0, [], 0, []),
  (7, .aaload, [], 0, []),
  (8, .iconst 0, [], 0, []),
  (9, .iconst 0, [], 0, []),
  (10, .iastore, [], 0, []),
  (11, .iconst 0, [], 0, []),
  (12, .istore 4, [4], 0, []),
  (14, .iload 4, [4], 0, []),
  (16, .iload_n 1, [1], 0, []),
  (17, .if_icmp .gt 217, [135], 0, []),
  (20, .iload 4, [4], 0, []),
  (22, .bipush 10, [], 10, []),
  (24, .if_icmp .gt 210, [135], 0, []),
  (27, .iconst 0, [], 0, []),
  (28, .istore 5, [5], 0, []),
  (30, .iload 5, [5], 0, []),
  (32, .iload_n 2, [2], 0, []),
  (33, .if_icmp .gt 195, [133], 0, []),
  (36, .iload 5, [5], 0, []),
  (38, .bipush 10, [], 10, []),
  (40, .if_icmp .gt 188, [133], 0, []),
  (43, .iload 4, [4], 0, []),
  (45, .ifCond .le 17, [34], 0, []),
  (48, .aload_n 0, [0], 0, []),
  (49, .getfield 36, [0, 2, 0], 0, [405]),
  (52, .iload 4, [4], 0, []),
  (54, .iconst 1, [], 1, []),
  (55, .isub, [], 0, []),
  (56, .invokevirtual 40, [1, 2, 7, 85], 0, [1062, 0, 0, 657]),
  (59, .goto 4, [35], 0, []),
  (62, .iconst 0, [], 0, []),
  (63, .istore 6, [6], 0, []),
  (65, .iload 5, [5], 0, []),
  (67, .ifCond .le 19, [47], 0, []),
  (70, .aload_n 0, [0], 0, []),
  (71, .getfield 36, [0, 2, 0], 0, [405]),
  (74, .iload_n 1, [1], 0, []),
  (75, .iload 5, [5], 0, []),
  (77, .iadd, [], 0, []),
  (78, .iconst 1, [], 1, []),
  (79, .isub, [], 0, []),
  (80, .invokevirtual 40, [1, 2, 7, 85], 0, [1062, 0, 0, 657]),
  (83, .goto 4, [48], 0, []),
  (86, .iconst 0, [], 0, []),
  (87, .istore 7, [7], 0, []),
  (89, .iload 4, [4], 0, []),
  (91, .ifCond .le 25, [67], 0, []),
  (94, .aload_n 3, [3], 0, []),
  (95, .iload 4, [4], 0, []),
  (97, .aaload, [], 0, []),
  (98, .iload 5, [5], 0, []),
  (100, .aload_n 3, [3], 0, []),
  (101, .iload 4, [4], 0, []),
  (103, .iconst 1, [], 1, []),
  (104, .isub, [], 0, []),
  (105, .aaload, [], 0, []),
  (106, .iload 5, [5], 0, []),
  (108, .iaload, [], 0, []),
  (109, .iload 6, [6], 0, []),
  (111, .bipush 16, [], 16, []),
  (113, .imul, [], 0, []),
  (114, .iadd, [], 0, []),
  (115, .iastore, [], 0, []),
  (116, .iload 5, [5], 0, []),
  (118, .ifCond .le 49, [97], 0, []),
  (121, .aload_n 3, [3], 0, []),
  (122, .iload 4, [4], 0, []),
  (124, .aaload, [], 0, []),
  (125, .iload 5, [5], 0, []),
  (127, .iconst 1, [], 1, []),
  (128, .isub, [], 0, []),
  (129, .iaload, [], 0, []),
  (130, .iload 7, [7], 0, []),
  (132, .bipush 16, [], 16, []),
  (134, .imul, [], 0, []),
  (135, .iadd, [], 0, []),
  (136, .istore 8, [8], 0, []),
  (138, .aload_n 3, [3], 0, []),
  (139, .iload 4, [4], 0, []),
  (141, .aaload, [], 0, []),
  (142, .iload 5, [5], 0, []),
  (144, .iload 4, [4], 0, []),
  (146, .ifCond .le 18, [95], 0, []),
  (149, .aload_n 3, [3], 0, []),
  (150, .iload 4, [4], 0, []),
  (152, .aaload, [], 0, []),
  (153, .iload 5, [5], 0, []),
  (155, .iaload, [], 0, []),
  (156, .iload 8, [8], 0, []),
  (158, .invokestatic 63, [2, 2], 0, [1077]),
  (161, .goto 5, [96], 0, []),
  (164, .iload 8, [8], 0, []),
  (166, .iastore, [], 0, []),
  (167, .iload 4, [4], 0, []),
  (169, .ifCond .le 53, [131], 0, []),
  (172, .iload 5, [5], 0, []),
  (174, .ifCond .le 48, [131], 0, []),
  (177, .aload_n 3, [3], 0, []),
  (178, .iload 4, [4], 0, []),
  (180, .iconst 1, [], 1, []),
  (181, .isub, [], 0, []),
  (182, .aaload, [], 0, []),
  (183, .iload 5, [5], 0, []),
  (185, .iconst 1, [], 1, []),
  (186, .isub, [], 0, []),
  (187, .iaload, [], 0, []),
  (188, .iload 6, [6], 0, []),
  (190, .iload 7, [7], 0, []),
  (192, .invokestatic 50, [2, 1], 0, [1063]),
  (195, .bipush 16, [], 16, []),
  (197, .imul, [], 0, []),
  (198, .iadd, [], 0, []),
  (199, .iconst 1, [], 1, []),
  (200, .isub, [], 0, []),
  (201, .istore 8, [8], 0, []),
  (203, .aload_n 3, [3], 0, []),
  (204, .iload 4, [4], 0, []),
  (206, .aaload, [], 0, []),
  (207, .iload 5, [5], 0, []),
  (209, .aload_n 3, [3], 0, []),
  (210, .iload 4, [4], 0, []),
  (212, .aaload, [], 0, []),
  (213, .iload 5, [5], 0, []),
  (215, .iaload, [], 0, []),
  (216, .iload 8, [8], 0, []),
  (218, .invokestatic 63, [2, 2], 0, [1077]),
  (221, .iastore, [], 0, []),
  (222, .iinc 5 1, [5], 1, []),
  (225, .goto (-195), [19], 0, []),
  (228, .iinc 4 1, [4], 1, []),
  (231, .goto (-217), [11], 0, []),
  (234, .iload_n 1, [1], 0, []),
  (235, .bipush 10, [], 10, []),
  (237, .if_icmp .gt 17, [147], 0, []),
  (240, .iload_n 2, [2], 0, []),
  (241, .bipush 10, [], 10, []),
  (243, .if_icmp .gt 11, [147], 0, []),
  (246, .aload_n 3, [3], 0, []),
  (247, .iload_n 1, [1], 0, []),
  (248, .aaload, [], 0, []),
  (249, .iload_n 2, [2], 0, []),
  (250, .iaload, [], 0, []),
  (251, .goto 4, [148], 0, []),
  (254, .iconst 0, [], 0, []),
  (255, .istore 4, [4], 0, []),
  (257, .aload_n 0, [0], 0, []),
  (258, .iload 4, [4], 0, []),
  (260, .bipush 16, [], 16, []),
  (262, .iadd, [], 0, []),
  (263, .iconst 1, [], 1, []),
  (264, .isub, [], 0, []),
  (265, .bipush 16, [], 16, []),
  (267, .idiv, [], 0, []),
  (268, .putfield 56, [8, 0, 0], 0, [413]),
  (271, .aload_n 0, [0], 0, []),
  (272, .aload_n 0, [0], 0, []),
  (273, .getfield 56, [8, 0, 0], 0, [413]),
  (276, .bipush 16, [], 16, []),
  (278, .imul, [], 0, []),
  (279, .iload 4, [4], 0, []),
  (281, .isub, [], 0, []),
  (282, .putfield 60, [9, 0, 0], 0, [415]),
  (285, .return_, [], 0, [])]
def cd_X0_openGifts : List am_E := [
  (0, .aload_n 0, [0], 0, []),
  (1, .aload_n 0, [0], 0, []),
  (2, .getfield 11, [1, 2, 0], 0, [406]),
  (5, .iconst 0, [], 0, []),
  (6, .iload_n 1, [1], 0, []),
  (7, .invokevirtual 66, [1, 4, 0, 5], 0, [1086, 0, 0, 28]),
  (10, .aload_n 0, [0], 0, []),
  (11, .aload_n 0, [0], 0, []),
  (12, .getfield 15, [2, 2, 0], 0, [407]),
  (15, .iload_n 1, [1], 0, []),
  (16, .iload_n 1, [1], 0, []),
  (17, .invokevirtual 66, [1, 4, 0, 5], 0, [1086, 0, 0, 28]),
  (20, .aload_n 0, [0], 0, []),
  (21, .iconst 0, [], 0, []),
  (22, .putfield 56, [8, 0, 0], 0, [413]),
  (25, .aload_n 0, [0], 0, []),
  (26, .iconst 0, [], 0, []),
  (27, .putfield 60, [9, 0, 0], 0, [415]),
  (30, .iconst 0, [], 0, []),
  (31, .istore_n 2, [2], 0, []),
  (32, .iload_n 2, [2], 0, []),
  (33, .iload_n 1, [1], 0, []),
  (34, .if_icmp .ge 54, [51], 0, []),
  (37, .iload_n 2, [2], 0, []),
  (38, .bipush 8, [], 8, []),
  (40, .if_icmp .ge 48, [51], 0, []),
  (43, .aload_n 0, [0], 0, []),
  (44, .getfield 11, [1, 2, 0], 0, [406]),
  (47, .iload_n 2, [2], 0, []),
  (48, .iaload, [], 0, []),
  (49, .aload_n 0, [0], 0, []),
  (50, .getfield 15, [2, 2, 0], 0, [407]),
  (53, .iload_n 2, [2], 0, []),
  (54, .iaload, [], 0, []),
  (55, .isub, [], 0, []),
  (56, .invokestatic 70, [2, 3], 0, [1090]),
  (59, .istore_n 3, [3], 0, []),
  (60, .aload_n 0, [0], 0, []),
  (61, .aload_n 0, [0], 0, []),
  (62, .getfield 56, [8, 0, 0], 0, [413]),
  (65, .iload_n 3, [3], 0, []),
  (66, .invokestatic 50, [2, 1], 0, [1063]),
  (69, .putfield 56, [8, 0, 0], 0, [413]),
  (72, .aload_n 0, [0], 0, []),
  (73, .dup, [], 0, []),
  (74, .getfield 60, [9, 0, 0], 0, [415]),
  (77, .iload_n 3, [3], 0, []),
  (78, .iadd, [], 0, []),
  (79, .putfield 60, [9, 0, 0], 0, [415]),
  (82, .iinc 2 1, [2], 1, []),
  (85, .goto (-53), [20], 0, []),
  (88, .return_, [], 0, [])]
def cd_X0_sortInto : List am_E := [
  (0, .iconst 0, [], 0, []),
  (1, .istore 4, [4], 0, []),
  (3, .iload 4, [4], 0, []),
  (5, .iload_n 3, [3], 0, []),
  (6, .if_icmp .ge 71, [43], 0, []),
  (9, .iload 4, [4], 0, []),
  (11, .aload_n 1, [1], 0, []),
  (12, .arraylength, [], 0, []),
  (13, .if_icmp .ge 64, [43], 0, []),
  (16, .aload_n 0, [0], 0, []),
  (17, .getfield 36, [0, 2, 0], 0, [405]),
  (20, .iload_n 2, [2], 0, []),
  (21, .iload 4, [4], 0, []),
  (23, .iadd, [], 0, []),
  (24, .invokevirtual 40, [1, 2, 7, 85], 0, [1062, 0, 0, 657]),
  (27, .istore 5, [5], 0, []),
  (29, .iload 4, [4], 0, []),
  (31, .istore 6, [6], 0, []),
  (33, .iload 6, [6], 0, []),
  (35, .ifCond .le 30, [37], 0, []),
  (38, .aload_n 1, [1], 0, []),
  (39, .iload 6, [6], 0, []),
  (41, .iconst 1, [], 1, []),
  (42, .isub, [], 0, []),
  (43, .iaload, [], 0, []),
  (44, .iload 5, [5], 0, []),
  (46, .if_icmp .le 19, [37], 0, []),
  (49, .aload_n 1, [1], 0, []),
  (50, .iload 6, [6], 0, []),
  (52, .aload_n 1, [1], 0, []),
  (53, .iload 6, [6], 0, []),
  (55, .iconst 1, [], 1, []),
  (56, .isub, [], 0, []),
  (57, .iaload, [], 0, []),
  (58, .iastore, [], 0, []),
  (59, .iinc 6 (-1), [6], (-1), []),
  (62, .goto (-29), [18], 0, []),
  (65, .aload_n 1, [1], 0, []),
  (66, .iload 6, [6], 0, []),
  (68, .iload 5, [5], 0, []),
  (70, .iastore, [], 0, []),
  (71, .iinc 4 1, [4], 1, []),
  (74, .goto (-71), [2], 0, []),
  (77, .return_, [], 0, [])]
def cd_X0_pile : List am_E := [
  (0, .iconst 1, [], 1, []),
  (1, .iload_n 1, [1], 0, []),
  (2, .bipush 8, [], 8, []),
  (4, .invokestatic 63, [2, 2], 0, [1077]),
  (7, .ishl, [], 0, []),
  (8, .iconst 1, [], 1, []),
  (9, .isub, [], 0, []),
  (10, .istore 4, [4], 0, []),
  (12, .aload_n 0, [0], 0, []),
  (13, .getfield 18, [3, 2, 0], 0, [408]),
  (16, .iconst 0, [], 0, []),
  (17, .iconst 0, [], 0, []),
  (18, .iastore, [], 0, []),
  (19, .iconst 1, [], 1, []),
  (20, .istore 5, [5], 0, []),
  (22, .iload 5, [5], 0, []),
  (24, .iload 4, [4], 0, []),
  (26, .if_icmp .gt 45, [40], 0, []),
  (29, .aload_n 0, [0], 0, []),
  (30, .getfield 36, [0, 2, 0], 0, [405]),
  (33, .iload 5, [5], 0, []),
  (35, .invokestatic 73, [0, 1, 235], 0, [1099]),
  (38, .invokevirtual 40, [1, 2, 7, 85], 0, [1062, 0, 0, 657]),
  (41, .istore 6, [6], 0, []),
  (43, .aload_n 0, [0], 0, []),
  (44, .getfield 18, [3, 2, 0], 0, [408]),
  (47, .iload 5, [5], 0, []),
  (49, .aload_n 0, [0], 0, []),
  (50, .getfield 18, [3, 2, 0], 0, [408]),
  (53, .iload 5, [5], 0, []),
  (55, .iload 5, [5], 0, []),
  (57, .iconst 1, [], 1, []),
  (58, .isub, [], 0, []),
  (59, .iand, [], 0, []),
  (60, .iaload, [], 0, []),
  (61, .iload 6, [6], 0, []),
  (63, .iadd, [], 0, []),
  (64, .iastore, [], 0, []),
  (65, .iinc 5 1, [5], 1, []),
  (68, .goto (-46), [15], 0, []),
  (71, .aload_n 0, [0], 0, []),
  (72, .iconst (-1), [], (-1), []),
  (73, .putfield 56, [8, 0, 0], 0, [413]),
  (76, .iconst 0, [], 0, []),
  (77, .istore 5, [5], 0, []),
  (79, .iload 5, [5], 0, []),
  (81, .iload 4, [4], 0, []),
  (83, .if_icmp .gt 74, [86], 0, []),
  (86, .iload_n 2, [2], 0, []),
  (87, .aload_n 0, [0], 0, []),
  (88, .getfield 18, [3, 2, 0], 0, [408]),
  (91, .iload 5, [5], 0, []),
  (93, .iaload, [], 0, []),
  (94, .iadd, [], 0, []),
  (95, .istore 6, [6], 0, []),
  (97, .iload 6, [6], 0, []),
  (99, .aload_n 0, [0], 0, []),
  (100, .getfield 56, [8, 0, 0], 0, [413]),
  (103, .if_icmp .le 21, [70], 0, []),
  (106, .aload_n 0, [0], 0, []),
  (107, .iload 4, [4], 0, []),
  (109, .iload 5, [5], 0, []),
  (111, .iconst (-1), [], (-1), []),
  (112, .ixor, [], 0, []),
  (113, .iand, [], 0, []),
  (114, .iload 6, [6], 0, []),
  (116, .iload_n 3, [3], 0, []),
  (117, .isub, [], 0, []),
  (118, .invokevirtual 78, [1, 3, 0, 7], 0, [1103, 0, 0, 29]),
  (121, .goto 4, [71], 0, []),
  (124, .iconst (-1), [], (-1), []),
  (125, .istore 7, [7], 0, []),
  (127, .iload 7, [7], 0, []),
  (129, .iconst (-1), [], (-1), []),
  (130, .if_icmp .eq 21, [84], 0, []),
  (133, .aload_n 0, [0], 0, []),
  (134, .iload 6, [6], 0, []),
  (136, .putfield 56, [8, 0, 0], 0, [413]),
  (139, .aload_n 0, [0], 0, []),
  (140, .iload 5, [5], 0, []),
  (142, .putfield 60, [9, 0, 0], 0, [415]),
  (145, .aload_n 0, [0], 0, []),
  (146, .iload 7, [7], 0, []),
  (148, .putfield 81, [10, 0, 0], 0, [417]),
  (151, .iinc 5 1, [5], 1, []),
  (154, .goto (-75), [45], 0, []),
  (157, .return_, [], 0, [])]
def cd_X0_leastPile : List am_E := [
  (0, .iconst (-1), [], (-1), []),
  (1, .istore_n 3, [3], 0, []),
  (2, .iload_n 1, [1], 0, []),
  (3, .istore 4, [4], 0, []),
  (5, .iconst 0, [], 0, []),
  (6, .istore 5, [5], 0, []),
  (8, .iload 5, [5], 0, []),
  (10, .iload_n 1, [1], 0, []),
  (11, .if_icmp .gt 39, [28], 0, []),
  (14, .aload_n 0, [0], 0, []),
  (15, .getfield 18, [3, 2, 0], 0, [408]),
  (18, .iload 4, [4], 0, []),
  (20, .iaload, [], 0, []),
  (21, .iload_n 2, [2], 0, []),
  (22, .if_icmp .ne 6, [17], 0, []),
  (25, .iload 4, [4], 0, []),
  (27, .istore_n 3, [3], 0, []),
  (28, .iload 4, [4], 0, []),
  (30, .ifCond .ne 6, [20], 0, []),
  (33, .goto 17, [28], 0, []),
  (36, .iload 4, [4], 0, []),
  (38, .iconst 1, [], 1, []),
  (39, .isub, [], 0, []),
  (40, .iload_n 1, [1], 0, []),
  (41, .iand, [], 0, []),
  (42, .istore 4, [4], 0, []),
  (44, .iinc 5 1, [5], 1, []),
  (47, .goto (-39), [6], 0, []),
  (50, .iload_n 3, [3], 0, []),
  (51, .ireturn, [0], 0, [])]
def cd_X0_seatAll : List am_E := [
  (0, .iconst 0, [], 0, []),
  (1, .istore_n 2, [2], 0, []),
  (2, .iload_n 2, [2], 0, []),
  (3, .iload_n 1, [1], 0, []),
  (4, .if_icmp .ge 22, [15], 0, []),
  (7, .iload_n 2, [2], 0, []),
  (8, .bipush 6, [], 6, []),
  (10, .if_icmp .ge 16, [15], 0, []),
  (13, .aload_n 0, [0], 0, []),
  (14, .getfield 26, [5, 2, 0], 0, [410]),
  (17, .iload_n 2, [2], 0, []),
  (18, .iload_n 2, [2], 0, []),
  (19, .iastore, [], 0, []),
  (20, .iinc 2 1, [2], 1, []),
  (23, .goto (-21), [2], 0, []),
  (26, .aload_n 0, [0], 0, []),
  (27, .iconst 0, [], 0, []),
  (28, .putfield 56, [8, 0, 0], 0, [413]),
  (31, .aload_n 0, [0], 0, []),
  (32, .iload_n 1, [1], 0, []),
  (33, .putfield 60, [9, 0, 0], 0, [415]),
  (36, .iconst 0, [], 0, []),
  (37, .istore_n 2, [2], 0, []),
  (38, .iload_n 2, [2], 0, []),
  (39, .sipush 720, [], 720, []),
  (42, .if_icmp .ge 76, [64], 0, []),
  (45, .aload_n 0, [0], 0, []),
  (46, .iload_n 1, [1], 0, []),
  (47, .invokevirtual 84, [1, 2, 0, 10], 0, [1115, 0, 0, 30]),
  (50, .istore_n 3, [3], 0, []),
  (51, .iload_n 3, [3], 0, []),
  (52, .ifCond .ne 25, [43], 0, []),
  (55, .aload_n 0, [0], 0, []),
  (56, .getfield 56, [8, 0, 0], 0, [413]),
  (59, .ifCond .ne 18, [43], 0, []),
  (62, .aload_n 0, [0], 0, []),
  (63, .getfield 26, [5, 2, 0], 0, [410]),
  (66, .iconst 0, [], 0, []),
  (67, .aload_n 0, [0], 0, []),
  (68, .getfield 29, [6, 2, 0], 0, [411]),
  (71, .iconst 0, [], 0, []),
  (72, .bipush 6, [], 6, []),
  (74, .invokestatic 87, [2, 4], 0, [1119]),
  (77, .iload_n 3, [3], 0, []),
  (78, .ifCond .ne 13, [51], 0, []),
  (81, .aload_n 0, [0], 0, []),
  (82, .dup, [], 0, []),
  (83, .getfield 56, [8, 0, 0], 0, [413]),
  (86, .iconst 1, [], 1, []),
  (87, .iadd, [], 0, []),
  (88, .putfield 56, [8, 0, 0], 0, [413]),
  (91, .aload_n 0, [0], 0, []),
  (92, .aload_n 0, [0], 0, []),
  (93, .getfield 60, [9, 0, 0], 0, [415]),
  (96, .iload_n 3, [3], 0, []),
  (97, .invokestatic 63, [2, 2], 0, [1077]),
  (100, .putfield 60, [9, 0, 0], 0, [415]),
  (103, .aload_n 0, [0], 0, []),
  (104, .iload_n 1, [1], 0, []),
  (105, .invokevirtual 93, [1, 2, 0, 11], 0, [1120, 0, 0, 31]),
  (108, .ifCond .ne 4, [62], 0, []),
  (111, .return_, [], 0, []),
  (112, .iinc 2 1, [2], 1, []),
  (115, .goto (-77), [23], 0, []),
  (118, .return_, [], 0, [])]
def cd_X0_seatedBehind : List am_E := [
  (0, .iload_n 1, [1], 0, []),
  (1, .ifCond .lt 18, [10], 0, []),
  (4, .iload_n 1, [1], 0, []),
  (5, .bipush 6, [], 6, []),
  (7, .if_icmp .ge 12, [10], 0, []),
  (10, .aload_n 0, [0], 0, []),
  (11, .getfield 29, [6, 2, 0], 0, [411]),
  (14, .iload_n 1, [1], 0, []),
  (15, .iaload, [], 0, []),
  (16, .goto 4, [11], 0, []),
  (19, .iconst (-1), [], (-1), []),
  (20, .ireturn, [0], 0, [])]
def cd_X0_seatedBadly : List am_E := [
  (0, .iconst 0, [], 0, []),
  (1, .istore_n 2, [2], 0, []),
  (2, .iconst 0, [], 0, []),
  (3, .istore_n 3, [3], 0, []),
  (4, .iload_n 3, [3], 0, []),
  (5, .iload_n 1, [1], 0, []),
  (6, .if_icmp .ge 64, [42], 0, []),
  (9, .iload_n 3, [3], 0, []),
  (10, .bipush 6, [], 6, []),
  (12, .if_icmp .ge 58, [42], 0, []),
  (15, .iload_n 3, [3], 0, []),
  (16, .iconst 1, [], 1, []),
  (17, .iadd, [], 0, []),
  (18, .iload_n 1, [1], 0, []),
  (19, .if_icmp .ge 9, [19], 0, []),
  (22, .iload_n 3, [3], 0, []),
  (23, .iconst 1, [], 1, []),
  (24, .iadd, [], 0, []),
  (25, .goto 4, [20], 0, []),
  (28, .iconst 0, [], 0, []),
  (29, .istore 4, [4], 0, []),
  (31, .aload_n 0, [0], 0, []),
  (32, .getfield 36, [0, 2, 0], 0, [405]),
  (35, .aload_n 0, [0], 0, []),
  (36, .getfield 26, [5, 2, 0], 0, [410]),
  (39, .iload_n 3, [3], 0, []),
  (40, .iaload, [], 0, []),
  (41, .invokevirtual 40, [1, 2, 7, 85], 0, [1062, 0, 0, 657]),
  (44, .istore 5, [5], 0, []),
  (46, .iload 5, [5], 0, []),
  (48, .iload_n 3, [3], 0, []),
  (49, .ishr, [], 0, []),
  (50, .iload 5, [5], 0, []),
  (52, .iload 4, [4], 0, []),
  (54, .ishr, [], 0, []),
  (55, .ior, [], 0, []),
  (56, .iconst 1, [], 1, []),
  (57, .iand, [], 0, []),
  (58, .ifCond .eq 6, [40], 0, []),
  (61, .iinc 2 1, [2], 1, []),
  (64, .iinc 3 1, [3], 1, []),
  (67, .goto (-63), [4], 0, []),
  (70, .iload_n 2, [2], 0, []),
  (71, .ireturn, [0], 0, [])]
def cd_X0_goesToNextRow : List am_E := [
  (0, .iload_n 1, [1], 0, []),
  (1, .bipush 6, [], 6, []),
  (3, .invokestatic 63, [2, 2], 0, [1077]),
  (6, .iconst 1, [], 1, []),
  (7, .isub, [], 0, []),
  (8, .istore_n 2, [2], 0, []),
  (9, .iload_n 2, [2], 0, []),
  (10, .iconst 1, [], 1, []),
  (11, .isub, [], 0, []),
  (12, .istore_n 3, [3], 0, []),
  (13, .iload_n 3, [3], 0, []),
  (14, .ifCond .lt 26, [25], 0, []),
  (17, .aload_n 0, [0], 0, []),
  (18, .getfield 26, [5, 2, 0], 0, [410]),
  (21, .iload_n 3, [3], 0, []),
  (22, .iaload, [], 0, []),
  (23, .aload_n 0, [0], 0, []),
  (24, .getfield 26, [5, 2, 0], 0, [410]),
  (27, .iload_n 3, [3], 0, []),
  (28, .iconst 1, [], 1, []),
  (29, .iadd, [], 0, []),
  (30, .iaload, [], 0, []),
  (31, .if_icmp .le 9, [25], 0, []),
  (34, .iinc 3 (-1), [3], (-1), []),
  (37, .goto (-24), [10], 0, []),
  (40, .iload_n 3, [3], 0, []),
  (41, .ifCond .ge 5, [29], 0, []),
  (44, .iconst 0, [], 0, []),
  (45, .ireturn, [1], 0, []),
  (46, .iload_n 2, [2], 0, []),
  (47, .istore 4, [4], 0, []),
  (49, .iload 4, [4], 0, []),
  (51, .iload_n 3, [3], 0, []),
  (52, .iconst 1, [], 1, []),
  (53, .iadd, [], 0, []),
  (54, .if_icmp .le 25, [47], 0, []),
  (57, .aload_n 0, [0], 0, []),
  (58, .getfield 26, [5, 2, 0], 0, [410]),
  (61, .iload 4, [4], 0, []),
  (63, .iaload, [], 0, []),
  (64, .aload_n 0, [0], 0, []),
  (65, .getfield 26, [5, 2, 0], 0, [410]),
  (68, .iload_n 3, [3], 0, []),
  (69, .iaload, [], 0, []),
  (70, .if_icmp .ge 9, [47], 0, []),
  (73, .iinc 4 (-1), [4], (-1), []),
  (76, .goto (-27), [31], 0, []),
  (79, .aload_n 0, [0], 0, []),
  (80, .iload_n 3, [3], 0, []),
  (81, .iload 4, [4], 0, []),
  (83, .invokevirtual 97, [1, 3, 0, 12], 0, [1124, 0, 0, 32]),
  (86, .iload_n 3, [3], 0, []),
  (87, .iconst 1, [], 1, []),
  (88, .iadd, [], 0, []),
  (89, .istore 5, [5], 0, []),
  (91, .iload_n 2, [2], 0, []),
  (92, .istore 6, [6], 0, []),
  (94, .iload 5, [5], 0, []),
  (96, .iload 6, [6], 0, []),
  (98, .if_icmp .ge 20, [67], 0, []),
  (101, .aload_n 0, [0], 0, []),
  (102, .iload 5, [5], 0, []),
  (104, .iload 6, [6], 0, []),
  (106, .invokevirtual 97, [1, 3, 0, 12], 0, [1124, 0, 0, 32]),
  (109, .iinc 5 1, [5], 1, []),
  (112, .iinc 6 (-1), [6], (-1), []),
  (115, .goto (-21), [57], 0, []),
  (118, .iconst 1, [], 1, []),
  (119, .ireturn, [1], 0, [])]
def cd_X0_swapSeats : List am_E := [
  (0, .aload_n 0, [0], 0, []),
  (1, .getfield 26, [5, 2, 0], 0, [410]),
  (4, .iload_n 1, [1], 0, []),
  (5, .iaload, [], 0, []),
  (6, .istore_n 3, [3], 0, []),
  (7, .aload_n 0, [0], 0, []),
  (8, .getfield 26, [5, 2, 0], 0, [410]),
  (11, .iload_n 1, [1], 0, []),
  (12, .aload_n 0, [0], 0, []),
  (13, .getfield 26, [5, 2, 0], 0, [410]),
  (16, .iload_n 2, [2], 0, []),
  (17, .iaload, [], 0, []),
  (18, .iastore, [], 0, []),
  (19, .aload_n 0, [0], 0, []),
  (20, .getfield 26, [5, 2, 0], 0, [410]),
  (23, .iload_n 2, [2], 0, []),
  (24, .iload_n 3, [3], 0, []),
  (25, .iastore, [], 0, []),
  (26, .return_, [], 0, [])]
def cd_X0_cut : List am_E := [
  (0, .iconst 0, [], 0, []),
  (1, .istore_n 2, [2], 0, []),
  (2, .iconst 0, [], 0, []),
  (3, .istore_n 3, [3], 0, []),
  (4, .iload_n 3, [3], 0, []),
  (5, .iload_n 1, [1], 0, []),
  (6, .if_icmp .ge 20, [16], 0, []),
  (9, .iload_n 2, [2], 0, []),
  (10, .aload_n 0, [0], 0, []),
  (11, .getfield 36, [0, 2, 0], 0, [405]),
  (14, .iload_n 3, [3], 0, []),
  (15, .invokevirtual 40, [1, 2, 7, 85], 0, [1062, 0, 0, 657]),
  (18, .iadd, [], 0, []),
  (19, .istore_n 2, [2], 0, []),
  (20, .iinc 3 1, [3], 1, []),
  (23, .goto (-19), [4], 0, []),
  (26, .iconst 0, [], 0, []),
  (27, .istore_n 3, [3], 0, []),
  (28, .aload_n 0, [0], 0, []),
  (29, .ldc 101, [], 2147483647, [1144]),
  (31, .putfield 56, [8, 0, 0], 0, [413]),
  (34, .iconst 1, [], 1, []),
  (35, .istore 4, [4], 0, []),
  (37, .iload 4, [4], 0, []),
  (39, .iload_n 1, [1], 0, []),
  (40, .if_icmp .ge 66, [62], 0, []),
  (43, .iload_n 3, [3], 0, []),
  (44, .aload_n 0, [0], 0, []),
  (45, .getfield 36, [0, 2, 0], 0, [405]),
  (48, .iload 4, [4], 0, []),
  (50, .iconst 1, [], 1, []),
  (51, .isub, [], 0, []),
  (52, .invokevirtual 40, [1, 2, 7, 85], 0, [1062, 0, 0, 657]),
  (55, .iadd, [], 0, []),
  (56, .istore_n 3, [3], 0, []),
  (57, .iload_n 2, [2], 0, []),
  (58, .aload_n 0, [0], 0, []),
  (59, .getfield 36, [0, 2, 0], 0, [405]),
  (62, .iload 4, [4], 0, []),
  (64, .iconst 1, [], 1, []),
  (65, .isub, [], 0, []),
  (66, .invokevirtual 40, [1, 2, 7, 85], 0, [1062, 0, 0, 657]),
  (69, .isub, [], 0, []),
  (70, .istore_n 2, [2], 0, []),
  (71, .iload_n 3, [3], 0, []),
  (72, .iload_n 2, [2], 0, []),
  (73, .isub, [], 0, []),
  (74, .invokestatic 70, [2, 3], 0, [1090]),
  (77, .aload_n 0, [0], 0, []),
  (78, .getfield 56, [8, 0, 0], 0, [413]),
  (81, .if_icmp .ge 19, [60], 0, []),
  (84, .aload_n 0, [0], 0, []),
  (85, .iload_n 3, [3], 0, []),
  (86, .iload_n 2, [2], 0, []),
  (87, .isub, [], 0, []),
  (88, .invokestatic 70, [2, 3], 0, [1090]),
  (91, .putfield 56, [8, 0, 0], 0, [413]),
  (94, .aload_n 0, [0], 0, []),
  (95, .iload 4, [4], 0, []),
  (97, .putfield 60, [9, 0, 0], 0, [415]),
  (100, .iinc 4 1, [4], 1, []),
  (103, .goto (-66), [23], 0, []),
  (106, .return_, [], 0, [])]
def cd_X0_climb : List am_E := [
  (0, .aload_n 0, [0], 0, []),
  (1, .getfield 32, [7, 2, 0], 0, [412]),
  (4, .lconst 0, [], 0, []),
  (5, .invokestatic 102, [0, 2, 236], 0, [1154]),
  (8, .aload_n 0, [0], 0, []),
  (9, .getfield 32, [7, 2, 0], 0, [412]),
  (12, .iconst 0, [], 0, []),
  (13, .lconst 1, [], 1, []),
  (14, .lastore, [], 0, []),
  (15, .lconst 0, [], 0, []),
  (16, .lstore 4, [4], 0, []),
  (18, .iconst 1, [], 1, []),
  (19, .istore 6, [6], 0, []),
  (21, .iload 6, [6], 0, []),
  (23, .bipush 40, [], 40, []),
  (25, .if_icmp .gt 79, [58], 0, []),
  (28, .bipush 40, [], 40, []),
  (30, .istore 7, [7], 0, []),
  (32, .iload 7, [7], 0, []),
  (34, .ifCond .lt 42, [43], 0, []),
  (37, .aload_n 0, [0], 0, []),
  (38, .getfield 32, [7, 2, 0], 0, [412]),
  (41, .iload 7, [7], 0, []),
  (43, .aload_n 0, [0], 0, []),
  (44, .iload 7, [7], 0, []),
  (46, .iconst 1, [], 1, []),
  (47, .isub, [], 0, []),
  (48, .invokevirtual 108, [1, 2, 0, 15], 0, [1157, 0, 0, 33]),
  (51, .aload_n 0, [0], 0, []),
  (52, .iload 7, [7], 0, []),
  (54, .iconst 2, [], 2, []),
  (55, .isub, [], 0, []),
  (56, .invokevirtual 108, [1, 2, 0, 15], 0, [1157, 0, 0, 33]),
  (59, .ladd, [], 0, []),
  (60, .aload_n 0, [0], 0, []),
  (61, .iload 7, [7], 0, []),
  (63, .iload_n 2, [2], 0, []),
  (64, .isub, [], 0, []),
  (65, .invokevirtual 108, [1, 2, 0, 15], 0, [1157, 0, 0, 33]),
  (68, .ladd, [], 0, []),
  (69, .lastore, [], 0, []),
  (70, .iinc 7 (-1), [7], (-1), []),
  (73, .goto (-41), [18], 0, []),
  (76, .iload 6, [6], 0, []),
  (78, .iload_n 3, [3], 0, []),
  (79, .if_icmp .ne 9, [50], 0, []),
  (82, .aload_n 0, [0], 0, []),
  (83, .iload_n 1, [1], 0, []),
  (84, .invokevirtual 108, [1, 2, 0, 15], 0, [1157, 0, 0, 33]),
  (87, .lreturn, [], 0, []),
  (88, .lload 4, [4], 0, []),
  (90, .aload_n 0, [0], 0, []),
  (91, .iload_n 1, [1], 0, []),
  (92, .invokevirtual 108, [1, 2, 0, 15], 0, [1157, 0, 0, 33]),
  (95, .ladd, [], 0, []),
  (96, .lstore 4, [4], 0, []),
  (98, .iinc 6 1, [6], 1, []),
  (101, .goto (-80), [13], 0, []),
  (104, .lload 4, [4], 0, []),
  (106, .lreturn, [], 0, [])]
def cd_X0_waysTo : List am_E := [
  (0, .iload_n 1, [1], 0, []),
  (1, .ifCond .lt 18, [10], 0, []),
  (4, .iload_n 1, [1], 0, []),
  (5, .bipush 40, [], 40, []),
  (7, .if_icmp .gt 12, [10], 0, []),
  (10, .aload_n 0, [0], 0, []),
  (11, .getfield 32, [7, 2, 0], 0, [412]),
  (14, .iload_n 1, [1], 0, []),
  (15, .laload, [], 0, []),
  (16, .goto 4, [11], 0, []),
  (19, .lconst 0, [], 0, []),
  (20, .lreturn, [], 0, [])]
def cd_X1_init : List am_E := [
  (0, .aload_n 0, [0], 0, []),
  (1, .invokespecial 1, [2, 0], 0, [300]),
  (4, .aload_n 0, [0], 0, []),
  (5, .iconst 1, [], 1, []),
  (6, .putfield 7, [3, 1, 1], 0, [312]),
  (9, .return_, [], 0, [])]
def cd_X1_begin : List am_E := [
  (0, .aload_n 0, [0], 0, []),
  (1, .iload_n 1, [1], 0, []),
  (2, .putfield 13, [0, 0, 1], 0, [301]),
  (5, .aload_n 0, [0], 0, []),
  (6, .iload_n 2, [2], 0, []),
  (7, .putfield 17, [4, 1, 1], 0, [316]),
  (10, .aload_n 0, [0], 0, []),
  (11, .iconst 0, [], 0, []),
  (12, .putfield 20, [1, 0, 1], 0, [305]),
  (15, .aload_n 0, [0], 0, []),
  (16, .iconst 0, [], 0, []),
  (17, .putfield 23, [2, 0, 1], 0, [309]),
  (20, .aload_n 0, [0], 0, []),
  (21, .iconst 1, [], 1, []),
  (22, .putfield 7, [3, 1, 1], 0, [312]),
  (25, .aload_n 0, [0], 0, []),
  (26, .iconst 0, [], 0, []),
  (27, .putfield 26, [5, 1, 1], 0, [318]),
  (30, .return_, [], 0, [])]
def cd_X1_become : List am_E := [
  (0, .aload_n 0, [0], 0, []),
  (1, .aload_n 1, [1], 0, []),
  (2, .getfield 13, [0, 0, 1], 0, [301]),
  (5, .putfield 13, [0, 0, 1], 0, [301]),
  (8, .aload_n 0, [0], 0, []),
  (9, .aload_n 1, [1], 0, []),
  (10, .getfield 20, [1, 0, 1], 0, [305]),
  (13, .putfield 20, [1, 0, 1], 0, [305]),
  (16, .aload_n 0, [0], 0, []),
  (17, .aload_n 1, [1], 0, []),
  (18, .getfield 23, [2, 0, 1], 0, [309]),
  (21, .putfield 23, [2, 0, 1], 0, [309]),
  (24, .aload_n 0, [0], 0, []),
  (25, .aload_n 1, [1], 0, []),
  (26, .getfield 7, [3, 0, 1], 0, [312]),
  (29, .putfield 7, [3, 1, 1], 0, [312]),
  (32, .aload_n 0, [0], 0, []),
  (33, .aload_n 1, [1], 0, []),
  (34, .getfield 17, [4, 0, 1], 0, [316]),
  (37, .putfield 17, [4, 1, 1], 0, [316]),
  (40, .aload_n 0, [0], 0, []),
  (41, .aload_n 1, [1], 0, []),
  (42, .getfield 26, [5, 0, 1], 0, [318]),
  (45, .putfield 26, [5, 1, 1], 0, [318]),
  (48, .return_, [], 0, [])]
def cd_X1_ask : List am_E := [
  (0, .aload_n 0, [0], 0, []),
  (1, .aload_n 1, [1], 0, []),
  (2, .bipush 102, [], 102, []),
  (4, .bipush 9, [], 9, []),
  (6, .invokevirtual 29, [1, 3, 3, 42], 0, [888, 0, 0, 890]),
  (9, .putfield 35, [6, 0, 1], 0, [321]),
  (12, .aload_n 0, [0], 0, []),
  (13, .aload_n 1, [1], 0, []),
  (14, .bipush 100, [], 100, []),
  (16, .bipush 90, [], 90, []),
  (18, .invokevirtual 29, [1, 3, 3, 42], 0, [888, 0, 0, 890]),
  (21, .putfield 38, [7, 0, 1], 0, [322]),
  (24, .aload_n 0, [0], 0, []),
  (25, .aload_n 1, [1], 0, []),
  (26, .bipush 117, [], 117, []),
  (28, .bipush 90, [], 90, []),
  (30, .invokevirtual 29, [1, 3, 3, 42], 0, [888, 0, 0, 890]),
  (33, .putfield 41, [8, 0, 1], 0, [323]),
  (36, .aload_n 0, [0], 0, []),
  (37, .aload_n 1, [1], 0, []),
  (38, .bipush 104, [], 104, []),
  (40, .invokevirtual 44, [1, 2, 3, 44], 0, [908, 0, 0, 910]),
  (43, .ifCond .eq 20, [31], 0, []),
  (46, .aload_n 1, [1], 0, []),
  (47, .bipush 104, [], 104, []),
  (49, .invokevirtual 48, [1, 2, 3, 43], 0, [912, 0, 0, 914]),
  (52, .ifCond .ne 7, [29], 0, []),
  (55, .iconst 1, [], 1, []),
  (56, .goto 11, [33], 0, []),
  (59, .iconst 0, [], 0, []),
  (60, .goto 7, [33], 0, []),
  (63, .aload_n 0, [0], 0, []),
  (64, .getfield 7, [3, 0, 1], 0, [312]),
  (67, .putfield 51, [9, 1, 1], 0, [324]),
  (70, .aload_n 0, [0], 0, []),
  (71, .aload_n 1, [1], 0, []),
  (72, .bipush 120, [], 120, []),
  (74, .invokevirtual 48, [1, 2, 3, 43], 0, [912, 0, 0, 914]),
  (77, .putfield 54, [10, 1, 1], 0, [325]),
  (80, .return_, [], 0, [])]
def cd_X1_goForward : List am_E := [
  (0, .aload_n 0, [0], 0, []),
  (1, .iconst 0, [], 0, []),
  (2, .aload_n 0, [0], 0, []),
  (3, .getfield 13, [0, 0, 1], 0, [301]),
  (6, .iload_n 1, [1], 0, []),
  (7, .isub, [], 0, []),
  (8, .invokestatic 57, [2, 1], 0, [806]),
  (11, .putfield 13, [0, 0, 1], 0, [301]),
  (14, .return_, [], 0, [])]
def cd_X1_appease : List am_E := [
  (0, .aload_n 0, [0], 0, []),
  (1, .iconst 0, [], 0, []),
  (2, .aload_n 0, [0], 0, []),
  (3, .getfield 23, [2, 0, 1], 0, [309]),
  (6, .iload_n 1, [1], 0, []),
  (7, .isub, [], 0, []),
  (8, .invokestatic 57, [2, 1], 0, [806]),
  (11, .putfield 23, [2, 0, 1], 0, [309]),
  (14, .return_, [], 0, [])]
def cd_X1_move : List am_E := [
  (0, .aload_n 0, [0], 0, []),
  (1, .aload_n 0, [0], 0, []),
  (2, .getfield 17, [4, 0, 1], 0, [316]),
  (5, .ifCond .eq 12, [9], 0, []),
  (8, .aload_n 0, [0], 0, []),
  (9, .getfield 35, [6, 0, 1], 0, [321]),
  (12, .iconst 2, [], 2, []),
  (13, .idiv, [], 0, []),
  (14, .goto 7, [11], 0, []),
  (17, .aload_n 0, [0], 0, []),
  (18, .getfield 35, [6, 0, 1], 0, [321]),
  (21, .invokevirtual 62, [1, 2, 1, 20], 0, [920, 0, 0, 804]),
  (24, .aload_n 0, [0], 0, []),
  (25, .iconst 0, [], 0, []),
  (26, .bipush 90, [], 90, []),
  (28, .aload_n 0, [0], 0, []),
  (29, .getfield 20, [1, 0, 1], 0, [305]),
  (32, .aload_n 0, [0], 0, []),
  (33, .getfield 38, [7, 0, 1], 0, [322]),
  (36, .iadd, [], 0, []),
  (37, .aload_n 0, [0], 0, []),
  (38, .getfield 41, [8, 0, 1], 0, [323]),
  (41, .isub, [], 0, []),
  (42, .invokestatic 66, [2, 2], 0, [921]),
  (45, .invokestatic 57, [2, 1], 0, [806]),
  (48, .putfield 20, [1, 0, 1], 0, [305]),
  (51, .aload_n 0, [0], 0, []),
  (52, .aload_n 0, [0], 0, []),
  (53, .getfield 51, [9, 0, 1], 0, [324]),
  (56, .putfield 7, [3, 1, 1], 0, [312]),
  (59, .return_, [], 0, [])]
def cd_X1_takeOffence : List am_E := [
  (0, .aload_n 0, [0], 0, []),
  (1, .getfield 13, [0, 0, 1], 0, [301]),
  (4, .aload_n 1, [1], 0, []),
  (5, .getfield 13, [0, 0, 1], 0, [301]),
  (8, .isub, [], 0, []),
  (9, .istore 4, [4], 0, []),
  (11, .aload_n 0, [0], 0, []),
  (12, .getfield 20, [1, 0, 1], 0, [305]),
  (15, .aload_n 1, [1], 0, []),
  (16, .getfield 20, [1, 0, 1], 0, [305]),
  (19, .isub, [], 0, []),
  (20, .istore 5, [5], 0, []),
  (22, .iload 4, [4], 0, []),
  (24, .iload_n 2, [2], 0, []),
  (25, .if_icmp .le 8, [17], 0, []),
  (28, .iload 4, [4], 0, []),
  (30, .goto 4, [18], 0, []),
  (33, .iconst 0, [], 0, []),
  (34, .istore 6, [6], 0, []),
  (36, .iload 5, [5], 0, []),
  (38, .iload_n 3, [3], 0, []),
  (39, .if_icmp .le 10, [26], 0, []),
  (42, .iload 6, [6], 0, []),
  (44, .iload 5, [5], 0, []),
  (46, .iadd, [], 0, []),
  (47, .istore 6, [6], 0, []),
  (49, .aload_n 0, [0], 0, []),
  (50, .getfield 7, [3, 0, 1], 0, [312]),
  (53, .ifCond .ne 13, [33], 0, []),
  (56, .aload_n 1, [1], 0, []),
  (57, .getfield 7, [3, 0, 1], 0, [312]),
  (60, .ifCond .eq 6, [33], 0, []),
  (63, .iinc 6 1, [6], 1, []),
  (66, .aload_n 0, [0], 0, []),
  (67, .sipush 9999, [], 9999, []),
  (70, .aload_n 0, [0], 0, []),
  (71, .getfield 23, [2, 0, 1], 0, [309]),
  (74, .iload 6, [6], 0, []),
  (76, .iadd, [], 0, []),
  (77, .invokestatic 66, [2, 2], 0, [921]),
  (80, .putfield 23, [2, 0, 1], 0, [309]),
  (83, .return_, [], 0, [])]
def cd_X2_init : List am_E := [
  (0, .aload_n 0, [0], 0, []),
  (1, .invokespecial 3, [2, 0], 0, [372]),
  (4, .aload_n 0, [0], 0, []),
  (5, .sipush 1680, [], 1680, []),
  (8, .newarray .int, [100, 1680], 1680, [137]),
  (10, .putfield 9, [0, 2, 2], 0, [373]),
  (13, .aload_n 0, [0], 0, []),
  (14, .sipush 616, [], 616, []),
  (17, .newarray .int, [100, 616], 616, [137]),
  (19, .putfield 15, [1, 2, 2], 0, [374]),
  (22, .aload_n 0, [0], 0, []),
  (23, .bipush 9, [], 9, []),
  (25, .newarray .int, [100, 9], 9, [137]),
  (27, .putfield 18, [2, 2, 2], 0, [375]),
  (30, .return_, [], 0, [])]
def cd_X2_readFrom : List am_E := [
  (0, .aload_n 0, [0], 0, []),
  (1, .iload_n 2, [2], 0, []),
  (2, .bipush 9, [], 9, []),
  (4, .invokestatic 21, [2, 2], 0, [1017]),
  (7, .putfield 27, [3, 0, 2], 0, [376]),
  (10, .iconst 0, [], 0, []),
  (11, .istore_n 3, [3], 0, []),
  (12, .iload_n 3, [3], 0, []),
  (13, .aload_n 0, [0], 0, []),
  (14, .getfield 27, [3, 0, 2], 0, [376]),
  (17, .if_icmp .ge 81, [37], 0, []),
  (20, .aload_n 1, [1], 0, []),
  (21, .iload_n 3, [3], 0, []),
  (22, .invokevirtual 31, [1, 2, 7, 85], 0, [1018, 0, 0, 657]),
  (25, .lookupswitch 65 #[(46, 55), (60, 45), (62, 35)], [33, 46, 27, 60, 21, 62, 15], 0, []),
  (60, .aload_n 0, [0], 0, []),
  (61, .getfield 18, [2, 2, 2], 0, [375]),
  (64, .iload_n 3, [3], 0, []),
  (65, .iconst 1, [], 1, []),
  (66, .iastore, [], 0, []),
  (67, .goto 25, [35], 0, []),
  (70, .aload_n 0, [0], 0, []),
  (71, .getfield 18, [2, 2, 2], 0, [375]),
  (74, .iload_n 3, [3], 0, []),
  (75, .iconst 2, [], 2, []),
  (76, .iastore, [], 0, []),
  (77, .goto 15, [35], 0, []),
  (80, .aload_n 0, [0], 0, []),
  (81, .getfield 18, [2, 2, 2], 0, [375]),
  (84, .iload_n 3, [3], 0, []),
  (85, .iconst 0, [], 0, []),
  (86, .iastore, [], 0, []),
  (87, .goto 5, [35], 0, []),
  (90, .iload_n 3, [3], 0, []),
  (91, .ireturn, [0], 0, []),
  (92, .iinc 3 1, [3], 1, []),
  (95, .goto (-83), [7], 0, []),
  (98, .iconst (-1), [], (-1), []),
  (99, .ireturn, [0], 0, [])]
def cd_X2_canPass : List am_E := [
  (0, .aload_n 0, [0], 0, []),
  (1, .getfield 15, [1, 2, 2], 0, [374]),
  (4, .iconst 0, [], 0, []),
  (5, .invokestatic 37, [0, 2, 237], 0, [1023]),
  (8, .aload_n 0, [0], 0, []),
  (9, .iconst 0, [], 0, []),
  (10, .putfield 43, [4, 0, 2], 0, [377]),
  (13, .aload_n 0, [0], 0, []),
  (14, .aload_n 0, [0], 0, []),
  (15, .invokevirtual 46, [1, 1, 2, 32], 0, [1024, 0, 0, 21]),
  (18, .bipush 15, [], 15, []),
  (20, .invokevirtual 50, [1, 3, 2, 28], 0, [1030, 0, 0, 22]),
  (23, .aload_n 0, [0], 0, []),
  (24, .iconst 0, [], 0, []),
  (25, .putfield 54, [5, 0, 2], 0, [378]),
  (28, .aload_n 0, [0], 0, []),
  (29, .getfield 43, [4, 0, 2], 0, [377]),
  (32, .istore_n 1, [1], 0, []),
  (33, .iconst 0, [], 0, []),
  (34, .istore_n 2, [2], 0, []),
  (35, .iload_n 2, [2], 0, []),
  (36, .aload_n 0, [0], 0, []),
  (37, .getfield 43, [4, 0, 2], 0, [377]),
  (40, .if_icmp .ge 89, [72], 0, []),
  (43, .iload_n 2, [2], 0, []),
  (44, .iload_n 1, [1], 0, []),
  (45, .if_icmp .ne 18, [36], 0, []),
  (48, .aload_n 0, [0], 0, []),
  (49, .dup, [], 0, []),
  (50, .getfield 54, [5, 0, 2], 0, [378]),
  (53, .iconst 1, [], 1, []),
  (54, .iadd, [], 0, []),
  (55, .putfield 54, [5, 0, 2], 0, [378]),
  (58, .aload_n 0, [0], 0, []),
  (59, .getfield 43, [4, 0, 2], 0, [377]),
  (62, .istore_n 1, [1], 0, []),
  (63, .aload_n 0, [0], 0, []),
  (64, .getfield 9, [0, 2, 2], 0, [373]),
  (67, .iload_n 2, [2], 0, []),
  (68, .iaload, [], 0, []),
  (69, .bipush 16, [], 16, []),
  (71, .idiv, [], 0, []),
  (72, .istore_n 3, [3], 0, []),
  (73, .aload_n 0, [0], 0, []),
  (74, .getfield 9, [0, 2, 2], 0, [373]),
  (77, .iload_n 2, [2], 0, []),
  (78, .iaload, [], 0, []),
  (79, .bipush 16, [], 16, []),
  (81, .irem, [], 0, []),
  (82, .istore 4, [4], 0, []),
  (84, .aload_n 0, [0], 0, []),
  (85, .iload_n 3, [3], 0, []),
  (86, .invokevirtual 57, [1, 2, 2, 33], 0, [1034, 0, 0, 23]),
  (89, .aload_n 0, [0], 0, []),
  (90, .invokevirtual 61, [1, 1, 2, 29], 0, [1038, 0, 0, 24]),
  (93, .ifCond .eq 23, [66], 0, []),
  (96, .aload_n 0, [0], 0, []),
  (97, .iload 4, [4], 0, []),
  (99, .bipush 15, [], 15, []),
  (101, .if_icmp .ne 8, [62], 0, []),
  (104, .bipush (-4), [], (-4), []),
  (106, .goto 5, [63], 0, []),
  (109, .iload 4, [4], 0, []),
  (111, .putfield 65, [6, 0, 2], 0, [380]),
  (114, .iconst 1, [], 1, []),
  (115, .ireturn, [1], 0, []),
  (116, .aload_n 0, [0], 0, []),
  (117, .iload_n 3, [3], 0, []),
  (118, .iload 4, [4], 0, []),
  (120, .invokevirtual 68, [1, 3, 2, 27], 0, [1042, 0, 0, 25]),
  (123, .iinc 2 1, [2], 1, []),
  (126, .goto (-91), [20], 0, []),
  (129, .iconst 0, [], 0, []),
  (130, .ireturn, [1], 0, [])]
def cd_X2_addMoves : List am_E := [
  (0, .iconst 0, [], 0, []),
  (1, .istore_n 3, [3], 0, []),
  (2, .iload_n 3, [3], 0, []),
  (3, .aload_n 0, [0], 0, []),
  (4, .getfield 27, [3, 0, 2], 0, [376]),
  (7, .if_icmp .ge 66, [40], 0, []),
  (10, .aload_n 0, [0], 0, []),
  (11, .iload_n 3, [3], 0, []),
  (12, .invokevirtual 71, [1, 2, 2, 30], 0, [1046, 0, 0, 26]),
  (15, .istore 4, [4], 0, []),
  (17, .iload 4, [4], 0, []),
  (19, .ifCond .lt 48, [38], 0, []),
  (22, .iload 4, [4], 0, []),
  (24, .aload_n 0, [0], 0, []),
  (25, .getfield 27, [3, 0, 2], 0, [376]),
  (28, .if_icmp .ge 39, [38], 0, []),
  (31, .aload_n 0, [0], 0, []),
  (32, .iload_n 1, [1], 0, []),
  (33, .getstatic 74, [1001], 0, [1028]),
  (36, .iload 4, [4], 0, []),
  (38, .iaload, [], 0, []),
  (39, .getstatic 74, [1001], 0, [1028]),
  (42, .iload_n 3, [3], 0, []),
  (43, .iaload, [], 0, []),
  (44, .isub, [], 0, []),
  (45, .aload_n 0, [0], 0, []),
  (46, .getfield 18, [2, 2, 2], 0, [375]),
  (49, .iload_n 3, [3], 0, []),
  (50, .iaload, [], 0, []),
  (51, .imul, [], 0, []),
  (52, .iadd, [], 0, []),
  (53, .iload_n 2, [2], 0, []),
  (54, .bipush 15, [], 15, []),
  (56, .if_icmp .ne 7, [36], 0, []),
  (59, .iload_n 3, [3], 0, []),
  (60, .goto 4, [37], 0, []),
  (63, .iload_n 2, [2], 0, []),
  (64, .invokevirtual 50, [1, 3, 2, 28], 0, [1030, 0, 0, 22]),
  (67, .iinc 3 1, [3], 1, []),
  (70, .goto (-68), [2], 0, []),
  (73, .return_, [], 0, [])]
def cd_X2_add : List am_E := [
  (0, .iload_n 1, [1], 0, []),
  (1, .bipush 32, [], 32, []),
  (3, .idiv, [], 0, []),
  (4, .istore_n 3, [3], 0, []),
  (5, .iload_n 3, [3], 0, []),
  (6, .ifCond .lt 24, [17], 0, []),
  (9, .iload_n 3, [3], 0, []),
  (10, .aload_n 0, [0], 0, []),
  (11, .getfield 15, [1, 2, 2], 0, [374]),
  (14, .arraylength, [], 0, []),
  (15, .if_icmp .ge 15, [17], 0, []),
  (18, .aload_n 0, [0], 0, []),
  (19, .getfield 43, [4, 0, 2], 0, [377]),
  (22, .aload_n 0, [0], 0, []),
  (23, .getfield 9, [0, 2, 2], 0, [373]),
  (26, .arraylength, [], 0, []),
  (27, .if_icmp .lt 4, [18], 0, []),
  (30, .return_, [], 0, []),
  (31, .aload_n 0, [0], 0, []),
  (32, .getfield 15, [1, 2, 2], 0, [374]),
  (35, .iload_n 3, [3], 0, []),
  (36, .iaload, [], 0, []),
  (37, .iload_n 1, [1], 0, []),
  (38, .bipush 32, [], 32, []),
  (40, .irem, [], 0, []),
  (41, .ishr, [], 0, []),
  (42, .iconst 1, [], 1, []),
  (43, .iand, [], 0, []),
  (44, .ifCond .ne 43, [57], 0, []),
  (47, .aload_n 0, [0], 0, []),
  (48, .getfield 15, [1, 2, 2], 0, [374]),
  (51, .iload_n 3, [3], 0, []),
  (52, .dup2, [], 0, []),
  (53, .iaload, [], 0, []),
  (54, .iconst 1, [], 1, []),
  (55, .iload_n 1, [1], 0, []),
  (56, .bipush 32, [], 32, []),
  (58, .irem, [], 0, []),
  (59, .ishl, [], 0, []),
  (60, .ior, [], 0, []),
  (61, .iastore, [], 0, []),
  (62, .aload_n 0, [0], 0, []),
  (63, .getfield 9, [0, 2, 2], 0, [373]),
  (66, .aload_n 0, [0], 0, []),
  (67, .getfield 43, [4, 0, 2], 0, [377]),
  (70, .iload_n 1, [1], 0, []),
  (71, .bipush 16, [], 16, []),
  (73, .imul, [], 0, []),
  (74, .iload_n 2, [2], 0, []),
  (75, .iadd, [], 0, []),
  (76, .iastore, [], 0, []),
  (77, .aload_n 0, [0], 0, []),
  (78, .dup, [], 0, []),
  (79, .getfield 43, [4, 0, 2], 0, [377]),
  (82, .iconst 1, [], 1, []),
  (83, .iadd, [], 0, []),
  (84, .putfield 43, [4, 0, 2], 0, [377]),
  (87, .return_, [], 0, [])]
def cd_X2_allHavePassed : List am_E := [
  (0, .iconst 0, [], 0, []),
  (1, .istore_n 1, [1], 0, []),
  (2, .iconst 0, [], 0, []),
  (3, .istore_n 2, [2], 0, []),
  (4, .iload_n 2, [2], 0, []),
  (5, .aload_n 0, [0], 0, []),
  (6, .getfield 27, [3, 0, 2], 0, [376]),
  (9, .if_icmp .ge 37, [28], 0, []),
  (12, .aload_n 0, [0], 0, []),
  (13, .getfield 18, [2, 2, 2], 0, [375]),
  (16, .iload_n 2, [2], 0, []),
  (17, .iaload, [], 0, []),
  (18, .iconst 1, [], 1, []),
  (19, .if_icmp .ne 5, [16], 0, []),
  (22, .iconst 1, [], 1, []),
  (23, .istore_n 1, [1], 0, []),
  (24, .aload_n 0, [0], 0, []),
  (25, .getfield 18, [2, 2, 2], 0, [375]),
  (28, .iload_n 2, [2], 0, []),
  (29, .iaload, [], 0, []),
  (30, .iconst 2, [], 2, []),
  (31, .if_icmp .ne 9, [26], 0, []),
  (34, .iload_n 1, [1], 0, []),
  (35, .ifCond .eq 5, [26], 0, []),
  (38, .iconst 0, [], 0, []),
  (39, .ireturn, [1], 0, []),
  (40, .iinc 2 1, [2], 1, []),
  (43, .goto (-39), [4], 0, []),
  (46, .iconst 1, [], 1, []),
  (47, .ireturn, [1], 0, [])]
def cd_X2_landing : List am_E := [
  (0, .aload_n 0, [0], 0, []),
  (1, .iload_n 1, [1], 0, []),
  (2, .invokevirtual 77, [1, 2, 2, 31], 0, [1050, 0, 0, 27]),
  (5, .istore_n 2, [2], 0, []),
  (6, .iload_n 2, [2], 0, []),
  (7, .ifCond .eq 8, [9], 0, []),
  (10, .iload_n 2, [2], 0, []),
  (11, .iconst (-1), [], (-1), []),
  (12, .if_icmp .ne 5, [11], 0, []),
  (15, .iconst (-1), [], (-1), []),
  (16, .ireturn, [0], 0, []),
  (17, .iload_n 2, [2], 0, []),
  (18, .iconst 1, [], 1, []),
  (19, .if_icmp .ne 7, [16], 0, []),
  (22, .iconst 1, [], 1, []),
  (23, .goto 4, [17], 0, []),
  (26, .iconst (-1), [], (-1), []),
  (27, .istore_n 3, [3], 0, []),
  (28, .aload_n 0, [0], 0, []),
  (29, .iload_n 1, [1], 0, []),
  (30, .iload_n 3, [3], 0, []),
  (31, .iadd, [], 0, []),
  (32, .invokevirtual 77, [1, 2, 2, 31], 0, [1050, 0, 0, 27]),
  (35, .istore 4, [4], 0, []),
  (37, .iload 4, [4], 0, []),
  (39, .ifCond .ne 7, [30], 0, []),
  (42, .iload_n 1, [1], 0, []),
  (43, .iload_n 3, [3], 0, []),
  (44, .iadd, [], 0, []),
  (45, .ireturn, [0], 0, []),
  (46, .iload 4, [4], 0, []),
  (48, .iload_n 2, [2], 0, []),
  (49, .iconst 1, [], 1, []),
  (50, .if_icmp .ne 7, [36], 0, []),
  (53, .iconst 2, [], 2, []),
  (54, .goto 4, [37], 0, []),
  (57, .iconst 1, [], 1, []),
  (58, .if_icmp .ne 7, [40], 0, []),
  (61, .iconst 1, [], 1, []),
  (62, .goto 4, [41], 0, []),
  (65, .iconst 0, [], 0, []),
  (66, .istore 5, [5], 0, []),
  (68, .iload 5, [5], 0, []),
  (70, .ifCond .eq 23, [58], 0, []),
  (73, .aload_n 0, [0], 0, []),
  (74, .iload_n 1, [1], 0, []),
  (75, .iconst 2, [], 2, []),
  (76, .iload_n 3, [3], 0, []),
  (77, .imul, [], 0, []),
  (78, .iadd, [], 0, []),
  (79, .invokevirtual 77, [1, 2, 2, 31], 0, [1050, 0, 0, 27]),
  (82, .ifCond .ne 11, [58], 0, []),
  (85, .iload_n 1, [1], 0, []),
  (86, .iconst 2, [], 2, []),
  (87, .iload_n 3, [3], 0, []),
  (88, .imul, [], 0, []),
  (89, .iadd, [], 0, []),
  (90, .goto 4, [59], 0, []),
  (93, .iconst (-1), [], (-1), []),
  (94, .ireturn, [0], 0, [])]
def cd_X2_standsAt : List am_E := [
  (0, .iload_n 1, [1], 0, []),
  (1, .ifCond .lt 20, [11], 0, []),
  (4, .iload_n 1, [1], 0, []),
  (5, .aload_n 0, [0], 0, []),
  (6, .getfield 27, [3, 0, 2], 0, [376]),
  (9, .if_icmp .ge 12, [11], 0, []),
  (12, .aload_n 0, [0], 0, []),
  (13, .getfield 18, [2, 2, 2], 0, [375]),
  (16, .iload_n 1, [1], 0, []),
  (17, .iaload, [], 0, []),
  (18, .goto 4, [12], 0, []),
  (21, .iconst (-1), [], (-1), []),
  (22, .ireturn, [0], 0, [])]
def cd_X2_packed : List am_E := [
  (0, .iconst 0, [], 0, []),
  (1, .istore_n 1, [1], 0, []),
  (2, .iconst 0, [], 0, []),
  (3, .istore_n 2, [2], 0, []),
  (4, .iload_n 2, [2], 0, []),
  (5, .aload_n 0, [0], 0, []),
  (6, .getfield 27, [3, 0, 2], 0, [376]),
  (9, .if_icmp .ge 24, [21], 0, []),
  (12, .iload_n 1, [1], 0, []),
  (13, .getstatic 74, [1001], 0, [1028]),
  (16, .iload_n 2, [2], 0, []),
  (17, .iaload, [], 0, []),
  (18, .aload_n 0, [0], 0, []),
  (19, .getfield 18, [2, 2, 2], 0, [375]),
  (22, .iload_n 2, [2], 0, []),
  (23, .iaload, [], 0, []),
  (24, .imul, [], 0, []),
  (25, .iadd, [], 0, []),
  (26, .istore_n 1, [1], 0, []),
  (27, .iinc 2 1, [2], 1, []),
  (30, .goto (-26), [4], 0, []),
  (33, .iload_n 1, [1], 0, []),
  (34, .ireturn, [0], 0, [])]
def cd_X2_unpack : List am_E := [
  (0, .iload_n 1, [1], 0, []),
  (1, .istore_n 2, [2], 0, []),
  (2, .iconst 0, [], 0, []),
  (3, .istore_n 3, [3], 0, []),
  (4, .iload_n 3, [3], 0, []),
  (5, .aload_n 0, [0], 0, []),
  (6, .getfield 27, [3, 0, 2], 0, [376]),
  (9, .if_icmp .ge 22, [21], 0, []),
  (12, .aload_n 0, [0], 0, []),
  (13, .getfield 18, [2, 2, 2], 0, [375]),
  (16, .iload_n 3, [3], 0, []),
  (17, .iload_n 2, [2], 0, []),
  (18, .iconst 3, [], 3, []),
  (19, .irem, [], 0, []),
  (20, .iastore, [], 0, []),
  (21, .iload_n 2, [2], 0, []),
  (22, .iconst 3, [], 3, []),
  (23, .idiv, [], 0, []),
  (24, .istore_n 2, [2], 0, []),
  (25, .iinc 3 1, [3], 1, []),
  (28, .goto (-24), [4], 0, []),
  (31, .return_, [], 0, [])]
def cd_X3_init : List am_E := [
  (0, .aload_n 0, [0], 0, []),
  (1, .invokespecial 3, [2, 0], 0, [143]),
  (4, .aload_n 0, [0], 0, []),
  (5, .sipush 240, [], 240, []),
  (8, .newarray .int, [100, 240], 240, [137]),
  (10, .putfield 9, [0, 2, 3], 0, [144]),
  (13, .aload_n 0, [0], 0, []),
  (14, .bipush 16, [], 16, []),
  (16, .newarray .int, [100, 16], 16, [137]),
  (18, .putfield 15, [1, 2, 3], 0, [145]),
  (21, .aload_n 0, [0], 0, []),
  (22, .bipush 16, [], 16, []),
  (24, .newarray .int, [100, 16], 16, [137]),
  (26, .putfield 18, [2, 2, 3], 0, [146]),
  (29, .aload_n 0, [0], 0, []),
  (30, .bipush 16, [], 16, []),
  (32, .newarray .int, [100, 16], 16, [137]),
  (34, .putfield 21, [3, 2, 3], 0, [147]),
  (37, .aload_n 0, [0], 0, []),
  (38, .bipush 32, [], 32, []),
  (40, .newarray .int, [100, 32], 32, [137]),
  (42, .putfield 24, [4, 2, 3], 0, [148]),
  (45, .aload_n 0, [0], 0, []),
  (46, .bipush 10, [], 10, []),
  (48, .newarray .int, [100, 10], 10, [137]),
  (50, .putfield 27, [5, 2, 3], 0, [149]),
  (53, .return_, [], 0, [])]
def cd_X3_clear : List am_E := [
  (0, .aload_n 0, [0], 0, []),
  (1, .iconst 0, [], 0, []),
  (2, .putfield 30, [6, 0, 3], 0, [150]),
  (5, .aload_n 0, [0], 0, []),
  (6, .iconst 0, [], 0, []),
  (7, .putfield 34, [7, 0, 3], 0, [151]),
  (10, .return_, [], 0, [])]
def cd_X3_become : List am_E := [
  (0, .aload_n 0, [0], 0, []),
  (1, .aload_n 1, [1], 0, []),
  (2, .getfield 30, [6, 0, 3], 0, [150]),
  (5, .putfield 30, [6, 0, 3], 0, [150]),
  (8, .aload_n 0, [0], 0, []),
  (9, .aload_n 1, [1], 0, []),
  (10, .getfield 34, [7, 0, 3], 0, [151]),
  (13, .putfield 34, [7, 0, 3], 0, [151]),
  (16, .aload_n 1, [1], 0, []),
  (17, .getfield 9, [0, 2, 3], 0, [144]),
  (20, .iconst 0, [], 0, []),
  (21, .aload_n 0, [0], 0, []),
  (22, .getfield 9, [0, 2, 3], 0, [144]),
  (25, .iconst 0, [], 0, []),
  (26, .aload_n 0, [0], 0, []),
  (27, .getfield 9, [0, 2, 3], 0, [144]),
  (30, .arraylength, [], 0, []),
  (31, .invokestatic 37, [2, 4], 0, [783]),
  (34, .aload_n 1, [1], 0, []),
  (35, .getfield 15, [1, 2, 3], 0, [145]),
  (38, .iconst 0, [], 0, []),
  (39, .aload_n 0, [0], 0, []),
  (40, .getfield 15, [1, 2, 3], 0, [145]),
  (43, .iconst 0, [], 0, []),
  (44, .bipush 16, [], 16, []),
  (46, .invokestatic 37, [2, 4], 0, [783]),
  (49, .aload_n 1, [1], 0, []),
  (50, .getfield 18, [2, 2, 3], 0, [146]),
  (53, .iconst 0, [], 0, []),
  (54, .aload_n 0, [0], 0, []),
  (55, .getfield 18, [2, 2, 3], 0, [146]),
  (58, .iconst 0, [], 0, []),
  (59, .bipush 16, [], 16, []),
  (61, .invokestatic 37, [2, 4], 0, [783]),
  (64, .aload_n 1, [1], 0, []),
  (65, .getfield 21, [3, 2, 3], 0, [147]),
  (68, .iconst 0, [], 0, []),
  (69, .aload_n 0, [0], 0, []),
  (70, .getfield 21, [3, 2, 3], 0, [147]),
  (73, .iconst 0, [], 0, []),
  (74, .bipush 16, [], 16, []),
  (76, .invokestatic 37, [2, 4], 0, [783]),
  (79, .return_, [], 0, [])]
def cd_X3_beginRule : List am_E := [
  (0, .aload_n 0, [0], 0, []),
  (1, .getfield 34, [7, 0, 3], 0, [151]),
  (4, .bipush 16, [], 16, []),
  (6, .if_icmp .ge 49, [30], 0, []),
  (9, .aload_n 0, [0], 0, []),
  (10, .getfield 15, [1, 2, 3], 0, [145]),
  (13, .aload_n 0, [0], 0, []),
  (14, .getfield 34, [7, 0, 3], 0, [151]),
  (17, .iload_n 1, [1], 0, []),
  (18, .iastore, [], 0, []),
  (19, .aload_n 0, [0], 0, []),
  (20, .getfield 18, [2, 2, 3], 0, [146]),
  (23, .aload_n 0, [0], 0, []),
  (24, .getfield 34, [7, 0, 3], 0, [151]),
  (27, .aload_n 0, [0], 0, []),
  (28, .getfield 30, [6, 0, 3], 0, [150]),
  (31, .iastore, [], 0, []),
  (32, .aload_n 0, [0], 0, []),
  (33, .getfield 21, [3, 2, 3], 0, [147]),
  (36, .aload_n 0, [0], 0, []),
  (37, .getfield 34, [7, 0, 3], 0, [151]),
  (40, .aload_n 0, [0], 0, []),
  (41, .getfield 30, [6, 0, 3], 0, [150]),
  (44, .iastore, [], 0, []),
  (45, .aload_n 0, [0], 0, []),
  (46, .dup, [], 0, []),
  (47, .getfield 34, [7, 0, 3], 0, [151]),
  (50, .iconst 1, [], 1, []),
  (51, .iadd, [], 0, []),
  (52, .putfield 34, [7, 0, 3], 0, [151]),
  (55, .return_, [], 0, [])]
def cd_X3_beginTest : List am_E := [
  (0, .aload_n 0, [0], 0, []),
  (1, .getfield 34, [7, 0, 3], 0, [151]),
  (4, .ifCond .le 18, [12], 0, []),
  (7, .aload_n 0, [0], 0, []),
  (8, .getfield 21, [3, 2, 3], 0, [147]),
  (11, .aload_n 0, [0], 0, []),
  (12, .getfield 34, [7, 0, 3], 0, [151]),
  (15, .iconst 1, [], 1, []),
  (16, .isub, [], 0, []),
  (17, .aload_n 0, [0], 0, []),
  (18, .getfield 30, [6, 0, 3], 0, [150]),
  (21, .iastore, [], 0, []),
  (22, .return_, [], 0, [])]
def cd_X3_put : List am_E := [
  (0, .aload_n 0, [0], 0, []),
  (1, .getfield 30, [6, 0, 3], 0, [150]),
  (4, .aload_n 0, [0], 0, []),
  (5, .getfield 9, [0, 2, 3], 0, [144]),
  (8, .arraylength, [], 0, []),
  (9, .if_icmp .ge 28, [22], 0, []),
  (12, .aload_n 0, [0], 0, []),
  (13, .getfield 9, [0, 2, 3], 0, [144]),
  (16, .aload_n 0, [0], 0, []),
  (17, .getfield 30, [6, 0, 3], 0, [150]),
  (20, .iload_n 2, [2], 0, []),
  (21, .bipush 8, [], 8, []),
  (23, .ishl, [], 0, []),
  (24, .iload_n 1, [1], 0, []),
  (25, .ior, [], 0, []),
  (26, .iastore, [], 0, []),
  (27, .aload_n 0, [0], 0, []),
  (28, .dup, [], 0, []),
  (29, .getfield 30, [6, 0, 3], 0, [150]),
  (32, .iconst 1, [], 1, []),
  (33, .iadd, [], 0, []),
  (34, .putfield 30, [6, 0, 3], 0, [150]),
  (37, .aload_n 0, [0], 0, []),
  (38, .getfield 30, [6, 0, 3], 0, [150]),
  (41, .iconst 1, [], 1, []),
  (42, .isub, [], 0, []),
  (43, .ireturn, [0], 0, [])]
def cd_X3_letGoOnHere : List am_E := [
  (0, .iload_n 1, [1], 0, []),
  (1, .ifCond .lt 35, [21], 0, []),
  (4, .iload_n 1, [1], 0, []),
  (5, .aload_n 0, [0], 0, []),
  (6, .getfield 30, [6, 0, 3], 0, [150]),
  (9, .if_icmp .ge 27, [21], 0, []),
  (12, .aload_n 0, [0], 0, []),
  (13, .getfield 9, [0, 2, 3], 0, [144]),
  (16, .iload_n 1, [1], 0, []),
  (17, .aload_n 0, [0], 0, []),
  (18, .getfield 30, [6, 0, 3], 0, [150]),
  (21, .bipush 8, [], 8, []),
  (23, .ishl, [], 0, []),
  (24, .aload_n 0, [0], 0, []),
  (25, .getfield 9, [0, 2, 3], 0, [144]),
  (28, .iload_n 1, [1], 0, []),
  (29, .iaload, [], 0, []),
  (30, .sipush 255, [], 255, []),
  (33, .iand, [], 0, []),
  (34, .ior, [], 0, []),
  (35, .iastore, [], 0, []),
  (36, .return_, [], 0, [])]
def cd_X3_lookAt : List am_E := [
  (0, .aload_n 0, [0], 0, []),
  (1, .getfield 27, [5, 2, 3], 0, [149]),
  (4, .iconst 0, [], 0, []),
  (5, .iload_n 1, [1], 0, []),
  (6, .iastore, [], 0, []),
  (7, .aload_n 0, [0], 0, []),
  (8, .getfield 27, [5, 2, 3], 0, [149]),
  (11, .iconst 1, [], 1, []),
  (12, .aload_n 2, [2], 0, []),
  (13, .getfield 43, [0, 0, 1], 0, [303]),
  (16, .iastore, [], 0, []),
  (17, .aload_n 0, [0], 0, []),
  (18, .getfield 27, [5, 2, 3], 0, [149]),
  (21, .iconst 2, [], 2, []),
  (22, .aload_n 3, [3], 0, []),
  (23, .getfield 43, [0, 0, 1], 0, [303]),
  (26, .iastore, [], 0, []),
  (27, .aload_n 0, [0], 0, []),
  (28, .getfield 27, [5, 2, 3], 0, [149]),
  (31, .iconst 3, [], 3, []),
  (32, .aload_n 2, [2], 0, []),
  (33, .getfield 48, [1, 0, 1], 0, [307]),
  (36, .iastore, [], 0, []),
  (37, .aload_n 0, [0], 0, []),
  (38, .getfield 27, [5, 2, 3], 0, [149]),
  (41, .iconst 4, [], 4, []),
  (42, .aload_n 3, [3], 0, []),
  (43, .getfield 48, [1, 0, 1], 0, [307]),
  (46, .iastore, [], 0, []),
  (47, .aload_n 0, [0], 0, []),
  (48, .getfield 27, [5, 2, 3], 0, [149]),
  (51, .iconst 5, [], 5, []),
  (52, .aload_n 2, [2], 0, []),
  (53, .getfield 51, [2, 0, 1], 0, [310]),
  (56, .iastore, [], 0, []),
  (57, .aload_n 0, [0], 0, []),
  (58, .getfield 27, [5, 2, 3], 0, [149]),
  (61, .bipush 6, [], 6, []),
  (63, .aload_n 3, [3], 0, []),
  (64, .getfield 51, [2, 0, 1], 0, [310]),
  (67, .iastore, [], 0, []),
  (68, .aload_n 0, [0], 0, []),
  (69, .getfield 27, [5, 2, 3], 0, [149]),
  (72, .bipush 7, [], 7, []),
  (74, .aload_n 3, [3], 0, []),
  (75, .getfield 54, [3, 0, 1], 0, [314]),
  (78, .ifCond .eq 7, [49], 0, []),
  (81, .iconst 1, [], 1, []),
  (82, .goto 4, [50], 0, []),
  (85, .iconst 0, [], 0, []),
  (86, .iastore, [], 0, []),
  (87, .aload_n 0, [0], 0, []),
  (88, .getfield 27, [5, 2, 3], 0, [149]),
  (91, .bipush 8, [], 8, []),
  (93, .iload 4, [4], 0, []),
  (95, .bipush 100, [], 100, []),
  (97, .irem, [], 0, []),
  (98, .iastore, [], 0, []),
  (99, .aload_n 0, [0], 0, []),
  (100, .getfield 27, [5, 2, 3], 0, [149]),
  (103, .bipush 9, [], 9, []),
  (105, .iload 5, [5], 0, []),
  (107, .iastore, [], 0, []),
  (108, .return_, [], 0, [])]
def cd_X3_amountOf : List am_E := [
  (0, .iconst 0, [], 0, []),
  (1, .istore_n 3, [3], 0, []),
  (2, .iload_n 3, [3], 0, []),
  (3, .aload_n 0, [0], 0, []),
  (4, .getfield 34, [7, 0, 3], 0, [151]),
  (7, .if_icmp .ge 51, [32], 0, []),
  (10, .aload_n 0, [0], 0, []),
  (11, .getfield 15, [1, 2, 3], 0, [145]),
  (14, .iload_n 3, [3], 0, []),
  (15, .iaload, [], 0, []),
  (16, .iload_n 1, [1], 0, []),
  (17, .if_icmp .ne 35, [30], 0, []),
  (20, .aload_n 0, [0], 0, []),
  (21, .aload_n 0, [0], 0, []),
  (22, .getfield 21, [3, 2, 3], 0, [147]),
  (25, .iload_n 3, [3], 0, []),
  (26, .iaload, [], 0, []),
  (27, .invokevirtual 58, [1, 2, 3, 45], 0, [892, 0, 0, 19]),
  (30, .ifCond .eq 22, [30], 0, []),
  (33, .iconst 0, [], 0, []),
  (34, .iload_n 2, [2], 0, []),
  (35, .aload_n 0, [0], 0, []),
  (36, .aload_n 0, [0], 0, []),
  (37, .getfield 18, [2, 2, 3], 0, [146]),
  (40, .iload_n 3, [3], 0, []),
  (41, .iaload, [], 0, []),
  (42, .invokevirtual 58, [1, 2, 3, 45], 0, [892, 0, 0, 19]),
  (45, .invokestatic 62, [2, 2], 0, [907]),
  (48, .invokestatic 68, [2, 1], 0, [900]),
  (51, .ireturn, [0], 0, []),
  (52, .iinc 3 1, [3], 1, []),
  (55, .goto (-53), [2], 0, []),
  (58, .iconst 0, [], 0, []),
  (59, .ireturn, [0], 0, [])]
def cd_X3_anyHolds : List am_E := [
  (0, .iconst 0, [], 0, []),
  (1, .istore_n 2, [2], 0, []),
  (2, .iload_n 2, [2], 0, []),
  (3, .aload_n 0, [0], 0, []),
  (4, .getfield 34, [7, 0, 3], 0, [151]),
  (7, .if_icmp .ge 34, [23], 0, []),
  (10, .aload_n 0, [0], 0, []),
  (11, .getfield 15, [1, 2, 3], 0, [145]),
  (14, .iload_n 2, [2], 0, []),
  (15, .iaload, [], 0, []),
  (16, .iload_n 1, [1], 0, []),
  (17, .if_icmp .ne 18, [21], 0, []),
  (20, .aload_n 0, [0], 0, []),
  (21, .aload_n 0, [0], 0, []),
  (22, .getfield 21, [3, 2, 3], 0, [147]),
  (25, .iload_n 2, [2], 0, []),
  (26, .iaload, [], 0, []),
  (27, .invokevirtual 58, [1, 2, 3, 45], 0, [892, 0, 0, 19]),
  (30, .ifCond .eq 5, [21], 0, []),
  (33, .iconst 1, [], 1, []),
  (34, .ireturn, [1], 0, []),
  (35, .iinc 2 1, [2], 1, []),
  (38, .goto (-36), [2], 0, []),
  (41, .iconst 0, [], 0, []),
  (42, .ireturn, [1], 0, [])]
def cd_X3_speaksOf : List am_E := [
  (0, .iconst 0, [], 0, []),
  (1, .istore_n 2, [2], 0, []),
  (2, .iload_n 2, [2], 0, []),
  (3, .aload_n 0, [0], 0, []),
  (4, .getfield 34, [7, 0, 3], 0, [151]),
  (7, .if_icmp .ge 21, [16], 0, []),
  (10, .aload_n 0, [0], 0, []),
  (11, .getfield 15, [1, 2, 3], 0, [145]),
  (14, .iload_n 2, [2], 0, []),
  (15, .iaload, [], 0, []),
  (16, .iload_n 1, [1], 0, []),
  (17, .if_icmp .ne 5, [14], 0, []),
  (20, .iconst 1, [], 1, []),
  (21, .ireturn, [1], 0, []),
  (22, .iinc 2 1, [2], 1, []),
  (25, .goto (-23), [2], 0, []),
  (28, .iconst 0, [], 0, []),
  (29, .ireturn, [1], 0, [])]
def cd_X3_reckon : List am_E := [
  (0, .iconst 0, [], 0, []),
  (1, .istore_n 2, [2], 0, []),
  (2, .iload_n 1, [1], 0, []),
  (3, .istore_n 3, [3], 0, []),
  (4, .iload_n 3, [3], 0, []),
  (5, .ifCond .lt 262, [148], 0, []),
  (8, .iload_n 3, [3], 0, []),
  (9, .aload_n 0, [0], 0, []),
  (10, .getfield 30, [6, 0, 3], 0, [150]),
  (13, .if_icmp .ge 254, [148], 0, []),
  (16, .aload_n 0, [0], 0, []),
  (17, .getfield 9, [0, 2, 3], 0, [144]),
  (20, .iload_n 3, [3], 0, []),
  (21, .iaload, [], 0, []),
  (22, .sipush 255, [], 255, []),
  (25, .iand, [], 0, []),
  (26, .bipush 59, [], 59, []),
  (28, .if_icmp .eq 239, [148], 0, []),
  (31, .aload_n 0, [0], 0, []),
  (32, .getfield 9, [0, 2, 3], 0, [144]),
  (35, .iload_n 3, [3], 0, []),
  (36, .iaload, [], 0, []),
  (37, .sipush 255, [], 255, []),
  (40, .iand, [], 0, []),
  (41, .istore 4, [4], 0, []),
  (43, .aload_n 0, [0], 0, []),
  (44, .getfield 9, [0, 2, 3], 0, [144]),
  (47, .iload_n 3, [3], 0, []),
  (48, .iaload, [], 0, []),
  (49, .bipush 8, [], 8, []),
  (51, .ishr, [], 0, []),
  (52, .istore 5, [5], 0, []),
  (54, .iload 4, [4], 0, []),
  (56, .bipush 35, [], 35, []),
  (58, .if_icmp .eq 10, [38], 0, []),
  (61, .iload 4, [4], 0, []),
  (63, .bipush 64, [], 64, []),
  (65, .if_icmp .ne 44, [59], 0, []),
  (68, .iload_n 2, [2], 0, []),
  (69, .aload_n 0, [0], 0, []),
  (70, .getfield 24, [4, 2, 3], 0, [148]),
  (73, .arraylength, [], 0, []),
  (74, .if_icmp .lt 5, [45], 0, []),
  (77, .iconst 0, [], 0, []),
  (78, .ireturn, [0], 0, []),
  (79, .aload_n 0, [0], 0, []),
  (80, .getfield 24, [4, 2, 3], 0, [148]),
  (83, .iload_n 2, [2], 0, []),
  (84, .iload 4, [4], 0, []),
  (86, .bipush 35, [], 35, []),
  (88, .if_icmp .ne 8, [53], 0, []),
  (91, .iload 5, [5], 0, []),
  (93, .goto 9, [56], 0, []),
  (96, .aload_n 0, [0], 0, []),
  (97, .iload 5, [5], 0, []),
  (99, .invokevirtual 71, [1, 2, 3, 46], 0, [896, 0, 0, 20]),
  (102, .iastore, [], 0, []),
  (103, .iinc 2 1, [2], 1, []),
  (106, .goto 155, [146], 0, []),
  (109, .iload_n 2, [2], 0, []),
  (110, .ifCond .le 66, [93], 0, []),
  (113, .iload 4, [4], 0, []),
  (115, .bipush 38, [], 38, []),
  (117, .if_icmp .eq 10, [67], 0, []),
  (120, .iload 4, [4], 0, []),
  (122, .bipush 124, [], 124, []),
  (124, .if_icmp .ne 52, [93], 0, []),
  (127, .aload_n 0, [0], 0, []),
  (128, .getfield 24, [4, 2, 3], 0, [148]),
  (131, .iload_n 2, [2], 0, []),
  (132, .iconst 1, [], 1, []),
  (133, .isub, [], 0, []),
  (134, .iaload, [], 0, []),
  (135, .ifCond .eq 7, [76], 0, []),
  (138, .iconst 1, [], 1, []),
  (139, .goto 4, [77], 0, []),
  (142, .iconst 0, [], 0, []),
  (143, .iload 4, [4], 0, []),
  (145, .bipush 124, [], 124, []),
  (147, .if_icmp .ne 7, [82], 0, []),
  (150, .iconst 1, [], 1, []),
  (151, .goto 4, [83], 0, []),
  (154, .iconst 0, [], 0, []),
  (155, .if_icmp .ne 15, [91], 0, []),
  (158, .iload_n 3, [3], 0, []),
  (159, .iload 5, [5], 0, []),
  (161, .iconst 1, [], 1, []),
  (162, .isub, [], 0, []),
  (163, .invokestatic 68, [2, 1], 0, [900]),
  (166, .istore_n 3, [3], 0, []),
  (167, .goto 94, [146], 0, []),
  (170, .iinc 2 (-1), [2], (-1), []),
  (173, .goto 88, [146], 0, []),
  (176, .iload_n 2, [2], 0, []),
  (177, .ifCond .le 31, [113], 0, []),
  (180, .iload 4, [4], 0, []),
  (182, .bipush 33, [], 33, []),
  (184, .if_icmp .ne 24, [113], 0, []),
  (187, .aload_n 0, [0], 0, []),
  (188, .getfield 24, [4, 2, 3], 0, [148]),
  (191, .iload_n 2, [2], 0, []),
  (192, .iconst 1, [], 1, []),
  (193, .isub, [], 0, []),
  (194, .iconst 1, [], 1, []),
  (195, .aload_n 0, [0], 0, []),
  (196, .getfield 24, [4, 2, 3], 0, [148]),
  (199, .iload_n 2, [2], 0, []),
  (200, .iconst 1, [], 1, []),
  (201, .isub, [], 0, []),
  (202, .iaload, [], 0, []),
  (203, .isub, [], 0, []),
  (204, .iastore, [], 0, []),
  (205, .goto 56, [146], 0, []),
  (208, .iload_n 2, [2], 0, []),
  (209, .iconst 2, [], 2, []),
  (210, .if_icmp .lt 19, [125], 0, []),
  (213, .iload 4, [4], 0, []),
  (215, .aload_n 0, [0], 0, []),
  (216, .getfield 24, [4, 2, 3], 0, [148]),
  (219, .iload_n 2, [2], 0, []),
  (220, .iconst 1, [], 1, []),
  (221, .isub, [], 0, []),
  (222, .iaload, [], 0, []),
  (223, .invokestatic 74, [0, 2, 47], 0, [901]),
  (226, .ifCond .eq 5, [127], 0, []),
  (229, .iconst 0, [], 0, []),
  (230, .ireturn, [0], 0, []),
  (231, .iinc 2 (-1), [2], (-1), []),
  (234, .aload_n 0, [0], 0, []),
  (235, .getfield 24, [4, 2, 3], 0, [148]),
  (238, .iload_n 2, [2], 0, []),
  (239, .iconst 1, [], 1, []),
  (240, .isub, [], 0, []),
  (241, .aload_n 0, [0], 0, []),
  (242, .getfield 24, [4, 2, 3], 0, [148]),
  (245, .iload_n 2, [2], 0, []),
  (246, .iconst 1, [], 1, []),
  (247, .isub, [], 0, []),
  (248, .iaload, [], 0, []),
  (249, .iload 4, [4], 0, []),
  (251, .aload_n 0, [0], 0, []),
  (252, .getfield 24, [4, 2, 3], 0, [148]),
  (255, .iload_n 2, [2], 0, []),
  (256, .iaload, [], 0, []),
  (257, .invokestatic 78, [0, 3, 48], 0, [904]),
  (260, .iastore, [], 0, []),
  (261, .iinc 3 1, [3], 1, []),
  (264, .goto (-260), [4], 0, []),
  (267, .iload_n 2, [2], 0, []),
  (268, .ifCond .le 14, [157], 0, []),
  (271, .aload_n 0, [0], 0, []),
  (272, .getfield 24, [4, 2, 3], 0, [148]),
  (275, .iload_n 2, [2], 0, []),
  (276, .iconst 1, [], 1, []),
  (277, .isub, [], 0, []),
  (278, .iaload, [], 0, []),
  (279, .goto 4, [158], 0, []),
  (282, .iconst 0, [], 0, []),
  (283, .ireturn, [0], 0, [])]
def cd_X3_seenAt : List am_E := [
  (0, .iload_n 1, [1], 0, []),
  (1, .ifCond .lt 21, [12], 0, []),
  (4, .iload_n 1, [1], 0, []),
  (5, .aload_n 0, [0], 0, []),
  (6, .getfield 27, [5, 2, 3], 0, [149]),
  (9, .arraylength, [], 0, []),
  (10, .if_icmp .ge 12, [12], 0, []),
  (13, .aload_n 0, [0], 0, []),
  (14, .getfield 27, [5, 2, 3], 0, [149]),
  (17, .iload_n 1, [1], 0, []),
  (18, .iaload, [], 0, []),
  (19, .goto 4, [13], 0, []),
  (22, .iconst 0, [], 0, []),
  (23, .ireturn, [0], 0, [])]
def cd_X3_isRefused : List am_E := [
  (0, .iload_n 1, [1], 0, []),
  (1, .ifCond .ne 19, [10], 0, []),
  (4, .iload_n 0, [0], 0, []),
  (5, .bipush 47, [], 47, []),
  (7, .if_icmp .eq 9, [8], 0, []),
  (10, .iload_n 0, [0], 0, []),
  (11, .bipush 37, [], 37, []),
  (13, .if_icmp .ne 7, [10], 0, []),
  (16, .iconst 1, [], 1, []),
  (17, .goto 4, [11], 0, []),
  (20, .iconst 0, [], 0, []),
  (21, .ireturn, [1], 0, [])]
def cd_X3_join : List am_E := [
  (0, .iload_n 1, [1], 0, []),
  (1, .lookupswitch 125 #[(37, 91), (42, 75), (43, 67), (45, 71), (47, 79), (60, 103), (62, 114)], [44, 37, 22, 42, 10, 43, 2, 45, 6, 47, 14, 60, 30, 62, 37], 0, []),
  (68, .iload_n 0, [0], 0, []),
  (69, .iload_n 2, [2], 0, []),
  (70, .iadd, [], 0, []),
  (71, .ireturn, [0], 0, []),
  (72, .iload_n 0, [0], 0, []),
  (73, .iload_n 2, [2], 0, []),
  (74, .isub, [], 0, []),
  (75, .ireturn, [0], 0, []),
  (76, .iload_n 0, [0], 0, []),
  (77, .iload_n 2, [2], 0, []),
  (78, .imul, [], 0, []),
  (79, .ireturn, [0], 0, []),
  (80, .iload_n 2, [2], 0, []),
  (81, .ifCond .ne 7, [18], 0, []),
  (84, .iconst 0, [], 0, []),
  (85, .goto 6, [21], 0, []),
  (88, .iload_n 0, [0], 0, []),
  (89, .iload_n 2, [2], 0, []),
  (90, .idiv, [], 0, []),
  (91, .ireturn, [0], 0, []),
  (92, .iload_n 2, [2], 0, []),
  (93, .ifCond .ne 7, [26], 0, []),
  (96, .iconst 0, [], 0, []),
  (97, .goto 6, [29], 0, []),
  (100, .iload_n 0, [0], 0, []),
  (101, .iload_n 2, [2], 0, []),
  (102, .irem, [], 0, []),
  (103, .ireturn, [0], 0, []),
  (104, .iload_n 0, [0], 0, []),
  (105, .iload_n 2, [2], 0, []),
  (106, .if_icmp .ge 7, [35], 0, []),
  (109, .iconst 1, [], 1, []),
  (110, .goto 4, [36], 0, []),
  (113, .iconst 0, [], 0, []),
  (114, .ireturn, [0], 0, []),
  (115, .iload_n 0, [0], 0, []),
  (116, .iload_n 2, [2], 0, []),
  (117, .if_icmp .le 7, [42], 0, []),
  (120, .iconst 1, [], 1, []),
  (121, .goto 4, [43], 0, []),
  (124, .iconst 0, [], 0, []),
  (125, .ireturn, [0], 0, []),
  (126, .iload_n 0, [0], 0, []),
  (127, .iload_n 2, [2], 0, []),
  (128, .if_icmp .ne 7, [49], 0, []),
  (131, .iconst 1, [], 1, []),
  (132, .goto 4, [50], 0, []),
  (135, .iconst 0, [], 0, []),
  (136, .ireturn, [0], 0, [])]
def cd_X4_init : List am_E := [
  (0, .aload_n 0, [0], 0, []),
  (1, .aload_n 1, [1], 0, []),
  (2, .invokespecial 3, [3, 2, 75, 0, 0], 0, [175]),
  (5, .aload_n 0, [0], 0, []),
  (6, .new 9, [3, 8], 0, [179, 139, 94]),
  (9, .dup, [], 0, []),
  (10, .invokespecial 11, [3, 1, 34, 6, 330], 0, [180]),
  (13, .putfield 14, [5, 2, 4], 0, [181]),
  (16, .return_, [], 0, [])]
def cd_X4_readLine : List am_E := [
  (0, .iload_n 1, [1], 0, []),
  (1, .ifCond .ne 10, [5], 0, []),
  (4, .aload_n 0, [0], 0, []),
  (5, .getfield 14, [5, 2, 4], 0, [181]),
  (8, .invokevirtual 20, [1, 1, 3, 35], 0, [533, 0, 0, 535]),
  (11, .aload_n 0, [0], 0, []),
  (12, .ldc 23, [2537], 0, [537]),
  (14, .invokevirtual 25, [1, 2, 4, 77], 0, [538, 539, 540, 541]),
  (17, .ifCond .ne 8, [12], 0, []),
  (20, .aload_n 0, [0], 0, []),
  (21, .invokevirtual 29, [1, 1, 4, 80], 0, [630, 631, 632, 633]),
  (24, .ireturn, [1], 0, []),
  (25, .iload_n 1, [1], 0, []),
  (26, .bipush 16, [], 16, []),
  (28, .if_icmp .lt 13, [21], 0, []),
  (31, .aload_n 0, [0], 0, []),
  (32, .iconst 4, [], 4, []),
  (33, .aload_n 0, [0], 0, []),
  (34, .getfield 33, [3, 0, 4], 0, [191, 192]),
  (37, .invokevirtual 37, [1, 3, 4, 81], 0, [643, 644, 645, 646]),
  (40, .ireturn, [1], 0, []),
  (41, .aload_n 0, [0], 0, []),
  (42, .iconst 0, [], 0, []),
  (43, .putfield 41, [6, 0, 4], 0, [183]),
  (46, .aload_n 0, [0], 0, []),
  (47, .ldc 44, [2647], 0, [647]),
  (49, .invokevirtual 25, [1, 2, 4, 77], 0, [538, 539, 540, 541]),
  (52, .istore_n 2, [2], 0, []),
  (53, .aload_n 0, [0], 0, []),
  (54, .ldc 23, [2537], 0, [537]),
  (56, .invokevirtual 46, [1, 2, 4, 78], 0, [648, 649, 650, 651]),
  (59, .pop, [], 0, []),
  (60, .aload_n 0, [0], 0, []),
  (61, .getfield 14, [5, 2, 4], 0, [181]),
  (64, .aload_n 0, [0], 0, []),
  (65, .getfield 49, [4, 0, 4], 0, [198, 199]),
  (68, .invokevirtual 52, [1, 2, 3, 37], 0, [659, 0, 0, 661]),
  (71, .iload_n 2, [2], 0, []),
  (72, .ifCond .eq 12, [44], 0, []),
  (75, .aload_n 0, [0], 0, []),
  (76, .invokevirtual 56, [1, 1, 4, 56], 0, [663, 0, 0, 0]),
  (79, .ifCond .ne 5, [44], 0, []),
  (82, .iconst 0, [], 0, []),
  (83, .ireturn, [1], 0, []),
  (84, .aload_n 0, [0], 0, []),
  (85, .ldc 59, [2703], 0, [703]),
  (87, .invokevirtual 25, [1, 2, 4, 77], 0, [538, 539, 540, 541]),
  (90, .ifCond .ne 8, [51], 0, []),
  (93, .aload_n 0, [0], 0, []),
  (94, .invokevirtual 29, [1, 1, 4, 80], 0, [630, 631, 632, 633]),
  (97, .ireturn, [1], 0, []),
  (98, .iload_n 2, [2], 0, []),
  (99, .ifCond .eq 14, [59], 0, []),
  (102, .aload_n 0, [0], 0, []),
  (103, .getfield 14, [5, 2, 4], 0, [181]),
  (106, .bipush 59, [], 59, []),
  (108, .iconst 0, [], 0, []),
  (109, .invokevirtual 61, [1, 3, 3, 39], 0, [688, 0, 0, 690]),
  (112, .pop, [], 0, []),
  (113, .aload_n 0, [0], 0, []),
  (114, .getfield 14, [5, 2, 4], 0, [181]),
  (117, .invokevirtual 65, [1, 1, 3, 38], 0, [704, 0, 0, 706]),
  (120, .aload_n 0, [0], 0, []),
  (121, .invokevirtual 68, [1, 1, 4, 51], 0, [708, 0, 0, 5]),
  (124, .ifCond .ne 5, [67], 0, []),
  (127, .iconst 0, [], 0, []),
  (128, .ireturn, [1], 0, []),
  (129, .aload_n 0, [0], 0, []),
  (130, .getfield 14, [5, 2, 4], 0, [181]),
  (133, .bipush 59, [], 59, []),
  (135, .iconst 0, [], 0, []),
  (136, .invokevirtual 61, [1, 3, 3, 39], 0, [688, 0, 0, 690]),
  (139, .pop, [], 0, []),
  (140, .iconst 1, [], 1, []),
  (141, .ireturn, [1], 0, [])]
def cd_X4_readGroup : List am_E := [
  (0, .aload_n 0, [0], 0, []),
  (1, .invokevirtual 71, [1, 1, 4, 60], 0, [680, 0, 0, 4]),
  (4, .ifCond .eq 10, [6], 0, []),
  (7, .aload_n 0, [0], 0, []),
  (8, .invokevirtual 74, [1, 1, 4, 52], 0, [712, 0, 0, 6]),
  (11, .ifCond .ne 5, [8], 0, []),
  (14, .iconst 0, [], 0, []),
  (15, .ireturn, [1], 0, []),
  (16, .aload_n 0, [0], 0, []),
  (17, .ldc 77, [2736], 0, [736]),
  (19, .invokevirtual 46, [1, 2, 4, 78], 0, [648, 649, 650, 651]),
  (22, .ifCond .ne 8, [15], 0, []),
  (25, .aload_n 0, [0], 0, []),
  (26, .invokevirtual 29, [1, 1, 4, 80], 0, [630, 631, 632, 633]),
  (29, .ireturn, [1], 0, []),
  (30, .aload_n 0, [0], 0, []),
  (31, .dup, [], 0, []),
  (32, .getfield 41, [6, 0, 4], 0, [183]),
  (35, .iconst 1, [], 1, []),
  (36, .isub, [], 0, []),
  (37, .putfield 41, [6, 0, 4], 0, [183]),
  (40, .iconst 1, [], 1, []),
  (41, .ireturn, [1], 0, [])]
def cd_X4_readChoice : List am_E := [
  (0, .aload_n 0, [0], 0, []),
  (1, .invokevirtual 79, [1, 1, 4, 53], 0, [716, 0, 0, 7]),
  (4, .ifCond .ne 5, [5], 0, []),
  (7, .iconst 0, [], 0, []),
  (8, .ireturn, [1], 0, []),
  (9, .iconst 0, [], 0, []),
  (10, .istore_n 1, [1], 0, []),
  (11, .iload_n 1, [1], 0, []),
  (12, .sipush 240, [], 240, []),
  (15, .if_icmp .ge 46, [31], 0, []),
  (18, .aload_n 0, [0], 0, []),
  (19, .ldc 82, [2735], 0, [735]),
  (21, .invokevirtual 46, [1, 2, 4, 78], 0, [648, 649, 650, 651]),
  (24, .ifCond .eq 37, [31], 0, []),
  (27, .aload_n 0, [0], 0, []),
  (28, .getfield 14, [5, 2, 4], 0, [181]),
  (31, .bipush 124, [], 124, []),
  (33, .iconst 0, [], 0, []),
  (34, .invokevirtual 61, [1, 3, 3, 39], 0, [688, 0, 0, 690]),
  (37, .istore_n 2, [2], 0, []),
  (38, .aload_n 0, [0], 0, []),
  (39, .invokevirtual 79, [1, 1, 4, 53], 0, [716, 0, 0, 7]),
  (42, .ifCond .ne 5, [25], 0, []),
  (45, .iconst 0, [], 0, []),
  (46, .ireturn, [1], 0, []),
  (47, .aload_n 0, [0], 0, []),
  (48, .getfield 14, [5, 2, 4], 0, [181]),
  (51, .iload_n 2, [2], 0, []),
  (52, .invokevirtual 84, [1, 2, 3, 40], 0, [731, 0, 0, 733]),
  (55, .iinc 1 1, [1], 1, []),
  (58, .goto (-47), [7], 0, []),
  (61, .iconst 1, [], 1, []),
  (62, .ireturn, [1], 0, [])]
def cd_X4_readPart : List am_E := [
  (0, .aload_n 0, [0], 0, []),
  (1, .invokevirtual 87, [1, 1, 4, 54], 0, [720, 0, 0, 8]),
  (4, .ifCond .ne 5, [5], 0, []),
  (7, .iconst 0, [], 0, []),
  (8, .ireturn, [1], 0, []),
  (9, .iconst 0, [], 0, []),
  (10, .istore_n 1, [1], 0, []),
  (11, .iload_n 1, [1], 0, []),
  (12, .sipush 240, [], 240, []),
  (15, .if_icmp .ge 46, [31], 0, []),
  (18, .aload_n 0, [0], 0, []),
  (19, .ldc 90, [2730], 0, [730]),
  (21, .invokevirtual 46, [1, 2, 4, 78], 0, [648, 649, 650, 651]),
  (24, .ifCond .eq 37, [31], 0, []),
  (27, .aload_n 0, [0], 0, []),
  (28, .getfield 14, [5, 2, 4], 0, [181]),
  (31, .bipush 38, [], 38, []),
  (33, .iconst 0, [], 0, []),
  (34, .invokevirtual 61, [1, 3, 3, 39], 0, [688, 0, 0, 690]),
  (37, .istore_n 2, [2], 0, []),
  (38, .aload_n 0, [0], 0, []),
  (39, .invokevirtual 87, [1, 1, 4, 54], 0, [720, 0, 0, 8]),
  (42, .ifCond .ne 5, [25], 0, []),
  (45, .iconst 0, [], 0, []),
  (46, .ireturn, [1], 0, []),
  (47, .aload_n 0, [0], 0, []),
  (48, .getfield 14, [5, 2, 4], 0, [181]),
  (51, .iload_n 2, [2], 0, []),
  (52, .invokevirtual 84, [1, 2, 3, 40], 0, [731, 0, 0, 733]),
  (55, .iinc 1 1, [1], 1, []),
  (58, .goto (-47), [7], 0, []),
  (61, .iconst 1, [], 1, []),
  (62, .ireturn, [1], 0, [])]
def cd_X4_readTest : List am_E := [
  (0, .aload_n 0, [0], 0, []),
  (1, .ldc 59, [2703], 0, [703]),
  (3, .invokevirtual 25, [1, 2, 4, 77], 0, [538, 539, 540, 541]),
  (6, .ifCond .eq 8, [7], 0, []),
  (9, .aload_n 0, [0], 0, []),
  (10, .invokevirtual 68, [1, 1, 4, 51], 0, [708, 0, 0, 5]),
  (13, .ireturn, [1], 0, []),
  (14, .aload_n 0, [0], 0, []),
  (15, .ldc 92, [2724], 0, [724]),
  (17, .invokevirtual 25, [1, 2, 4, 77], 0, [538, 539, 540, 541]),
  (20, .ifCond .eq 8, [14], 0, []),
  (23, .aload_n 0, [0], 0, []),
  (24, .invokevirtual 94, [1, 1, 4, 55], 0, [725, 0, 0, 9]),
  (27, .ireturn, [1], 0, []),
  (28, .aload_n 0, [0], 0, []),
  (29, .invokevirtual 56, [1, 1, 4, 56], 0, [663, 0, 0, 0]),
  (32, .ifCond .ne 5, [19], 0, []),
  (35, .iconst 0, [], 0, []),
  (36, .ireturn, [1], 0, []),
  (37, .aload_n 0, [0], 0, []),
  (38, .ldc 97, [2729], 0, [729]),
  (40, .invokevirtual 46, [1, 2, 4, 78], 0, [648, 649, 650, 651]),
  (43, .ifCond .ne 8, [26], 0, []),
  (46, .aload_n 0, [0], 0, []),
  (47, .invokevirtual 29, [1, 1, 4, 80], 0, [630, 631, 632, 633]),
  (50, .ireturn, [1], 0, []),
  (51, .aload_n 0, [0], 0, []),
  (52, .getfield 49, [4, 0, 4], 0, [198, 199]),
  (55, .istore_n 1, [1], 0, []),
  (56, .aload_n 0, [0], 0, []),
  (57, .invokevirtual 56, [1, 1, 4, 56], 0, [663, 0, 0, 0]),
  (60, .ifCond .ne 5, [34], 0, []),
  (63, .iconst 0, [], 0, []),
  (64, .ireturn, [1], 0, []),
  (65, .aload_n 0, [0], 0, []),
  (66, .getfield 14, [5, 2, 4], 0, [181]),
  (69, .iload_n 1, [1], 0, []),
  (70, .iconst 0, [], 0, []),
  (71, .invokevirtual 61, [1, 3, 3, 39], 0, [688, 0, 0, 690]),
  (74, .pop, [], 0, []),
  (75, .iconst 1, [], 1, []),
  (76, .ireturn, [1], 0, [])]
def cd_X4_readNot : List am_E := [
  (0, .aload_n 0, [0], 0, []),
  (1, .invokevirtual 71, [1, 1, 4, 60], 0, [680, 0, 0, 4]),
  (4, .ifCond .eq 10, [6], 0, []),
  (7, .aload_n 0, [0], 0, []),
  (8, .invokevirtual 87, [1, 1, 4, 54], 0, [720, 0, 0, 8]),
  (11, .ifCond .ne 5, [8], 0, []),
  (14, .iconst 0, [], 0, []),
  (15, .ireturn, [1], 0, []),
  (16, .aload_n 0, [0], 0, []),
  (17, .dup, [], 0, []),
  (18, .getfield 41, [6, 0, 4], 0, [183]),
  (21, .iconst 1, [], 1, []),
  (22, .isub, [], 0, []),
  (23, .putfield 41, [6, 0, 4], 0, [183]),
  (26, .aload_n 0, [0], 0, []),
  (27, .getfield 14, [5, 2, 4], 0, [181]),
  (30, .bipush 33, [], 33, []),
  (32, .iconst 0, [], 0, []),
  (33, .invokevirtual 61, [1, 3, 3, 39], 0, [688, 0, 0, 690]),
  (36, .pop, [], 0, []),
  (37, .iconst 1, [], 1, []),
  (38, .ireturn, [1], 0, [])]
def cd_X4_readSum : List am_E := [
  (0, .aload_n 0, [0], 0, []),
  (1, .invokevirtual 99, [1, 1, 4, 57], 0, [667, 0, 0, 1]),
  (4, .ifCond .ne 5, [5], 0, []),
  (7, .iconst 0, [], 0, []),
  (8, .ireturn, [1], 0, []),
  (9, .iconst 0, [], 0, []),
  (10, .istore_n 1, [1], 0, []),
  (11, .iload_n 1, [1], 0, []),
  (12, .sipush 240, [], 240, []),
  (15, .if_icmp .ge 42, [30], 0, []),
  (18, .aload_n 0, [0], 0, []),
  (19, .ldc 102, [2702], 0, [702]),
  (21, .invokevirtual 46, [1, 2, 4, 78], 0, [648, 649, 650, 651]),
  (24, .ifCond .eq 33, [30], 0, []),
  (27, .aload_n 0, [0], 0, []),
  (28, .getfield 49, [4, 0, 4], 0, [198, 199]),
  (31, .istore_n 2, [2], 0, []),
  (32, .aload_n 0, [0], 0, []),
  (33, .invokevirtual 99, [1, 1, 4, 57], 0, [667, 0, 0, 1]),
  (36, .ifCond .ne 5, [22], 0, []),
  (39, .iconst 0, [], 0, []),
  (40, .ireturn, [1], 0, []),
  (41, .aload_n 0, [0], 0, []),
  (42, .getfield 14, [5, 2, 4], 0, [181]),
  (45, .iload_n 2, [2], 0, []),
  (46, .iconst 0, [], 0, []),
  (47, .invokevirtual 61, [1, 3, 3, 39], 0, [688, 0, 0, 690]),
  (50, .pop, [], 0, []),
  (51, .iinc 1 1, [1], 1, []),
  (54, .goto (-43), [7], 0, []),
  (57, .iconst 1, [], 1, []),
  (58, .ireturn, [1], 0, [])]
def cd_X4_readTerm : List am_E := [
  (0, .aload_n 0, [0], 0, []),
  (1, .invokevirtual 104, [1, 1, 4, 58], 0, [671, 0, 0, 2]),
  (4, .ifCond .ne 5, [5], 0, []),
  (7, .iconst 0, [], 0, []),
  (8, .ireturn, [1], 0, []),
  (9, .iconst 0, [], 0, []),
  (10, .istore_n 1, [1], 0, []),
  (11, .iload_n 1, [1], 0, []),
  (12, .sipush 240, [], 240, []),
  (15, .if_icmp .ge 42, [30], 0, []),
  (18, .aload_n 0, [0], 0, []),
  (19, .ldc 107, [2701], 0, [701]),
  (21, .invokevirtual 46, [1, 2, 4, 78], 0, [648, 649, 650, 651]),
  (24, .ifCond .eq 33, [30], 0, []),
  (27, .aload_n 0, [0], 0, []),
  (28, .getfield 49, [4, 0, 4], 0, [198, 199]),
  (31, .istore_n 2, [2], 0, []),
  (32, .aload_n 0, [0], 0, []),
  (33, .invokevirtual 104, [1, 1, 4, 58], 0, [671, 0, 0, 2]),
  (36, .ifCond .ne 5, [22], 0, []),
  (39, .iconst 0, [], 0, []),
  (40, .ireturn, [1], 0, []),
  (41, .aload_n 0, [0], 0, []),
  (42, .getfield 14, [5, 2, 4], 0, [181]),
  (45, .iload_n 2, [2], 0, []),
  (46, .iconst 0, [], 0, []),
  (47, .invokevirtual 61, [1, 3, 3, 39], 0, [688, 0, 0, 690]),
  (50, .pop, [], 0, []),
  (51, .iinc 1 1, [1], 1, []),
  (54, .goto (-43), [7], 0, []),
  (57, .iconst 1, [], 1, []),
  (58, .ireturn, [1], 0, [])]
def cd_X4_readFactor : List am_E := [
  (0, .aload_n 0, [0], 0, []),
  (1, .ldc 109, [2675], 0, [675]),
  (3, .invokevirtual 25, [1, 2, 4, 77], 0, [538, 539, 540, 541]),
  (6, .ifCond .eq 8, [7], 0, []),
  (9, .aload_n 0, [0], 0, []),
  (10, .invokevirtual 111, [1, 1, 4, 59], 0, [676, 0, 0, 3]),
  (13, .ireturn, [1], 0, []),
  (14, .aload_n 0, [0], 0, []),
  (15, .ldc 114, [2686], 0, [686]),
  (17, .invokevirtual 46, [1, 2, 4, 78], 0, [648, 649, 650, 651]),
  (20, .ifCond .eq 25, [23], 0, []),
  (23, .aload_n 0, [0], 0, []),
  (24, .getfield 14, [5, 2, 4], 0, [181]),
  (27, .bipush 64, [], 64, []),
  (29, .ldc 114, [2686], 0, [686]),
  (31, .aload_n 0, [0], 0, []),
  (32, .getfield 49, [4, 0, 4], 0, [198, 199]),
  (35, .i2c, [], 0, []),
  (36, .invokevirtual 116, [2, 5], 0, [687]),
  (39, .invokevirtual 61, [1, 3, 3, 39], 0, [688, 0, 0, 690]),
  (42, .pop, [], 0, []),
  (43, .iconst 1, [], 1, []),
  (44, .ireturn, [1], 0, []),
  (45, .aload_n 0, [0], 0, []),
  (46, .iconst 5, [], 5, []),
  (47, .invokevirtual 122, [1, 2, 4, 79], 0, [692, 693, 694, 695]),
  (50, .ifCond .ne 5, [29], 0, []),
  (53, .iconst 0, [], 0, []),
  (54, .ireturn, [1], 0, []),
  (55, .aload_n 0, [0], 0, []),
  (56, .getfield 14, [5, 2, 4], 0, [181]),
  (59, .bipush 35, [], 35, []),
  (61, .aload_n 0, [0], 0, []),
  (62, .getfield 49, [4, 0, 4], 0, [198, 199]),
  (65, .invokevirtual 61, [1, 3, 3, 39], 0, [688, 0, 0, 690]),
  (68, .pop, [], 0, []),
  (69, .iconst 1, [], 1, []),
  (70, .ireturn, [1], 0, [])]
def cd_X4_readBracket : List am_E := [
  (0, .aload_n 0, [0], 0, []),
  (1, .invokevirtual 71, [1, 1, 4, 60], 0, [680, 0, 0, 4]),
  (4, .ifCond .eq 10, [6], 0, []),
  (7, .aload_n 0, [0], 0, []),
  (8, .invokevirtual 56, [1, 1, 4, 56], 0, [663, 0, 0, 0]),
  (11, .ifCond .ne 5, [8], 0, []),
  (14, .iconst 0, [], 0, []),
  (15, .ireturn, [1], 0, []),
  (16, .aload_n 0, [0], 0, []),
  (17, .ldc 126, [2685], 0, [685]),
  (19, .invokevirtual 46, [1, 2, 4, 78], 0, [648, 649, 650, 651]),
  (22, .ifCond .ne 8, [15], 0, []),
  (25, .aload_n 0, [0], 0, []),
  (26, .invokevirtual 29, [1, 1, 4, 80], 0, [630, 631, 632, 633]),
  (29, .ireturn, [1], 0, []),
  (30, .aload_n 0, [0], 0, []),
  (31, .dup, [], 0, []),
  (32, .getfield 41, [6, 0, 4], 0, [183]),
  (35, .iconst 1, [], 1, []),
  (36, .isub, [], 0, []),
  (37, .putfield 41, [6, 0, 4], 0, [183]),
  (40, .iconst 1, [], 1, []),
  (41, .ireturn, [1], 0, [])]
def cd_X4_opens : List am_E := [
  (0, .aload_n 0, [0], 0, []),
  (1, .getfield 41, [6, 0, 4], 0, [183]),
  (4, .bipush 6, [], 6, []),
  (6, .if_icmp .lt 13, [10], 0, []),
  (9, .aload_n 0, [0], 0, []),
  (10, .iconst 5, [], 5, []),
  (11, .aload_n 0, [0], 0, []),
  (12, .getfield 33, [3, 0, 4], 0, [191, 192]),
  (15, .invokevirtual 37, [1, 3, 4, 81], 0, [643, 644, 645, 646]),
  (18, .ireturn, [1], 0, []),
  (19, .aload_n 0, [0], 0, []),
  (20, .dup, [], 0, []),
  (21, .getfield 41, [6, 0, 4], 0, [183]),
  (24, .iconst 1, [], 1, []),
  (25, .iadd, [], 0, []),
  (26, .putfield 41, [6, 0, 4], 0, [183]),
  (29, .aload_n 0, [0], 0, []),
  (30, .ldc 128, [2684], 0, [684]),
  (32, .invokevirtual 46, [1, 2, 4, 78], 0, [648, 649, 650, 651]),
  (35, .ireturn, [1], 0, [])]
def cd_X5_init : List am_E := [
  (0, .aload_n 0, [0], 0, []),
  (1, .invokespecial 1, [2, 0], 0, [294]),
  (4, .aload_n 0, [0], 0, []),
  (5, .new 7, [1, 11], 0, [295, 296, 101]),
  (8, .dup, [], 0, []),
  (9, .invokespecial 9, [3, 1, 16, 0, 0], 0, [297]),
  (12, .putfield 10, [0, 2, 5], 0, [350]),
  (15, .aload_n 0, [0], 0, []),
  (16, .new 7, [1, 11], 0, [295, 296, 101]),
  (19, .dup, [], 0, []),
  (20, .invokespecial 9, [3, 1, 16, 0, 0], 0, [297]),
  (23, .putfield 16, [1, 2, 5], 0, [352]),
  (26, .aload_n 0, [0], 0, []),
  (27, .iconst 1, [], 1, []),
  (28, .putfield 19, [3, 0, 5], 0, [356]),
  (31, .return_, [], 0, [])]
def cd_X5_kingOf : List am_E := [
  (0, .iload_n 1, [1], 0, []),
  (1, .iconst 1, [], 1, []),
  (2, .if_icmp .ne 10, [6], 0, []),
  (5, .aload_n 0, [0], 0, []),
  (6, .getfield 16, [1, 2, 5], 0, [352]),
  (9, .goto 7, [8], 0, []),
  (12, .aload_n 0, [0], 0, []),
  (13, .getfield 10, [0, 2, 5], 0, [350]),
  (16, .areturn, [], 0, [])]
def cd_X5_become : List am_E := [
  (0, .aload_n 0, [0], 0, []),
  (1, .getfield 10, [0, 2, 5], 0, [350]),
  (4, .aload_n 1, [1], 0, []),
  (5, .getfield 10, [0, 2, 5], 0, [350]),
  (8, .invokevirtual 23, [1, 2, 1, 18], 0, [934, 0, 0, 936]),
  (11, .aload_n 0, [0], 0, []),
  (12, .getfield 16, [1, 2, 5], 0, [352]),
  (15, .aload_n 1, [1], 0, []),
  (16, .getfield 16, [1, 2, 5], 0, [352]),
  (19, .invokevirtual 23, [1, 2, 1, 18], 0, [934, 0, 0, 936]),
  (22, .aload_n 0, [0], 0, []),
  (23, .aload_n 1, [1], 0, []),
  (24, .getfield 27, [2, 0, 5], 0, [354]),
  (27, .putfield 27, [2, 0, 5], 0, [354]),
  (30, .aload_n 0, [0], 0, []),
  (31, .aload_n 1, [1], 0, []),
  (32, .getfield 19, [3, 0, 5], 0, [356]),
  (35, .putfield 19, [3, 0, 5], 0, [356]),
  (38, .return_, [], 0, [])]
def cd_X5_whoArrived : List am_E := [
  (0, .aload_n 0, [0], 0, []),
  (1, .getfield 10, [0, 2, 5], 0, [350]),
  (4, .getfield 30, [0, 0, 1], 0, [302]),
  (7, .ifCond .ne 7, [6], 0, []),
  (10, .iconst 1, [], 1, []),
  (11, .goto 4, [7], 0, []),
  (14, .iconst 0, [], 0, []),
  (15, .aload_n 0, [0], 0, []),
  (16, .getfield 16, [1, 2, 5], 0, [352]),
  (19, .getfield 30, [0, 0, 1], 0, [302]),
  (22, .ifCond .ne 7, [13], 0, []),
  (25, .iconst 2, [], 2, []),
  (26, .goto 4, [14], 0, []),
  (29, .iconst 0, [], 0, []),
  (30, .iadd, [], 0, []),
  (31, .ireturn, [0], 0, [])]
def cd_X5_haveMet : List am_E := [
  (0, .aload_n 0, [0], 0, []),
  (1, .invokevirtual 33, [1, 1, 5, 64], 0, [867, 0, 0, 869]),
  (4, .iconst 3, [], 3, []),
  (5, .if_icmp .ne 7, [6], 0, []),
  (8, .iconst 1, [], 1, []),
  (9, .goto 4, [7], 0, []),
  (12, .iconst 0, [], 0, []),
  (13, .ireturn, [1], 0, [])]
def cd_X5_whoLeft : List am_E := [
  (0, .aload_n 0, [0], 0, []),
  (1, .getfield 10, [0, 2, 5], 0, [350]),
  (4, .getfield 37, [5, 0, 1], 0, [319]),
  (7, .ifCond .eq 7, [6], 0, []),
  (10, .iconst 1, [], 1, []),
  (11, .goto 4, [7], 0, []),
  (14, .iconst 0, [], 0, []),
  (15, .aload_n 0, [0], 0, []),
  (16, .getfield 16, [1, 2, 5], 0, [352]),
  (19, .getfield 37, [5, 0, 1], 0, [319]),
  (22, .ifCond .eq 7, [13], 0, []),
  (25, .iconst 2, [], 2, []),
  (26, .goto 4, [14], 0, []),
  (29, .iconst 0, [], 0, []),
  (30, .iadd, [], 0, []),
  (31, .ireturn, [0], 0, [])]
def cd_X5_lead : List am_E := [
  (0, .aload_n 0, [0], 0, []),
  (1, .getfield 16, [1, 2, 5], 0, [352]),
  (4, .getfield 30, [0, 0, 1], 0, [302]),
  (7, .aload_n 0, [0], 0, []),
  (8, .getfield 10, [0, 2, 5], 0, [350]),
  (11, .getfield 30, [0, 0, 1], 0, [302]),
  (14, .isub, [], 0, []),
  (15, .ireturn, [0], 0, [])]
def cd_X5_whoIsNearer : List am_E := [
  (0, .aload_n 0, [0], 0, []),
  (1, .invokevirtual 41, [1, 1, 5, 67], 0, [979, 0, 0, 965]),
  (4, .ifCond .ne 5, [5], 0, []),
  (7, .iconst 2, [], 2, []),
  (8, .ireturn, [0], 0, []),
  (9, .aload_n 0, [0], 0, []),
  (10, .invokevirtual 41, [1, 1, 5, 67], 0, [979, 0, 0, 965]),
  (13, .ifCond .le 7, [10], 0, []),
  (16, .iconst 0, [], 0, []),
  (17, .goto 4, [11], 0, []),
  (20, .iconst 1, [], 1, []),
  (21, .ireturn, [0], 0, [])]
def cd_X5_breathe : List am_E := [
  (0, .aload_n 0, [0], 0, []),
  (1, .invokevirtual 44, [1, 1, 5, 65], 0, [863, 0, 0, 865]),
  (4, .ifCond .ne 20, [10], 0, []),
  (7, .aload_n 0, [0], 0, []),
  (8, .invokevirtual 48, [1, 1, 5, 66], 0, [871, 0, 0, 873]),
  (11, .ifCond .ne 13, [10], 0, []),
  (14, .aload_n 0, [0], 0, []),
  (15, .getfield 27, [2, 0, 5], 0, [354]),
  (18, .sipush 9999, [], 9999, []),
  (21, .if_icmp .lt 5, [12], 0, []),
  (24, .iconst 0, [], 0, []),
  (25, .ireturn, [1], 0, []),
  (26, .aload_n 1, [1], 0, []),
  (27, .iconst 0, [], 0, []),
  (28, .aload_n 0, [0], 0, []),
  (29, .getfield 10, [0, 2, 5], 0, [350]),
  (32, .aload_n 0, [0], 0, []),
  (33, .getfield 16, [1, 2, 5], 0, [352]),
  (36, .aload_n 0, [0], 0, []),
  (37, .getfield 27, [2, 0, 5], 0, [354]),
  (40, .aload_n 0, [0], 0, []),
  (41, .invokevirtual 51, [1, 1, 5, 70], 0, [875, 0, 0, 18]),
  (44, .invokevirtual 54, [1, 6, 3, 41], 0, [880, 0, 0, 882]),
  (47, .aload_n 0, [0], 0, []),
  (48, .getfield 10, [0, 2, 5], 0, [350]),
  (51, .aload_n 1, [1], 0, []),
  (52, .invokevirtual 60, [1, 2, 1, 19], 0, [884, 0, 0, 886]),
  (55, .aload_n 1, [1], 0, []),
  (56, .iconst 1, [], 1, []),
  (57, .aload_n 0, [0], 0, []),
  (58, .getfield 16, [1, 2, 5], 0, [352]),
  (61, .aload_n 0, [0], 0, []),
  (62, .getfield 10, [0, 2, 5], 0, [350]),
  (65, .aload_n 0, [0], 0, []),
  (66, .getfield 27, [2, 0, 5], 0, [354]),
  (69, .aload_n 0, [0], 0, []),
  (70, .invokevirtual 51, [1, 1, 5, 70], 0, [875, 0, 0, 18]),
  (73, .invokevirtual 54, [1, 6, 3, 41], 0, [880, 0, 0, 882]),
  (76, .aload_n 0, [0], 0, []),
  (77, .getfield 16, [1, 2, 5], 0, [352]),
  (80, .aload_n 1, [1], 0, []),
  (81, .invokevirtual 60, [1, 2, 1, 19], 0, [884, 0, 0, 886]),
  (84, .aload_n 0, [0], 0, []),
  (85, .getfield 10, [0, 2, 5], 0, [350]),
  (88, .invokevirtual 64, [1, 1, 1, 22], 0, [916, 0, 0, 918]),
  (91, .aload_n 0, [0], 0, []),
  (92, .getfield 16, [1, 2, 5], 0, [352]),
  (95, .invokevirtual 64, [1, 1, 1, 22], 0, [916, 0, 0, 918]),
  (98, .aload_n 0, [0], 0, []),
  (99, .getfield 10, [0, 2, 5], 0, [350]),
  (102, .aload_n 0, [0], 0, []),
  (103, .getfield 16, [1, 2, 5], 0, [352]),
  (106, .iload_n 2, [2], 0, []),
  (107, .iload_n 3, [3], 0, []),
  (108, .invokevirtual 67, [1, 4, 1, 23], 0, [922, 0, 0, 924]),
  (111, .aload_n 0, [0], 0, []),
  (112, .getfield 16, [1, 2, 5], 0, [352]),
  (115, .aload_n 0, [0], 0, []),
  (116, .getfield 10, [0, 2, 5], 0, [350]),
  (119, .iload_n 2, [2], 0, []),
  (120, .iload_n 3, [3], 0, []),
  (121, .invokevirtual 67, [1, 4, 1, 23], 0, [922, 0, 0, 924]),
  (124, .aload_n 0, [0], 0, []),
  (125, .getfield 10, [0, 2, 5], 0, [350]),
  (128, .aload_n 0, [0], 0, []),
  (129, .getfield 10, [0, 2, 5], 0, [350]),
  (132, .getfield 71, [10, 0, 1], 0, [326]),
  (135, .putfield 37, [5, 1, 1], 0, [319]),
  (138, .aload_n 0, [0], 0, []),
  (139, .getfield 16, [1, 2, 5], 0, [352]),
  (142, .aload_n 0, [0], 0, []),
  (143, .getfield 16, [1, 2, 5], 0, [352]),
  (146, .getfield 71, [10, 0, 1], 0, [326]),
  (149, .putfield 37, [5, 1, 1], 0, [319]),
  (152, .aload_n 0, [0], 0, []),
  (153, .dup, [], 0, []),
  (154, .getfield 27, [2, 0, 5], 0, [354]),
  (157, .iconst 1, [], 1, []),
  (158, .iadd, [], 0, []),
  (159, .putfield 27, [2, 0, 5], 0, [354]),
  (162, .iconst 1, [], 1, []),
  (163, .ireturn, [1], 0, [])]
def cd_X5_draw : List am_E := [
  (0, .aload_n 0, [0], 0, []),
  (1, .sipush 25173, [], 25173, []),
  (4, .aload_n 0, [0], 0, []),
  (5, .getfield 19, [3, 0, 5], 0, [356]),
  (8, .imul, [], 0, []),
  (9, .sipush 13849, [], 13849, []),
  (12, .iadd, [], 0, []),
  (13, .ldc 74, [], 65535, [879]),
  (15, .iand, [], 0, []),
  (16, .putfield 19, [3, 0, 5], 0, [356]),
  (19, .aload_n 0, [0], 0, []),
  (20, .getfield 19, [3, 0, 5], 0, [356]),
  (23, .bipush 10, [], 10, []),
  (25, .irem, [], 0, []),
  (26, .ireturn, [0], 0, [])]
def cd_X6_init : List am_E := [
  (0, .aload_n 0, [0], 0, []),
  (1, .aload_n 1, [1], 0, []),
  (2, .invokespecial 1, [3, 2, 75, 0, 0], 0, [221]),
  (5, .aload_n 0, [0], 0, []),
  (6, .bipush 20, [], 20, []),
  (8, .newarray .int, [100, 20], 20, [137]),
  (10, .putfield 9, [5, 2, 6], 0, [222]),
  (13, .aload_n 0, [0], 0, []),
  (14, .bipush 20, [], 20, []),
  (16, .newarray .int, [100, 20], 20, [137]),
  (18, .putfield 13, [6, 2, 6], 0, [223]),
  (21, .aload_n 0, [0], 0, []),
  (22, .bipush 20, [], 20, []),
  (24, .newarray .int, [100, 20], 20, [137]),
  (26, .putfield 16, [7, 2, 6], 0, [224]),
  (29, .return_, [], 0, [])]
def cd_X6_readLine : List am_E := [
  (0, .aload_n 0, [0], 0, []),
  (1, .ldc 19, [2740], 0, [740]),
  (3, .invokevirtual 21, [1, 2, 6, 77], 0, [741, 742, 540, 743]),
  (6, .ifCond .ne 8, [7], 0, []),
  (9, .aload_n 0, [0], 0, []),
  (10, .invokevirtual 25, [1, 1, 6, 80], 0, [744, 745, 632, 746]),
  (13, .ireturn, [1], 0, []),
  (14, .iload_n 1, [1], 0, []),
  (15, .bipush 20, [], 20, []),
  (17, .if_icmp .lt 13, [16], 0, []),
  (20, .aload_n 0, [0], 0, []),
  (21, .iconst 4, [], 4, []),
  (22, .aload_n 0, [0], 0, []),
  (23, .getfield 29, [3, 0, 6], 0, [187, 188]),
  (26, .invokevirtual 33, [1, 3, 6, 81], 0, [747, 748, 645, 749]),
  (29, .ireturn, [1], 0, []),
  (30, .aload_n 0, [0], 0, []),
  (31, .ldc 19, [2740], 0, [740]),
  (33, .invokevirtual 37, [1, 2, 6, 78], 0, [750, 751, 650, 752]),
  (36, .pop, [], 0, []),
  (37, .aload_n 0, [0], 0, []),
  (38, .getfield 9, [5, 2, 6], 0, [222]),
  (41, .iload_n 1, [1], 0, []),
  (42, .aload_n 0, [0], 0, []),
  (43, .getfield 40, [4, 0, 6], 0, [194, 195]),
  (46, .iastore, [], 0, []),
  (47, .aload_n 0, [0], 0, []),
  (48, .ldc 43, [2753], 0, [753]),
  (50, .invokevirtual 37, [1, 2, 6, 78], 0, [750, 751, 650, 752]),
  (53, .ifCond .ne 8, [33], 0, []),
  (56, .aload_n 0, [0], 0, []),
  (57, .invokevirtual 25, [1, 1, 6, 80], 0, [744, 745, 632, 746]),
  (60, .ireturn, [1], 0, []),
  (61, .aload_n 0, [0], 0, []),
  (62, .getfield 13, [6, 2, 6], 0, [223]),
  (65, .iload_n 1, [1], 0, []),
  (66, .aload_n 0, [0], 0, []),
  (67, .getfield 40, [4, 0, 6], 0, [194, 195]),
  (70, .iastore, [], 0, []),
  (71, .aload_n 0, [0], 0, []),
  (72, .getfield 13, [6, 2, 6], 0, [223]),
  (75, .iload_n 1, [1], 0, []),
  (76, .iaload, [], 0, []),
  (77, .bipush 104, [], 104, []),
  (79, .if_icmp .eq 14, [51], 0, []),
  (82, .aload_n 0, [0], 0, []),
  (83, .getfield 13, [6, 2, 6], 0, [223]),
  (86, .iload_n 1, [1], 0, []),
  (87, .iaload, [], 0, []),
  (88, .bipush 111, [], 111, []),
  (90, .if_icmp .ne 5, [53], 0, []),
  (93, .iconst 1, [], 1, []),
  (94, .ireturn, [1], 0, []),
  (95, .aload_n 0, [0], 0, []),
  (96, .getfield 29, [3, 0, 6], 0, [187, 188]),
  (99, .istore_n 2, [2], 0, []),
  (100, .aload_n 0, [0], 0, []),
  (101, .iconst 3, [], 3, []),
  (102, .invokevirtual 45, [1, 2, 6, 79], 0, [754, 755, 694, 756]),
  (105, .ifCond .ne 5, [62], 0, []),
  (108, .iconst 0, [], 0, []),
  (109, .ireturn, [1], 0, []),
  (110, .aload_n 0, [0], 0, []),
  (111, .getfield 16, [7, 2, 6], 0, [224]),
  (114, .iload_n 1, [1], 0, []),
  (115, .aload_n 0, [0], 0, []),
  (116, .getfield 40, [4, 0, 6], 0, [194, 195]),
  (119, .iastore, [], 0, []),
  (120, .aload_n 0, [0], 0, []),
  (121, .getfield 13, [6, 2, 6], 0, [223]),
  (124, .iload_n 1, [1], 0, []),
  (125, .iaload, [], 0, []),
  (126, .bipush 98, [], 98, []),
  (128, .if_icmp .ne 19, [83], 0, []),
  (131, .aload_n 0, [0], 0, []),
  (132, .getfield 40, [4, 0, 6], 0, [194, 195]),
  (135, .bipush 90, [], 90, []),
  (137, .if_icmp .le 10, [83], 0, []),
  (140, .aload_n 0, [0], 0, []),
  (141, .iconst 3, [], 3, []),
  (142, .iload_n 2, [2], 0, []),
  (143, .invokevirtual 33, [1, 3, 6, 81], 0, [747, 748, 645, 749]),
  (146, .ireturn, [1], 0, []),
  (147, .iconst 1, [], 1, []),
  (148, .ireturn, [1], 0, [])]
def cd_X6_obey : List am_E := [
  (0, .iconst 0, [], 0, []),
  (1, .istore_n 3, [3], 0, []),
  (2, .iload_n 3, [3], 0, []),
  (3, .iload_n 2, [2], 0, []),
  (4, .if_icmp .ge 55, [32], 0, []),
  (7, .iload_n 3, [3], 0, []),
  (8, .bipush 20, [], 20, []),
  (10, .if_icmp .ge 49, [32], 0, []),
  (13, .aload_n 0, [0], 0, []),
  (14, .getfield 9, [5, 2, 6], 0, [222]),
  (17, .iload_n 3, [3], 0, []),
  (18, .iaload, [], 0, []),
  (19, .bipush 49, [], 49, []),
  (21, .if_icmp .eq 12, [19], 0, []),
  (24, .aload_n 0, [0], 0, []),
  (25, .iload_n 3, [3], 0, []),
  (26, .aload_n 1, [1], 0, []),
  (27, .getfield 51, [0, 2, 5], 0, [351]),
  (30, .invokevirtual 57, [1, 3, 6, 74], 0, [798, 0, 0, 10]),
  (33, .aload_n 0, [0], 0, []),
  (34, .getfield 9, [5, 2, 6], 0, [222]),
  (37, .iload_n 3, [3], 0, []),
  (38, .iaload, [], 0, []),
  (39, .bipush 48, [], 48, []),
  (41, .if_icmp .eq 12, [30], 0, []),
  (44, .aload_n 0, [0], 0, []),
  (45, .iload_n 3, [3], 0, []),
  (46, .aload_n 1, [1], 0, []),
  (47, .getfield 61, [1, 2, 5], 0, [353]),
  (50, .invokevirtual 57, [1, 3, 6, 74], 0, [798, 0, 0, 10]),
  (53, .iinc 3 1, [3], 1, []),
  (56, .goto (-54), [2], 0, []),
  (59, .return_, [], 0, [])]
def cd_X6_obeyLine : List am_E := [
  (0, .aload_n 0, [0], 0, []),
  (1, .getfield 13, [6, 2, 6], 0, [223]),
  (4, .iload_n 1, [1], 0, []),
  (5, .iaload, [], 0, []),
  (6, .lookupswitch 84 #[(98, 55), (102, 42), (104, 68), (111, 76)], [27, 98, 12, 102, 5, 104, 19, 111, 23], 0, []),
  (48, .aload_n 2, [2], 0, []),
  (49, .aload_n 0, [0], 0, []),
  (50, .getfield 16, [7, 2, 6], 0, [224]),
  (53, .iload_n 1, [1], 0, []),
  (54, .iaload, [], 0, []),
  (55, .invokevirtual 64, [1, 2, 1, 20], 0, [802, 0, 0, 804]),
  (58, .goto 42, [33], 0, []),
  (61, .aload_n 2, [2], 0, []),
  (62, .aload_n 0, [0], 0, []),
  (63, .getfield 16, [7, 2, 6], 0, [224]),
  (66, .iload_n 1, [1], 0, []),
  (67, .iaload, [], 0, []),
  (68, .putfield 68, [1, 0, 1], 0, [306]),
  (71, .goto 29, [33], 0, []),
  (74, .aload_n 2, [2], 0, []),
  (75, .iconst 1, [], 1, []),
  (76, .putfield 71, [3, 1, 1], 0, [313]),
  (79, .goto 21, [33], 0, []),
  (82, .aload_n 2, [2], 0, []),
  (83, .iconst 0, [], 0, []),
  (84, .putfield 71, [3, 1, 1], 0, [313]),
  (87, .goto 13, [33], 0, []),
  (90, .aload_n 2, [2], 0, []),
  (91, .aload_n 0, [0], 0, []),
  (92, .getfield 16, [7, 2, 6], 0, [224]),
  (95, .iload_n 1, [1], 0, []),
  (96, .iaload, [], 0, []),
  (97, .invokevirtual 75, [1, 2, 1, 21], 0, [807, 0, 0, 809]),
  (100, .return_, [], 0, [])]
def cd_X7_init : List am_E := [
  (0, .aload_n 0, [0], 0, []),
  (1, .invokespecial 3, [2, 0], 0, [178]),
  (4, .aload_n 0, [0], 0, []),
  (5, .aload_n 1, [1], 0, []),
  (6, .putfield 9, [0, 2, 4, 6, 9], 0, [184]),
  (9, .return_, [], 0, [])]
def cd_X7_readText : List am_E := [
  (0, .aload_n 0, [0], 0, []),
  (1, .iconst 0, [], 0, []),
  (2, .putfield 15, [3, 0, 4, 6, 9], 0, [193]),
  (5, .aload_n 0, [0], 0, []),
  (6, .iload_n 1, [1], 0, []),
  (7, .putfield 19, [1, 0, 4, 6, 9], 0, [185]),
  (10, .aload_n 0, [0], 0, []),
  (11, .iconst 0, [], 0, []),
  (12, .putfield 22, [2, 0, 4, 6, 9], 0, [186]),
  (15, .iconst 0, [], 0, []),
  (16, .istore_n 2, [2], 0, []),
  (17, .iload_n 2, [2], 0, []),
  (18, .iload_n 1, [1], 0, []),
  (19, .if_icmp .ge 56, [42], 0, []),
  (22, .aload_n 0, [0], 0, []),
  (23, .iload_n 2, [2], 0, []),
  (24, .invokevirtual 25, [1, 2, 4, 50, 6, 72, 9, 101], 0, [527, 529, 528, 530, 737, 757]),
  (27, .ifCond .ne 8, [21], 0, []),
  (30, .aload_n 0, [0], 0, []),
  (31, .getfield 22, [2, 0, 4, 6, 9], 0, [186]),
  (34, .ireturn, [0], 0, []),
  (35, .aload_n 0, [0], 0, []),
  (36, .getfield 15, [3, 0, 4, 6, 9], 0, [193]),
  (39, .aload_n 0, [0], 0, []),
  (40, .getfield 19, [1, 0, 4, 6, 9], 0, [185]),
  (43, .if_icmp .lt 7, [30], 0, []),
  (46, .iload_n 2, [2], 0, []),
  (47, .iconst 1, [], 1, []),
  (48, .iadd, [], 0, []),
  (49, .ireturn, [0], 0, []),
  (50, .aload_n 0, [0], 0, []),
  (51, .ldc 29, [2774], 0, [774]),
  (53, .invokevirtual 31, [1, 2, 4, 78, 6, 78, 9, 78], 0, [699, 1771, 650, 1772, 1773, 1774]),
  (56, .ifCond .ne 13, [40], 0, []),
  (59, .aload_n 0, [0], 0, []),
  (60, .invokevirtual 35, [1, 1, 4, 80, 6, 80, 9, 80], 0, [700, 1775, 632, 1776, 1777, 1778]),
  (63, .pop, [], 0, []),
  (64, .aload_n 0, [0], 0, []),
  (65, .getfield 22, [2, 0, 4, 6, 9], 0, [186]),
  (68, .ireturn, [0], 0, []),
  (69, .iinc 2 1, [2], 1, []),
  (72, .goto (-55), [11], 0, []),
  (75, .aload_n 0, [0], 0, []),
  (76, .invokevirtual 35, [1, 1, 4, 80, 6, 80, 9, 80], 0, [700, 1775, 632, 1776, 1777, 1778]),
  (79, .pop, [], 0, []),
  (80, .aload_n 0, [0], 0, []),
  (81, .getfield 22, [2, 0, 4, 6, 9], 0, [186]),
  (84, .ireturn, [0], 0, [])]
def cd_X7_isOn : List am_E := [
  (0, .aload_n 0, [0], 0, []),
  (1, .getfield 15, [3, 0, 4, 6, 9], 0, [193]),
  (4, .aload_n 0, [0], 0, []),
  (5, .getfield 19, [1, 0, 4, 6, 9], 0, [185]),
  (8, .if_icmp .ge 37, [21], 0, []),
  (11, .aload_n 0, [0], 0, []),
  (12, .getfield 15, [3, 0, 4, 6, 9], 0, [193]),
  (15, .sipush 260, [], 260, []),
  (18, .if_icmp .ge 27, [21], 0, []),
  (21, .aload_n 1, [1], 0, []),
  (22, .aload_n 0, [0], 0, []),
  (23, .getfield 9, [0, 2, 4, 6, 9], 0, [184]),
  (26, .getfield 41, [0, 2, 7], 0, [129]),
  (29, .aload_n 0, [0], 0, []),
  (30, .getfield 15, [3, 0, 4, 6, 9], 0, [193]),
  (33, .iaload, [], 0, []),
  (34, .i2c, [], 0, []),
  (35, .invokevirtual 45, [2, 5], 0, [544]),
  (38, .ifCond .lt 7, [21], 0, []),
  (41, .iconst 1, [], 1, []),
  (42, .goto 4, [22], 0, []),
  (45, .iconst 0, [], 0, []),
  (46, .ireturn, [1], 0, [])]
def cd_X7_takes : List am_E := [
  (0, .aload_n 0, [0], 0, []),
  (1, .aload_n 1, [1], 0, []),
  (2, .invokevirtual 51, [1, 2, 4, 77, 6, 77, 9, 77], 0, [654, 1767, 540, 1768, 1769, 1770]),
  (5, .ifCond .ne 5, [6], 0, []),
  (8, .iconst 0, [], 0, []),
  (9, .ireturn, [1], 0, []),
  (10, .aload_n 0, [0], 0, []),
  (11, .aload_n 0, [0], 0, []),
  (12, .getfield 9, [0, 2, 4, 6, 9], 0, [184]),
  (15, .aload_n 0, [0], 0, []),
  (16, .getfield 15, [3, 0, 4, 6, 9], 0, [193]),
  (19, .invokevirtual 54, [1, 2, 7, 85], 0, [655, 0, 0, 657]),
  (22, .putfield 57, [4, 0, 4, 6, 9], 0, [200]),
  (25, .aload_n 0, [0], 0, []),
  (26, .dup, [], 0, []),
  (27, .getfield 15, [3, 0, 4, 6, 9], 0, [193]),
  (30, .iconst 1, [], 1, []),
  (31, .iadd, [], 0, []),
  (32, .putfield 15, [3, 0, 4, 6, 9], 0, [193]),
  (35, .iconst 1, [], 1, []),
  (36, .ireturn, [1], 0, [])]
def cd_X7_readNumber : List am_E := [
  (0, .iconst 0, [], 0, []),
  (1, .istore_n 2, [2], 0, []),
  (2, .iconst 0, [], 0, []),
  (3, .istore_n 3, [3], 0, []),
  (4, .iload_n 3, [3], 0, []),
  (5, .iload_n 1, [1], 0, []),
  (6, .if_icmp .ge 31, [22], 0, []),
  (9, .aload_n 0, [0], 0, []),
  (10, .ldc 60, [2698], 0, [698]),
  (12, .invokevirtual 31, [1, 2, 4, 78, 6, 78, 9, 78], 0, [699, 1771, 650, 1772, 1773, 1774]),
  (15, .ifCond .eq 22, [22], 0, []),
  (18, .iload_n 2, [2], 0, []),
  (19, .bipush 10, [], 10, []),
  (21, .imul, [], 0, []),
  (22, .aload_n 0, [0], 0, []),
  (23, .getfield 57, [4, 0, 4, 6, 9], 0, [200]),
  (26, .iadd, [], 0, []),
  (27, .bipush 48, [], 48, []),
  (29, .isub, [], 0, []),
  (30, .istore_n 2, [2], 0, []),
  (31, .iinc 3 1, [3], 1, []),
  (34, .goto (-30), [4], 0, []),
  (37, .iload_n 3, [3], 0, []),
  (38, .ifCond .ne 8, [27], 0, []),
  (41, .aload_n 0, [0], 0, []),
  (42, .invokevirtual 35, [1, 1, 4, 80, 6, 80, 9, 80], 0, [700, 1775, 632, 1776, 1777, 1778]),
  (45, .ireturn, [1], 0, []),
  (46, .aload_n 0, [0], 0, []),
  (47, .ldc 60, [2698], 0, [698]),
  (49, .invokevirtual 51, [1, 2, 4, 77, 6, 77, 9, 77], 0, [654, 1767, 540, 1768, 1769, 1770]),
  (52, .ifCond .eq 13, [37], 0, []),
  (55, .aload_n 0, [0], 0, []),
  (56, .iconst 2, [], 2, []),
  (57, .aload_n 0, [0], 0, []),
  (58, .getfield 15, [3, 0, 4, 6, 9], 0, [193]),
  (61, .invokevirtual 62, [1, 3, 4, 81, 6, 81, 9, 81], 0, [636, 638, 645, 639, 640, 641]),
  (64, .ireturn, [1], 0, []),
  (65, .aload_n 0, [0], 0, []),
  (66, .iload_n 2, [2], 0, []),
  (67, .putfield 57, [4, 0, 4, 6, 9], 0, [200]),
  (70, .iconst 1, [], 1, []),
  (71, .ireturn, [1], 0, [])]
def cd_X7_cannotStand : List am_E := [
  (0, .aload_n 0, [0], 0, []),
  (1, .iconst 1, [], 1, []),
  (2, .aload_n 0, [0], 0, []),
  (3, .getfield 15, [3, 0, 4, 6, 9], 0, [193]),
  (6, .invokevirtual 62, [1, 3, 4, 81, 6, 81, 9, 81], 0, [636, 638, 645, 639, 640, 641]),
  (9, .ireturn, [1], 0, [])]
def cd_X7_fails : List am_E := [
  (0, .aload_n 0, [0], 0, []),
  (1, .sipush (-1000), [], (-1000), []),
  (4, .iload_n 1, [1], 0, []),
  (5, .imul, [], 0, []),
  (6, .iload_n 2, [2], 0, []),
  (7, .isub, [], 0, []),
  (8, .putfield 22, [2, 0, 4, 6, 9], 0, [186]),
  (11, .iconst 0, [], 0, []),
  (12, .ireturn, [1], 0, [])]
def cd_X8_init : List am_E := [
  (0, .aload_n 0, [0], 0, []),
  (1, .invokespecial 3, [2, 0], 0, [127]),
  (4, .aload_n 0, [0], 0, []),
  (5, .sipush 260, [], 260, []),
  (8, .newarray .int, [100, 260], 260, [137]),
  (10, .putfield 11, [0, 2, 7], 0, [128]),
  (13, .return_, [], 0, [])]
def cd_X8_has : List am_E := [
  (0, .iload_n 1, [1], 0, []),
  (1, .aload_n 0, [0], 0, []),
  (2, .getfield 15, [1, 0, 7], 0, [130]),
  (5, .if_icmp .gt 7, [6], 0, []),
  (8, .iconst 1, [], 1, []),
  (9, .goto 4, [7], 0, []),
  (12, .iconst 0, [], 0, []),
  (13, .ireturn, [1], 0, [])]
def cd_X8_append : List am_E := [
  (0, .bipush 24, [], 24, []),
  (2, .istore_n 2, [2], 0, []),
  (3, .iload_n 2, [2], 0, []),
  (4, .ifCond .lt 45, [26], 0, []),
  (7, .aload_n 0, [0], 0, []),
  (8, .getfield 15, [1, 0, 7], 0, [130]),
  (11, .sipush 260, [], 260, []),
  (14, .if_icmp .ge 35, [26], 0, []),
  (17, .aload_n 0, [0], 0, []),
  (18, .getfield 11, [0, 2, 7], 0, [128]),
  (21, .aload_n 0, [0], 0, []),
  (22, .getfield 15, [1, 0, 7], 0, [130]),
  (25, .iload_n 1, [1], 0, []),
  (26, .iload_n 2, [2], 0, []),
  (27, .ishr, [], 0, []),
  (28, .sipush 255, [], 255, []),
  (31, .iand, [], 0, []),
  (32, .iastore, [], 0, []),
  (33, .aload_n 0, [0], 0, []),
  (34, .dup, [], 0, []),
  (35, .getfield 15, [1, 0, 7], 0, [130]),
  (38, .iconst 1, [], 1, []),
  (39, .iadd, [], 0, []),
  (40, .putfield 15, [1, 0, 7], 0, [130]),
  (43, .iinc 2 (-8), [2], (-8), []),
  (46, .goto (-43), [2], 0, []),
  (49, .return_, [], 0, [])]
def cd_X8_byteAt : List am_E := [
  (0, .iload_n 1, [1], 0, []),
  (1, .ifCond .lt 20, [11], 0, []),
  (4, .iload_n 1, [1], 0, []),
  (5, .aload_n 0, [0], 0, []),
  (6, .getfield 15, [1, 0, 7], 0, [130]),
  (9, .if_icmp .ge 12, [11], 0, []),
  (12, .aload_n 0, [0], 0, []),
  (13, .getfield 11, [0, 2, 7], 0, [128]),
  (16, .iload_n 1, [1], 0, []),
  (17, .iaload, [], 0, []),
  (18, .goto 4, [12], 0, []),
  (21, .iconst (-1), [], (-1), []),
  (22, .ireturn, [0], 0, [])]
def cd_X8_clear : List am_E := [
  (0, .aload_n 0, [0], 0, []),
  (1, .iconst 0, [], 0, []),
  (2, .putfield 15, [1, 0, 7], 0, [130]),
  (5, .return_, [], 0, [])]
def cd_X9_init : List am_E := [
  (0, .aload_n 0, [0], 0, []),
  (1, .invokespecial 3, [2, 0], 0, [242]),
  (4, .aload_n 0, [0], 0, []),
  (5, .bipush 16, [], 16, []),
  (7, .newarray .int, [100, 16], 16, [137]),
  (9, .putfield 9, [0, 2, 8], 0, [243]),
  (12, .aload_n 0, [0], 0, []),
  (13, .bipush 16, [], 16, []),
  (15, .newarray .int, [100, 16], 16, [137]),
  (17, .putfield 15, [1, 2, 8], 0, [244]),
  (20, .aload_n 0, [0], 0, []),
  (21, .bipush 16, [], 16, []),
  (23, .newarray .int, [100, 16], 16, [137]),
  (25, .putfield 18, [2, 2, 8], 0, [245]),
  (28, .aload_n 0, [0], 0, []),
  (29, .iconst (-1), [], (-1), []),
  (30, .putfield 21, [5, 0, 8], 0, [250]),
  (33, .return_, [], 0, [])]
def cd_X9_become : List am_E := [
  (0, .aload_n 0, [0], 0, []),
  (1, .iload_n 2, [2], 0, []),
  (2, .putfield 25, [3, 0, 8], 0, [246]),
  (5, .aload_n 0, [0], 0, []),
  (6, .iconst 0, [], 0, []),
  (7, .putfield 28, [4, 0, 8], 0, [248]),
  (10, .aload_n 0, [0], 0, []),
  (11, .iconst (-1), [], (-1), []),
  (12, .putfield 21, [5, 0, 8], 0, [250]),
  (15, .iconst 0, [], 0, []),
  (16, .istore_n 3, [3], 0, []),
  (17, .iload_n 3, [3], 0, []),
  (18, .bipush 16, [], 16, []),
  (20, .if_icmp .ge 25, [28], 0, []),
  (23, .aload_n 0, [0], 0, []),
  (24, .getfield 9, [0, 2, 8], 0, [243]),
  (27, .iload_n 3, [3], 0, []),
  (28, .iconst 1, [], 1, []),
  (29, .iload_n 3, [3], 0, []),
  (30, .ishl, [], 0, []),
  (31, .iastore, [], 0, []),
  (32, .aload_n 0, [0], 0, []),
  (33, .getfield 15, [1, 2, 8], 0, [244]),
  (36, .iload_n 3, [3], 0, []),
  (37, .iconst 0, [], 0, []),
  (38, .iastore, [], 0, []),
  (39, .iinc 3 1, [3], 1, []),
  (42, .goto (-25), [11], 0, []),
  (45, .iconst 0, [], 0, []),
  (46, .istore_n 3, [3], 0, []),
  (47, .iload_n 3, [3], 0, []),
  (48, .aload_n 0, [0], 0, []),
  (49, .getfield 25, [3, 0, 8], 0, [246]),
  (52, .if_icmp .ge 79, [79], 0, []),
  (55, .iload_n 3, [3], 0, []),
  (56, .bipush 24, [], 24, []),
  (58, .if_icmp .ge 73, [79], 0, []),
  (61, .aload_n 0, [0], 0, []),
  (62, .dup, [], 0, []),
  (63, .getfield 28, [4, 0, 8], 0, [248]),
  (66, .iconst 1, [], 1, []),
  (67, .aload_n 1, [1], 0, []),
  (68, .getfield 33, [5, 2, 9], 0, [272]),
  (71, .iload_n 3, [3], 0, []),
  (72, .iaload, [], 0, []),
  (73, .ishl, [], 0, []),
  (74, .iconst 1, [], 1, []),
  (75, .aload_n 1, [1], 0, []),
  (76, .getfield 36, [7, 2, 9], 0, [276]),
  (79, .iload_n 3, [3], 0, []),
  (80, .iaload, [], 0, []),
  (81, .ishl, [], 0, []),
  (82, .ior, [], 0, []),
  (83, .ior, [], 0, []),
  (84, .putfield 28, [4, 0, 8], 0, [248]),
  (87, .aload_n 0, [0], 0, []),
  (88, .getfield 21, [5, 0, 8], 0, [250]),
  (91, .iconst (-1), [], (-1), []),
  (92, .if_icmp .ne 33, [77], 0, []),
  (95, .aload_n 0, [0], 0, []),
  (96, .aload_n 1, [1], 0, []),
  (97, .getfield 33, [5, 2, 9], 0, [272]),
  (100, .iload_n 3, [3], 0, []),
  (101, .iaload, [], 0, []),
  (102, .aload_n 1, [1], 0, []),
  (103, .getfield 39, [6, 2, 9], 0, [274]),
  (106, .iload_n 3, [3], 0, []),
  (107, .iaload, [], 0, []),
  (108, .aload_n 1, [1], 0, []),
  (109, .getfield 36, [7, 2, 9], 0, [276]),
  (112, .iload_n 3, [3], 0, []),
  (113, .iaload, [], 0, []),
  (114, .invokevirtual 42, [1, 4, 8, 94], 0, [822, 0, 0, 11]),
  (117, .ifCond .ne 8, [77], 0, []),
  (120, .aload_n 0, [0], 0, []),
  (121, .iload_n 3, [3], 0, []),
  (122, .putfield 21, [5, 0, 8], 0, [250]),
  (125, .iinc 3 1, [3], 1, []),
  (128, .goto (-81), [30], 0, []),
  (131, .aload_n 0, [0], 0, []),
  (132, .invokevirtual 46, [1, 1, 8, 98], 0, [839, 0, 0, 15]),
  (135, .return_, [], 0, [])]
def cd_X9_names : List am_E := [
  (0, .aload_n 0, [0], 0, []),
  (1, .getfield 28, [4, 0, 8], 0, [248]),
  (4, .iload_n 1, [1], 0, []),
  (5, .ishr, [], 0, []),
  (6, .iconst 1, [], 1, []),
  (7, .iand, [], 0, []),
  (8, .ifCond .eq 7, [9], 0, []),
  (11, .iconst 1, [], 1, []),
  (12, .goto 4, [10], 0, []),
  (15, .iconst 0, [], 0, []),
  (16, .ireturn, [1], 0, [])]
def cd_X9_atOnceWith : List am_E := [
  (0, .iload_n 1, [1], 0, []),
  (1, .ifCond .lt 18, [10], 0, []),
  (4, .iload_n 1, [1], 0, []),
  (5, .bipush 16, [], 16, []),
  (7, .if_icmp .ge 12, [10], 0, []),
  (10, .aload_n 0, [0], 0, []),
  (11, .getfield 9, [0, 2, 8], 0, [243]),
  (14, .iload_n 1, [1], 0, []),
  (15, .iaload, [], 0, []),
  (16, .goto 4, [11], 0, []),
  (19, .iconst 0, [], 0, []),
  (20, .ireturn, [0], 0, [])]
def cd_X9_aheadOf : List am_E := [
  (0, .iload_n 1, [1], 0, []),
  (1, .ifCond .lt 18, [10], 0, []),
  (4, .iload_n 1, [1], 0, []),
  (5, .bipush 16, [], 16, []),
  (7, .if_icmp .ge 12, [10], 0, []),
  (10, .aload_n 0, [0], 0, []),
  (11, .getfield 15, [1, 2, 8], 0, [244]),
  (14, .iload_n 1, [1], 0, []),
  (15, .iaload, [], 0, []),
  (16, .goto 4, [11], 0, []),
  (19, .iconst 0, [], 0, []),
  (20, .ireturn, [0], 0, [])]
def cd_X9_momentOf : List am_E := [
  (0, .iload_n 1, [1], 0, []),
  (1, .ifCond .lt 18, [10], 0, []),
  (4, .iload_n 1, [1], 0, []),
  (5, .bipush 16, [], 16, []),
  (7, .if_icmp .ge 12, [10], 0, []),
  (10, .aload_n 0, [0], 0, []),
  (11, .getfield 18, [2, 2, 8], 0, [245]),
  (14, .iload_n 1, [1], 0, []),
  (15, .iaload, [], 0, []),
  (16, .goto 4, [11], 0, []),
  (19, .iconst 0, [], 0, []),
  (20, .ireturn, [0], 0, [])]
def cd_X9_lastMoment : List am_E := [
  (0, .iconst 0, [], 0, []),
  (1, .istore_n 1, [1], 0, []),
  (2, .iconst 0, [], 0, []),
  (3, .istore_n 2, [2], 0, []),
  (4, .iload_n 2, [2], 0, []),
  (5, .bipush 16, [], 16, []),
  (7, .if_icmp .ge 28, [20], 0, []),
  (10, .aload_n 0, [0], 0, []),
  (11, .iload_n 2, [2], 0, []),
  (12, .invokevirtual 49, [1, 2, 8, 89], 0, [992, 0, 0, 986]),
  (15, .ifCond .eq 14, [18], 0, []),
  (18, .iload_n 1, [1], 0, []),
  (19, .aload_n 0, [0], 0, []),
  (20, .getfield 18, [2, 2, 8], 0, [245]),
  (23, .iload_n 2, [2], 0, []),
  (24, .iaload, [], 0, []),
  (25, .invokestatic 53, [2, 1], 0, [850]),
  (28, .istore_n 1, [1], 0, []),
  (29, .iinc 2 1, [2], 1, []),
  (32, .goto (-28), [4], 0, []),
  (35, .iload_n 1, [1], 0, []),
  (36, .ireturn, [0], 0, [])]
def cd_X9_agrees : List am_E := [
  (0, .iload_n 1, [1], 0, []),
  (1, .iconst 0, [], 0, []),
  (2, .bipush 15, [], 15, []),
  (4, .invokestatic 59, [0, 3, 135], 0, [826]),
  (7, .ifCond .ne 13, [10], 0, []),
  (10, .iload_n 3, [3], 0, []),
  (11, .iconst 0, [], 0, []),
  (12, .bipush 15, [], 15, []),
  (14, .invokestatic 59, [0, 3, 135], 0, [826]),
  (17, .ifCond .eq 5, [12], 0, []),
  (20, .iconst 1, [], 1, []),
  (21, .ireturn, [1], 0, []),
  (22, .iload_n 2, [2], 0, []),
  (23, .bipush 61, [], 61, []),
  (25, .if_icmp .ne 12, [20], 0, []),
  (28, .aload_n 0, [0], 0, []),
  (29, .iload_n 1, [1], 0, []),
  (30, .iload_n 3, [3], 0, []),
  (31, .invokevirtual 62, [1, 3, 8, 95], 0, [827, 0, 0, 12]),
  (34, .goto 15, [30], 0, []),
  (37, .aload_n 0, [0], 0, []),
  (38, .getfield 15, [1, 2, 8], 0, [244]),
  (41, .iload_n 3, [3], 0, []),
  (42, .dup2, [], 0, []),
  (43, .iaload, [], 0, []),
  (44, .iconst 1, [], 1, []),
  (45, .iload_n 1, [1], 0, []),
  (46, .ishl, [], 0, []),
  (47, .ior, [], 0, []),
  (48, .iastore, [], 0, []),
  (49, .aload_n 0, [0], 0, []),
  (50, .invokevirtual 66, [1, 1, 8, 96], 0, [831, 0, 0, 13]),
  (53, .aload_n 0, [0], 0, []),
  (54, .invokevirtual 69, [1, 1, 8, 97], 0, [835, 0, 0, 14]),
  (57, .iconst 0, [], 0, []),
  (58, .istore 4, [4], 0, []),
  (60, .iload 4, [4], 0, []),
  (62, .bipush 16, [], 16, []),
  (64, .if_icmp .ge 29, [53], 0, []),
  (67, .aload_n 0, [0], 0, []),
  (68, .getfield 15, [1, 2, 8], 0, [244]),
  (71, .iload 4, [4], 0, []),
  (73, .iaload, [], 0, []),
  (74, .aload_n 0, [0], 0, []),
  (75, .getfield 9, [0, 2, 8], 0, [243]),
  (78, .iload 4, [4], 0, []),
  (80, .iaload, [], 0, []),
  (81, .iand, [], 0, []),
  (82, .ifCond .eq 5, [51], 0, []),
  (85, .iconst 0, [], 0, []),
  (86, .ireturn, [1], 0, []),
  (87, .iinc 4 1, [4], 1, []),
  (90, .goto (-30), [36], 0, []),
  (93, .iconst 1, [], 1, []),
  (94, .ireturn, [1], 0, [])]
def cd_X9_joinActs : List am_E := [
  (0, .aload_n 0, [0], 0, []),
  (1, .getfield 9, [0, 2, 8], 0, [243]),
  (4, .iload_n 1, [1], 0, []),
  (5, .iaload, [], 0, []),
  (6, .aload_n 0, [0], 0, []),
  (7, .getfield 9, [0, 2, 8], 0, [243]),
  (10, .iload_n 2, [2], 0, []),
  (11, .iaload, [], 0, []),
  (12, .ior, [], 0, []),
  (13, .istore_n 3, [3], 0, []),
  (14, .iconst 0, [], 0, []),
  (15, .istore 4, [4], 0, []),
  (17, .iload 4, [4], 0, []),
  (19, .bipush 16, [], 16, []),
  (21, .if_icmp .ge 26, [28], 0, []),
  (24, .iload_n 3, [3], 0, []),
  (25, .iload 4, [4], 0, []),
  (27, .ishr, [], 0, []),
  (28, .iconst 1, [], 1, []),
  (29, .iand, [], 0, []),
  (30, .ifCond .eq 11, [26], 0, []),
  (33, .aload_n 0, [0], 0, []),
  (34, .getfield 9, [0, 2, 8], 0, [243]),
  (37, .iload 4, [4], 0, []),
  (39, .iload_n 3, [3], 0, []),
  (40, .iastore, [], 0, []),
  (41, .iinc 4 1, [4], 1, []),
  (44, .goto (-27), [12], 0, []),
  (47, .return_, [], 0, [])]
def cd_X9_shareAhead : List am_E := [
  (0, .iconst 0, [], 0, []),
  (1, .istore_n 1, [1], 0, []),
  (2, .iload_n 1, [1], 0, []),
  (3, .bipush 16, [], 16, []),
  (5, .if_icmp .ge 85, [57], 0, []),
  (8, .iconst 0, [], 0, []),
  (9, .istore_n 2, [2], 0, []),
  (10, .iconst 0, [], 0, []),
  (11, .istore_n 3, [3], 0, []),
  (12, .iload_n 3, [3], 0, []),
  (13, .bipush 16, [], 16, []),
  (15, .if_icmp .ge 31, [30], 0, []),
  (18, .aload_n 0, [0], 0, []),
  (19, .getfield 9, [0, 2, 8], 0, [243]),
  (22, .iload_n 1, [1], 0, []),
  (23, .iaload, [], 0, []),
  (24, .iload_n 3, [3], 0, []),
  (25, .ishr, [], 0, []),
  (26, .iconst 1, [], 1, []),
  (27, .iand, [], 0, []),
  (28, .ifCond .eq 12, [28], 0, []),
  (31, .iload_n 2, [2], 0, []),
  (32, .aload_n 0, [0], 0, []),
  (33, .getfield 15, [1, 2, 8], 0, [244]),
  (36, .iload_n 3, [3], 0, []),
  (37, .iaload, [], 0, []),
  (38, .ior, [], 0, []),
  (39, .istore_n 2, [2], 0, []),
  (40, .iinc 3 1, [3], 1, []),
  (43, .goto (-31), [9], 0, []),
  (46, .iconst 0, [], 0, []),
  (47, .istore_n 3, [3], 0, []),
  (48, .iload_n 3, [3], 0, []),
  (49, .bipush 16, [], 16, []),
  (51, .if_icmp .ge 26, [50], 0, []),
  (54, .iload_n 2, [2], 0, []),
  (55, .iload_n 3, [3], 0, []),
  (56, .ishr, [], 0, []),
  (57, .iconst 1, [], 1, []),
  (58, .iand, [], 0, []),
  (59, .ifCond .eq 12, [48], 0, []),
  (62, .iload_n 2, [2], 0, []),
  (63, .aload_n 0, [0], 0, []),
  (64, .getfield 9, [0, 2, 8], 0, [243]),
  (67, .iload_n 3, [3], 0, []),
  (68, .iaload, [], 0, []),
  (69, .ior, [], 0, []),
  (70, .istore_n 2, [2], 0, []),
  (71, .iinc 3 1, [3], 1, []),
  (74, .goto (-26), [32], 0, []),
  (77, .aload_n 0, [0], 0, []),
  (78, .getfield 15, [1, 2, 8], 0, [244]),
  (81, .iload_n 1, [1], 0, []),
  (82, .iload_n 2, [2], 0, []),
  (83, .iastore, [], 0, []),
  (84, .iinc 1 1, [1], 1, []),
  (87, .goto (-85), [2], 0, []),
  (90, .return_, [], 0, [])]
def cd_X9_closeAhead : List am_E := [
  (0, .iconst 0, [], 0, []),
  (1, .istore_n 1, [1], 0, []),
  (2, .iload_n 1, [1], 0, []),
  (3, .bipush 16, [], 16, []),
  (5, .if_icmp .ge 51, [34], 0, []),
  (8, .iconst 0, [], 0, []),
  (9, .istore_n 2, [2], 0, []),
  (10, .iload_n 2, [2], 0, []),
  (11, .bipush 16, [], 16, []),
  (13, .if_icmp .ge 37, [32], 0, []),
  (16, .aload_n 0, [0], 0, []),
  (17, .getfield 15, [1, 2, 8], 0, [244]),
  (20, .iload_n 2, [2], 0, []),
  (21, .iaload, [], 0, []),
  (22, .iload_n 1, [1], 0, []),
  (23, .ishr, [], 0, []),
  (24, .iconst 1, [], 1, []),
  (25, .iand, [], 0, []),
  (26, .ifCond .eq 18, [30], 0, []),
  (29, .aload_n 0, [0], 0, []),
  (30, .getfield 15, [1, 2, 8], 0, [244]),
  (33, .iload_n 2, [2], 0, []),
  (34, .dup2, [], 0, []),
  (35, .iaload, [], 0, []),
  (36, .aload_n 0, [0], 0, []),
  (37, .getfield 15, [1, 2, 8], 0, [244]),
  (40, .iload_n 1, [1], 0, []),
  (41, .iaload, [], 0, []),
  (42, .ior, [], 0, []),
  (43, .iastore, [], 0, []),
  (44, .iinc 2 1, [2], 1, []),
  (47, .goto (-37), [7], 0, []),
  (50, .iinc 1 1, [1], 1, []),
  (53, .goto (-51), [2], 0, []),
  (56, .return_, [], 0, [])]
def cd_X9_findMoments : List am_E := [
  (0, .aload_n 0, [0], 0, []),
  (1, .getfield 18, [2, 2, 8], 0, [245]),
  (4, .iconst 1, [], 1, []),
  (5, .invokestatic 72, [0, 2, 237], 0, [843]),
  (8, .iconst 0, [], 0, []),
  (9, .istore_n 1, [1], 0, []),
  (10, .iload_n 1, [1], 0, []),
  (11, .bipush 16, [], 16, []),
  (13, .if_icmp .ge 39, [28], 0, []),
  (16, .iconst 0, [], 0, []),
  (17, .istore_n 2, [2], 0, []),
  (18, .iload_n 2, [2], 0, []),
  (19, .bipush 16, [], 16, []),
  (21, .if_icmp .ge 25, [26], 0, []),
  (24, .aload_n 0, [0], 0, []),
  (25, .getfield 18, [2, 2, 8], 0, [245]),
  (28, .iload_n 2, [2], 0, []),
  (29, .aload_n 0, [0], 0, []),
  (30, .aload_n 0, [0], 0, []),
  (31, .getfield 15, [1, 2, 8], 0, [244]),
  (34, .iload_n 2, [2], 0, []),
  (35, .iaload, [], 0, []),
  (36, .invokevirtual 78, [1, 2, 8, 99], 0, [846, 0, 0, 16]),
  (39, .iastore, [], 0, []),
  (40, .iinc 2 1, [2], 1, []),
  (43, .goto (-25), [11], 0, []),
  (46, .iinc 1 1, [1], 1, []),
  (49, .goto (-39), [6], 0, []),
  (52, .return_, [], 0, [])]
def cd_X9_momentBehind : List am_E := [
  (0, .iconst 0, [], 0, []),
  (1, .istore_n 2, [2], 0, []),
  (2, .iconst 0, [], 0, []),
  (3, .istore_n 3, [3], 0, []),
  (4, .iload_n 3, [3], 0, []),
  (5, .bipush 16, [], 16, []),
  (7, .if_icmp .ge 28, [22], 0, []),
  (10, .iload_n 1, [1], 0, []),
  (11, .iload_n 3, [3], 0, []),
  (12, .ishr, [], 0, []),
  (13, .iconst 1, [], 1, []),
  (14, .iand, [], 0, []),
  (15, .ifCond .eq 14, [20], 0, []),
  (18, .iload_n 2, [2], 0, []),
  (19, .aload_n 0, [0], 0, []),
  (20, .getfield 18, [2, 2, 8], 0, [245]),
  (23, .iload_n 3, [3], 0, []),
  (24, .iaload, [], 0, []),
  (25, .invokestatic 53, [2, 1], 0, [850]),
  (28, .istore_n 2, [2], 0, []),
  (29, .iinc 3 1, [3], 1, []),
  (32, .goto (-28), [4], 0, []),
  (35, .iload_n 2, [2], 0, []),
  (36, .iconst 1, [], 1, []),
  (37, .iadd, [], 0, []),
  (38, .ireturn, [0], 0, [])]
def cd_X10_init : List am_E := [
  (0, .aload_n 0, [0], 0, []),
  (1, .aload_n 1, [1], 0, []),
  (2, .invokespecial 1, [3, 2, 75, 0, 0], 0, [270]),
  (5, .aload_n 0, [0], 0, []),
  (6, .bipush 24, [], 24, []),
  (8, .newarray .int, [100, 24], 24, [137]),
  (10, .putfield 9, [5, 2, 9], 0, [271]),
  (13, .aload_n 0, [0], 0, []),
  (14, .bipush 24, [], 24, []),
  (16, .newarray .int, [100, 24], 24, [137]),
  (18, .putfield 13, [6, 2, 9], 0, [273]),
  (21, .aload_n 0, [0], 0, []),
  (22, .bipush 24, [], 24, []),
  (24, .newarray .int, [100, 24], 24, [137]),
  (26, .putfield 16, [7, 2, 9], 0, [275]),
  (29, .return_, [], 0, [])]
def cd_X10_readLine : List am_E := [
  (0, .aload_n 0, [0], 0, []),
  (1, .ldc 19, [2760], 0, [760]),
  (3, .invokevirtual 21, [1, 2, 9, 77], 0, [761, 762, 540, 763]),
  (6, .ifCond .ne 8, [7], 0, []),
  (9, .aload_n 0, [0], 0, []),
  (10, .invokevirtual 25, [1, 1, 9, 80], 0, [764, 765, 632, 766]),
  (13, .ireturn, [1], 0, []),
  (14, .iload_n 1, [1], 0, []),
  (15, .bipush 24, [], 24, []),
  (17, .if_icmp .lt 13, [16], 0, []),
  (20, .aload_n 0, [0], 0, []),
  (21, .iconst 4, [], 4, []),
  (22, .aload_n 0, [0], 0, []),
  (23, .getfield 29, [3, 0, 9], 0, [189, 190]),
  (26, .invokevirtual 33, [1, 3, 9, 81], 0, [767, 768, 645, 769]),
  (29, .ireturn, [1], 0, []),
  (30, .aload_n 0, [0], 0, []),
  (31, .ldc 19, [2760], 0, [760]),
  (33, .invokevirtual 37, [1, 2, 9, 78], 0, [770, 771, 650, 772]),
  (36, .pop, [], 0, []),
  (37, .aload_n 0, [0], 0, []),
  (38, .getfield 9, [5, 2, 9], 0, [271]),
  (41, .iload_n 1, [1], 0, []),
  (42, .aload_n 0, [0], 0, []),
  (43, .getfield 40, [4, 0, 9], 0, [196, 197]),
  (46, .bipush 97, [], 97, []),
  (48, .isub, [], 0, []),
  (49, .iastore, [], 0, []),
  (50, .aload_n 0, [0], 0, []),
  (51, .ldc 43, [2773], 0, [773]),
  (53, .invokevirtual 37, [1, 2, 9, 78], 0, [770, 771, 650, 772]),
  (56, .ifCond .ne 8, [35], 0, []),
  (59, .aload_n 0, [0], 0, []),
  (60, .invokevirtual 25, [1, 1, 9, 80], 0, [764, 765, 632, 766]),
  (63, .ireturn, [1], 0, []),
  (64, .aload_n 0, [0], 0, []),
  (65, .getfield 13, [6, 2, 9], 0, [273]),
  (68, .iload_n 1, [1], 0, []),
  (69, .aload_n 0, [0], 0, []),
  (70, .getfield 40, [4, 0, 9], 0, [196, 197]),
  (73, .iastore, [], 0, []),
  (74, .aload_n 0, [0], 0, []),
  (75, .ldc 19, [2760], 0, [760]),
  (77, .invokevirtual 37, [1, 2, 9, 78], 0, [770, 771, 650, 772]),
  (80, .ifCond .ne 8, [48], 0, []),
  (83, .aload_n 0, [0], 0, []),
  (84, .invokevirtual 25, [1, 1, 9, 80], 0, [764, 765, 632, 766]),
  (87, .ireturn, [1], 0, []),
  (88, .aload_n 0, [0], 0, []),
  (89, .getfield 16, [7, 2, 9], 0, [275]),
  (92, .iload_n 1, [1], 0, []),
  (93, .aload_n 0, [0], 0, []),
  (94, .getfield 40, [4, 0, 9], 0, [196, 197]),
  (97, .bipush 97, [], 97, []),
  (99, .isub, [], 0, []),
  (100, .iastore, [], 0, []),
  (101, .aload_n 0, [0], 0, []),
  (102, .getfield 9, [5, 2, 9], 0, [271]),
  (105, .iload_n 1, [1], 0, []),
  (106, .iaload, [], 0, []),
  (107, .aload_n 0, [0], 0, []),
  (108, .getfield 16, [7, 2, 9], 0, [275]),
  (111, .iload_n 1, [1], 0, []),
  (112, .iaload, [], 0, []),
  (113, .if_icmp .ne 16, [73], 0, []),
  (116, .aload_n 0, [0], 0, []),
  (117, .bipush 6, [], 6, []),
  (119, .aload_n 0, [0], 0, []),
  (120, .getfield 29, [3, 0, 9], 0, [189, 190]),
  (123, .iconst 1, [], 1, []),
  (124, .isub, [], 0, []),
  (125, .invokevirtual 33, [1, 3, 9, 81], 0, [767, 768, 645, 769]),
  (128, .ireturn, [1], 0, []),
  (129, .iconst 1, [], 1, []),
  (130, .ireturn, [1], 0, [])]
def cd_X11_init : List am_E := [
  (0, .aload_n 0, [0], 0, []),
  (1, .invokespecial 1, [2, 0], 0, [119]),
  (4, .aload_n 0, [0], 0, []),
  (5, .new 7, [7, 2], 0, [122, 123, 93]),
  (8, .dup, [], 0, []),
  (9, .invokespecial 9, [3, 1, 82, 1, 260], 0, [124]),
  (12, .putfield 10, [0, 2, 10], 0, [443]),
  (15, .aload_n 0, [0], 0, []),
  (16, .new 16, [3, 8], 0, [138, 139, 94]),
  (19, .dup, [], 0, []),
  (20, .invokespecial 18, [3, 1, 34, 6, 330], 0, [140]),
  (23, .putfield 19, [1, 2, 10], 0, [444]),
  (26, .aload_n 0, [0], 0, []),
  (27, .new 23, [4, 7], 0, [170, 171, 96]),
  (30, .dup, [], 0, []),
  (31, .aload_n 0, [0], 0, []),
  (32, .getfield 10, [0, 2, 10], 0, [443]),
  (35, .invokespecial 25, [3, 2, 49, 7, 338], 0, [172]),
  (38, .putfield 28, [2, 2, 10], 0, [445]),
  (41, .aload_n 0, [0], 0, []),
  (42, .new 32, [6, 8], 0, [216, 217, 97]),
  (45, .dup, [], 0, []),
  (46, .aload_n 0, [0], 0, []),
  (47, .getfield 10, [0, 2, 10], 0, [443]),
  (50, .invokespecial 34, [3, 2, 71, 3, 60], 0, [218]),
  (53, .putfield 35, [3, 2, 10], 0, [446]),
  (56, .aload_n 0, [0], 0, []),
  (57, .new 39, [8, 6], 0, [237, 238, 98]),
  (60, .dup, [], 0, []),
  (61, .invokespecial 41, [3, 1, 87, 3, 48], 0, [239]),
  (64, .putfield 42, [4, 2, 10], 0, [447]),
  (67, .aload_n 0, [0], 0, []),
  (68, .new 46, [9, 8], 0, [265, 266, 99]),
  (71, .dup, [], 0, []),
  (72, .aload_n 0, [0], 0, []),
  (73, .getfield 10, [0, 2, 10], 0, [443]),
  (76, .invokespecial 48, [3, 2, 100, 3, 72], 0, [267]),
  (79, .putfield 49, [5, 2, 10], 0, [448]),
  (82, .aload_n 0, [0], 0, []),
  (83, .new 53, [5, 4], 0, [289, 290, 100]),
  (86, .dup, [], 0, []),
  (87, .invokespecial 55, [3, 1, 61, 2, 22], 0, [291]),
  (90, .putfield 56, [6, 2, 10], 0, [449]),
  (93, .aload_n 0, [0], 0, []),
  (94, .new 53, [5, 4], 0, [289, 290, 100]),
  (97, .dup, [], 0, []),
  (98, .invokespecial 55, [3, 1, 61, 2, 22], 0, [291]),
  (101, .putfield 60, [7, 2, 10], 0, [450]),
  (104, .aload_n 0, [0], 0, []),
  (105, .new 53, [5, 4], 0, [289, 290, 100]),
  (108, .dup, [], 0, []),
  (109, .invokespecial 55, [3, 1, 61, 2, 22], 0, [291]),
  (112, .putfield 63, [8, 2, 10], 0, [451]),
  (115, .aload_n 0, [0], 0, []),
  (116, .new 66, [2, 7], 0, [367, 368, 102]),
  (119, .dup, [], 0, []),
  (120, .invokespecial 68, [3, 1, 24, 3, 2305], 0, [369]),
  (123, .putfield 69, [9, 2, 10], 0, [452]),
  (126, .aload_n 0, [0], 0, []),
  (127, .new 73, [0, 11], 0, [397, 398, 103]),
  (130, .dup, [], 0, []),
  (131, .aload_n 0, [0], 0, []),
  (132, .getfield 10, [0, 2, 10], 0, [443]),
  (135, .invokespecial 75, [3, 2, 0, 18, 457], 0, [399]),
  (138, .putfield 76, [10, 2, 10], 0, [453]),
  (141, .return_, [], 0, [])]
def cd_X11_king : List am_E := [
  (0, .iload_n 1, [1], 0, []),
  (1, .iconst 0, [], 0, []),
  (2, .iconst 1, [], 1, []),
  (3, .invokestatic 80, [0, 3, 135], 0, [490]),
  (6, .ifCond .ne 14, [10], 0, []),
  (9, .iload_n 2, [2], 0, []),
  (10, .iconst 0, [], 0, []),
  (11, .sipush 999, [], 999, []),
  (14, .invokestatic 80, [0, 3, 135], 0, [490]),
  (17, .ifCond .eq 5, [12], 0, []),
  (20, .iconst 0, [], 0, []),
  (21, .ireturn, [1], 0, []),
  (22, .aload_n 0, [0], 0, []),
  (23, .getfield 56, [6, 2, 10], 0, [449]),
  (26, .iload_n 1, [1], 0, []),
  (27, .invokevirtual 84, [1, 2, 5, 62], 0, [493, 0, 0, 495]),
  (30, .iload_n 2, [2], 0, []),
  (31, .iload_n 3, [3], 0, []),
  (32, .invokevirtual 88, [1, 3, 1, 17], 0, [497, 0, 0, 499]),
  (35, .iconst 1, [], 1, []),
  (36, .ireturn, [1], 0, [])]
def cd_X11_tolerance : List am_E := [
  (0, .iload_n 1, [1], 0, []),
  (1, .iconst 0, [], 0, []),
  (2, .bipush 99, [], 99, []),
  (4, .invokestatic 80, [0, 3, 135], 0, [490]),
  (7, .ifCond .ne 13, [10], 0, []),
  (10, .iload_n 2, [2], 0, []),
  (11, .iconst 0, [], 0, []),
  (12, .bipush 90, [], 90, []),
  (14, .invokestatic 80, [0, 3, 135], 0, [490]),
  (17, .ifCond .eq 5, [12], 0, []),
  (20, .iconst 0, [], 0, []),
  (21, .ireturn, [1], 0, []),
  (22, .aload_n 0, [0], 0, []),
  (23, .iload_n 1, [1], 0, []),
  (24, .putfield 94, [12, 0, 10], 0, [455]),
  (27, .aload_n 0, [0], 0, []),
  (28, .iload_n 2, [2], 0, []),
  (29, .putfield 98, [13, 0, 10], 0, [456]),
  (32, .iconst 1, [], 1, []),
  (33, .ireturn, [1], 0, [])]
def cd_X11_feed : List am_E := [
  (0, .aload_n 0, [0], 0, []),
  (1, .getfield 10, [0, 2, 10], 0, [443]),
  (4, .getfield 101, [1, 0, 7], 0, [131]),
  (7, .bipush 20, [], 20, []),
  (9, .iadd, [], 0, []),
  (10, .sipush 260, [], 260, []),
  (13, .if_icmp .le 5, [9], 0, []),
  (16, .iconst (-1), [], (-1), []),
  (17, .ireturn, [0], 0, []),
  (18, .aload_n 0, [0], 0, []),
  (19, .getfield 10, [0, 2, 10], 0, [443]),
  (22, .iload_n 1, [1], 0, []),
  (23, .invokevirtual 104, [1, 2, 7, 84], 0, [509, 0, 0, 511]),
  (26, .aload_n 0, [0], 0, []),
  (27, .getfield 10, [0, 2, 10], 0, [443]),
  (30, .iload_n 2, [2], 0, []),
  (31, .invokevirtual 104, [1, 2, 7, 84], 0, [509, 0, 0, 511]),
  (34, .aload_n 0, [0], 0, []),
  (35, .getfield 10, [0, 2, 10], 0, [443]),
  (38, .iload_n 3, [3], 0, []),
  (39, .invokevirtual 104, [1, 2, 7, 84], 0, [509, 0, 0, 511]),
  (42, .aload_n 0, [0], 0, []),
  (43, .getfield 10, [0, 2, 10], 0, [443]),
  (46, .iload 4, [4], 0, []),
  (48, .invokevirtual 104, [1, 2, 7, 84], 0, [509, 0, 0, 511]),
  (51, .aload_n 0, [0], 0, []),
  (52, .getfield 10, [0, 2, 10], 0, [443]),
  (55, .iload 5, [5], 0, []),
  (57, .invokevirtual 104, [1, 2, 7, 84], 0, [509, 0, 0, 511]),
  (60, .aload_n 0, [0], 0, []),
  (61, .getfield 10, [0, 2, 10], 0, [443]),
  (64, .getfield 101, [1, 0, 7], 0, [131]),
  (67, .ireturn, [0], 0, [])]
def cd_X11_law : List am_E := [
  (0, .iload_n 1, [1], 0, []),
  (1, .iconst 1, [], 1, []),
  (2, .sipush 240, [], 240, []),
  (5, .invokestatic 80, [0, 3, 135], 0, [490]),
  (8, .ifCond .ne 14, [10], 0, []),
  (11, .aload_n 0, [0], 0, []),
  (12, .getfield 10, [0, 2, 10], 0, [443]),
  (15, .iload_n 1, [1], 0, []),
  (16, .invokevirtual 108, [1, 2, 7, 83], 0, [517, 0, 0, 519]),
  (19, .ifCond .ne 5, [12], 0, []),
  (22, .iconst (-1), [], (-1), []),
  (23, .ireturn, [0], 0, []),
  (24, .aload_n 0, [0], 0, []),
  (25, .getfield 28, [2, 2, 10], 0, [445]),
  (28, .iload_n 1, [1], 0, []),
  (29, .invokevirtual 112, [1, 2, 4, 76], 0, [521, 522, 523, 524]),
  (32, .istore_n 2, [2], 0, []),
  (33, .aload_n 0, [0], 0, []),
  (34, .getfield 10, [0, 2, 10], 0, [443]),
  (37, .invokevirtual 116, [1, 1, 7, 86], 0, [775, 0, 0, 777]),
  (40, .iload_n 2, [2], 0, []),
  (41, .ifCond .le 17, [28], 0, []),
  (44, .aload_n 0, [0], 0, []),
  (45, .getfield 19, [1, 2, 10], 0, [444]),
  (48, .aload_n 0, [0], 0, []),
  (49, .getfield 28, [2, 2, 10], 0, [445]),
  (52, .getfield 119, [5, 2, 4], 0, [182]),
  (55, .invokevirtual 122, [1, 2, 3, 36], 0, [779, 0, 0, 781]),
  (58, .iload_n 2, [2], 0, []),
  (59, .ireturn, [0], 0, [])]
def cd_X11_orders : List am_E := [
  (0, .iload_n 1, [1], 0, []),
  (1, .iconst 1, [], 1, []),
  (2, .bipush 120, [], 120, []),
  (4, .invokestatic 80, [0, 3, 135], 0, [490]),
  (7, .ifCond .ne 14, [10], 0, []),
  (10, .aload_n 0, [0], 0, []),
  (11, .getfield 10, [0, 2, 10], 0, [443]),
  (14, .iload_n 1, [1], 0, []),
  (15, .invokevirtual 108, [1, 2, 7, 83], 0, [517, 0, 0, 519]),
  (18, .ifCond .ne 5, [12], 0, []),
  (21, .iconst (-1), [], (-1), []),
  (22, .ireturn, [0], 0, []),
  (23, .aload_n 0, [0], 0, []),
  (24, .getfield 35, [3, 2, 10], 0, [446]),
  (27, .iload_n 1, [1], 0, []),
  (28, .invokevirtual 126, [1, 2, 6, 76], 0, [791, 792, 523, 793]),
  (31, .istore_n 2, [2], 0, []),
  (32, .aload_n 0, [0], 0, []),
  (33, .getfield 10, [0, 2, 10], 0, [443]),
  (36, .invokevirtual 116, [1, 1, 7, 86], 0, [775, 0, 0, 777]),
  (39, .iload_n 2, [2], 0, []),
  (40, .ifCond .le 15, [28], 0, []),
  (43, .aload_n 0, [0], 0, []),
  (44, .getfield 35, [3, 2, 10], 0, [446]),
  (47, .aload_n 0, [0], 0, []),
  (48, .getfield 56, [6, 2, 10], 0, [449]),
  (51, .iload_n 2, [2], 0, []),
  (52, .invokevirtual 127, [1, 3, 6, 73], 0, [794, 0, 0, 796]),
  (55, .iload_n 2, [2], 0, []),
  (56, .ireturn, [0], 0, [])]
def cd_X11_treaty : List am_E := [
  (0, .iload_n 1, [1], 0, []),
  (1, .iconst 1, [], 1, []),
  (2, .bipush 120, [], 120, []),
  (4, .invokestatic 80, [0, 3, 135], 0, [490]),
  (7, .ifCond .ne 14, [10], 0, []),
  (10, .aload_n 0, [0], 0, []),
  (11, .getfield 10, [0, 2, 10], 0, [443]),
  (14, .iload_n 1, [1], 0, []),
  (15, .invokevirtual 108, [1, 2, 7, 83], 0, [517, 0, 0, 519]),
  (18, .ifCond .ne 5, [12], 0, []),
  (21, .iconst (-1), [], (-1), []),
  (22, .ireturn, [0], 0, []),
  (23, .aload_n 0, [0], 0, []),
  (24, .getfield 49, [5, 2, 10], 0, [448]),
  (27, .iload_n 1, [1], 0, []),
  (28, .invokevirtual 131, [1, 2, 9, 76], 0, [815, 816, 523, 817]),
  (31, .istore_n 2, [2], 0, []),
  (32, .aload_n 0, [0], 0, []),
  (33, .getfield 10, [0, 2, 10], 0, [443]),
  (36, .invokevirtual 116, [1, 1, 7, 86], 0, [775, 0, 0, 777]),
  (39, .iload_n 2, [2], 0, []),
  (40, .ifCond .le 15, [28], 0, []),
  (43, .aload_n 0, [0], 0, []),
  (44, .getfield 42, [4, 2, 10], 0, [447]),
  (47, .aload_n 0, [0], 0, []),
  (48, .getfield 49, [5, 2, 10], 0, [448]),
  (51, .iload_n 2, [2], 0, []),
  (52, .invokevirtual 132, [1, 3, 8, 88], 0, [818, 0, 0, 820]),
  (55, .iload_n 2, [2], 0, []),
  (56, .ireturn, [0], 0, [])]
def cd_X11_breaths : List am_E := [
  (0, .iload_n 1, [1], 0, []),
  (1, .iconst 1, [], 1, []),
  (2, .sipush 240, [], 240, []),
  (5, .invokestatic 80, [0, 3, 135], 0, [490]),
  (8, .ifCond .eq 5, [7], 0, []),
  (11, .iconst (-1), [], (-1), []),
  (12, .ireturn, [0], 0, []),
  (13, .iconst 0, [], 0, []),
  (14, .istore_n 2, [2], 0, []),
  (15, .iload_n 2, [2], 0, []),
  (16, .iload_n 1, [1], 0, []),
  (17, .if_icmp .ge 20, [19], 0, []),
  (20, .aload_n 0, [0], 0, []),
  (21, .aload_n 0, [0], 0, []),
  (22, .getfield 56, [6, 2, 10], 0, [449]),
  (25, .invokevirtual 135, [1, 2, 10, 133], 0, [855, 0, 0, 17]),
  (28, .ifCond .eq 9, [19], 0, []),
  (31, .iinc 2 1, [2], 1, []),
  (34, .goto (-19), [9], 0, []),
  (37, .iload_n 2, [2], 0, []),
  (38, .ireturn, [0], 0, [])]
def cd_X11_tried : List am_E := [
  (0, .iload_n 2, [2], 0, []),
  (1, .iconst 0, [], 0, []),
  (2, .iconst 2, [], 2, []),
  (3, .invokestatic 80, [0, 3, 135], 0, [490]),
  (6, .ifCond .eq 36, [20], 0, []),
  (9, .iload_n 2, [2], 0, []),
  (10, .bipush 10, [], 10, []),
  (12, .bipush 11, [], 11, []),
  (14, .invokestatic 80, [0, 3, 135], 0, [490]),
  (17, .ifCond .eq 25, [20], 0, []),
  (20, .iload_n 2, [2], 0, []),
  (21, .bipush 20, [], 20, []),
  (23, .bipush 21, [], 21, []),
  (25, .invokestatic 80, [0, 3, 135], 0, [490]),
  (28, .ifCond .eq 14, [20], 0, []),
  (31, .iload_n 2, [2], 0, []),
  (32, .bipush 30, [], 30, []),
  (34, .bipush 31, [], 31, []),
  (36, .invokestatic 80, [0, 3, 135], 0, [490]),
  (39, .ifCond .ne 7, [22], 0, []),
  (42, .iconst 1, [], 1, []),
  (43, .goto 4, [23], 0, []),
  (46, .iconst 0, [], 0, []),
  (47, .istore_n 3, [3], 0, []),
  (48, .iload_n 1, [1], 0, []),
  (49, .iconst 1, [], 1, []),
  (50, .sipush 240, [], 240, []),
  (53, .invokestatic 80, [0, 3, 135], 0, [490]),
  (56, .ifCond .ne 7, [31], 0, []),
  (59, .iload_n 3, [3], 0, []),
  (60, .ifCond .ne 5, [33], 0, []),
  (63, .iconst (-1), [], (-1), []),
  (64, .ireturn, [0], 0, []),
  (65, .aload_n 0, [0], 0, []),
  (66, .getfield 60, [7, 2, 10], 0, [450]),
  (69, .aload_n 0, [0], 0, []),
  (70, .getfield 56, [6, 2, 10], 0, [449]),
  (73, .invokevirtual 139, [1, 2, 5, 63], 0, [930, 0, 0, 932]),
  (76, .iconst 0, [], 0, []),
  (77, .istore 4, [4], 0, []),
  (79, .iload 4, [4], 0, []),
  (81, .iload_n 1, [1], 0, []),
  (82, .if_icmp .ge 20, [50], 0, []),
  (85, .aload_n 0, [0], 0, []),
  (86, .aload_n 0, [0], 0, []),
  (87, .getfield 60, [7, 2, 10], 0, [450]),
  (90, .invokevirtual 135, [1, 2, 10, 133], 0, [855, 0, 0, 17]),
  (93, .ifCond .eq 9, [50], 0, []),
  (96, .iinc 4 1, [4], 1, []),
  (99, .goto (-20), [40], 0, []),
  (102, .iload_n 2, [2], 0, []),
  (103, .tableswitch 52 0 2 #[25, 28, 44], [66, 52, 54, 62], 0, []),
  (128, .iload 4, [4], 0, []),
  (130, .ireturn, [0], 0, []),
  (131, .aload_n 0, [0], 0, []),
  (132, .getfield 60, [7, 2, 10], 0, [450]),
  (135, .invokevirtual 142, [1, 1, 5, 65], 0, [938, 0, 0, 865]),
  (138, .ifCond .eq 7, [60], 0, []),
  (141, .iconst 1, [], 1, []),
  (142, .goto 4, [61], 0, []),
  (145, .iconst 0, [], 0, []),
  (146, .ireturn, [0], 0, []),
  (147, .aload_n 0, [0], 0, []),
  (148, .getfield 60, [7, 2, 10], 0, [450]),
  (151, .invokevirtual 146, [1, 1, 5, 66], 0, [939, 0, 0, 873]),
  (154, .ireturn, [0], 0, []),
  (155, .aload_n 0, [0], 0, []),
  (156, .getfield 60, [7, 2, 10], 0, [450]),
  (159, .iload_n 2, [2], 0, []),
  (160, .bipush 10, [], 10, []),
  (162, .irem, [], 0, []),
  (163, .invokevirtual 84, [1, 2, 5, 62], 0, [493, 0, 0, 495]),
  (166, .iload_n 2, [2], 0, []),
  (167, .bipush 10, [], 10, []),
  (169, .idiv, [], 0, []),
  (170, .invokestatic 150, [0, 2, 134], 0, [940]),
  (173, .ireturn, [0], 0, [])]
def cd_X11_kingIs : List am_E := [
  (0, .iload_n 1, [1], 0, []),
  (1, .iconst 0, [], 0, []),
  (2, .iconst 1, [], 1, []),
  (3, .invokestatic 80, [0, 3, 135], 0, [490]),
  (6, .ifCond .eq 5, [7], 0, []),
  (9, .iconst (-1), [], (-1), []),
  (10, .ireturn, [0], 0, []),
  (11, .aload_n 0, [0], 0, []),
  (12, .getfield 56, [6, 2, 10], 0, [449]),
  (15, .iload_n 1, [1], 0, []),
  (16, .invokevirtual 84, [1, 2, 5, 62], 0, [493, 0, 0, 495]),
  (19, .astore_n 3, [3], 0, []),
  (20, .iload_n 2, [2], 0, []),
  (21, .tableswitch 93 0 5 #[39, 44, 49, 54, 67, 80], [44, 14, 17, 20, 23, 30, 37], 0, []),
  (60, .aload_n 3, [3], 0, []),
  (61, .getfield 154, [0, 0, 1], 0, [304]),
  (64, .ireturn, [0], 0, []),
  (65, .aload_n 3, [3], 0, []),
  (66, .getfield 157, [1, 0, 1], 0, [308]),
  (69, .ireturn, [0], 0, []),
  (70, .aload_n 3, [3], 0, []),
  (71, .getfield 160, [2, 0, 1], 0, [311]),
  (74, .ireturn, [0], 0, []),
  (75, .aload_n 3, [3], 0, []),
  (76, .getfield 163, [3, 0, 1], 0, [315]),
  (79, .ifCond .eq 7, [28], 0, []),
  (82, .iconst 1, [], 1, []),
  (83, .goto 4, [29], 0, []),
  (86, .iconst 0, [], 0, []),
  (87, .ireturn, [0], 0, []),
  (88, .aload_n 3, [3], 0, []),
  (89, .getfield 167, [4, 0, 1], 0, [317]),
  (92, .ifCond .eq 7, [35], 0, []),
  (95, .iconst 1, [], 1, []),
  (96, .goto 4, [36], 0, []),
  (99, .iconst 0, [], 0, []),
  (100, .ireturn, [0], 0, []),
  (101, .aload_n 3, [3], 0, []),
  (102, .getfield 170, [5, 0, 1], 0, [320]),
  (105, .ifCond .eq 7, [42], 0, []),
  (108, .iconst 1, [], 1, []),
  (109, .goto 4, [43], 0, []),
  (112, .iconst 0, [], 0, []),
  (113, .ireturn, [0], 0, []),
  (114, .iconst (-1), [], (-1), []),
  (115, .ireturn, [0], 0, [])]
def cd_X11_meet : List am_E := [
  (0, .iload_n 1, [1], 0, []),
  (1, .iconst 1, [], 1, []),
  (2, .sipush 240, [], 240, []),
  (5, .invokestatic 80, [0, 3, 135], 0, [490]),
  (8, .ifCond .ne 12, [10], 0, []),
  (11, .iload_n 2, [2], 0, []),
  (12, .iconst 0, [], 0, []),
  (13, .iconst 1, [], 1, []),
  (14, .invokestatic 80, [0, 3, 135], 0, [490]),
  (17, .ifCond .eq 5, [12], 0, []),
  (20, .iconst (-1), [], (-1), []),
  (21, .ireturn, [0], 0, []),
  (22, .aload_n 0, [0], 0, []),
  (23, .getfield 60, [7, 2, 10], 0, [450]),
  (26, .aload_n 0, [0], 0, []),
  (27, .getfield 56, [6, 2, 10], 0, [449]),
  (30, .invokevirtual 139, [1, 2, 5, 63], 0, [930, 0, 0, 932]),
  (33, .iconst 0, [], 0, []),
  (34, .istore_n 3, [3], 0, []),
  (35, .iconst 0, [], 0, []),
  (36, .istore 4, [4], 0, []),
  (38, .iload 4, [4], 0, []),
  (40, .iload_n 1, [1], 0, []),
  (41, .if_icmp .gt 59, [50], 0, []),
  (44, .iload_n 3, [3], 0, []),
  (45, .ifCond .ne 11, [30], 0, []),
  (48, .aload_n 0, [0], 0, []),
  (49, .getfield 60, [7, 2, 10], 0, [450]),
  (52, .invokevirtual 173, [1, 1, 5, 64], 0, [951, 0, 0, 869]),
  (55, .istore_n 3, [3], 0, []),
  (56, .aload_n 0, [0], 0, []),
  (57, .getfield 60, [7, 2, 10], 0, [450]),
  (60, .invokevirtual 142, [1, 1, 5, 65], 0, [938, 0, 0, 865]),
  (63, .ifCond .eq 17, [41], 0, []),
  (66, .iload_n 2, [2], 0, []),
  (67, .ifCond .ne 8, [38], 0, []),
  (70, .iload 4, [4], 0, []),
  (72, .goto 7, [40], 0, []),
  (75, .iload_n 3, [3], 0, []),
  (76, .invokestatic 176, [0, 1, 136], 0, [952]),
  (79, .ireturn, [0], 0, []),
  (80, .aload_n 0, [0], 0, []),
  (81, .aload_n 0, [0], 0, []),
  (82, .getfield 60, [7, 2, 10], 0, [450]),
  (85, .invokevirtual 135, [1, 2, 10, 133], 0, [855, 0, 0, 17]),
  (88, .ifCond .ne 6, [48], 0, []),
  (91, .bipush (-2), [], (-2), []),
  (93, .ireturn, [0], 0, []),
  (94, .iinc 4 1, [4], 1, []),
  (97, .goto (-59), [21], 0, []),
  (100, .bipush (-2), [], (-2), []),
  (102, .ireturn, [0], 0, [])]
def cd_X11_leaves : List am_E := [
  (0, .iload_n 1, [1], 0, []),
  (1, .iconst 1, [], 1, []),
  (2, .sipush 240, [], 240, []),
  (5, .invokestatic 80, [0, 3, 135], 0, [490]),
  (8, .ifCond .ne 12, [10], 0, []),
  (11, .iload_n 2, [2], 0, []),
  (12, .iconst 0, [], 0, []),
  (13, .iconst 1, [], 1, []),
  (14, .invokestatic 80, [0, 3, 135], 0, [490]),
  (17, .ifCond .eq 5, [12], 0, []),
  (20, .iconst (-1), [], (-1), []),
  (21, .ireturn, [0], 0, []),
  (22, .aload_n 0, [0], 0, []),
  (23, .getfield 60, [7, 2, 10], 0, [450]),
  (26, .aload_n 0, [0], 0, []),
  (27, .getfield 56, [6, 2, 10], 0, [449]),
  (30, .invokevirtual 139, [1, 2, 5, 63], 0, [930, 0, 0, 932]),
  (33, .iconst 0, [], 0, []),
  (34, .istore_n 3, [3], 0, []),
  (35, .iload_n 3, [3], 0, []),
  (36, .iload_n 1, [1], 0, []),
  (37, .if_icmp .gt 51, [44], 0, []),
  (40, .aload_n 0, [0], 0, []),
  (41, .getfield 60, [7, 2, 10], 0, [450]),
  (44, .invokevirtual 146, [1, 1, 5, 66], 0, [939, 0, 0, 873]),
  (47, .istore 4, [4], 0, []),
  (49, .iload 4, [4], 0, []),
  (51, .ifCond .eq 17, [35], 0, []),
  (54, .iload_n 2, [2], 0, []),
  (55, .ifCond .ne 11, [33], 0, []),
  (58, .iload 4, [4], 0, []),
  (60, .invokestatic 176, [0, 1, 136], 0, [952]),
  (63, .goto 4, [34], 0, []),
  (66, .iload_n 3, [3], 0, []),
  (67, .ireturn, [0], 0, []),
  (68, .aload_n 0, [0], 0, []),
  (69, .aload_n 0, [0], 0, []),
  (70, .getfield 60, [7, 2, 10], 0, [450]),
  (73, .invokevirtual 135, [1, 2, 10, 133], 0, [855, 0, 0, 17]),
  (76, .ifCond .ne 6, [42], 0, []),
  (79, .bipush (-2), [], (-2), []),
  (81, .ireturn, [0], 0, []),
  (82, .iinc 3 1, [3], 1, []),
  (85, .goto (-50), [19], 0, []),
  (88, .bipush (-2), [], (-2), []),
  (90, .ireturn, [0], 0, [])]
def cd_X11_worst : List am_E := [
  (0, .iload_n 1, [1], 0, []),
  (1, .iconst 1, [], 1, []),
  (2, .sipush 240, [], 240, []),
  (5, .invokestatic 80, [0, 3, 135], 0, [490]),
  (8, .ifCond .eq 5, [7], 0, []),
  (11, .iconst (-1), [], (-1), []),
  (12, .ireturn, [0], 0, []),
  (13, .aload_n 0, [0], 0, []),
  (14, .getfield 60, [7, 2, 10], 0, [450]),
  (17, .aload_n 0, [0], 0, []),
  (18, .getfield 56, [6, 2, 10], 0, [449]),
  (21, .invokevirtual 139, [1, 2, 5, 63], 0, [930, 0, 0, 932]),
  (24, .aload_n 0, [0], 0, []),
  (25, .getfield 60, [7, 2, 10], 0, [450]),
  (28, .invokevirtual 179, [1, 1, 5, 67], 0, [963, 0, 0, 965]),
  (31, .invokestatic 182, [2, 3], 0, [967]),
  (34, .istore_n 2, [2], 0, []),
  (35, .iconst 0, [], 0, []),
  (36, .istore_n 3, [3], 0, []),
  (37, .iload_n 3, [3], 0, []),
  (38, .iload_n 1, [1], 0, []),
  (39, .if_icmp .ge 35, [36], 0, []),
  (42, .aload_n 0, [0], 0, []),
  (43, .aload_n 0, [0], 0, []),
  (44, .getfield 60, [7, 2, 10], 0, [450]),
  (47, .invokevirtual 135, [1, 2, 10, 133], 0, [855, 0, 0, 17]),
  (50, .ifCond .eq 24, [36], 0, []),
  (53, .iload_n 2, [2], 0, []),
  (54, .aload_n 0, [0], 0, []),
  (55, .getfield 60, [7, 2, 10], 0, [450]),
  (58, .invokevirtual 179, [1, 1, 5, 67], 0, [963, 0, 0, 965]),
  (61, .invokestatic 182, [2, 3], 0, [967]),
  (64, .invokestatic 187, [2, 1], 0, [970]),
  (67, .istore_n 2, [2], 0, []),
  (68, .iinc 3 1, [3], 1, []),
  (71, .goto (-34), [19], 0, []),
  (74, .iload_n 2, [2], 0, []),
  (75, .ireturn, [0], 0, [])]
def cd_X11_nearer : List am_E := [
  (0, .iload_n 1, [1], 0, []),
  (1, .iconst 1, [], 1, []),
  (2, .sipush 240, [], 240, []),
  (5, .invokestatic 80, [0, 3, 135], 0, [490]),
  (8, .ifCond .ne 12, [10], 0, []),
  (11, .iload_n 2, [2], 0, []),
  (12, .iconst 0, [], 0, []),
  (13, .iconst 4, [], 4, []),
  (14, .invokestatic 80, [0, 3, 135], 0, [490]),
  (17, .ifCond .eq 5, [12], 0, []),
  (20, .iconst (-1), [], (-1), []),
  (21, .ireturn, [0], 0, []),
  (22, .aload_n 0, [0], 0, []),
  (23, .getfield 60, [7, 2, 10], 0, [450]),
  (26, .aload_n 0, [0], 0, []),
  (27, .getfield 56, [6, 2, 10], 0, [449]),
  (30, .invokevirtual 139, [1, 2, 5, 63], 0, [930, 0, 0, 932]),
  (33, .aload_n 0, [0], 0, []),
  (34, .getfield 60, [7, 2, 10], 0, [450]),
  (37, .iload_n 2, [2], 0, []),
  (38, .iconst 4, [], 4, []),
  (39, .if_icmp .ne 7, [24], 0, []),
  (42, .iconst 1, [], 1, []),
  (43, .goto 4, [25], 0, []),
  (46, .iconst 0, [], 0, []),
  (47, .invokevirtual 84, [1, 2, 5, 62], 0, [493, 0, 0, 495]),
  (50, .astore_n 3, [3], 0, []),
  (51, .aload_n 3, [3], 0, []),
  (52, .getfield 160, [2, 0, 1], 0, [311]),
  (55, .istore 4, [4], 0, []),
  (57, .iconst 0, [], 0, []),
  (58, .istore 5, [5], 0, []),
  (60, .iconst 0, [], 0, []),
  (61, .istore 6, [6], 0, []),
  (63, .iload 6, [6], 0, []),
  (65, .iload_n 1, [1], 0, []),
  (66, .if_icmp .ge 57, [61], 0, []),
  (69, .aload_n 0, [0], 0, []),
  (70, .aload_n 0, [0], 0, []),
  (71, .getfield 60, [7, 2, 10], 0, [450]),
  (74, .invokevirtual 135, [1, 2, 10, 133], 0, [855, 0, 0, 17]),
  (77, .ifCond .eq 46, [61], 0, []),
  (80, .iload_n 2, [2], 0, []),
  (81, .iconst 3, [], 3, []),
  (82, .if_icmp .ge 17, [51], 0, []),
  (85, .aload_n 0, [0], 0, []),
  (86, .getfield 60, [7, 2, 10], 0, [450]),
  (89, .invokevirtual 191, [1, 1, 5, 68], 0, [975, 0, 0, 977]),
  (92, .iload_n 2, [2], 0, []),
  (93, .if_icmp .ne 18, [56], 0, []),
  (96, .goto 12, [55], 0, []),
  (99, .aload_n 3, [3], 0, []),
  (100, .getfield 160, [2, 0, 1], 0, [311]),
  (103, .iload 4, [4], 0, []),
  (105, .if_icmp .le 6, [56], 0, []),
  (108, .iinc 5 1, [5], 1, []),
  (111, .aload_n 3, [3], 0, []),
  (112, .getfield 160, [2, 0, 1], 0, [311]),
  (115, .istore 4, [4], 0, []),
  (117, .iinc 6 1, [6], 1, []),
  (120, .goto (-57), [34], 0, []),
  (123, .iload 5, [5], 0, []),
  (125, .ireturn, [0], 0, [])]
def cd_X11_moments : List am_E := [
  (0, .iload_n 1, [1], 0, []),
  (1, .bipush 101, [], 101, []),
  (3, .if_icmp .ne 27, [14], 0, []),
  (6, .aload_n 0, [0], 0, []),
  (7, .getfield 42, [4, 2, 10], 0, [447]),
  (10, .getfield 194, [5, 0, 8], 0, [251]),
  (13, .iconst (-1), [], (-1), []),
  (14, .if_icmp .ne 8, [10], 0, []),
  (17, .bipush (-2), [], (-2), []),
  (19, .goto 10, [13], 0, []),
  (22, .aload_n 0, [0], 0, []),
  (23, .getfield 42, [4, 2, 10], 0, [447]),
  (26, .getfield 194, [5, 0, 8], 0, [251]),
  (29, .ireturn, [0], 0, []),
  (30, .iload_n 1, [1], 0, []),
  (31, .iconst 0, [], 0, []),
  (32, .bipush 15, [], 15, []),
  (34, .invokestatic 80, [0, 3, 135], 0, [490]),
  (37, .ifCond .eq 11, [24], 0, []),
  (40, .iload_n 1, [1], 0, []),
  (41, .bipush 100, [], 100, []),
  (43, .if_icmp .eq 5, [24], 0, []),
  (46, .iconst (-1), [], (-1), []),
  (47, .ireturn, [0], 0, []),
  (48, .aload_n 0, [0], 0, []),
  (49, .getfield 42, [4, 2, 10], 0, [447]),
  (52, .getfield 194, [5, 0, 8], 0, [251]),
  (55, .iconst (-1), [], (-1), []),
  (56, .if_icmp .eq 6, [31], 0, []),
  (59, .bipush (-3), [], (-3), []),
  (61, .ireturn, [0], 0, []),
  (62, .iload_n 1, [1], 0, []),
  (63, .bipush 100, [], 100, []),
  (65, .if_icmp .eq 17, [41], 0, []),
  (68, .aload_n 0, [0], 0, []),
  (69, .getfield 42, [4, 2, 10], 0, [447]),
  (72, .iload_n 1, [1], 0, []),
  (73, .invokevirtual 197, [1, 2, 8, 89], 0, [984, 0, 0, 986]),
  (76, .ifCond .ne 6, [41], 0, []),
  (79, .bipush (-2), [], (-2), []),
  (81, .ireturn, [0], 0, []),
  (82, .iload_n 1, [1], 0, []),
  (83, .bipush 100, [], 100, []),
  (85, .if_icmp .ne 13, [48], 0, []),
  (88, .aload_n 0, [0], 0, []),
  (89, .getfield 42, [4, 2, 10], 0, [447]),
  (92, .invokevirtual 200, [1, 1, 8, 93], 0, [988, 0, 0, 990]),
  (95, .goto 11, [52], 0, []),
  (98, .aload_n 0, [0], 0, []),
  (99, .getfield 42, [4, 2, 10], 0, [447]),
  (102, .iload_n 1, [1], 0, []),
  (103, .invokevirtual 203, [1, 2, 8, 92], 0, [993, 0, 0, 995]),
  (106, .ireturn, [0], 0, [])]
def cd_X11_act : List am_E := [
  (0, .iload_n 1, [1], 0, []),
  (1, .iconst 0, [], 0, []),
  (2, .bipush 15, [], 15, []),
  (4, .invokestatic 80, [0, 3, 135], 0, [490]),
  (7, .ifCond .ne 12, [10], 0, []),
  (10, .iload_n 2, [2], 0, []),
  (11, .iconst 0, [], 0, []),
  (12, .iconst 1, [], 1, []),
  (13, .invokestatic 80, [0, 3, 135], 0, [490]),
  (16, .ifCond .eq 5, [12], 0, []),
  (19, .iconst (-1), [], (-1), []),
  (20, .ireturn, [0], 0, []),
  (21, .aload_n 0, [0], 0, []),
  (22, .getfield 42, [4, 2, 10], 0, [447]),
  (25, .getfield 194, [5, 0, 8], 0, [251]),
  (28, .iconst (-1), [], (-1), []),
  (29, .if_icmp .eq 6, [19], 0, []),
  (32, .bipush (-3), [], (-3), []),
  (34, .ireturn, [0], 0, []),
  (35, .aload_n 0, [0], 0, []),
  (36, .getfield 42, [4, 2, 10], 0, [447]),
  (39, .iload_n 1, [1], 0, []),
  (40, .invokevirtual 197, [1, 2, 8, 89], 0, [984, 0, 0, 986]),
  (43, .ifCond .ne 6, [26], 0, []),
  (46, .bipush (-2), [], (-2), []),
  (48, .ireturn, [0], 0, []),
  (49, .iload_n 2, [2], 0, []),
  (50, .ifCond .ne 14, [33], 0, []),
  (53, .aload_n 0, [0], 0, []),
  (54, .getfield 42, [4, 2, 10], 0, [447]),
  (57, .iload_n 1, [1], 0, []),
  (58, .invokevirtual 206, [1, 2, 8, 90], 0, [1001, 0, 0, 1003]),
  (61, .goto 11, [37], 0, []),
  (64, .aload_n 0, [0], 0, []),
  (65, .getfield 42, [4, 2, 10], 0, [447]),
  (68, .iload_n 1, [1], 0, []),
  (69, .invokevirtual 209, [1, 2, 8, 91], 0, [1005, 0, 0, 1007]),
  (72, .ireturn, [0], 0, [])]
def cd_X11_lane : List am_E := [
  (0, .iload_n 1, [1], 0, []),
  (1, .iconst 2, [], 2, []),
  (2, .bipush 9, [], 9, []),
  (4, .invokestatic 80, [0, 3, 135], 0, [490]),
  (7, .ifCond .ne 23, [15], 0, []),
  (10, .iload_n 2, [2], 0, []),
  (11, .iconst 0, [], 0, []),
  (12, .iconst 1, [], 1, []),
  (13, .invokestatic 80, [0, 3, 135], 0, [490]),
  (16, .ifCond .ne 14, [15], 0, []),
  (19, .aload_n 0, [0], 0, []),
  (20, .getfield 10, [0, 2, 10], 0, [443]),
  (23, .iload_n 1, [1], 0, []),
  (24, .invokevirtual 108, [1, 2, 7, 83], 0, [517, 0, 0, 519]),
  (27, .ifCond .ne 5, [17], 0, []),
  (30, .iconst (-1), [], (-1), []),
  (31, .ireturn, [0], 0, []),
  (32, .aload_n 0, [0], 0, []),
  (33, .getfield 69, [9, 2, 10], 0, [452]),
  (36, .aload_n 0, [0], 0, []),
  (37, .getfield 10, [0, 2, 10], 0, [443]),
  (40, .iload_n 1, [1], 0, []),
  (41, .invokevirtual 212, [1, 3, 2, 25], 0, [1013, 0, 0, 1015]),
  (44, .istore_n 3, [3], 0, []),
  (45, .aload_n 0, [0], 0, []),
  (46, .getfield 10, [0, 2, 10], 0, [443]),
  (49, .invokevirtual 116, [1, 1, 7, 86], 0, [775, 0, 0, 777]),
  (52, .iload_n 3, [3], 0, []),
  (53, .iconst (-1), [], (-1), []),
  (54, .if_icmp .eq 9, [34], 0, []),
  (57, .sipush (-1000), [], (-1000), []),
  (60, .iload_n 3, [3], 0, []),
  (61, .isub, [], 0, []),
  (62, .ireturn, [0], 0, []),
  (63, .aload_n 0, [0], 0, []),
  (64, .getfield 69, [9, 2, 10], 0, [452]),
  (67, .invokevirtual 216, [1, 1, 2, 26], 0, [1019, 0, 0, 1021]),
  (70, .ifCond .ne 6, [40], 0, []),
  (73, .bipush (-2), [], (-2), []),
  (75, .ireturn, [0], 0, []),
  (76, .iload_n 2, [2], 0, []),
  (77, .ifCond .ne 13, [46], 0, []),
  (80, .aload_n 0, [0], 0, []),
  (81, .getfield 69, [9, 2, 10], 0, [452]),
  (84, .getfield 219, [5, 0, 2], 0, [379]),
  (87, .goto 10, [49], 0, []),
  (90, .aload_n 0, [0], 0, []),
  (91, .getfield 69, [9, 2, 10], 0, [452]),
  (94, .getfield 222, [6, 0, 2], 0, [381]),
  (97, .ireturn, [0], 0, [])]
def cd_X11_signing : List am_E := [
  (0, .iload_n 1, [1], 0, []),
  (1, .iconst 1, [], 1, []),
  (2, .bipush 12, [], 12, []),
  (4, .invokestatic 80, [0, 3, 135], 0, [490]),
  (7, .ifCond .ne 25, [17], 0, []),
  (10, .iload_n 2, [2], 0, []),
  (11, .iconst 0, [], 0, []),
  (12, .iconst 1, [], 1, []),
  (13, .invokestatic 80, [0, 3, 135], 0, [490]),
  (16, .ifCond .ne 16, [17], 0, []),
  (19, .aload_n 0, [0], 0, []),
  (20, .getfield 10, [0, 2, 10], 0, [443]),
  (23, .iconst 2, [], 2, []),
  (24, .iload_n 1, [1], 0, []),
  (25, .imul, [], 0, []),
  (26, .invokevirtual 108, [1, 2, 7, 83], 0, [517, 0, 0, 519]),
  (29, .ifCond .ne 5, [19], 0, []),
  (32, .iconst (-1), [], (-1), []),
  (33, .ireturn, [0], 0, []),
  (34, .aload_n 0, [0], 0, []),
  (35, .getfield 76, [10, 2, 10], 0, [453]),
  (38, .iload_n 1, [1], 0, []),
  (39, .invokevirtual 225, [1, 2, 0, 2], 0, [1058, 0, 0, 1060]),
  (42, .aload_n 0, [0], 0, []),
  (43, .getfield 10, [0, 2, 10], 0, [443]),
  (46, .invokevirtual 116, [1, 1, 7, 86], 0, [775, 0, 0, 777]),
  (49, .iload_n 2, [2], 0, []),
  (50, .ifCond .ne 13, [32], 0, []),
  (53, .aload_n 0, [0], 0, []),
  (54, .getfield 76, [10, 2, 10], 0, [453]),
  (57, .getfield 228, [8, 0, 0], 0, [414]),
  (60, .goto 10, [35], 0, []),
  (63, .aload_n 0, [0], 0, []),
  (64, .getfield 76, [10, 2, 10], 0, [453]),
  (67, .getfield 231, [9, 0, 0], 0, [416]),
  (70, .ireturn, [0], 0, [])]
def cd_X11_titles : List am_E := [
  (0, .iload_n 1, [1], 0, []),
  (1, .iconst 1, [], 1, []),
  (2, .bipush 10, [], 10, []),
  (4, .invokestatic 80, [0, 3, 135], 0, [490]),
  (7, .ifCond .ne 26, [17], 0, []),
  (10, .iload_n 2, [2], 0, []),
  (11, .iconst 1, [], 1, []),
  (12, .bipush 10, [], 10, []),
  (14, .invokestatic 80, [0, 3, 135], 0, [490]),
  (17, .ifCond .ne 16, [17], 0, []),
  (20, .iload_n 3, [3], 0, []),
  (21, .iconst 0, [], 0, []),
  (22, .iconst 1, [], 1, []),
  (23, .invokestatic 80, [0, 3, 135], 0, [490]),
  (26, .ifCond .ne 7, [17], 0, []),
  (29, .iconst 1, [], 1, []),
  (30, .goto 4, [18], 0, []),
  (33, .iconst 0, [], 0, []),
  (34, .istore 4, [4], 0, []),
  (36, .iload 4, [4], 0, []),
  (38, .ifCond .eq 16, [28], 0, []),
  (41, .aload_n 0, [0], 0, []),
  (42, .getfield 10, [0, 2, 10], 0, [443]),
  (45, .iload_n 1, [1], 0, []),
  (46, .iload_n 2, [2], 0, []),
  (47, .iadd, [], 0, []),
  (48, .invokevirtual 108, [1, 2, 7, 83], 0, [517, 0, 0, 519]),
  (51, .ifCond .ne 5, [30], 0, []),
  (54, .iconst (-1), [], (-1), []),
  (55, .ireturn, [0], 0, []),
  (56, .aload_n 0, [0], 0, []),
  (57, .getfield 76, [10, 2, 10], 0, [453]),
  (60, .iload_n 1, [1], 0, []),
  (61, .iload_n 2, [2], 0, []),
  (62, .iadd, [], 0, []),
  (63, .iconst 1, [], 1, []),
  (64, .bipush 20, [], 20, []),
  (66, .invokevirtual 234, [1, 4, 0, 1], 0, [1068, 0, 0, 1070]),
  (69, .istore 5, [5], 0, []),
  (71, .iload 5, [5], 0, []),
  (73, .ifCond .eq 12, [46], 0, []),
  (76, .aload_n 0, [0], 0, []),
  (77, .getfield 76, [10, 2, 10], 0, [453]),
  (80, .iload_n 1, [1], 0, []),
  (81, .iload_n 2, [2], 0, []),
  (82, .invokevirtual 237, [1, 3, 0, 3], 0, [1073, 0, 0, 1075]),
  (85, .aload_n 0, [0], 0, []),
  (86, .getfield 10, [0, 2, 10], 0, [443]),
  (89, .invokevirtual 116, [1, 1, 7, 86], 0, [775, 0, 0, 777]),
  (92, .iload 5, [5], 0, []),
  (94, .ifCond .ne 6, [53], 0, []),
  (97, .bipush (-2), [], (-2), []),
  (99, .ireturn, [0], 0, []),
  (100, .iload_n 3, [3], 0, []),
  (101, .ifCond .ne 13, [59], 0, []),
  (104, .aload_n 0, [0], 0, []),
  (105, .getfield 76, [10, 2, 10], 0, [453]),
  (108, .getfield 228, [8, 0, 0], 0, [414]),
  (111, .goto 10, [62], 0, []),
  (114, .aload_n 0, [0], 0, []),
  (115, .getfield 76, [10, 2, 10], 0, [453]),
  (118, .getfield 231, [9, 0, 0], 0, [416]),
  (121, .ireturn, [0], 0, [])]
def cd_X11_gifts : List am_E := [
  (0, .iload_n 1, [1], 0, []),
  (1, .iconst 1, [], 1, []),
  (2, .bipush 8, [], 8, []),
  (4, .invokestatic 80, [0, 3, 135], 0, [490]),
  (7, .ifCond .ne 25, [17], 0, []),
  (10, .iload_n 2, [2], 0, []),
  (11, .iconst 0, [], 0, []),
  (12, .iconst 1, [], 1, []),
  (13, .invokestatic 80, [0, 3, 135], 0, [490]),
  (16, .ifCond .ne 16, [17], 0, []),
  (19, .aload_n 0, [0], 0, []),
  (20, .getfield 10, [0, 2, 10], 0, [443]),
  (23, .iconst 2, [], 2, []),
  (24, .iload_n 1, [1], 0, []),
  (25, .imul, [], 0, []),
  (26, .invokevirtual 108, [1, 2, 7, 83], 0, [517, 0, 0, 519]),
  (29, .ifCond .ne 5, [19], 0, []),
  (32, .iconst (-1), [], (-1), []),
  (33, .ireturn, [0], 0, []),
  (34, .aload_n 0, [0], 0, []),
  (35, .getfield 76, [10, 2, 10], 0, [453]),
  (38, .iload_n 1, [1], 0, []),
  (39, .invokevirtual 241, [1, 2, 0, 4], 0, [1082, 0, 0, 1084]),
  (42, .aload_n 0, [0], 0, []),
  (43, .getfield 10, [0, 2, 10], 0, [443]),
  (46, .invokevirtual 116, [1, 1, 7, 86], 0, [775, 0, 0, 777]),
  (49, .iload_n 2, [2], 0, []),
  (50, .ifCond .ne 13, [32], 0, []),
  (53, .aload_n 0, [0], 0, []),
  (54, .getfield 76, [10, 2, 10], 0, [453]),
  (57, .getfield 228, [8, 0, 0], 0, [414]),
  (60, .goto 10, [35], 0, []),
  (63, .aload_n 0, [0], 0, []),
  (64, .getfield 76, [10, 2, 10], 0, [453]),
  (67, .getfield 231, [9, 0, 0], 0, [416]),
  (70, .ireturn, [0], 0, [])]
def cd_X11_cushions : List am_E := [
  (0, .iload_n 1, [1], 0, []),
  (1, .iconst 1, [], 1, []),
  (2, .bipush 8, [], 8, []),
  (4, .invokestatic 80, [0, 3, 135], 0, [490]),
  (7, .ifCond .ne 37, [22], 0, []),
  (10, .iload_n 2, [2], 0, []),
  (11, .iconst 0, [], 0, []),
  (12, .bipush 99, [], 99, []),
  (14, .invokestatic 80, [0, 3, 135], 0, [490]),
  (17, .ifCond .ne 27, [22], 0, []),
  (20, .iload_n 3, [3], 0, []),
  (21, .iconst 0, [], 0, []),
  (22, .bipush 99, [], 99, []),
  (24, .invokestatic 80, [0, 3, 135], 0, [490]),
  (27, .ifCond .ne 17, [22], 0, []),
  (30, .iload 4, [4], 0, []),
  (32, .iconst 0, [], 0, []),
  (33, .iconst 2, [], 2, []),
  (34, .invokestatic 80, [0, 3, 135], 0, [490]),
  (37, .ifCond .ne 7, [22], 0, []),
  (40, .iconst 1, [], 1, []),
  (41, .goto 4, [23], 0, []),
  (44, .iconst 0, [], 0, []),
  (45, .istore 5, [5], 0, []),
  (47, .iload 5, [5], 0, []),
  (49, .ifCond .eq 14, [31], 0, []),
  (52, .aload_n 0, [0], 0, []),
  (53, .getfield 10, [0, 2, 10], 0, [443]),
  (56, .iload_n 1, [1], 0, []),
  (57, .invokevirtual 108, [1, 2, 7, 83], 0, [517, 0, 0, 519]),
  (60, .ifCond .ne 5, [33], 0, []),
  (63, .iconst (-1), [], (-1), []),
  (64, .ireturn, [0], 0, []),
  (65, .aload_n 0, [0], 0, []),
  (66, .getfield 76, [10, 2, 10], 0, [453]),
  (69, .iload_n 1, [1], 0, []),
  (70, .iconst 1, [], 1, []),
  (71, .bipush 30, [], 30, []),
  (73, .invokevirtual 234, [1, 4, 0, 1], 0, [1068, 0, 0, 1070]),
  (76, .istore 6, [6], 0, []),
  (78, .iload 6, [6], 0, []),
  (80, .ifCond .eq 13, [48], 0, []),
  (83, .aload_n 0, [0], 0, []),
  (84, .getfield 76, [10, 2, 10], 0, [453]),
  (87, .iload_n 1, [1], 0, []),
  (88, .iload_n 2, [2], 0, []),
  (89, .iload_n 3, [3], 0, []),
  (90, .invokevirtual 244, [1, 4, 0, 6], 0, [1095, 0, 0, 1097]),
  (93, .aload_n 0, [0], 0, []),
  (94, .getfield 10, [0, 2, 10], 0, [443]),
  (97, .invokevirtual 116, [1, 1, 7, 86], 0, [775, 0, 0, 777]),
  (100, .iload 6, [6], 0, []),
  (102, .ifCond .ne 6, [55], 0, []),
  (105, .bipush (-3), [], (-3), []),
  (107, .ireturn, [0], 0, []),
  (108, .aload_n 0, [0], 0, []),
  (109, .getfield 76, [10, 2, 10], 0, [453]),
  (112, .getfield 228, [8, 0, 0], 0, [414]),
  (115, .iconst (-1), [], (-1), []),
  (116, .if_icmp .ne 6, [62], 0, []),
  (119, .bipush (-2), [], (-2), []),
  (121, .ireturn, [0], 0, []),
  (122, .iload 4, [4], 0, []),
  (124, .lookupswitch 44 #[(0, 28), (1, 36)], [72, 0, 64, 1, 68], 0, []),
  (152, .aload_n 0, [0], 0, []),
  (153, .getfield 76, [10, 2, 10], 0, [453]),
  (156, .getfield 228, [8, 0, 0], 0, [414]),
  (159, .ireturn, [0], 0, []),
  (160, .aload_n 0, [0], 0, []),
  (161, .getfield 76, [10, 2, 10], 0, [453]),
  (164, .getfield 231, [9, 0, 0], 0, [416]),
  (167, .ireturn, [0], 0, []),
  (168, .aload_n 0, [0], 0, []),
  (169, .getfield 76, [10, 2, 10], 0, [453]),
  (172, .getfield 248, [10, 0, 0], 0, [418]),
  (175, .ireturn, [0], 0, [])]
def cd_X11_table : List am_E := [
  (0, .iload_n 1, [1], 0, []),
  (1, .iconst 2, [], 2, []),
  (2, .bipush 6, [], 6, []),
  (4, .invokestatic 80, [0, 3, 135], 0, [490]),
  (7, .ifCond .ne 36, [22], 0, []),
  (10, .iload_n 2, [2], 0, []),
  (11, .iconst 0, [], 0, []),
  (12, .iload_n 1, [1], 0, []),
  (13, .iconst 1, [], 1, []),
  (14, .isub, [], 0, []),
  (15, .invokestatic 80, [0, 3, 135], 0, [490]),
  (18, .ifCond .eq 14, [17], 0, []),
  (21, .iload_n 2, [2], 0, []),
  (22, .bipush 100, [], 100, []),
  (24, .bipush 101, [], 101, []),
  (26, .invokestatic 80, [0, 3, 135], 0, [490]),
  (29, .ifCond .ne 14, [22], 0, []),
  (32, .aload_n 0, [0], 0, []),
  (33, .getfield 10, [0, 2, 10], 0, [443]),
  (36, .iload_n 1, [1], 0, []),
  (37, .invokevirtual 108, [1, 2, 7, 83], 0, [517, 0, 0, 519]),
  (40, .ifCond .ne 5, [24], 0, []),
  (43, .iconst (-1), [], (-1), []),
  (44, .ireturn, [0], 0, []),
  (45, .aload_n 0, [0], 0, []),
  (46, .getfield 76, [10, 2, 10], 0, [453]),
  (49, .iload_n 1, [1], 0, []),
  (50, .invokevirtual 251, [1, 2, 0, 8], 0, [1111, 0, 0, 1113]),
  (53, .aload_n 0, [0], 0, []),
  (54, .getfield 10, [0, 2, 10], 0, [443]),
  (57, .invokevirtual 116, [1, 1, 7, 86], 0, [775, 0, 0, 777]),
  (60, .iload_n 2, [2], 0, []),
  (61, .lookupswitch 43 #[(100, 27), (101, 35)], [41, 100, 33, 101, 37], 0, []),
  (88, .aload_n 0, [0], 0, []),
  (89, .getfield 76, [10, 2, 10], 0, [453]),
  (92, .getfield 228, [8, 0, 0], 0, [414]),
  (95, .ireturn, [0], 0, []),
  (96, .aload_n 0, [0], 0, []),
  (97, .getfield 76, [10, 2, 10], 0, [453]),
  (100, .getfield 231, [9, 0, 0], 0, [416]),
  (103, .ireturn, [0], 0, []),
  (104, .aload_n 0, [0], 0, []),
  (105, .getfield 76, [10, 2, 10], 0, [453]),
  (108, .getfield 228, [8, 0, 0], 0, [414]),
  (111, .ifCond .ne 8, [47], 0, []),
  (114, .bipush (-2), [], (-2), []),
  (116, .goto 11, [51], 0, []),
  (119, .aload_n 0, [0], 0, []),
  (120, .getfield 76, [10, 2, 10], 0, [453]),
  (123, .iload_n 2, [2], 0, []),
  (124, .invokevirtual 254, [1, 2, 0, 9], 0, [1128, 0, 0, 1130]),
  (127, .ireturn, [0], 0, [])]
def cd_X11_drums : List am_E := [
  (0, .iload_n 1, [1], 0, []),
  (1, .iconst 0, [], 0, []),
  (2, .sipush 999, [], 999, []),
  (5, .invokestatic 80, [0, 3, 135], 0, [490]),
  (8, .ifCond .ne 37, [20], 0, []),
  (11, .iload_n 3, [3], 0, []),
  (12, .iconst 0, [], 0, []),
  (13, .sipush 999, [], 999, []),
  (16, .invokestatic 80, [0, 3, 135], 0, [490]),
  (19, .ifCond .ne 26, [20], 0, []),
  (22, .iload_n 2, [2], 0, []),
  (23, .iconst 1, [], 1, []),
  (24, .sipush 1000, [], 1000, []),
  (27, .invokestatic 80, [0, 3, 135], 0, [490]),
  (30, .ifCond .ne 15, [20], 0, []),
  (33, .iload 4, [4], 0, []),
  (35, .iconst 1, [], 1, []),
  (36, .sipush 1000, [], 1000, []),
  (39, .invokestatic 80, [0, 3, 135], 0, [490]),
  (42, .ifCond .eq 5, [22], 0, []),
  (45, .iconst (-1), [], (-1), []),
  (46, .ireturn, [0], 0, []),
  (47, .iconst 0, [], 0, []),
  (48, .istore 5, [5], 0, []),
  (50, .iload 5, [5], 0, []),
  (52, .sipush 2000, [], 2000, []),
  (55, .if_icmp .ge 36, [46], 0, []),
  (58, .iload_n 1, [1], 0, []),
  (59, .iload 5, [5], 0, []),
  (61, .iload_n 2, [2], 0, []),
  (62, .imul, [], 0, []),
  (63, .iadd, [], 0, []),
  (64, .istore 6, [6], 0, []),
  (66, .iload 6, [6], 0, []),
  (68, .iload_n 3, [3], 0, []),
  (69, .if_icmp .lt 16, [44], 0, []),
  (72, .iload 6, [6], 0, []),
  (74, .iload_n 3, [3], 0, []),
  (75, .isub, [], 0, []),
  (76, .iload 4, [4], 0, []),
  (78, .irem, [], 0, []),
  (79, .ifCond .ne 6, [44], 0, []),
  (82, .iload 6, [6], 0, []),
  (84, .ireturn, [0], 0, []),
  (85, .iinc 5 1, [5], 1, []),
  (88, .goto (-38), [24], 0, []),
  (91, .bipush (-2), [], (-2), []),
  (93, .ireturn, [0], 0, [])]
def cd_X11_tent : List am_E := [
  (0, .iload_n 1, [1], 0, []),
  (1, .iconst 2, [], 2, []),
  (2, .bipush 20, [], 20, []),
  (4, .invokestatic 80, [0, 3, 135], 0, [490]),
  (7, .ifCond .ne 23, [15], 0, []),
  (10, .iload_n 2, [2], 0, []),
  (11, .iconst 0, [], 0, []),
  (12, .iconst 1, [], 1, []),
  (13, .invokestatic 80, [0, 3, 135], 0, [490]),
  (16, .ifCond .ne 14, [15], 0, []),
  (19, .aload_n 0, [0], 0, []),
  (20, .getfield 10, [0, 2, 10], 0, [443]),
  (23, .iload_n 1, [1], 0, []),
  (24, .invokevirtual 108, [1, 2, 7, 83], 0, [517, 0, 0, 519]),
  (27, .ifCond .ne 5, [17], 0, []),
  (30, .iconst (-1), [], (-1), []),
  (31, .ireturn, [0], 0, []),
  (32, .aload_n 0, [0], 0, []),
  (33, .getfield 76, [10, 2, 10], 0, [453]),
  (36, .iload_n 1, [1], 0, []),
  (37, .invokevirtual 257, [1, 2, 0, 13], 0, [1140, 0, 0, 1142]),
  (40, .aload_n 0, [0], 0, []),
  (41, .getfield 10, [0, 2, 10], 0, [443]),
  (44, .invokevirtual 116, [1, 1, 7, 86], 0, [775, 0, 0, 777]),
  (47, .iload_n 2, [2], 0, []),
  (48, .ifCond .ne 13, [30], 0, []),
  (51, .aload_n 0, [0], 0, []),
  (52, .getfield 76, [10, 2, 10], 0, [453]),
  (55, .getfield 231, [9, 0, 0], 0, [416]),
  (58, .goto 10, [33], 0, []),
  (61, .aload_n 0, [0], 0, []),
  (62, .getfield 76, [10, 2, 10], 0, [453]),
  (65, .getfield 228, [8, 0, 0], 0, [414]),
  (68, .ireturn, [0], 0, [])]
def cd_X11_stairs : List am_E := [
  (0, .iload_n 1, [1], 0, []),
  (1, .iconst 1, [], 1, []),
  (2, .bipush 40, [], 40, []),
  (4, .invokestatic 80, [0, 3, 135], 0, [490]),
  (7, .ifCond .ne 22, [15], 0, []),
  (10, .iload_n 2, [2], 0, []),
  (11, .iconst 3, [], 3, []),
  (12, .iconst 5, [], 5, []),
  (13, .invokestatic 80, [0, 3, 135], 0, [490]),
  (16, .ifCond .ne 13, [15], 0, []),
  (19, .iload_n 3, [3], 0, []),
  (20, .iconst 0, [], 0, []),
  (21, .bipush 40, [], 40, []),
  (23, .invokestatic 80, [0, 3, 135], 0, [490]),
  (26, .ifCond .eq 7, [17], 0, []),
  (29, .ldc2_w 260, [], 0, [1149]),
  (32, .lreturn, [], 0, []),
  (33, .aload_n 0, [0], 0, []),
  (34, .getfield 76, [10, 2, 10], 0, [453]),
  (37, .iload_n 1, [1], 0, []),
  (38, .iload_n 2, [2], 0, []),
  (39, .iload_n 3, [3], 0, []),
  (40, .invokevirtual 262, [1, 4, 0, 14], 0, [1150, 0, 0, 1152]),
  (43, .lreturn, [], 0, [])]
def cd_X11_heralds : List am_E := [
  (0, .iload_n 1, [1], 0, []),
  (1, .iconst 0, [], 0, []),
  (2, .bipush 10, [], 10, []),
  (4, .invokestatic 80, [0, 3, 135], 0, [490]),
  (7, .ifCond .ne 13, [10], 0, []),
  (10, .iload_n 2, [2], 0, []),
  (11, .iconst 0, [], 0, []),
  (12, .bipush 10, [], 10, []),
  (14, .invokestatic 80, [0, 3, 135], 0, [490]),
  (17, .ifCond .eq 5, [12], 0, []),
  (20, .iconst (-1), [], (-1), []),
  (21, .ireturn, [0], 0, []),
  (22, .iconst 1, [], 1, []),
  (23, .istore_n 3, [3], 0, []),
  (24, .iconst 1, [], 1, []),
  (25, .istore 4, [4], 0, []),
  (27, .iload 4, [4], 0, []),
  (29, .iload_n 2, [2], 0, []),
  (30, .if_icmp .gt 19, [29], 0, []),
  (33, .iload_n 3, [3], 0, []),
  (34, .iload_n 1, [1], 0, []),
  (35, .iload 4, [4], 0, []),
  (37, .iadd, [], 0, []),
  (38, .imul, [], 0, []),
  (39, .iload 4, [4], 0, []),
  (41, .idiv, [], 0, []),
  (42, .istore_n 3, [3], 0, []),
  (43, .iinc 4 1, [4], 1, []),
  (46, .goto (-19), [16], 0, []),
  (49, .iload_n 3, [3], 0, []),
  (50, .ireturn, [0], 0, [])]
def cd_X11_seed : List am_E := [
  (0, .iload_n 1, [1], 0, []),
  (1, .iconst 0, [], 0, []),
  (2, .ldc_w 266, [], 65535, [1169]),
  (5, .invokestatic 80, [0, 3, 135], 0, [490]),
  (8, .ifCond .eq 5, [7], 0, []),
  (11, .iconst 0, [], 0, []),
  (12, .ireturn, [1], 0, []),
  (13, .aload_n 0, [0], 0, []),
  (14, .getfield 56, [6, 2, 10], 0, [449]),
  (17, .iload_n 1, [1], 0, []),
  (18, .putfield 267, [3, 0, 5], 0, [357]),
  (21, .iconst 1, [], 1, []),
  (22, .ireturn, [1], 0, [])]
def cd_X11_keep : List am_E := [
  (0, .aload_n 0, [0], 0, []),
  (1, .getfield 63, [8, 2, 10], 0, [451]),
  (4, .aload_n 0, [0], 0, []),
  (5, .getfield 56, [6, 2, 10], 0, [449]),
  (8, .invokevirtual 139, [1, 2, 5, 63], 0, [930, 0, 0, 932]),
  (11, .aload_n 0, [0], 0, []),
  (12, .iconst 1, [], 1, []),
  (13, .putfield 270, [11, 1, 10], 0, [454]),
  (16, .aload_n 0, [0], 0, []),
  (17, .getfield 56, [6, 2, 10], 0, [449]),
  (20, .getfield 273, [2, 0, 5], 0, [355]),
  (23, .ireturn, [0], 0, [])]
def cd_X11_undo : List am_E := [
  (0, .aload_n 0, [0], 0, []),
  (1, .getfield 270, [11, 0, 10], 0, [454]),
  (4, .ifCond .ne 5, [5], 0, []),
  (7, .iconst 0, [], 0, []),
  (8, .ireturn, [1], 0, []),
  (9, .aload_n 0, [0], 0, []),
  (10, .getfield 56, [6, 2, 10], 0, [449]),
  (13, .aload_n 0, [0], 0, []),
  (14, .getfield 63, [8, 2, 10], 0, [451]),
  (17, .invokevirtual 139, [1, 2, 5, 63], 0, [930, 0, 0, 932]),
  (20, .iconst 1, [], 1, []),
  (21, .ireturn, [1], 0, [])]
def cd_X11_check : List am_E := [
  (0, .aload_n 0, [0], 0, []),
  (1, .getfield 10, [0, 2, 10], 0, [443]),
  (4, .iconst 4, [], 4, []),
  (5, .invokevirtual 108, [1, 2, 7, 83], 0, [517, 0, 0, 519]),
  (8, .ifCond .ne 6, [7], 0, []),
  (11, .bipush (-2), [], (-2), []),
  (13, .ireturn, [0], 0, []),
  (14, .iconst (-1), [], (-1), []),
  (15, .istore_n 1, [1], 0, []),
  (16, .iconst 3, [], 3, []),
  (17, .istore_n 2, [2], 0, []),
  (18, .iload_n 2, [2], 0, []),
  (19, .ifCond .lt 57, [41], 0, []),
  (22, .aload_n 0, [0], 0, []),
  (23, .getfield 56, [6, 2, 10], 0, [449]),
  (26, .iload_n 2, [2], 0, []),
  (27, .iconst 2, [], 2, []),
  (28, .irem, [], 0, []),
  (29, .invokevirtual 84, [1, 2, 5, 62], 0, [493, 0, 0, 495]),
  (32, .astore_n 3, [3], 0, []),
  (33, .iload_n 2, [2], 0, []),
  (34, .iconst 2, [], 2, []),
  (35, .if_icmp .ge 10, [26], 0, []),
  (38, .aload_n 3, [3], 0, []),
  (39, .getfield 157, [1, 0, 1], 0, [308]),
  (42, .goto 11, [30], 0, []),
  (45, .aload_n 3, [3], 0, []),
  (46, .getfield 160, [2, 0, 1], 0, [311]),
  (49, .sipush 256, [], 256, []),
  (52, .irem, [], 0, []),
  (53, .istore 4, [4], 0, []),
  (55, .iload 4, [4], 0, []),
  (57, .aload_n 0, [0], 0, []),
  (58, .getfield 10, [0, 2, 10], 0, [443]),
  (61, .iload_n 2, [2], 0, []),
  (62, .invokevirtual 276, [1, 2, 7, 85], 0, [1182, 0, 0, 657]),
  (65, .if_icmp .eq 5, [39], 0, []),
  (68, .iload_n 2, [2], 0, []),
  (69, .istore_n 1, [1], 0, []),
  (70, .iinc 2 (-1), [2], (-1), []),
  (73, .goto (-55), [11], 0, []),
  (76, .aload_n 0, [0], 0, []),
  (77, .getfield 10, [0, 2, 10], 0, [443]),
  (80, .invokevirtual 116, [1, 1, 7, 86], 0, [775, 0, 0, 777]),
  (83, .iload_n 1, [1], 0, []),
  (84, .ireturn, [0], 0, [])]
def cd_X11_count : List am_E := [
  (0, .iload_n 1, [1], 0, []),
  (1, .tableswitch 137 0 9 #[55, 63, 79, 87, 95, 103, 111, 119, 124, 129], [44, 2, 6, 14, 18, 22, 26, 30, 34, 37, 40], 0, []),
  (56, .aload_n 0, [0], 0, []),
  (57, .getfield 56, [6, 2, 10], 0, [449]),
  (60, .getfield 273, [2, 0, 5], 0, [355]),
  (63, .ireturn, [0], 0, []),
  (64, .aload_n 0, [0], 0, []),
  (65, .getfield 56, [6, 2, 10], 0, [449]),
  (68, .invokevirtual 142, [1, 1, 5, 65], 0, [938, 0, 0, 865]),
  (71, .ifCond .eq 7, [12], 0, []),
  (74, .iconst 1, [], 1, []),
  (75, .goto 4, [13], 0, []),
  (78, .iconst 0, [], 0, []),
  (79, .ireturn, [0], 0, []),
  (80, .aload_n 0, [0], 0, []),
  (81, .getfield 56, [6, 2, 10], 0, [449]),
  (84, .invokevirtual 146, [1, 1, 5, 66], 0, [939, 0, 0, 873]),
  (87, .ireturn, [0], 0, []),
  (88, .aload_n 0, [0], 0, []),
  (89, .getfield 42, [4, 2, 10], 0, [447]),
  (92, .getfield 279, [3, 0, 8], 0, [247]),
  (95, .ireturn, [0], 0, []),
  (96, .aload_n 0, [0], 0, []),
  (97, .getfield 19, [1, 2, 10], 0, [444]),
  (100, .getfield 282, [7, 0, 3], 0, [152]),
  (103, .ireturn, [0], 0, []),
  (104, .aload_n 0, [0], 0, []),
  (105, .getfield 10, [0, 2, 10], 0, [443]),
  (108, .getfield 101, [1, 0, 7], 0, [131]),
  (111, .ireturn, [0], 0, []),
  (112, .aload_n 0, [0], 0, []),
  (113, .getfield 56, [6, 2, 10], 0, [449]),
  (116, .getfield 267, [3, 0, 5], 0, [357]),
  (119, .ireturn, [0], 0, []),
  (120, .aload_n 0, [0], 0, []),
  (121, .getfield 94, [12, 0, 10], 0, [455]),
  (124, .ireturn, [0], 0, []),
  (125, .aload_n 0, [0], 0, []),
  (126, .getfield 98, [13, 0, 10], 0, [456]),
  (129, .ireturn, [0], 0, []),
  (130, .aload_n 0, [0], 0, []),
  (131, .getfield 42, [4, 2, 10], 0, [447]),
  (134, .getfield 285, [4, 0, 8], 0, [249]),
  (137, .ireturn, [0], 0, []),
  (138, .iconst (-1), [], (-1), []),
  (139, .ireturn, [0], 0, [])]
def cd_X11_goesBy : List am_E := [
  (0, .aload_n 1, [1], 0, []),
  (1, .aload_n 0, [0], 0, []),
  (2, .getfield 19, [1, 2, 10], 0, [444]),
  (5, .aload_n 0, [0], 0, []),
  (6, .getfield 94, [12, 0, 10], 0, [455]),
  (9, .aload_n 0, [0], 0, []),
  (10, .getfield 98, [13, 0, 10], 0, [456]),
  (13, .invokevirtual 288, [1, 4, 5, 69], 0, [859, 0, 0, 861]),
  (16, .ireturn, [1], 0, [])]
def cd_X11_triedKing : List am_E := [
  (0, .iload_n 1, [1], 0, []),
  (1, .lookupswitch 37 #[(1, 27), (2, 32)], [8, 1, 2, 2, 5], 0, []),
  (28, .aload_n 0, [0], 0, []),
  (29, .getfield 154, [0, 0, 1], 0, [304]),
  (32, .ireturn, [0], 0, []),
  (33, .aload_n 0, [0], 0, []),
  (34, .getfield 160, [2, 0, 1], 0, [311]),
  (37, .ireturn, [0], 0, []),
  (38, .aload_n 0, [0], 0, []),
  (39, .getfield 157, [1, 0, 1], 0, [308]),
  (42, .ireturn, [0], 0, [])]
def cd_X11_outside : List am_E := [
  (0, .iload_n 0, [0], 0, []),
  (1, .iload_n 1, [1], 0, []),
  (2, .if_icmp .lt 8, [6], 0, []),
  (5, .iload_n 0, [0], 0, []),
  (6, .iload_n 2, [2], 0, []),
  (7, .if_icmp .le 7, [8], 0, []),
  (10, .iconst 1, [], 1, []),
  (11, .goto 4, [9], 0, []),
  (14, .iconst 0, [], 0, []),
  (15, .ireturn, [1], 0, [])]
def cd_X11_whoOfBits : List am_E := [
  (0, .iload_n 0, [0], 0, []),
  (1, .iconst 1, [], 1, []),
  (2, .isub, [], 0, []),
  (3, .ireturn, [0], 0, [])]
def cd_X12_init : List am_E := [
  (0, .aload_n 0, [0], 0, []),
  (1, .invokespecial 1, [2, 0], 0, [1192]),
  (4, .aload_n 0, [0], 0, []),
  (5, .bipush 14, [], 14, []),
  (7, .newarray .int, [100, 14], 14, [137]),
  (9, .putfield 7, [0, 2, 11], 0, [1193]),
  (12, .aload_n 0, [0], 0, []),
  (13, .bipush 14, [], 14, []),
  (15, .newarray .int, [100, 14], 14, [137]),
  (17, .putfield 13, [1, 2, 11], 0, [1194]),
  (20, .aload_n 0, [0], 0, []),
  (21, .bipush 14, [], 14, []),
  (23, .newarray .int, [100, 14], 14, [137]),
  (25, .putfield 16, [2, 2, 11], 0, [1195]),
  (28, .aload_n 0, [0], 0, []),
  (29, .sipush 260, [], 260, []),
  (32, .newarray .byte, [102, 260], 260, [786]),
  (34, .putfield 19, [5, 2, 11], 0, [1198]),
  (37, .aload_n 0, [0], 0, []),
  (38, .sipush 260, [], 260, []),
  (41, .newarray .int, [100, 260], 260, [137]),
  (43, .putfield 23, [16, 2, 11], 0, [1209]),
  (46, .aload_n 0, [0], 0, []),
  (47, .sipush 260, [], 260, []),
  (50, .newarray .int, [100, 260], 260, [137]),
  (52, .putfield 26, [17, 2, 11], 0, [1210]),
  (55, .aload_n 0, [0], 0, []),
  (56, .bipush 16, [], 16, []),
  (58, .newarray .int, [100, 16], 16, [137]),
  (60, .putfield 29, [18, 2, 11], 0, [1211]),
  (63, .aload_n 0, [0], 0, []),
  (64, .bipush 16, [], 16, []),
  (66, .newarray .int, [100, 16], 16, [137]),
  (68, .putfield 32, [19, 2, 11], 0, [1212]),
  (71, .aload_n 0, [0], 0, []),
  (72, .bipush 16, [], 16, []),
  (74, .newarray .int, [100, 16], 16, [137]),
  (76, .putfield 35, [20, 2, 11], 0, [1213]),
  (79, .aload_n 0, [0], 0, []),
  (80, .bipush 16, [], 16, []),
  (82, .newarray .int, [100, 16], 16, [137]),
  (84, .putfield 38, [21, 2, 11], 0, [1214]),
  (87, .aload_n 0, [0], 0, []),
  (88, .sipush 260, [], 260, []),
  (91, .newarray .int, [100, 260], 260, [137]),
  (93, .putfield 41, [22, 2, 11], 0, [1215]),
  (96, .aload_n 0, [0], 0, []),
  (97, .bipush 16, [], 16, []),
  (99, .newarray .int, [100, 16], 16, [137]),
  (101, .putfield 44, [23, 2, 11], 0, [1216]),
  (104, .aload_n 0, [0], 0, []),
  (105, .bipush 16, [], 16, []),
  (107, .newarray .int, [100, 16], 16, [137]),
  (109, .putfield 47, [24, 2, 11], 0, [1217]),
  (112, .aload_n 0, [0], 0, []),
  (113, .bipush 16, [], 16, []),
  (115, .newarray .int, [100, 16], 16, [137]),
  (117, .putfield 50, [25, 2, 11], 0, [1218]),
  (120, .aload_n 0, [0], 0, []),
  (121, .bipush 16, [], 16, []),
  (123, .newarray .int, [100, 16], 16, [137]),
  (125, .putfield 53, [26, 2, 11], 0, [1219]),
  (128, .aload_n 0, [0], 0, []),
  (129, .sipush 260, [], 260, []),
  (132, .newarray .int, [100, 260], 260, [137]),
  (134, .putfield 56, [27, 2, 11], 0, [1220]),
  (137, .aload_n 0, [0], 0, []),
  (138, .bipush 10, [], 10, []),
  (140, .newarray .int, [100, 10], 10, [137]),
  (142, .putfield 59, [28, 2, 11], 0, [1221]),
  (145, .aload_n 0, [0], 0, []),
  (146, .iconst 2, [], 2, []),
  (147, .newarray .int, [100, 2], 2, [137]),
  (149, .putfield 62, [30, 2, 11], 0, [1223]),
  (152, .aload_n 0, [0], 0, []),
  (153, .iconst 2, [], 2, []),
  (154, .newarray .int, [100, 2], 2, [137]),
  (156, .putfield 65, [31, 2, 11], 0, [1224]),
  (159, .aload_n 0, [0], 0, []),
  (160, .iconst 2, [], 2, []),
  (161, .newarray .int, [100, 2], 2, [137]),
  (163, .putfield 68, [32, 2, 11], 0, [1225]),
  (166, .aload_n 0, [0], 0, []),
  (167, .iconst 2, [], 2, []),
  (168, .newarray .int, [100, 2], 2, [137]),
  (170, .putfield 71, [33, 2, 11], 0, [1226]),
  (173, .aload_n 0, [0], 0, []),
  (174, .iconst 2, [], 2, []),
  (175, .newarray .int, [100, 2], 2, [137]),
  (177, .putfield 74, [34, 2, 11], 0, [1227]),
  (180, .aload_n 0, [0], 0, []),
  (181, .iconst 3, [], 3, []),
  (182, .newarray .int, [100, 3], 3, [137]),
  (184, .putfield 77, [35, 2, 11], 0, [1228]),
  (187, .aload_n 0, [0], 0, []),
  (188, .iconst 2, [], 2, []),
  (189, .newarray .boolean, [101, 2], 2, [1383]),
  (191, .putfield 80, [36, 2, 11], 0, [1229]),
  (194, .aload_n 0, [0], 0, []),
  (195, .iconst 2, [], 2, []),
  (196, .newarray .boolean, [101, 2], 2, [1383]),
  (198, .putfield 84, [37, 2, 11], 0, [1230]),
  (201, .aload_n 0, [0], 0, []),
  (202, .bipush 24, [], 24, []),
  (204, .newarray .int, [100, 24], 24, [137]),
  (206, .putfield 87, [41, 2, 11], 0, [1234]),
  (209, .aload_n 0, [0], 0, []),
  (210, .bipush 24, [], 24, []),
  (212, .newarray .int, [100, 24], 24, [137]),
  (214, .putfield 90, [42, 2, 11], 0, [1235]),
  (217, .aload_n 0, [0], 0, []),
  (218, .bipush 24, [], 24, []),
  (220, .newarray .int, [100, 24], 24, [137]),
  (222, .putfield 93, [43, 2, 11], 0, [1236]),
  (225, .aload_n 0, [0], 0, []),
  (226, .bipush 24, [], 24, []),
  (228, .newarray .int, [100, 24], 24, [137]),
  (230, .putfield 96, [44, 2, 11], 0, [1237]),
  (233, .aload_n 0, [0], 0, []),
  (234, .bipush 16, [], 16, []),
  (236, .newarray .int, [100, 16], 16, [137]),
  (238, .putfield 99, [45, 2, 11], 0, [1238]),
  (241, .aload_n 0, [0], 0, []),
  (242, .bipush 24, [], 24, []),
  (244, .newarray .boolean, [101, 24], 24, [1383]),
  (246, .putfield 102, [46, 2, 11], 0, [1239]),
  (249, .aload_n 0, [0], 0, []),
  (250, .bipush 24, [], 24, []),
  (252, .newarray .boolean, [101, 24], 24, [1383]),
  (254, .putfield 105, [47, 2, 11], 0, [1240]),
  (257, .aload_n 0, [0], 0, []),
  (258, .sipush 19683, [], 19683, []),
  (261, .newarray .int, [100, 19683], 19683, [137]),
  (263, .putfield 108, [50, 2, 11], 0, [1243]),
  (266, .aload_n 0, [0], 0, []),
  (267, .sipush 19683, [], 19683, []),
  (270, .newarray .int, [100, 19683], 19683, [137]),
  (272, .putfield 111, [51, 2, 11], 0, [1244]),
  (275, .aload_n 0, [0], 0, []),
  (276, .sipush 19683, [], 19683, []),
  (279, .newarray .int, [100, 19683], 19683, [137]),
  (281, .putfield 114, [52, 2, 11], 0, [1245]),
  (284, .aload_n 0, [0], 0, []),
  (285, .bipush 10, [], 10, []),
  (287, .newarray .int, [100, 10], 10, [137]),
  (289, .putfield 117, [53, 2, 11], 0, [1246]),
  (292, .aload_n 0, [0], 0, []),
  (293, .bipush 9, [], 9, []),
  (295, .newarray .int, [100, 9], 9, [137]),
  (297, .putfield 120, [54, 2, 11], 0, [1247]),
  (300, .aload_n 0, [0], 0, []),
  (301, .bipush 121, [], 121, []),
  (303, .newarray .int, [100, 121], 121, [137]),
  (305, .putfield 123, [55, 2, 11], 0, [1248]),
  (308, .aload_n 0, [0], 0, []),
  (309, .sipush 256, [], 256, []),
  (312, .newarray .int, [100, 256], 256, [137]),
  (314, .putfield 126, [56, 2, 11], 0, [1249]),
  (317, .aload_n 0, [0], 0, []),
  (318, .bipush 6, [], 6, []),
  (320, .newarray .int, [100, 6], 6, [137]),
  (322, .putfield 129, [57, 2, 11], 0, [1250]),
  (325, .aload_n 0, [0], 0, []),
  (326, .bipush 6, [], 6, []),
  (328, .newarray .int, [100, 6], 6, [137]),
  (330, .putfield 132, [58, 2, 11], 0, [1251]),
  (333, .aload_n 0, [0], 0, []),
  (334, .sipush 1681, [], 1681, []),
  (337, .newarray .long, [103, 1681], 1681, [442]),
  (339, .putfield 135, [61, 2, 11], 0, [1254]),
  (342, .aload_n 0, [0], 0, []),
  (343, .getfield 7, [0, 2, 11], 0, [1193]),
  (346, .bipush 13, [], 13, []),
  (348, .iconst 1, [], 1, []),
  (349, .iastore, [], 0, []),
  (350, .aload_n 0, [0], 0, []),
  (351, .getfield 7, [0, 2, 11], 0, [1193]),
  (354, .bipush 6, [], 6, []),
  (356, .iconst 1, [], 1, []),
  (357, .iastore, [], 0, []),
  (358, .aload_n 0, [0], 0, []),
  (359, .getfield 7, [0, 2, 11], 0, [1193]),
  (362, .bipush 7, [], 7, []),
  (364, .iconst 1, [], 1, []),
  (365, .iastore, [], 0, []),
  (366, .return_, [], 0, [])]
def cd_X12_in : List am_E := [
  (0, .iload_n 0, [0], 0, []),
  (1, .iload_n 1, [1], 0, []),
  (2, .if_icmp .lt 12, [8], 0, []),
  (5, .iload_n 0, [0], 0, []),
  (6, .iload_n 2, [2], 0, []),
  (7, .if_icmp .gt 7, [8], 0, []),
  (10, .iconst 1, [], 1, []),
  (11, .goto 4, [9], 0, []),
  (14, .iconst 0, [], 0, []),
  (15, .ireturn, [1], 0, [])]
def cd_X12_min : List am_E := [
  (0, .iload_n 0, [0], 0, []),
  (1, .iload_n 1, [1], 0, []),
  (2, .if_icmp .ge 7, [5], 0, []),
  (5, .iload_n 0, [0], 0, []),
  (6, .goto 4, [6], 0, []),
  (9, .iload_n 1, [1], 0, []),
  (10, .ireturn, [0], 0, [])]
def cd_X12_max : List am_E := [
  (0, .iload_n 0, [0], 0, []),
  (1, .iload_n 1, [1], 0, []),
  (2, .if_icmp .le 7, [5], 0, []),
  (5, .iload_n 0, [0], 0, []),
  (6, .goto 4, [6], 0, []),
  (9, .iload_n 1, [1], 0, []),
  (10, .ireturn, [0], 0, [])]
def cd_X12_size : List am_E := [
  (0, .iload_n 0, [0], 0, []),
  (1, .ifCond .ge 8, [5], 0, []),
  (4, .iload_n 0, [0], 0, []),
  (5, .ineg, [], 0, []),
  (6, .goto 4, [6], 0, []),
  (9, .iload_n 0, [0], 0, []),
  (10, .ireturn, [0], 0, [])]
def cd_X12_has : List am_E := [
  (0, .iload_n 0, [0], 0, []),
  (1, .iload_n 1, [1], 0, []),
  (2, .ishr, [], 0, []),
  (3, .iconst 1, [], 1, []),
  (4, .iand, [], 0, []),
  (5, .iconst 1, [], 1, []),
  (6, .if_icmp .ne 7, [9], 0, []),
  (9, .iconst 1, [], 1, []),
  (10, .goto 4, [10], 0, []),
  (13, .iconst 0, [], 0, []),
  (14, .ireturn, [1], 0, [])]
def cd_X12_bits : List am_E := [
  (0, .iconst 0, [], 0, []),
  (1, .istore_n 1, [1], 0, []),
  (2, .iconst 0, [], 0, []),
  (3, .istore_n 2, [2], 0, []),
  (4, .iload_n 2, [2], 0, []),
  (5, .bipush 16, [], 16, []),
  (7, .if_icmp .ge 17, [17], 0, []),
  (10, .iload_n 1, [1], 0, []),
  (11, .iload_n 0, [0], 0, []),
  (12, .iload_n 2, [2], 0, []),
  (13, .ishr, [], 0, []),
  (14, .iconst 1, [], 1, []),
  (15, .iand, [], 0, []),
  (16, .iadd, [], 0, []),
  (17, .istore_n 1, [1], 0, []),
  (18, .iinc 2 1, [2], 1, []),
  (21, .goto (-17), [4], 0, []),
  (24, .iload_n 1, [1], 0, []),
  (25, .ireturn, [0], 0, [])]
def cd_X12_copies : List am_E := [
  (0, .iconst 0, [], 0, []),
  (1, .istore_n 2, [2], 0, []),
  (2, .iload_n 2, [2], 0, []),
  (3, .bipush 14, [], 14, []),
  (5, .if_icmp .ge 15, [13], 0, []),
  (8, .aload_n 1, [1], 0, []),
  (9, .iload_n 2, [2], 0, []),
  (10, .aload_n 0, [0], 0, []),
  (11, .iload_n 2, [2], 0, []),
  (12, .iaload, [], 0, []),
  (13, .iastore, [], 0, []),
  (14, .iinc 2 1, [2], 1, []),
  (17, .goto (-15), [2], 0, []),
  (20, .return_, [], 0, [])]
def cd_X12_haveMet : List am_E := [
  (0, .aload_n 0, [0], 0, []),
  (1, .getfield 7, [0, 2, 11], 0, [1193]),
  (4, .iconst 0, [], 0, []),
  (5, .iaload, [], 0, []),
  (6, .ifCond .ne 16, [12], 0, []),
  (9, .aload_n 0, [0], 0, []),
  (10, .getfield 7, [0, 2, 11], 0, [1193]),
  (13, .iconst 1, [], 1, []),
  (14, .iaload, [], 0, []),
  (15, .ifCond .ne 7, [12], 0, []),
  (18, .iconst 1, [], 1, []),
  (19, .goto 4, [13], 0, []),
  (22, .iconst 0, [], 0, []),
  (23, .ireturn, [1], 0, [])]
def cd_X12_goneSet : List am_E := [
  (0, .aload_n 0, [0], 0, []),
  (1, .getfield 7, [0, 2, 11], 0, [1193]),
  (4, .bipush 10, [], 10, []),
  (6, .iaload, [], 0, []),
  (7, .iconst 2, [], 2, []),
  (8, .aload_n 0, [0], 0, []),
  (9, .getfield 7, [0, 2, 11], 0, [1193]),
  (12, .bipush 11, [], 11, []),
  (14, .iaload, [], 0, []),
  (15, .imul, [], 0, []),
  (16, .iadd, [], 0, []),
  (17, .ireturn, [0], 0, [])]
def cd_X12_king : List am_E := [
  (0, .iload_n 1, [1], 0, []),
  (1, .iconst 0, [], 0, []),
  (2, .iconst 1, [], 1, []),
  (3, .invokestatic 139, [0, 3, 138], 0, [1388]),
  (6, .ifCond .eq 14, [10], 0, []),
  (9, .iload_n 2, [2], 0, []),
  (10, .iconst 0, [], 0, []),
  (11, .sipush 999, [], 999, []),
  (14, .invokestatic 139, [0, 3, 138], 0, [1388]),
  (17, .ifCond .ne 5, [12], 0, []),
  (20, .iconst 0, [], 0, []),
  (21, .ireturn, [1], 0, []),
  (22, .aload_n 0, [0], 0, []),
  (23, .getfield 7, [0, 2, 11], 0, [1193]),
  (26, .iconst 0, [], 0, []),
  (27, .iload_n 1, [1], 0, []),
  (28, .iadd, [], 0, []),
  (29, .iload_n 2, [2], 0, []),
  (30, .iastore, [], 0, []),
  (31, .aload_n 0, [0], 0, []),
  (32, .getfield 7, [0, 2, 11], 0, [1193]),
  (35, .iconst 2, [], 2, []),
  (36, .iload_n 1, [1], 0, []),
  (37, .iadd, [], 0, []),
  (38, .iconst 0, [], 0, []),
  (39, .iastore, [], 0, []),
  (40, .aload_n 0, [0], 0, []),
  (41, .getfield 7, [0, 2, 11], 0, [1193]),
  (44, .iconst 4, [], 4, []),
  (45, .iload_n 1, [1], 0, []),
  (46, .iadd, [], 0, []),
  (47, .iconst 0, [], 0, []),
  (48, .iastore, [], 0, []),
  (49, .aload_n 0, [0], 0, []),
  (50, .getfield 7, [0, 2, 11], 0, [1193]),
  (53, .bipush 6, [], 6, []),
  (55, .iload_n 1, [1], 0, []),
  (56, .iadd, [], 0, []),
  (57, .iconst 1, [], 1, []),
  (58, .iastore, [], 0, []),
  (59, .aload_n 0, [0], 0, []),
  (60, .getfield 7, [0, 2, 11], 0, [1193]),
  (63, .bipush 8, [], 8, []),
  (65, .iload_n 1, [1], 0, []),
  (66, .iadd, [], 0, []),
  (67, .iload_n 3, [3], 0, []),
  (68, .ifCond .eq 7, [49], 0, []),
  (71, .iconst 1, [], 1, []),
  (72, .goto 4, [50], 0, []),
  (75, .iconst 0, [], 0, []),
  (76, .iastore, [], 0, []),
  (77, .aload_n 0, [0], 0, []),
  (78, .getfield 7, [0, 2, 11], 0, [1193]),
  (81, .bipush 10, [], 10, []),
  (83, .iload_n 1, [1], 0, []),
  (84, .iadd, [], 0, []),
  (85, .iconst 0, [], 0, []),
  (86, .iastore, [], 0, []),
  (87, .iconst 1, [], 1, []),
  (88, .ireturn, [1], 0, [])]
def cd_X12_tolerance : List am_E := [
  (0, .iload_n 1, [1], 0, []),
  (1, .iconst 0, [], 0, []),
  (2, .bipush 99, [], 99, []),
  (4, .invokestatic 139, [0, 3, 138], 0, [1388]),
  (7, .ifCond .eq 13, [10], 0, []),
  (10, .iload_n 2, [2], 0, []),
  (11, .iconst 0, [], 0, []),
  (12, .bipush 90, [], 90, []),
  (14, .invokestatic 139, [0, 3, 138], 0, [1388]),
  (17, .ifCond .ne 5, [12], 0, []),
  (20, .iconst 0, [], 0, []),
  (21, .ireturn, [1], 0, []),
  (22, .aload_n 0, [0], 0, []),
  (23, .iload_n 1, [1], 0, []),
  (24, .putfield 143, [3, 0, 11], 0, [1196]),
  (27, .aload_n 0, [0], 0, []),
  (28, .iload_n 2, [2], 0, []),
  (29, .putfield 147, [4, 0, 11], 0, [1197]),
  (32, .iconst 1, [], 1, []),
  (33, .ireturn, [1], 0, [])]
def cd_X12_types : List am_E := [
  (0, .iconst 3, [], 3, []),
  (1, .istore_n 2, [2], 0, []),
  (2, .iload_n 2, [2], 0, []),
  (3, .ifCond .lt 35, [23], 0, []),
  (6, .aload_n 0, [0], 0, []),
  (7, .getfield 19, [5, 2, 11], 0, [1198]),
  (10, .aload_n 0, [0], 0, []),
  (11, .getfield 150, [6, 0, 11], 0, [1199]),
  (14, .iload_n 1, [1], 0, []),
  (15, .bipush 8, [], 8, []),
  (17, .iload_n 2, [2], 0, []),
  (18, .imul, [], 0, []),
  (19, .ishr, [], 0, []),
  (20, .i2b, [], 0, []),
  (21, .bastore, [], 0, []),
  (22, .aload_n 0, [0], 0, []),
  (23, .aload_n 0, [0], 0, []),
  (24, .getfield 150, [6, 0, 11], 0, [1199]),
  (27, .iconst 1, [], 1, []),
  (28, .iadd, [], 0, []),
  (29, .putfield 150, [6, 0, 11], 0, [1199]),
  (32, .iinc 2 (-1), [2], (-1), []),
  (35, .goto (-33), [2], 0, []),
  (38, .return_, [], 0, [])]
def cd_X12_feed : List am_E := [
  (0, .aload_n 0, [0], 0, []),
  (1, .getfield 150, [6, 0, 11], 0, [1199]),
  (4, .bipush 20, [], 20, []),
  (6, .iadd, [], 0, []),
  (7, .sipush 260, [], 260, []),
  (10, .if_icmp .le 5, [8], 0, []),
  (13, .iconst (-1), [], (-1), []),
  (14, .ireturn, [0], 0, []),
  (15, .aload_n 0, [0], 0, []),
  (16, .iload_n 1, [1], 0, []),
  (17, .invokevirtual 153, [1, 2, 11, 149], 0, [1399, 0, 0, 34]),
  (20, .aload_n 0, [0], 0, []),
  (21, .iload_n 2, [2], 0, []),
  (22, .invokevirtual 153, [1, 2, 11, 149], 0, [1399, 0, 0, 34]),
  (25, .aload_n 0, [0], 0, []),
  (26, .iload_n 3, [3], 0, []),
  (27, .invokevirtual 153, [1, 2, 11, 149], 0, [1399, 0, 0, 34]),
  (30, .aload_n 0, [0], 0, []),
  (31, .iload 4, [4], 0, []),
  (33, .invokevirtual 153, [1, 2, 11, 149], 0, [1399, 0, 0, 34]),
  (36, .aload_n 0, [0], 0, []),
  (37, .iload 5, [5], 0, []),
  (39, .invokevirtual 153, [1, 2, 11, 149], 0, [1399, 0, 0, 34]),
  (42, .aload_n 0, [0], 0, []),
  (43, .getfield 150, [6, 0, 11], 0, [1199]),
  (46, .ireturn, [0], 0, [])]
def cd_X12_octet : List am_E := [
  (0, .aload_n 0, [0], 0, []),
  (1, .getfield 19, [5, 2, 11], 0, [1198]),
  (4, .iload_n 1, [1], 0, []),
  (5, .baload, [], 0, []),
  (6, .sipush 255, [], 255, []),
  (9, .iand, [], 0, []),
  (10, .ireturn, [0], 0, [])]
def cd_X12_here : List am_E := [
  (0, .aload_n 0, [0], 0, []),
  (1, .getfield 157, [7, 0, 11], 0, [1200]),
  (4, .aload_n 0, [0], 0, []),
  (5, .getfield 160, [8, 0, 11], 0, [1201]),
  (8, .if_icmp .ge 19, [13], 0, []),
  (11, .aload_n 0, [0], 0, []),
  (12, .getfield 19, [5, 2, 11], 0, [1198]),
  (15, .aload_n 0, [0], 0, []),
  (16, .getfield 157, [7, 0, 11], 0, [1200]),
  (19, .baload, [], 0, []),
  (20, .sipush 255, [], 255, []),
  (23, .iand, [], 0, []),
  (24, .goto 4, [14], 0, []),
  (27, .iconst (-1), [], (-1), []),
  (28, .ireturn, [0], 0, [])]
def cd_X12_isDigit : List am_E := [
  (0, .aload_n 0, [0], 0, []),
  (1, .invokevirtual 163, [1, 1, 11, 152], 0, [1415, 0, 0, 37]),
  (4, .bipush 48, [], 48, []),
  (6, .if_icmp .lt 16, [10], 0, []),
  (9, .aload_n 0, [0], 0, []),
  (10, .invokevirtual 163, [1, 1, 11, 152], 0, [1415, 0, 0, 37]),
  (13, .bipush 57, [], 57, []),
  (15, .if_icmp .gt 7, [10], 0, []),
  (18, .iconst 1, [], 1, []),
  (19, .goto 4, [11], 0, []),
  (22, .iconst 0, [], 0, []),
  (23, .ireturn, [1], 0, [])]
def cd_X12_wrongAt : List am_E := [
  (0, .aload_n 0, [0], 0, []),
  (1, .sipush (-1000), [], (-1000), []),
  (4, .iload_n 1, [1], 0, []),
  (5, .imul, [], 0, []),
  (6, .iload_n 2, [2], 0, []),
  (7, .isub, [], 0, []),
  (8, .putfield 167, [9, 0, 11], 0, [1202]),
  (11, .iconst 0, [], 0, []),
  (12, .ireturn, [1], 0, [])]
def cd_X12_takes : List am_E := [
  (0, .aload_n 0, [0], 0, []),
  (1, .invokevirtual 163, [1, 1, 11, 152], 0, [1415, 0, 0, 37]),
  (4, .iload_n 1, [1], 0, []),
  (5, .if_icmp .eq 13, [10], 0, []),
  (8, .aload_n 0, [0], 0, []),
  (9, .iconst 1, [], 1, []),
  (10, .aload_n 0, [0], 0, []),
  (11, .getfield 157, [7, 0, 11], 0, [1200]),
  (14, .invokevirtual 170, [1, 3, 11, 154], 0, [1419, 0, 0, 38]),
  (17, .ireturn, [1], 0, []),
  (18, .aload_n 0, [0], 0, []),
  (19, .aload_n 0, [0], 0, []),
  (20, .getfield 157, [7, 0, 11], 0, [1200]),
  (23, .iconst 1, [], 1, []),
  (24, .iadd, [], 0, []),
  (25, .putfield 157, [7, 0, 11], 0, [1200]),
  (28, .iconst 1, [], 1, []),
  (29, .ireturn, [1], 0, [])]
def cd_X12_readsNumber : List am_E := [
  (0, .aload_n 0, [0], 0, []),
  (1, .getfield 157, [7, 0, 11], 0, [1200]),
  (4, .istore_n 1, [1], 0, []),
  (5, .aload_n 0, [0], 0, []),
  (6, .iconst 0, [], 0, []),
  (7, .putfield 174, [10, 0, 11], 0, [1203]),
  (10, .aload_n 0, [0], 0, []),
  (11, .invokevirtual 177, [1, 1, 11, 153], 0, [1436, 0, 0, 42]),
  (14, .ifCond .eq 55, [39], 0, []),
  (17, .aload_n 0, [0], 0, []),
  (18, .getfield 157, [7, 0, 11], 0, [1200]),
  (21, .iload_n 1, [1], 0, []),
  (22, .iconst 5, [], 5, []),
  (23, .iadd, [], 0, []),
  (24, .if_icmp .ne 13, [21], 0, []),
  (27, .aload_n 0, [0], 0, []),
  (28, .iconst 2, [], 2, []),
  (29, .aload_n 0, [0], 0, []),
  (30, .getfield 157, [7, 0, 11], 0, [1200]),
  (33, .invokevirtual 170, [1, 3, 11, 154], 0, [1419, 0, 0, 38]),
  (36, .ireturn, [1], 0, []),
  (37, .aload_n 0, [0], 0, []),
  (38, .bipush 10, [], 10, []),
  (40, .aload_n 0, [0], 0, []),
  (41, .getfield 174, [10, 0, 11], 0, [1203]),
  (44, .imul, [], 0, []),
  (45, .aload_n 0, [0], 0, []),
  (46, .invokevirtual 163, [1, 1, 11, 152], 0, [1415, 0, 0, 37]),
  (49, .iadd, [], 0, []),
  (50, .bipush 48, [], 48, []),
  (52, .isub, [], 0, []),
  (53, .putfield 174, [10, 0, 11], 0, [1203]),
  (56, .aload_n 0, [0], 0, []),
  (57, .aload_n 0, [0], 0, []),
  (58, .getfield 157, [7, 0, 11], 0, [1200]),
  (61, .iconst 1, [], 1, []),
  (62, .iadd, [], 0, []),
  (63, .putfield 157, [7, 0, 11], 0, [1200]),
  (66, .goto (-56), [6], 0, []),
  (69, .iconst 1, [], 1, []),
  (70, .ireturn, [1], 0, [])]
def cd_X12_notes : List am_E := [
  (0, .aload_n 0, [0], 0, []),
  (1, .getfield 23, [16, 2, 11], 0, [1209]),
  (4, .aload_n 0, [0], 0, []),
  (5, .getfield 181, [12, 0, 11], 0, [1205]),
  (8, .ldc 184, [], 1048576, [1435]),
  (10, .iload_n 1, [1], 0, []),
  (11, .imul, [], 0, []),
  (12, .iload_n 2, [2], 0, []),
  (13, .iadd, [], 0, []),
  (14, .iastore, [], 0, []),
  (15, .aload_n 0, [0], 0, []),
  (16, .aload_n 0, [0], 0, []),
  (17, .getfield 181, [12, 0, 11], 0, [1205]),
  (20, .iconst 1, [], 1, []),
  (21, .iadd, [], 0, []),
  (22, .putfield 181, [12, 0, 11], 0, [1205]),
  (25, .return_, [], 0, [])]
def cd_X12_opens : List am_E := [
  (0, .aload_n 0, [0], 0, []),
  (1, .getfield 185, [11, 0, 11], 0, [1204]),
  (4, .bipush 6, [], 6, []),
  (6, .if_icmp .ne 13, [10], 0, []),
  (9, .aload_n 0, [0], 0, []),
  (10, .iconst 5, [], 5, []),
  (11, .aload_n 0, [0], 0, []),
  (12, .getfield 157, [7, 0, 11], 0, [1200]),
  (15, .invokevirtual 170, [1, 3, 11, 154], 0, [1419, 0, 0, 38]),
  (18, .ireturn, [1], 0, []),
  (19, .aload_n 0, [0], 0, []),
  (20, .aload_n 0, [0], 0, []),
  (21, .getfield 185, [11, 0, 11], 0, [1204]),
  (24, .iconst 1, [], 1, []),
  (25, .iadd, [], 0, []),
  (26, .putfield 185, [11, 0, 11], 0, [1204]),
  (29, .aload_n 0, [0], 0, []),
  (30, .getfield 26, [17, 2, 11], 0, [1210]),
  (33, .aload_n 0, [0], 0, []),
  (34, .getfield 188, [13, 0, 11], 0, [1206]),
  (37, .ldc 184, [], 1048576, [1435]),
  (39, .iload_n 1, [1], 0, []),
  (40, .imul, [], 0, []),
  (41, .iastore, [], 0, []),
  (42, .aload_n 0, [0], 0, []),
  (43, .aload_n 0, [0], 0, []),
  (44, .getfield 188, [13, 0, 11], 0, [1206]),
  (47, .iconst 1, [], 1, []),
  (48, .iadd, [], 0, []),
  (49, .putfield 188, [13, 0, 11], 0, [1206]),
  (52, .aload_n 0, [0], 0, []),
  (53, .aload_n 0, [0], 0, []),
  (54, .getfield 157, [7, 0, 11], 0, [1200]),
  (57, .iconst 1, [], 1, []),
  (58, .iadd, [], 0, []),
  (59, .putfield 157, [7, 0, 11], 0, [1200]),
  (62, .iconst 1, [], 1, []),
  (63, .ireturn, [1], 0, [])]
def cd_X12_waitTop : List am_E := [
  (0, .aload_n 0, [0], 0, []),
  (1, .getfield 188, [13, 0, 11], 0, [1206]),
  (4, .ifCond .ne 7, [5], 0, []),
  (7, .iconst (-1), [], (-1), []),
  (8, .goto 17, [14], 0, []),
  (11, .aload_n 0, [0], 0, []),
  (12, .getfield 26, [17, 2, 11], 0, [1210]),
  (15, .aload_n 0, [0], 0, []),
  (16, .getfield 188, [13, 0, 11], 0, [1206]),
  (19, .iconst 1, [], 1, []),
  (20, .isub, [], 0, []),
  (21, .iaload, [], 0, []),
  (22, .ldc 184, [], 1048576, [1435]),
  (24, .idiv, [], 0, []),
  (25, .ireturn, [0], 0, [])]
def cd_X12_factOf : List am_E := [
  (0, .iload_n 0, [0], 0, []),
  (1, .tableswitch 127 97 118 #[118, 109, 111, 127, 127, 127, 127, 127, 127, 127, 103, 127, 127, 127, 113, 105, 107, 124, 127, 121, 127, 115], [22, 16, 8, 10, 22, 22, 22, 22, 22, 22, 22, 2, 22, 22, 22, 12, 4, 6, 20, 22, 18, 22, 14], 97, []),
  (104, .iconst 0, [], 0, []),
  (105, .ireturn, [0], 0, []),
  (106, .iconst 1, [], 1, []),
  (107, .ireturn, [0], 0, []),
  (108, .iconst 2, [], 2, []),
  (109, .ireturn, [0], 0, []),
  (110, .iconst 3, [], 3, []),
  (111, .ireturn, [0], 0, []),
  (112, .iconst 4, [], 4, []),
  (113, .ireturn, [0], 0, []),
  (114, .iconst 5, [], 5, []),
  (115, .ireturn, [0], 0, []),
  (116, .bipush 6, [], 6, []),
  (118, .ireturn, [0], 0, []),
  (119, .bipush 7, [], 7, []),
  (121, .ireturn, [0], 0, []),
  (122, .bipush 8, [], 8, []),
  (124, .ireturn, [0], 0, []),
  (125, .bipush 9, [], 9, []),
  (127, .ireturn, [0], 0, []),
  (128, .iconst (-1), [], (-1), []),
  (129, .ireturn, [0], 0, [])]
def cd_X12_sumSign : List am_E := [
  (0, .iload_n 0, [0], 0, []),
  (1, .bipush 43, [], 43, []),
  (3, .if_icmp .ne 7, [5], 0, []),
  (6, .iconst 2, [], 2, []),
  (7, .goto 45, [26], 0, []),
  (10, .iload_n 0, [0], 0, []),
  (11, .bipush 45, [], 45, []),
  (13, .if_icmp .ne 7, [10], 0, []),
  (16, .iconst 3, [], 3, []),
  (17, .goto 35, [26], 0, []),
  (20, .iload_n 0, [0], 0, []),
  (21, .bipush 42, [], 42, []),
  (23, .if_icmp .ne 7, [15], 0, []),
  (26, .iconst 4, [], 4, []),
  (27, .goto 25, [26], 0, []),
  (30, .iload_n 0, [0], 0, []),
  (31, .bipush 47, [], 47, []),
  (33, .if_icmp .ne 7, [20], 0, []),
  (36, .iconst 5, [], 5, []),
  (37, .goto 15, [26], 0, []),
  (40, .iload_n 0, [0], 0, []),
  (41, .bipush 37, [], 37, []),
  (43, .if_icmp .ne 8, [25], 0, []),
  (46, .bipush 6, [], 6, []),
  (48, .goto 4, [26], 0, []),
  (51, .iconst (-1), [], (-1), []),
  (52, .ireturn, [0], 0, [])]
def cd_X12_closesSums : List am_E := [
  (0, .aload_n 0, [0], 0, []),
  (1, .invokevirtual 191, [1, 1, 11, 159], 0, [1458, 0, 0, 46]),
  (4, .iconst 4, [], 4, []),
  (5, .if_icmp .lt 12, [8], 0, []),
  (8, .aload_n 0, [0], 0, []),
  (9, .invokevirtual 191, [1, 1, 11, 159], 0, [1458, 0, 0, 46]),
  (12, .bipush 6, [], 6, []),
  (14, .if_icmp .le 23, [18], 0, []),
  (17, .iload_n 1, [1], 0, []),
  (18, .ifCond .eq 41, [30], 0, []),
  (21, .aload_n 0, [0], 0, []),
  (22, .invokevirtual 191, [1, 1, 11, 159], 0, [1458, 0, 0, 46]),
  (25, .iconst 2, [], 2, []),
  (26, .if_icmp .eq 11, [18], 0, []),
  (29, .aload_n 0, [0], 0, []),
  (30, .invokevirtual 191, [1, 1, 11, 159], 0, [1458, 0, 0, 46]),
  (33, .iconst 3, [], 3, []),
  (34, .if_icmp .ne 25, [30], 0, []),
  (37, .aload_n 0, [0], 0, []),
  (38, .aload_n 0, [0], 0, []),
  (39, .invokevirtual 191, [1, 1, 11, 159], 0, [1458, 0, 0, 46]),
  (42, .iconst 0, [], 0, []),
  (43, .invokevirtual 194, [1, 3, 11, 157], 0, [1444, 0, 0, 44]),
  (46, .aload_n 0, [0], 0, []),
  (47, .aload_n 0, [0], 0, []),
  (48, .getfield 188, [13, 0, 11], 0, [1206]),
  (51, .iconst 1, [], 1, []),
  (52, .isub, [], 0, []),
  (53, .putfield 188, [13, 0, 11], 0, [1206]),
  (56, .goto (-56), [0], 0, []),
  (59, .return_, [], 0, [])]
def cd_X12_readsFactor : List am_E := [
  (0, .aload_n 0, [0], 0, []),
  (1, .invokevirtual 163, [1, 1, 11, 152], 0, [1415, 0, 0, 37]),
  (4, .bipush 91, [], 91, []),
  (6, .if_icmp .ne 14, [10], 0, []),
  (9, .aload_n 0, [0], 0, []),
  (10, .bipush 14, [], 14, []),
  (12, .invokevirtual 198, [1, 2, 11, 158], 0, [1431, 0, 0, 41]),
  (15, .ifCond .ne (-15), [0], 0, []),
  (18, .iconst 0, [], 0, []),
  (19, .ireturn, [1], 0, []),
  (20, .aload_n 0, [0], 0, []),
  (21, .invokevirtual 177, [1, 1, 11, 153], 0, [1436, 0, 0, 42]),
  (24, .ifCond .eq 23, [25], 0, []),
  (27, .aload_n 0, [0], 0, []),
  (28, .invokevirtual 202, [1, 1, 11, 156], 0, [1440, 0, 0, 43]),
  (31, .ifCond .ne 5, [18], 0, []),
  (34, .iconst 0, [], 0, []),
  (35, .ireturn, [1], 0, []),
  (36, .aload_n 0, [0], 0, []),
  (37, .iconst 0, [], 0, []),
  (38, .aload_n 0, [0], 0, []),
  (39, .getfield 174, [10, 0, 11], 0, [1203]),
  (42, .invokevirtual 194, [1, 3, 11, 157], 0, [1444, 0, 0, 44]),
  (45, .iconst 1, [], 1, []),
  (46, .ireturn, [1], 0, []),
  (47, .aload_n 0, [0], 0, []),
  (48, .invokevirtual 163, [1, 1, 11, 152], 0, [1415, 0, 0, 37]),
  (51, .invokestatic 205, [0, 1, 160], 0, [1448]),
  (54, .istore_n 1, [1], 0, []),
  (55, .iload_n 1, [1], 0, []),
  (56, .iconst (-1), [], (-1), []),
  (57, .if_icmp .ne 13, [38], 0, []),
  (60, .aload_n 0, [0], 0, []),
  (61, .iconst 1, [], 1, []),
  (62, .aload_n 0, [0], 0, []),
  (63, .getfield 157, [7, 0, 11], 0, [1200]),
  (66, .invokevirtual 170, [1, 3, 11, 154], 0, [1419, 0, 0, 38]),
  (69, .ireturn, [1], 0, []),
  (70, .aload_n 0, [0], 0, []),
  (71, .iconst 1, [], 1, []),
  (72, .iload_n 1, [1], 0, []),
  (73, .invokevirtual 194, [1, 3, 11, 157], 0, [1444, 0, 0, 44]),
  (76, .aload_n 0, [0], 0, []),
  (77, .aload_n 0, [0], 0, []),
  (78, .getfield 157, [7, 0, 11], 0, [1200]),
  (81, .iconst 1, [], 1, []),
  (82, .iadd, [], 0, []),
  (83, .putfield 157, [7, 0, 11], 0, [1200]),
  (86, .iconst 1, [], 1, []),
  (87, .ireturn, [1], 0, [])]
def cd_X12_hasOpenSum : List am_E := [
  (0, .iload_n 1, [1], 0, []),
  (1, .istore_n 2, [2], 0, []),
  (2, .iload_n 2, [2], 0, []),
  (3, .aload_n 0, [0], 0, []),
  (4, .getfield 188, [13, 0, 11], 0, [1206]),
  (7, .if_icmp .ge 25, [18], 0, []),
  (10, .aload_n 0, [0], 0, []),
  (11, .getfield 26, [17, 2, 11], 0, [1210]),
  (14, .iload_n 2, [2], 0, []),
  (15, .iaload, [], 0, []),
  (16, .ldc 184, [], 1048576, [1435]),
  (18, .idiv, [], 0, []),
  (19, .bipush 14, [], 14, []),
  (21, .if_icmp .ne 5, [16], 0, []),
  (24, .iconst 1, [], 1, []),
  (25, .ireturn, [1], 0, []),
  (26, .iinc 2 1, [2], 1, []),
  (29, .goto (-27), [2], 0, []),
  (32, .iconst 0, [], 0, []),
  (33, .ireturn, [1], 0, [])]
def cd_X12_readsSum : List am_E := [
  (0, .aload_n 0, [0], 0, []),
  (1, .getfield 188, [13, 0, 11], 0, [1206]),
  (4, .istore_n 1, [1], 0, []),
  (5, .aload_n 0, [0], 0, []),
  (6, .invokevirtual 209, [1, 1, 11, 163], 0, [1427, 0, 0, 40]),
  (9, .ifCond .ne 5, [8], 0, []),
  (12, .iconst 0, [], 0, []),
  (13, .ireturn, [1], 0, []),
  (14, .aload_n 0, [0], 0, []),
  (15, .invokevirtual 163, [1, 1, 11, 152], 0, [1415, 0, 0, 37]),
  (18, .invokestatic 212, [0, 1, 161], 0, [1451]),
  (21, .istore_n 2, [2], 0, []),
  (22, .iload_n 2, [2], 0, []),
  (23, .iconst (-1), [], (-1), []),
  (24, .if_icmp .eq 59, [48], 0, []),
  (27, .aload_n 0, [0], 0, []),
  (28, .iload_n 2, [2], 0, []),
  (29, .iconst 4, [], 4, []),
  (30, .if_icmp .ge 7, [21], 0, []),
  (33, .iconst 1, [], 1, []),
  (34, .goto 4, [22], 0, []),
  (37, .iconst 0, [], 0, []),
  (38, .invokevirtual 215, [1, 2, 11, 162], 0, [1454, 0, 0, 45]),
  (41, .aload_n 0, [0], 0, []),
  (42, .getfield 26, [17, 2, 11], 0, [1210]),
  (45, .aload_n 0, [0], 0, []),
  (46, .getfield 188, [13, 0, 11], 0, [1206]),
  (49, .ldc 184, [], 1048576, [1435]),
  (51, .iload_n 2, [2], 0, []),
  (52, .imul, [], 0, []),
  (53, .iastore, [], 0, []),
  (54, .aload_n 0, [0], 0, []),
  (55, .aload_n 0, [0], 0, []),
  (56, .getfield 188, [13, 0, 11], 0, [1206]),
  (59, .iconst 1, [], 1, []),
  (60, .iadd, [], 0, []),
  (61, .putfield 188, [13, 0, 11], 0, [1206]),
  (64, .aload_n 0, [0], 0, []),
  (65, .aload_n 0, [0], 0, []),
  (66, .getfield 157, [7, 0, 11], 0, [1200]),
  (69, .iconst 1, [], 1, []),
  (70, .iadd, [], 0, []),
  (71, .putfield 157, [7, 0, 11], 0, [1200]),
  (74, .aload_n 0, [0], 0, []),
  (75, .invokevirtual 209, [1, 1, 11, 163], 0, [1427, 0, 0, 40]),
  (78, .ifCond .ne 85, [93], 0, []),
  (81, .iconst 0, [], 0, []),
  (82, .ireturn, [1], 0, []),
  (83, .aload_n 0, [0], 0, []),
  (84, .invokevirtual 163, [1, 1, 11, 152], 0, [1415, 0, 0, 37]),
  (87, .bipush 93, [], 93, []),
  (89, .if_icmp .ne 49, [78], 0, []),
  (92, .aload_n 0, [0], 0, []),
  (93, .iload_n 1, [1], 0, []),
  (94, .invokevirtual 219, [1, 2, 11, 164], 0, [1462, 0, 0, 47]),
  (97, .ifCond .eq 41, [78], 0, []),
  (100, .aload_n 0, [0], 0, []),
  (101, .iconst 1, [], 1, []),
  (102, .invokevirtual 215, [1, 2, 11, 162], 0, [1454, 0, 0, 45]),
  (105, .aload_n 0, [0], 0, []),
  (106, .aload_n 0, [0], 0, []),
  (107, .getfield 188, [13, 0, 11], 0, [1206]),
  (110, .iconst 1, [], 1, []),
  (111, .isub, [], 0, []),
  (112, .putfield 188, [13, 0, 11], 0, [1206]),
  (115, .aload_n 0, [0], 0, []),
  (116, .aload_n 0, [0], 0, []),
  (117, .getfield 185, [11, 0, 11], 0, [1204]),
  (120, .iconst 1, [], 1, []),
  (121, .isub, [], 0, []),
  (122, .putfield 185, [11, 0, 11], 0, [1204]),
  (125, .aload_n 0, [0], 0, []),
  (126, .aload_n 0, [0], 0, []),
  (127, .getfield 157, [7, 0, 11], 0, [1200]),
  (130, .iconst 1, [], 1, []),
  (131, .iadd, [], 0, []),
  (132, .putfield 157, [7, 0, 11], 0, [1200]),
  (135, .goto 28, [93], 0, []),
  (138, .aload_n 0, [0], 0, []),
  (139, .iload_n 1, [1], 0, []),
  (140, .invokevirtual 219, [1, 2, 11, 164], 0, [1462, 0, 0, 47]),
  (143, .ifCond .eq 13, [88], 0, []),
  (146, .aload_n 0, [0], 0, []),
  (147, .iconst 1, [], 1, []),
  (148, .aload_n 0, [0], 0, []),
  (149, .getfield 157, [7, 0, 11], 0, [1200]),
  (152, .invokevirtual 170, [1, 3, 11, 154], 0, [1419, 0, 0, 38]),
  (155, .ireturn, [1], 0, []),
  (156, .aload_n 0, [0], 0, []),
  (157, .iconst 1, [], 1, []),
  (158, .invokevirtual 215, [1, 2, 11, 162], 0, [1454, 0, 0, 45]),
  (161, .iconst 1, [], 1, []),
  (162, .ireturn, [1], 0, []),
  (163, .goto (-149), [8], 0, [])]
def cd_X12_endsPiece : List am_E := [
  (0, .aload_n 0, [0], 0, []),
  (1, .invokevirtual 191, [1, 1, 11, 159], 0, [1458, 0, 0, 46]),
  (4, .bipush 10, [], 10, []),
  (6, .if_icmp .ne 33, [21], 0, []),
  (9, .aload_n 0, [0], 0, []),
  (10, .bipush 10, [], 10, []),
  (12, .iconst 0, [], 0, []),
  (13, .invokevirtual 194, [1, 3, 11, 157], 0, [1444, 0, 0, 44]),
  (16, .aload_n 0, [0], 0, []),
  (17, .aload_n 0, [0], 0, []),
  (18, .getfield 188, [13, 0, 11], 0, [1206]),
  (21, .iconst 1, [], 1, []),
  (22, .isub, [], 0, []),
  (23, .putfield 188, [13, 0, 11], 0, [1206]),
  (26, .aload_n 0, [0], 0, []),
  (27, .aload_n 0, [0], 0, []),
  (28, .getfield 185, [11, 0, 11], 0, [1204]),
  (31, .iconst 1, [], 1, []),
  (32, .isub, [], 0, []),
  (33, .putfield 185, [11, 0, 11], 0, [1204]),
  (36, .goto (-36), [0], 0, []),
  (39, .return_, [], 0, [])]
def cd_X12_lands : List am_E := [
  (0, .aload_n 0, [0], 0, []),
  (1, .invokevirtual 191, [1, 1, 11, 159], 0, [1458, 0, 0, 46]),
  (4, .bipush 11, [], 11, []),
  (6, .if_icmp .eq 16, [10], 0, []),
  (9, .iload_n 1, [1], 0, []),
  (10, .ifCond .eq 63, [42], 0, []),
  (13, .aload_n 0, [0], 0, []),
  (14, .invokevirtual 191, [1, 1, 11, 159], 0, [1458, 0, 0, 46]),
  (17, .bipush 12, [], 12, []),
  (19, .if_icmp .ne 54, [42], 0, []),
  (22, .aload_n 0, [0], 0, []),
  (23, .getfield 26, [17, 2, 11], 0, [1210]),
  (26, .aload_n 0, [0], 0, []),
  (27, .getfield 188, [13, 0, 11], 0, [1206]),
  (30, .iconst 1, [], 1, []),
  (31, .isub, [], 0, []),
  (32, .iaload, [], 0, []),
  (33, .ldc 184, [], 1048576, [1435]),
  (35, .irem, [], 0, []),
  (36, .istore_n 2, [2], 0, []),
  (37, .aload_n 0, [0], 0, []),
  (38, .getfield 23, [16, 2, 11], 0, [1209]),
  (41, .iload_n 2, [2], 0, []),
  (42, .ldc 184, [], 1048576, [1435]),
  (44, .aload_n 0, [0], 0, []),
  (45, .getfield 23, [16, 2, 11], 0, [1209]),
  (48, .iload_n 2, [2], 0, []),
  (49, .iaload, [], 0, []),
  (50, .ldc 184, [], 1048576, [1435]),
  (52, .idiv, [], 0, []),
  (53, .imul, [], 0, []),
  (54, .aload_n 0, [0], 0, []),
  (55, .getfield 181, [12, 0, 11], 0, [1205]),
  (58, .iadd, [], 0, []),
  (59, .iastore, [], 0, []),
  (60, .aload_n 0, [0], 0, []),
  (61, .aload_n 0, [0], 0, []),
  (62, .getfield 188, [13, 0, 11], 0, [1206]),
  (65, .iconst 1, [], 1, []),
  (66, .isub, [], 0, []),
  (67, .putfield 188, [13, 0, 11], 0, [1206]),
  (70, .goto (-70), [0], 0, []),
  (73, .return_, [], 0, [])]
def cd_X12_jumps : List am_E := [
  (0, .aload_n 0, [0], 0, []),
  (1, .getfield 26, [17, 2, 11], 0, [1210]),
  (4, .aload_n 0, [0], 0, []),
  (5, .getfield 188, [13, 0, 11], 0, [1206]),
  (8, .ldc 184, [], 1048576, [1435]),
  (10, .iload_n 1, [1], 0, []),
  (11, .imul, [], 0, []),
  (12, .aload_n 0, [0], 0, []),
  (13, .getfield 181, [12, 0, 11], 0, [1205]),
  (16, .iadd, [], 0, []),
  (17, .iastore, [], 0, []),
  (18, .aload_n 0, [0], 0, []),
  (19, .aload_n 0, [0], 0, []),
  (20, .getfield 188, [13, 0, 11], 0, [1206]),
  (23, .iconst 1, [], 1, []),
  (24, .iadd, [], 0, []),
  (25, .putfield 188, [13, 0, 11], 0, [1206]),
  (28, .aload_n 0, [0], 0, []),
  (29, .iload_n 1, [1], 0, []),
  (30, .iconst 0, [], 0, []),
  (31, .invokevirtual 194, [1, 3, 11, 157], 0, [1444, 0, 0, 44]),
  (34, .aload_n 0, [0], 0, []),
  (35, .aload_n 0, [0], 0, []),
  (36, .getfield 157, [7, 0, 11], 0, [1200]),
  (39, .iconst 1, [], 1, []),
  (40, .iadd, [], 0, []),
  (41, .putfield 157, [7, 0, 11], 0, [1200]),
  (44, .return_, [], 0, [])]
def cd_X12_readsCompared : List am_E := [
  (0, .aload_n 0, [0], 0, []),
  (1, .invokevirtual 222, [1, 1, 11, 165], 0, [1423, 0, 0, 39]),
  (4, .ifCond .ne 5, [5], 0, []),
  (7, .iconst 0, [], 0, []),
  (8, .ireturn, [1], 0, []),
  (9, .aload_n 0, [0], 0, []),
  (10, .invokevirtual 163, [1, 1, 11, 152], 0, [1415, 0, 0, 37]),
  (13, .bipush 60, [], 60, []),
  (15, .if_icmp .ne 8, [11], 0, []),
  (18, .bipush 7, [], 7, []),
  (20, .goto 32, [24], 0, []),
  (23, .aload_n 0, [0], 0, []),
  (24, .invokevirtual 163, [1, 1, 11, 152], 0, [1415, 0, 0, 37]),
  (27, .bipush 62, [], 62, []),
  (29, .if_icmp .ne 8, [17], 0, []),
  (32, .bipush 8, [], 8, []),
  (34, .goto 18, [24], 0, []),
  (37, .aload_n 0, [0], 0, []),
  (38, .invokevirtual 163, [1, 1, 11, 152], 0, [1415, 0, 0, 37]),
  (41, .bipush 61, [], 61, []),
  (43, .if_icmp .ne 8, [23], 0, []),
  (46, .bipush 9, [], 9, []),
  (48, .goto 4, [24], 0, []),
  (51, .iconst (-1), [], (-1), []),
  (52, .istore_n 1, [1], 0, []),
  (53, .iload_n 1, [1], 0, []),
  (54, .iconst (-1), [], (-1), []),
  (55, .if_icmp .ne 13, [34], 0, []),
  (58, .aload_n 0, [0], 0, []),
  (59, .iconst 1, [], 1, []),
  (60, .aload_n 0, [0], 0, []),
  (61, .getfield 157, [7, 0, 11], 0, [1200]),
  (64, .invokevirtual 170, [1, 3, 11, 154], 0, [1419, 0, 0, 38]),
  (67, .ireturn, [1], 0, []),
  (68, .aload_n 0, [0], 0, []),
  (69, .aload_n 0, [0], 0, []),
  (70, .getfield 157, [7, 0, 11], 0, [1200]),
  (73, .iconst 1, [], 1, []),
  (74, .iadd, [], 0, []),
  (75, .putfield 157, [7, 0, 11], 0, [1200]),
  (78, .aload_n 0, [0], 0, []),
  (79, .invokevirtual 222, [1, 1, 11, 165], 0, [1423, 0, 0, 39]),
  (82, .ifCond .ne 5, [45], 0, []),
  (85, .iconst 0, [], 0, []),
  (86, .ireturn, [1], 0, []),
  (87, .aload_n 0, [0], 0, []),
  (88, .iload_n 1, [1], 0, []),
  (89, .iconst 0, [], 0, []),
  (90, .invokevirtual 194, [1, 3, 11, 157], 0, [1444, 0, 0, 44]),
  (93, .aload_n 0, [0], 0, []),
  (94, .invokevirtual 225, [1, 1, 11, 166], 0, [1474, 0, 0, 50]),
  (97, .iconst 1, [], 1, []),
  (98, .ireturn, [1], 0, [])]
def cd_X12_readsCondition : List am_E := [
  (0, .aload_n 0, [0], 0, []),
  (1, .invokevirtual 163, [1, 1, 11, 152], 0, [1415, 0, 0, 37]),
  (4, .bipush 40, [], 40, []),
  (6, .if_icmp .eq 13, [10], 0, []),
  (9, .aload_n 0, [0], 0, []),
  (10, .iconst 1, [], 1, []),
  (11, .aload_n 0, [0], 0, []),
  (12, .getfield 157, [7, 0, 11], 0, [1200]),
  (15, .invokevirtual 170, [1, 3, 11, 154], 0, [1419, 0, 0, 38]),
  (18, .ireturn, [1], 0, []),
  (19, .aload_n 0, [0], 0, []),
  (20, .iconst 0, [], 0, []),
  (21, .putfield 185, [11, 0, 11], 0, [1204]),
  (24, .aload_n 0, [0], 0, []),
  (25, .iconst 0, [], 0, []),
  (26, .putfield 188, [13, 0, 11], 0, [1206]),
  (29, .aload_n 0, [0], 0, []),
  (30, .bipush 13, [], 13, []),
  (32, .invokevirtual 198, [1, 2, 11, 158], 0, [1431, 0, 0, 41]),
  (35, .ifCond .ne 5, [22], 0, []),
  (38, .iconst 0, [], 0, []),
  (39, .ireturn, [1], 0, []),
  (40, .aload_n 0, [0], 0, []),
  (41, .invokevirtual 163, [1, 1, 11, 152], 0, [1415, 0, 0, 37]),
  (44, .bipush 33, [], 33, []),
  (46, .if_icmp .eq 12, [30], 0, []),
  (49, .aload_n 0, [0], 0, []),
  (50, .invokevirtual 163, [1, 1, 11, 152], 0, [1415, 0, 0, 37]),
  (53, .bipush 40, [], 40, []),
  (55, .if_icmp .ne 28, [42], 0, []),
  (58, .aload_n 0, [0], 0, []),
  (59, .aload_n 0, [0], 0, []),
  (60, .invokevirtual 163, [1, 1, 11, 152], 0, [1415, 0, 0, 37]),
  (63, .bipush 33, [], 33, []),
  (65, .if_icmp .ne 8, [37], 0, []),
  (68, .bipush 10, [], 10, []),
  (70, .goto 5, [38], 0, []),
  (73, .bipush 13, [], 13, []),
  (75, .invokevirtual 198, [1, 2, 11, 158], 0, [1431, 0, 0, 41]),
  (78, .ifCond .ne (-38), [22], 0, []),
  (81, .iconst 0, [], 0, []),
  (82, .ireturn, [1], 0, []),
  (83, .aload_n 0, [0], 0, []),
  (84, .invokevirtual 228, [1, 1, 11, 169], 0, [1470, 0, 0, 49]),
  (87, .ifCond .ne 5, [47], 0, []),
  (90, .iconst 0, [], 0, []),
  (91, .ireturn, [1], 0, []),
  (92, .aload_n 0, [0], 0, []),
  (93, .invokevirtual 163, [1, 1, 11, 152], 0, [1415, 0, 0, 37]),
  (96, .bipush 41, [], 41, []),
  (98, .if_icmp .ne 54, [80], 0, []),
  (101, .aload_n 0, [0], 0, []),
  (102, .iconst 1, [], 1, []),
  (103, .invokevirtual 231, [1, 2, 11, 167], 0, [1478, 0, 0, 51]),
  (106, .aload_n 0, [0], 0, []),
  (107, .aload_n 0, [0], 0, []),
  (108, .getfield 188, [13, 0, 11], 0, [1206]),
  (111, .iconst 1, [], 1, []),
  (112, .isub, [], 0, []),
  (113, .putfield 188, [13, 0, 11], 0, [1206]),
  (116, .aload_n 0, [0], 0, []),
  (117, .aload_n 0, [0], 0, []),
  (118, .getfield 185, [11, 0, 11], 0, [1204]),
  (121, .iconst 1, [], 1, []),
  (122, .isub, [], 0, []),
  (123, .putfield 185, [11, 0, 11], 0, [1204]),
  (126, .aload_n 0, [0], 0, []),
  (127, .aload_n 0, [0], 0, []),
  (128, .getfield 157, [7, 0, 11], 0, [1200]),
  (131, .iconst 1, [], 1, []),
  (132, .iadd, [], 0, []),
  (133, .putfield 157, [7, 0, 11], 0, [1200]),
  (136, .aload_n 0, [0], 0, []),
  (137, .getfield 188, [13, 0, 11], 0, [1206]),
  (140, .ifCond .ne 5, [77], 0, []),
  (143, .iconst 1, [], 1, []),
  (144, .ireturn, [1], 0, []),
  (145, .aload_n 0, [0], 0, []),
  (146, .invokevirtual 225, [1, 1, 11, 166], 0, [1474, 0, 0, 50]),
  (149, .goto (-57), [47], 0, []),
  (152, .aload_n 0, [0], 0, []),
  (153, .invokevirtual 163, [1, 1, 11, 152], 0, [1415, 0, 0, 37]),
  (156, .bipush 38, [], 38, []),
  (158, .if_icmp .eq 22, [94], 0, []),
  (161, .aload_n 0, [0], 0, []),
  (162, .invokevirtual 163, [1, 1, 11, 152], 0, [1415, 0, 0, 37]),
  (165, .bipush 124, [], 124, []),
  (167, .if_icmp .eq 13, [94], 0, []),
  (170, .aload_n 0, [0], 0, []),
  (171, .iconst 1, [], 1, []),
  (172, .aload_n 0, [0], 0, []),
  (173, .getfield 157, [7, 0, 11], 0, [1200]),
  (176, .invokevirtual 170, [1, 3, 11, 154], 0, [1419, 0, 0, 38]),
  (179, .ireturn, [1], 0, []),
  (180, .aload_n 0, [0], 0, []),
  (181, .aload_n 0, [0], 0, []),
  (182, .invokevirtual 163, [1, 1, 11, 152], 0, [1415, 0, 0, 37]),
  (185, .bipush 124, [], 124, []),
  (187, .if_icmp .ne 7, [101], 0, []),
  (190, .iconst 1, [], 1, []),
  (191, .goto 4, [102], 0, []),
  (194, .iconst 0, [], 0, []),
  (195, .invokevirtual 231, [1, 2, 11, 167], 0, [1478, 0, 0, 51]),
  (198, .aload_n 0, [0], 0, []),
  (199, .aload_n 0, [0], 0, []),
  (200, .invokevirtual 163, [1, 1, 11, 152], 0, [1415, 0, 0, 37]),
  (203, .bipush 38, [], 38, []),
  (205, .if_icmp .ne 8, [110], 0, []),
  (208, .bipush 11, [], 11, []),
  (210, .goto 5, [111], 0, []),
  (213, .bipush 12, [], 12, []),
  (215, .invokevirtual 234, [1, 2, 11, 168], 0, [1482, 0, 0, 52]),
  (218, .goto (-178), [22], 0, [])]
def cd_X12_readsRule : List am_E := [
  (0, .aload_n 0, [0], 0, []),
  (1, .invokevirtual 163, [1, 1, 11, 152], 0, [1415, 0, 0, 37]),
  (4, .istore_n 1, [1], 0, []),
  (5, .iload_n 1, [1], 0, []),
  (6, .bipush 102, [], 102, []),
  (8, .if_icmp .eq 37, [24], 0, []),
  (11, .iload_n 1, [1], 0, []),
  (12, .bipush 100, [], 100, []),
  (14, .if_icmp .eq 31, [24], 0, []),
  (17, .iload_n 1, [1], 0, []),
  (18, .bipush 117, [], 117, []),
  (20, .if_icmp .eq 25, [24], 0, []),
  (23, .iload_n 1, [1], 0, []),
  (24, .bipush 104, [], 104, []),
  (26, .if_icmp .eq 19, [24], 0, []),
  (29, .iload_n 1, [1], 0, []),
  (30, .bipush 120, [], 120, []),
  (32, .if_icmp .eq 13, [24], 0, []),
  (35, .aload_n 0, [0], 0, []),
  (36, .iconst 1, [], 1, []),
  (37, .aload_n 0, [0], 0, []),
  (38, .getfield 157, [7, 0, 11], 0, [1200]),
  (41, .invokevirtual 170, [1, 3, 11, 154], 0, [1419, 0, 0, 38]),
  (44, .ireturn, [1], 0, []),
  (45, .aload_n 0, [0], 0, []),
  (46, .getfield 237, [14, 0, 11], 0, [1207]),
  (49, .bipush 16, [], 16, []),
  (51, .if_icmp .ne 13, [34], 0, []),
  (54, .aload_n 0, [0], 0, []),
  (55, .iconst 4, [], 4, []),
  (56, .aload_n 0, [0], 0, []),
  (57, .getfield 157, [7, 0, 11], 0, [1200]),
  (60, .invokevirtual 170, [1, 3, 11, 154], 0, [1419, 0, 0, 38]),
  (63, .ireturn, [1], 0, []),
  (64, .aload_n 0, [0], 0, []),
  (65, .getfield 29, [18, 2, 11], 0, [1211]),
  (68, .aload_n 0, [0], 0, []),
  (69, .getfield 237, [14, 0, 11], 0, [1207]),
  (72, .iload_n 1, [1], 0, []),
  (73, .iastore, [], 0, []),
  (74, .aload_n 0, [0], 0, []),
  (75, .aload_n 0, [0], 0, []),
  (76, .getfield 157, [7, 0, 11], 0, [1200]),
  (79, .iconst 1, [], 1, []),
  (80, .iadd, [], 0, []),
  (81, .putfield 157, [7, 0, 11], 0, [1200]),
  (84, .aload_n 0, [0], 0, []),
  (85, .getfield 32, [19, 2, 11], 0, [1212]),
  (88, .aload_n 0, [0], 0, []),
  (89, .getfield 237, [14, 0, 11], 0, [1207]),
  (92, .aload_n 0, [0], 0, []),
  (93, .getfield 181, [12, 0, 11], 0, [1205]),
  (96, .iastore, [], 0, []),
  (97, .aload_n 0, [0], 0, []),
  (98, .iconst 0, [], 0, []),
  (99, .putfield 185, [11, 0, 11], 0, [1204]),
  (102, .aload_n 0, [0], 0, []),
  (103, .iconst 0, [], 0, []),
  (104, .putfield 188, [13, 0, 11], 0, [1206]),
  (107, .iload_n 1, [1], 0, []),
  (108, .bipush 104, [], 104, []),
  (110, .if_icmp .eq 18, [70], 0, []),
  (113, .iload_n 1, [1], 0, []),
  (114, .bipush 120, [], 120, []),
  (116, .if_icmp .eq 12, [70], 0, []),
  (119, .aload_n 0, [0], 0, []),
  (120, .invokevirtual 222, [1, 1, 11, 165], 0, [1423, 0, 0, 39]),
  (123, .ifCond .ne 5, [70], 0, []),
  (126, .iconst 0, [], 0, []),
  (127, .ireturn, [1], 0, []),
  (128, .aload_n 0, [0], 0, []),
  (129, .getfield 35, [20, 2, 11], 0, [1213]),
  (132, .aload_n 0, [0], 0, []),
  (133, .getfield 237, [14, 0, 11], 0, [1207]),
  (136, .aload_n 0, [0], 0, []),
  (137, .getfield 181, [12, 0, 11], 0, [1205]),
  (140, .iastore, [], 0, []),
  (141, .aload_n 0, [0], 0, []),
  (142, .invokevirtual 240, [1, 1, 11, 170], 0, [1466, 0, 0, 48]),
  (145, .ifCond .ne 5, [82], 0, []),
  (148, .iconst 0, [], 0, []),
  (149, .ireturn, [1], 0, []),
  (150, .aload_n 0, [0], 0, []),
  (151, .getfield 38, [21, 2, 11], 0, [1214]),
  (154, .aload_n 0, [0], 0, []),
  (155, .getfield 237, [14, 0, 11], 0, [1207]),
  (158, .aload_n 0, [0], 0, []),
  (159, .getfield 181, [12, 0, 11], 0, [1205]),
  (162, .iastore, [], 0, []),
  (163, .aload_n 0, [0], 0, []),
  (164, .aload_n 0, [0], 0, []),
  (165, .getfield 237, [14, 0, 11], 0, [1207]),
  (168, .iconst 1, [], 1, []),
  (169, .iadd, [], 0, []),
  (170, .putfield 237, [14, 0, 11], 0, [1207]),
  (173, .iconst 1, [], 1, []),
  (174, .ireturn, [1], 0, [])]
def cd_X12_beginsText : List am_E := [
  (0, .aload_n 0, [0], 0, []),
  (1, .iconst 0, [], 0, []),
  (2, .putfield 157, [7, 0, 11], 0, [1200]),
  (5, .aload_n 0, [0], 0, []),
  (6, .iload_n 1, [1], 0, []),
  (7, .putfield 160, [8, 0, 11], 0, [1201]),
  (10, .aload_n 0, [0], 0, []),
  (11, .iconst 0, [], 0, []),
  (12, .putfield 181, [12, 0, 11], 0, [1205]),
  (15, .aload_n 0, [0], 0, []),
  (16, .iconst 0, [], 0, []),
  (17, .putfield 237, [14, 0, 11], 0, [1207]),
  (20, .return_, [], 0, [])]
def cd_X12_law : List am_E := [
  (0, .iload_n 1, [1], 0, []),
  (1, .iconst 1, [], 1, []),
  (2, .sipush 240, [], 240, []),
  (5, .invokestatic 139, [0, 3, 138], 0, [1388]),
  (8, .ifCond .eq 11, [9], 0, []),
  (11, .iload_n 1, [1], 0, []),
  (12, .aload_n 0, [0], 0, []),
  (13, .getfield 150, [6, 0, 11], 0, [1199]),
  (16, .if_icmp .le 5, [11], 0, []),
  (19, .iconst (-1), [], (-1), []),
  (20, .ireturn, [0], 0, []),
  (21, .aload_n 0, [0], 0, []),
  (22, .iload_n 1, [1], 0, []),
  (23, .invokevirtual 243, [1, 2, 11, 172], 0, [1407, 0, 0, 35]),
  (26, .aload_n 0, [0], 0, []),
  (27, .invokevirtual 246, [1, 1, 11, 171], 0, [1411, 0, 0, 36]),
  (30, .istore_n 2, [2], 0, []),
  (31, .iload_n 2, [2], 0, []),
  (32, .ifCond .eq 39, [36], 0, []),
  (35, .aload_n 0, [0], 0, []),
  (36, .getfield 157, [7, 0, 11], 0, [1200]),
  (39, .aload_n 0, [0], 0, []),
  (40, .getfield 160, [8, 0, 11], 0, [1201]),
  (43, .if_icmp .ge 28, [36], 0, []),
  (46, .aload_n 0, [0], 0, []),
  (47, .bipush 59, [], 59, []),
  (49, .invokevirtual 249, [1, 2, 11, 155], 0, [1486, 0, 0, 53]),
  (52, .ifCond .eq 14, [33], 0, []),
  (55, .aload_n 0, [0], 0, []),
  (56, .invokevirtual 246, [1, 1, 11, 171], 0, [1411, 0, 0, 36]),
  (59, .ifCond .eq 7, [33], 0, []),
  (62, .iconst 1, [], 1, []),
  (63, .goto 4, [34], 0, []),
  (66, .iconst 0, [], 0, []),
  (67, .istore_n 2, [2], 0, []),
  (68, .goto (-37), [17], 0, []),
  (71, .aload_n 0, [0], 0, []),
  (72, .iconst 0, [], 0, []),
  (73, .putfield 150, [6, 0, 11], 0, [1199]),
  (76, .iload_n 2, [2], 0, []),
  (77, .ifCond .ne 8, [44], 0, []),
  (80, .aload_n 0, [0], 0, []),
  (81, .getfield 167, [9, 0, 11], 0, [1202]),
  (84, .ireturn, [0], 0, []),
  (85, .aload_n 0, [0], 0, []),
  (86, .aload_n 0, [0], 0, []),
  (87, .getfield 237, [14, 0, 11], 0, [1207]),
  (90, .putfield 252, [15, 0, 11], 0, [1208]),
  (93, .iconst 0, [], 0, []),
  (94, .istore_n 3, [3], 0, []),
  (95, .iload_n 3, [3], 0, []),
  (96, .aload_n 0, [0], 0, []),
  (97, .getfield 181, [12, 0, 11], 0, [1205]),
  (100, .if_icmp .ge 21, [64], 0, []),
  (103, .aload_n 0, [0], 0, []),
  (104, .getfield 41, [22, 2, 11], 0, [1215]),
  (107, .iload_n 3, [3], 0, []),
  (108, .aload_n 0, [0], 0, []),
  (109, .getfield 23, [16, 2, 11], 0, [1209]),
  (112, .iload_n 3, [3], 0, []),
  (113, .iaload, [], 0, []),
  (114, .iastore, [], 0, []),
  (115, .iinc 3 1, [3], 1, []),
  (118, .goto (-23), [50], 0, []),
  (121, .iconst 0, [], 0, []),
  (122, .istore_n 3, [3], 0, []),
  (123, .iload_n 3, [3], 0, []),
  (124, .aload_n 0, [0], 0, []),
  (125, .getfield 237, [14, 0, 11], 0, [1207]),
  (128, .if_icmp .ge 57, [104], 0, []),
  (131, .aload_n 0, [0], 0, []),
  (132, .getfield 44, [23, 2, 11], 0, [1216]),
  (135, .iload_n 3, [3], 0, []),
  (136, .aload_n 0, [0], 0, []),
  (137, .getfield 29, [18, 2, 11], 0, [1211]),
  (140, .iload_n 3, [3], 0, []),
  (141, .iaload, [], 0, []),
  (142, .iastore, [], 0, []),
  (143, .aload_n 0, [0], 0, []),
  (144, .getfield 47, [24, 2, 11], 0, [1217]),
  (147, .iload_n 3, [3], 0, []),
  (148, .aload_n 0, [0], 0, []),
  (149, .getfield 32, [19, 2, 11], 0, [1212]),
  (152, .iload_n 3, [3], 0, []),
  (153, .iaload, [], 0, []),
  (154, .iastore, [], 0, []),
  (155, .aload_n 0, [0], 0, []),
  (156, .getfield 50, [25, 2, 11], 0, [1218]),
  (159, .iload_n 3, [3], 0, []),
  (160, .aload_n 0, [0], 0, []),
  (161, .getfield 35, [20, 2, 11], 0, [1213]),
  (164, .iload_n 3, [3], 0, []),
  (165, .iaload, [], 0, []),
  (166, .iastore, [], 0, []),
  (167, .aload_n 0, [0], 0, []),
  (168, .getfield 53, [26, 2, 11], 0, [1219]),
  (171, .iload_n 3, [3], 0, []),
  (172, .aload_n 0, [0], 0, []),
  (173, .getfield 38, [21, 2, 11], 0, [1214]),
  (176, .iload_n 3, [3], 0, []),
  (177, .iaload, [], 0, []),
  (178, .iastore, [], 0, []),
  (179, .iinc 3 1, [3], 1, []),
  (182, .goto (-59), [66], 0, []),
  (185, .aload_n 0, [0], 0, []),
  (186, .getfield 237, [14, 0, 11], 0, [1207]),
  (189, .ireturn, [0], 0, [])]
def cd_X12_reckon : List am_E := [
  (0, .iload_n 0, [0], 0, []),
  (1, .tableswitch 85 2 8 #[43, 47, 51, 55, 59, 63, 74], [36, 2, 6, 10, 14, 18, 22, 29], 2, []),
  (44, .iload_n 1, [1], 0, []),
  (45, .iload_n 2, [2], 0, []),
  (46, .iadd, [], 0, []),
  (47, .ireturn, [0], 0, []),
  (48, .iload_n 1, [1], 0, []),
  (49, .iload_n 2, [2], 0, []),
  (50, .isub, [], 0, []),
  (51, .ireturn, [0], 0, []),
  (52, .iload_n 1, [1], 0, []),
  (53, .iload_n 2, [2], 0, []),
  (54, .imul, [], 0, []),
  (55, .ireturn, [0], 0, []),
  (56, .iload_n 1, [1], 0, []),
  (57, .iload_n 2, [2], 0, []),
  (58, .idiv, [], 0, []),
  (59, .ireturn, [0], 0, []),
  (60, .iload_n 1, [1], 0, []),
  (61, .iload_n 2, [2], 0, []),
  (62, .irem, [], 0, []),
  (63, .ireturn, [0], 0, []),
  (64, .iload_n 1, [1], 0, []),
  (65, .iload_n 2, [2], 0, []),
  (66, .if_icmp .ge 7, [27], 0, []),
  (69, .iconst 1, [], 1, []),
  (70, .goto 4, [28], 0, []),
  (73, .iconst 0, [], 0, []),
  (74, .ireturn, [0], 0, []),
  (75, .iload_n 1, [1], 0, []),
  (76, .iload_n 2, [2], 0, []),
  (77, .if_icmp .le 7, [34], 0, []),
  (80, .iconst 1, [], 1, []),
  (81, .goto 4, [35], 0, []),
  (84, .iconst 0, [], 0, []),
  (85, .ireturn, [0], 0, []),
  (86, .iload_n 1, [1], 0, []),
  (87, .iload_n 2, [2], 0, []),
  (88, .if_icmp .ne 7, [41], 0, []),
  (91, .iconst 1, [], 1, []),
  (92, .goto 4, [42], 0, []),
  (95, .iconst 0, [], 0, []),
  (96, .ireturn, [0], 0, [])]
def cd_X12_comesTo : List am_E := [
  (0, .iconst 0, [], 0, []),
  (1, .istore_n 3, [3], 0, []),
  (2, .sipush 260, [], 260, []),
  (5, .iload_n 1, [1], 0, []),
  (6, .sipush 260, [], 260, []),
  (9, .idiv, [], 0, []),
  (10, .imul, [], 0, []),
  (11, .istore 4, [4], 0, []),
  (13, .iload_n 1, [1], 0, []),
  (14, .istore 5, [5], 0, []),
  (16, .iload 5, [5], 0, []),
  (18, .iload_n 2, [2], 0, []),
  (19, .if_icmp .ge 214, [136], 0, []),
  (22, .aload_n 0, [0], 0, []),
  (23, .getfield 41, [22, 2, 11], 0, [1215]),
  (26, .iload 5, [5], 0, []),
  (28, .iaload, [], 0, []),
  (29, .ldc 184, [], 1048576, [1435]),
  (31, .idiv, [], 0, []),
  (32, .istore 6, [6], 0, []),
  (34, .aload_n 0, [0], 0, []),
  (35, .getfield 41, [22, 2, 11], 0, [1215]),
  (38, .iload 5, [5], 0, []),
  (40, .iaload, [], 0, []),
  (41, .ldc 184, [], 1048576, [1435]),
  (43, .irem, [], 0, []),
  (44, .istore 7, [7], 0, []),
  (46, .iload 5, [5], 0, []),
  (48, .iconst 1, [], 1, []),
  (49, .iadd, [], 0, []),
  (50, .istore 5, [5], 0, []),
  (52, .iload 6, [6], 0, []),
  (54, .ifCond .eq 9, [36], 0, []),
  (57, .iload 6, [6], 0, []),
  (59, .iconst 1, [], 1, []),
  (60, .if_icmp .ne 33, [53], 0, []),
  (63, .aload_n 0, [0], 0, []),
  (64, .getfield 56, [27, 2, 11], 0, [1220]),
  (67, .iload_n 3, [3], 0, []),
  (68, .iload 6, [6], 0, []),
  (70, .ifCond .ne 8, [43], 0, []),
  (73, .iload 7, [7], 0, []),
  (75, .goto 10, [47], 0, []),
  (78, .aload_n 0, [0], 0, []),
  (79, .getfield 59, [28, 2, 11], 0, [1221]),
  (82, .iload 7, [7], 0, []),
  (84, .iaload, [], 0, []),
  (85, .iastore, [], 0, []),
  (86, .iload_n 3, [3], 0, []),
  (87, .iconst 1, [], 1, []),
  (88, .iadd, [], 0, []),
  (89, .istore_n 3, [3], 0, []),
  (90, .goto 140, [135], 0, []),
  (93, .iload 6, [6], 0, []),
  (95, .bipush 10, [], 10, []),
  (97, .if_icmp .ne 24, [71], 0, []),
  (100, .aload_n 0, [0], 0, []),
  (101, .getfield 56, [27, 2, 11], 0, [1220]),
  (104, .iload_n 3, [3], 0, []),
  (105, .iconst 1, [], 1, []),
  (106, .isub, [], 0, []),
  (107, .iconst 1, [], 1, []),
  (108, .aload_n 0, [0], 0, []),
  (109, .getfield 56, [27, 2, 11], 0, [1220]),
  (112, .iload_n 3, [3], 0, []),
  (113, .iconst 1, [], 1, []),
  (114, .isub, [], 0, []),
  (115, .iaload, [], 0, []),
  (116, .isub, [], 0, []),
  (117, .iastore, [], 0, []),
  (118, .goto 112, [135], 0, []),
  (121, .iload 6, [6], 0, []),
  (123, .bipush 11, [], 11, []),
  (125, .if_icmp .eq 10, [77], 0, []),
  (128, .iload 6, [6], 0, []),
  (130, .bipush 12, [], 12, []),
  (132, .if_icmp .ne 43, [100], 0, []),
  (135, .aload_n 0, [0], 0, []),
  (136, .getfield 56, [27, 2, 11], 0, [1220]),
  (139, .iload_n 3, [3], 0, []),
  (140, .iconst 1, [], 1, []),
  (141, .isub, [], 0, []),
  (142, .iaload, [], 0, []),
  (143, .iload 6, [6], 0, []),
  (145, .bipush 12, [], 12, []),
  (147, .if_icmp .ne 7, [88], 0, []),
  (150, .iconst 1, [], 1, []),
  (151, .goto 4, [89], 0, []),
  (154, .iconst 0, [], 0, []),
  (155, .if_icmp .ne 13, [95], 0, []),
  (158, .iload 4, [4], 0, []),
  (160, .iload 7, [7], 0, []),
  (162, .iadd, [], 0, []),
  (163, .istore 5, [5], 0, []),
  (165, .goto 65, [135], 0, []),
  (168, .iload_n 3, [3], 0, []),
  (169, .iconst 1, [], 1, []),
  (170, .isub, [], 0, []),
  (171, .istore_n 3, [3], 0, []),
  (172, .goto 58, [135], 0, []),
  (175, .iload_n 3, [3], 0, []),
  (176, .iconst 1, [], 1, []),
  (177, .isub, [], 0, []),
  (178, .istore_n 3, [3], 0, []),
  (179, .iload 6, [6], 0, []),
  (181, .iconst 5, [], 5, []),
  (182, .if_icmp .eq 10, [110], 0, []),
  (185, .iload 6, [6], 0, []),
  (187, .bipush 6, [], 6, []),
  (189, .if_icmp .ne 14, [117], 0, []),
  (192, .aload_n 0, [0], 0, []),
  (193, .getfield 56, [27, 2, 11], 0, [1220]),
  (196, .iload_n 3, [3], 0, []),
  (197, .iaload, [], 0, []),
  (198, .ifCond .ne 5, [117], 0, []),
  (201, .iconst 0, [], 0, []),
  (202, .ireturn, [0], 0, []),
  (203, .aload_n 0, [0], 0, []),
  (204, .getfield 56, [27, 2, 11], 0, [1220]),
  (207, .iload_n 3, [3], 0, []),
  (208, .iconst 1, [], 1, []),
  (209, .isub, [], 0, []),
  (210, .iload 6, [6], 0, []),
  (212, .aload_n 0, [0], 0, []),
  (213, .getfield 56, [27, 2, 11], 0, [1220]),
  (216, .iload_n 3, [3], 0, []),
  (217, .iconst 1, [], 1, []),
  (218, .isub, [], 0, []),
  (219, .iaload, [], 0, []),
  (220, .aload_n 0, [0], 0, []),
  (221, .getfield 56, [27, 2, 11], 0, [1220]),
  (224, .iload_n 3, [3], 0, []),
  (225, .iaload, [], 0, []),
  (226, .invokestatic 255, [0, 3, 174], 0, [1564]),
  (229, .iastore, [], 0, []),
  (230, .goto (-214), [10], 0, []),
  (233, .aload_n 0, [0], 0, []),
  (234, .getfield 56, [27, 2, 11], 0, [1220]),
  (237, .iconst 0, [], 0, []),
  (238, .iaload, [], 0, []),
  (239, .ireturn, [0], 0, [])]
def cd_X12_byLaw : List am_E := [
  (0, .iconst 0, [], 0, []),
  (1, .istore_n 3, [3], 0, []),
  (2, .iload_n 3, [3], 0, []),
  (3, .aload_n 0, [0], 0, []),
  (4, .getfield 252, [15, 0, 11], 0, [1208]),
  (7, .if_icmp .ge 82, [49], 0, []),
  (10, .aload_n 0, [0], 0, []),
  (11, .getfield 44, [23, 2, 11], 0, [1216]),
  (14, .iload_n 3, [3], 0, []),
  (15, .iaload, [], 0, []),
  (16, .iload_n 1, [1], 0, []),
  (17, .if_icmp .ne 66, [47], 0, []),
  (20, .aload_n 0, [0], 0, []),
  (21, .aload_n 0, [0], 0, []),
  (22, .getfield 50, [25, 2, 11], 0, [1218]),
  (25, .iload_n 3, [3], 0, []),
  (26, .iaload, [], 0, []),
  (27, .aload_n 0, [0], 0, []),
  (28, .getfield 53, [26, 2, 11], 0, [1219]),
  (31, .iload_n 3, [3], 0, []),
  (32, .iaload, [], 0, []),
  (33, .invokevirtual 259, [1, 3, 11, 175], 0, [1560, 0, 0, 67]),
  (36, .iconst 1, [], 1, []),
  (37, .if_icmp .eq 6, [25], 0, []),
  (40, .goto 43, [47], 0, []),
  (43, .aload_n 0, [0], 0, []),
  (44, .aload_n 0, [0], 0, []),
  (45, .getfield 47, [24, 2, 11], 0, [1217]),
  (48, .iload_n 3, [3], 0, []),
  (49, .iaload, [], 0, []),
  (50, .aload_n 0, [0], 0, []),
  (51, .getfield 50, [25, 2, 11], 0, [1218]),
  (54, .iload_n 3, [3], 0, []),
  (55, .iaload, [], 0, []),
  (56, .invokevirtual 259, [1, 3, 11, 175], 0, [1560, 0, 0, 67]),
  (59, .istore 4, [4], 0, []),
  (61, .iload 4, [4], 0, []),
  (63, .ifCond .ge 7, [40], 0, []),
  (66, .iconst 0, [], 0, []),
  (67, .goto 15, [46], 0, []),
  (70, .iload 4, [4], 0, []),
  (72, .iload_n 2, [2], 0, []),
  (73, .if_icmp .le 7, [45], 0, []),
  (76, .iload_n 2, [2], 0, []),
  (77, .goto 5, [46], 0, []),
  (80, .iload 4, [4], 0, []),
  (82, .ireturn, [0], 0, []),
  (83, .iinc 3 1, [3], 1, []),
  (86, .goto (-84), [2], 0, []),
  (89, .iconst 0, [], 0, []),
  (90, .ireturn, [0], 0, [])]
def cd_X12_holdsAny : List am_E := [
  (0, .iconst 0, [], 0, []),
  (1, .istore_n 2, [2], 0, []),
  (2, .iload_n 2, [2], 0, []),
  (3, .aload_n 0, [0], 0, []),
  (4, .getfield 252, [15, 0, 11], 0, [1208]),
  (7, .if_icmp .ge 41, [28], 0, []),
  (10, .aload_n 0, [0], 0, []),
  (11, .getfield 44, [23, 2, 11], 0, [1216]),
  (14, .iload_n 2, [2], 0, []),
  (15, .iaload, [], 0, []),
  (16, .iload_n 1, [1], 0, []),
  (17, .if_icmp .ne 25, [26], 0, []),
  (20, .aload_n 0, [0], 0, []),
  (21, .aload_n 0, [0], 0, []),
  (22, .getfield 50, [25, 2, 11], 0, [1218]),
  (25, .iload_n 2, [2], 0, []),
  (26, .iaload, [], 0, []),
  (27, .aload_n 0, [0], 0, []),
  (28, .getfield 53, [26, 2, 11], 0, [1219]),
  (31, .iload_n 2, [2], 0, []),
  (32, .iaload, [], 0, []),
  (33, .invokevirtual 259, [1, 3, 11, 175], 0, [1560, 0, 0, 67]),
  (36, .iconst 1, [], 1, []),
  (37, .if_icmp .ne 5, [26], 0, []),
  (40, .iconst 1, [], 1, []),
  (41, .ireturn, [1], 0, []),
  (42, .iinc 2 1, [2], 1, []),
  (45, .goto (-43), [2], 0, []),
  (48, .iconst 0, [], 0, []),
  (49, .ireturn, [1], 0, [])]
def cd_X12_hasRule : List am_E := [
  (0, .iconst 0, [], 0, []),
  (1, .istore_n 2, [2], 0, []),
  (2, .iload_n 2, [2], 0, []),
  (3, .aload_n 0, [0], 0, []),
  (4, .getfield 252, [15, 0, 11], 0, [1208]),
  (7, .if_icmp .ge 21, [16], 0, []),
  (10, .aload_n 0, [0], 0, []),
  (11, .getfield 44, [23, 2, 11], 0, [1216]),
  (14, .iload_n 2, [2], 0, []),
  (15, .iaload, [], 0, []),
  (16, .iload_n 1, [1], 0, []),
  (17, .if_icmp .ne 5, [14], 0, []),
  (20, .iconst 1, [], 1, []),
  (21, .ireturn, [1], 0, []),
  (22, .iinc 2 1, [2], 1, []),
  (25, .goto (-23), [2], 0, []),
  (28, .iconst 0, [], 0, []),
  (29, .ireturn, [1], 0, [])]
def cd_X12_readsAmount : List am_E := [
  (0, .aload_n 0, [0], 0, []),
  (1, .getfield 157, [7, 0, 11], 0, [1200]),
  (4, .istore_n 1, [1], 0, []),
  (5, .aload_n 0, [0], 0, []),
  (6, .invokevirtual 177, [1, 1, 11, 153], 0, [1436, 0, 0, 42]),
  (9, .ifCond .ne 13, [12], 0, []),
  (12, .aload_n 0, [0], 0, []),
  (13, .iconst 1, [], 1, []),
  (14, .aload_n 0, [0], 0, []),
  (15, .getfield 157, [7, 0, 11], 0, [1200]),
  (18, .invokevirtual 170, [1, 3, 11, 154], 0, [1419, 0, 0, 38]),
  (21, .ireturn, [1], 0, []),
  (22, .aload_n 0, [0], 0, []),
  (23, .iconst 0, [], 0, []),
  (24, .putfield 174, [10, 0, 11], 0, [1203]),
  (27, .aload_n 0, [0], 0, []),
  (28, .invokevirtual 177, [1, 1, 11, 153], 0, [1436, 0, 0, 42]),
  (31, .ifCond .eq 55, [48], 0, []),
  (34, .aload_n 0, [0], 0, []),
  (35, .getfield 157, [7, 0, 11], 0, [1200]),
  (38, .iload_n 1, [1], 0, []),
  (39, .iconst 3, [], 3, []),
  (40, .iadd, [], 0, []),
  (41, .if_icmp .ne 13, [30], 0, []),
  (44, .aload_n 0, [0], 0, []),
  (45, .iconst 2, [], 2, []),
  (46, .aload_n 0, [0], 0, []),
  (47, .getfield 157, [7, 0, 11], 0, [1200]),
  (50, .invokevirtual 170, [1, 3, 11, 154], 0, [1419, 0, 0, 38]),
  (53, .ireturn, [1], 0, []),
  (54, .aload_n 0, [0], 0, []),
  (55, .bipush 10, [], 10, []),
  (57, .aload_n 0, [0], 0, []),
  (58, .getfield 174, [10, 0, 11], 0, [1203]),
  (61, .imul, [], 0, []),
  (62, .aload_n 0, [0], 0, []),
  (63, .invokevirtual 163, [1, 1, 11, 152], 0, [1415, 0, 0, 37]),
  (66, .iadd, [], 0, []),
  (67, .bipush 48, [], 48, []),
  (69, .isub, [], 0, []),
  (70, .putfield 174, [10, 0, 11], 0, [1203]),
  (73, .aload_n 0, [0], 0, []),
  (74, .aload_n 0, [0], 0, []),
  (75, .getfield 157, [7, 0, 11], 0, [1200]),
  (78, .iconst 1, [], 1, []),
  (79, .iadd, [], 0, []),
  (80, .putfield 157, [7, 0, 11], 0, [1200]),
  (83, .goto (-56), [15], 0, []),
  (86, .iconst 1, [], 1, []),
  (87, .ireturn, [1], 0, [])]
def cd_X12_obeys : List am_E := [
  (0, .iload_n 2, [2], 0, []),
  (1, .lookupswitch 106 #[(97, 78), (98, 63), (102, 35)], [47, 97, 29, 98, 20, 102, 2], 0, []),
  (36, .aload_n 0, [0], 0, []),
  (37, .getfield 7, [0, 2, 11], 0, [1193]),
  (40, .iconst 0, [], 0, []),
  (41, .iload_n 1, [1], 0, []),
  (42, .iadd, [], 0, []),
  (43, .iconst 0, [], 0, []),
  (44, .aload_n 0, [0], 0, []),
  (45, .getfield 7, [0, 2, 11], 0, [1193]),
  (48, .iconst 0, [], 0, []),
  (49, .iload_n 1, [1], 0, []),
  (50, .iadd, [], 0, []),
  (51, .iaload, [], 0, []),
  (52, .aload_n 0, [0], 0, []),
  (53, .getfield 174, [10, 0, 11], 0, [1203]),
  (56, .isub, [], 0, []),
  (57, .invokestatic 263, [0, 2, 140], 0, [1509]),
  (60, .iastore, [], 0, []),
  (61, .goto 66, [59], 0, []),
  (64, .aload_n 0, [0], 0, []),
  (65, .getfield 7, [0, 2, 11], 0, [1193]),
  (68, .iconst 2, [], 2, []),
  (69, .iload_n 1, [1], 0, []),
  (70, .iadd, [], 0, []),
  (71, .aload_n 0, [0], 0, []),
  (72, .getfield 174, [10, 0, 11], 0, [1203]),
  (75, .iastore, [], 0, []),
  (76, .goto 51, [59], 0, []),
  (79, .aload_n 0, [0], 0, []),
  (80, .getfield 7, [0, 2, 11], 0, [1193]),
  (83, .iconst 4, [], 4, []),
  (84, .iload_n 1, [1], 0, []),
  (85, .iadd, [], 0, []),
  (86, .iconst 0, [], 0, []),
  (87, .aload_n 0, [0], 0, []),
  (88, .getfield 7, [0, 2, 11], 0, [1193]),
  (91, .iconst 4, [], 4, []),
  (92, .iload_n 1, [1], 0, []),
  (93, .iadd, [], 0, []),
  (94, .iaload, [], 0, []),
  (95, .aload_n 0, [0], 0, []),
  (96, .getfield 174, [10, 0, 11], 0, [1203]),
  (99, .isub, [], 0, []),
  (100, .invokestatic 263, [0, 2, 140], 0, [1509]),
  (103, .iastore, [], 0, []),
  (104, .goto 23, [59], 0, []),
  (107, .aload_n 0, [0], 0, []),
  (108, .getfield 7, [0, 2, 11], 0, [1193]),
  (111, .bipush 6, [], 6, []),
  (113, .iload_n 1, [1], 0, []),
  (114, .iadd, [], 0, []),
  (115, .iload_n 2, [2], 0, []),
  (116, .bipush 104, [], 104, []),
  (118, .if_icmp .ne 7, [57], 0, []),
  (121, .iconst 1, [], 1, []),
  (122, .goto 4, [58], 0, []),
  (125, .iconst 0, [], 0, []),
  (126, .iastore, [], 0, []),
  (127, .return_, [], 0, [])]
def cd_X12_readsLine : List am_E := [
  (0, .aload_n 0, [0], 0, []),
  (1, .invokevirtual 163, [1, 1, 11, 152], 0, [1415, 0, 0, 37]),
  (4, .istore_n 1, [1], 0, []),
  (5, .iload_n 1, [1], 0, []),
  (6, .bipush 48, [], 48, []),
  (8, .if_icmp .eq 25, [18], 0, []),
  (11, .iload_n 1, [1], 0, []),
  (12, .bipush 49, [], 49, []),
  (14, .if_icmp .eq 19, [18], 0, []),
  (17, .iload_n 1, [1], 0, []),
  (18, .bipush 42, [], 42, []),
  (20, .if_icmp .eq 13, [18], 0, []),
  (23, .aload_n 0, [0], 0, []),
  (24, .iconst 1, [], 1, []),
  (25, .aload_n 0, [0], 0, []),
  (26, .getfield 157, [7, 0, 11], 0, [1200]),
  (29, .invokevirtual 170, [1, 3, 11, 154], 0, [1419, 0, 0, 38]),
  (32, .ireturn, [1], 0, []),
  (33, .aload_n 0, [0], 0, []),
  (34, .getfield 266, [29, 0, 11], 0, [1222]),
  (37, .bipush 20, [], 20, []),
  (39, .if_icmp .ne 13, [28], 0, []),
  (42, .aload_n 0, [0], 0, []),
  (43, .iconst 4, [], 4, []),
  (44, .aload_n 0, [0], 0, []),
  (45, .getfield 157, [7, 0, 11], 0, [1200]),
  (48, .invokevirtual 170, [1, 3, 11, 154], 0, [1419, 0, 0, 38]),
  (51, .ireturn, [1], 0, []),
  (52, .aload_n 0, [0], 0, []),
  (53, .aload_n 0, [0], 0, []),
  (54, .getfield 266, [29, 0, 11], 0, [1222]),
  (57, .iconst 1, [], 1, []),
  (58, .iadd, [], 0, []),
  (59, .putfield 266, [29, 0, 11], 0, [1222]),
  (62, .aload_n 0, [0], 0, []),
  (63, .aload_n 0, [0], 0, []),
  (64, .getfield 157, [7, 0, 11], 0, [1200]),
  (67, .iconst 1, [], 1, []),
  (68, .iadd, [], 0, []),
  (69, .putfield 157, [7, 0, 11], 0, [1200]),
  (72, .aload_n 0, [0], 0, []),
  (73, .invokevirtual 163, [1, 1, 11, 152], 0, [1415, 0, 0, 37]),
  (76, .istore_n 2, [2], 0, []),
  (77, .iload_n 2, [2], 0, []),
  (78, .bipush 102, [], 102, []),
  (80, .if_icmp .eq 37, [64], 0, []),
  (83, .iload_n 2, [2], 0, []),
  (84, .bipush 98, [], 98, []),
  (86, .if_icmp .eq 31, [64], 0, []),
  (89, .iload_n 2, [2], 0, []),
  (90, .bipush 104, [], 104, []),
  (92, .if_icmp .eq 25, [64], 0, []),
  (95, .iload_n 2, [2], 0, []),
  (96, .bipush 111, [], 111, []),
  (98, .if_icmp .eq 19, [64], 0, []),
  (101, .iload_n 2, [2], 0, []),
  (102, .bipush 97, [], 97, []),
  (104, .if_icmp .eq 13, [64], 0, []),
  (107, .aload_n 0, [0], 0, []),
  (108, .iconst 1, [], 1, []),
  (109, .aload_n 0, [0], 0, []),
  (110, .getfield 157, [7, 0, 11], 0, [1200]),
  (113, .invokevirtual 170, [1, 3, 11, 154], 0, [1419, 0, 0, 38]),
  (116, .ireturn, [1], 0, []),
  (117, .aload_n 0, [0], 0, []),
  (118, .aload_n 0, [0], 0, []),
  (119, .getfield 157, [7, 0, 11], 0, [1200]),
  (122, .iconst 1, [], 1, []),
  (123, .iadd, [], 0, []),
  (124, .putfield 157, [7, 0, 11], 0, [1200]),
  (127, .aload_n 0, [0], 0, []),
  (128, .getfield 157, [7, 0, 11], 0, [1200]),
  (131, .istore_n 3, [3], 0, []),
  (132, .iload_n 2, [2], 0, []),
  (133, .bipush 104, [], 104, []),
  (135, .if_icmp .eq 18, [84], 0, []),
  (138, .iload_n 2, [2], 0, []),
  (139, .bipush 111, [], 111, []),
  (141, .if_icmp .eq 12, [84], 0, []),
  (144, .aload_n 0, [0], 0, []),
  (145, .invokevirtual 269, [1, 1, 11, 179], 0, [1501, 0, 0, 55]),
  (148, .ifCond .ne 5, [84], 0, []),
  (151, .iconst 0, [], 0, []),
  (152, .ireturn, [1], 0, []),
  (153, .iload_n 2, [2], 0, []),
  (154, .bipush 98, [], 98, []),
  (156, .if_icmp .ne 19, [96], 0, []),
  (159, .aload_n 0, [0], 0, []),
  (160, .getfield 174, [10, 0, 11], 0, [1203]),
  (163, .bipush 90, [], 90, []),
  (165, .if_icmp .le 10, [96], 0, []),
  (168, .aload_n 0, [0], 0, []),
  (169, .iconst 3, [], 3, []),
  (170, .iload_n 3, [3], 0, []),
  (171, .invokevirtual 170, [1, 3, 11, 154], 0, [1419, 0, 0, 38]),
  (174, .ireturn, [1], 0, []),
  (175, .iload_n 1, [1], 0, []),
  (176, .bipush 49, [], 49, []),
  (178, .if_icmp .eq 9, [103], 0, []),
  (181, .aload_n 0, [0], 0, []),
  (182, .iconst 0, [], 0, []),
  (183, .iload_n 2, [2], 0, []),
  (184, .invokevirtual 272, [1, 3, 11, 180], 0, [1505, 0, 0, 56]),
  (187, .iload_n 1, [1], 0, []),
  (188, .bipush 48, [], 48, []),
  (190, .if_icmp .eq 9, [110], 0, []),
  (193, .aload_n 0, [0], 0, []),
  (194, .iconst 1, [], 1, []),
  (195, .iload_n 2, [2], 0, []),
  (196, .invokevirtual 272, [1, 3, 11, 180], 0, [1505, 0, 0, 56]),
  (199, .iconst 1, [], 1, []),
  (200, .ireturn, [1], 0, [])]
def cd_X12_orders : List am_E := [
  (0, .iload_n 1, [1], 0, []),
  (1, .iconst 1, [], 1, []),
  (2, .bipush 120, [], 120, []),
  (4, .invokestatic 139, [0, 3, 138], 0, [1388]),
  (7, .ifCond .eq 11, [9], 0, []),
  (10, .iload_n 1, [1], 0, []),
  (11, .aload_n 0, [0], 0, []),
  (12, .getfield 150, [6, 0, 11], 0, [1199]),
  (15, .if_icmp .le 5, [11], 0, []),
  (18, .iconst (-1), [], (-1), []),
  (19, .ireturn, [0], 0, []),
  (20, .aload_n 0, [0], 0, []),
  (21, .iload_n 1, [1], 0, []),
  (22, .invokevirtual 243, [1, 2, 11, 172], 0, [1407, 0, 0, 35]),
  (25, .aload_n 0, [0], 0, []),
  (26, .iconst 0, [], 0, []),
  (27, .putfield 266, [29, 0, 11], 0, [1222]),
  (30, .aload_n 0, [0], 0, []),
  (31, .getfield 7, [0, 2, 11], 0, [1193]),
  (34, .aload_n 0, [0], 0, []),
  (35, .getfield 13, [1, 2, 11], 0, [1194]),
  (38, .invokestatic 275, [0, 2, 144], 0, [1494]),
  (41, .aload_n 0, [0], 0, []),
  (42, .invokevirtual 279, [1, 1, 11, 181], 0, [1497, 0, 0, 54]),
  (45, .istore_n 2, [2], 0, []),
  (46, .iload_n 2, [2], 0, []),
  (47, .ifCond .eq 39, [44], 0, []),
  (50, .aload_n 0, [0], 0, []),
  (51, .getfield 157, [7, 0, 11], 0, [1200]),
  (54, .aload_n 0, [0], 0, []),
  (55, .getfield 160, [8, 0, 11], 0, [1201]),
  (58, .if_icmp .ge 28, [44], 0, []),
  (61, .aload_n 0, [0], 0, []),
  (62, .bipush 59, [], 59, []),
  (64, .invokevirtual 249, [1, 2, 11, 155], 0, [1486, 0, 0, 53]),
  (67, .ifCond .eq 14, [41], 0, []),
  (70, .aload_n 0, [0], 0, []),
  (71, .invokevirtual 279, [1, 1, 11, 181], 0, [1497, 0, 0, 54]),
  (74, .ifCond .eq 7, [41], 0, []),
  (77, .iconst 1, [], 1, []),
  (78, .goto 4, [42], 0, []),
  (81, .iconst 0, [], 0, []),
  (82, .istore_n 2, [2], 0, []),
  (83, .goto (-37), [25], 0, []),
  (86, .aload_n 0, [0], 0, []),
  (87, .iconst 0, [], 0, []),
  (88, .putfield 150, [6, 0, 11], 0, [1199]),
  (91, .iload_n 2, [2], 0, []),
  (92, .ifCond .eq 8, [52], 0, []),
  (95, .aload_n 0, [0], 0, []),
  (96, .getfield 266, [29, 0, 11], 0, [1222]),
  (99, .ireturn, [0], 0, []),
  (100, .aload_n 0, [0], 0, []),
  (101, .getfield 13, [1, 2, 11], 0, [1194]),
  (104, .aload_n 0, [0], 0, []),
  (105, .getfield 7, [0, 2, 11], 0, [1193]),
  (108, .invokestatic 275, [0, 2, 144], 0, [1494]),
  (111, .aload_n 0, [0], 0, []),
  (112, .getfield 167, [9, 0, 11], 0, [1202]),
  (115, .ireturn, [0], 0, [])]
def cd_X12_feels : List am_E := [
  (0, .iconst 1, [], 1, []),
  (1, .iload_n 1, [1], 0, []),
  (2, .isub, [], 0, []),
  (3, .istore_n 2, [2], 0, []),
  (4, .aload_n 0, [0], 0, []),
  (5, .getfield 59, [28, 2, 11], 0, [1221]),
  (8, .iconst 0, [], 0, []),
  (9, .iload_n 1, [1], 0, []),
  (10, .iastore, [], 0, []),
  (11, .aload_n 0, [0], 0, []),
  (12, .getfield 59, [28, 2, 11], 0, [1221]),
  (15, .iconst 1, [], 1, []),
  (16, .aload_n 0, [0], 0, []),
  (17, .getfield 7, [0, 2, 11], 0, [1193]),
  (20, .iconst 0, [], 0, []),
  (21, .iload_n 1, [1], 0, []),
  (22, .iadd, [], 0, []),
  (23, .iaload, [], 0, []),
  (24, .iastore, [], 0, []),
  (25, .aload_n 0, [0], 0, []),
  (26, .getfield 59, [28, 2, 11], 0, [1221]),
  (29, .iconst 2, [], 2, []),
  (30, .aload_n 0, [0], 0, []),
  (31, .getfield 7, [0, 2, 11], 0, [1193]),
  (34, .iconst 0, [], 0, []),
  (35, .iload_n 2, [2], 0, []),
  (36, .iadd, [], 0, []),
  (37, .iaload, [], 0, []),
  (38, .iastore, [], 0, []),
  (39, .aload_n 0, [0], 0, []),
  (40, .getfield 59, [28, 2, 11], 0, [1221]),
  (43, .iconst 3, [], 3, []),
  (44, .aload_n 0, [0], 0, []),
  (45, .getfield 7, [0, 2, 11], 0, [1193]),
  (48, .iconst 2, [], 2, []),
  (49, .iload_n 1, [1], 0, []),
  (50, .iadd, [], 0, []),
  (51, .iaload, [], 0, []),
  (52, .iastore, [], 0, []),
  (53, .aload_n 0, [0], 0, []),
  (54, .getfield 59, [28, 2, 11], 0, [1221]),
  (57, .iconst 4, [], 4, []),
  (58, .aload_n 0, [0], 0, []),
  (59, .getfield 7, [0, 2, 11], 0, [1193]),
  (62, .iconst 2, [], 2, []),
  (63, .iload_n 2, [2], 0, []),
  (64, .iadd, [], 0, []),
  (65, .iaload, [], 0, []),
  (66, .iastore, [], 0, []),
  (67, .aload_n 0, [0], 0, []),
  (68, .getfield 59, [28, 2, 11], 0, [1221]),
  (71, .iconst 5, [], 5, []),
  (72, .aload_n 0, [0], 0, []),
  (73, .getfield 7, [0, 2, 11], 0, [1193]),
  (76, .iconst 4, [], 4, []),
  (77, .iload_n 1, [1], 0, []),
  (78, .iadd, [], 0, []),
  (79, .iaload, [], 0, []),
  (80, .iastore, [], 0, []),
  (81, .aload_n 0, [0], 0, []),
  (82, .getfield 59, [28, 2, 11], 0, [1221]),
  (85, .bipush 6, [], 6, []),
  (87, .aload_n 0, [0], 0, []),
  (88, .getfield 7, [0, 2, 11], 0, [1193]),
  (91, .iconst 4, [], 4, []),
  (92, .iload_n 2, [2], 0, []),
  (93, .iadd, [], 0, []),
  (94, .iaload, [], 0, []),
  (95, .iastore, [], 0, []),
  (96, .aload_n 0, [0], 0, []),
  (97, .getfield 59, [28, 2, 11], 0, [1221]),
  (100, .bipush 7, [], 7, []),
  (102, .aload_n 0, [0], 0, []),
  (103, .getfield 7, [0, 2, 11], 0, [1193]),
  (106, .bipush 6, [], 6, []),
  (108, .iload_n 2, [2], 0, []),
  (109, .iadd, [], 0, []),
  (110, .iaload, [], 0, []),
  (111, .iastore, [], 0, []),
  (112, .aload_n 0, [0], 0, []),
  (113, .getfield 59, [28, 2, 11], 0, [1221]),
  (116, .bipush 8, [], 8, []),
  (118, .aload_n 0, [0], 0, []),
  (119, .getfield 7, [0, 2, 11], 0, [1193]),
  (122, .bipush 12, [], 12, []),
  (124, .iaload, [], 0, []),
  (125, .bipush 100, [], 100, []),
  (127, .irem, [], 0, []),
  (128, .iastore, [], 0, []),
  (129, .aload_n 0, [0], 0, []),
  (130, .getfield 59, [28, 2, 11], 0, [1221]),
  (133, .bipush 9, [], 9, []),
  (135, .aload_n 0, [0], 0, []),
  (136, .getfield 62, [30, 2, 11], 0, [1223]),
  (139, .iload_n 1, [1], 0, []),
  (140, .iaload, [], 0, []),
  (141, .iastore, [], 0, []),
  (142, .return_, [], 0, [])]
def cd_X12_asks : List am_E := [
  (0, .aload_n 0, [0], 0, []),
  (1, .iload_n 1, [1], 0, []),
  (2, .invokevirtual 282, [1, 2, 11, 183], 0, [1552, 0, 0, 65]),
  (5, .aload_n 0, [0], 0, []),
  (6, .getfield 65, [31, 2, 11], 0, [1224]),
  (9, .iload_n 1, [1], 0, []),
  (10, .aload_n 0, [0], 0, []),
  (11, .bipush 102, [], 102, []),
  (13, .bipush 9, [], 9, []),
  (15, .invokevirtual 285, [1, 3, 11, 176], 0, [1556, 0, 0, 66]),
  (18, .iastore, [], 0, []),
  (19, .aload_n 0, [0], 0, []),
  (20, .getfield 68, [32, 2, 11], 0, [1225]),
  (23, .iload_n 1, [1], 0, []),
  (24, .aload_n 0, [0], 0, []),
  (25, .bipush 100, [], 100, []),
  (27, .bipush 90, [], 90, []),
  (29, .invokevirtual 285, [1, 3, 11, 176], 0, [1556, 0, 0, 66]),
  (32, .iastore, [], 0, []),
  (33, .aload_n 0, [0], 0, []),
  (34, .getfield 71, [33, 2, 11], 0, [1226]),
  (37, .iload_n 1, [1], 0, []),
  (38, .aload_n 0, [0], 0, []),
  (39, .bipush 117, [], 117, []),
  (41, .bipush 90, [], 90, []),
  (43, .invokevirtual 285, [1, 3, 11, 176], 0, [1556, 0, 0, 66]),
  (46, .iastore, [], 0, []),
  (47, .aload_n 0, [0], 0, []),
  (48, .getfield 80, [36, 2, 11], 0, [1229]),
  (51, .iload_n 1, [1], 0, []),
  (52, .aload_n 0, [0], 0, []),
  (53, .bipush 104, [], 104, []),
  (55, .invokevirtual 288, [1, 2, 11, 177], 0, [1567, 0, 0, 68]),
  (58, .bastore, [], 0, []),
  (59, .aload_n 0, [0], 0, []),
  (60, .getfield 84, [37, 2, 11], 0, [1230]),
  (63, .iload_n 1, [1], 0, []),
  (64, .aload_n 0, [0], 0, []),
  (65, .bipush 120, [], 120, []),
  (67, .invokevirtual 288, [1, 2, 11, 177], 0, [1567, 0, 0, 68]),
  (70, .bastore, [], 0, []),
  (71, .return_, [], 0, [])]
def cd_X12_moves : List am_E := [
  (0, .aload_n 0, [0], 0, []),
  (1, .getfield 7, [0, 2, 11], 0, [1193]),
  (4, .bipush 8, [], 8, []),
  (6, .iload_n 1, [1], 0, []),
  (7, .iadd, [], 0, []),
  (8, .iaload, [], 0, []),
  (9, .iconst 1, [], 1, []),
  (10, .if_icmp .ne 14, [15], 0, []),
  (13, .aload_n 0, [0], 0, []),
  (14, .getfield 65, [31, 2, 11], 0, [1224]),
  (17, .iload_n 1, [1], 0, []),
  (18, .iaload, [], 0, []),
  (19, .iconst 2, [], 2, []),
  (20, .idiv, [], 0, []),
  (21, .goto 9, [19], 0, []),
  (24, .aload_n 0, [0], 0, []),
  (25, .getfield 65, [31, 2, 11], 0, [1224]),
  (28, .iload_n 1, [1], 0, []),
  (29, .iaload, [], 0, []),
  (30, .istore_n 2, [2], 0, []),
  (31, .aload_n 0, [0], 0, []),
  (32, .getfield 7, [0, 2, 11], 0, [1193]),
  (35, .iconst 0, [], 0, []),
  (36, .iload_n 1, [1], 0, []),
  (37, .iadd, [], 0, []),
  (38, .iconst 0, [], 0, []),
  (39, .aload_n 0, [0], 0, []),
  (40, .getfield 7, [0, 2, 11], 0, [1193]),
  (43, .iconst 0, [], 0, []),
  (44, .iload_n 1, [1], 0, []),
  (45, .iadd, [], 0, []),
  (46, .iaload, [], 0, []),
  (47, .iload_n 2, [2], 0, []),
  (48, .isub, [], 0, []),
  (49, .invokestatic 263, [0, 2, 140], 0, [1509]),
  (52, .iastore, [], 0, []),
  (53, .aload_n 0, [0], 0, []),
  (54, .getfield 7, [0, 2, 11], 0, [1193]),
  (57, .iconst 2, [], 2, []),
  (58, .iload_n 1, [1], 0, []),
  (59, .iadd, [], 0, []),
  (60, .iconst 0, [], 0, []),
  (61, .bipush 90, [], 90, []),
  (63, .aload_n 0, [0], 0, []),
  (64, .getfield 7, [0, 2, 11], 0, [1193]),
  (67, .iconst 2, [], 2, []),
  (68, .iload_n 1, [1], 0, []),
  (69, .iadd, [], 0, []),
  (70, .iaload, [], 0, []),
  (71, .aload_n 0, [0], 0, []),
  (72, .getfield 68, [32, 2, 11], 0, [1225]),
  (75, .iload_n 1, [1], 0, []),
  (76, .iaload, [], 0, []),
  (77, .iadd, [], 0, []),
  (78, .aload_n 0, [0], 0, []),
  (79, .getfield 71, [33, 2, 11], 0, [1226]),
  (82, .iload_n 1, [1], 0, []),
  (83, .iaload, [], 0, []),
  (84, .isub, [], 0, []),
  (85, .invokestatic 291, [0, 2, 139], 0, [1575]),
  (88, .invokestatic 263, [0, 2, 140], 0, [1509]),
  (91, .iastore, [], 0, []),
  (92, .aload_n 0, [0], 0, []),
  (93, .bipush 104, [], 104, []),
  (95, .invokevirtual 294, [1, 2, 11, 178], 0, [1578, 0, 0, 70]),
  (98, .ifCond .eq 26, [80], 0, []),
  (101, .aload_n 0, [0], 0, []),
  (102, .getfield 7, [0, 2, 11], 0, [1193]),
  (105, .bipush 6, [], 6, []),
  (107, .iload_n 1, [1], 0, []),
  (108, .iadd, [], 0, []),
  (109, .aload_n 0, [0], 0, []),
  (110, .getfield 80, [36, 2, 11], 0, [1229]),
  (113, .iload_n 1, [1], 0, []),
  (114, .baload, [], 0, []),
  (115, .ifCond .eq 7, [78], 0, []),
  (118, .iconst 0, [], 0, []),
  (119, .goto 4, [79], 0, []),
  (122, .iconst 1, [], 1, []),
  (123, .iastore, [], 0, []),
  (124, .return_, [], 0, [])]
def cd_X12_offenceTo : List am_E := [
  (0, .iconst 1, [], 1, []),
  (1, .iload_n 1, [1], 0, []),
  (2, .isub, [], 0, []),
  (3, .istore_n 2, [2], 0, []),
  (4, .iconst 0, [], 0, []),
  (5, .istore_n 3, [3], 0, []),
  (6, .aload_n 0, [0], 0, []),
  (7, .getfield 7, [0, 2, 11], 0, [1193]),
  (10, .iconst 0, [], 0, []),
  (11, .iload_n 1, [1], 0, []),
  (12, .iadd, [], 0, []),
  (13, .iaload, [], 0, []),
  (14, .aload_n 0, [0], 0, []),
  (15, .getfield 7, [0, 2, 11], 0, [1193]),
  (18, .iconst 0, [], 0, []),
  (19, .iload_n 2, [2], 0, []),
  (20, .iadd, [], 0, []),
  (21, .iaload, [], 0, []),
  (22, .isub, [], 0, []),
  (23, .aload_n 0, [0], 0, []),
  (24, .getfield 143, [3, 0, 11], 0, [1196]),
  (27, .if_icmp .le 23, [38], 0, []),
  (30, .iload_n 3, [3], 0, []),
  (31, .aload_n 0, [0], 0, []),
  (32, .getfield 7, [0, 2, 11], 0, [1193]),
  (35, .iconst 0, [], 0, []),
  (36, .iload_n 1, [1], 0, []),
  (37, .iadd, [], 0, []),
  (38, .iaload, [], 0, []),
  (39, .iadd, [], 0, []),
  (40, .aload_n 0, [0], 0, []),
  (41, .getfield 7, [0, 2, 11], 0, [1193]),
  (44, .iconst 0, [], 0, []),
  (45, .iload_n 2, [2], 0, []),
  (46, .iadd, [], 0, []),
  (47, .iaload, [], 0, []),
  (48, .isub, [], 0, []),
  (49, .istore_n 3, [3], 0, []),
  (50, .aload_n 0, [0], 0, []),
  (51, .getfield 7, [0, 2, 11], 0, [1193]),
  (54, .iconst 2, [], 2, []),
  (55, .iload_n 1, [1], 0, []),
  (56, .iadd, [], 0, []),
  (57, .iaload, [], 0, []),
  (58, .aload_n 0, [0], 0, []),
  (59, .getfield 7, [0, 2, 11], 0, [1193]),
  (62, .iconst 2, [], 2, []),
  (63, .iload_n 2, [2], 0, []),
  (64, .iadd, [], 0, []),
  (65, .iaload, [], 0, []),
  (66, .isub, [], 0, []),
  (67, .aload_n 0, [0], 0, []),
  (68, .getfield 147, [4, 0, 11], 0, [1197]),
  (71, .if_icmp .le 23, [70], 0, []),
  (74, .iload_n 3, [3], 0, []),
  (75, .aload_n 0, [0], 0, []),
  (76, .getfield 7, [0, 2, 11], 0, [1193]),
  (79, .iconst 2, [], 2, []),
  (80, .iload_n 1, [1], 0, []),
  (81, .iadd, [], 0, []),
  (82, .iaload, [], 0, []),
  (83, .iadd, [], 0, []),
  (84, .aload_n 0, [0], 0, []),
  (85, .getfield 7, [0, 2, 11], 0, [1193]),
  (88, .iconst 2, [], 2, []),
  (89, .iload_n 2, [2], 0, []),
  (90, .iadd, [], 0, []),
  (91, .iaload, [], 0, []),
  (92, .isub, [], 0, []),
  (93, .istore_n 3, [3], 0, []),
  (94, .aload_n 0, [0], 0, []),
  (95, .getfield 7, [0, 2, 11], 0, [1193]),
  (98, .bipush 6, [], 6, []),
  (100, .iload_n 1, [1], 0, []),
  (101, .iadd, [], 0, []),
  (102, .iaload, [], 0, []),
  (103, .ifCond .ne 20, [89], 0, []),
  (106, .aload_n 0, [0], 0, []),
  (107, .getfield 7, [0, 2, 11], 0, [1193]),
  (110, .bipush 6, [], 6, []),
  (112, .iload_n 2, [2], 0, []),
  (113, .iadd, [], 0, []),
  (114, .iaload, [], 0, []),
  (115, .iconst 1, [], 1, []),
  (116, .if_icmp .ne 7, [89], 0, []),
  (119, .iload_n 3, [3], 0, []),
  (120, .iconst 1, [], 1, []),
  (121, .iadd, [], 0, []),
  (122, .istore_n 3, [3], 0, []),
  (123, .iload_n 3, [3], 0, []),
  (124, .ireturn, [0], 0, [])]
def cd_X12_apartNow : List am_E := [
  (0, .aload_n 0, [0], 0, []),
  (1, .getfield 7, [0, 2, 11], 0, [1193]),
  (4, .iconst 0, [], 0, []),
  (5, .iaload, [], 0, []),
  (6, .aload_n 0, [0], 0, []),
  (7, .getfield 7, [0, 2, 11], 0, [1193]),
  (10, .iconst 1, [], 1, []),
  (11, .iaload, [], 0, []),
  (12, .isub, [], 0, []),
  (13, .invokestatic 297, [0, 1, 141], 0, [1532]),
  (16, .ireturn, [0], 0, [])]
def cd_X12_goesOn : List am_E := [
  (0, .aload_n 0, [0], 0, []),
  (1, .invokevirtual 300, [1, 1, 11, 145], 0, [1524, 0, 0, 59]),
  (4, .ifCond .ne 27, [14], 0, []),
  (7, .aload_n 0, [0], 0, []),
  (8, .invokevirtual 303, [1, 1, 11, 146], 0, [1539, 0, 0, 62]),
  (11, .ifCond .ne 20, [14], 0, []),
  (14, .aload_n 0, [0], 0, []),
  (15, .getfield 7, [0, 2, 11], 0, [1193]),
  (18, .bipush 12, [], 12, []),
  (20, .iaload, [], 0, []),
  (21, .sipush 9999, [], 9999, []),
  (24, .if_icmp .ge 7, [14], 0, []),
  (27, .iconst 1, [], 1, []),
  (28, .goto 4, [15], 0, []),
  (31, .iconst 0, [], 0, []),
  (32, .ireturn, [1], 0, [])]
def cd_X12_thereNow : List am_E := [
  (0, .aload_n 0, [0], 0, []),
  (1, .invokevirtual 300, [1, 1, 11, 145], 0, [1524, 0, 0, 59]),
  (4, .ifCond .eq 5, [5], 0, []),
  (7, .iconst 2, [], 2, []),
  (8, .ireturn, [0], 0, []),
  (9, .aload_n 0, [0], 0, []),
  (10, .getfield 7, [0, 2, 11], 0, [1193]),
  (13, .iconst 0, [], 0, []),
  (14, .iaload, [], 0, []),
  (15, .ifCond .ne 7, [12], 0, []),
  (18, .iconst 0, [], 0, []),
  (19, .goto 17, [20], 0, []),
  (22, .aload_n 0, [0], 0, []),
  (23, .getfield 7, [0, 2, 11], 0, [1193]),
  (26, .iconst 1, [], 1, []),
  (27, .iaload, [], 0, []),
  (28, .ifCond .ne 7, [19], 0, []),
  (31, .iconst 1, [], 1, []),
  (32, .goto 4, [20], 0, []),
  (35, .iconst (-1), [], (-1), []),
  (36, .ireturn, [0], 0, [])]
def cd_X12_breathGoes : List am_E := [
  (0, .iconst 0, [], 0, []),
  (1, .istore_n 1, [1], 0, []),
  (2, .iload_n 1, [1], 0, []),
  (3, .iconst 2, [], 2, []),
  (4, .if_icmp .ge 51, [31], 0, []),
  (7, .aload_n 0, [0], 0, []),
  (8, .getfield 7, [0, 2, 11], 0, [1193]),
  (11, .bipush 13, [], 13, []),
  (13, .sipush 25173, [], 25173, []),
  (16, .aload_n 0, [0], 0, []),
  (17, .getfield 7, [0, 2, 11], 0, [1193]),
  (20, .bipush 13, [], 13, []),
  (22, .iaload, [], 0, []),
  (23, .imul, [], 0, []),
  (24, .sipush 13849, [], 13849, []),
  (27, .iadd, [], 0, []),
  (28, .ldc_w 306, [], 65536, [1547]),
  (31, .irem, [], 0, []),
  (32, .iastore, [], 0, []),
  (33, .aload_n 0, [0], 0, []),
  (34, .getfield 62, [30, 2, 11], 0, [1223]),
  (37, .iload_n 1, [1], 0, []),
  (38, .aload_n 0, [0], 0, []),
  (39, .getfield 7, [0, 2, 11], 0, [1193]),
  (42, .bipush 13, [], 13, []),
  (44, .iaload, [], 0, []),
  (45, .bipush 10, [], 10, []),
  (47, .irem, [], 0, []),
  (48, .iastore, [], 0, []),
  (49, .iinc 1 1, [1], 1, []),
  (52, .goto (-50), [2], 0, []),
  (55, .iconst 0, [], 0, []),
  (56, .istore_n 1, [1], 0, []),
  (57, .iload_n 1, [1], 0, []),
  (58, .iconst 2, [], 2, []),
  (59, .if_icmp .ge 14, [41], 0, []),
  (62, .aload_n 0, [0], 0, []),
  (63, .iload_n 1, [1], 0, []),
  (64, .invokevirtual 307, [1, 2, 11, 184], 0, [1548, 0, 0, 64]),
  (67, .iinc 1 1, [1], 1, []),
  (70, .goto (-13), [33], 0, []),
  (73, .iconst 0, [], 0, []),
  (74, .istore_n 1, [1], 0, []),
  (75, .iload_n 1, [1], 0, []),
  (76, .iconst 2, [], 2, []),
  (77, .if_icmp .ge 14, [51], 0, []),
  (80, .aload_n 0, [0], 0, []),
  (81, .iload_n 1, [1], 0, []),
  (82, .invokevirtual 310, [1, 2, 11, 185], 0, [1571, 0, 0, 69]),
  (85, .iinc 1 1, [1], 1, []),
  (88, .goto (-13), [43], 0, []),
  (91, .iconst 0, [], 0, []),
  (92, .istore_n 1, [1], 0, []),
  (93, .iload_n 1, [1], 0, []),
  (94, .iconst 2, [], 2, []),
  (95, .if_icmp .ge 86, [110], 0, []),
  (98, .aload_n 0, [0], 0, []),
  (99, .iload_n 1, [1], 0, []),
  (100, .invokevirtual 313, [1, 2, 11, 186], 0, [1582, 0, 0, 71]),
  (103, .istore_n 2, [2], 0, []),
  (104, .sipush 9999, [], 9999, []),
  (107, .aload_n 0, [0], 0, []),
  (108, .getfield 7, [0, 2, 11], 0, [1193]),
  (111, .iconst 4, [], 4, []),
  (112, .iload_n 1, [1], 0, []),
  (113, .iadd, [], 0, []),
  (114, .iaload, [], 0, []),
  (115, .iload_n 2, [2], 0, []),
  (116, .iadd, [], 0, []),
  (117, .invokestatic 291, [0, 2, 139], 0, [1575]),
  (120, .istore_n 3, [3], 0, []),
  (121, .iload_n 3, [3], 0, []),
  (122, .aload_n 0, [0], 0, []),
  (123, .getfield 7, [0, 2, 11], 0, [1193]),
  (126, .iconst 4, [], 4, []),
  (127, .iload_n 1, [1], 0, []),
  (128, .iadd, [], 0, []),
  (129, .iaload, [], 0, []),
  (130, .if_icmp .le 17, [89], 0, []),
  (133, .aload_n 0, [0], 0, []),
  (134, .getfield 74, [34, 2, 11], 0, [1227]),
  (137, .iload_n 1, [1], 0, []),
  (138, .aload_n 0, [0], 0, []),
  (139, .getfield 74, [34, 2, 11], 0, [1227]),
  (142, .iload_n 1, [1], 0, []),
  (143, .iaload, [], 0, []),
  (144, .iconst 1, [], 1, []),
  (145, .iadd, [], 0, []),
  (146, .iastore, [], 0, []),
  (147, .aload_n 0, [0], 0, []),
  (148, .getfield 7, [0, 2, 11], 0, [1193]),
  (151, .iconst 4, [], 4, []),
  (152, .iload_n 1, [1], 0, []),
  (153, .iadd, [], 0, []),
  (154, .iload_n 3, [3], 0, []),
  (155, .iastore, [], 0, []),
  (156, .aload_n 0, [0], 0, []),
  (157, .getfield 84, [37, 2, 11], 0, [1230]),
  (160, .iload_n 1, [1], 0, []),
  (161, .baload, [], 0, []),
  (162, .ifCond .eq 13, [108], 0, []),
  (165, .aload_n 0, [0], 0, []),
  (166, .getfield 7, [0, 2, 11], 0, [1193]),
  (169, .bipush 10, [], 10, []),
  (171, .iload_n 1, [1], 0, []),
  (172, .iadd, [], 0, []),
  (173, .iconst 1, [], 1, []),
  (174, .iastore, [], 0, []),
  (175, .iinc 1 1, [1], 1, []),
  (178, .goto (-85), [53], 0, []),
  (181, .aload_n 0, [0], 0, []),
  (182, .getfield 7, [0, 2, 11], 0, [1193]),
  (185, .bipush 12, [], 12, []),
  (187, .aload_n 0, [0], 0, []),
  (188, .getfield 7, [0, 2, 11], 0, [1193]),
  (191, .bipush 12, [], 12, []),
  (193, .iaload, [], 0, []),
  (194, .iconst 1, [], 1, []),
  (195, .iadd, [], 0, []),
  (196, .iastore, [], 0, []),
  (197, .aload_n 0, [0], 0, []),
  (198, .aload_n 0, [0], 0, []),
  (199, .getfield 316, [38, 0, 11], 0, [1231]),
  (202, .iconst 1, [], 1, []),
  (203, .iadd, [], 0, []),
  (204, .putfield 316, [38, 0, 11], 0, [1231]),
  (207, .aload_n 0, [0], 0, []),
  (208, .getfield 7, [0, 2, 11], 0, [1193]),
  (211, .iconst 0, [], 0, []),
  (212, .iaload, [], 0, []),
  (213, .aload_n 0, [0], 0, []),
  (214, .getfield 7, [0, 2, 11], 0, [1193]),
  (217, .iconst 1, [], 1, []),
  (218, .iaload, [], 0, []),
  (219, .if_icmp .ge 7, [137], 0, []),
  (222, .iconst 0, [], 0, []),
  (223, .goto 23, [149], 0, []),
  (226, .aload_n 0, [0], 0, []),
  (227, .getfield 7, [0, 2, 11], 0, [1193]),
  (230, .iconst 0, [], 0, []),
  (231, .iaload, [], 0, []),
  (232, .aload_n 0, [0], 0, []),
  (233, .getfield 7, [0, 2, 11], 0, [1193]),
  (236, .iconst 1, [], 1, []),
  (237, .iaload, [], 0, []),
  (238, .if_icmp .le 7, [148], 0, []),
  (241, .iconst 1, [], 1, []),
  (242, .goto 4, [149], 0, []),
  (245, .iconst 2, [], 2, []),
  (246, .istore_n 1, [1], 0, []),
  (247, .aload_n 0, [0], 0, []),
  (248, .getfield 77, [35, 2, 11], 0, [1228]),
  (251, .iload_n 1, [1], 0, []),
  (252, .aload_n 0, [0], 0, []),
  (253, .getfield 77, [35, 2, 11], 0, [1228]),
  (256, .iload_n 1, [1], 0, []),
  (257, .iaload, [], 0, []),
  (258, .iconst 1, [], 1, []),
  (259, .iadd, [], 0, []),
  (260, .iastore, [], 0, []),
  (261, .aload_n 0, [0], 0, []),
  (262, .aload_n 0, [0], 0, []),
  (263, .getfield 319, [40, 0, 11], 0, [1233]),
  (266, .aload_n 0, [0], 0, []),
  (267, .invokevirtual 322, [1, 1, 11, 187], 0, [1528, 0, 0, 60]),
  (270, .invokestatic 263, [0, 2, 140], 0, [1509]),
  (273, .putfield 319, [40, 0, 11], 0, [1233]),
  (276, .aload_n 0, [0], 0, []),
  (277, .getfield 325, [39, 0, 11], 0, [1232]),
  (280, .iconst (-1), [], (-1), []),
  (281, .if_icmp .ne 11, [175], 0, []),
  (284, .aload_n 0, [0], 0, []),
  (285, .aload_n 0, [0], 0, []),
  (286, .invokevirtual 328, [1, 1, 11, 189], 0, [1520, 0, 0, 58]),
  (289, .putfield 325, [39, 0, 11], 0, [1232]),
  (292, .return_, [], 0, [])]
def cd_X12_breathsGo : List am_E := [
  (0, .aload_n 0, [0], 0, []),
  (1, .iconst 0, [], 0, []),
  (2, .putfield 316, [38, 0, 11], 0, [1231]),
  (5, .aload_n 0, [0], 0, []),
  (6, .aload_n 0, [0], 0, []),
  (7, .invokevirtual 328, [1, 1, 11, 189], 0, [1520, 0, 0, 58]),
  (10, .putfield 325, [39, 0, 11], 0, [1232]),
  (13, .aload_n 0, [0], 0, []),
  (14, .aload_n 0, [0], 0, []),
  (15, .invokevirtual 322, [1, 1, 11, 187], 0, [1528, 0, 0, 60]),
  (18, .putfield 319, [40, 0, 11], 0, [1233]),
  (21, .iconst 0, [], 0, []),
  (22, .istore_n 2, [2], 0, []),
  (23, .iload_n 2, [2], 0, []),
  (24, .iconst 2, [], 2, []),
  (25, .if_icmp .ge 16, [23], 0, []),
  (28, .aload_n 0, [0], 0, []),
  (29, .getfield 74, [34, 2, 11], 0, [1227]),
  (32, .iload_n 2, [2], 0, []),
  (33, .iconst 0, [], 0, []),
  (34, .iastore, [], 0, []),
  (35, .iinc 2 1, [2], 1, []),
  (38, .goto (-15), [13], 0, []),
  (41, .iconst 0, [], 0, []),
  (42, .istore_n 2, [2], 0, []),
  (43, .iload_n 2, [2], 0, []),
  (44, .iconst 3, [], 3, []),
  (45, .if_icmp .ge 16, [35], 0, []),
  (48, .aload_n 0, [0], 0, []),
  (49, .getfield 77, [35, 2, 11], 0, [1228]),
  (52, .iload_n 2, [2], 0, []),
  (53, .iconst 0, [], 0, []),
  (54, .iastore, [], 0, []),
  (55, .iinc 2 1, [2], 1, []),
  (58, .goto (-15), [25], 0, []),
  (61, .iconst 0, [], 0, []),
  (62, .istore_n 2, [2], 0, []),
  (63, .iload_n 2, [2], 0, []),
  (64, .iload_n 1, [1], 0, []),
  (65, .if_icmp .ge 20, [47], 0, []),
  (68, .aload_n 0, [0], 0, []),
  (69, .invokevirtual 331, [1, 1, 11, 188], 0, [1535, 0, 0, 61]),
  (72, .ifCond .eq 13, [47], 0, []),
  (75, .aload_n 0, [0], 0, []),
  (76, .invokevirtual 334, [1, 1, 11, 190], 0, [1543, 0, 0, 63]),
  (79, .iinc 2 1, [2], 1, []),
  (82, .goto (-19), [37], 0, []),
  (85, .return_, [], 0, [])]
def cd_X12_breaths : List am_E := [
  (0, .iload_n 1, [1], 0, []),
  (1, .iconst 1, [], 1, []),
  (2, .sipush 240, [], 240, []),
  (5, .invokestatic 139, [0, 3, 138], 0, [1388]),
  (8, .ifCond .ne 5, [7], 0, []),
  (11, .iconst (-1), [], (-1), []),
  (12, .ireturn, [0], 0, []),
  (13, .aload_n 0, [0], 0, []),
  (14, .iload_n 1, [1], 0, []),
  (15, .invokevirtual 337, [1, 2, 11, 191], 0, [1516, 0, 0, 57]),
  (18, .aload_n 0, [0], 0, []),
  (19, .getfield 316, [38, 0, 11], 0, [1231]),
  (22, .ireturn, [0], 0, [])]
def cd_X12_tried : List am_E := [
  (0, .iload_n 1, [1], 0, []),
  (1, .iconst 1, [], 1, []),
  (2, .sipush 240, [], 240, []),
  (5, .invokestatic 139, [0, 3, 138], 0, [1388]),
  (8, .ifCond .eq 45, [25], 0, []),
  (11, .iload_n 2, [2], 0, []),
  (12, .iconst 0, [], 0, []),
  (13, .iconst 2, [], 2, []),
  (14, .invokestatic 139, [0, 3, 138], 0, [1388]),
  (17, .ifCond .ne 38, [27], 0, []),
  (20, .iload_n 2, [2], 0, []),
  (21, .bipush 10, [], 10, []),
  (23, .bipush 11, [], 11, []),
  (25, .invokestatic 139, [0, 3, 138], 0, [1388]),
  (28, .ifCond .ne 27, [27], 0, []),
  (31, .iload_n 2, [2], 0, []),
  (32, .bipush 20, [], 20, []),
  (34, .bipush 21, [], 21, []),
  (36, .invokestatic 139, [0, 3, 138], 0, [1388]),
  (39, .ifCond .ne 16, [27], 0, []),
  (42, .iload_n 2, [2], 0, []),
  (43, .bipush 30, [], 30, []),
  (45, .bipush 31, [], 31, []),
  (47, .invokestatic 139, [0, 3, 138], 0, [1388]),
  (50, .ifCond .ne 5, [27], 0, []),
  (53, .iconst (-1), [], (-1), []),
  (54, .ireturn, [0], 0, []),
  (55, .aload_n 0, [0], 0, []),
  (56, .getfield 7, [0, 2, 11], 0, [1193]),
  (59, .aload_n 0, [0], 0, []),
  (60, .getfield 13, [1, 2, 11], 0, [1194]),
  (63, .invokestatic 275, [0, 2, 144], 0, [1494]),
  (66, .aload_n 0, [0], 0, []),
  (67, .iload_n 1, [1], 0, []),
  (68, .invokevirtual 337, [1, 2, 11, 191], 0, [1516, 0, 0, 57]),
  (71, .iload_n 2, [2], 0, []),
  (72, .tableswitch 60 0 2 #[28, 36, 52], [53, 37, 41, 49], 0, []),
  (100, .aload_n 0, [0], 0, []),
  (101, .getfield 316, [38, 0, 11], 0, [1231]),
  (104, .istore_n 3, [3], 0, []),
  (105, .goto 59, [72], 0, []),
  (108, .aload_n 0, [0], 0, []),
  (109, .invokevirtual 300, [1, 1, 11, 145], 0, [1524, 0, 0, 59]),
  (112, .ifCond .eq 7, [46], 0, []),
  (115, .iconst 1, [], 1, []),
  (116, .goto 4, [47], 0, []),
  (119, .iconst 0, [], 0, []),
  (120, .istore_n 3, [3], 0, []),
  (121, .goto 43, [72], 0, []),
  (124, .aload_n 0, [0], 0, []),
  (125, .invokevirtual 303, [1, 1, 11, 146], 0, [1539, 0, 0, 62]),
  (128, .istore_n 3, [3], 0, []),
  (129, .goto 35, [72], 0, []),
  (132, .aload_n 0, [0], 0, []),
  (133, .getfield 7, [0, 2, 11], 0, [1193]),
  (136, .iload_n 2, [2], 0, []),
  (137, .bipush 20, [], 20, []),
  (139, .if_icmp .ge 7, [60], 0, []),
  (142, .iconst 0, [], 0, []),
  (143, .goto 14, [66], 0, []),
  (146, .iload_n 2, [2], 0, []),
  (147, .bipush 30, [], 30, []),
  (149, .if_icmp .ge 7, [65], 0, []),
  (152, .iconst 4, [], 4, []),
  (153, .goto 4, [66], 0, []),
  (156, .iconst 2, [], 2, []),
  (157, .iload_n 2, [2], 0, []),
  (158, .bipush 10, [], 10, []),
  (160, .irem, [], 0, []),
  (161, .iadd, [], 0, []),
  (162, .iaload, [], 0, []),
  (163, .istore_n 3, [3], 0, []),
  (164, .aload_n 0, [0], 0, []),
  (165, .getfield 13, [1, 2, 11], 0, [1194]),
  (168, .aload_n 0, [0], 0, []),
  (169, .getfield 7, [0, 2, 11], 0, [1193]),
  (172, .invokestatic 275, [0, 2, 144], 0, [1494]),
  (175, .iload_n 3, [3], 0, []),
  (176, .ireturn, [0], 0, [])]
def cd_X12_kingIs : List am_E := [
  (0, .iload_n 1, [1], 0, []),
  (1, .iconst 0, [], 0, []),
  (2, .iconst 1, [], 1, []),
  (3, .invokestatic 139, [0, 3, 138], 0, [1388]),
  (6, .ifCond .eq 25, [19], 0, []),
  (9, .iload_n 2, [2], 0, []),
  (10, .iconst 0, [], 0, []),
  (11, .iconst 5, [], 5, []),
  (12, .invokestatic 139, [0, 3, 138], 0, [1388]),
  (15, .ifCond .eq 16, [19], 0, []),
  (18, .aload_n 0, [0], 0, []),
  (19, .getfield 7, [0, 2, 11], 0, [1193]),
  (22, .iconst 2, [], 2, []),
  (23, .iload_n 2, [2], 0, []),
  (24, .imul, [], 0, []),
  (25, .iload_n 1, [1], 0, []),
  (26, .iadd, [], 0, []),
  (27, .iaload, [], 0, []),
  (28, .goto 4, [20], 0, []),
  (31, .iconst (-1), [], (-1), []),
  (32, .ireturn, [0], 0, [])]
def cd_X12_meet : List am_E := [
  (0, .iload_n 1, [1], 0, []),
  (1, .iconst 1, [], 1, []),
  (2, .sipush 240, [], 240, []),
  (5, .invokestatic 139, [0, 3, 138], 0, [1388]),
  (8, .ifCond .eq 12, [10], 0, []),
  (11, .iload_n 2, [2], 0, []),
  (12, .iconst 0, [], 0, []),
  (13, .iconst 1, [], 1, []),
  (14, .invokestatic 139, [0, 3, 138], 0, [1388]),
  (17, .ifCond .ne 5, [12], 0, []),
  (20, .iconst (-1), [], (-1), []),
  (21, .ireturn, [0], 0, []),
  (22, .aload_n 0, [0], 0, []),
  (23, .getfield 7, [0, 2, 11], 0, [1193]),
  (26, .aload_n 0, [0], 0, []),
  (27, .getfield 13, [1, 2, 11], 0, [1194]),
  (30, .invokestatic 275, [0, 2, 144], 0, [1494]),
  (33, .aload_n 0, [0], 0, []),
  (34, .iload_n 1, [1], 0, []),
  (35, .invokevirtual 337, [1, 2, 11, 191], 0, [1516, 0, 0, 57]),
  (38, .aload_n 0, [0], 0, []),
  (39, .invokevirtual 300, [1, 1, 11, 145], 0, [1524, 0, 0, 59]),
  (42, .istore_n 3, [3], 0, []),
  (43, .aload_n 0, [0], 0, []),
  (44, .getfield 13, [1, 2, 11], 0, [1194]),
  (47, .aload_n 0, [0], 0, []),
  (48, .getfield 7, [0, 2, 11], 0, [1193]),
  (51, .invokestatic 275, [0, 2, 144], 0, [1494]),
  (54, .iload_n 3, [3], 0, []),
  (55, .ifCond .ne 6, [32], 0, []),
  (58, .bipush (-2), [], (-2), []),
  (60, .ireturn, [0], 0, []),
  (61, .iload_n 2, [2], 0, []),
  (62, .ifCond .ne 10, [37], 0, []),
  (65, .aload_n 0, [0], 0, []),
  (66, .getfield 316, [38, 0, 11], 0, [1231]),
  (69, .goto 7, [39], 0, []),
  (72, .aload_n 0, [0], 0, []),
  (73, .getfield 325, [39, 0, 11], 0, [1232]),
  (76, .ireturn, [0], 0, [])]
def cd_X12_leaves : List am_E := [
  (0, .iload_n 1, [1], 0, []),
  (1, .iconst 1, [], 1, []),
  (2, .sipush 240, [], 240, []),
  (5, .invokestatic 139, [0, 3, 138], 0, [1388]),
  (8, .ifCond .eq 12, [10], 0, []),
  (11, .iload_n 2, [2], 0, []),
  (12, .iconst 0, [], 0, []),
  (13, .iconst 1, [], 1, []),
  (14, .invokestatic 139, [0, 3, 138], 0, [1388]),
  (17, .ifCond .ne 5, [12], 0, []),
  (20, .iconst (-1), [], (-1), []),
  (21, .ireturn, [0], 0, []),
  (22, .aload_n 0, [0], 0, []),
  (23, .getfield 7, [0, 2, 11], 0, [1193]),
  (26, .aload_n 0, [0], 0, []),
  (27, .getfield 13, [1, 2, 11], 0, [1194]),
  (30, .invokestatic 275, [0, 2, 144], 0, [1494]),
  (33, .aload_n 0, [0], 0, []),
  (34, .iload_n 1, [1], 0, []),
  (35, .invokevirtual 337, [1, 2, 11, 191], 0, [1516, 0, 0, 57]),
  (38, .aload_n 0, [0], 0, []),
  (39, .invokevirtual 303, [1, 1, 11, 146], 0, [1539, 0, 0, 62]),
  (42, .istore_n 3, [3], 0, []),
  (43, .aload_n 0, [0], 0, []),
  (44, .getfield 13, [1, 2, 11], 0, [1194]),
  (47, .aload_n 0, [0], 0, []),
  (48, .getfield 7, [0, 2, 11], 0, [1193]),
  (51, .invokestatic 275, [0, 2, 144], 0, [1494]),
  (54, .iload_n 3, [3], 0, []),
  (55, .ifCond .ne 6, [32], 0, []),
  (58, .bipush (-2), [], (-2), []),
  (60, .ireturn, [0], 0, []),
  (61, .aload_n 0, [0], 0, []),
  (62, .invokevirtual 303, [1, 1, 11, 146], 0, [1539, 0, 0, 62]),
  (65, .ifCond .eq 18, [44], 0, []),
  (68, .iload_n 2, [2], 0, []),
  (69, .ifCond .ne 12, [42], 0, []),
  (72, .aload_n 0, [0], 0, []),
  (73, .invokevirtual 303, [1, 1, 11, 146], 0, [1539, 0, 0, 62]),
  (76, .iconst 1, [], 1, []),
  (77, .isub, [], 0, []),
  (78, .goto 4, [43], 0, []),
  (81, .iconst 0, [], 0, []),
  (82, .ireturn, [0], 0, []),
  (83, .iload_n 2, [2], 0, []),
  (84, .ifCond .ne 9, [50], 0, []),
  (87, .iload_n 3, [3], 0, []),
  (88, .iconst 1, [], 1, []),
  (89, .isub, [], 0, []),
  (90, .goto 7, [52], 0, []),
  (93, .aload_n 0, [0], 0, []),
  (94, .getfield 316, [38, 0, 11], 0, [1231]),
  (97, .ireturn, [0], 0, [])]
def cd_X12_worst : List am_E := [
  (0, .iload_n 1, [1], 0, []),
  (1, .iconst 1, [], 1, []),
  (2, .sipush 240, [], 240, []),
  (5, .invokestatic 139, [0, 3, 138], 0, [1388]),
  (8, .ifCond .ne 5, [7], 0, []),
  (11, .iconst (-1), [], (-1), []),
  (12, .ireturn, [0], 0, []),
  (13, .aload_n 0, [0], 0, []),
  (14, .getfield 7, [0, 2, 11], 0, [1193]),
  (17, .aload_n 0, [0], 0, []),
  (18, .getfield 13, [1, 2, 11], 0, [1194]),
  (21, .invokestatic 275, [0, 2, 144], 0, [1494]),
  (24, .aload_n 0, [0], 0, []),
  (25, .iload_n 1, [1], 0, []),
  (26, .invokevirtual 337, [1, 2, 11, 191], 0, [1516, 0, 0, 57]),
  (29, .aload_n 0, [0], 0, []),
  (30, .getfield 13, [1, 2, 11], 0, [1194]),
  (33, .aload_n 0, [0], 0, []),
  (34, .getfield 7, [0, 2, 11], 0, [1193]),
  (37, .invokestatic 275, [0, 2, 144], 0, [1494]),
  (40, .aload_n 0, [0], 0, []),
  (41, .getfield 319, [40, 0, 11], 0, [1233]),
  (44, .ireturn, [0], 0, [])]
def cd_X12_nearer : List am_E := [
  (0, .iload_n 1, [1], 0, []),
  (1, .iconst 1, [], 1, []),
  (2, .sipush 240, [], 240, []),
  (5, .invokestatic 139, [0, 3, 138], 0, [1388]),
  (8, .ifCond .eq 12, [10], 0, []),
  (11, .iload_n 2, [2], 0, []),
  (12, .iconst 0, [], 0, []),
  (13, .iconst 4, [], 4, []),
  (14, .invokestatic 139, [0, 3, 138], 0, [1388]),
  (17, .ifCond .ne 5, [12], 0, []),
  (20, .iconst (-1), [], (-1), []),
  (21, .ireturn, [0], 0, []),
  (22, .aload_n 0, [0], 0, []),
  (23, .getfield 7, [0, 2, 11], 0, [1193]),
  (26, .aload_n 0, [0], 0, []),
  (27, .getfield 13, [1, 2, 11], 0, [1194]),
  (30, .invokestatic 275, [0, 2, 144], 0, [1494]),
  (33, .aload_n 0, [0], 0, []),
  (34, .iload_n 1, [1], 0, []),
  (35, .invokevirtual 337, [1, 2, 11, 191], 0, [1516, 0, 0, 57]),
  (38, .aload_n 0, [0], 0, []),
  (39, .getfield 13, [1, 2, 11], 0, [1194]),
  (42, .aload_n 0, [0], 0, []),
  (43, .getfield 7, [0, 2, 11], 0, [1193]),
  (46, .invokestatic 275, [0, 2, 144], 0, [1494]),
  (49, .iload_n 2, [2], 0, []),
  (50, .iconst 3, [], 3, []),
  (51, .if_icmp .ge 12, [33], 0, []),
  (54, .aload_n 0, [0], 0, []),
  (55, .getfield 77, [35, 2, 11], 0, [1228]),
  (58, .iload_n 2, [2], 0, []),
  (59, .iaload, [], 0, []),
  (60, .goto 11, [39], 0, []),
  (63, .aload_n 0, [0], 0, []),
  (64, .getfield 74, [34, 2, 11], 0, [1227]),
  (67, .iload_n 2, [2], 0, []),
  (68, .iconst 3, [], 3, []),
  (69, .isub, [], 0, []),
  (70, .iaload, [], 0, []),
  (71, .ireturn, [0], 0, [])]
def cd_X12_readsPair : List am_E := [
  (0, .aload_n 0, [0], 0, []),
  (1, .invokevirtual 163, [1, 1, 11, 152], 0, [1415, 0, 0, 37]),
  (4, .bipush 97, [], 97, []),
  (6, .isub, [], 0, []),
  (7, .istore_n 1, [1], 0, []),
  (8, .iload_n 1, [1], 0, []),
  (9, .iconst 0, [], 0, []),
  (10, .bipush 15, [], 15, []),
  (12, .invokestatic 139, [0, 3, 138], 0, [1388]),
  (15, .ifCond .ne 13, [16], 0, []),
  (18, .aload_n 0, [0], 0, []),
  (19, .iconst 1, [], 1, []),
  (20, .aload_n 0, [0], 0, []),
  (21, .getfield 157, [7, 0, 11], 0, [1200]),
  (24, .invokevirtual 170, [1, 3, 11, 154], 0, [1419, 0, 0, 38]),
  (27, .ireturn, [1], 0, []),
  (28, .aload_n 0, [0], 0, []),
  (29, .getfield 340, [49, 0, 11], 0, [1242]),
  (32, .bipush 24, [], 24, []),
  (34, .if_icmp .ne 13, [26], 0, []),
  (37, .aload_n 0, [0], 0, []),
  (38, .iconst 4, [], 4, []),
  (39, .aload_n 0, [0], 0, []),
  (40, .getfield 157, [7, 0, 11], 0, [1200]),
  (43, .invokevirtual 170, [1, 3, 11, 154], 0, [1419, 0, 0, 38]),
  (46, .ireturn, [1], 0, []),
  (47, .aload_n 0, [0], 0, []),
  (48, .aload_n 0, [0], 0, []),
  (49, .getfield 157, [7, 0, 11], 0, [1200]),
  (52, .iconst 1, [], 1, []),
  (53, .iadd, [], 0, []),
  (54, .putfield 157, [7, 0, 11], 0, [1200]),
  (57, .aload_n 0, [0], 0, []),
  (58, .invokevirtual 163, [1, 1, 11, 152], 0, [1415, 0, 0, 37]),
  (61, .istore_n 2, [2], 0, []),
  (62, .iload_n 2, [2], 0, []),
  (63, .bipush 60, [], 60, []),
  (65, .if_icmp .eq 19, [47], 0, []),
  (68, .iload_n 2, [2], 0, []),
  (69, .bipush 61, [], 61, []),
  (71, .if_icmp .eq 13, [47], 0, []),
  (74, .aload_n 0, [0], 0, []),
  (75, .iconst 1, [], 1, []),
  (76, .aload_n 0, [0], 0, []),
  (77, .getfield 157, [7, 0, 11], 0, [1200]),
  (80, .invokevirtual 170, [1, 3, 11, 154], 0, [1419, 0, 0, 38]),
  (83, .ireturn, [1], 0, []),
  (84, .aload_n 0, [0], 0, []),
  (85, .aload_n 0, [0], 0, []),
  (86, .getfield 157, [7, 0, 11], 0, [1200]),
  (89, .iconst 1, [], 1, []),
  (90, .iadd, [], 0, []),
  (91, .putfield 157, [7, 0, 11], 0, [1200]),
  (94, .aload_n 0, [0], 0, []),
  (95, .invokevirtual 163, [1, 1, 11, 152], 0, [1415, 0, 0, 37]),
  (98, .bipush 97, [], 97, []),
  (100, .isub, [], 0, []),
  (101, .istore_n 3, [3], 0, []),
  (102, .iload_n 3, [3], 0, []),
  (103, .iconst 0, [], 0, []),
  (104, .bipush 15, [], 15, []),
  (106, .invokestatic 139, [0, 3, 138], 0, [1388]),
  (109, .ifCond .ne 13, [69], 0, []),
  (112, .aload_n 0, [0], 0, []),
  (113, .iconst 1, [], 1, []),
  (114, .aload_n 0, [0], 0, []),
  (115, .getfield 157, [7, 0, 11], 0, [1200]),
  (118, .invokevirtual 170, [1, 3, 11, 154], 0, [1419, 0, 0, 38]),
  (121, .ireturn, [1], 0, []),
  (122, .iload_n 1, [1], 0, []),
  (123, .iload_n 3, [3], 0, []),
  (124, .if_icmp .ne 14, [78], 0, []),
  (127, .aload_n 0, [0], 0, []),
  (128, .bipush 6, [], 6, []),
  (130, .aload_n 0, [0], 0, []),
  (131, .getfield 157, [7, 0, 11], 0, [1200]),
  (134, .invokevirtual 170, [1, 3, 11, 154], 0, [1419, 0, 0, 38]),
  (137, .ireturn, [1], 0, []),
  (138, .aload_n 0, [0], 0, []),
  (139, .aload_n 0, [0], 0, []),
  (140, .getfield 157, [7, 0, 11], 0, [1200]),
  (143, .iconst 1, [], 1, []),
  (144, .iadd, [], 0, []),
  (145, .putfield 157, [7, 0, 11], 0, [1200]),
  (148, .aload_n 0, [0], 0, []),
  (149, .getfield 93, [43, 2, 11], 0, [1236]),
  (152, .aload_n 0, [0], 0, []),
  (153, .getfield 340, [49, 0, 11], 0, [1242]),
  (156, .iload_n 1, [1], 0, []),
  (157, .iastore, [], 0, []),
  (158, .aload_n 0, [0], 0, []),
  (159, .getfield 96, [44, 2, 11], 0, [1237]),
  (162, .aload_n 0, [0], 0, []),
  (163, .getfield 340, [49, 0, 11], 0, [1242]),
  (166, .iload_n 3, [3], 0, []),
  (167, .iastore, [], 0, []),
  (168, .aload_n 0, [0], 0, []),
  (169, .getfield 105, [47, 2, 11], 0, [1240]),
  (172, .aload_n 0, [0], 0, []),
  (173, .getfield 340, [49, 0, 11], 0, [1242]),
  (176, .iload_n 2, [2], 0, []),
  (177, .bipush 61, [], 61, []),
  (179, .if_icmp .ne 7, [105], 0, []),
  (182, .iconst 1, [], 1, []),
  (183, .goto 4, [106], 0, []),
  (186, .iconst 0, [], 0, []),
  (187, .bastore, [], 0, []),
  (188, .aload_n 0, [0], 0, []),
  (189, .aload_n 0, [0], 0, []),
  (190, .getfield 340, [49, 0, 11], 0, [1242]),
  (193, .iconst 1, [], 1, []),
  (194, .iadd, [], 0, []),
  (195, .putfield 340, [49, 0, 11], 0, [1242]),
  (198, .iconst 1, [], 1, []),
  (199, .ireturn, [1], 0, [])]
def cd_X12_treaty : List am_E := [
  (0, .iload_n 1, [1], 0, []),
  (1, .iconst 1, [], 1, []),
  (2, .bipush 120, [], 120, []),
  (4, .invokestatic 139, [0, 3, 138], 0, [1388]),
  (7, .ifCond .eq 11, [9], 0, []),
  (10, .iload_n 1, [1], 0, []),
  (11, .aload_n 0, [0], 0, []),
  (12, .getfield 150, [6, 0, 11], 0, [1199]),
  (15, .if_icmp .le 5, [11], 0, []),
  (18, .iconst (-1), [], (-1), []),
  (19, .ireturn, [0], 0, []),
  (20, .aload_n 0, [0], 0, []),
  (21, .iload_n 1, [1], 0, []),
  (22, .invokevirtual 243, [1, 2, 11, 172], 0, [1407, 0, 0, 35]),
  (25, .aload_n 0, [0], 0, []),
  (26, .iconst 0, [], 0, []),
  (27, .putfield 340, [49, 0, 11], 0, [1242]),
  (30, .aload_n 0, [0], 0, []),
  (31, .invokevirtual 343, [1, 1, 11, 199], 0, [1614, 0, 0, 72]),
  (34, .istore_n 2, [2], 0, []),
  (35, .iload_n 2, [2], 0, []),
  (36, .ifCond .eq 39, [39], 0, []),
  (39, .aload_n 0, [0], 0, []),
  (40, .getfield 157, [7, 0, 11], 0, [1200]),
  (43, .aload_n 0, [0], 0, []),
  (44, .getfield 160, [8, 0, 11], 0, [1201]),
  (47, .if_icmp .ge 28, [39], 0, []),
  (50, .aload_n 0, [0], 0, []),
  (51, .bipush 59, [], 59, []),
  (53, .invokevirtual 249, [1, 2, 11, 155], 0, [1486, 0, 0, 53]),
  (56, .ifCond .eq 14, [36], 0, []),
  (59, .aload_n 0, [0], 0, []),
  (60, .invokevirtual 343, [1, 1, 11, 199], 0, [1614, 0, 0, 72]),
  (63, .ifCond .eq 7, [36], 0, []),
  (66, .iconst 1, [], 1, []),
  (67, .goto 4, [37], 0, []),
  (70, .iconst 0, [], 0, []),
  (71, .istore_n 2, [2], 0, []),
  (72, .goto (-37), [20], 0, []),
  (75, .aload_n 0, [0], 0, []),
  (76, .iconst 0, [], 0, []),
  (77, .putfield 150, [6, 0, 11], 0, [1199]),
  (80, .iload_n 2, [2], 0, []),
  (81, .ifCond .ne 8, [47], 0, []),
  (84, .aload_n 0, [0], 0, []),
  (85, .getfield 167, [9, 0, 11], 0, [1202]),
  (88, .ireturn, [0], 0, []),
  (89, .aload_n 0, [0], 0, []),
  (90, .aload_n 0, [0], 0, []),
  (91, .getfield 340, [49, 0, 11], 0, [1242]),
  (94, .putfield 346, [48, 0, 11], 0, [1241]),
  (97, .iconst 0, [], 0, []),
  (98, .istore_n 3, [3], 0, []),
  (99, .iload_n 3, [3], 0, []),
  (100, .aload_n 0, [0], 0, []),
  (101, .getfield 340, [49, 0, 11], 0, [1242]),
  (104, .if_icmp .ge 45, [83], 0, []),
  (107, .aload_n 0, [0], 0, []),
  (108, .getfield 87, [41, 2, 11], 0, [1234]),
  (111, .iload_n 3, [3], 0, []),
  (112, .aload_n 0, [0], 0, []),
  (113, .getfield 93, [43, 2, 11], 0, [1236]),
  (116, .iload_n 3, [3], 0, []),
  (117, .iaload, [], 0, []),
  (118, .iastore, [], 0, []),
  (119, .aload_n 0, [0], 0, []),
  (120, .getfield 90, [42, 2, 11], 0, [1235]),
  (123, .iload_n 3, [3], 0, []),
  (124, .aload_n 0, [0], 0, []),
  (125, .getfield 96, [44, 2, 11], 0, [1237]),
  (128, .iload_n 3, [3], 0, []),
  (129, .iaload, [], 0, []),
  (130, .iastore, [], 0, []),
  (131, .aload_n 0, [0], 0, []),
  (132, .getfield 102, [46, 2, 11], 0, [1239]),
  (135, .iload_n 3, [3], 0, []),
  (136, .aload_n 0, [0], 0, []),
  (137, .getfield 105, [47, 2, 11], 0, [1240]),
  (140, .iload_n 3, [3], 0, []),
  (141, .baload, [], 0, []),
  (142, .bastore, [], 0, []),
  (143, .iinc 3 1, [3], 1, []),
  (146, .goto (-47), [53], 0, []),
  (149, .aload_n 0, [0], 0, []),
  (150, .getfield 340, [49, 0, 11], 0, [1242]),
  (153, .ireturn, [0], 0, [])]
def cd_X12_named : List am_E := [
  (0, .iconst 0, [], 0, []),
  (1, .istore_n 1, [1], 0, []),
  (2, .iconst 0, [], 0, []),
  (3, .istore_n 2, [2], 0, []),
  (4, .iload_n 2, [2], 0, []),
  (5, .aload_n 0, [0], 0, []),
  (6, .getfield 346, [48, 0, 11], 0, [1241]),
  (9, .if_icmp .ge 29, [26], 0, []),
  (12, .iload_n 1, [1], 0, []),
  (13, .iconst 1, [], 1, []),
  (14, .aload_n 0, [0], 0, []),
  (15, .getfield 87, [41, 2, 11], 0, [1234]),
  (18, .iload_n 2, [2], 0, []),
  (19, .iaload, [], 0, []),
  (20, .ishl, [], 0, []),
  (21, .ior, [], 0, []),
  (22, .iconst 1, [], 1, []),
  (23, .aload_n 0, [0], 0, []),
  (24, .getfield 90, [42, 2, 11], 0, [1235]),
  (27, .iload_n 2, [2], 0, []),
  (28, .iaload, [], 0, []),
  (29, .ishl, [], 0, []),
  (30, .ior, [], 0, []),
  (31, .istore_n 1, [1], 0, []),
  (32, .iinc 2 1, [2], 1, []),
  (35, .goto (-31), [4], 0, []),
  (38, .iload_n 1, [1], 0, []),
  (39, .ireturn, [0], 0, [])]
def cd_X12_laysMoments : List am_E := [
  (0, .iconst 0, [], 0, []),
  (1, .istore_n 2, [2], 0, []),
  (2, .iload_n 2, [2], 0, []),
  (3, .bipush 16, [], 16, []),
  (5, .if_icmp .ge 16, [12], 0, []),
  (8, .aload_n 0, [0], 0, []),
  (9, .getfield 99, [45, 2, 11], 0, [1238]),
  (12, .iload_n 2, [2], 0, []),
  (13, .iconst 1, [], 1, []),
  (14, .iastore, [], 0, []),
  (15, .iinc 2 1, [2], 1, []),
  (18, .goto (-16), [2], 0, []),
  (21, .iconst 1, [], 1, []),
  (22, .istore_n 2, [2], 0, []),
  (23, .iconst 0, [], 0, []),
  (24, .istore_n 3, [3], 0, []),
  (25, .iload_n 3, [3], 0, []),
  (26, .bipush 16, [], 16, []),
  (28, .if_icmp .gt 57, [45], 0, []),
  (31, .iload_n 2, [2], 0, []),
  (32, .ifCond .eq 53, [45], 0, []),
  (35, .iconst 0, [], 0, []),
  (36, .istore_n 2, [2], 0, []),
  (37, .iconst 0, [], 0, []),
  (38, .istore 4, [4], 0, []),
  (40, .iload 4, [4], 0, []),
  (42, .bipush 16, [], 16, []),
  (44, .if_icmp .ge 35, [43], 0, []),
  (47, .iconst 0, [], 0, []),
  (48, .istore 5, [5], 0, []),
  (50, .iload 5, [5], 0, []),
  (52, .iload_n 1, [1], 0, []),
  (53, .if_icmp .ge 20, [41], 0, []),
  (56, .aload_n 0, [0], 0, []),
  (57, .iload 5, [5], 0, []),
  (59, .invokevirtual 349, [1, 2, 11, 203], 0, [1630, 0, 0, 75]),
  (62, .ifCond .eq 5, [39], 0, []),
  (65, .iconst 1, [], 1, []),
  (66, .istore_n 2, [2], 0, []),
  (67, .iinc 5 1, [5], 1, []),
  (70, .goto (-20), [30], 0, []),
  (73, .iinc 4 1, [4], 1, []),
  (76, .goto (-36), [25], 0, []),
  (79, .iinc 3 1, [3], 1, []),
  (82, .goto (-57), [16], 0, []),
  (85, .iconst 0, [], 0, []),
  (86, .istore_n 3, [3], 0, []),
  (87, .iload_n 3, [3], 0, []),
  (88, .bipush 16, [], 16, []),
  (90, .if_icmp .ge 22, [60], 0, []),
  (93, .aload_n 0, [0], 0, []),
  (94, .getfield 99, [45, 2, 11], 0, [1238]),
  (97, .iload_n 3, [3], 0, []),
  (98, .iaload, [], 0, []),
  (99, .bipush 16, [], 16, []),
  (101, .if_icmp .le 5, [58], 0, []),
  (104, .iconst 0, [], 0, []),
  (105, .ireturn, [1], 0, []),
  (106, .iinc 3 1, [3], 1, []),
  (109, .goto (-22), [47], 0, []),
  (112, .iload_n 2, [2], 0, []),
  (113, .ifCond .ne 7, [64], 0, []),
  (116, .iconst 1, [], 1, []),
  (117, .goto 4, [65], 0, []),
  (120, .iconst 0, [], 0, []),
  (121, .ireturn, [1], 0, [])]
def cd_X12_lifts : List am_E := [
  (0, .aload_n 0, [0], 0, []),
  (1, .getfield 99, [45, 2, 11], 0, [1238]),
  (4, .aload_n 0, [0], 0, []),
  (5, .getfield 87, [41, 2, 11], 0, [1234]),
  (8, .iload_n 1, [1], 0, []),
  (9, .iaload, [], 0, []),
  (10, .iaload, [], 0, []),
  (11, .istore_n 2, [2], 0, []),
  (12, .aload_n 0, [0], 0, []),
  (13, .getfield 99, [45, 2, 11], 0, [1238]),
  (16, .aload_n 0, [0], 0, []),
  (17, .getfield 90, [42, 2, 11], 0, [1235]),
  (20, .iload_n 1, [1], 0, []),
  (21, .iaload, [], 0, []),
  (22, .iaload, [], 0, []),
  (23, .istore_n 3, [3], 0, []),
  (24, .aload_n 0, [0], 0, []),
  (25, .getfield 102, [46, 2, 11], 0, [1239]),
  (28, .iload_n 1, [1], 0, []),
  (29, .baload, [], 0, []),
  (30, .ifCond .eq 11, [25], 0, []),
  (33, .iload_n 2, [2], 0, []),
  (34, .iload_n 3, [3], 0, []),
  (35, .invokestatic 263, [0, 2, 140], 0, [1509]),
  (38, .goto 6, [28], 0, []),
  (41, .iload_n 2, [2], 0, []),
  (42, .iconst 1, [], 1, []),
  (43, .iadd, [], 0, []),
  (44, .istore 4, [4], 0, []),
  (46, .iload 4, [4], 0, []),
  (48, .bipush 17, [], 17, []),
  (50, .if_icmp .le 5, [34], 0, []),
  (53, .iconst 0, [], 0, []),
  (54, .ireturn, [1], 0, []),
  (55, .iload_n 3, [3], 0, []),
  (56, .iload 4, [4], 0, []),
  (58, .if_icmp .lt 18, [45], 0, []),
  (61, .aload_n 0, [0], 0, []),
  (62, .getfield 102, [46, 2, 11], 0, [1239]),
  (65, .iload_n 1, [1], 0, []),
  (66, .baload, [], 0, []),
  (67, .ifCond .eq 13, [47], 0, []),
  (70, .iload_n 2, [2], 0, []),
  (71, .iload 4, [4], 0, []),
  (73, .if_icmp .ge 7, [47], 0, []),
  (76, .iconst 1, [], 1, []),
  (77, .goto 4, [48], 0, []),
  (80, .iconst 0, [], 0, []),
  (81, .istore 5, [5], 0, []),
  (83, .iload_n 3, [3], 0, []),
  (84, .iload 4, [4], 0, []),
  (86, .if_icmp .ge 16, [60], 0, []),
  (89, .aload_n 0, [0], 0, []),
  (90, .getfield 99, [45, 2, 11], 0, [1238]),
  (93, .aload_n 0, [0], 0, []),
  (94, .getfield 90, [42, 2, 11], 0, [1235]),
  (97, .iload_n 1, [1], 0, []),
  (98, .iaload, [], 0, []),
  (99, .iload 4, [4], 0, []),
  (101, .iastore, [], 0, []),
  (102, .aload_n 0, [0], 0, []),
  (103, .getfield 102, [46, 2, 11], 0, [1239]),
  (106, .iload_n 1, [1], 0, []),
  (107, .baload, [], 0, []),
  (108, .ifCond .eq 22, [76], 0, []),
  (111, .iload_n 2, [2], 0, []),
  (112, .iload 4, [4], 0, []),
  (114, .if_icmp .ge 16, [76], 0, []),
  (117, .aload_n 0, [0], 0, []),
  (118, .getfield 99, [45, 2, 11], 0, [1238]),
  (121, .aload_n 0, [0], 0, []),
  (122, .getfield 87, [41, 2, 11], 0, [1234]),
  (125, .iload_n 1, [1], 0, []),
  (126, .iaload, [], 0, []),
  (127, .iload 4, [4], 0, []),
  (129, .iastore, [], 0, []),
  (130, .iload 5, [5], 0, []),
  (132, .ireturn, [1], 0, [])]
def cd_X12_contradictsAt : List am_E := [
  (0, .iconst 1, [], 1, []),
  (1, .istore_n 1, [1], 0, []),
  (2, .iload_n 1, [1], 0, []),
  (3, .aload_n 0, [0], 0, []),
  (4, .getfield 346, [48, 0, 11], 0, [1241]),
  (7, .if_icmp .gt 21, [16], 0, []),
  (10, .aload_n 0, [0], 0, []),
  (11, .iload_n 1, [1], 0, []),
  (12, .invokevirtual 352, [1, 2, 11, 202], 0, [1626, 0, 0, 74]),
  (15, .ifCond .ne 7, [14], 0, []),
  (18, .iload_n 1, [1], 0, []),
  (19, .iconst 1, [], 1, []),
  (20, .isub, [], 0, []),
  (21, .ireturn, [0], 0, []),
  (22, .iinc 1 1, [1], 1, []),
  (25, .goto (-23), [2], 0, []),
  (28, .bipush (-2), [], (-2), []),
  (30, .ireturn, [0], 0, [])]
def cd_X12_moments : List am_E := [
  (0, .iload_n 1, [1], 0, []),
  (1, .iconst 0, [], 0, []),
  (2, .bipush 15, [], 15, []),
  (4, .invokestatic 139, [0, 3, 138], 0, [1388]),
  (7, .ifCond .ne 16, [12], 0, []),
  (10, .iload_n 1, [1], 0, []),
  (11, .bipush 100, [], 100, []),
  (13, .bipush 101, [], 101, []),
  (15, .invokestatic 139, [0, 3, 138], 0, [1388]),
  (18, .ifCond .ne 5, [12], 0, []),
  (21, .iconst (-1), [], (-1), []),
  (22, .ireturn, [0], 0, []),
  (23, .aload_n 0, [0], 0, []),
  (24, .invokevirtual 355, [1, 1, 11, 204], 0, [1622, 0, 0, 73]),
  (27, .istore_n 2, [2], 0, []),
  (28, .iload_n 1, [1], 0, []),
  (29, .bipush 101, [], 101, []),
  (31, .if_icmp .ne 5, [20], 0, []),
  (34, .iload_n 2, [2], 0, []),
  (35, .ireturn, [0], 0, []),
  (36, .iload_n 2, [2], 0, []),
  (37, .bipush (-2), [], (-2), []),
  (39, .if_icmp .eq 6, [25], 0, []),
  (42, .bipush (-3), [], (-3), []),
  (44, .ireturn, [0], 0, []),
  (45, .aload_n 0, [0], 0, []),
  (46, .aload_n 0, [0], 0, []),
  (47, .getfield 346, [48, 0, 11], 0, [1241]),
  (50, .invokevirtual 352, [1, 2, 11, 202], 0, [1626, 0, 0, 74]),
  (53, .pop, [], 0, []),
  (54, .iconst 0, [], 0, []),
  (55, .istore_n 3, [3], 0, []),
  (56, .iconst 0, [], 0, []),
  (57, .istore 4, [4], 0, []),
  (59, .iload 4, [4], 0, []),
  (61, .bipush 16, [], 16, []),
  (63, .if_icmp .ge 33, [51], 0, []),
  (66, .aload_n 0, [0], 0, []),
  (67, .invokevirtual 358, [1, 1, 11, 201], 0, [1634, 0, 0, 76]),
  (70, .iload 4, [4], 0, []),
  (72, .invokestatic 361, [0, 2, 142], 0, [1638]),
  (75, .ifCond .eq 15, [49], 0, []),
  (78, .iload_n 3, [3], 0, []),
  (79, .aload_n 0, [0], 0, []),
  (80, .getfield 99, [45, 2, 11], 0, [1238]),
  (83, .iload 4, [4], 0, []),
  (85, .iaload, [], 0, []),
  (86, .invokestatic 263, [0, 2, 140], 0, [1509]),
  (89, .istore_n 3, [3], 0, []),
  (90, .iinc 4 1, [4], 1, []),
  (93, .goto (-34), [34], 0, []),
  (96, .iload_n 1, [1], 0, []),
  (97, .bipush 100, [], 100, []),
  (99, .if_icmp .ne 5, [56], 0, []),
  (102, .iload_n 3, [3], 0, []),
  (103, .ireturn, [0], 0, []),
  (104, .aload_n 0, [0], 0, []),
  (105, .invokevirtual 358, [1, 1, 11, 201], 0, [1634, 0, 0, 76]),
  (108, .iload_n 1, [1], 0, []),
  (109, .invokestatic 361, [0, 2, 142], 0, [1638]),
  (112, .ifCond .eq 12, [66], 0, []),
  (115, .aload_n 0, [0], 0, []),
  (116, .getfield 99, [45, 2, 11], 0, [1238]),
  (119, .iload_n 1, [1], 0, []),
  (120, .iaload, [], 0, []),
  (121, .goto 5, [67], 0, []),
  (124, .bipush (-2), [], (-2), []),
  (126, .ireturn, [0], 0, [])]
def cd_X12_atOnceWith : List am_E := [
  (0, .iconst 1, [], 1, []),
  (1, .iload_n 1, [1], 0, []),
  (2, .ishl, [], 0, []),
  (3, .istore_n 2, [2], 0, []),
  (4, .iconst 0, [], 0, []),
  (5, .istore_n 3, [3], 0, []),
  (6, .iload_n 2, [2], 0, []),
  (7, .iload_n 3, [3], 0, []),
  (8, .if_icmp .eq 86, [55], 0, []),
  (11, .iload_n 2, [2], 0, []),
  (12, .istore_n 3, [3], 0, []),
  (13, .iconst 0, [], 0, []),
  (14, .istore 4, [4], 0, []),
  (16, .iload 4, [4], 0, []),
  (18, .aload_n 0, [0], 0, []),
  (19, .getfield 346, [48, 0, 11], 0, [1241]),
  (22, .if_icmp .ge 69, [54], 0, []),
  (25, .aload_n 0, [0], 0, []),
  (26, .getfield 102, [46, 2, 11], 0, [1239]),
  (29, .iload 4, [4], 0, []),
  (31, .baload, [], 0, []),
  (32, .ifCond .eq 53, [52], 0, []),
  (35, .iload_n 3, [3], 0, []),
  (36, .aload_n 0, [0], 0, []),
  (37, .getfield 87, [41, 2, 11], 0, [1234]),
  (40, .iload 4, [4], 0, []),
  (42, .iaload, [], 0, []),
  (43, .invokestatic 361, [0, 2, 142], 0, [1638]),
  (46, .ifCond .ne 17, [36], 0, []),
  (49, .iload_n 3, [3], 0, []),
  (50, .aload_n 0, [0], 0, []),
  (51, .getfield 90, [42, 2, 11], 0, [1235]),
  (54, .iload 4, [4], 0, []),
  (56, .iaload, [], 0, []),
  (57, .invokestatic 361, [0, 2, 142], 0, [1638]),
  (60, .ifCond .eq 25, [52], 0, []),
  (63, .iload_n 2, [2], 0, []),
  (64, .iconst 1, [], 1, []),
  (65, .aload_n 0, [0], 0, []),
  (66, .getfield 87, [41, 2, 11], 0, [1234]),
  (69, .iload 4, [4], 0, []),
  (71, .iaload, [], 0, []),
  (72, .ishl, [], 0, []),
  (73, .ior, [], 0, []),
  (74, .iconst 1, [], 1, []),
  (75, .aload_n 0, [0], 0, []),
  (76, .getfield 90, [42, 2, 11], 0, [1235]),
  (79, .iload 4, [4], 0, []),
  (81, .iaload, [], 0, []),
  (82, .ishl, [], 0, []),
  (83, .ior, [], 0, []),
  (84, .istore_n 2, [2], 0, []),
  (85, .iinc 4 1, [4], 1, []),
  (88, .goto (-72), [13], 0, []),
  (91, .goto (-85), [6], 0, []),
  (94, .iload_n 2, [2], 0, []),
  (95, .ireturn, [0], 0, [])]
def cd_X12_aheadOf : List am_E := [
  (0, .aload_n 0, [0], 0, []),
  (1, .iload_n 1, [1], 0, []),
  (2, .invokevirtual 364, [1, 2, 11, 206], 0, [1645, 0, 0, 77]),
  (5, .istore_n 2, [2], 0, []),
  (6, .iconst 0, [], 0, []),
  (7, .istore_n 3, [3], 0, []),
  (8, .iload_n 2, [2], 0, []),
  (9, .iload_n 3, [3], 0, []),
  (10, .if_icmp .eq 64, [41], 0, []),
  (13, .iload_n 2, [2], 0, []),
  (14, .istore_n 3, [3], 0, []),
  (15, .iconst 0, [], 0, []),
  (16, .istore 4, [4], 0, []),
  (18, .iload 4, [4], 0, []),
  (20, .aload_n 0, [0], 0, []),
  (21, .getfield 346, [48, 0, 11], 0, [1241]),
  (24, .if_icmp .ge 47, [40], 0, []),
  (27, .aload_n 0, [0], 0, []),
  (28, .getfield 102, [46, 2, 11], 0, [1239]),
  (31, .iload 4, [4], 0, []),
  (33, .baload, [], 0, []),
  (34, .ifCond .ne 31, [38], 0, []),
  (37, .iload_n 3, [3], 0, []),
  (38, .aload_n 0, [0], 0, []),
  (39, .getfield 90, [42, 2, 11], 0, [1235]),
  (42, .iload 4, [4], 0, []),
  (44, .iaload, [], 0, []),
  (45, .invokestatic 361, [0, 2, 142], 0, [1638]),
  (48, .ifCond .eq 17, [38], 0, []),
  (51, .iload_n 2, [2], 0, []),
  (52, .aload_n 0, [0], 0, []),
  (53, .aload_n 0, [0], 0, []),
  (54, .getfield 87, [41, 2, 11], 0, [1234]),
  (57, .iload 4, [4], 0, []),
  (59, .iaload, [], 0, []),
  (60, .invokevirtual 364, [1, 2, 11, 206], 0, [1645, 0, 0, 77]),
  (63, .ior, [], 0, []),
  (64, .istore_n 2, [2], 0, []),
  (65, .iinc 4 1, [4], 1, []),
  (68, .goto (-50), [13], 0, []),
  (71, .goto (-63), [6], 0, []),
  (74, .iload_n 2, [2], 0, []),
  (75, .aload_n 0, [0], 0, []),
  (76, .iload_n 1, [1], 0, []),
  (77, .invokevirtual 364, [1, 2, 11, 206], 0, [1645, 0, 0, 77]),
  (80, .iconst (-1), [], (-1), []),
  (81, .ixor, [], 0, []),
  (82, .iand, [], 0, []),
  (83, .ireturn, [0], 0, [])]
def cd_X12_act : List am_E := [
  (0, .iload_n 1, [1], 0, []),
  (1, .iconst 0, [], 0, []),
  (2, .bipush 15, [], 15, []),
  (4, .invokestatic 139, [0, 3, 138], 0, [1388]),
  (7, .ifCond .eq 12, [10], 0, []),
  (10, .iload_n 2, [2], 0, []),
  (11, .iconst 0, [], 0, []),
  (12, .iconst 1, [], 1, []),
  (13, .invokestatic 139, [0, 3, 138], 0, [1388]),
  (16, .ifCond .ne 5, [12], 0, []),
  (19, .iconst (-1), [], (-1), []),
  (20, .ireturn, [0], 0, []),
  (21, .aload_n 0, [0], 0, []),
  (22, .invokevirtual 355, [1, 1, 11, 204], 0, [1622, 0, 0, 73]),
  (25, .bipush (-2), [], (-2), []),
  (27, .if_icmp .eq 6, [18], 0, []),
  (30, .bipush (-3), [], (-3), []),
  (32, .ireturn, [0], 0, []),
  (33, .aload_n 0, [0], 0, []),
  (34, .invokevirtual 358, [1, 1, 11, 201], 0, [1634, 0, 0, 76]),
  (37, .iload_n 1, [1], 0, []),
  (38, .invokestatic 361, [0, 2, 142], 0, [1638]),
  (41, .ifCond .ne 6, [25], 0, []),
  (44, .bipush (-2), [], (-2), []),
  (46, .ireturn, [0], 0, []),
  (47, .iload_n 2, [2], 0, []),
  (48, .ifCond .ne 11, [31], 0, []),
  (51, .aload_n 0, [0], 0, []),
  (52, .iload_n 1, [1], 0, []),
  (53, .invokevirtual 364, [1, 2, 11, 206], 0, [1645, 0, 0, 77]),
  (56, .goto 8, [34], 0, []),
  (59, .aload_n 0, [0], 0, []),
  (60, .iload_n 1, [1], 0, []),
  (61, .invokevirtual 367, [1, 2, 11, 207], 0, [1649, 0, 0, 78]),
  (64, .ireturn, [0], 0, [])]
def cd_X12_unfolds : List am_E := [
  (0, .iload_n 1, [1], 0, []),
  (1, .istore_n 3, [3], 0, []),
  (2, .iconst 0, [], 0, []),
  (3, .istore 4, [4], 0, []),
  (5, .iload 4, [4], 0, []),
  (7, .iload_n 2, [2], 0, []),
  (8, .if_icmp .ge 23, [20], 0, []),
  (11, .aload_n 0, [0], 0, []),
  (12, .getfield 120, [54, 2, 11], 0, [1247]),
  (15, .iload 4, [4], 0, []),
  (17, .iload_n 3, [3], 0, []),
  (18, .iconst 3, [], 3, []),
  (19, .irem, [], 0, []),
  (20, .iastore, [], 0, []),
  (21, .iload_n 3, [3], 0, []),
  (22, .iconst 3, [], 3, []),
  (23, .idiv, [], 0, []),
  (24, .istore_n 3, [3], 0, []),
  (25, .iinc 4 1, [4], 1, []),
  (28, .goto (-23), [4], 0, []),
  (31, .return_, [], 0, [])]
def cd_X12_isThrough : List am_E := [
  (0, .iconst 0, [], 0, []),
  (1, .istore_n 2, [2], 0, []),
  (2, .iconst 0, [], 0, []),
  (3, .istore_n 3, [3], 0, []),
  (4, .iload_n 3, [3], 0, []),
  (5, .iload_n 1, [1], 0, []),
  (6, .if_icmp .ge 37, [27], 0, []),
  (9, .aload_n 0, [0], 0, []),
  (10, .getfield 120, [54, 2, 11], 0, [1247]),
  (13, .iload_n 3, [3], 0, []),
  (14, .iaload, [], 0, []),
  (15, .iconst 1, [], 1, []),
  (16, .if_icmp .ne 5, [15], 0, []),
  (19, .iconst 1, [], 1, []),
  (20, .istore_n 2, [2], 0, []),
  (21, .aload_n 0, [0], 0, []),
  (22, .getfield 120, [54, 2, 11], 0, [1247]),
  (25, .iload_n 3, [3], 0, []),
  (26, .iaload, [], 0, []),
  (27, .iconst 2, [], 2, []),
  (28, .if_icmp .ne 9, [25], 0, []),
  (31, .iload_n 2, [2], 0, []),
  (32, .ifCond .eq 5, [25], 0, []),
  (35, .iconst 0, [], 0, []),
  (36, .ireturn, [1], 0, []),
  (37, .iinc 3 1, [3], 1, []),
  (40, .goto (-36), [4], 0, []),
  (43, .iconst 1, [], 1, []),
  (44, .ireturn, [1], 0, [])]
def cd_X12_goesTo : List am_E := [
  (0, .aload_n 0, [0], 0, []),
  (1, .getfield 120, [54, 2, 11], 0, [1247]),
  (4, .iload_n 1, [1], 0, []),
  (5, .iaload, [], 0, []),
  (6, .ifCond .ne 5, [7], 0, []),
  (9, .iconst (-1), [], (-1), []),
  (10, .ireturn, [0], 0, []),
  (11, .aload_n 0, [0], 0, []),
  (12, .getfield 120, [54, 2, 11], 0, [1247]),
  (15, .iload_n 1, [1], 0, []),
  (16, .iaload, [], 0, []),
  (17, .iconst 1, [], 1, []),
  (18, .if_icmp .ne 7, [15], 0, []),
  (21, .iconst 1, [], 1, []),
  (22, .goto 4, [16], 0, []),
  (25, .iconst (-1), [], (-1), []),
  (26, .istore_n 3, [3], 0, []),
  (27, .iload_n 1, [1], 0, []),
  (28, .iload_n 3, [3], 0, []),
  (29, .iadd, [], 0, []),
  (30, .iconst 0, [], 0, []),
  (31, .iload_n 2, [2], 0, []),
  (32, .iconst 1, [], 1, []),
  (33, .isub, [], 0, []),
  (34, .invokestatic 139, [0, 3, 138], 0, [1388]),
  (37, .ifCond .eq 18, [37], 0, []),
  (40, .aload_n 0, [0], 0, []),
  (41, .getfield 120, [54, 2, 11], 0, [1247]),
  (44, .iload_n 1, [1], 0, []),
  (45, .iload_n 3, [3], 0, []),
  (46, .iadd, [], 0, []),
  (47, .iaload, [], 0, []),
  (48, .ifCond .ne 7, [37], 0, []),
  (51, .iload_n 1, [1], 0, []),
  (52, .iload_n 3, [3], 0, []),
  (53, .iadd, [], 0, []),
  (54, .ireturn, [0], 0, []),
  (55, .iload_n 1, [1], 0, []),
  (56, .iconst 2, [], 2, []),
  (57, .iload_n 3, [3], 0, []),
  (58, .imul, [], 0, []),
  (59, .iadd, [], 0, []),
  (60, .iconst 0, [], 0, []),
  (61, .iload_n 2, [2], 0, []),
  (62, .iconst 1, [], 1, []),
  (63, .isub, [], 0, []),
  (64, .invokestatic 139, [0, 3, 138], 0, [1388]),
  (67, .ifCond .eq 41, [76], 0, []),
  (70, .aload_n 0, [0], 0, []),
  (71, .getfield 120, [54, 2, 11], 0, [1247]),
  (74, .iload_n 1, [1], 0, []),
  (75, .iload_n 3, [3], 0, []),
  (76, .iadd, [], 0, []),
  (77, .iaload, [], 0, []),
  (78, .iconst 3, [], 3, []),
  (79, .aload_n 0, [0], 0, []),
  (80, .getfield 120, [54, 2, 11], 0, [1247]),
  (83, .iload_n 1, [1], 0, []),
  (84, .iaload, [], 0, []),
  (85, .isub, [], 0, []),
  (86, .if_icmp .ne 22, [76], 0, []),
  (89, .aload_n 0, [0], 0, []),
  (90, .getfield 120, [54, 2, 11], 0, [1247]),
  (93, .iload_n 1, [1], 0, []),
  (94, .iconst 2, [], 2, []),
  (95, .iload_n 3, [3], 0, []),
  (96, .imul, [], 0, []),
  (97, .iadd, [], 0, []),
  (98, .iaload, [], 0, []),
  (99, .ifCond .ne 9, [76], 0, []),
  (102, .iload_n 1, [1], 0, []),
  (103, .iconst 2, [], 2, []),
  (104, .iload_n 3, [3], 0, []),
  (105, .imul, [], 0, []),
  (106, .iadd, [], 0, []),
  (107, .ireturn, [0], 0, []),
  (108, .iconst (-1), [], (-1), []),
  (109, .ireturn, [0], 0, [])]
def cd_X12_searches : List am_E := [
  (0, .iconst 0, [], 0, []),
  (1, .istore_n 3, [3], 0, []),
  (2, .iload_n 3, [3], 0, []),
  (3, .aload_n 0, [0], 0, []),
  (4, .getfield 117, [53, 2, 11], 0, [1246]),
  (7, .iload_n 2, [2], 0, []),
  (8, .iaload, [], 0, []),
  (9, .if_icmp .ge 16, [15], 0, []),
  (12, .aload_n 0, [0], 0, []),
  (13, .getfield 111, [51, 2, 11], 0, [1244]),
  (16, .iload_n 3, [3], 0, []),
  (17, .iconst (-1), [], (-1), []),
  (18, .iastore, [], 0, []),
  (19, .iinc 3 1, [3], 1, []),
  (22, .goto (-20), [2], 0, []),
  (25, .aload_n 0, [0], 0, []),
  (26, .getfield 111, [51, 2, 11], 0, [1244]),
  (29, .iload_n 1, [1], 0, []),
  (30, .iconst 0, [], 0, []),
  (31, .iastore, [], 0, []),
  (32, .aload_n 0, [0], 0, []),
  (33, .getfield 114, [52, 2, 11], 0, [1245]),
  (36, .iload_n 1, [1], 0, []),
  (37, .bipush (-4), [], (-4), []),
  (39, .iastore, [], 0, []),
  (40, .aload_n 0, [0], 0, []),
  (41, .getfield 108, [50, 2, 11], 0, [1243]),
  (44, .iconst 0, [], 0, []),
  (45, .iload_n 1, [1], 0, []),
  (46, .iastore, [], 0, []),
  (47, .iconst 1, [], 1, []),
  (48, .istore_n 3, [3], 0, []),
  (49, .iconst (-1), [], (-1), []),
  (50, .istore 4, [4], 0, []),
  (52, .iconst 0, [], 0, []),
  (53, .istore 5, [5], 0, []),
  (55, .iload 5, [5], 0, []),
  (57, .iload_n 3, [3], 0, []),
  (58, .if_icmp .ge 263, [180], 0, []),
  (61, .aload_n 0, [0], 0, []),
  (62, .getfield 108, [50, 2, 11], 0, [1243]),
  (65, .iload 5, [5], 0, []),
  (67, .iaload, [], 0, []),
  (68, .istore 6, [6], 0, []),
  (70, .iload 4, [4], 0, []),
  (72, .iconst (-1), [], (-1), []),
  (73, .if_icmp .eq 23, [58], 0, []),
  (76, .aload_n 0, [0], 0, []),
  (77, .getfield 111, [51, 2, 11], 0, [1244]),
  (80, .iload 6, [6], 0, []),
  (82, .iaload, [], 0, []),
  (83, .aload_n 0, [0], 0, []),
  (84, .getfield 111, [51, 2, 11], 0, [1244]),
  (87, .iload 4, [4], 0, []),
  (89, .iaload, [], 0, []),
  (90, .if_icmp .le 6, [58], 0, []),
  (93, .iload 4, [4], 0, []),
  (95, .ireturn, [0], 0, []),
  (96, .aload_n 0, [0], 0, []),
  (97, .iload 6, [6], 0, []),
  (99, .iload_n 2, [2], 0, []),
  (100, .invokevirtual 370, [1, 3, 11, 209], 0, [1665, 0, 0, 81]),
  (103, .aload_n 0, [0], 0, []),
  (104, .iload_n 2, [2], 0, []),
  (105, .invokevirtual 373, [1, 2, 11, 210], 0, [1669, 0, 0, 82]),
  (108, .ifCond .eq 33, [81], 0, []),
  (111, .iload 4, [4], 0, []),
  (113, .iconst (-1), [], (-1), []),
  (114, .if_icmp .eq 20, [78], 0, []),
  (117, .aload_n 0, [0], 0, []),
  (118, .getfield 114, [52, 2, 11], 0, [1245]),
  (121, .iload 6, [6], 0, []),
  (123, .iaload, [], 0, []),
  (124, .aload_n 0, [0], 0, []),
  (125, .getfield 114, [52, 2, 11], 0, [1245]),
  (128, .iload 4, [4], 0, []),
  (130, .iaload, [], 0, []),
  (131, .if_icmp .ge 184, [178], 0, []),
  (134, .iload 6, [6], 0, []),
  (136, .istore 4, [4], 0, []),
  (138, .goto 177, [178], 0, []),
  (141, .iconst 0, [], 0, []),
  (142, .istore 7, [7], 0, []),
  (144, .iload 7, [7], 0, []),
  (146, .iload_n 2, [2], 0, []),
  (147, .if_icmp .ge 168, [178], 0, []),
  (150, .aload_n 0, [0], 0, []),
  (151, .iload 7, [7], 0, []),
  (153, .iload_n 2, [2], 0, []),
  (154, .invokevirtual 376, [1, 3, 11, 211], 0, [1673, 0, 0, 83]),
  (157, .istore 8, [8], 0, []),
  (159, .iload 8, [8], 0, []),
  (161, .iconst (-1), [], (-1), []),
  (162, .if_icmp .ne 6, [95], 0, []),
  (165, .goto 144, [176], 0, []),
  (168, .iload 6, [6], 0, []),
  (170, .aload_n 0, [0], 0, []),
  (171, .getfield 120, [54, 2, 11], 0, [1247]),
  (174, .iload 7, [7], 0, []),
  (176, .iaload, [], 0, []),
  (177, .aload_n 0, [0], 0, []),
  (178, .getfield 117, [53, 2, 11], 0, [1246]),
  (181, .iload 8, [8], 0, []),
  (183, .iaload, [], 0, []),
  (184, .aload_n 0, [0], 0, []),
  (185, .getfield 117, [53, 2, 11], 0, [1246]),
  (188, .iload 7, [7], 0, []),
  (190, .iaload, [], 0, []),
  (191, .isub, [], 0, []),
  (192, .imul, [], 0, []),
  (193, .iadd, [], 0, []),
  (194, .istore 9, [9], 0, []),
  (196, .aload_n 0, [0], 0, []),
  (197, .getfield 111, [51, 2, 11], 0, [1244]),
  (200, .iload 6, [6], 0, []),
  (202, .iaload, [], 0, []),
  (203, .ifCond .ne 8, [119], 0, []),
  (206, .iload 7, [7], 0, []),
  (208, .goto 10, [123], 0, []),
  (211, .aload_n 0, [0], 0, []),
  (212, .getfield 114, [52, 2, 11], 0, [1245]),
  (215, .iload 6, [6], 0, []),
  (217, .iaload, [], 0, []),
  (218, .istore 10, [10], 0, []),
  (220, .aload_n 0, [0], 0, []),
  (221, .getfield 111, [51, 2, 11], 0, [1244]),
  (224, .iload 9, [9], 0, []),
  (226, .iaload, [], 0, []),
  (227, .iconst (-1), [], (-1), []),
  (228, .if_icmp .ne 43, [155], 0, []),
  (231, .aload_n 0, [0], 0, []),
  (232, .getfield 111, [51, 2, 11], 0, [1244]),
  (235, .iload 9, [9], 0, []),
  (237, .aload_n 0, [0], 0, []),
  (238, .getfield 111, [51, 2, 11], 0, [1244]),
  (241, .iload 6, [6], 0, []),
  (243, .iaload, [], 0, []),
  (244, .iconst 1, [], 1, []),
  (245, .iadd, [], 0, []),
  (246, .iastore, [], 0, []),
  (247, .aload_n 0, [0], 0, []),
  (248, .getfield 114, [52, 2, 11], 0, [1245]),
  (251, .iload 9, [9], 0, []),
  (253, .iload 10, [10], 0, []),
  (255, .iastore, [], 0, []),
  (256, .aload_n 0, [0], 0, []),
  (257, .getfield 108, [50, 2, 11], 0, [1243]),
  (260, .iload_n 3, [3], 0, []),
  (261, .iload 9, [9], 0, []),
  (263, .iastore, [], 0, []),
  (264, .iload_n 3, [3], 0, []),
  (265, .iconst 1, [], 1, []),
  (266, .iadd, [], 0, []),
  (267, .istore_n 3, [3], 0, []),
  (268, .goto 41, [176], 0, []),
  (271, .aload_n 0, [0], 0, []),
  (272, .getfield 111, [51, 2, 11], 0, [1244]),
  (275, .iload 9, [9], 0, []),
  (277, .iaload, [], 0, []),
  (278, .aload_n 0, [0], 0, []),
  (279, .getfield 111, [51, 2, 11], 0, [1244]),
  (282, .iload 6, [6], 0, []),
  (284, .iaload, [], 0, []),
  (285, .iconst 1, [], 1, []),
  (286, .iadd, [], 0, []),
  (287, .if_icmp .ne 22, [176], 0, []),
  (290, .aload_n 0, [0], 0, []),
  (291, .getfield 114, [52, 2, 11], 0, [1245]),
  (294, .iload 9, [9], 0, []),
  (296, .aload_n 0, [0], 0, []),
  (297, .getfield 114, [52, 2, 11], 0, [1245]),
  (300, .iload 9, [9], 0, []),
  (302, .iaload, [], 0, []),
  (303, .iload 10, [10], 0, []),
  (305, .invokestatic 291, [0, 2, 139], 0, [1575]),
  (308, .iastore, [], 0, []),
  (309, .iinc 7 1, [7], 1, []),
  (312, .goto (-168), [83], 0, []),
  (315, .iinc 5 1, [5], 1, []),
  (318, .goto (-263), [36], 0, []),
  (321, .iload 4, [4], 0, []),
  (323, .ireturn, [0], 0, [])]
def cd_X12_lane : List am_E := [
  (0, .iload_n 1, [1], 0, []),
  (1, .iconst 2, [], 2, []),
  (2, .bipush 9, [], 9, []),
  (4, .invokestatic 139, [0, 3, 138], 0, [1388]),
  (7, .ifCond .eq 20, [14], 0, []),
  (10, .iload_n 2, [2], 0, []),
  (11, .iconst 0, [], 0, []),
  (12, .iconst 1, [], 1, []),
  (13, .invokestatic 139, [0, 3, 138], 0, [1388]),
  (16, .ifCond .eq 11, [14], 0, []),
  (19, .iload_n 1, [1], 0, []),
  (20, .aload_n 0, [0], 0, []),
  (21, .getfield 150, [6, 0, 11], 0, [1199]),
  (24, .if_icmp .le 5, [16], 0, []),
  (27, .iconst (-1), [], (-1), []),
  (28, .ireturn, [0], 0, []),
  (29, .aload_n 0, [0], 0, []),
  (30, .iconst 0, [], 0, []),
  (31, .putfield 150, [6, 0, 11], 0, [1199]),
  (34, .aload_n 0, [0], 0, []),
  (35, .getfield 117, [53, 2, 11], 0, [1246]),
  (38, .iconst 0, [], 0, []),
  (39, .iconst 1, [], 1, []),
  (40, .iastore, [], 0, []),
  (41, .iconst 0, [], 0, []),
  (42, .istore_n 3, [3], 0, []),
  (43, .iconst 0, [], 0, []),
  (44, .istore 4, [4], 0, []),
  (46, .iload 4, [4], 0, []),
  (48, .iload_n 1, [1], 0, []),
  (49, .if_icmp .ge 97, [81], 0, []),
  (52, .aload_n 0, [0], 0, []),
  (53, .iload 4, [4], 0, []),
  (55, .invokevirtual 379, [1, 2, 11, 151], 0, [1657, 0, 0, 79]),
  (58, .istore 5, [5], 0, []),
  (60, .iload 5, [5], 0, []),
  (62, .bipush 62, [], 62, []),
  (64, .if_icmp .eq 24, [48], 0, []),
  (67, .iload 5, [5], 0, []),
  (69, .bipush 60, [], 60, []),
  (71, .if_icmp .eq 17, [48], 0, []),
  (74, .iload 5, [5], 0, []),
  (76, .bipush 46, [], 46, []),
  (78, .if_icmp .eq 10, [48], 0, []),
  (81, .sipush (-1000), [], (-1000), []),
  (84, .iload 4, [4], 0, []),
  (86, .isub, [], 0, []),
  (87, .ireturn, [0], 0, []),
  (88, .iload_n 3, [3], 0, []),
  (89, .aload_n 0, [0], 0, []),
  (90, .getfield 117, [53, 2, 11], 0, [1246]),
  (93, .iload 4, [4], 0, []),
  (95, .iaload, [], 0, []),
  (96, .iload 5, [5], 0, []),
  (98, .bipush 62, [], 62, []),
  (100, .if_icmp .ne 7, [58], 0, []),
  (103, .iconst 1, [], 1, []),
  (104, .goto 15, [64], 0, []),
  (107, .iload 5, [5], 0, []),
  (109, .bipush 60, [], 60, []),
  (111, .if_icmp .ne 7, [63], 0, []),
  (114, .iconst 2, [], 2, []),
  (115, .goto 4, [64], 0, []),
  (118, .iconst 0, [], 0, []),
  (119, .imul, [], 0, []),
  (120, .iadd, [], 0, []),
  (121, .istore_n 3, [3], 0, []),
  (122, .aload_n 0, [0], 0, []),
  (123, .getfield 117, [53, 2, 11], 0, [1246]),
  (126, .iload 4, [4], 0, []),
  (128, .iconst 1, [], 1, []),
  (129, .iadd, [], 0, []),
  (130, .iconst 3, [], 3, []),
  (131, .aload_n 0, [0], 0, []),
  (132, .getfield 117, [53, 2, 11], 0, [1246]),
  (135, .iload 4, [4], 0, []),
  (137, .iaload, [], 0, []),
  (138, .imul, [], 0, []),
  (139, .iastore, [], 0, []),
  (140, .iinc 4 1, [4], 1, []),
  (143, .goto (-97), [28], 0, []),
  (146, .aload_n 0, [0], 0, []),
  (147, .iload_n 3, [3], 0, []),
  (148, .iload_n 1, [1], 0, []),
  (149, .invokevirtual 382, [1, 3, 11, 212], 0, [1661, 0, 0, 80]),
  (152, .istore 4, [4], 0, []),
  (154, .iload 4, [4], 0, []),
  (156, .iconst (-1), [], (-1), []),
  (157, .if_icmp .ne 6, [91], 0, []),
  (160, .bipush (-2), [], (-2), []),
  (162, .ireturn, [0], 0, []),
  (163, .iload_n 2, [2], 0, []),
  (164, .ifCond .ne 13, [98], 0, []),
  (167, .aload_n 0, [0], 0, []),
  (168, .getfield 111, [51, 2, 11], 0, [1244]),
  (171, .iload 4, [4], 0, []),
  (173, .iaload, [], 0, []),
  (174, .goto 10, [102], 0, []),
  (177, .aload_n 0, [0], 0, []),
  (178, .getfield 114, [52, 2, 11], 0, [1245]),
  (181, .iload 4, [4], 0, []),
  (183, .iaload, [], 0, []),
  (184, .ireturn, [0], 0, [])]
def cd_X12_signing : List am_E := [
  (0, .iload_n 1, [1], 0, []),
  (1, .iconst 1, [], 1, []),
  (2, .bipush 12, [], 12, []),
  (4, .invokestatic 139, [0, 3, 138], 0, [1388]),
  (7, .ifCond .eq 22, [16], 0, []),
  (10, .iload_n 2, [2], 0, []),
  (11, .iconst 0, [], 0, []),
  (12, .iconst 1, [], 1, []),
  (13, .invokestatic 139, [0, 3, 138], 0, [1388]),
  (16, .ifCond .eq 13, [16], 0, []),
  (19, .iconst 2, [], 2, []),
  (20, .iload_n 1, [1], 0, []),
  (21, .imul, [], 0, []),
  (22, .aload_n 0, [0], 0, []),
  (23, .getfield 150, [6, 0, 11], 0, [1199]),
  (26, .if_icmp .le 5, [18], 0, []),
  (29, .iconst (-1), [], (-1), []),
  (30, .ireturn, [0], 0, []),
  (31, .aload_n 0, [0], 0, []),
  (32, .iconst 0, [], 0, []),
  (33, .putfield 150, [6, 0, 11], 0, [1199]),
  (36, .iconst 0, [], 0, []),
  (37, .istore_n 3, [3], 0, []),
  (38, .iconst 0, [], 0, []),
  (39, .istore 4, [4], 0, []),
  (41, .iconst 0, [], 0, []),
  (42, .istore 5, [5], 0, []),
  (44, .iconst 0, [], 0, []),
  (45, .istore 6, [6], 0, []),
  (47, .iload 6, [6], 0, []),
  (49, .iload_n 1, [1], 0, []),
  (50, .if_icmp .ge 61, [68], 0, []),
  (53, .iload_n 3, [3], 0, []),
  (54, .aload_n 0, [0], 0, []),
  (55, .iconst 2, [], 2, []),
  (56, .iload 6, [6], 0, []),
  (58, .imul, [], 0, []),
  (59, .invokevirtual 379, [1, 2, 11, 151], 0, [1657, 0, 0, 79]),
  (62, .iadd, [], 0, []),
  (63, .istore_n 3, [3], 0, []),
  (64, .iload 4, [4], 0, []),
  (66, .aload_n 0, [0], 0, []),
  (67, .iconst 2, [], 2, []),
  (68, .iload 6, [6], 0, []),
  (70, .imul, [], 0, []),
  (71, .iconst 1, [], 1, []),
  (72, .iadd, [], 0, []),
  (73, .invokevirtual 379, [1, 2, 11, 151], 0, [1657, 0, 0, 79]),
  (76, .iadd, [], 0, []),
  (77, .istore 4, [4], 0, []),
  (79, .iload 5, [5], 0, []),
  (81, .aload_n 0, [0], 0, []),
  (82, .iconst 2, [], 2, []),
  (83, .iload 6, [6], 0, []),
  (85, .imul, [], 0, []),
  (86, .invokevirtual 379, [1, 2, 11, 151], 0, [1657, 0, 0, 79]),
  (89, .aload_n 0, [0], 0, []),
  (90, .iconst 2, [], 2, []),
  (91, .iload 6, [6], 0, []),
  (93, .imul, [], 0, []),
  (94, .iconst 1, [], 1, []),
  (95, .iadd, [], 0, []),
  (96, .invokevirtual 379, [1, 2, 11, 151], 0, [1657, 0, 0, 79]),
  (99, .iadd, [], 0, []),
  (100, .invokestatic 263, [0, 2, 140], 0, [1509]),
  (103, .istore 5, [5], 0, []),
  (105, .iinc 6 1, [6], 1, []),
  (108, .goto (-61), [29], 0, []),
  (111, .iload 5, [5], 0, []),
  (113, .iload_n 3, [3], 0, []),
  (114, .iload 4, [4], 0, []),
  (116, .invokestatic 263, [0, 2, 140], 0, [1509]),
  (119, .invokestatic 263, [0, 2, 140], 0, [1509]),
  (122, .istore 6, [6], 0, []),
  (124, .iload_n 2, [2], 0, []),
  (125, .ifCond .ne 6, [78], 0, []),
  (128, .iload 6, [6], 0, []),
  (130, .ireturn, [0], 0, []),
  (131, .iload_n 3, [3], 0, []),
  (132, .iload 6, [6], 0, []),
  (134, .if_icmp .ne 7, [83], 0, []),
  (137, .iconst 0, [], 0, []),
  (138, .goto 15, [89], 0, []),
  (141, .iload 4, [4], 0, []),
  (143, .iload 6, [6], 0, []),
  (145, .if_icmp .ne 7, [88], 0, []),
  (148, .iconst 1, [], 1, []),
  (149, .goto 4, [89], 0, []),
  (152, .iconst 2, [], 2, []),
  (153, .ireturn, [0], 0, [])]
def cd_X12_titles : List am_E := [
  (0, .iload_n 1, [1], 0, []),
  (1, .iconst 1, [], 1, []),
  (2, .bipush 10, [], 10, []),
  (4, .invokestatic 139, [0, 3, 138], 0, [1388]),
  (7, .ifCond .eq 32, [21], 0, []),
  (10, .iload_n 2, [2], 0, []),
  (11, .iconst 1, [], 1, []),
  (12, .bipush 10, [], 10, []),
  (14, .invokestatic 139, [0, 3, 138], 0, [1388]),
  (17, .ifCond .eq 22, [21], 0, []),
  (20, .iload_n 3, [3], 0, []),
  (21, .iconst 0, [], 0, []),
  (22, .iconst 1, [], 1, []),
  (23, .invokestatic 139, [0, 3, 138], 0, [1388]),
  (26, .ifCond .eq 13, [21], 0, []),
  (29, .iload_n 1, [1], 0, []),
  (30, .iload_n 2, [2], 0, []),
  (31, .iadd, [], 0, []),
  (32, .aload_n 0, [0], 0, []),
  (33, .getfield 150, [6, 0, 11], 0, [1199]),
  (36, .if_icmp .le 5, [23], 0, []),
  (39, .iconst (-1), [], (-1), []),
  (40, .ireturn, [0], 0, []),
  (41, .aload_n 0, [0], 0, []),
  (42, .iconst 0, [], 0, []),
  (43, .putfield 150, [6, 0, 11], 0, [1199]),
  (46, .iconst 0, [], 0, []),
  (47, .istore 4, [4], 0, []),
  (49, .iload 4, [4], 0, []),
  (51, .iload_n 1, [1], 0, []),
  (52, .iload_n 2, [2], 0, []),
  (53, .iadd, [], 0, []),
  (54, .if_icmp .ge 27, [44], 0, []),
  (57, .aload_n 0, [0], 0, []),
  (58, .iload 4, [4], 0, []),
  (60, .invokevirtual 379, [1, 2, 11, 151], 0, [1657, 0, 0, 79]),
  (63, .iconst 1, [], 1, []),
  (64, .bipush 20, [], 20, []),
  (66, .invokestatic 139, [0, 3, 138], 0, [1388]),
  (69, .ifCond .ne 6, [42], 0, []),
  (72, .bipush (-2), [], (-2), []),
  (74, .ireturn, [0], 0, []),
  (75, .iinc 4 1, [4], 1, []),
  (78, .goto (-29), [28], 0, []),
  (81, .iconst 0, [], 0, []),
  (82, .istore 4, [4], 0, []),
  (84, .iload 4, [4], 0, []),
  (86, .iload_n 1, [1], 0, []),
  (87, .if_icmp .gt 197, [160], 0, []),
  (90, .iconst 0, [], 0, []),
  (91, .istore 5, [5], 0, []),
  (93, .iload 5, [5], 0, []),
  (95, .iload_n 2, [2], 0, []),
  (96, .if_icmp .gt 182, [158], 0, []),
  (99, .iload 4, [4], 0, []),
  (101, .iload 5, [5], 0, []),
  (103, .iadd, [], 0, []),
  (104, .ifCond .ne 7, [60], 0, []),
  (107, .iconst 0, [], 0, []),
  (108, .goto 6, [61], 0, []),
  (111, .ldc_w 385, [], 1000000, [1685]),
  (114, .istore 6, [6], 0, []),
  (116, .iload 4, [4], 0, []),
  (118, .ifCond .le 37, [85], 0, []),
  (121, .iload 6, [6], 0, []),
  (123, .aload_n 0, [0], 0, []),
  (124, .getfield 123, [55, 2, 11], 0, [1248]),
  (127, .bipush 11, [], 11, []),
  (129, .iload 4, [4], 0, []),
  (131, .iconst 1, [], 1, []),
  (132, .isub, [], 0, []),
  (133, .imul, [], 0, []),
  (134, .iload 5, [5], 0, []),
  (136, .iadd, [], 0, []),
  (137, .iaload, [], 0, []),
  (138, .bipush 100, [], 100, []),
  (140, .aload_n 0, [0], 0, []),
  (141, .iload 4, [4], 0, []),
  (143, .iconst 1, [], 1, []),
  (144, .isub, [], 0, []),
  (145, .invokevirtual 379, [1, 2, 11, 151], 0, [1657, 0, 0, 79]),
  (148, .imul, [], 0, []),
  (149, .iadd, [], 0, []),
  (150, .invokestatic 291, [0, 2, 139], 0, [1575]),
  (153, .istore 6, [6], 0, []),
  (155, .iload 5, [5], 0, []),
  (157, .ifCond .le 39, [110], 0, []),
  (160, .iload 6, [6], 0, []),
  (162, .aload_n 0, [0], 0, []),
  (163, .getfield 123, [55, 2, 11], 0, [1248]),
  (166, .bipush 11, [], 11, []),
  (168, .iload 4, [4], 0, []),
  (170, .imul, [], 0, []),
  (171, .iload 5, [5], 0, []),
  (173, .iadd, [], 0, []),
  (174, .iconst 1, [], 1, []),
  (175, .isub, [], 0, []),
  (176, .iaload, [], 0, []),
  (177, .bipush 100, [], 100, []),
  (179, .aload_n 0, [0], 0, []),
  (180, .iload_n 1, [1], 0, []),
  (181, .iload 5, [5], 0, []),
  (183, .iadd, [], 0, []),
  (184, .iconst 1, [], 1, []),
  (185, .isub, [], 0, []),
  (186, .invokevirtual 379, [1, 2, 11, 151], 0, [1657, 0, 0, 79]),
  (189, .imul, [], 0, []),
  (190, .iadd, [], 0, []),
  (191, .invokestatic 291, [0, 2, 139], 0, [1575]),
  (194, .istore 6, [6], 0, []),
  (196, .iload 4, [4], 0, []),
  (198, .ifCond .le 59, [147], 0, []),
  (201, .iload 5, [5], 0, []),
  (203, .ifCond .le 54, [147], 0, []),
  (206, .iload 6, [6], 0, []),
  (208, .aload_n 0, [0], 0, []),
  (209, .getfield 123, [55, 2, 11], 0, [1248]),
  (212, .bipush 11, [], 11, []),
  (214, .iload 4, [4], 0, []),
  (216, .iconst 1, [], 1, []),
  (217, .isub, [], 0, []),
  (218, .imul, [], 0, []),
  (219, .iload 5, [5], 0, []),
  (221, .iadd, [], 0, []),
  (222, .iconst 1, [], 1, []),
  (223, .isub, [], 0, []),
  (224, .iaload, [], 0, []),
  (225, .bipush 100, [], 100, []),
  (227, .aload_n 0, [0], 0, []),
  (228, .iload 4, [4], 0, []),
  (230, .iconst 1, [], 1, []),
  (231, .isub, [], 0, []),
  (232, .invokevirtual 379, [1, 2, 11, 151], 0, [1657, 0, 0, 79]),
  (235, .aload_n 0, [0], 0, []),
  (236, .iload_n 1, [1], 0, []),
  (237, .iload 5, [5], 0, []),
  (239, .iadd, [], 0, []),
  (240, .iconst 1, [], 1, []),
  (241, .isub, [], 0, []),
  (242, .invokevirtual 379, [1, 2, 11, 151], 0, [1657, 0, 0, 79]),
  (245, .invokestatic 263, [0, 2, 140], 0, [1509]),
  (248, .imul, [], 0, []),
  (249, .iadd, [], 0, []),
  (250, .iconst 1, [], 1, []),
  (251, .isub, [], 0, []),
  (252, .invokestatic 291, [0, 2, 139], 0, [1575]),
  (255, .istore 6, [6], 0, []),
  (257, .aload_n 0, [0], 0, []),
  (258, .getfield 123, [55, 2, 11], 0, [1248]),
  (261, .bipush 11, [], 11, []),
  (263, .iload 4, [4], 0, []),
  (265, .imul, [], 0, []),
  (266, .iload 5, [5], 0, []),
  (268, .iadd, [], 0, []),
  (269, .iload 6, [6], 0, []),
  (271, .iastore, [], 0, []),
  (272, .iinc 5 1, [5], 1, []),
  (275, .goto (-182), [51], 0, []),
  (278, .iinc 4 1, [4], 1, []),
  (281, .goto (-197), [46], 0, []),
  (284, .aload_n 0, [0], 0, []),
  (285, .getfield 123, [55, 2, 11], 0, [1248]),
  (288, .bipush 11, [], 11, []),
  (290, .iload_n 1, [1], 0, []),
  (291, .imul, [], 0, []),
  (292, .iload_n 2, [2], 0, []),
  (293, .iadd, [], 0, []),
  (294, .iaload, [], 0, []),
  (295, .istore 4, [4], 0, []),
  (297, .iload 4, [4], 0, []),
  (299, .bipush 99, [], 99, []),
  (301, .iadd, [], 0, []),
  (302, .bipush 100, [], 100, []),
  (304, .idiv, [], 0, []),
  (305, .istore 5, [5], 0, []),
  (307, .iload_n 3, [3], 0, []),
  (308, .ifCond .ne 8, [179], 0, []),
  (311, .iload 5, [5], 0, []),
  (313, .goto 11, [184], 0, []),
  (316, .bipush 100, [], 100, []),
  (318, .iload 5, [5], 0, []),
  (320, .imul, [], 0, []),
  (321, .iload 4, [4], 0, []),
  (323, .isub, [], 0, []),
  (324, .ireturn, [0], 0, [])]
def cd_X12_unlike : List am_E := [
  (0, .aload_n 0, [0], 0, []),
  (1, .iload_n 2, [2], 0, []),
  (2, .invokevirtual 379, [1, 2, 11, 151], 0, [1657, 0, 0, 79]),
  (5, .aload_n 0, [0], 0, []),
  (6, .iload_n 1, [1], 0, []),
  (7, .iload_n 3, [3], 0, []),
  (8, .iadd, [], 0, []),
  (9, .invokevirtual 379, [1, 2, 11, 151], 0, [1657, 0, 0, 79]),
  (12, .isub, [], 0, []),
  (13, .invokestatic 297, [0, 1, 141], 0, [1532]),
  (16, .ireturn, [0], 0, [])]
def cd_X12_leastGifts : List am_E := [
  (0, .aload_n 0, [0], 0, []),
  (1, .getfield 126, [56, 2, 11], 0, [1249]),
  (4, .iconst 0, [], 0, []),
  (5, .iconst 0, [], 0, []),
  (6, .iastore, [], 0, []),
  (7, .iconst 1, [], 1, []),
  (8, .istore_n 3, [3], 0, []),
  (9, .iload_n 3, [3], 0, []),
  (10, .iconst 1, [], 1, []),
  (11, .iload_n 1, [1], 0, []),
  (12, .ishl, [], 0, []),
  (13, .if_icmp .ge 135, [84], 0, []),
  (16, .iload_n 3, [3], 0, []),
  (17, .invokestatic 386, [0, 1, 143], 0, [1694]),
  (20, .iconst 1, [], 1, []),
  (21, .isub, [], 0, []),
  (22, .istore 4, [4], 0, []),
  (24, .aload_n 0, [0], 0, []),
  (25, .getfield 126, [56, 2, 11], 0, [1249]),
  (28, .iload_n 3, [3], 0, []),
  (29, .ldc_w 385, [], 1000000, [1685]),
  (32, .iastore, [], 0, []),
  (33, .iconst 0, [], 0, []),
  (34, .istore 5, [5], 0, []),
  (36, .iload 5, [5], 0, []),
  (38, .iload_n 1, [1], 0, []),
  (39, .if_icmp .ge 103, [82], 0, []),
  (42, .iload_n 3, [3], 0, []),
  (43, .iload 5, [5], 0, []),
  (45, .invokestatic 361, [0, 2, 142], 0, [1638]),
  (48, .ifCond .ne 6, [32], 0, []),
  (51, .goto 85, [80], 0, []),
  (54, .aload_n 0, [0], 0, []),
  (55, .getfield 126, [56, 2, 11], 0, [1249]),
  (58, .iload_n 3, [3], 0, []),
  (59, .iconst 1, [], 1, []),
  (60, .iload 5, [5], 0, []),
  (62, .ishl, [], 0, []),
  (63, .iconst (-1), [], (-1), []),
  (64, .ixor, [], 0, []),
  (65, .iand, [], 0, []),
  (66, .iaload, [], 0, []),
  (67, .istore 6, [6], 0, []),
  (69, .aload_n 0, [0], 0, []),
  (70, .iload_n 1, [1], 0, []),
  (71, .iload 4, [4], 0, []),
  (73, .iload 5, [5], 0, []),
  (75, .invokevirtual 389, [1, 4, 11, 216], 0, [1697, 0, 0, 85]),
  (78, .istore 7, [7], 0, []),
  (80, .iload_n 2, [2], 0, []),
  (81, .iconst (-1), [], (-1), []),
  (82, .if_icmp .ne 28, [65], 0, []),
  (85, .aload_n 0, [0], 0, []),
  (86, .getfield 126, [56, 2, 11], 0, [1249]),
  (89, .iload_n 3, [3], 0, []),
  (90, .aload_n 0, [0], 0, []),
  (91, .getfield 126, [56, 2, 11], 0, [1249]),
  (94, .iload_n 3, [3], 0, []),
  (95, .iaload, [], 0, []),
  (96, .iload 6, [6], 0, []),
  (98, .iload 7, [7], 0, []),
  (100, .invokestatic 263, [0, 2, 140], 0, [1509]),
  (103, .invokestatic 291, [0, 2, 139], 0, [1575]),
  (106, .iastore, [], 0, []),
  (107, .goto 29, [80], 0, []),
  (110, .iload 7, [7], 0, []),
  (112, .iload_n 2, [2], 0, []),
  (113, .if_icmp .gt 23, [80], 0, []),
  (116, .aload_n 0, [0], 0, []),
  (117, .getfield 126, [56, 2, 11], 0, [1249]),
  (120, .iload_n 3, [3], 0, []),
  (121, .aload_n 0, [0], 0, []),
  (122, .getfield 126, [56, 2, 11], 0, [1249]),
  (125, .iload_n 3, [3], 0, []),
  (126, .iaload, [], 0, []),
  (127, .iload 6, [6], 0, []),
  (129, .iload 7, [7], 0, []),
  (131, .iadd, [], 0, []),
  (132, .invokestatic 291, [0, 2, 139], 0, [1575]),
  (135, .iastore, [], 0, []),
  (136, .iinc 5 1, [5], 1, []),
  (139, .goto (-103), [24], 0, []),
  (142, .iinc 3 1, [3], 1, []),
  (145, .goto (-136), [7], 0, []),
  (148, .aload_n 0, [0], 0, []),
  (149, .getfield 126, [56, 2, 11], 0, [1249]),
  (152, .iconst 1, [], 1, []),
  (153, .iload_n 1, [1], 0, []),
  (154, .ishl, [], 0, []),
  (155, .iconst 1, [], 1, []),
  (156, .isub, [], 0, []),
  (157, .iaload, [], 0, []),
  (158, .ireturn, [0], 0, [])]
def cd_X12_gifts : List am_E := [
  (0, .iload_n 1, [1], 0, []),
  (1, .iconst 1, [], 1, []),
  (2, .bipush 8, [], 8, []),
  (4, .invokestatic 139, [0, 3, 138], 0, [1388]),
  (7, .ifCond .eq 22, [16], 0, []),
  (10, .iload_n 2, [2], 0, []),
  (11, .iconst 0, [], 0, []),
  (12, .iconst 1, [], 1, []),
  (13, .invokestatic 139, [0, 3, 138], 0, [1388]),
  (16, .ifCond .eq 13, [16], 0, []),
  (19, .iconst 2, [], 2, []),
  (20, .iload_n 1, [1], 0, []),
  (21, .imul, [], 0, []),
  (22, .aload_n 0, [0], 0, []),
  (23, .getfield 150, [6, 0, 11], 0, [1199]),
  (26, .if_icmp .le 5, [18], 0, []),
  (29, .iconst (-1), [], (-1), []),
  (30, .ireturn, [0], 0, []),
  (31, .aload_n 0, [0], 0, []),
  (32, .iconst 0, [], 0, []),
  (33, .putfield 150, [6, 0, 11], 0, [1199]),
  (36, .aload_n 0, [0], 0, []),
  (37, .iload_n 1, [1], 0, []),
  (38, .iconst (-1), [], (-1), []),
  (39, .invokevirtual 392, [1, 3, 11, 217], 0, [1690, 0, 0, 84]),
  (42, .istore_n 3, [3], 0, []),
  (43, .iload_n 2, [2], 0, []),
  (44, .ifCond .ne 7, [30], 0, []),
  (47, .iload_n 3, [3], 0, []),
  (48, .goto 9, [34], 0, []),
  (51, .aload_n 0, [0], 0, []),
  (52, .iload_n 1, [1], 0, []),
  (53, .iload_n 3, [3], 0, []),
  (54, .invokevirtual 392, [1, 3, 11, 217], 0, [1690, 0, 0, 84]),
  (57, .ireturn, [0], 0, [])]
def cd_X12_sumOf : List am_E := [
  (0, .iconst 0, [], 0, []),
  (1, .istore_n 3, [3], 0, []),
  (2, .iconst 0, [], 0, []),
  (3, .istore 4, [4], 0, []),
  (5, .iload 4, [4], 0, []),
  (7, .iload_n 2, [2], 0, []),
  (8, .if_icmp .ge 27, [19], 0, []),
  (11, .iload_n 1, [1], 0, []),
  (12, .iload 4, [4], 0, []),
  (14, .invokestatic 361, [0, 2, 142], 0, [1638]),
  (17, .ifCond .eq 12, [17], 0, []),
  (20, .iload_n 3, [3], 0, []),
  (21, .aload_n 0, [0], 0, []),
  (22, .iload 4, [4], 0, []),
  (24, .invokevirtual 379, [1, 2, 11, 151], 0, [1657, 0, 0, 79]),
  (27, .iadd, [], 0, []),
  (28, .istore_n 3, [3], 0, []),
  (29, .iinc 4 1, [4], 1, []),
  (32, .goto (-27), [4], 0, []),
  (35, .iload_n 3, [3], 0, []),
  (36, .ireturn, [0], 0, [])]
def cd_X12_cushions : List am_E := [
  (0, .iload_n 1, [1], 0, []),
  (1, .iconst 1, [], 1, []),
  (2, .bipush 8, [], 8, []),
  (4, .invokestatic 139, [0, 3, 138], 0, [1388]),
  (7, .ifCond .eq 41, [24], 0, []),
  (10, .iload_n 2, [2], 0, []),
  (11, .iconst 0, [], 0, []),
  (12, .bipush 99, [], 99, []),
  (14, .invokestatic 139, [0, 3, 138], 0, [1388]),
  (17, .ifCond .eq 31, [24], 0, []),
  (20, .iload_n 3, [3], 0, []),
  (21, .iconst 0, [], 0, []),
  (22, .bipush 99, [], 99, []),
  (24, .invokestatic 139, [0, 3, 138], 0, [1388]),
  (27, .ifCond .eq 21, [24], 0, []),
  (30, .iload 4, [4], 0, []),
  (32, .iconst 0, [], 0, []),
  (33, .iconst 2, [], 2, []),
  (34, .invokestatic 139, [0, 3, 138], 0, [1388]),
  (37, .ifCond .eq 11, [24], 0, []),
  (40, .iload_n 1, [1], 0, []),
  (41, .aload_n 0, [0], 0, []),
  (42, .getfield 150, [6, 0, 11], 0, [1199]),
  (45, .if_icmp .le 5, [26], 0, []),
  (48, .iconst (-1), [], (-1), []),
  (49, .ireturn, [0], 0, []),
  (50, .aload_n 0, [0], 0, []),
  (51, .iconst 0, [], 0, []),
  (52, .putfield 150, [6, 0, 11], 0, [1199]),
  (55, .iconst 0, [], 0, []),
  (56, .istore 5, [5], 0, []),
  (58, .iload 5, [5], 0, []),
  (60, .iload_n 1, [1], 0, []),
  (61, .if_icmp .ge 27, [45], 0, []),
  (64, .aload_n 0, [0], 0, []),
  (65, .iload 5, [5], 0, []),
  (67, .invokevirtual 379, [1, 2, 11, 151], 0, [1657, 0, 0, 79]),
  (70, .iconst 1, [], 1, []),
  (71, .bipush 30, [], 30, []),
  (73, .invokestatic 139, [0, 3, 138], 0, [1388]),
  (76, .ifCond .ne 6, [43], 0, []),
  (79, .bipush (-3), [], (-3), []),
  (81, .ireturn, [0], 0, []),
  (82, .iinc 5 1, [5], 1, []),
  (85, .goto (-27), [31], 0, []),
  (88, .bipush (-2), [], (-2), []),
  (90, .istore 5, [5], 0, []),
  (92, .iconst 0, [], 0, []),
  (93, .istore 6, [6], 0, []),
  (95, .iconst 0, [], 0, []),
  (96, .istore 7, [7], 0, []),
  (98, .iconst 0, [], 0, []),
  (99, .istore 8, [8], 0, []),
  (101, .iload 8, [8], 0, []),
  (103, .iconst 1, [], 1, []),
  (104, .iload_n 1, [1], 0, []),
  (105, .ishl, [], 0, []),
  (106, .if_icmp .ge 81, [98], 0, []),
  (109, .iload_n 2, [2], 0, []),
  (110, .aload_n 0, [0], 0, []),
  (111, .iload 8, [8], 0, []),
  (113, .iload_n 1, [1], 0, []),
  (114, .invokevirtual 395, [1, 3, 11, 219], 0, [1705, 0, 0, 86]),
  (117, .iadd, [], 0, []),
  (118, .istore 9, [9], 0, []),
  (120, .iconst 0, [], 0, []),
  (121, .istore 10, [10], 0, []),
  (123, .iload 10, [10], 0, []),
  (125, .iconst 1, [], 1, []),
  (126, .iload_n 1, [1], 0, []),
  (127, .ishl, [], 0, []),
  (128, .if_icmp .ge 53, [96], 0, []),
  (131, .iload 8, [8], 0, []),
  (133, .iload 10, [10], 0, []),
  (135, .iand, [], 0, []),
  (136, .ifCond .ne 39, [94], 0, []),
  (139, .iload 9, [9], 0, []),
  (141, .iload 5, [5], 0, []),
  (143, .if_icmp .le 32, [94], 0, []),
  (146, .iload_n 3, [3], 0, []),
  (147, .aload_n 0, [0], 0, []),
  (148, .iload 10, [10], 0, []),
  (150, .iload_n 1, [1], 0, []),
  (151, .invokevirtual 395, [1, 3, 11, 219], 0, [1705, 0, 0, 86]),
  (154, .iadd, [], 0, []),
  (155, .iload 9, [9], 0, []),
  (157, .if_icmp .eq 6, [88], 0, []),
  (160, .goto 15, [94], 0, []),
  (163, .iload 9, [9], 0, []),
  (165, .istore 5, [5], 0, []),
  (167, .iload 8, [8], 0, []),
  (169, .istore 6, [6], 0, []),
  (171, .iload 10, [10], 0, []),
  (173, .istore 7, [7], 0, []),
  (175, .iinc 10 1, [10], 1, []),
  (178, .goto (-55), [67], 0, []),
  (181, .iinc 8 1, [8], 1, []),
  (184, .goto (-83), [53], 0, []),
  (187, .iload 5, [5], 0, []),
  (189, .bipush (-2), [], (-2), []),
  (191, .if_icmp .ne 6, [103], 0, []),
  (194, .bipush (-2), [], (-2), []),
  (196, .ireturn, [0], 0, []),
  (197, .iload 4, [4], 0, []),
  (199, .ifCond .ne 8, [107], 0, []),
  (202, .iload 5, [5], 0, []),
  (204, .goto 16, [113], 0, []),
  (207, .iload 4, [4], 0, []),
  (209, .iconst 1, [], 1, []),
  (210, .if_icmp .ne 8, [112], 0, []),
  (213, .iload 6, [6], 0, []),
  (215, .goto 5, [113], 0, []),
  (218, .iload 7, [7], 0, []),
  (220, .ireturn, [0], 0, [])]
def cd_X12_wrongsNow : List am_E := [
  (0, .iconst 0, [], 0, []),
  (1, .istore_n 2, [2], 0, []),
  (2, .iconst 0, [], 0, []),
  (3, .istore_n 3, [3], 0, []),
  (4, .iload_n 3, [3], 0, []),
  (5, .iload_n 1, [1], 0, []),
  (6, .if_icmp .ge 47, [32], 0, []),
  (9, .aload_n 0, [0], 0, []),
  (10, .aload_n 0, [0], 0, []),
  (11, .getfield 129, [57, 2, 11], 0, [1250]),
  (14, .iload_n 3, [3], 0, []),
  (15, .iaload, [], 0, []),
  (16, .invokevirtual 379, [1, 2, 11, 151], 0, [1657, 0, 0, 79]),
  (19, .istore 4, [4], 0, []),
  (21, .iload 4, [4], 0, []),
  (23, .iload_n 3, [3], 0, []),
  (24, .invokestatic 361, [0, 2, 142], 0, [1638]),
  (27, .ifCond .ne 16, [26], 0, []),
  (30, .iload 4, [4], 0, []),
  (32, .iload_n 3, [3], 0, []),
  (33, .iconst 1, [], 1, []),
  (34, .iadd, [], 0, []),
  (35, .iload_n 1, [1], 0, []),
  (36, .irem, [], 0, []),
  (37, .invokestatic 361, [0, 2, 142], 0, [1638]),
  (40, .ifCond .eq 7, [30], 0, []),
  (43, .iload_n 2, [2], 0, []),
  (44, .iconst 1, [], 1, []),
  (45, .iadd, [], 0, []),
  (46, .istore_n 2, [2], 0, []),
  (47, .iinc 3 1, [3], 1, []),
  (50, .goto (-46), [4], 0, []),
  (53, .iload_n 2, [2], 0, []),
  (54, .ireturn, [0], 0, [])]
def cd_X12_changesSeats : List am_E := [
  (0, .aload_n 0, [0], 0, []),
  (1, .getfield 129, [57, 2, 11], 0, [1250]),
  (4, .iload_n 1, [1], 0, []),
  (5, .iaload, [], 0, []),
  (6, .istore_n 3, [3], 0, []),
  (7, .aload_n 0, [0], 0, []),
  (8, .getfield 129, [57, 2, 11], 0, [1250]),
  (11, .iload_n 1, [1], 0, []),
  (12, .aload_n 0, [0], 0, []),
  (13, .getfield 129, [57, 2, 11], 0, [1250]),
  (16, .iload_n 2, [2], 0, []),
  (17, .iaload, [], 0, []),
  (18, .iastore, [], 0, []),
  (19, .aload_n 0, [0], 0, []),
  (20, .getfield 129, [57, 2, 11], 0, [1250]),
  (23, .iload_n 2, [2], 0, []),
  (24, .iload_n 3, [3], 0, []),
  (25, .iastore, [], 0, []),
  (26, .return_, [], 0, [])]
def cd_X12_nextSeats : List am_E := [
  (0, .iload_n 1, [1], 0, []),
  (1, .iconst 2, [], 2, []),
  (2, .isub, [], 0, []),
  (3, .istore_n 2, [2], 0, []),
  (4, .iload_n 2, [2], 0, []),
  (5, .ifCond .lt 27, [22], 0, []),
  (8, .aload_n 0, [0], 0, []),
  (9, .getfield 129, [57, 2, 11], 0, [1250]),
  (12, .iload_n 2, [2], 0, []),
  (13, .iaload, [], 0, []),
  (14, .aload_n 0, [0], 0, []),
  (15, .getfield 129, [57, 2, 11], 0, [1250]),
  (18, .iload_n 2, [2], 0, []),
  (19, .iconst 1, [], 1, []),
  (20, .iadd, [], 0, []),
  (21, .iaload, [], 0, []),
  (22, .if_icmp .le 10, [22], 0, []),
  (25, .iload_n 2, [2], 0, []),
  (26, .iconst 1, [], 1, []),
  (27, .isub, [], 0, []),
  (28, .istore_n 2, [2], 0, []),
  (29, .goto (-25), [4], 0, []),
  (32, .iload_n 2, [2], 0, []),
  (33, .ifCond .ge 5, [26], 0, []),
  (36, .iconst 0, [], 0, []),
  (37, .ireturn, [1], 0, []),
  (38, .iload_n 1, [1], 0, []),
  (39, .iconst 1, [], 1, []),
  (40, .isub, [], 0, []),
  (41, .istore_n 3, [3], 0, []),
  (42, .aload_n 0, [0], 0, []),
  (43, .getfield 129, [57, 2, 11], 0, [1250]),
  (46, .iload_n 3, [3], 0, []),
  (47, .iaload, [], 0, []),
  (48, .aload_n 0, [0], 0, []),
  (49, .getfield 129, [57, 2, 11], 0, [1250]),
  (52, .iload_n 2, [2], 0, []),
  (53, .iaload, [], 0, []),
  (54, .if_icmp .ge 10, [44], 0, []),
  (57, .iload_n 3, [3], 0, []),
  (58, .iconst 1, [], 1, []),
  (59, .isub, [], 0, []),
  (60, .istore_n 3, [3], 0, []),
  (61, .goto (-19), [30], 0, []),
  (64, .aload_n 0, [0], 0, []),
  (65, .iload_n 2, [2], 0, []),
  (66, .iload_n 3, [3], 0, []),
  (67, .invokevirtual 398, [1, 3, 11, 222], 0, [1725, 0, 0, 90]),
  (70, .iload_n 2, [2], 0, []),
  (71, .iconst 1, [], 1, []),
  (72, .iadd, [], 0, []),
  (73, .istore 4, [4], 0, []),
  (75, .iload_n 1, [1], 0, []),
  (76, .iconst 1, [], 1, []),
  (77, .isub, [], 0, []),
  (78, .istore 5, [5], 0, []),
  (80, .iload 4, [4], 0, []),
  (82, .iload 5, [5], 0, []),
  (84, .if_icmp .ge 20, [66], 0, []),
  (87, .aload_n 0, [0], 0, []),
  (88, .iload 4, [4], 0, []),
  (90, .iload 5, [5], 0, []),
  (92, .invokevirtual 398, [1, 3, 11, 222], 0, [1725, 0, 0, 90]),
  (95, .iinc 4 1, [4], 1, []),
  (98, .iinc 5 (-1), [5], (-1), []),
  (101, .goto (-21), [56], 0, []),
  (104, .iconst 1, [], 1, []),
  (105, .ireturn, [1], 0, [])]
def cd_X12_mayBeSeats : List am_E := [
  (0, .aload_n 0, [0], 0, []),
  (1, .iload_n 1, [1], 0, []),
  (2, .invokevirtual 401, [1, 2, 11, 221], 0, [1717, 0, 0, 88]),
  (5, .istore_n 2, [2], 0, []),
  (6, .aload_n 0, [0], 0, []),
  (7, .aload_n 0, [0], 0, []),
  (8, .getfield 404, [60, 0, 11], 0, [1253]),
  (11, .iload_n 2, [2], 0, []),
  (12, .invokestatic 291, [0, 2, 139], 0, [1575]),
  (15, .putfield 404, [60, 0, 11], 0, [1253]),
  (18, .iload_n 2, [2], 0, []),
  (19, .ifCond .eq 4, [13], 0, []),
  (22, .return_, [], 0, []),
  (23, .aload_n 0, [0], 0, []),
  (24, .aload_n 0, [0], 0, []),
  (25, .getfield 407, [59, 0, 11], 0, [1252]),
  (28, .iconst 1, [], 1, []),
  (29, .iadd, [], 0, []),
  (30, .putfield 407, [59, 0, 11], 0, [1252]),
  (33, .aload_n 0, [0], 0, []),
  (34, .getfield 407, [59, 0, 11], 0, [1252]),
  (37, .iconst 1, [], 1, []),
  (38, .if_icmp .le 4, [24], 0, []),
  (41, .return_, [], 0, []),
  (42, .iconst 0, [], 0, []),
  (43, .istore_n 3, [3], 0, []),
  (44, .iload_n 3, [3], 0, []),
  (45, .iload_n 1, [1], 0, []),
  (46, .if_icmp .ge 21, [39], 0, []),
  (49, .aload_n 0, [0], 0, []),
  (50, .getfield 132, [58, 2, 11], 0, [1251]),
  (53, .iload_n 3, [3], 0, []),
  (54, .aload_n 0, [0], 0, []),
  (55, .getfield 129, [57, 2, 11], 0, [1250]),
  (58, .iload_n 3, [3], 0, []),
  (59, .iaload, [], 0, []),
  (60, .iastore, [], 0, []),
  (61, .iinc 3 1, [3], 1, []),
  (64, .goto (-20), [26], 0, []),
  (67, .return_, [], 0, [])]
def cd_X12_table : List am_E := [
  (0, .iload_n 1, [1], 0, []),
  (1, .iconst 2, [], 2, []),
  (2, .bipush 6, [], 6, []),
  (4, .invokestatic 139, [0, 3, 138], 0, [1388]),
  (7, .ifCond .eq 33, [21], 0, []),
  (10, .iload_n 2, [2], 0, []),
  (11, .iconst 0, [], 0, []),
  (12, .iload_n 1, [1], 0, []),
  (13, .iconst 1, [], 1, []),
  (14, .isub, [], 0, []),
  (15, .invokestatic 139, [0, 3, 138], 0, [1388]),
  (18, .ifCond .ne 14, [17], 0, []),
  (21, .iload_n 2, [2], 0, []),
  (22, .bipush 100, [], 100, []),
  (24, .bipush 101, [], 101, []),
  (26, .invokestatic 139, [0, 3, 138], 0, [1388]),
  (29, .ifCond .eq 11, [21], 0, []),
  (32, .iload_n 1, [1], 0, []),
  (33, .aload_n 0, [0], 0, []),
  (34, .getfield 150, [6, 0, 11], 0, [1199]),
  (37, .if_icmp .le 5, [23], 0, []),
  (40, .iconst (-1), [], (-1), []),
  (41, .ireturn, [0], 0, []),
  (42, .aload_n 0, [0], 0, []),
  (43, .iconst 0, [], 0, []),
  (44, .putfield 150, [6, 0, 11], 0, [1199]),
  (47, .aload_n 0, [0], 0, []),
  (48, .iconst 0, [], 0, []),
  (49, .putfield 407, [59, 0, 11], 0, [1252]),
  (52, .aload_n 0, [0], 0, []),
  (53, .ldc_w 385, [], 1000000, [1685]),
  (56, .putfield 404, [60, 0, 11], 0, [1253]),
  (59, .iconst 0, [], 0, []),
  (60, .istore_n 3, [3], 0, []),
  (61, .iload_n 3, [3], 0, []),
  (62, .iload_n 1, [1], 0, []),
  (63, .if_icmp .ge 16, [44], 0, []),
  (66, .aload_n 0, [0], 0, []),
  (67, .getfield 129, [57, 2, 11], 0, [1250]),
  (70, .iload_n 3, [3], 0, []),
  (71, .iload_n 3, [3], 0, []),
  (72, .iastore, [], 0, []),
  (73, .iinc 3 1, [3], 1, []),
  (76, .goto (-15), [34], 0, []),
  (79, .iconst 1, [], 1, []),
  (80, .istore_n 3, [3], 0, []),
  (81, .iload_n 3, [3], 0, []),
  (82, .ifCond .eq 17, [56], 0, []),
  (85, .aload_n 0, [0], 0, []),
  (86, .iload_n 1, [1], 0, []),
  (87, .invokevirtual 410, [1, 2, 11, 224], 0, [1713, 0, 0, 87]),
  (90, .aload_n 0, [0], 0, []),
  (91, .iload_n 1, [1], 0, []),
  (92, .invokevirtual 413, [1, 2, 11, 223], 0, [1721, 0, 0, 89]),
  (95, .istore_n 3, [3], 0, []),
  (96, .goto (-15), [46], 0, []),
  (99, .iload_n 2, [2], 0, []),
  (100, .bipush 100, [], 100, []),
  (102, .if_icmp .lt 21, [68], 0, []),
  (105, .iload_n 2, [2], 0, []),
  (106, .bipush 100, [], 100, []),
  (108, .if_icmp .ne 10, [65], 0, []),
  (111, .aload_n 0, [0], 0, []),
  (112, .getfield 407, [59, 0, 11], 0, [1252]),
  (115, .goto 7, [67], 0, []),
  (118, .aload_n 0, [0], 0, []),
  (119, .getfield 404, [60, 0, 11], 0, [1253]),
  (122, .ireturn, [0], 0, []),
  (123, .aload_n 0, [0], 0, []),
  (124, .getfield 407, [59, 0, 11], 0, [1252]),
  (127, .ifCond .ne 8, [73], 0, []),
  (130, .bipush (-2), [], (-2), []),
  (132, .goto 9, [77], 0, []),
  (135, .aload_n 0, [0], 0, []),
  (136, .getfield 132, [58, 2, 11], 0, [1251]),
  (139, .iload_n 2, [2], 0, []),
  (140, .iaload, [], 0, []),
  (141, .ireturn, [0], 0, [])]
def cd_X12_drums : List am_E := [
  (0, .iload_n 1, [1], 0, []),
  (1, .iconst 0, [], 0, []),
  (2, .sipush 999, [], 999, []),
  (5, .invokestatic 139, [0, 3, 138], 0, [1388]),
  (8, .ifCond .eq 37, [20], 0, []),
  (11, .iload_n 2, [2], 0, []),
  (12, .iconst 1, [], 1, []),
  (13, .sipush 1000, [], 1000, []),
  (16, .invokestatic 139, [0, 3, 138], 0, [1388]),
  (19, .ifCond .eq 26, [20], 0, []),
  (22, .iload_n 3, [3], 0, []),
  (23, .iconst 0, [], 0, []),
  (24, .sipush 999, [], 999, []),
  (27, .invokestatic 139, [0, 3, 138], 0, [1388]),
  (30, .ifCond .eq 15, [20], 0, []),
  (33, .iload 4, [4], 0, []),
  (35, .iconst 1, [], 1, []),
  (36, .sipush 1000, [], 1000, []),
  (39, .invokestatic 139, [0, 3, 138], 0, [1388]),
  (42, .ifCond .ne 5, [22], 0, []),
  (45, .iconst (-1), [], (-1), []),
  (46, .ireturn, [0], 0, []),
  (47, .iload_n 1, [1], 0, []),
  (48, .istore 5, [5], 0, []),
  (50, .iconst 0, [], 0, []),
  (51, .istore 6, [6], 0, []),
  (53, .iload 6, [6], 0, []),
  (55, .iload 4, [4], 0, []),
  (57, .sipush 1000, [], 1000, []),
  (60, .iadd, [], 0, []),
  (61, .if_icmp .ge 34, [48], 0, []),
  (64, .iload 5, [5], 0, []),
  (66, .iload_n 3, [3], 0, []),
  (67, .if_icmp .lt 16, [42], 0, []),
  (70, .iload 5, [5], 0, []),
  (72, .iload_n 3, [3], 0, []),
  (73, .isub, [], 0, []),
  (74, .iload 4, [4], 0, []),
  (76, .irem, [], 0, []),
  (77, .ifCond .ne 6, [42], 0, []),
  (80, .iload 5, [5], 0, []),
  (82, .ireturn, [0], 0, []),
  (83, .iload 5, [5], 0, []),
  (85, .iload_n 2, [2], 0, []),
  (86, .iadd, [], 0, []),
  (87, .istore 5, [5], 0, []),
  (89, .iinc 6 1, [6], 1, []),
  (92, .goto (-39), [26], 0, []),
  (95, .bipush (-2), [], (-2), []),
  (97, .ireturn, [0], 0, [])]
def cd_X12_tent : List am_E := [
  (0, .iload_n 1, [1], 0, []),
  (1, .iconst 2, [], 2, []),
  (2, .bipush 20, [], 20, []),
  (4, .invokestatic 139, [0, 3, 138], 0, [1388]),
  (7, .ifCond .eq 20, [14], 0, []),
  (10, .iload_n 2, [2], 0, []),
  (11, .iconst 0, [], 0, []),
  (12, .iconst 1, [], 1, []),
  (13, .invokestatic 139, [0, 3, 138], 0, [1388]),
  (16, .ifCond .eq 11, [14], 0, []),
  (19, .iload_n 1, [1], 0, []),
  (20, .aload_n 0, [0], 0, []),
  (21, .getfield 150, [6, 0, 11], 0, [1199]),
  (24, .if_icmp .le 5, [16], 0, []),
  (27, .iconst (-1), [], (-1), []),
  (28, .ireturn, [0], 0, []),
  (29, .aload_n 0, [0], 0, []),
  (30, .iconst 0, [], 0, []),
  (31, .putfield 150, [6, 0, 11], 0, [1199]),
  (34, .iconst 0, [], 0, []),
  (35, .istore_n 3, [3], 0, []),
  (36, .iconst 0, [], 0, []),
  (37, .istore 4, [4], 0, []),
  (39, .iload 4, [4], 0, []),
  (41, .iload_n 1, [1], 0, []),
  (42, .if_icmp .ge 18, [34], 0, []),
  (45, .iload_n 3, [3], 0, []),
  (46, .aload_n 0, [0], 0, []),
  (47, .iload 4, [4], 0, []),
  (49, .invokevirtual 379, [1, 2, 11, 151], 0, [1657, 0, 0, 79]),
  (52, .iadd, [], 0, []),
  (53, .istore_n 3, [3], 0, []),
  (54, .iinc 4 1, [4], 1, []),
  (57, .goto (-18), [23], 0, []),
  (60, .iconst 0, [], 0, []),
  (61, .istore 4, [4], 0, []),
  (63, .ldc_w 385, [], 1000000, [1685]),
  (66, .istore 5, [5], 0, []),
  (68, .iconst 0, [], 0, []),
  (69, .istore 6, [6], 0, []),
  (71, .iconst 1, [], 1, []),
  (72, .istore 7, [7], 0, []),
  (74, .iload 7, [7], 0, []),
  (76, .iload_n 1, [1], 0, []),
  (77, .if_icmp .ge 54, [73], 0, []),
  (80, .iload 6, [6], 0, []),
  (82, .aload_n 0, [0], 0, []),
  (83, .iload 7, [7], 0, []),
  (85, .iconst 1, [], 1, []),
  (86, .isub, [], 0, []),
  (87, .invokevirtual 379, [1, 2, 11, 151], 0, [1657, 0, 0, 79]),
  (90, .iadd, [], 0, []),
  (91, .istore 6, [6], 0, []),
  (93, .iload_n 3, [3], 0, []),
  (94, .iconst 2, [], 2, []),
  (95, .iload 6, [6], 0, []),
  (97, .imul, [], 0, []),
  (98, .isub, [], 0, []),
  (99, .invokestatic 297, [0, 1, 141], 0, [1532]),
  (102, .iload 5, [5], 0, []),
  (104, .if_icmp .lt 6, [62], 0, []),
  (107, .goto 18, [71], 0, []),
  (110, .iload_n 3, [3], 0, []),
  (111, .iconst 2, [], 2, []),
  (112, .iload 6, [6], 0, []),
  (114, .imul, [], 0, []),
  (115, .isub, [], 0, []),
  (116, .invokestatic 297, [0, 1, 141], 0, [1532]),
  (119, .istore 5, [5], 0, []),
  (121, .iload 7, [7], 0, []),
  (123, .istore 4, [4], 0, []),
  (125, .iinc 7 1, [7], 1, []),
  (128, .goto (-54), [42], 0, []),
  (131, .iload_n 2, [2], 0, []),
  (132, .ifCond .ne 8, [77], 0, []),
  (135, .iload 4, [4], 0, []),
  (137, .goto 5, [78], 0, []),
  (140, .iload 5, [5], 0, []),
  (142, .ireturn, [0], 0, [])]
def cd_X12_stairs : List am_E := [
  (0, .iload_n 1, [1], 0, []),
  (1, .iconst 1, [], 1, []),
  (2, .bipush 40, [], 40, []),
  (4, .invokestatic 139, [0, 3, 138], 0, [1388]),
  (7, .ifCond .eq 22, [15], 0, []),
  (10, .iload_n 2, [2], 0, []),
  (11, .iconst 3, [], 3, []),
  (12, .iconst 5, [], 5, []),
  (13, .invokestatic 139, [0, 3, 138], 0, [1388]),
  (16, .ifCond .eq 13, [15], 0, []),
  (19, .iload_n 3, [3], 0, []),
  (20, .iconst 0, [], 0, []),
  (21, .bipush 40, [], 40, []),
  (23, .invokestatic 139, [0, 3, 138], 0, [1388]),
  (26, .ifCond .ne 7, [17], 0, []),
  (29, .ldc2_w 416, [], 0, [1741]),
  (32, .lreturn, [], 0, []),
  (33, .lconst 0, [], 0, []),
  (34, .lstore 4, [4], 0, []),
  (36, .iconst 0, [], 0, []),
  (37, .istore 6, [6], 0, []),
  (39, .iload 6, [6], 0, []),
  (41, .bipush 40, [], 40, []),
  (43, .if_icmp .gt 182, [126], 0, []),
  (46, .iconst 0, [], 0, []),
  (47, .istore 7, [7], 0, []),
  (49, .iload 7, [7], 0, []),
  (51, .iload_n 1, [1], 0, []),
  (52, .if_icmp .gt 140, [108], 0, []),
  (55, .iload 6, [6], 0, []),
  (57, .ifCond .ne 12, [35], 0, []),
  (60, .iload 7, [7], 0, []),
  (62, .ifCond .ne 7, [35], 0, []),
  (65, .lconst 1, [], 1, []),
  (66, .goto 4, [36], 0, []),
  (69, .lconst 0, [], 0, []),
  (70, .lstore 8, [8], 0, []),
  (72, .iload 6, [6], 0, []),
  (74, .ifCond .le 31, [57], 0, []),
  (77, .iload 7, [7], 0, []),
  (79, .iconst 1, [], 1, []),
  (80, .if_icmp .lt 25, [57], 0, []),
  (83, .lload 8, [8], 0, []),
  (85, .aload_n 0, [0], 0, []),
  (86, .getfield 135, [61, 2, 11], 0, [1254]),
  (89, .bipush 41, [], 41, []),
  (91, .iload 6, [6], 0, []),
  (93, .iconst 1, [], 1, []),
  (94, .isub, [], 0, []),
  (95, .imul, [], 0, []),
  (96, .iload 7, [7], 0, []),
  (98, .iadd, [], 0, []),
  (99, .iconst 1, [], 1, []),
  (100, .isub, [], 0, []),
  (101, .laload, [], 0, []),
  (102, .ladd, [], 0, []),
  (103, .lstore 8, [8], 0, []),
  (105, .iload 6, [6], 0, []),
  (107, .ifCond .le 31, [77], 0, []),
  (110, .iload 7, [7], 0, []),
  (112, .iconst 2, [], 2, []),
  (113, .if_icmp .lt 25, [77], 0, []),
  (116, .lload 8, [8], 0, []),
  (118, .aload_n 0, [0], 0, []),
  (119, .getfield 135, [61, 2, 11], 0, [1254]),
  (122, .bipush 41, [], 41, []),
  (124, .iload 6, [6], 0, []),
  (126, .iconst 1, [], 1, []),
  (127, .isub, [], 0, []),
  (128, .imul, [], 0, []),
  (129, .iload 7, [7], 0, []),
  (131, .iadd, [], 0, []),
  (132, .iconst 2, [], 2, []),
  (133, .isub, [], 0, []),
  (134, .laload, [], 0, []),
  (135, .ladd, [], 0, []),
  (136, .lstore 8, [8], 0, []),
  (138, .iload 6, [6], 0, []),
  (140, .ifCond .le 31, [97], 0, []),
  (143, .iload 7, [7], 0, []),
  (145, .iload_n 2, [2], 0, []),
  (146, .if_icmp .lt 25, [97], 0, []),
  (149, .lload 8, [8], 0, []),
  (151, .aload_n 0, [0], 0, []),
  (152, .getfield 135, [61, 2, 11], 0, [1254]),
  (155, .bipush 41, [], 41, []),
  (157, .iload 6, [6], 0, []),
  (159, .iconst 1, [], 1, []),
  (160, .isub, [], 0, []),
  (161, .imul, [], 0, []),
  (162, .iload 7, [7], 0, []),
  (164, .iadd, [], 0, []),
  (165, .iload_n 2, [2], 0, []),
  (166, .isub, [], 0, []),
  (167, .laload, [], 0, []),
  (168, .ladd, [], 0, []),
  (169, .lstore 8, [8], 0, []),
  (171, .aload_n 0, [0], 0, []),
  (172, .getfield 135, [61, 2, 11], 0, [1254]),
  (175, .bipush 41, [], 41, []),
  (177, .iload 6, [6], 0, []),
  (179, .imul, [], 0, []),
  (180, .iload 7, [7], 0, []),
  (182, .iadd, [], 0, []),
  (183, .lload 8, [8], 0, []),
  (185, .lastore, [], 0, []),
  (186, .iinc 7 1, [7], 1, []),
  (189, .goto (-140), [26], 0, []),
  (192, .iload_n 3, [3], 0, []),
  (193, .ifCond .eq 9, [113], 0, []),
  (196, .iload_n 3, [3], 0, []),
  (197, .iload 6, [6], 0, []),
  (199, .if_icmp .ne 20, [124], 0, []),
  (202, .lload 4, [4], 0, []),
  (204, .aload_n 0, [0], 0, []),
  (205, .getfield 135, [61, 2, 11], 0, [1254]),
  (208, .bipush 41, [], 41, []),
  (210, .iload 6, [6], 0, []),
  (212, .imul, [], 0, []),
  (213, .iload_n 1, [1], 0, []),
  (214, .iadd, [], 0, []),
  (215, .laload, [], 0, []),
  (216, .ladd, [], 0, []),
  (217, .lstore 4, [4], 0, []),
  (219, .iinc 6 1, [6], 1, []),
  (222, .goto (-183), [21], 0, []),
  (225, .lload 4, [4], 0, []),
  (227, .lreturn, [], 0, [])]
def cd_X12_heralds : List am_E := [
  (0, .iload_n 1, [1], 0, []),
  (1, .iconst 0, [], 0, []),
  (2, .bipush 10, [], 10, []),
  (4, .invokestatic 139, [0, 3, 138], 0, [1388]),
  (7, .ifCond .eq 13, [10], 0, []),
  (10, .iload_n 2, [2], 0, []),
  (11, .iconst 0, [], 0, []),
  (12, .bipush 10, [], 10, []),
  (14, .invokestatic 139, [0, 3, 138], 0, [1388]),
  (17, .ifCond .ne 5, [12], 0, []),
  (20, .iconst (-1), [], (-1), []),
  (21, .ireturn, [0], 0, []),
  (22, .iconst 1, [], 1, []),
  (23, .istore_n 3, [3], 0, []),
  (24, .iconst 1, [], 1, []),
  (25, .istore 4, [4], 0, []),
  (27, .iload 4, [4], 0, []),
  (29, .iload_n 2, [2], 0, []),
  (30, .if_icmp .gt 19, [29], 0, []),
  (33, .iload_n 3, [3], 0, []),
  (34, .iload_n 1, [1], 0, []),
  (35, .iload 4, [4], 0, []),
  (37, .iadd, [], 0, []),
  (38, .imul, [], 0, []),
  (39, .iload 4, [4], 0, []),
  (41, .idiv, [], 0, []),
  (42, .istore_n 3, [3], 0, []),
  (43, .iinc 4 1, [4], 1, []),
  (46, .goto (-19), [16], 0, []),
  (49, .iload_n 3, [3], 0, []),
  (50, .ireturn, [0], 0, [])]
def cd_X12_seed : List am_E := [
  (0, .iload_n 1, [1], 0, []),
  (1, .iconst 0, [], 0, []),
  (2, .ldc_w 418, [], 65535, [1750]),
  (5, .invokestatic 139, [0, 3, 138], 0, [1388]),
  (8, .ifCond .ne 5, [7], 0, []),
  (11, .iconst 0, [], 0, []),
  (12, .ireturn, [1], 0, []),
  (13, .aload_n 0, [0], 0, []),
  (14, .getfield 7, [0, 2, 11], 0, [1193]),
  (17, .bipush 13, [], 13, []),
  (19, .iload_n 1, [1], 0, []),
  (20, .iastore, [], 0, []),
  (21, .iconst 1, [], 1, []),
  (22, .ireturn, [1], 0, [])]
def cd_X12_keep : List am_E := [
  (0, .aload_n 0, [0], 0, []),
  (1, .iconst 1, [], 1, []),
  (2, .putfield 419, [62, 1, 11], 0, [1255]),
  (5, .aload_n 0, [0], 0, []),
  (6, .getfield 7, [0, 2, 11], 0, [1193]),
  (9, .aload_n 0, [0], 0, []),
  (10, .getfield 16, [2, 2, 11], 0, [1195]),
  (13, .invokestatic 275, [0, 2, 144], 0, [1494]),
  (16, .aload_n 0, [0], 0, []),
  (17, .getfield 7, [0, 2, 11], 0, [1193]),
  (20, .bipush 12, [], 12, []),
  (22, .iaload, [], 0, []),
  (23, .ireturn, [0], 0, [])]
def cd_X12_undo : List am_E := [
  (0, .aload_n 0, [0], 0, []),
  (1, .getfield 419, [62, 0, 11], 0, [1255]),
  (4, .ifCond .ne 5, [5], 0, []),
  (7, .iconst 0, [], 0, []),
  (8, .ireturn, [1], 0, []),
  (9, .aload_n 0, [0], 0, []),
  (10, .getfield 16, [2, 2, 11], 0, [1195]),
  (13, .aload_n 0, [0], 0, []),
  (14, .getfield 7, [0, 2, 11], 0, [1193]),
  (17, .invokestatic 275, [0, 2, 144], 0, [1494]),
  (20, .iconst 1, [], 1, []),
  (21, .ireturn, [1], 0, [])]
def cd_X12_check : List am_E := [
  (0, .aload_n 0, [0], 0, []),
  (1, .getfield 150, [6, 0, 11], 0, [1199]),
  (4, .iconst 4, [], 4, []),
  (5, .if_icmp .ge 6, [6], 0, []),
  (8, .bipush (-2), [], (-2), []),
  (10, .ireturn, [0], 0, []),
  (11, .aload_n 0, [0], 0, []),
  (12, .iconst 0, [], 0, []),
  (13, .putfield 150, [6, 0, 11], 0, [1199]),
  (16, .iconst 0, [], 0, []),
  (17, .istore_n 1, [1], 0, []),
  (18, .iload_n 1, [1], 0, []),
  (19, .iconst 4, [], 4, []),
  (20, .if_icmp .ge 31, [30], 0, []),
  (23, .aload_n 0, [0], 0, []),
  (24, .iload_n 1, [1], 0, []),
  (25, .invokevirtual 379, [1, 2, 11, 151], 0, [1657, 0, 0, 79]),
  (28, .aload_n 0, [0], 0, []),
  (29, .getfield 7, [0, 2, 11], 0, [1193]),
  (32, .iconst 2, [], 2, []),
  (33, .iload_n 1, [1], 0, []),
  (34, .iadd, [], 0, []),
  (35, .iaload, [], 0, []),
  (36, .sipush 256, [], 256, []),
  (39, .irem, [], 0, []),
  (40, .if_icmp .eq 5, [28], 0, []),
  (43, .iload_n 1, [1], 0, []),
  (44, .ireturn, [0], 0, []),
  (45, .iinc 1 1, [1], 1, []),
  (48, .goto (-30), [11], 0, []),
  (51, .iconst (-1), [], (-1), []),
  (52, .ireturn, [0], 0, [])]
def cd_X12_count : List am_E := [
  (0, .iload_n 1, [1], 0, []),
  (1, .tableswitch 119 0 9 #[55, 63, 76, 81, 86, 91, 96, 104, 109, 114], [40, 2, 7, 14, 17, 20, 23, 26, 31, 34, 37], 0, []),
  (56, .aload_n 0, [0], 0, []),
  (57, .getfield 7, [0, 2, 11], 0, [1193]),
  (60, .bipush 12, [], 12, []),
  (62, .iaload, [], 0, []),
  (63, .ireturn, [0], 0, []),
  (64, .aload_n 0, [0], 0, []),
  (65, .invokevirtual 300, [1, 1, 11, 145], 0, [1524, 0, 0, 59]),
  (68, .ifCond .eq 7, [12], 0, []),
  (71, .iconst 1, [], 1, []),
  (72, .goto 4, [13], 0, []),
  (75, .iconst 0, [], 0, []),
  (76, .ireturn, [0], 0, []),
  (77, .aload_n 0, [0], 0, []),
  (78, .invokevirtual 303, [1, 1, 11, 146], 0, [1539, 0, 0, 62]),
  (81, .ireturn, [0], 0, []),
  (82, .aload_n 0, [0], 0, []),
  (83, .getfield 346, [48, 0, 11], 0, [1241]),
  (86, .ireturn, [0], 0, []),
  (87, .aload_n 0, [0], 0, []),
  (88, .getfield 252, [15, 0, 11], 0, [1208]),
  (91, .ireturn, [0], 0, []),
  (92, .aload_n 0, [0], 0, []),
  (93, .getfield 150, [6, 0, 11], 0, [1199]),
  (96, .ireturn, [0], 0, []),
  (97, .aload_n 0, [0], 0, []),
  (98, .getfield 7, [0, 2, 11], 0, [1193]),
  (101, .bipush 13, [], 13, []),
  (103, .iaload, [], 0, []),
  (104, .ireturn, [0], 0, []),
  (105, .aload_n 0, [0], 0, []),
  (106, .getfield 143, [3, 0, 11], 0, [1196]),
  (109, .ireturn, [0], 0, []),
  (110, .aload_n 0, [0], 0, []),
  (111, .getfield 147, [4, 0, 11], 0, [1197]),
  (114, .ireturn, [0], 0, []),
  (115, .aload_n 0, [0], 0, []),
  (116, .invokevirtual 358, [1, 1, 11, 201], 0, [1634, 0, 0, 76]),
  (119, .ireturn, [0], 0, []),
  (120, .iconst (-1), [], (-1), []),
  (121, .ireturn, [0], 0, [])]
def cd_J6_numberOfTrailingZeros_0f7a4 : List am_E := [
  (0, .iload_n 0, [0], 0, []),
  (1, .iconst (-1), [], (-1), []),
  (2, .ixor, [], 0, []),
  (3, .iload_n 0, [0], 0, []),
  (4, .iconst 1, [], 1, []),
  (5, .isub, [], 0, []),
  (6, .iand, [], 0, []),
  (7, .istore_n 0, [0], 0, []),
  (8, .iload_n 0, [0], 0, []),
  (9, .ifCond .gt 8, [14], 0, []),
  (12, .iload_n 0, [0], 0, []),
  (13, .bipush 32, [], 32, []),
  (15, .iand, [], 0, []),
  (16, .ireturn, [0], 0, []),
  (17, .iconst 1, [], 1, []),
  (18, .istore_n 1, [1], 0, []),
  (19, .iload_n 0, [0], 0, []),
  (20, .ldc_w 264, [], 65536, [1102]),
  (23, .if_icmp .le 11, [24], 0, []),
  (26, .iinc 1 16, [1], 16, []),
  (29, .iload_n 0, [0], 0, []),
  (30, .bipush 16, [], 16, []),
  (32, .iushr, [], 0, []),
  (33, .istore_n 0, [0], 0, []),
  (34, .iload_n 0, [0], 0, []),
  (35, .sipush 256, [], 256, []),
  (38, .if_icmp .le 11, [32], 0, []),
  (41, .iinc 1 8, [1], 8, []),
  (44, .iload_n 0, [0], 0, []),
  (45, .bipush 8, [], 8, []),
  (47, .iushr, [], 0, []),
  (48, .istore_n 0, [0], 0, []),
  (49, .iload_n 0, [0], 0, []),
  (50, .bipush 16, [], 16, []),
  (52, .if_icmp .le 10, [40], 0, []),
  (55, .iinc 1 4, [1], 4, []),
  (58, .iload_n 0, [0], 0, []),
  (59, .iconst 4, [], 4, []),
  (60, .iushr, [], 0, []),
  (61, .istore_n 0, [0], 0, []),
  (62, .iload_n 0, [0], 0, []),
  (63, .iconst 4, [], 4, []),
  (64, .if_icmp .le 10, [48], 0, []),
  (67, .iinc 1 2, [1], 2, []),
  (70, .iload_n 0, [0], 0, []),
  (71, .iconst 2, [], 2, []),
  (72, .iushr, [], 0, []),
  (73, .istore_n 0, [0], 0, []),
  (74, .iload_n 1, [1], 0, []),
  (75, .iload_n 0, [0], 0, []),
  (76, .iconst 1, [], 1, []),
  (77, .iushr, [], 0, []),
  (78, .iadd, [], 0, []),
  (79, .ireturn, [0], 0, [])]
def cd_J7_fill_d0a16 : List am_E := [
  (0, .iconst 0, [], 0, []),
  (1, .istore_n 3, [3], 0, []),
  (2, .aload_n 0, [0], 0, []),
  (3, .arraylength, [], 0, []),
  (4, .istore 4, [4], 0, []),
  (6, .iload_n 3, [3], 0, []),
  (7, .iload 4, [4], 0, []),
  (9, .if_icmp .ge 13, [14], 0, []),
  (12, .aload_n 0, [0], 0, []),
  (13, .iload_n 3, [3], 0, []),
  (14, .lload_n 1, [1], 0, []),
  (15, .lastore, [], 0, []),
  (16, .iinc 3 1, [3], 1, []),
  (19, .goto (-13), [5], 0, []),
  (22, .return_, [], 0, [])]
def cd_J7_fill_53178 : List am_E := [
  (0, .iconst 0, [], 0, []),
  (1, .istore_n 2, [2], 0, []),
  (2, .aload_n 0, [0], 0, []),
  (3, .arraylength, [], 0, []),
  (4, .istore_n 3, [3], 0, []),
  (5, .iload_n 2, [2], 0, []),
  (6, .iload_n 3, [3], 0, []),
  (7, .if_icmp .ge 13, [14], 0, []),
  (10, .aload_n 0, [0], 0, []),
  (11, .iload_n 2, [2], 0, []),
  (12, .iload_n 1, [1], 0, []),
  (13, .iastore, [], 0, []),
  (14, .iinc 2 1, [2], 1, []),
  (17, .goto (-12), [5], 0, []),
  (20, .return_, [], 0, [])]
def cd_L : List am_E := [
  (0, .new 7, [10, 14], 0, [114, 115, 92]),
  (3, .dup, [], 0, []),
  (4, .invokespecial 9, [3, 1, 102, 61, 4005], 0, [116]),
  (7, .astore_n 1, [1], 0, []),
  (8, .new 10, [11, 63], 0, [1187, 1188, 104]),
  (11, .dup, [], 0, []),
  (12, .invokespecial 12, [3, 1, 137, 42, 62795], 0, [1189]),
  (15, .astore_n 2, [2], 0, []),
  (16, .iconst 0, [], 0, []),
  (17, .istore_n 3, [3], 0, []),
  (18, .iload_n 3, [3], 0, []),
  (19, .aload_n 0, [0], 0, []),
  (20, .arraylength, [], 0, []),
  (21, .bipush 6, [], 6, []),
  (23, .isub, [], 0, []),
  (24, .if_icmp .gt 1117, [803], 0, []),
  (27, .aload_n 0, [0], 0, []),
  (28, .iload_n 3, [3], 0, []),
  (29, .iaload, [], 0, []),
  (30, .bipush 31, [], 31, []),
  (32, .iand, [], 0, []),
  (33, .tableswitch 1102 0 29 #[135, 194, 227, 290, 313, 336, 359, 382, 415, 448, 481, 514, 537, 570, 593, 626, 659, 692, 735, 768, 821, 854, 907, 940, 984, 1017, 1040, 1053, 1066, 1079], [801, 22, 67, 94, 151, 168, 185, 202, 219, 246, 273, 300, 327, 344, 371, 388, 415, 442, 469, 506, 533, 580, 607, 654, 681, 719, 746, 763, 770, 777, 784], 0, []),
  (168, .aload_n 1, [1], 0, []),
  (169, .aload_n 0, [0], 0, []),
  (170, .iload_n 3, [3], 0, []),
  (171, .iconst 1, [], 1, []),
  (172, .iadd, [], 0, []),
  (173, .iaload, [], 0, []),
  (174, .aload_n 0, [0], 0, []),
  (175, .iload_n 3, [3], 0, []),
  (176, .iconst 2, [], 2, []),
  (177, .iadd, [], 0, []),
  (178, .iaload, [], 0, []),
  (179, .aload_n 0, [0], 0, []),
  (180, .iload_n 3, [3], 0, []),
  (181, .iconst 3, [], 3, []),
  (182, .iadd, [], 0, []),
  (183, .iaload, [], 0, []),
  (184, .ifCond .eq 7, [41], 0, []),
  (187, .iconst 1, [], 1, []),
  (188, .goto 4, [42], 0, []),
  (191, .iconst 0, [], 0, []),
  (192, .invokevirtual 13, [1, 4, 10, 103], 0, [486, 0, 0, 488]),
  (195, .aload_n 2, [2], 0, []),
  (196, .aload_n 0, [0], 0, []),
  (197, .iload_n 3, [3], 0, []),
  (198, .iconst 1, [], 1, []),
  (199, .iadd, [], 0, []),
  (200, .iaload, [], 0, []),
  (201, .aload_n 0, [0], 0, []),
  (202, .iload_n 3, [3], 0, []),
  (203, .iconst 2, [], 2, []),
  (204, .iadd, [], 0, []),
  (205, .iaload, [], 0, []),
  (206, .aload_n 0, [0], 0, []),
  (207, .iload_n 3, [3], 0, []),
  (208, .iconst 3, [], 3, []),
  (209, .iadd, [], 0, []),
  (210, .iaload, [], 0, []),
  (211, .ifCond .eq 7, [62], 0, []),
  (214, .iconst 1, [], 1, []),
  (215, .goto 4, [63], 0, []),
  (218, .iconst 0, [], 0, []),
  (219, .invokevirtual 17, [1, 4, 11, 147], 0, [1384, 0, 0, 1386]),
  (222, .if_icmp .eq 913, [801], 0, []),
  (225, .iconst 0, [], 0, []),
  (226, .ireturn, [1], 0, []),
  (227, .aload_n 1, [1], 0, []),
  (228, .aload_n 0, [0], 0, []),
  (229, .iload_n 3, [3], 0, []),
  (230, .iconst 1, [], 1, []),
  (231, .iadd, [], 0, []),
  (232, .iaload, [], 0, []),
  (233, .aload_n 0, [0], 0, []),
  (234, .iload_n 3, [3], 0, []),
  (235, .iconst 2, [], 2, []),
  (236, .iadd, [], 0, []),
  (237, .iaload, [], 0, []),
  (238, .invokevirtual 18, [1, 3, 10, 104], 0, [501, 0, 0, 503]),
  (241, .aload_n 2, [2], 0, []),
  (242, .aload_n 0, [0], 0, []),
  (243, .iload_n 3, [3], 0, []),
  (244, .iconst 1, [], 1, []),
  (245, .iadd, [], 0, []),
  (246, .iaload, [], 0, []),
  (247, .aload_n 0, [0], 0, []),
  (248, .iload_n 3, [3], 0, []),
  (249, .iconst 2, [], 2, []),
  (250, .iadd, [], 0, []),
  (251, .iaload, [], 0, []),
  (252, .invokevirtual 22, [1, 3, 11, 148], 0, [1391, 0, 0, 1393]),
  (255, .if_icmp .eq 880, [801], 0, []),
  (258, .iconst 0, [], 0, []),
  (259, .ireturn, [1], 0, []),
  (260, .aload_n 1, [1], 0, []),
  (261, .aload_n 0, [0], 0, []),
  (262, .iload_n 3, [3], 0, []),
  (263, .iconst 1, [], 1, []),
  (264, .iadd, [], 0, []),
  (265, .iaload, [], 0, []),
  (266, .aload_n 0, [0], 0, []),
  (267, .iload_n 3, [3], 0, []),
  (268, .iconst 2, [], 2, []),
  (269, .iadd, [], 0, []),
  (270, .iaload, [], 0, []),
  (271, .aload_n 0, [0], 0, []),
  (272, .iload_n 3, [3], 0, []),
  (273, .iconst 3, [], 3, []),
  (274, .iadd, [], 0, []),
  (275, .iaload, [], 0, []),
  (276, .aload_n 0, [0], 0, []),
  (277, .iload_n 3, [3], 0, []),
  (278, .iconst 4, [], 4, []),
  (279, .iadd, [], 0, []),
  (280, .iaload, [], 0, []),
  (281, .aload_n 0, [0], 0, []),
  (282, .iload_n 3, [3], 0, []),
  (283, .iconst 5, [], 5, []),
  (284, .iadd, [], 0, []),
  (285, .iaload, [], 0, []),
  (286, .invokevirtual 23, [1, 6, 10, 105], 0, [505, 0, 0, 507]),
  (289, .aload_n 2, [2], 0, []),
  (290, .aload_n 0, [0], 0, []),
  (291, .iload_n 3, [3], 0, []),
  (292, .iconst 1, [], 1, []),
  (293, .iadd, [], 0, []),
  (294, .iaload, [], 0, []),
  (295, .aload_n 0, [0], 0, []),
  (296, .iload_n 3, [3], 0, []),
  (297, .iconst 2, [], 2, []),
  (298, .iadd, [], 0, []),
  (299, .iaload, [], 0, []),
  (300, .aload_n 0, [0], 0, []),
  (301, .iload_n 3, [3], 0, []),
  (302, .iconst 3, [], 3, []),
  (303, .iadd, [], 0, []),
  (304, .iaload, [], 0, []),
  (305, .aload_n 0, [0], 0, []),
  (306, .iload_n 3, [3], 0, []),
  (307, .iconst 4, [], 4, []),
  (308, .iadd, [], 0, []),
  (309, .iaload, [], 0, []),
  (310, .aload_n 0, [0], 0, []),
  (311, .iload_n 3, [3], 0, []),
  (312, .iconst 5, [], 5, []),
  (313, .iadd, [], 0, []),
  (314, .iaload, [], 0, []),
  (315, .invokevirtual 27, [1, 6, 11, 150], 0, [1395, 0, 0, 1397]),
  (318, .if_icmp .eq 817, [801], 0, []),
  (321, .iconst 0, [], 0, []),
  (322, .ireturn, [1], 0, []),
  (323, .aload_n 1, [1], 0, []),
  (324, .aload_n 0, [0], 0, []),
  (325, .iload_n 3, [3], 0, []),
  (326, .iconst 1, [], 1, []),
  (327, .iadd, [], 0, []),
  (328, .iaload, [], 0, []),
  (329, .invokevirtual 28, [1, 2, 10, 106], 0, [513, 0, 0, 515]),
  (332, .aload_n 2, [2], 0, []),
  (333, .aload_n 0, [0], 0, []),
  (334, .iload_n 3, [3], 0, []),
  (335, .iconst 1, [], 1, []),
  (336, .iadd, [], 0, []),
  (337, .iaload, [], 0, []),
  (338, .invokevirtual 32, [1, 2, 11, 173], 0, [1403, 0, 0, 1405]),
  (341, .if_icmp .eq 794, [801], 0, []),
  (344, .iconst 0, [], 0, []),
  (345, .ireturn, [1], 0, []),
  (346, .aload_n 1, [1], 0, []),
  (347, .aload_n 0, [0], 0, []),
  (348, .iload_n 3, [3], 0, []),
  (349, .iconst 1, [], 1, []),
  (350, .iadd, [], 0, []),
  (351, .iaload, [], 0, []),
  (352, .invokevirtual 33, [1, 2, 10, 107], 0, [787, 0, 0, 789]),
  (355, .aload_n 2, [2], 0, []),
  (356, .aload_n 0, [0], 0, []),
  (357, .iload_n 3, [3], 0, []),
  (358, .iconst 1, [], 1, []),
  (359, .iadd, [], 0, []),
  (360, .iaload, [], 0, []),
  (361, .invokevirtual 36, [1, 2, 11, 182], 0, [1490, 0, 0, 1492]),
  (364, .if_icmp .eq 771, [801], 0, []),
  (367, .iconst 0, [], 0, []),
  (368, .ireturn, [1], 0, []),
  (369, .aload_n 1, [1], 0, []),
  (370, .aload_n 0, [0], 0, []),
  (371, .iload_n 3, [3], 0, []),
  (372, .iconst 1, [], 1, []),
  (373, .iadd, [], 0, []),
  (374, .iaload, [], 0, []),
  (375, .invokevirtual 37, [1, 2, 10, 108], 0, [811, 0, 0, 813]),
  (378, .aload_n 2, [2], 0, []),
  (379, .aload_n 0, [0], 0, []),
  (380, .iload_n 3, [3], 0, []),
  (381, .iconst 1, [], 1, []),
  (382, .iadd, [], 0, []),
  (383, .iaload, [], 0, []),
  (384, .invokevirtual 40, [1, 2, 11, 200], 0, [1610, 0, 0, 1612]),
  (387, .if_icmp .eq 748, [801], 0, []),
  (390, .iconst 0, [], 0, []),
  (391, .ireturn, [1], 0, []),
  (392, .aload_n 1, [1], 0, []),
  (393, .aload_n 0, [0], 0, []),
  (394, .iload_n 3, [3], 0, []),
  (395, .iconst 1, [], 1, []),
  (396, .iadd, [], 0, []),
  (397, .iaload, [], 0, []),
  (398, .invokevirtual 41, [1, 2, 10, 109], 0, [851, 0, 0, 853]),
  (401, .aload_n 2, [2], 0, []),
  (402, .aload_n 0, [0], 0, []),
  (403, .iload_n 3, [3], 0, []),
  (404, .iconst 1, [], 1, []),
  (405, .iadd, [], 0, []),
  (406, .iaload, [], 0, []),
  (407, .invokevirtual 44, [1, 2, 11, 192], 0, [1512, 0, 0, 1514]),
  (410, .if_icmp .eq 725, [801], 0, []),
  (413, .iconst 0, [], 0, []),
  (414, .ireturn, [1], 0, []),
  (415, .aload_n 1, [1], 0, []),
  (416, .aload_n 0, [0], 0, []),
  (417, .iload_n 3, [3], 0, []),
  (418, .iconst 1, [], 1, []),
  (419, .iadd, [], 0, []),
  (420, .iaload, [], 0, []),
  (421, .aload_n 0, [0], 0, []),
  (422, .iload_n 3, [3], 0, []),
  (423, .iconst 2, [], 2, []),
  (424, .iadd, [], 0, []),
  (425, .iaload, [], 0, []),
  (426, .invokevirtual 45, [1, 3, 10, 110], 0, [926, 0, 0, 928]),
  (429, .aload_n 2, [2], 0, []),
  (430, .aload_n 0, [0], 0, []),
  (431, .iload_n 3, [3], 0, []),
  (432, .iconst 1, [], 1, []),
  (433, .iadd, [], 0, []),
  (434, .iaload, [], 0, []),
  (435, .aload_n 0, [0], 0, []),
  (436, .iload_n 3, [3], 0, []),
  (437, .iconst 2, [], 2, []),
  (438, .iadd, [], 0, []),
  (439, .iaload, [], 0, []),
  (440, .invokevirtual 49, [1, 3, 11, 193], 0, [1586, 0, 0, 1588]),
  (443, .if_icmp .eq 692, [801], 0, []),
  (446, .iconst 0, [], 0, []),
  (447, .ireturn, [1], 0, []),
  (448, .aload_n 1, [1], 0, []),
  (449, .aload_n 0, [0], 0, []),
  (450, .iload_n 3, [3], 0, []),
  (451, .iconst 1, [], 1, []),
  (452, .iadd, [], 0, []),
  (453, .iaload, [], 0, []),
  (454, .aload_n 0, [0], 0, []),
  (455, .iload_n 3, [3], 0, []),
  (456, .iconst 2, [], 2, []),
  (457, .iadd, [], 0, []),
  (458, .iaload, [], 0, []),
  (459, .invokevirtual 50, [1, 3, 10, 111], 0, [943, 0, 0, 945]),
  (462, .aload_n 2, [2], 0, []),
  (463, .aload_n 0, [0], 0, []),
  (464, .iload_n 3, [3], 0, []),
  (465, .iconst 1, [], 1, []),
  (466, .iadd, [], 0, []),
  (467, .iaload, [], 0, []),
  (468, .aload_n 0, [0], 0, []),
  (469, .iload_n 3, [3], 0, []),
  (470, .iconst 2, [], 2, []),
  (471, .iadd, [], 0, []),
  (472, .iaload, [], 0, []),
  (473, .invokevirtual 53, [1, 3, 11, 194], 0, [1590, 0, 0, 1592]),
  (476, .if_icmp .eq 659, [801], 0, []),
  (479, .iconst 0, [], 0, []),
  (480, .ireturn, [1], 0, []),
  (481, .aload_n 1, [1], 0, []),
  (482, .aload_n 0, [0], 0, []),
  (483, .iload_n 3, [3], 0, []),
  (484, .iconst 1, [], 1, []),
  (485, .iadd, [], 0, []),
  (486, .iaload, [], 0, []),
  (487, .aload_n 0, [0], 0, []),
  (488, .iload_n 3, [3], 0, []),
  (489, .iconst 2, [], 2, []),
  (490, .iadd, [], 0, []),
  (491, .iaload, [], 0, []),
  (492, .invokevirtual 54, [1, 3, 10, 112], 0, [947, 0, 0, 949]),
  (495, .aload_n 2, [2], 0, []),
  (496, .aload_n 0, [0], 0, []),
  (497, .iload_n 3, [3], 0, []),
  (498, .iconst 1, [], 1, []),
  (499, .iadd, [], 0, []),
  (500, .iaload, [], 0, []),
  (501, .aload_n 0, [0], 0, []),
  (502, .iload_n 3, [3], 0, []),
  (503, .iconst 2, [], 2, []),
  (504, .iadd, [], 0, []),
  (505, .iaload, [], 0, []),
  (506, .invokevirtual 57, [1, 3, 11, 195], 0, [1594, 0, 0, 1596]),
  (509, .if_icmp .eq 626, [801], 0, []),
  (512, .iconst 0, [], 0, []),
  (513, .ireturn, [1], 0, []),
  (514, .aload_n 1, [1], 0, []),
  (515, .aload_n 0, [0], 0, []),
  (516, .iload_n 3, [3], 0, []),
  (517, .iconst 1, [], 1, []),
  (518, .iadd, [], 0, []),
  (519, .iaload, [], 0, []),
  (520, .aload_n 0, [0], 0, []),
  (521, .iload_n 3, [3], 0, []),
  (522, .iconst 2, [], 2, []),
  (523, .iadd, [], 0, []),
  (524, .iaload, [], 0, []),
  (525, .invokevirtual 58, [1, 3, 10, 113], 0, [955, 0, 0, 957]),
  (528, .aload_n 2, [2], 0, []),
  (529, .aload_n 0, [0], 0, []),
  (530, .iload_n 3, [3], 0, []),
  (531, .iconst 1, [], 1, []),
  (532, .iadd, [], 0, []),
  (533, .iaload, [], 0, []),
  (534, .aload_n 0, [0], 0, []),
  (535, .iload_n 3, [3], 0, []),
  (536, .iconst 2, [], 2, []),
  (537, .iadd, [], 0, []),
  (538, .iaload, [], 0, []),
  (539, .invokevirtual 61, [1, 3, 11, 196], 0, [1598, 0, 0, 1600]),
  (542, .if_icmp .eq 593, [801], 0, []),
  (545, .iconst 0, [], 0, []),
  (546, .ireturn, [1], 0, []),
  (547, .aload_n 1, [1], 0, []),
  (548, .aload_n 0, [0], 0, []),
  (549, .iload_n 3, [3], 0, []),
  (550, .iconst 1, [], 1, []),
  (551, .iadd, [], 0, []),
  (552, .iaload, [], 0, []),
  (553, .invokevirtual 62, [1, 2, 10, 114], 0, [959, 0, 0, 961]),
  (556, .aload_n 2, [2], 0, []),
  (557, .aload_n 0, [0], 0, []),
  (558, .iload_n 3, [3], 0, []),
  (559, .iconst 1, [], 1, []),
  (560, .iadd, [], 0, []),
  (561, .iaload, [], 0, []),
  (562, .invokevirtual 65, [1, 2, 11, 197], 0, [1602, 0, 0, 1604]),
  (565, .if_icmp .eq 570, [801], 0, []),
  (568, .iconst 0, [], 0, []),
  (569, .ireturn, [1], 0, []),
  (570, .aload_n 1, [1], 0, []),
  (571, .aload_n 0, [0], 0, []),
  (572, .iload_n 3, [3], 0, []),
  (573, .iconst 1, [], 1, []),
  (574, .iadd, [], 0, []),
  (575, .iaload, [], 0, []),
  (576, .aload_n 0, [0], 0, []),
  (577, .iload_n 3, [3], 0, []),
  (578, .iconst 2, [], 2, []),
  (579, .iadd, [], 0, []),
  (580, .iaload, [], 0, []),
  (581, .invokevirtual 66, [1, 3, 10, 115], 0, [971, 0, 0, 973]),
  (584, .aload_n 2, [2], 0, []),
  (585, .aload_n 0, [0], 0, []),
  (586, .iload_n 3, [3], 0, []),
  (587, .iconst 1, [], 1, []),
  (588, .iadd, [], 0, []),
  (589, .iaload, [], 0, []),
  (590, .aload_n 0, [0], 0, []),
  (591, .iload_n 3, [3], 0, []),
  (592, .iconst 2, [], 2, []),
  (593, .iadd, [], 0, []),
  (594, .iaload, [], 0, []),
  (595, .invokevirtual 69, [1, 3, 11, 198], 0, [1606, 0, 0, 1608]),
  (598, .if_icmp .eq 537, [801], 0, []),
  (601, .iconst 0, [], 0, []),
  (602, .ireturn, [1], 0, []),
  (603, .aload_n 1, [1], 0, []),
  (604, .aload_n 0, [0], 0, []),
  (605, .iload_n 3, [3], 0, []),
  (606, .iconst 1, [], 1, []),
  (607, .iadd, [], 0, []),
  (608, .iaload, [], 0, []),
  (609, .invokevirtual 70, [1, 2, 10, 116], 0, [980, 0, 0, 982]),
  (612, .aload_n 2, [2], 0, []),
  (613, .aload_n 0, [0], 0, []),
  (614, .iload_n 3, [3], 0, []),
  (615, .iconst 1, [], 1, []),
  (616, .iadd, [], 0, []),
  (617, .iaload, [], 0, []),
  (618, .invokevirtual 73, [1, 2, 11, 205], 0, [1618, 0, 0, 1620]),
  (621, .if_icmp .eq 514, [801], 0, []),
  (624, .iconst 0, [], 0, []),
  (625, .ireturn, [1], 0, []),
  (626, .aload_n 1, [1], 0, []),
  (627, .aload_n 0, [0], 0, []),
  (628, .iload_n 3, [3], 0, []),
  (629, .iconst 1, [], 1, []),
  (630, .iadd, [], 0, []),
  (631, .iaload, [], 0, []),
  (632, .aload_n 0, [0], 0, []),
  (633, .iload_n 3, [3], 0, []),
  (634, .iconst 2, [], 2, []),
  (635, .iadd, [], 0, []),
  (636, .iaload, [], 0, []),
  (637, .invokevirtual 74, [1, 3, 10, 117], 0, [997, 0, 0, 999]),
  (640, .aload_n 2, [2], 0, []),
  (641, .aload_n 0, [0], 0, []),
  (642, .iload_n 3, [3], 0, []),
  (643, .iconst 1, [], 1, []),
  (644, .iadd, [], 0, []),
  (645, .iaload, [], 0, []),
  (646, .aload_n 0, [0], 0, []),
  (647, .iload_n 3, [3], 0, []),
  (648, .iconst 2, [], 2, []),
  (649, .iadd, [], 0, []),
  (650, .iaload, [], 0, []),
  (651, .invokevirtual 77, [1, 3, 11, 208], 0, [1641, 0, 0, 1643]),
  (654, .if_icmp .eq 481, [801], 0, []),
  (657, .iconst 0, [], 0, []),
  (658, .ireturn, [1], 0, []),
  (659, .aload_n 1, [1], 0, []),
  (660, .aload_n 0, [0], 0, []),
  (661, .iload_n 3, [3], 0, []),
  (662, .iconst 1, [], 1, []),
  (663, .iadd, [], 0, []),
  (664, .iaload, [], 0, []),
  (665, .aload_n 0, [0], 0, []),
  (666, .iload_n 3, [3], 0, []),
  (667, .iconst 2, [], 2, []),
  (668, .iadd, [], 0, []),
  (669, .iaload, [], 0, []),
  (670, .invokevirtual 78, [1, 3, 10, 118], 0, [1009, 0, 0, 1011]),
  (673, .aload_n 2, [2], 0, []),
  (674, .aload_n 0, [0], 0, []),
  (675, .iload_n 3, [3], 0, []),
  (676, .iconst 1, [], 1, []),
  (677, .iadd, [], 0, []),
  (678, .iaload, [], 0, []),
  (679, .aload_n 0, [0], 0, []),
  (680, .iload_n 3, [3], 0, []),
  (681, .iconst 2, [], 2, []),
  (682, .iadd, [], 0, []),
  (683, .iaload, [], 0, []),
  (684, .invokevirtual 81, [1, 3, 11, 213], 0, [1653, 0, 0, 1655]),
  (687, .if_icmp .eq 448, [801], 0, []),
  (690, .iconst 0, [], 0, []),
  (691, .ireturn, [1], 0, []),
  (692, .aload_n 1, [1], 0, []),
  (693, .aload_n 0, [0], 0, []),
  (694, .iload_n 3, [3], 0, []),
  (695, .iconst 1, [], 1, []),
  (696, .iadd, [], 0, []),
  (697, .iaload, [], 0, []),
  (698, .aload_n 0, [0], 0, []),
  (699, .iload_n 3, [3], 0, []),
  (700, .iconst 2, [], 2, []),
  (701, .iadd, [], 0, []),
  (702, .iaload, [], 0, []),
  (703, .invokevirtual 82, [1, 3, 10, 119], 0, [1054, 0, 0, 1056]),
  (706, .aload_n 2, [2], 0, []),
  (707, .aload_n 0, [0], 0, []),
  (708, .iload_n 3, [3], 0, []),
  (709, .iconst 1, [], 1, []),
  (710, .iadd, [], 0, []),
  (711, .iaload, [], 0, []),
  (712, .aload_n 0, [0], 0, []),
  (713, .iload_n 3, [3], 0, []),
  (714, .iconst 2, [], 2, []),
  (715, .iadd, [], 0, []),
  (716, .iaload, [], 0, []),
  (717, .invokevirtual 85, [1, 3, 11, 214], 0, [1677, 0, 0, 1679]),
  (720, .if_icmp .eq 415, [801], 0, []),
  (723, .iconst 0, [], 0, []),
  (724, .ireturn, [1], 0, []),
  (725, .aload_n 1, [1], 0, []),
  (726, .aload_n 0, [0], 0, []),
  (727, .iload_n 3, [3], 0, []),
  (728, .iconst 1, [], 1, []),
  (729, .iadd, [], 0, []),
  (730, .iaload, [], 0, []),
  (731, .aload_n 0, [0], 0, []),
  (732, .iload_n 3, [3], 0, []),
  (733, .iconst 2, [], 2, []),
  (734, .iadd, [], 0, []),
  (735, .iaload, [], 0, []),
  (736, .aload_n 0, [0], 0, []),
  (737, .iload_n 3, [3], 0, []),
  (738, .iconst 3, [], 3, []),
  (739, .iadd, [], 0, []),
  (740, .iaload, [], 0, []),
  (741, .invokevirtual 86, [1, 4, 10, 120], 0, [1064, 0, 0, 1066]),
  (744, .aload_n 2, [2], 0, []),
  (745, .aload_n 0, [0], 0, []),
  (746, .iload_n 3, [3], 0, []),
  (747, .iconst 1, [], 1, []),
  (748, .iadd, [], 0, []),
  (749, .iaload, [], 0, []),
  (750, .aload_n 0, [0], 0, []),
  (751, .iload_n 3, [3], 0, []),
  (752, .iconst 2, [], 2, []),
  (753, .iadd, [], 0, []),
  (754, .iaload, [], 0, []),
  (755, .aload_n 0, [0], 0, []),
  (756, .iload_n 3, [3], 0, []),
  (757, .iconst 3, [], 3, []),
  (758, .iadd, [], 0, []),
  (759, .iaload, [], 0, []),
  (760, .invokevirtual 90, [1, 4, 11, 215], 0, [1681, 0, 0, 1683]),
  (763, .if_icmp .eq 372, [801], 0, []),
  (766, .iconst 0, [], 0, []),
  (767, .ireturn, [1], 0, []),
  (768, .aload_n 1, [1], 0, []),
  (769, .aload_n 0, [0], 0, []),
  (770, .iload_n 3, [3], 0, []),
  (771, .iconst 1, [], 1, []),
  (772, .iadd, [], 0, []),
  (773, .iaload, [], 0, []),
  (774, .aload_n 0, [0], 0, []),
  (775, .iload_n 3, [3], 0, []),
  (776, .iconst 2, [], 2, []),
  (777, .iadd, [], 0, []),
  (778, .iaload, [], 0, []),
  (779, .invokevirtual 91, [1, 3, 10, 121], 0, [1078, 0, 0, 1080]),
  (782, .aload_n 2, [2], 0, []),
  (783, .aload_n 0, [0], 0, []),
  (784, .iload_n 3, [3], 0, []),
  (785, .iconst 1, [], 1, []),
  (786, .iadd, [], 0, []),
  (787, .iaload, [], 0, []),
  (788, .aload_n 0, [0], 0, []),
  (789, .iload_n 3, [3], 0, []),
  (790, .iconst 2, [], 2, []),
  (791, .iadd, [], 0, []),
  (792, .iaload, [], 0, []),
  (793, .invokevirtual 94, [1, 3, 11, 218], 0, [1686, 0, 0, 1688]),
  (796, .if_icmp .eq 339, [801], 0, []),
  (799, .iconst 0, [], 0, []),
  (800, .ireturn, [1], 0, []),
  (801, .aload_n 1, [1], 0, []),
  (802, .aload_n 0, [0], 0, []),
  (803, .iload_n 3, [3], 0, []),
  (804, .iconst 1, [], 1, []),
  (805, .iadd, [], 0, []),
  (806, .iaload, [], 0, []),
  (807, .aload_n 0, [0], 0, []),
  (808, .iload_n 3, [3], 0, []),
  (809, .iconst 2, [], 2, []),
  (810, .iadd, [], 0, []),
  (811, .iaload, [], 0, []),
  (812, .aload_n 0, [0], 0, []),
  (813, .iload_n 3, [3], 0, []),
  (814, .iconst 3, [], 3, []),
  (815, .iadd, [], 0, []),
  (816, .iaload, [], 0, []),
  (817, .aload_n 0, [0], 0, []),
  (818, .iload_n 3, [3], 0, []),
  (819, .iconst 4, [], 4, []),
  (820, .iadd, [], 0, []),
  (821, .iaload, [], 0, []),
  (822, .invokevirtual 95, [1, 5, 10, 122], 0, [1091, 0, 0, 1093]),
  (825, .aload_n 2, [2], 0, []),
  (826, .aload_n 0, [0], 0, []),
  (827, .iload_n 3, [3], 0, []),
  (828, .iconst 1, [], 1, []),
  (829, .iadd, [], 0, []),
  (830, .iaload, [], 0, []),
  (831, .aload_n 0, [0], 0, []),
  (832, .iload_n 3, [3], 0, []),
  (833, .iconst 2, [], 2, []),
  (834, .iadd, [], 0, []),
  (835, .iaload, [], 0, []),
  (836, .aload_n 0, [0], 0, []),
  (837, .iload_n 3, [3], 0, []),
  (838, .iconst 3, [], 3, []),
  (839, .iadd, [], 0, []),
  (840, .iaload, [], 0, []),
  (841, .aload_n 0, [0], 0, []),
  (842, .iload_n 3, [3], 0, []),
  (843, .iconst 4, [], 4, []),
  (844, .iadd, [], 0, []),
  (845, .iaload, [], 0, []),
  (846, .invokevirtual 99, [1, 5, 11, 220], 0, [1701, 0, 0, 1703]),
  (849, .if_icmp .eq 286, [801], 0, []),
  (852, .iconst 0, [], 0, []),
  (853, .ireturn, [1], 0, []),
  (854, .aload_n 1, [1], 0, []),
  (855, .aload_n 0, [0], 0, []),
  (856, .iload_n 3, [3], 0, []),
  (857, .iconst 1, [], 1, []),
  (858, .iadd, [], 0, []),
  (859, .iaload, [], 0, []),
  (860, .aload_n 0, [0], 0, []),
  (861, .iload_n 3, [3], 0, []),
  (862, .iconst 2, [], 2, []),
  (863, .iadd, [], 0, []),
  (864, .iaload, [], 0, []),
  (865, .invokevirtual 100, [1, 3, 10, 123], 0, [1107, 0, 0, 1109]),
  (868, .aload_n 2, [2], 0, []),
  (869, .aload_n 0, [0], 0, []),
  (870, .iload_n 3, [3], 0, []),
  (871, .iconst 1, [], 1, []),
  (872, .iadd, [], 0, []),
  (873, .iaload, [], 0, []),
  (874, .aload_n 0, [0], 0, []),
  (875, .iload_n 3, [3], 0, []),
  (876, .iconst 2, [], 2, []),
  (877, .iadd, [], 0, []),
  (878, .iaload, [], 0, []),
  (879, .invokevirtual 103, [1, 3, 11, 225], 0, [1709, 0, 0, 1711]),
  (882, .if_icmp .eq 253, [801], 0, []),
  (885, .iconst 0, [], 0, []),
  (886, .ireturn, [1], 0, []),
  (887, .aload_n 1, [1], 0, []),
  (888, .aload_n 0, [0], 0, []),
  (889, .iload_n 3, [3], 0, []),
  (890, .iconst 1, [], 1, []),
  (891, .iadd, [], 0, []),
  (892, .iaload, [], 0, []),
  (893, .aload_n 0, [0], 0, []),
  (894, .iload_n 3, [3], 0, []),
  (895, .iconst 2, [], 2, []),
  (896, .iadd, [], 0, []),
  (897, .iaload, [], 0, []),
  (898, .aload_n 0, [0], 0, []),
  (899, .iload_n 3, [3], 0, []),
  (900, .iconst 3, [], 3, []),
  (901, .iadd, [], 0, []),
  (902, .iaload, [], 0, []),
  (903, .aload_n 0, [0], 0, []),
  (904, .iload_n 3, [3], 0, []),
  (905, .iconst 4, [], 4, []),
  (906, .iadd, [], 0, []),
  (907, .iaload, [], 0, []),
  (908, .invokevirtual 104, [1, 5, 10, 124], 0, [1132, 0, 0, 1134]),
  (911, .aload_n 2, [2], 0, []),
  (912, .aload_n 0, [0], 0, []),
  (913, .iload_n 3, [3], 0, []),
  (914, .iconst 1, [], 1, []),
  (915, .iadd, [], 0, []),
  (916, .iaload, [], 0, []),
  (917, .aload_n 0, [0], 0, []),
  (918, .iload_n 3, [3], 0, []),
  (919, .iconst 2, [], 2, []),
  (920, .iadd, [], 0, []),
  (921, .iaload, [], 0, []),
  (922, .aload_n 0, [0], 0, []),
  (923, .iload_n 3, [3], 0, []),
  (924, .iconst 3, [], 3, []),
  (925, .iadd, [], 0, []),
  (926, .iaload, [], 0, []),
  (927, .aload_n 0, [0], 0, []),
  (928, .iload_n 3, [3], 0, []),
  (929, .iconst 4, [], 4, []),
  (930, .iadd, [], 0, []),
  (931, .iaload, [], 0, []),
  (932, .invokevirtual 107, [1, 5, 11, 226], 0, [1729, 0, 0, 1731]),
  (935, .if_icmp .eq 200, [801], 0, []),
  (938, .iconst 0, [], 0, []),
  (939, .ireturn, [1], 0, []),
  (940, .aload_n 1, [1], 0, []),
  (941, .aload_n 0, [0], 0, []),
  (942, .iload_n 3, [3], 0, []),
  (943, .iconst 1, [], 1, []),
  (944, .iadd, [], 0, []),
  (945, .iaload, [], 0, []),
  (946, .aload_n 0, [0], 0, []),
  (947, .iload_n 3, [3], 0, []),
  (948, .iconst 2, [], 2, []),
  (949, .iadd, [], 0, []),
  (950, .iaload, [], 0, []),
  (951, .invokevirtual 108, [1, 3, 10, 125], 0, [1136, 0, 0, 1138]),
  (954, .aload_n 2, [2], 0, []),
  (955, .aload_n 0, [0], 0, []),
  (956, .iload_n 3, [3], 0, []),
  (957, .iconst 1, [], 1, []),
  (958, .iadd, [], 0, []),
  (959, .iaload, [], 0, []),
  (960, .aload_n 0, [0], 0, []),
  (961, .iload_n 3, [3], 0, []),
  (962, .iconst 2, [], 2, []),
  (963, .iadd, [], 0, []),
  (964, .iaload, [], 0, []),
  (965, .invokevirtual 111, [1, 3, 11, 227], 0, [1733, 0, 0, 1735]),
  (968, .if_icmp .eq 167, [801], 0, []),
  (971, .iconst 0, [], 0, []),
  (972, .ireturn, [1], 0, []),
  (973, .aload_n 1, [1], 0, []),
  (974, .aload_n 0, [0], 0, []),
  (975, .iload_n 3, [3], 0, []),
  (976, .iconst 1, [], 1, []),
  (977, .iadd, [], 0, []),
  (978, .iaload, [], 0, []),
  (979, .aload_n 0, [0], 0, []),
  (980, .iload_n 3, [3], 0, []),
  (981, .iconst 2, [], 2, []),
  (982, .iadd, [], 0, []),
  (983, .iaload, [], 0, []),
  (984, .aload_n 0, [0], 0, []),
  (985, .iload_n 3, [3], 0, []),
  (986, .iconst 3, [], 3, []),
  (987, .iadd, [], 0, []),
  (988, .iaload, [], 0, []),
  (989, .invokevirtual 112, [1, 4, 10, 126], 0, [1145, 0, 0, 1147]),
  (992, .aload_n 2, [2], 0, []),
  (993, .aload_n 0, [0], 0, []),
  (994, .iload_n 3, [3], 0, []),
  (995, .iconst 1, [], 1, []),
  (996, .iadd, [], 0, []),
  (997, .iaload, [], 0, []),
  (998, .aload_n 0, [0], 0, []),
  (999, .iload_n 3, [3], 0, []),
  (1000, .iconst 2, [], 2, []),
  (1001, .iadd, [], 0, []),
  (1002, .iaload, [], 0, []),
  (1003, .aload_n 0, [0], 0, []),
  (1004, .iload_n 3, [3], 0, []),
  (1005, .iconst 3, [], 3, []),
  (1006, .iadd, [], 0, []),
  (1007, .iaload, [], 0, []),
  (1008, .invokevirtual 116, [1, 4, 11, 228], 0, [1737, 0, 0, 1739]),
  (1011, .lcmp, [], 0, []),
  (1012, .ifCond .eq 123, [801], 0, []),
  (1015, .iconst 0, [], 0, []),
  (1016, .ireturn, [1], 0, []),
  (1017, .aload_n 1, [1], 0, []),
  (1018, .aload_n 0, [0], 0, []),
  (1019, .iload_n 3, [3], 0, []),
  (1020, .iconst 1, [], 1, []),
  (1021, .iadd, [], 0, []),
  (1022, .iaload, [], 0, []),
  (1023, .aload_n 0, [0], 0, []),
  (1024, .iload_n 3, [3], 0, []),
  (1025, .iconst 2, [], 2, []),
  (1026, .iadd, [], 0, []),
  (1027, .iaload, [], 0, []),
  (1028, .invokevirtual 117, [1, 3, 10, 127], 0, [1161, 0, 0, 1163]),
  (1031, .aload_n 2, [2], 0, []),
  (1032, .aload_n 0, [0], 0, []),
  (1033, .iload_n 3, [3], 0, []),
  (1034, .iconst 1, [], 1, []),
  (1035, .iadd, [], 0, []),
  (1036, .iaload, [], 0, []),
  (1037, .aload_n 0, [0], 0, []),
  (1038, .iload_n 3, [3], 0, []),
  (1039, .iconst 2, [], 2, []),
  (1040, .iadd, [], 0, []),
  (1041, .iaload, [], 0, []),
  (1042, .invokevirtual 120, [1, 3, 11, 229], 0, [1742, 0, 0, 1744]),
  (1045, .if_icmp .eq 90, [801], 0, []),
  (1048, .iconst 0, [], 0, []),
  (1049, .ireturn, [1], 0, []),
  (1050, .aload_n 1, [1], 0, []),
  (1051, .aload_n 0, [0], 0, []),
  (1052, .iload_n 3, [3], 0, []),
  (1053, .iconst 1, [], 1, []),
  (1054, .iadd, [], 0, []),
  (1055, .iaload, [], 0, []),
  (1056, .invokevirtual 121, [1, 2, 10, 128], 0, [1165, 0, 0, 1167]),
  (1059, .aload_n 2, [2], 0, []),
  (1060, .aload_n 0, [0], 0, []),
  (1061, .iload_n 3, [3], 0, []),
  (1062, .iconst 1, [], 1, []),
  (1063, .iadd, [], 0, []),
  (1064, .iaload, [], 0, []),
  (1065, .invokevirtual 125, [1, 2, 11, 230], 0, [1746, 0, 0, 1748]),
  (1068, .if_icmp .eq 67, [801], 0, []),
  (1071, .iconst 0, [], 0, []),
  (1072, .ireturn, [1], 0, []),
  (1073, .aload_n 1, [1], 0, []),
  (1074, .invokevirtual 126, [1, 1, 10, 129], 0, [1170, 0, 0, 1172]),
  (1077, .aload_n 2, [2], 0, []),
  (1078, .invokevirtual 130, [1, 1, 11, 231], 0, [1751, 0, 0, 1753]),
  (1081, .if_icmp .eq 54, [801], 0, []),
  (1084, .iconst 0, [], 0, []),
  (1085, .ireturn, [1], 0, []),
  (1086, .aload_n 1, [1], 0, []),
  (1087, .invokevirtual 131, [1, 1, 10, 130], 0, [1174, 0, 0, 1176]),
  (1090, .aload_n 2, [2], 0, []),
  (1091, .invokevirtual 135, [1, 1, 11, 232], 0, [1755, 0, 0, 1757]),
  (1094, .if_icmp .eq 41, [801], 0, []),
  (1097, .iconst 0, [], 0, []),
  (1098, .ireturn, [1], 0, []),
  (1099, .aload_n 1, [1], 0, []),
  (1100, .invokevirtual 136, [1, 1, 10, 131], 0, [1178, 0, 0, 1180]),
  (1103, .aload_n 2, [2], 0, []),
  (1104, .invokevirtual 139, [1, 1, 11, 233], 0, [1759, 0, 0, 1761]),
  (1107, .if_icmp .eq 28, [801], 0, []),
  (1110, .iconst 0, [], 0, []),
  (1111, .ireturn, [1], 0, []),
  (1112, .aload_n 1, [1], 0, []),
  (1113, .aload_n 0, [0], 0, []),
  (1114, .iload_n 3, [3], 0, []),
  (1115, .iconst 1, [], 1, []),
  (1116, .iadd, [], 0, []),
  (1117, .iaload, [], 0, []),
  (1118, .invokevirtual 140, [1, 2, 10, 132], 0, [1183, 0, 0, 1185]),
  (1121, .aload_n 2, [2], 0, []),
  (1122, .aload_n 0, [0], 0, []),
  (1123, .iload_n 3, [3], 0, []),
  (1124, .iconst 1, [], 1, []),
  (1125, .iadd, [], 0, []),
  (1126, .iaload, [], 0, []),
  (1127, .invokevirtual 143, [1, 2, 11, 234], 0, [1763, 0, 0, 1765]),
  (1130, .if_icmp .eq 5, [801], 0, []),
  (1133, .iconst 0, [], 0, []),
  (1134, .ireturn, [1], 0, []),
  (1135, .iinc 3 6, [3], 6, []),
  (1138, .goto (-1120), [10], 0, []),
  (1141, .iconst 1, [], 1, []),
  (1142, .ireturn, [1], 0, [])]
def am_ml : List (List am_E × Nat) := [
  (cd_X0_init, 2),
  (cd_X0_allWithin, 5),
  (cd_X0_sign, 8),
  (cd_X0_readTitles, 9),
  (cd_X0_openGifts, 4),
  (cd_X0_sortInto, 7),
  (cd_X0_pile, 8),
  (cd_X0_leastPile, 6),
  (cd_X0_seatAll, 4),
  (cd_X0_seatedBehind, 2),
  (cd_X0_seatedBadly, 6),
  (cd_X0_goesToNextRow, 7),
  (cd_X0_swapSeats, 4),
  (cd_X0_cut, 5),
  (cd_X0_climb, 8),
  (cd_X0_waysTo, 2),
  (cd_X1_init, 1),
  (cd_X1_begin, 3),
  (cd_X1_become, 2),
  (cd_X1_ask, 2),
  (cd_X1_goForward, 2),
  (cd_X1_appease, 2),
  (cd_X1_move, 1),
  (cd_X1_takeOffence, 7),
  (cd_X2_init, 1),
  (cd_X2_readFrom, 4),
  (cd_X2_canPass, 5),
  (cd_X2_addMoves, 5),
  (cd_X2_add, 4),
  (cd_X2_allHavePassed, 3),
  (cd_X2_landing, 6),
  (cd_X2_standsAt, 2),
  (cd_X2_packed, 3),
  (cd_X2_unpack, 4),
  (cd_X3_init, 1),
  (cd_X3_clear, 1),
  (cd_X3_become, 2),
  (cd_X3_beginRule, 2),
  (cd_X3_beginTest, 1),
  (cd_X3_put, 3),
  (cd_X3_letGoOnHere, 2),
  (cd_X3_lookAt, 6),
  (cd_X3_amountOf, 4),
  (cd_X3_anyHolds, 3),
  (cd_X3_speaksOf, 3),
  (cd_X3_reckon, 6),
  (cd_X3_seenAt, 2),
  (cd_X3_isRefused, 2),
  (cd_X3_join, 3),
  (cd_X4_init, 2),
  (cd_X4_readLine, 3),
  (cd_X4_readGroup, 1),
  (cd_X4_readChoice, 3),
  (cd_X4_readPart, 3),
  (cd_X4_readTest, 2),
  (cd_X4_readNot, 1),
  (cd_X4_readSum, 3),
  (cd_X4_readTerm, 3),
  (cd_X4_readFactor, 1),
  (cd_X4_readBracket, 1),
  (cd_X4_opens, 1),
  (cd_X5_init, 1),
  (cd_X5_kingOf, 2),
  (cd_X5_become, 2),
  (cd_X5_whoArrived, 1),
  (cd_X5_haveMet, 1),
  (cd_X5_whoLeft, 1),
  (cd_X5_lead, 1),
  (cd_X5_whoIsNearer, 1),
  (cd_X5_breathe, 4),
  (cd_X5_draw, 1),
  (cd_X6_init, 2),
  (cd_X6_readLine, 3),
  (cd_X6_obey, 4),
  (cd_X6_obeyLine, 3),
  (cd_X7_init, 2),
  (cd_X7_readText, 3),
  (cd_X7_isOn, 2),
  (cd_X7_takes, 2),
  (cd_X7_readNumber, 4),
  (cd_X7_cannotStand, 1),
  (cd_X7_fails, 3),
  (cd_X8_init, 1),
  (cd_X8_has, 2),
  (cd_X8_append, 3),
  (cd_X8_byteAt, 2),
  (cd_X8_clear, 1),
  (cd_X9_init, 1),
  (cd_X9_become, 4),
  (cd_X9_names, 2),
  (cd_X9_atOnceWith, 2),
  (cd_X9_aheadOf, 2),
  (cd_X9_momentOf, 2),
  (cd_X9_lastMoment, 3),
  (cd_X9_agrees, 5),
  (cd_X9_joinActs, 5),
  (cd_X9_shareAhead, 4),
  (cd_X9_closeAhead, 3),
  (cd_X9_findMoments, 3),
  (cd_X9_momentBehind, 4),
  (cd_X10_init, 2),
  (cd_X10_readLine, 2),
  (cd_X11_init, 1),
  (cd_X11_king, 4),
  (cd_X11_tolerance, 3),
  (cd_X11_feed, 6),
  (cd_X11_law, 3),
  (cd_X11_orders, 3),
  (cd_X11_treaty, 3),
  (cd_X11_breaths, 3),
  (cd_X11_tried, 5),
  (cd_X11_kingIs, 4),
  (cd_X11_meet, 5),
  (cd_X11_leaves, 5),
  (cd_X11_worst, 4),
  (cd_X11_nearer, 7),
  (cd_X11_moments, 2),
  (cd_X11_act, 3),
  (cd_X11_lane, 4),
  (cd_X11_signing, 3),
  (cd_X11_titles, 6),
  (cd_X11_gifts, 3),
  (cd_X11_cushions, 7),
  (cd_X11_table, 3),
  (cd_X11_drums, 7),
  (cd_X11_tent, 3),
  (cd_X11_stairs, 4),
  (cd_X11_heralds, 5),
  (cd_X11_seed, 2),
  (cd_X11_keep, 1),
  (cd_X11_undo, 1),
  (cd_X11_check, 5),
  (cd_X11_count, 2),
  (cd_X11_goesBy, 2),
  (cd_X11_triedKing, 2),
  (cd_X11_outside, 3),
  (cd_X11_whoOfBits, 1),
  (cd_X12_init, 1),
  (cd_X12_in, 3),
  (cd_X12_min, 2),
  (cd_X12_max, 2),
  (cd_X12_size, 1),
  (cd_X12_has, 2),
  (cd_X12_bits, 3),
  (cd_X12_copies, 3),
  (cd_X12_haveMet, 1),
  (cd_X12_goneSet, 1),
  (cd_X12_king, 4),
  (cd_X12_tolerance, 3),
  (cd_X12_types, 3),
  (cd_X12_feed, 6),
  (cd_X12_octet, 2),
  (cd_X12_here, 1),
  (cd_X12_isDigit, 1),
  (cd_X12_wrongAt, 3),
  (cd_X12_takes, 2),
  (cd_X12_readsNumber, 2),
  (cd_X12_notes, 3),
  (cd_X12_opens, 2),
  (cd_X12_waitTop, 1),
  (cd_X12_factOf, 1),
  (cd_X12_sumSign, 1),
  (cd_X12_closesSums, 2),
  (cd_X12_readsFactor, 2),
  (cd_X12_hasOpenSum, 3),
  (cd_X12_readsSum, 3),
  (cd_X12_endsPiece, 1),
  (cd_X12_lands, 3),
  (cd_X12_jumps, 2),
  (cd_X12_readsCompared, 2),
  (cd_X12_readsCondition, 1),
  (cd_X12_readsRule, 2),
  (cd_X12_beginsText, 2),
  (cd_X12_law, 4),
  (cd_X12_reckon, 3),
  (cd_X12_comesTo, 8),
  (cd_X12_byLaw, 5),
  (cd_X12_holdsAny, 3),
  (cd_X12_hasRule, 3),
  (cd_X12_readsAmount, 2),
  (cd_X12_obeys, 3),
  (cd_X12_readsLine, 4),
  (cd_X12_orders, 3),
  (cd_X12_feels, 3),
  (cd_X12_asks, 2),
  (cd_X12_moves, 3),
  (cd_X12_offenceTo, 4),
  (cd_X12_apartNow, 1),
  (cd_X12_goesOn, 1),
  (cd_X12_thereNow, 1),
  (cd_X12_breathGoes, 4),
  (cd_X12_breathsGo, 3),
  (cd_X12_breaths, 2),
  (cd_X12_tried, 4),
  (cd_X12_kingIs, 3),
  (cd_X12_meet, 4),
  (cd_X12_leaves, 4),
  (cd_X12_worst, 2),
  (cd_X12_nearer, 3),
  (cd_X12_readsPair, 4),
  (cd_X12_treaty, 4),
  (cd_X12_named, 3),
  (cd_X12_laysMoments, 6),
  (cd_X12_lifts, 6),
  (cd_X12_contradictsAt, 2),
  (cd_X12_moments, 5),
  (cd_X12_atOnceWith, 5),
  (cd_X12_aheadOf, 5),
  (cd_X12_act, 3),
  (cd_X12_unfolds, 5),
  (cd_X12_isThrough, 4),
  (cd_X12_goesTo, 4),
  (cd_X12_searches, 11),
  (cd_X12_lane, 6),
  (cd_X12_signing, 7),
  (cd_X12_titles, 7),
  (cd_X12_unlike, 4),
  (cd_X12_leastGifts, 8),
  (cd_X12_gifts, 4),
  (cd_X12_sumOf, 5),
  (cd_X12_cushions, 11),
  (cd_X12_wrongsNow, 5),
  (cd_X12_changesSeats, 4),
  (cd_X12_nextSeats, 6),
  (cd_X12_mayBeSeats, 4),
  (cd_X12_table, 4),
  (cd_X12_drums, 7),
  (cd_X12_tent, 8),
  (cd_X12_stairs, 10),
  (cd_X12_heralds, 5),
  (cd_X12_seed, 2),
  (cd_X12_keep, 1),
  (cd_X12_undo, 1),
  (cd_X12_check, 2),
  (cd_X12_count, 2),
  (cd_J6_numberOfTrailingZeros_0f7a4, 2),
  (cd_J7_fill_d0a16, 5),
  (cd_J7_fill_53178, 4)]
def am_mat : List (List am_E × Nat) → Nat → List am_E × Nat
  | [], _ => ([], 0)
  | a :: _, 0 => a
  | _ :: as, n + 1 => am_mat as n
def am_m : am_M := am_mat am_ml
def am_yl : List (MethodName × ByteArray × Nat × Option FieldType × Nat × Nat × Nat) := [
  (yX0_init, cX0_init, 2, none, 401, 103, 400),
  (yX0_allWithin, cX0_allWithin, 5, some .boolean, 1071, 103, 1069),
  (yX0_sign, cX0_sign, 8, none, 1061, 103, 1059),
  (yX0_readTitles, cX0_readTitles, 9, none, 1076, 103, 1074),
  (yX0_openGifts, cX0_openGifts, 4, none, 1085, 103, 1083),
  (yX0_sortInto, cX0_sortInto, 7, none, 1089, 103, 1088),
  (yX0_pile, cX0_pile, 8, none, 1098, 103, 1096),
  (yX0_leastPile, cX0_leastPile, 6, some .int, 1106, 103, 1105),
  (yX0_seatAll, cX0_seatAll, 4, none, 1114, 103, 1112),
  (yX0_seatedBehind, cX0_seatedBehind, 2, some .int, 1131, 103, 1129),
  (yX0_seatedBadly, cX0_seatedBadly, 6, some .int, 1118, 103, 1117),
  (yX0_goesToNextRow, cX0_goesToNextRow, 7, some .boolean, 1123, 103, 1122),
  (yX0_swapSeats, cX0_swapSeats, 4, none, 1127, 103, 1126),
  (yX0_cut, cX0_cut, 5, none, 1143, 103, 1141),
  (yX0_climb, cX0_climb, 8, some .long, 1153, 103, 1151),
  (yX0_waysTo, cX0_waysTo, 2, some .long, 1160, 103, 1159),
  (yX1_init, cX1_init, 1, none, 299, 101, 298),
  (yX1_begin, cX1_begin, 3, none, 500, 101, 498),
  (yX1_become, cX1_become, 2, none, 937, 101, 935),
  (yX1_ask, cX1_ask, 2, none, 887, 101, 885),
  (yX1_goForward, cX1_goForward, 2, none, 805, 101, 803),
  (yX1_appease, cX1_appease, 2, none, 810, 101, 808),
  (yX1_move, cX1_move, 1, none, 919, 101, 917),
  (yX1_takeOffence, cX1_takeOffence, 7, none, 925, 101, 923),
  (yX2_init, cX2_init, 1, none, 371, 102, 370),
  (yX2_readFrom, cX2_readFrom, 4, some .int, 1016, 102, 1014),
  (yX2_canPass, cX2_canPass, 5, some .boolean, 1022, 102, 1020),
  (yX2_addMoves, cX2_addMoves, 5, none, 1045, 102, 1044),
  (yX2_add, cX2_add, 4, none, 1033, 102, 1032),
  (yX2_allHavePassed, cX2_allHavePassed, 3, some .boolean, 1041, 102, 1040),
  (yX2_landing, cX2_landing, 6, some .int, 1049, 102, 1048),
  (yX2_standsAt, cX2_standsAt, 2, some .int, 1053, 102, 1052),
  (yX2_packed, cX2_packed, 3, some .int, 1027, 102, 1026),
  (yX2_unpack, cX2_unpack, 4, none, 1037, 102, 1036),
  (yX3_init, cX3_init, 1, none, 142, 94, 141),
  (yX3_clear, cX3_clear, 1, none, 536, 94, 534),
  (yX3_become, cX3_become, 2, none, 782, 94, 780),
  (yX3_beginRule, cX3_beginRule, 2, none, 662, 94, 660),
  (yX3_beginTest, cX3_beginTest, 1, none, 707, 94, 705),
  (yX3_put, cX3_put, 3, some .int, 691, 94, 689),
  (yX3_letGoOnHere, cX3_letGoOnHere, 2, none, 734, 94, 732),
  (yX3_lookAt, cX3_lookAt, 6, none, 883, 94, 881),
  (yX3_amountOf, cX3_amountOf, 4, some .int, 891, 94, 889),
  (yX3_anyHolds, cX3_anyHolds, 3, some .boolean, 915, 94, 913),
  (yX3_speaksOf, cX3_speaksOf, 3, some .boolean, 911, 94, 909),
  (yX3_reckon, cX3_reckon, 6, some .int, 895, 94, 894),
  (yX3_seenAt, cX3_seenAt, 2, some .int, 899, 94, 898),
  (yX3_isRefused, cX3_isRefused, 2, some .boolean, 903, 94, 902),
  (yX3_join, cX3_join, 3, some .int, 906, 94, 905),
  (yX4_init, cX4_init, 2, none, 174, 96, 173),
  (yX4_readLine, cX4_readLine, 3, some .boolean, 532, 96, 531),
  (yX4_readGroup, cX4_readGroup, 1, some .boolean, 711, 96, 710),
  (yX4_readChoice, cX4_readChoice, 3, some .boolean, 715, 96, 714),
  (yX4_readPart, cX4_readPart, 3, some .boolean, 719, 96, 718),
  (yX4_readTest, cX4_readTest, 2, some .boolean, 723, 96, 722),
  (yX4_readNot, cX4_readNot, 1, some .boolean, 728, 96, 727),
  (yX4_readSum, cX4_readSum, 3, some .boolean, 666, 96, 665),
  (yX4_readTerm, cX4_readTerm, 3, some .boolean, 670, 96, 669),
  (yX4_readFactor, cX4_readFactor, 1, some .boolean, 674, 96, 673),
  (yX4_readBracket, cX4_readBracket, 1, some .boolean, 679, 96, 678),
  (yX4_opens, cX4_opens, 1, some .boolean, 683, 96, 682),
  (yX5_init, cX5_init, 1, none, 293, 100, 292),
  (yX5_kingOf, cX5_kingOf, 2, some (.object "TwoKings$King"), 496, 100, 494),
  (yX5_become, cX5_become, 2, none, 933, 100, 931),
  (yX5_whoArrived, cX5_whoArrived, 1, some .int, 870, 100, 868),
  (yX5_haveMet, cX5_haveMet, 1, some .boolean, 866, 100, 864),
  (yX5_whoLeft, cX5_whoLeft, 1, some .int, 874, 100, 872),
  (yX5_lead, cX5_lead, 1, some .int, 966, 100, 964),
  (yX5_whoIsNearer, cX5_whoIsNearer, 1, some .int, 978, 100, 976),
  (yX5_breathe, cX5_breathe, 4, some .boolean, 862, 100, 860),
  (yX5_draw, cX5_draw, 1, some .int, 878, 100, 877),
  (yX6_init, cX6_init, 2, none, 220, 97, 219),
  (yX6_readLine, cX6_readLine, 3, some .boolean, 739, 97, 738),
  (yX6_obey, cX6_obey, 4, none, 797, 97, 795),
  (yX6_obeyLine, cX6_obeyLine, 3, none, 801, 97, 800),
  (yX7_init, cX7_init, 2, none, 177, 95, 176),
  (yX7_readText, cX7_readText, 3, some .int, 526, 95, 525),
  (yX7_isOn, cX7_isOn, 2, some .boolean, 543, 95, 542),
  (yX7_takes, cX7_takes, 2, some .boolean, 653, 95, 652),
  (yX7_readNumber, cX7_readNumber, 4, some .boolean, 697, 95, 696),
  (yX7_cannotStand, cX7_cannotStand, 1, some .boolean, 635, 95, 634),
  (yX7_fails, cX7_fails, 3, some .boolean, 642, 95, 637),
  (yX8_init, cX8_init, 1, none, 126, 93, 125),
  (yX8_has, cX8_has, 2, some .boolean, 520, 93, 518),
  (yX8_append, cX8_append, 3, none, 512, 93, 510),
  (yX8_byteAt, cX8_byteAt, 2, some .int, 658, 93, 656),
  (yX8_clear, cX8_clear, 1, none, 778, 93, 776),
  (yX9_init, cX9_init, 1, none, 241, 98, 240),
  (yX9_become, cX9_become, 4, none, 821, 98, 819),
  (yX9_names, cX9_names, 2, some .boolean, 987, 98, 985),
  (yX9_atOnceWith, cX9_atOnceWith, 2, some .int, 1004, 98, 1002),
  (yX9_aheadOf, cX9_aheadOf, 2, some .int, 1008, 98, 1006),
  (yX9_momentOf, cX9_momentOf, 2, some .int, 996, 98, 994),
  (yX9_lastMoment, cX9_lastMoment, 3, some .int, 991, 98, 989),
  (yX9_agrees, cX9_agrees, 5, some .boolean, 825, 98, 824),
  (yX9_joinActs, cX9_joinActs, 5, none, 830, 98, 829),
  (yX9_shareAhead, cX9_shareAhead, 4, none, 834, 98, 833),
  (yX9_closeAhead, cX9_closeAhead, 3, none, 838, 98, 837),
  (yX9_findMoments, cX9_findMoments, 3, none, 842, 98, 841),
  (yX9_momentBehind, cX9_momentBehind, 4, some .int, 849, 98, 848),
  (yX10_init, cX10_init, 2, none, 269, 99, 268),
  (yX10_readLine, cX10_readLine, 2, some .boolean, 759, 99, 758),
  (yX11_init, cX11_init, 1, none, 118, 92, 117),
  (yX11_king, cX11_king, 4, some .boolean, 489, 92, 487),
  (yX11_tolerance, cX11_tolerance, 3, some .boolean, 504, 92, 502),
  (yX11_feed, cX11_feed, 6, some .int, 508, 92, 506),
  (yX11_law, cX11_law, 3, some .int, 516, 92, 514),
  (yX11_orders, cX11_orders, 3, some .int, 790, 92, 788),
  (yX11_treaty, cX11_treaty, 3, some .int, 814, 92, 812),
  (yX11_breaths, cX11_breaths, 3, some .int, 854, 92, 852),
  (yX11_tried, cX11_tried, 5, some .int, 929, 92, 927),
  (yX11_kingIs, cX11_kingIs, 4, some .int, 946, 92, 944),
  (yX11_meet, cX11_meet, 5, some .int, 950, 92, 948),
  (yX11_leaves, cX11_leaves, 5, some .int, 958, 92, 956),
  (yX11_worst, cX11_worst, 4, some .int, 962, 92, 960),
  (yX11_nearer, cX11_nearer, 7, some .int, 974, 92, 972),
  (yX11_moments, cX11_moments, 2, some .int, 983, 92, 981),
  (yX11_act, cX11_act, 3, some .int, 1000, 92, 998),
  (yX11_lane, cX11_lane, 4, some .int, 1012, 92, 1010),
  (yX11_signing, cX11_signing, 3, some .int, 1057, 92, 1055),
  (yX11_titles, cX11_titles, 6, some .int, 1067, 92, 1065),
  (yX11_gifts, cX11_gifts, 3, some .int, 1081, 92, 1079),
  (yX11_cushions, cX11_cushions, 7, some .int, 1094, 92, 1092),
  (yX11_table, cX11_table, 3, some .int, 1110, 92, 1108),
  (yX11_drums, cX11_drums, 7, some .int, 1135, 92, 1133),
  (yX11_tent, cX11_tent, 3, some .int, 1139, 92, 1137),
  (yX11_stairs, cX11_stairs, 4, some .long, 1148, 92, 1146),
  (yX11_heralds, cX11_heralds, 5, some .int, 1164, 92, 1162),
  (yX11_seed, cX11_seed, 2, some .boolean, 1168, 92, 1166),
  (yX11_keep, cX11_keep, 1, some .int, 1173, 92, 1171),
  (yX11_undo, cX11_undo, 1, some .boolean, 1177, 92, 1175),
  (yX11_check, cX11_check, 5, some .int, 1181, 92, 1179),
  (yX11_count, cX11_count, 2, some .int, 1186, 92, 1184),
  (yX11_goesBy, cX11_goesBy, 2, some .boolean, 858, 92, 857),
  (yX11_triedKing, cX11_triedKing, 2, some .int, 942, 92, 941),
  (yX11_outside, cX11_outside, 3, some .boolean, 492, 92, 491),
  (yX11_whoOfBits, cX11_whoOfBits, 1, some .int, 954, 92, 953),
  (yX12_init, cX12_init, 1, none, 1191, 104, 1190),
  (yX12_in, cX12_in, 3, some .boolean, 1390, 104, 1389),
  (yX12_min, cX12_min, 2, some .int, 1577, 104, 1576),
  (yX12_max, cX12_max, 2, some .int, 1511, 104, 1510),
  (yX12_size, cX12_size, 1, some .int, 1534, 104, 1533),
  (yX12_has, cX12_has, 2, some .boolean, 1640, 104, 1639),
  (yX12_bits, cX12_bits, 3, some .int, 1696, 104, 1695),
  (yX12_copies, cX12_copies, 3, none, 1496, 104, 1495),
  (yX12_haveMet, cX12_haveMet, 1, some .boolean, 1527, 104, 1526),
  (yX12_goneSet, cX12_goneSet, 1, some .int, 1542, 104, 1541),
  (yX12_king, cX12_king, 4, some .boolean, 1387, 104, 1385),
  (yX12_tolerance, cX12_tolerance, 3, some .boolean, 1394, 104, 1392),
  (yX12_types, cX12_types, 3, none, 1402, 104, 1401),
  (yX12_feed, cX12_feed, 6, some .int, 1398, 104, 1396),
  (yX12_octet, cX12_octet, 2, some .int, 1660, 104, 1659),
  (yX12_here, cX12_here, 1, some .int, 1418, 104, 1417),
  (yX12_isDigit, cX12_isDigit, 1, some .boolean, 1439, 104, 1438),
  (yX12_wrongAt, cX12_wrongAt, 3, some .boolean, 1422, 104, 1421),
  (yX12_takes, cX12_takes, 2, some .boolean, 1489, 104, 1488),
  (yX12_readsNumber, cX12_readsNumber, 2, some .boolean, 1443, 104, 1442),
  (yX12_notes, cX12_notes, 3, none, 1447, 104, 1446),
  (yX12_opens, cX12_opens, 2, some .boolean, 1434, 104, 1433),
  (yX12_waitTop, cX12_waitTop, 1, some .int, 1461, 104, 1460),
  (yX12_factOf, cX12_factOf, 1, some .int, 1450, 104, 1449),
  (yX12_sumSign, cX12_sumSign, 1, some .int, 1453, 104, 1452),
  (yX12_closesSums, cX12_closesSums, 2, none, 1457, 104, 1456),
  (yX12_readsFactor, cX12_readsFactor, 2, some .boolean, 1430, 104, 1429),
  (yX12_hasOpenSum, cX12_hasOpenSum, 3, some .boolean, 1465, 104, 1464),
  (yX12_readsSum, cX12_readsSum, 3, some .boolean, 1426, 104, 1425),
  (yX12_endsPiece, cX12_endsPiece, 1, none, 1477, 104, 1476),
  (yX12_lands, cX12_lands, 3, none, 1481, 104, 1480),
  (yX12_jumps, cX12_jumps, 2, none, 1485, 104, 1484),
  (yX12_readsCompared, cX12_readsCompared, 2, some .boolean, 1473, 104, 1472),
  (yX12_readsCondition, cX12_readsCondition, 1, some .boolean, 1469, 104, 1468),
  (yX12_readsRule, cX12_readsRule, 2, some .boolean, 1414, 104, 1413),
  (yX12_beginsText, cX12_beginsText, 2, none, 1410, 104, 1409),
  (yX12_law, cX12_law, 4, some .int, 1406, 104, 1404),
  (yX12_reckon, cX12_reckon, 3, some .int, 1566, 104, 1565),
  (yX12_comesTo, cX12_comesTo, 8, some .int, 1563, 104, 1562),
  (yX12_byLaw, cX12_byLaw, 5, some .int, 1559, 104, 1558),
  (yX12_holdsAny, cX12_holdsAny, 3, some .boolean, 1570, 104, 1569),
  (yX12_hasRule, cX12_hasRule, 3, some .boolean, 1581, 104, 1580),
  (yX12_readsAmount, cX12_readsAmount, 2, some .boolean, 1504, 104, 1503),
  (yX12_obeys, cX12_obeys, 3, none, 1508, 104, 1507),
  (yX12_readsLine, cX12_readsLine, 4, some .boolean, 1500, 104, 1499),
  (yX12_orders, cX12_orders, 3, some .int, 1493, 104, 1491),
  (yX12_feels, cX12_feels, 3, none, 1555, 104, 1554),
  (yX12_asks, cX12_asks, 2, none, 1551, 104, 1550),
  (yX12_moves, cX12_moves, 3, none, 1574, 104, 1573),
  (yX12_offenceTo, cX12_offenceTo, 4, some .int, 1585, 104, 1584),
  (yX12_apartNow, cX12_apartNow, 1, some .int, 1531, 104, 1530),
  (yX12_goesOn, cX12_goesOn, 1, some .boolean, 1538, 104, 1537),
  (yX12_thereNow, cX12_thereNow, 1, some .int, 1523, 104, 1522),
  (yX12_breathGoes, cX12_breathGoes, 4, none, 1546, 104, 1545),
  (yX12_breathsGo, cX12_breathsGo, 3, none, 1519, 104, 1518),
  (yX12_breaths, cX12_breaths, 2, some .int, 1515, 104, 1513),
  (yX12_tried, cX12_tried, 4, some .int, 1589, 104, 1587),
  (yX12_kingIs, cX12_kingIs, 3, some .int, 1593, 104, 1591),
  (yX12_meet, cX12_meet, 4, some .int, 1597, 104, 1595),
  (yX12_leaves, cX12_leaves, 4, some .int, 1601, 104, 1599),
  (yX12_worst, cX12_worst, 2, some .int, 1605, 104, 1603),
  (yX12_nearer, cX12_nearer, 3, some .int, 1609, 104, 1607),
  (yX12_readsPair, cX12_readsPair, 4, some .boolean, 1617, 104, 1616),
  (yX12_treaty, cX12_treaty, 4, some .int, 1613, 104, 1611),
  (yX12_named, cX12_named, 3, some .int, 1637, 104, 1636),
  (yX12_laysMoments, cX12_laysMoments, 6, some .boolean, 1629, 104, 1628),
  (yX12_lifts, cX12_lifts, 6, some .boolean, 1633, 104, 1632),
  (yX12_contradictsAt, cX12_contradictsAt, 2, some .int, 1625, 104, 1624),
  (yX12_moments, cX12_moments, 5, some .int, 1621, 104, 1619),
  (yX12_atOnceWith, cX12_atOnceWith, 5, some .int, 1648, 104, 1647),
  (yX12_aheadOf, cX12_aheadOf, 5, some .int, 1652, 104, 1651),
  (yX12_act, cX12_act, 3, some .int, 1644, 104, 1642),
  (yX12_unfolds, cX12_unfolds, 5, none, 1668, 104, 1667),
  (yX12_isThrough, cX12_isThrough, 4, some .boolean, 1672, 104, 1671),
  (yX12_goesTo, cX12_goesTo, 4, some .int, 1676, 104, 1675),
  (yX12_searches, cX12_searches, 11, some .int, 1664, 104, 1663),
  (yX12_lane, cX12_lane, 6, some .int, 1656, 104, 1654),
  (yX12_signing, cX12_signing, 7, some .int, 1680, 104, 1678),
  (yX12_titles, cX12_titles, 7, some .int, 1684, 104, 1682),
  (yX12_unlike, cX12_unlike, 4, some .int, 1700, 104, 1699),
  (yX12_leastGifts, cX12_leastGifts, 8, some .int, 1693, 104, 1692),
  (yX12_gifts, cX12_gifts, 4, some .int, 1689, 104, 1687),
  (yX12_sumOf, cX12_sumOf, 5, some .int, 1708, 104, 1707),
  (yX12_cushions, cX12_cushions, 11, some .int, 1704, 104, 1702),
  (yX12_wrongsNow, cX12_wrongsNow, 5, some .int, 1720, 104, 1719),
  (yX12_changesSeats, cX12_changesSeats, 4, none, 1728, 104, 1727),
  (yX12_nextSeats, cX12_nextSeats, 6, some .boolean, 1724, 104, 1723),
  (yX12_mayBeSeats, cX12_mayBeSeats, 4, none, 1716, 104, 1715),
  (yX12_table, cX12_table, 4, some .int, 1712, 104, 1710),
  (yX12_drums, cX12_drums, 7, some .int, 1732, 104, 1730),
  (yX12_tent, cX12_tent, 8, some .int, 1736, 104, 1734),
  (yX12_stairs, cX12_stairs, 10, some .long, 1740, 104, 1738),
  (yX12_heralds, cX12_heralds, 5, some .int, 1745, 104, 1743),
  (yX12_seed, cX12_seed, 2, some .boolean, 1749, 104, 1747),
  (yX12_keep, cX12_keep, 1, some .int, 1754, 104, 1752),
  (yX12_undo, cX12_undo, 1, some .boolean, 1758, 104, 1756),
  (yX12_check, cX12_check, 2, some .int, 1762, 104, 1760),
  (yX12_count, cX12_count, 2, some .int, 1766, 104, 1764),
  (yJ6_numberOfTrailingZeros_0f7a4, cJ6_numberOfTrailingZeros_0f7a4, 2, some .int, 1101, 113, 1100),
  (yJ7_fill_d0a16, cJ7_fill_d0a16, 5, none, 1156, 112, 1155),
  (yJ7_fill_53178, cJ7_fill_53178, 4, none, 845, 112, 844)]
def am_yat : List (MethodName × ByteArray × Nat × Option FieldType × Nat × Nat × Nat) → am_Y
  | [], _ => (⟨"", "", ""⟩, ⟨#[]⟩, 0, none, 0, 0, 0)
  | a :: _, 0 => a
  | _ :: as, n + 1 => am_yat as n
def am_y : am_Y := am_yat am_yl
theorem en_X0_init {K : am_K} {I : am_I} {d mc ms : Nat} {as : List Value} {hp : am_H} {Q : Option Value → am_H → Prop} (hs : Nat.ble (am_ws as) 2 = true) (h : ∀ P : am_C → Prop, (∀ c, am_step K I (am_run K I am_m d) cd_X0_init mc ms Q P c → P c) → P (cd_X0_init, am_ent 2 as, [], hp, 0, 0)) : am_run K I am_m (d + 1) 0 as hp mc ms Q := ⟨hs, h⟩
theorem en_X0_allWithin {K : am_K} {I : am_I} {d mc ms : Nat} {as : List Value} {hp : am_H} {Q : Option Value → am_H → Prop} (hs : Nat.ble (am_ws as) 5 = true) (h : ∀ P : am_C → Prop, (∀ c, am_step K I (am_run K I am_m d) cd_X0_allWithin mc ms Q P c → P c) → P (cd_X0_allWithin, am_ent 5 as, [], hp, 0, 0)) : am_run K I am_m (d + 1) 1 as hp mc ms Q := ⟨hs, h⟩
theorem en_X0_sign {K : am_K} {I : am_I} {d mc ms : Nat} {as : List Value} {hp : am_H} {Q : Option Value → am_H → Prop} (hs : Nat.ble (am_ws as) 8 = true) (h : ∀ P : am_C → Prop, (∀ c, am_step K I (am_run K I am_m d) cd_X0_sign mc ms Q P c → P c) → P (cd_X0_sign, am_ent 8 as, [], hp, 0, 0)) : am_run K I am_m (d + 1) 2 as hp mc ms Q := ⟨hs, h⟩
theorem en_X0_readTitles {K : am_K} {I : am_I} {d mc ms : Nat} {as : List Value} {hp : am_H} {Q : Option Value → am_H → Prop} (hs : Nat.ble (am_ws as) 9 = true) (h : ∀ P : am_C → Prop, (∀ c, am_step K I (am_run K I am_m d) cd_X0_readTitles mc ms Q P c → P c) → P (cd_X0_readTitles, am_ent 9 as, [], hp, 0, 0)) : am_run K I am_m (d + 1) 3 as hp mc ms Q := ⟨hs, h⟩
theorem en_X0_openGifts {K : am_K} {I : am_I} {d mc ms : Nat} {as : List Value} {hp : am_H} {Q : Option Value → am_H → Prop} (hs : Nat.ble (am_ws as) 4 = true) (h : ∀ P : am_C → Prop, (∀ c, am_step K I (am_run K I am_m d) cd_X0_openGifts mc ms Q P c → P c) → P (cd_X0_openGifts, am_ent 4 as, [], hp, 0, 0)) : am_run K I am_m (d + 1) 4 as hp mc ms Q := ⟨hs, h⟩
theorem en_X0_sortInto {K : am_K} {I : am_I} {d mc ms : Nat} {as : List Value} {hp : am_H} {Q : Option Value → am_H → Prop} (hs : Nat.ble (am_ws as) 7 = true) (h : ∀ P : am_C → Prop, (∀ c, am_step K I (am_run K I am_m d) cd_X0_sortInto mc ms Q P c → P c) → P (cd_X0_sortInto, am_ent 7 as, [], hp, 0, 0)) : am_run K I am_m (d + 1) 5 as hp mc ms Q := ⟨hs, h⟩
theorem en_X0_pile {K : am_K} {I : am_I} {d mc ms : Nat} {as : List Value} {hp : am_H} {Q : Option Value → am_H → Prop} (hs : Nat.ble (am_ws as) 8 = true) (h : ∀ P : am_C → Prop, (∀ c, am_step K I (am_run K I am_m d) cd_X0_pile mc ms Q P c → P c) → P (cd_X0_pile, am_ent 8 as, [], hp, 0, 0)) : am_run K I am_m (d + 1) 6 as hp mc ms Q := ⟨hs, h⟩
theorem en_X0_leastPile {K : am_K} {I : am_I} {d mc ms : Nat} {as : List Value} {hp : am_H} {Q : Option Value → am_H → Prop} (hs : Nat.ble (am_ws as) 6 = true) (h : ∀ P : am_C → Prop, (∀ c, am_step K I (am_run K I am_m d) cd_X0_leastPile mc ms Q P c → P c) → P (cd_X0_leastPile, am_ent 6 as, [], hp, 0, 0)) : am_run K I am_m (d + 1) 7 as hp mc ms Q := ⟨hs, h⟩
theorem en_X0_seatAll {K : am_K} {I : am_I} {d mc ms : Nat} {as : List Value} {hp : am_H} {Q : Option Value → am_H → Prop} (hs : Nat.ble (am_ws as) 4 = true) (h : ∀ P : am_C → Prop, (∀ c, am_step K I (am_run K I am_m d) cd_X0_seatAll mc ms Q P c → P c) → P (cd_X0_seatAll, am_ent 4 as, [], hp, 0, 0)) : am_run K I am_m (d + 1) 8 as hp mc ms Q := ⟨hs, h⟩
theorem en_X0_seatedBehind {K : am_K} {I : am_I} {d mc ms : Nat} {as : List Value} {hp : am_H} {Q : Option Value → am_H → Prop} (hs : Nat.ble (am_ws as) 2 = true) (h : ∀ P : am_C → Prop, (∀ c, am_step K I (am_run K I am_m d) cd_X0_seatedBehind mc ms Q P c → P c) → P (cd_X0_seatedBehind, am_ent 2 as, [], hp, 0, 0)) : am_run K I am_m (d + 1) 9 as hp mc ms Q := ⟨hs, h⟩
theorem en_X0_seatedBadly {K : am_K} {I : am_I} {d mc ms : Nat} {as : List Value} {hp : am_H} {Q : Option Value → am_H → Prop} (hs : Nat.ble (am_ws as) 6 = true) (h : ∀ P : am_C → Prop, (∀ c, am_step K I (am_run K I am_m d) cd_X0_seatedBadly mc ms Q P c → P c) → P (cd_X0_seatedBadly, am_ent 6 as, [], hp, 0, 0)) : am_run K I am_m (d + 1) 10 as hp mc ms Q := ⟨hs, h⟩
theorem en_X0_goesToNextRow {K : am_K} {I : am_I} {d mc ms : Nat} {as : List Value} {hp : am_H} {Q : Option Value → am_H → Prop} (hs : Nat.ble (am_ws as) 7 = true) (h : ∀ P : am_C → Prop, (∀ c, am_step K I (am_run K I am_m d) cd_X0_goesToNextRow mc ms Q P c → P c) → P (cd_X0_goesToNextRow, am_ent 7 as, [], hp, 0, 0)) : am_run K I am_m (d + 1) 11 as hp mc ms Q := ⟨hs, h⟩
theorem en_X0_swapSeats {K : am_K} {I : am_I} {d mc ms : Nat} {as : List Value} {hp : am_H} {Q : Option Value → am_H → Prop} (hs : Nat.ble (am_ws as) 4 = true) (h : ∀ P : am_C → Prop, (∀ c, am_step K I (am_run K I am_m d) cd_X0_swapSeats mc ms Q P c → P c) → P (cd_X0_swapSeats, am_ent 4 as, [], hp, 0, 0)) : am_run K I am_m (d + 1) 12 as hp mc ms Q := ⟨hs, h⟩
theorem en_X0_cut {K : am_K} {I : am_I} {d mc ms : Nat} {as : List Value} {hp : am_H} {Q : Option Value → am_H → Prop} (hs : Nat.ble (am_ws as) 5 = true) (h : ∀ P : am_C → Prop, (∀ c, am_step K I (am_run K I am_m d) cd_X0_cut mc ms Q P c → P c) → P (cd_X0_cut, am_ent 5 as, [], hp, 0, 0)) : am_run K I am_m (d + 1) 13 as hp mc ms Q := ⟨hs, h⟩
theorem en_X0_climb {K : am_K} {I : am_I} {d mc ms : Nat} {as : List Value} {hp : am_H} {Q : Option Value → am_H → Prop} (hs : Nat.ble (am_ws as) 8 = true) (h : ∀ P : am_C → Prop, (∀ c, am_step K I (am_run K I am_m d) cd_X0_climb mc ms Q P c → P c) → P (cd_X0_climb, am_ent 8 as, [], hp, 0, 0)) : am_run K I am_m (d + 1) 14 as hp mc ms Q := ⟨hs, h⟩
theorem en_X0_waysTo {K : am_K} {I : am_I} {d mc ms : Nat} {as : List Value} {hp : am_H} {Q : Option Value → am_H → Prop} (hs : Nat.ble (am_ws as) 2 = true) (h : ∀ P : am_C → Prop, (∀ c, am_step K I (am_run K I am_m d) cd_X0_waysTo mc ms Q P c → P c) → P (cd_X0_waysTo, am_ent 2 as, [], hp, 0, 0)) : am_run K I am_m (d + 1) 15 as hp mc ms Q := ⟨hs, h⟩
theorem en_X1_init {K : am_K} {I : am_I} {d mc ms : Nat} {as : List Value} {hp : am_H} {Q : Option Value → am_H → Prop} (hs : Nat.ble (am_ws as) 1 = true) (h : ∀ P : am_C → Prop, (∀ c, am_step K I (am_run K I am_m d) cd_X1_init mc ms Q P c → P c) → P (cd_X1_init, am_ent 1 as, [], hp, 0, 0)) : am_run K I am_m (d + 1) 16 as hp mc ms Q := ⟨hs, h⟩
theorem en_X1_begin {K : am_K} {I : am_I} {d mc ms : Nat} {as : List Value} {hp : am_H} {Q : Option Value → am_H → Prop} (hs : Nat.ble (am_ws as) 3 = true) (h : ∀ P : am_C → Prop, (∀ c, am_step K I (am_run K I am_m d) cd_X1_begin mc ms Q P c → P c) → P (cd_X1_begin, am_ent 3 as, [], hp, 0, 0)) : am_run K I am_m (d + 1) 17 as hp mc ms Q := ⟨hs, h⟩
theorem en_X1_become {K : am_K} {I : am_I} {d mc ms : Nat} {as : List Value} {hp : am_H} {Q : Option Value → am_H → Prop} (hs : Nat.ble (am_ws as) 2 = true) (h : ∀ P : am_C → Prop, (∀ c, am_step K I (am_run K I am_m d) cd_X1_become mc ms Q P c → P c) → P (cd_X1_become, am_ent 2 as, [], hp, 0, 0)) : am_run K I am_m (d + 1) 18 as hp mc ms Q := ⟨hs, h⟩
theorem en_X1_ask {K : am_K} {I : am_I} {d mc ms : Nat} {as : List Value} {hp : am_H} {Q : Option Value → am_H → Prop} (hs : Nat.ble (am_ws as) 2 = true) (h : ∀ P : am_C → Prop, (∀ c, am_step K I (am_run K I am_m d) cd_X1_ask mc ms Q P c → P c) → P (cd_X1_ask, am_ent 2 as, [], hp, 0, 0)) : am_run K I am_m (d + 1) 19 as hp mc ms Q := ⟨hs, h⟩
theorem en_X1_goForward {K : am_K} {I : am_I} {d mc ms : Nat} {as : List Value} {hp : am_H} {Q : Option Value → am_H → Prop} (hs : Nat.ble (am_ws as) 2 = true) (h : ∀ P : am_C → Prop, (∀ c, am_step K I (am_run K I am_m d) cd_X1_goForward mc ms Q P c → P c) → P (cd_X1_goForward, am_ent 2 as, [], hp, 0, 0)) : am_run K I am_m (d + 1) 20 as hp mc ms Q := ⟨hs, h⟩
theorem en_X1_appease {K : am_K} {I : am_I} {d mc ms : Nat} {as : List Value} {hp : am_H} {Q : Option Value → am_H → Prop} (hs : Nat.ble (am_ws as) 2 = true) (h : ∀ P : am_C → Prop, (∀ c, am_step K I (am_run K I am_m d) cd_X1_appease mc ms Q P c → P c) → P (cd_X1_appease, am_ent 2 as, [], hp, 0, 0)) : am_run K I am_m (d + 1) 21 as hp mc ms Q := ⟨hs, h⟩
theorem en_X1_move {K : am_K} {I : am_I} {d mc ms : Nat} {as : List Value} {hp : am_H} {Q : Option Value → am_H → Prop} (hs : Nat.ble (am_ws as) 1 = true) (h : ∀ P : am_C → Prop, (∀ c, am_step K I (am_run K I am_m d) cd_X1_move mc ms Q P c → P c) → P (cd_X1_move, am_ent 1 as, [], hp, 0, 0)) : am_run K I am_m (d + 1) 22 as hp mc ms Q := ⟨hs, h⟩
theorem en_X1_takeOffence {K : am_K} {I : am_I} {d mc ms : Nat} {as : List Value} {hp : am_H} {Q : Option Value → am_H → Prop} (hs : Nat.ble (am_ws as) 7 = true) (h : ∀ P : am_C → Prop, (∀ c, am_step K I (am_run K I am_m d) cd_X1_takeOffence mc ms Q P c → P c) → P (cd_X1_takeOffence, am_ent 7 as, [], hp, 0, 0)) : am_run K I am_m (d + 1) 23 as hp mc ms Q := ⟨hs, h⟩
theorem en_X2_init {K : am_K} {I : am_I} {d mc ms : Nat} {as : List Value} {hp : am_H} {Q : Option Value → am_H → Prop} (hs : Nat.ble (am_ws as) 1 = true) (h : ∀ P : am_C → Prop, (∀ c, am_step K I (am_run K I am_m d) cd_X2_init mc ms Q P c → P c) → P (cd_X2_init, am_ent 1 as, [], hp, 0, 0)) : am_run K I am_m (d + 1) 24 as hp mc ms Q := ⟨hs, h⟩
theorem en_X2_readFrom {K : am_K} {I : am_I} {d mc ms : Nat} {as : List Value} {hp : am_H} {Q : Option Value → am_H → Prop} (hs : Nat.ble (am_ws as) 4 = true) (h : ∀ P : am_C → Prop, (∀ c, am_step K I (am_run K I am_m d) cd_X2_readFrom mc ms Q P c → P c) → P (cd_X2_readFrom, am_ent 4 as, [], hp, 0, 0)) : am_run K I am_m (d + 1) 25 as hp mc ms Q := ⟨hs, h⟩
theorem en_X2_canPass {K : am_K} {I : am_I} {d mc ms : Nat} {as : List Value} {hp : am_H} {Q : Option Value → am_H → Prop} (hs : Nat.ble (am_ws as) 5 = true) (h : ∀ P : am_C → Prop, (∀ c, am_step K I (am_run K I am_m d) cd_X2_canPass mc ms Q P c → P c) → P (cd_X2_canPass, am_ent 5 as, [], hp, 0, 0)) : am_run K I am_m (d + 1) 26 as hp mc ms Q := ⟨hs, h⟩
theorem en_X2_addMoves {K : am_K} {I : am_I} {d mc ms : Nat} {as : List Value} {hp : am_H} {Q : Option Value → am_H → Prop} (hs : Nat.ble (am_ws as) 5 = true) (h : ∀ P : am_C → Prop, (∀ c, am_step K I (am_run K I am_m d) cd_X2_addMoves mc ms Q P c → P c) → P (cd_X2_addMoves, am_ent 5 as, [], hp, 0, 0)) : am_run K I am_m (d + 1) 27 as hp mc ms Q := ⟨hs, h⟩
theorem en_X2_add {K : am_K} {I : am_I} {d mc ms : Nat} {as : List Value} {hp : am_H} {Q : Option Value → am_H → Prop} (hs : Nat.ble (am_ws as) 4 = true) (h : ∀ P : am_C → Prop, (∀ c, am_step K I (am_run K I am_m d) cd_X2_add mc ms Q P c → P c) → P (cd_X2_add, am_ent 4 as, [], hp, 0, 0)) : am_run K I am_m (d + 1) 28 as hp mc ms Q := ⟨hs, h⟩
theorem en_X2_allHavePassed {K : am_K} {I : am_I} {d mc ms : Nat} {as : List Value} {hp : am_H} {Q : Option Value → am_H → Prop} (hs : Nat.ble (am_ws as) 3 = true) (h : ∀ P : am_C → Prop, (∀ c, am_step K I (am_run K I am_m d) cd_X2_allHavePassed mc ms Q P c → P c) → P (cd_X2_allHavePassed, am_ent 3 as, [], hp, 0, 0)) : am_run K I am_m (d + 1) 29 as hp mc ms Q := ⟨hs, h⟩
theorem en_X2_landing {K : am_K} {I : am_I} {d mc ms : Nat} {as : List Value} {hp : am_H} {Q : Option Value → am_H → Prop} (hs : Nat.ble (am_ws as) 6 = true) (h : ∀ P : am_C → Prop, (∀ c, am_step K I (am_run K I am_m d) cd_X2_landing mc ms Q P c → P c) → P (cd_X2_landing, am_ent 6 as, [], hp, 0, 0)) : am_run K I am_m (d + 1) 30 as hp mc ms Q := ⟨hs, h⟩
theorem en_X2_standsAt {K : am_K} {I : am_I} {d mc ms : Nat} {as : List Value} {hp : am_H} {Q : Option Value → am_H → Prop} (hs : Nat.ble (am_ws as) 2 = true) (h : ∀ P : am_C → Prop, (∀ c, am_step K I (am_run K I am_m d) cd_X2_standsAt mc ms Q P c → P c) → P (cd_X2_standsAt, am_ent 2 as, [], hp, 0, 0)) : am_run K I am_m (d + 1) 31 as hp mc ms Q := ⟨hs, h⟩
theorem en_X2_packed {K : am_K} {I : am_I} {d mc ms : Nat} {as : List Value} {hp : am_H} {Q : Option Value → am_H → Prop} (hs : Nat.ble (am_ws as) 3 = true) (h : ∀ P : am_C → Prop, (∀ c, am_step K I (am_run K I am_m d) cd_X2_packed mc ms Q P c → P c) → P (cd_X2_packed, am_ent 3 as, [], hp, 0, 0)) : am_run K I am_m (d + 1) 32 as hp mc ms Q := ⟨hs, h⟩
theorem en_X2_unpack {K : am_K} {I : am_I} {d mc ms : Nat} {as : List Value} {hp : am_H} {Q : Option Value → am_H → Prop} (hs : Nat.ble (am_ws as) 4 = true) (h : ∀ P : am_C → Prop, (∀ c, am_step K I (am_run K I am_m d) cd_X2_unpack mc ms Q P c → P c) → P (cd_X2_unpack, am_ent 4 as, [], hp, 0, 0)) : am_run K I am_m (d + 1) 33 as hp mc ms Q := ⟨hs, h⟩
theorem en_X3_init {K : am_K} {I : am_I} {d mc ms : Nat} {as : List Value} {hp : am_H} {Q : Option Value → am_H → Prop} (hs : Nat.ble (am_ws as) 1 = true) (h : ∀ P : am_C → Prop, (∀ c, am_step K I (am_run K I am_m d) cd_X3_init mc ms Q P c → P c) → P (cd_X3_init, am_ent 1 as, [], hp, 0, 0)) : am_run K I am_m (d + 1) 34 as hp mc ms Q := ⟨hs, h⟩
theorem en_X3_clear {K : am_K} {I : am_I} {d mc ms : Nat} {as : List Value} {hp : am_H} {Q : Option Value → am_H → Prop} (hs : Nat.ble (am_ws as) 1 = true) (h : ∀ P : am_C → Prop, (∀ c, am_step K I (am_run K I am_m d) cd_X3_clear mc ms Q P c → P c) → P (cd_X3_clear, am_ent 1 as, [], hp, 0, 0)) : am_run K I am_m (d + 1) 35 as hp mc ms Q := ⟨hs, h⟩
theorem en_X3_become {K : am_K} {I : am_I} {d mc ms : Nat} {as : List Value} {hp : am_H} {Q : Option Value → am_H → Prop} (hs : Nat.ble (am_ws as) 2 = true) (h : ∀ P : am_C → Prop, (∀ c, am_step K I (am_run K I am_m d) cd_X3_become mc ms Q P c → P c) → P (cd_X3_become, am_ent 2 as, [], hp, 0, 0)) : am_run K I am_m (d + 1) 36 as hp mc ms Q := ⟨hs, h⟩
theorem en_X3_beginRule {K : am_K} {I : am_I} {d mc ms : Nat} {as : List Value} {hp : am_H} {Q : Option Value → am_H → Prop} (hs : Nat.ble (am_ws as) 2 = true) (h : ∀ P : am_C → Prop, (∀ c, am_step K I (am_run K I am_m d) cd_X3_beginRule mc ms Q P c → P c) → P (cd_X3_beginRule, am_ent 2 as, [], hp, 0, 0)) : am_run K I am_m (d + 1) 37 as hp mc ms Q := ⟨hs, h⟩
theorem en_X3_beginTest {K : am_K} {I : am_I} {d mc ms : Nat} {as : List Value} {hp : am_H} {Q : Option Value → am_H → Prop} (hs : Nat.ble (am_ws as) 1 = true) (h : ∀ P : am_C → Prop, (∀ c, am_step K I (am_run K I am_m d) cd_X3_beginTest mc ms Q P c → P c) → P (cd_X3_beginTest, am_ent 1 as, [], hp, 0, 0)) : am_run K I am_m (d + 1) 38 as hp mc ms Q := ⟨hs, h⟩
theorem en_X3_put {K : am_K} {I : am_I} {d mc ms : Nat} {as : List Value} {hp : am_H} {Q : Option Value → am_H → Prop} (hs : Nat.ble (am_ws as) 3 = true) (h : ∀ P : am_C → Prop, (∀ c, am_step K I (am_run K I am_m d) cd_X3_put mc ms Q P c → P c) → P (cd_X3_put, am_ent 3 as, [], hp, 0, 0)) : am_run K I am_m (d + 1) 39 as hp mc ms Q := ⟨hs, h⟩
theorem en_X3_letGoOnHere {K : am_K} {I : am_I} {d mc ms : Nat} {as : List Value} {hp : am_H} {Q : Option Value → am_H → Prop} (hs : Nat.ble (am_ws as) 2 = true) (h : ∀ P : am_C → Prop, (∀ c, am_step K I (am_run K I am_m d) cd_X3_letGoOnHere mc ms Q P c → P c) → P (cd_X3_letGoOnHere, am_ent 2 as, [], hp, 0, 0)) : am_run K I am_m (d + 1) 40 as hp mc ms Q := ⟨hs, h⟩
theorem en_X3_lookAt {K : am_K} {I : am_I} {d mc ms : Nat} {as : List Value} {hp : am_H} {Q : Option Value → am_H → Prop} (hs : Nat.ble (am_ws as) 6 = true) (h : ∀ P : am_C → Prop, (∀ c, am_step K I (am_run K I am_m d) cd_X3_lookAt mc ms Q P c → P c) → P (cd_X3_lookAt, am_ent 6 as, [], hp, 0, 0)) : am_run K I am_m (d + 1) 41 as hp mc ms Q := ⟨hs, h⟩
theorem en_X3_amountOf {K : am_K} {I : am_I} {d mc ms : Nat} {as : List Value} {hp : am_H} {Q : Option Value → am_H → Prop} (hs : Nat.ble (am_ws as) 4 = true) (h : ∀ P : am_C → Prop, (∀ c, am_step K I (am_run K I am_m d) cd_X3_amountOf mc ms Q P c → P c) → P (cd_X3_amountOf, am_ent 4 as, [], hp, 0, 0)) : am_run K I am_m (d + 1) 42 as hp mc ms Q := ⟨hs, h⟩
theorem en_X3_anyHolds {K : am_K} {I : am_I} {d mc ms : Nat} {as : List Value} {hp : am_H} {Q : Option Value → am_H → Prop} (hs : Nat.ble (am_ws as) 3 = true) (h : ∀ P : am_C → Prop, (∀ c, am_step K I (am_run K I am_m d) cd_X3_anyHolds mc ms Q P c → P c) → P (cd_X3_anyHolds, am_ent 3 as, [], hp, 0, 0)) : am_run K I am_m (d + 1) 43 as hp mc ms Q := ⟨hs, h⟩
theorem en_X3_speaksOf {K : am_K} {I : am_I} {d mc ms : Nat} {as : List Value} {hp : am_H} {Q : Option Value → am_H → Prop} (hs : Nat.ble (am_ws as) 3 = true) (h : ∀ P : am_C → Prop, (∀ c, am_step K I (am_run K I am_m d) cd_X3_speaksOf mc ms Q P c → P c) → P (cd_X3_speaksOf, am_ent 3 as, [], hp, 0, 0)) : am_run K I am_m (d + 1) 44 as hp mc ms Q := ⟨hs, h⟩
theorem en_X3_reckon {K : am_K} {I : am_I} {d mc ms : Nat} {as : List Value} {hp : am_H} {Q : Option Value → am_H → Prop} (hs : Nat.ble (am_ws as) 6 = true) (h : ∀ P : am_C → Prop, (∀ c, am_step K I (am_run K I am_m d) cd_X3_reckon mc ms Q P c → P c) → P (cd_X3_reckon, am_ent 6 as, [], hp, 0, 0)) : am_run K I am_m (d + 1) 45 as hp mc ms Q := ⟨hs, h⟩
theorem en_X3_seenAt {K : am_K} {I : am_I} {d mc ms : Nat} {as : List Value} {hp : am_H} {Q : Option Value → am_H → Prop} (hs : Nat.ble (am_ws as) 2 = true) (h : ∀ P : am_C → Prop, (∀ c, am_step K I (am_run K I am_m d) cd_X3_seenAt mc ms Q P c → P c) → P (cd_X3_seenAt, am_ent 2 as, [], hp, 0, 0)) : am_run K I am_m (d + 1) 46 as hp mc ms Q := ⟨hs, h⟩
theorem en_X3_isRefused {K : am_K} {I : am_I} {d mc ms : Nat} {as : List Value} {hp : am_H} {Q : Option Value → am_H → Prop} (hs : Nat.ble (am_ws as) 2 = true) (h : ∀ P : am_C → Prop, (∀ c, am_step K I (am_run K I am_m d) cd_X3_isRefused mc ms Q P c → P c) → P (cd_X3_isRefused, am_ent 2 as, [], hp, 0, 0)) : am_run K I am_m (d + 1) 47 as hp mc ms Q := ⟨hs, h⟩
theorem en_X3_join {K : am_K} {I : am_I} {d mc ms : Nat} {as : List Value} {hp : am_H} {Q : Option Value → am_H → Prop} (hs : Nat.ble (am_ws as) 3 = true) (h : ∀ P : am_C → Prop, (∀ c, am_step K I (am_run K I am_m d) cd_X3_join mc ms Q P c → P c) → P (cd_X3_join, am_ent 3 as, [], hp, 0, 0)) : am_run K I am_m (d + 1) 48 as hp mc ms Q := ⟨hs, h⟩
theorem en_X4_init {K : am_K} {I : am_I} {d mc ms : Nat} {as : List Value} {hp : am_H} {Q : Option Value → am_H → Prop} (hs : Nat.ble (am_ws as) 2 = true) (h : ∀ P : am_C → Prop, (∀ c, am_step K I (am_run K I am_m d) cd_X4_init mc ms Q P c → P c) → P (cd_X4_init, am_ent 2 as, [], hp, 0, 0)) : am_run K I am_m (d + 1) 49 as hp mc ms Q := ⟨hs, h⟩
theorem en_X4_readLine {K : am_K} {I : am_I} {d mc ms : Nat} {as : List Value} {hp : am_H} {Q : Option Value → am_H → Prop} (hs : Nat.ble (am_ws as) 3 = true) (h : ∀ P : am_C → Prop, (∀ c, am_step K I (am_run K I am_m d) cd_X4_readLine mc ms Q P c → P c) → P (cd_X4_readLine, am_ent 3 as, [], hp, 0, 0)) : am_run K I am_m (d + 1) 50 as hp mc ms Q := ⟨hs, h⟩
theorem en_X4_readGroup {K : am_K} {I : am_I} {d mc ms : Nat} {as : List Value} {hp : am_H} {Q : Option Value → am_H → Prop} (hs : Nat.ble (am_ws as) 1 = true) (h : ∀ P : am_C → Prop, (∀ c, am_step K I (am_run K I am_m d) cd_X4_readGroup mc ms Q P c → P c) → P (cd_X4_readGroup, am_ent 1 as, [], hp, 0, 0)) : am_run K I am_m (d + 1) 51 as hp mc ms Q := ⟨hs, h⟩
theorem en_X4_readChoice {K : am_K} {I : am_I} {d mc ms : Nat} {as : List Value} {hp : am_H} {Q : Option Value → am_H → Prop} (hs : Nat.ble (am_ws as) 3 = true) (h : ∀ P : am_C → Prop, (∀ c, am_step K I (am_run K I am_m d) cd_X4_readChoice mc ms Q P c → P c) → P (cd_X4_readChoice, am_ent 3 as, [], hp, 0, 0)) : am_run K I am_m (d + 1) 52 as hp mc ms Q := ⟨hs, h⟩
theorem en_X4_readPart {K : am_K} {I : am_I} {d mc ms : Nat} {as : List Value} {hp : am_H} {Q : Option Value → am_H → Prop} (hs : Nat.ble (am_ws as) 3 = true) (h : ∀ P : am_C → Prop, (∀ c, am_step K I (am_run K I am_m d) cd_X4_readPart mc ms Q P c → P c) → P (cd_X4_readPart, am_ent 3 as, [], hp, 0, 0)) : am_run K I am_m (d + 1) 53 as hp mc ms Q := ⟨hs, h⟩
theorem en_X4_readTest {K : am_K} {I : am_I} {d mc ms : Nat} {as : List Value} {hp : am_H} {Q : Option Value → am_H → Prop} (hs : Nat.ble (am_ws as) 2 = true) (h : ∀ P : am_C → Prop, (∀ c, am_step K I (am_run K I am_m d) cd_X4_readTest mc ms Q P c → P c) → P (cd_X4_readTest, am_ent 2 as, [], hp, 0, 0)) : am_run K I am_m (d + 1) 54 as hp mc ms Q := ⟨hs, h⟩
theorem en_X4_readNot {K : am_K} {I : am_I} {d mc ms : Nat} {as : List Value} {hp : am_H} {Q : Option Value → am_H → Prop} (hs : Nat.ble (am_ws as) 1 = true) (h : ∀ P : am_C → Prop, (∀ c, am_step K I (am_run K I am_m d) cd_X4_readNot mc ms Q P c → P c) → P (cd_X4_readNot, am_ent 1 as, [], hp, 0, 0)) : am_run K I am_m (d + 1) 55 as hp mc ms Q := ⟨hs, h⟩
theorem en_X4_readSum {K : am_K} {I : am_I} {d mc ms : Nat} {as : List Value} {hp : am_H} {Q : Option Value → am_H → Prop} (hs : Nat.ble (am_ws as) 3 = true) (h : ∀ P : am_C → Prop, (∀ c, am_step K I (am_run K I am_m d) cd_X4_readSum mc ms Q P c → P c) → P (cd_X4_readSum, am_ent 3 as, [], hp, 0, 0)) : am_run K I am_m (d + 1) 56 as hp mc ms Q := ⟨hs, h⟩
theorem en_X4_readTerm {K : am_K} {I : am_I} {d mc ms : Nat} {as : List Value} {hp : am_H} {Q : Option Value → am_H → Prop} (hs : Nat.ble (am_ws as) 3 = true) (h : ∀ P : am_C → Prop, (∀ c, am_step K I (am_run K I am_m d) cd_X4_readTerm mc ms Q P c → P c) → P (cd_X4_readTerm, am_ent 3 as, [], hp, 0, 0)) : am_run K I am_m (d + 1) 57 as hp mc ms Q := ⟨hs, h⟩
theorem en_X4_readFactor {K : am_K} {I : am_I} {d mc ms : Nat} {as : List Value} {hp : am_H} {Q : Option Value → am_H → Prop} (hs : Nat.ble (am_ws as) 1 = true) (h : ∀ P : am_C → Prop, (∀ c, am_step K I (am_run K I am_m d) cd_X4_readFactor mc ms Q P c → P c) → P (cd_X4_readFactor, am_ent 1 as, [], hp, 0, 0)) : am_run K I am_m (d + 1) 58 as hp mc ms Q := ⟨hs, h⟩
theorem en_X4_readBracket {K : am_K} {I : am_I} {d mc ms : Nat} {as : List Value} {hp : am_H} {Q : Option Value → am_H → Prop} (hs : Nat.ble (am_ws as) 1 = true) (h : ∀ P : am_C → Prop, (∀ c, am_step K I (am_run K I am_m d) cd_X4_readBracket mc ms Q P c → P c) → P (cd_X4_readBracket, am_ent 1 as, [], hp, 0, 0)) : am_run K I am_m (d + 1) 59 as hp mc ms Q := ⟨hs, h⟩
theorem en_X4_opens {K : am_K} {I : am_I} {d mc ms : Nat} {as : List Value} {hp : am_H} {Q : Option Value → am_H → Prop} (hs : Nat.ble (am_ws as) 1 = true) (h : ∀ P : am_C → Prop, (∀ c, am_step K I (am_run K I am_m d) cd_X4_opens mc ms Q P c → P c) → P (cd_X4_opens, am_ent 1 as, [], hp, 0, 0)) : am_run K I am_m (d + 1) 60 as hp mc ms Q := ⟨hs, h⟩
theorem en_X5_init {K : am_K} {I : am_I} {d mc ms : Nat} {as : List Value} {hp : am_H} {Q : Option Value → am_H → Prop} (hs : Nat.ble (am_ws as) 1 = true) (h : ∀ P : am_C → Prop, (∀ c, am_step K I (am_run K I am_m d) cd_X5_init mc ms Q P c → P c) → P (cd_X5_init, am_ent 1 as, [], hp, 0, 0)) : am_run K I am_m (d + 1) 61 as hp mc ms Q := ⟨hs, h⟩
theorem en_X5_kingOf {K : am_K} {I : am_I} {d mc ms : Nat} {as : List Value} {hp : am_H} {Q : Option Value → am_H → Prop} (hs : Nat.ble (am_ws as) 2 = true) (h : ∀ P : am_C → Prop, (∀ c, am_step K I (am_run K I am_m d) cd_X5_kingOf mc ms Q P c → P c) → P (cd_X5_kingOf, am_ent 2 as, [], hp, 0, 0)) : am_run K I am_m (d + 1) 62 as hp mc ms Q := ⟨hs, h⟩
theorem en_X5_become {K : am_K} {I : am_I} {d mc ms : Nat} {as : List Value} {hp : am_H} {Q : Option Value → am_H → Prop} (hs : Nat.ble (am_ws as) 2 = true) (h : ∀ P : am_C → Prop, (∀ c, am_step K I (am_run K I am_m d) cd_X5_become mc ms Q P c → P c) → P (cd_X5_become, am_ent 2 as, [], hp, 0, 0)) : am_run K I am_m (d + 1) 63 as hp mc ms Q := ⟨hs, h⟩
theorem en_X5_whoArrived {K : am_K} {I : am_I} {d mc ms : Nat} {as : List Value} {hp : am_H} {Q : Option Value → am_H → Prop} (hs : Nat.ble (am_ws as) 1 = true) (h : ∀ P : am_C → Prop, (∀ c, am_step K I (am_run K I am_m d) cd_X5_whoArrived mc ms Q P c → P c) → P (cd_X5_whoArrived, am_ent 1 as, [], hp, 0, 0)) : am_run K I am_m (d + 1) 64 as hp mc ms Q := ⟨hs, h⟩
theorem en_X5_haveMet {K : am_K} {I : am_I} {d mc ms : Nat} {as : List Value} {hp : am_H} {Q : Option Value → am_H → Prop} (hs : Nat.ble (am_ws as) 1 = true) (h : ∀ P : am_C → Prop, (∀ c, am_step K I (am_run K I am_m d) cd_X5_haveMet mc ms Q P c → P c) → P (cd_X5_haveMet, am_ent 1 as, [], hp, 0, 0)) : am_run K I am_m (d + 1) 65 as hp mc ms Q := ⟨hs, h⟩
theorem en_X5_whoLeft {K : am_K} {I : am_I} {d mc ms : Nat} {as : List Value} {hp : am_H} {Q : Option Value → am_H → Prop} (hs : Nat.ble (am_ws as) 1 = true) (h : ∀ P : am_C → Prop, (∀ c, am_step K I (am_run K I am_m d) cd_X5_whoLeft mc ms Q P c → P c) → P (cd_X5_whoLeft, am_ent 1 as, [], hp, 0, 0)) : am_run K I am_m (d + 1) 66 as hp mc ms Q := ⟨hs, h⟩
theorem en_X5_lead {K : am_K} {I : am_I} {d mc ms : Nat} {as : List Value} {hp : am_H} {Q : Option Value → am_H → Prop} (hs : Nat.ble (am_ws as) 1 = true) (h : ∀ P : am_C → Prop, (∀ c, am_step K I (am_run K I am_m d) cd_X5_lead mc ms Q P c → P c) → P (cd_X5_lead, am_ent 1 as, [], hp, 0, 0)) : am_run K I am_m (d + 1) 67 as hp mc ms Q := ⟨hs, h⟩
theorem en_X5_whoIsNearer {K : am_K} {I : am_I} {d mc ms : Nat} {as : List Value} {hp : am_H} {Q : Option Value → am_H → Prop} (hs : Nat.ble (am_ws as) 1 = true) (h : ∀ P : am_C → Prop, (∀ c, am_step K I (am_run K I am_m d) cd_X5_whoIsNearer mc ms Q P c → P c) → P (cd_X5_whoIsNearer, am_ent 1 as, [], hp, 0, 0)) : am_run K I am_m (d + 1) 68 as hp mc ms Q := ⟨hs, h⟩
theorem en_X5_breathe {K : am_K} {I : am_I} {d mc ms : Nat} {as : List Value} {hp : am_H} {Q : Option Value → am_H → Prop} (hs : Nat.ble (am_ws as) 4 = true) (h : ∀ P : am_C → Prop, (∀ c, am_step K I (am_run K I am_m d) cd_X5_breathe mc ms Q P c → P c) → P (cd_X5_breathe, am_ent 4 as, [], hp, 0, 0)) : am_run K I am_m (d + 1) 69 as hp mc ms Q := ⟨hs, h⟩
theorem en_X5_draw {K : am_K} {I : am_I} {d mc ms : Nat} {as : List Value} {hp : am_H} {Q : Option Value → am_H → Prop} (hs : Nat.ble (am_ws as) 1 = true) (h : ∀ P : am_C → Prop, (∀ c, am_step K I (am_run K I am_m d) cd_X5_draw mc ms Q P c → P c) → P (cd_X5_draw, am_ent 1 as, [], hp, 0, 0)) : am_run K I am_m (d + 1) 70 as hp mc ms Q := ⟨hs, h⟩
theorem en_X6_init {K : am_K} {I : am_I} {d mc ms : Nat} {as : List Value} {hp : am_H} {Q : Option Value → am_H → Prop} (hs : Nat.ble (am_ws as) 2 = true) (h : ∀ P : am_C → Prop, (∀ c, am_step K I (am_run K I am_m d) cd_X6_init mc ms Q P c → P c) → P (cd_X6_init, am_ent 2 as, [], hp, 0, 0)) : am_run K I am_m (d + 1) 71 as hp mc ms Q := ⟨hs, h⟩
theorem en_X6_readLine {K : am_K} {I : am_I} {d mc ms : Nat} {as : List Value} {hp : am_H} {Q : Option Value → am_H → Prop} (hs : Nat.ble (am_ws as) 3 = true) (h : ∀ P : am_C → Prop, (∀ c, am_step K I (am_run K I am_m d) cd_X6_readLine mc ms Q P c → P c) → P (cd_X6_readLine, am_ent 3 as, [], hp, 0, 0)) : am_run K I am_m (d + 1) 72 as hp mc ms Q := ⟨hs, h⟩
theorem en_X6_obey {K : am_K} {I : am_I} {d mc ms : Nat} {as : List Value} {hp : am_H} {Q : Option Value → am_H → Prop} (hs : Nat.ble (am_ws as) 4 = true) (h : ∀ P : am_C → Prop, (∀ c, am_step K I (am_run K I am_m d) cd_X6_obey mc ms Q P c → P c) → P (cd_X6_obey, am_ent 4 as, [], hp, 0, 0)) : am_run K I am_m (d + 1) 73 as hp mc ms Q := ⟨hs, h⟩
theorem en_X6_obeyLine {K : am_K} {I : am_I} {d mc ms : Nat} {as : List Value} {hp : am_H} {Q : Option Value → am_H → Prop} (hs : Nat.ble (am_ws as) 3 = true) (h : ∀ P : am_C → Prop, (∀ c, am_step K I (am_run K I am_m d) cd_X6_obeyLine mc ms Q P c → P c) → P (cd_X6_obeyLine, am_ent 3 as, [], hp, 0, 0)) : am_run K I am_m (d + 1) 74 as hp mc ms Q := ⟨hs, h⟩
theorem en_X7_init {K : am_K} {I : am_I} {d mc ms : Nat} {as : List Value} {hp : am_H} {Q : Option Value → am_H → Prop} (hs : Nat.ble (am_ws as) 2 = true) (h : ∀ P : am_C → Prop, (∀ c, am_step K I (am_run K I am_m d) cd_X7_init mc ms Q P c → P c) → P (cd_X7_init, am_ent 2 as, [], hp, 0, 0)) : am_run K I am_m (d + 1) 75 as hp mc ms Q := ⟨hs, h⟩
theorem en_X7_readText {K : am_K} {I : am_I} {d mc ms : Nat} {as : List Value} {hp : am_H} {Q : Option Value → am_H → Prop} (hs : Nat.ble (am_ws as) 3 = true) (h : ∀ P : am_C → Prop, (∀ c, am_step K I (am_run K I am_m d) cd_X7_readText mc ms Q P c → P c) → P (cd_X7_readText, am_ent 3 as, [], hp, 0, 0)) : am_run K I am_m (d + 1) 76 as hp mc ms Q := ⟨hs, h⟩
theorem en_X7_isOn {K : am_K} {I : am_I} {d mc ms : Nat} {as : List Value} {hp : am_H} {Q : Option Value → am_H → Prop} (hs : Nat.ble (am_ws as) 2 = true) (h : ∀ P : am_C → Prop, (∀ c, am_step K I (am_run K I am_m d) cd_X7_isOn mc ms Q P c → P c) → P (cd_X7_isOn, am_ent 2 as, [], hp, 0, 0)) : am_run K I am_m (d + 1) 77 as hp mc ms Q := ⟨hs, h⟩
theorem en_X7_takes {K : am_K} {I : am_I} {d mc ms : Nat} {as : List Value} {hp : am_H} {Q : Option Value → am_H → Prop} (hs : Nat.ble (am_ws as) 2 = true) (h : ∀ P : am_C → Prop, (∀ c, am_step K I (am_run K I am_m d) cd_X7_takes mc ms Q P c → P c) → P (cd_X7_takes, am_ent 2 as, [], hp, 0, 0)) : am_run K I am_m (d + 1) 78 as hp mc ms Q := ⟨hs, h⟩
theorem en_X7_readNumber {K : am_K} {I : am_I} {d mc ms : Nat} {as : List Value} {hp : am_H} {Q : Option Value → am_H → Prop} (hs : Nat.ble (am_ws as) 4 = true) (h : ∀ P : am_C → Prop, (∀ c, am_step K I (am_run K I am_m d) cd_X7_readNumber mc ms Q P c → P c) → P (cd_X7_readNumber, am_ent 4 as, [], hp, 0, 0)) : am_run K I am_m (d + 1) 79 as hp mc ms Q := ⟨hs, h⟩
theorem en_X7_cannotStand {K : am_K} {I : am_I} {d mc ms : Nat} {as : List Value} {hp : am_H} {Q : Option Value → am_H → Prop} (hs : Nat.ble (am_ws as) 1 = true) (h : ∀ P : am_C → Prop, (∀ c, am_step K I (am_run K I am_m d) cd_X7_cannotStand mc ms Q P c → P c) → P (cd_X7_cannotStand, am_ent 1 as, [], hp, 0, 0)) : am_run K I am_m (d + 1) 80 as hp mc ms Q := ⟨hs, h⟩
theorem en_X7_fails {K : am_K} {I : am_I} {d mc ms : Nat} {as : List Value} {hp : am_H} {Q : Option Value → am_H → Prop} (hs : Nat.ble (am_ws as) 3 = true) (h : ∀ P : am_C → Prop, (∀ c, am_step K I (am_run K I am_m d) cd_X7_fails mc ms Q P c → P c) → P (cd_X7_fails, am_ent 3 as, [], hp, 0, 0)) : am_run K I am_m (d + 1) 81 as hp mc ms Q := ⟨hs, h⟩
theorem en_X8_init {K : am_K} {I : am_I} {d mc ms : Nat} {as : List Value} {hp : am_H} {Q : Option Value → am_H → Prop} (hs : Nat.ble (am_ws as) 1 = true) (h : ∀ P : am_C → Prop, (∀ c, am_step K I (am_run K I am_m d) cd_X8_init mc ms Q P c → P c) → P (cd_X8_init, am_ent 1 as, [], hp, 0, 0)) : am_run K I am_m (d + 1) 82 as hp mc ms Q := ⟨hs, h⟩
theorem en_X8_has {K : am_K} {I : am_I} {d mc ms : Nat} {as : List Value} {hp : am_H} {Q : Option Value → am_H → Prop} (hs : Nat.ble (am_ws as) 2 = true) (h : ∀ P : am_C → Prop, (∀ c, am_step K I (am_run K I am_m d) cd_X8_has mc ms Q P c → P c) → P (cd_X8_has, am_ent 2 as, [], hp, 0, 0)) : am_run K I am_m (d + 1) 83 as hp mc ms Q := ⟨hs, h⟩
theorem en_X8_append {K : am_K} {I : am_I} {d mc ms : Nat} {as : List Value} {hp : am_H} {Q : Option Value → am_H → Prop} (hs : Nat.ble (am_ws as) 3 = true) (h : ∀ P : am_C → Prop, (∀ c, am_step K I (am_run K I am_m d) cd_X8_append mc ms Q P c → P c) → P (cd_X8_append, am_ent 3 as, [], hp, 0, 0)) : am_run K I am_m (d + 1) 84 as hp mc ms Q := ⟨hs, h⟩
theorem en_X8_byteAt {K : am_K} {I : am_I} {d mc ms : Nat} {as : List Value} {hp : am_H} {Q : Option Value → am_H → Prop} (hs : Nat.ble (am_ws as) 2 = true) (h : ∀ P : am_C → Prop, (∀ c, am_step K I (am_run K I am_m d) cd_X8_byteAt mc ms Q P c → P c) → P (cd_X8_byteAt, am_ent 2 as, [], hp, 0, 0)) : am_run K I am_m (d + 1) 85 as hp mc ms Q := ⟨hs, h⟩
theorem en_X8_clear {K : am_K} {I : am_I} {d mc ms : Nat} {as : List Value} {hp : am_H} {Q : Option Value → am_H → Prop} (hs : Nat.ble (am_ws as) 1 = true) (h : ∀ P : am_C → Prop, (∀ c, am_step K I (am_run K I am_m d) cd_X8_clear mc ms Q P c → P c) → P (cd_X8_clear, am_ent 1 as, [], hp, 0, 0)) : am_run K I am_m (d + 1) 86 as hp mc ms Q := ⟨hs, h⟩
theorem en_X9_init {K : am_K} {I : am_I} {d mc ms : Nat} {as : List Value} {hp : am_H} {Q : Option Value → am_H → Prop} (hs : Nat.ble (am_ws as) 1 = true) (h : ∀ P : am_C → Prop, (∀ c, am_step K I (am_run K I am_m d) cd_X9_init mc ms Q P c → P c) → P (cd_X9_init, am_ent 1 as, [], hp, 0, 0)) : am_run K I am_m (d + 1) 87 as hp mc ms Q := ⟨hs, h⟩
theorem en_X9_become {K : am_K} {I : am_I} {d mc ms : Nat} {as : List Value} {hp : am_H} {Q : Option Value → am_H → Prop} (hs : Nat.ble (am_ws as) 4 = true) (h : ∀ P : am_C → Prop, (∀ c, am_step K I (am_run K I am_m d) cd_X9_become mc ms Q P c → P c) → P (cd_X9_become, am_ent 4 as, [], hp, 0, 0)) : am_run K I am_m (d + 1) 88 as hp mc ms Q := ⟨hs, h⟩
theorem en_X9_names {K : am_K} {I : am_I} {d mc ms : Nat} {as : List Value} {hp : am_H} {Q : Option Value → am_H → Prop} (hs : Nat.ble (am_ws as) 2 = true) (h : ∀ P : am_C → Prop, (∀ c, am_step K I (am_run K I am_m d) cd_X9_names mc ms Q P c → P c) → P (cd_X9_names, am_ent 2 as, [], hp, 0, 0)) : am_run K I am_m (d + 1) 89 as hp mc ms Q := ⟨hs, h⟩
theorem en_X9_atOnceWith {K : am_K} {I : am_I} {d mc ms : Nat} {as : List Value} {hp : am_H} {Q : Option Value → am_H → Prop} (hs : Nat.ble (am_ws as) 2 = true) (h : ∀ P : am_C → Prop, (∀ c, am_step K I (am_run K I am_m d) cd_X9_atOnceWith mc ms Q P c → P c) → P (cd_X9_atOnceWith, am_ent 2 as, [], hp, 0, 0)) : am_run K I am_m (d + 1) 90 as hp mc ms Q := ⟨hs, h⟩
theorem en_X9_aheadOf {K : am_K} {I : am_I} {d mc ms : Nat} {as : List Value} {hp : am_H} {Q : Option Value → am_H → Prop} (hs : Nat.ble (am_ws as) 2 = true) (h : ∀ P : am_C → Prop, (∀ c, am_step K I (am_run K I am_m d) cd_X9_aheadOf mc ms Q P c → P c) → P (cd_X9_aheadOf, am_ent 2 as, [], hp, 0, 0)) : am_run K I am_m (d + 1) 91 as hp mc ms Q := ⟨hs, h⟩
theorem en_X9_momentOf {K : am_K} {I : am_I} {d mc ms : Nat} {as : List Value} {hp : am_H} {Q : Option Value → am_H → Prop} (hs : Nat.ble (am_ws as) 2 = true) (h : ∀ P : am_C → Prop, (∀ c, am_step K I (am_run K I am_m d) cd_X9_momentOf mc ms Q P c → P c) → P (cd_X9_momentOf, am_ent 2 as, [], hp, 0, 0)) : am_run K I am_m (d + 1) 92 as hp mc ms Q := ⟨hs, h⟩
theorem en_X9_lastMoment {K : am_K} {I : am_I} {d mc ms : Nat} {as : List Value} {hp : am_H} {Q : Option Value → am_H → Prop} (hs : Nat.ble (am_ws as) 3 = true) (h : ∀ P : am_C → Prop, (∀ c, am_step K I (am_run K I am_m d) cd_X9_lastMoment mc ms Q P c → P c) → P (cd_X9_lastMoment, am_ent 3 as, [], hp, 0, 0)) : am_run K I am_m (d + 1) 93 as hp mc ms Q := ⟨hs, h⟩
theorem en_X9_agrees {K : am_K} {I : am_I} {d mc ms : Nat} {as : List Value} {hp : am_H} {Q : Option Value → am_H → Prop} (hs : Nat.ble (am_ws as) 5 = true) (h : ∀ P : am_C → Prop, (∀ c, am_step K I (am_run K I am_m d) cd_X9_agrees mc ms Q P c → P c) → P (cd_X9_agrees, am_ent 5 as, [], hp, 0, 0)) : am_run K I am_m (d + 1) 94 as hp mc ms Q := ⟨hs, h⟩
theorem en_X9_joinActs {K : am_K} {I : am_I} {d mc ms : Nat} {as : List Value} {hp : am_H} {Q : Option Value → am_H → Prop} (hs : Nat.ble (am_ws as) 5 = true) (h : ∀ P : am_C → Prop, (∀ c, am_step K I (am_run K I am_m d) cd_X9_joinActs mc ms Q P c → P c) → P (cd_X9_joinActs, am_ent 5 as, [], hp, 0, 0)) : am_run K I am_m (d + 1) 95 as hp mc ms Q := ⟨hs, h⟩
theorem en_X9_shareAhead {K : am_K} {I : am_I} {d mc ms : Nat} {as : List Value} {hp : am_H} {Q : Option Value → am_H → Prop} (hs : Nat.ble (am_ws as) 4 = true) (h : ∀ P : am_C → Prop, (∀ c, am_step K I (am_run K I am_m d) cd_X9_shareAhead mc ms Q P c → P c) → P (cd_X9_shareAhead, am_ent 4 as, [], hp, 0, 0)) : am_run K I am_m (d + 1) 96 as hp mc ms Q := ⟨hs, h⟩
theorem en_X9_closeAhead {K : am_K} {I : am_I} {d mc ms : Nat} {as : List Value} {hp : am_H} {Q : Option Value → am_H → Prop} (hs : Nat.ble (am_ws as) 3 = true) (h : ∀ P : am_C → Prop, (∀ c, am_step K I (am_run K I am_m d) cd_X9_closeAhead mc ms Q P c → P c) → P (cd_X9_closeAhead, am_ent 3 as, [], hp, 0, 0)) : am_run K I am_m (d + 1) 97 as hp mc ms Q := ⟨hs, h⟩
theorem en_X9_findMoments {K : am_K} {I : am_I} {d mc ms : Nat} {as : List Value} {hp : am_H} {Q : Option Value → am_H → Prop} (hs : Nat.ble (am_ws as) 3 = true) (h : ∀ P : am_C → Prop, (∀ c, am_step K I (am_run K I am_m d) cd_X9_findMoments mc ms Q P c → P c) → P (cd_X9_findMoments, am_ent 3 as, [], hp, 0, 0)) : am_run K I am_m (d + 1) 98 as hp mc ms Q := ⟨hs, h⟩
theorem en_X9_momentBehind {K : am_K} {I : am_I} {d mc ms : Nat} {as : List Value} {hp : am_H} {Q : Option Value → am_H → Prop} (hs : Nat.ble (am_ws as) 4 = true) (h : ∀ P : am_C → Prop, (∀ c, am_step K I (am_run K I am_m d) cd_X9_momentBehind mc ms Q P c → P c) → P (cd_X9_momentBehind, am_ent 4 as, [], hp, 0, 0)) : am_run K I am_m (d + 1) 99 as hp mc ms Q := ⟨hs, h⟩
theorem en_X10_init {K : am_K} {I : am_I} {d mc ms : Nat} {as : List Value} {hp : am_H} {Q : Option Value → am_H → Prop} (hs : Nat.ble (am_ws as) 2 = true) (h : ∀ P : am_C → Prop, (∀ c, am_step K I (am_run K I am_m d) cd_X10_init mc ms Q P c → P c) → P (cd_X10_init, am_ent 2 as, [], hp, 0, 0)) : am_run K I am_m (d + 1) 100 as hp mc ms Q := ⟨hs, h⟩
theorem en_X10_readLine {K : am_K} {I : am_I} {d mc ms : Nat} {as : List Value} {hp : am_H} {Q : Option Value → am_H → Prop} (hs : Nat.ble (am_ws as) 2 = true) (h : ∀ P : am_C → Prop, (∀ c, am_step K I (am_run K I am_m d) cd_X10_readLine mc ms Q P c → P c) → P (cd_X10_readLine, am_ent 2 as, [], hp, 0, 0)) : am_run K I am_m (d + 1) 101 as hp mc ms Q := ⟨hs, h⟩
theorem en_X11_init {K : am_K} {I : am_I} {d mc ms : Nat} {as : List Value} {hp : am_H} {Q : Option Value → am_H → Prop} (hs : Nat.ble (am_ws as) 1 = true) (h : ∀ P : am_C → Prop, (∀ c, am_step K I (am_run K I am_m d) cd_X11_init mc ms Q P c → P c) → P (cd_X11_init, am_ent 1 as, [], hp, 0, 0)) : am_run K I am_m (d + 1) 102 as hp mc ms Q := ⟨hs, h⟩
theorem en_X11_king {K : am_K} {I : am_I} {d mc ms : Nat} {as : List Value} {hp : am_H} {Q : Option Value → am_H → Prop} (hs : Nat.ble (am_ws as) 4 = true) (h : ∀ P : am_C → Prop, (∀ c, am_step K I (am_run K I am_m d) cd_X11_king mc ms Q P c → P c) → P (cd_X11_king, am_ent 4 as, [], hp, 0, 0)) : am_run K I am_m (d + 1) 103 as hp mc ms Q := ⟨hs, h⟩
theorem en_X11_tolerance {K : am_K} {I : am_I} {d mc ms : Nat} {as : List Value} {hp : am_H} {Q : Option Value → am_H → Prop} (hs : Nat.ble (am_ws as) 3 = true) (h : ∀ P : am_C → Prop, (∀ c, am_step K I (am_run K I am_m d) cd_X11_tolerance mc ms Q P c → P c) → P (cd_X11_tolerance, am_ent 3 as, [], hp, 0, 0)) : am_run K I am_m (d + 1) 104 as hp mc ms Q := ⟨hs, h⟩
theorem en_X11_feed {K : am_K} {I : am_I} {d mc ms : Nat} {as : List Value} {hp : am_H} {Q : Option Value → am_H → Prop} (hs : Nat.ble (am_ws as) 6 = true) (h : ∀ P : am_C → Prop, (∀ c, am_step K I (am_run K I am_m d) cd_X11_feed mc ms Q P c → P c) → P (cd_X11_feed, am_ent 6 as, [], hp, 0, 0)) : am_run K I am_m (d + 1) 105 as hp mc ms Q := ⟨hs, h⟩
theorem en_X11_law {K : am_K} {I : am_I} {d mc ms : Nat} {as : List Value} {hp : am_H} {Q : Option Value → am_H → Prop} (hs : Nat.ble (am_ws as) 3 = true) (h : ∀ P : am_C → Prop, (∀ c, am_step K I (am_run K I am_m d) cd_X11_law mc ms Q P c → P c) → P (cd_X11_law, am_ent 3 as, [], hp, 0, 0)) : am_run K I am_m (d + 1) 106 as hp mc ms Q := ⟨hs, h⟩
theorem en_X11_orders {K : am_K} {I : am_I} {d mc ms : Nat} {as : List Value} {hp : am_H} {Q : Option Value → am_H → Prop} (hs : Nat.ble (am_ws as) 3 = true) (h : ∀ P : am_C → Prop, (∀ c, am_step K I (am_run K I am_m d) cd_X11_orders mc ms Q P c → P c) → P (cd_X11_orders, am_ent 3 as, [], hp, 0, 0)) : am_run K I am_m (d + 1) 107 as hp mc ms Q := ⟨hs, h⟩
theorem en_X11_treaty {K : am_K} {I : am_I} {d mc ms : Nat} {as : List Value} {hp : am_H} {Q : Option Value → am_H → Prop} (hs : Nat.ble (am_ws as) 3 = true) (h : ∀ P : am_C → Prop, (∀ c, am_step K I (am_run K I am_m d) cd_X11_treaty mc ms Q P c → P c) → P (cd_X11_treaty, am_ent 3 as, [], hp, 0, 0)) : am_run K I am_m (d + 1) 108 as hp mc ms Q := ⟨hs, h⟩
theorem en_X11_breaths {K : am_K} {I : am_I} {d mc ms : Nat} {as : List Value} {hp : am_H} {Q : Option Value → am_H → Prop} (hs : Nat.ble (am_ws as) 3 = true) (h : ∀ P : am_C → Prop, (∀ c, am_step K I (am_run K I am_m d) cd_X11_breaths mc ms Q P c → P c) → P (cd_X11_breaths, am_ent 3 as, [], hp, 0, 0)) : am_run K I am_m (d + 1) 109 as hp mc ms Q := ⟨hs, h⟩
theorem en_X11_tried {K : am_K} {I : am_I} {d mc ms : Nat} {as : List Value} {hp : am_H} {Q : Option Value → am_H → Prop} (hs : Nat.ble (am_ws as) 5 = true) (h : ∀ P : am_C → Prop, (∀ c, am_step K I (am_run K I am_m d) cd_X11_tried mc ms Q P c → P c) → P (cd_X11_tried, am_ent 5 as, [], hp, 0, 0)) : am_run K I am_m (d + 1) 110 as hp mc ms Q := ⟨hs, h⟩
theorem en_X11_kingIs {K : am_K} {I : am_I} {d mc ms : Nat} {as : List Value} {hp : am_H} {Q : Option Value → am_H → Prop} (hs : Nat.ble (am_ws as) 4 = true) (h : ∀ P : am_C → Prop, (∀ c, am_step K I (am_run K I am_m d) cd_X11_kingIs mc ms Q P c → P c) → P (cd_X11_kingIs, am_ent 4 as, [], hp, 0, 0)) : am_run K I am_m (d + 1) 111 as hp mc ms Q := ⟨hs, h⟩
theorem en_X11_meet {K : am_K} {I : am_I} {d mc ms : Nat} {as : List Value} {hp : am_H} {Q : Option Value → am_H → Prop} (hs : Nat.ble (am_ws as) 5 = true) (h : ∀ P : am_C → Prop, (∀ c, am_step K I (am_run K I am_m d) cd_X11_meet mc ms Q P c → P c) → P (cd_X11_meet, am_ent 5 as, [], hp, 0, 0)) : am_run K I am_m (d + 1) 112 as hp mc ms Q := ⟨hs, h⟩
theorem en_X11_leaves {K : am_K} {I : am_I} {d mc ms : Nat} {as : List Value} {hp : am_H} {Q : Option Value → am_H → Prop} (hs : Nat.ble (am_ws as) 5 = true) (h : ∀ P : am_C → Prop, (∀ c, am_step K I (am_run K I am_m d) cd_X11_leaves mc ms Q P c → P c) → P (cd_X11_leaves, am_ent 5 as, [], hp, 0, 0)) : am_run K I am_m (d + 1) 113 as hp mc ms Q := ⟨hs, h⟩
theorem en_X11_worst {K : am_K} {I : am_I} {d mc ms : Nat} {as : List Value} {hp : am_H} {Q : Option Value → am_H → Prop} (hs : Nat.ble (am_ws as) 4 = true) (h : ∀ P : am_C → Prop, (∀ c, am_step K I (am_run K I am_m d) cd_X11_worst mc ms Q P c → P c) → P (cd_X11_worst, am_ent 4 as, [], hp, 0, 0)) : am_run K I am_m (d + 1) 114 as hp mc ms Q := ⟨hs, h⟩
theorem en_X11_nearer {K : am_K} {I : am_I} {d mc ms : Nat} {as : List Value} {hp : am_H} {Q : Option Value → am_H → Prop} (hs : Nat.ble (am_ws as) 7 = true) (h : ∀ P : am_C → Prop, (∀ c, am_step K I (am_run K I am_m d) cd_X11_nearer mc ms Q P c → P c) → P (cd_X11_nearer, am_ent 7 as, [], hp, 0, 0)) : am_run K I am_m (d + 1) 115 as hp mc ms Q := ⟨hs, h⟩
theorem en_X11_moments {K : am_K} {I : am_I} {d mc ms : Nat} {as : List Value} {hp : am_H} {Q : Option Value → am_H → Prop} (hs : Nat.ble (am_ws as) 2 = true) (h : ∀ P : am_C → Prop, (∀ c, am_step K I (am_run K I am_m d) cd_X11_moments mc ms Q P c → P c) → P (cd_X11_moments, am_ent 2 as, [], hp, 0, 0)) : am_run K I am_m (d + 1) 116 as hp mc ms Q := ⟨hs, h⟩
theorem en_X11_act {K : am_K} {I : am_I} {d mc ms : Nat} {as : List Value} {hp : am_H} {Q : Option Value → am_H → Prop} (hs : Nat.ble (am_ws as) 3 = true) (h : ∀ P : am_C → Prop, (∀ c, am_step K I (am_run K I am_m d) cd_X11_act mc ms Q P c → P c) → P (cd_X11_act, am_ent 3 as, [], hp, 0, 0)) : am_run K I am_m (d + 1) 117 as hp mc ms Q := ⟨hs, h⟩
theorem en_X11_lane {K : am_K} {I : am_I} {d mc ms : Nat} {as : List Value} {hp : am_H} {Q : Option Value → am_H → Prop} (hs : Nat.ble (am_ws as) 4 = true) (h : ∀ P : am_C → Prop, (∀ c, am_step K I (am_run K I am_m d) cd_X11_lane mc ms Q P c → P c) → P (cd_X11_lane, am_ent 4 as, [], hp, 0, 0)) : am_run K I am_m (d + 1) 118 as hp mc ms Q := ⟨hs, h⟩
theorem en_X11_signing {K : am_K} {I : am_I} {d mc ms : Nat} {as : List Value} {hp : am_H} {Q : Option Value → am_H → Prop} (hs : Nat.ble (am_ws as) 3 = true) (h : ∀ P : am_C → Prop, (∀ c, am_step K I (am_run K I am_m d) cd_X11_signing mc ms Q P c → P c) → P (cd_X11_signing, am_ent 3 as, [], hp, 0, 0)) : am_run K I am_m (d + 1) 119 as hp mc ms Q := ⟨hs, h⟩
theorem en_X11_titles {K : am_K} {I : am_I} {d mc ms : Nat} {as : List Value} {hp : am_H} {Q : Option Value → am_H → Prop} (hs : Nat.ble (am_ws as) 6 = true) (h : ∀ P : am_C → Prop, (∀ c, am_step K I (am_run K I am_m d) cd_X11_titles mc ms Q P c → P c) → P (cd_X11_titles, am_ent 6 as, [], hp, 0, 0)) : am_run K I am_m (d + 1) 120 as hp mc ms Q := ⟨hs, h⟩
theorem en_X11_gifts {K : am_K} {I : am_I} {d mc ms : Nat} {as : List Value} {hp : am_H} {Q : Option Value → am_H → Prop} (hs : Nat.ble (am_ws as) 3 = true) (h : ∀ P : am_C → Prop, (∀ c, am_step K I (am_run K I am_m d) cd_X11_gifts mc ms Q P c → P c) → P (cd_X11_gifts, am_ent 3 as, [], hp, 0, 0)) : am_run K I am_m (d + 1) 121 as hp mc ms Q := ⟨hs, h⟩
theorem en_X11_cushions {K : am_K} {I : am_I} {d mc ms : Nat} {as : List Value} {hp : am_H} {Q : Option Value → am_H → Prop} (hs : Nat.ble (am_ws as) 7 = true) (h : ∀ P : am_C → Prop, (∀ c, am_step K I (am_run K I am_m d) cd_X11_cushions mc ms Q P c → P c) → P (cd_X11_cushions, am_ent 7 as, [], hp, 0, 0)) : am_run K I am_m (d + 1) 122 as hp mc ms Q := ⟨hs, h⟩
theorem en_X11_table {K : am_K} {I : am_I} {d mc ms : Nat} {as : List Value} {hp : am_H} {Q : Option Value → am_H → Prop} (hs : Nat.ble (am_ws as) 3 = true) (h : ∀ P : am_C → Prop, (∀ c, am_step K I (am_run K I am_m d) cd_X11_table mc ms Q P c → P c) → P (cd_X11_table, am_ent 3 as, [], hp, 0, 0)) : am_run K I am_m (d + 1) 123 as hp mc ms Q := ⟨hs, h⟩
theorem en_X11_drums {K : am_K} {I : am_I} {d mc ms : Nat} {as : List Value} {hp : am_H} {Q : Option Value → am_H → Prop} (hs : Nat.ble (am_ws as) 7 = true) (h : ∀ P : am_C → Prop, (∀ c, am_step K I (am_run K I am_m d) cd_X11_drums mc ms Q P c → P c) → P (cd_X11_drums, am_ent 7 as, [], hp, 0, 0)) : am_run K I am_m (d + 1) 124 as hp mc ms Q := ⟨hs, h⟩
theorem en_X11_tent {K : am_K} {I : am_I} {d mc ms : Nat} {as : List Value} {hp : am_H} {Q : Option Value → am_H → Prop} (hs : Nat.ble (am_ws as) 3 = true) (h : ∀ P : am_C → Prop, (∀ c, am_step K I (am_run K I am_m d) cd_X11_tent mc ms Q P c → P c) → P (cd_X11_tent, am_ent 3 as, [], hp, 0, 0)) : am_run K I am_m (d + 1) 125 as hp mc ms Q := ⟨hs, h⟩
theorem en_X11_stairs {K : am_K} {I : am_I} {d mc ms : Nat} {as : List Value} {hp : am_H} {Q : Option Value → am_H → Prop} (hs : Nat.ble (am_ws as) 4 = true) (h : ∀ P : am_C → Prop, (∀ c, am_step K I (am_run K I am_m d) cd_X11_stairs mc ms Q P c → P c) → P (cd_X11_stairs, am_ent 4 as, [], hp, 0, 0)) : am_run K I am_m (d + 1) 126 as hp mc ms Q := ⟨hs, h⟩
theorem en_X11_heralds {K : am_K} {I : am_I} {d mc ms : Nat} {as : List Value} {hp : am_H} {Q : Option Value → am_H → Prop} (hs : Nat.ble (am_ws as) 5 = true) (h : ∀ P : am_C → Prop, (∀ c, am_step K I (am_run K I am_m d) cd_X11_heralds mc ms Q P c → P c) → P (cd_X11_heralds, am_ent 5 as, [], hp, 0, 0)) : am_run K I am_m (d + 1) 127 as hp mc ms Q := ⟨hs, h⟩
theorem en_X11_seed {K : am_K} {I : am_I} {d mc ms : Nat} {as : List Value} {hp : am_H} {Q : Option Value → am_H → Prop} (hs : Nat.ble (am_ws as) 2 = true) (h : ∀ P : am_C → Prop, (∀ c, am_step K I (am_run K I am_m d) cd_X11_seed mc ms Q P c → P c) → P (cd_X11_seed, am_ent 2 as, [], hp, 0, 0)) : am_run K I am_m (d + 1) 128 as hp mc ms Q := ⟨hs, h⟩
theorem en_X11_keep {K : am_K} {I : am_I} {d mc ms : Nat} {as : List Value} {hp : am_H} {Q : Option Value → am_H → Prop} (hs : Nat.ble (am_ws as) 1 = true) (h : ∀ P : am_C → Prop, (∀ c, am_step K I (am_run K I am_m d) cd_X11_keep mc ms Q P c → P c) → P (cd_X11_keep, am_ent 1 as, [], hp, 0, 0)) : am_run K I am_m (d + 1) 129 as hp mc ms Q := ⟨hs, h⟩
theorem en_X11_undo {K : am_K} {I : am_I} {d mc ms : Nat} {as : List Value} {hp : am_H} {Q : Option Value → am_H → Prop} (hs : Nat.ble (am_ws as) 1 = true) (h : ∀ P : am_C → Prop, (∀ c, am_step K I (am_run K I am_m d) cd_X11_undo mc ms Q P c → P c) → P (cd_X11_undo, am_ent 1 as, [], hp, 0, 0)) : am_run K I am_m (d + 1) 130 as hp mc ms Q := ⟨hs, h⟩
theorem en_X11_check {K : am_K} {I : am_I} {d mc ms : Nat} {as : List Value} {hp : am_H} {Q : Option Value → am_H → Prop} (hs : Nat.ble (am_ws as) 5 = true) (h : ∀ P : am_C → Prop, (∀ c, am_step K I (am_run K I am_m d) cd_X11_check mc ms Q P c → P c) → P (cd_X11_check, am_ent 5 as, [], hp, 0, 0)) : am_run K I am_m (d + 1) 131 as hp mc ms Q := ⟨hs, h⟩
theorem en_X11_count {K : am_K} {I : am_I} {d mc ms : Nat} {as : List Value} {hp : am_H} {Q : Option Value → am_H → Prop} (hs : Nat.ble (am_ws as) 2 = true) (h : ∀ P : am_C → Prop, (∀ c, am_step K I (am_run K I am_m d) cd_X11_count mc ms Q P c → P c) → P (cd_X11_count, am_ent 2 as, [], hp, 0, 0)) : am_run K I am_m (d + 1) 132 as hp mc ms Q := ⟨hs, h⟩
theorem en_X11_goesBy {K : am_K} {I : am_I} {d mc ms : Nat} {as : List Value} {hp : am_H} {Q : Option Value → am_H → Prop} (hs : Nat.ble (am_ws as) 2 = true) (h : ∀ P : am_C → Prop, (∀ c, am_step K I (am_run K I am_m d) cd_X11_goesBy mc ms Q P c → P c) → P (cd_X11_goesBy, am_ent 2 as, [], hp, 0, 0)) : am_run K I am_m (d + 1) 133 as hp mc ms Q := ⟨hs, h⟩
theorem en_X11_triedKing {K : am_K} {I : am_I} {d mc ms : Nat} {as : List Value} {hp : am_H} {Q : Option Value → am_H → Prop} (hs : Nat.ble (am_ws as) 2 = true) (h : ∀ P : am_C → Prop, (∀ c, am_step K I (am_run K I am_m d) cd_X11_triedKing mc ms Q P c → P c) → P (cd_X11_triedKing, am_ent 2 as, [], hp, 0, 0)) : am_run K I am_m (d + 1) 134 as hp mc ms Q := ⟨hs, h⟩
theorem en_X11_outside {K : am_K} {I : am_I} {d mc ms : Nat} {as : List Value} {hp : am_H} {Q : Option Value → am_H → Prop} (hs : Nat.ble (am_ws as) 3 = true) (h : ∀ P : am_C → Prop, (∀ c, am_step K I (am_run K I am_m d) cd_X11_outside mc ms Q P c → P c) → P (cd_X11_outside, am_ent 3 as, [], hp, 0, 0)) : am_run K I am_m (d + 1) 135 as hp mc ms Q := ⟨hs, h⟩
theorem en_X11_whoOfBits {K : am_K} {I : am_I} {d mc ms : Nat} {as : List Value} {hp : am_H} {Q : Option Value → am_H → Prop} (hs : Nat.ble (am_ws as) 1 = true) (h : ∀ P : am_C → Prop, (∀ c, am_step K I (am_run K I am_m d) cd_X11_whoOfBits mc ms Q P c → P c) → P (cd_X11_whoOfBits, am_ent 1 as, [], hp, 0, 0)) : am_run K I am_m (d + 1) 136 as hp mc ms Q := ⟨hs, h⟩
theorem en_X12_init {K : am_K} {I : am_I} {d mc ms : Nat} {as : List Value} {hp : am_H} {Q : Option Value → am_H → Prop} (hs : Nat.ble (am_ws as) 1 = true) (h : ∀ P : am_C → Prop, (∀ c, am_step K I (am_run K I am_m d) cd_X12_init mc ms Q P c → P c) → P (cd_X12_init, am_ent 1 as, [], hp, 0, 0)) : am_run K I am_m (d + 1) 137 as hp mc ms Q := ⟨hs, h⟩
theorem en_X12_in {K : am_K} {I : am_I} {d mc ms : Nat} {as : List Value} {hp : am_H} {Q : Option Value → am_H → Prop} (hs : Nat.ble (am_ws as) 3 = true) (h : ∀ P : am_C → Prop, (∀ c, am_step K I (am_run K I am_m d) cd_X12_in mc ms Q P c → P c) → P (cd_X12_in, am_ent 3 as, [], hp, 0, 0)) : am_run K I am_m (d + 1) 138 as hp mc ms Q := ⟨hs, h⟩
theorem en_X12_min {K : am_K} {I : am_I} {d mc ms : Nat} {as : List Value} {hp : am_H} {Q : Option Value → am_H → Prop} (hs : Nat.ble (am_ws as) 2 = true) (h : ∀ P : am_C → Prop, (∀ c, am_step K I (am_run K I am_m d) cd_X12_min mc ms Q P c → P c) → P (cd_X12_min, am_ent 2 as, [], hp, 0, 0)) : am_run K I am_m (d + 1) 139 as hp mc ms Q := ⟨hs, h⟩
theorem en_X12_max {K : am_K} {I : am_I} {d mc ms : Nat} {as : List Value} {hp : am_H} {Q : Option Value → am_H → Prop} (hs : Nat.ble (am_ws as) 2 = true) (h : ∀ P : am_C → Prop, (∀ c, am_step K I (am_run K I am_m d) cd_X12_max mc ms Q P c → P c) → P (cd_X12_max, am_ent 2 as, [], hp, 0, 0)) : am_run K I am_m (d + 1) 140 as hp mc ms Q := ⟨hs, h⟩
theorem en_X12_size {K : am_K} {I : am_I} {d mc ms : Nat} {as : List Value} {hp : am_H} {Q : Option Value → am_H → Prop} (hs : Nat.ble (am_ws as) 1 = true) (h : ∀ P : am_C → Prop, (∀ c, am_step K I (am_run K I am_m d) cd_X12_size mc ms Q P c → P c) → P (cd_X12_size, am_ent 1 as, [], hp, 0, 0)) : am_run K I am_m (d + 1) 141 as hp mc ms Q := ⟨hs, h⟩
theorem en_X12_has {K : am_K} {I : am_I} {d mc ms : Nat} {as : List Value} {hp : am_H} {Q : Option Value → am_H → Prop} (hs : Nat.ble (am_ws as) 2 = true) (h : ∀ P : am_C → Prop, (∀ c, am_step K I (am_run K I am_m d) cd_X12_has mc ms Q P c → P c) → P (cd_X12_has, am_ent 2 as, [], hp, 0, 0)) : am_run K I am_m (d + 1) 142 as hp mc ms Q := ⟨hs, h⟩
theorem en_X12_bits {K : am_K} {I : am_I} {d mc ms : Nat} {as : List Value} {hp : am_H} {Q : Option Value → am_H → Prop} (hs : Nat.ble (am_ws as) 3 = true) (h : ∀ P : am_C → Prop, (∀ c, am_step K I (am_run K I am_m d) cd_X12_bits mc ms Q P c → P c) → P (cd_X12_bits, am_ent 3 as, [], hp, 0, 0)) : am_run K I am_m (d + 1) 143 as hp mc ms Q := ⟨hs, h⟩
theorem en_X12_copies {K : am_K} {I : am_I} {d mc ms : Nat} {as : List Value} {hp : am_H} {Q : Option Value → am_H → Prop} (hs : Nat.ble (am_ws as) 3 = true) (h : ∀ P : am_C → Prop, (∀ c, am_step K I (am_run K I am_m d) cd_X12_copies mc ms Q P c → P c) → P (cd_X12_copies, am_ent 3 as, [], hp, 0, 0)) : am_run K I am_m (d + 1) 144 as hp mc ms Q := ⟨hs, h⟩
theorem en_X12_haveMet {K : am_K} {I : am_I} {d mc ms : Nat} {as : List Value} {hp : am_H} {Q : Option Value → am_H → Prop} (hs : Nat.ble (am_ws as) 1 = true) (h : ∀ P : am_C → Prop, (∀ c, am_step K I (am_run K I am_m d) cd_X12_haveMet mc ms Q P c → P c) → P (cd_X12_haveMet, am_ent 1 as, [], hp, 0, 0)) : am_run K I am_m (d + 1) 145 as hp mc ms Q := ⟨hs, h⟩
theorem en_X12_goneSet {K : am_K} {I : am_I} {d mc ms : Nat} {as : List Value} {hp : am_H} {Q : Option Value → am_H → Prop} (hs : Nat.ble (am_ws as) 1 = true) (h : ∀ P : am_C → Prop, (∀ c, am_step K I (am_run K I am_m d) cd_X12_goneSet mc ms Q P c → P c) → P (cd_X12_goneSet, am_ent 1 as, [], hp, 0, 0)) : am_run K I am_m (d + 1) 146 as hp mc ms Q := ⟨hs, h⟩
theorem en_X12_king {K : am_K} {I : am_I} {d mc ms : Nat} {as : List Value} {hp : am_H} {Q : Option Value → am_H → Prop} (hs : Nat.ble (am_ws as) 4 = true) (h : ∀ P : am_C → Prop, (∀ c, am_step K I (am_run K I am_m d) cd_X12_king mc ms Q P c → P c) → P (cd_X12_king, am_ent 4 as, [], hp, 0, 0)) : am_run K I am_m (d + 1) 147 as hp mc ms Q := ⟨hs, h⟩
theorem en_X12_tolerance {K : am_K} {I : am_I} {d mc ms : Nat} {as : List Value} {hp : am_H} {Q : Option Value → am_H → Prop} (hs : Nat.ble (am_ws as) 3 = true) (h : ∀ P : am_C → Prop, (∀ c, am_step K I (am_run K I am_m d) cd_X12_tolerance mc ms Q P c → P c) → P (cd_X12_tolerance, am_ent 3 as, [], hp, 0, 0)) : am_run K I am_m (d + 1) 148 as hp mc ms Q := ⟨hs, h⟩
theorem en_X12_types {K : am_K} {I : am_I} {d mc ms : Nat} {as : List Value} {hp : am_H} {Q : Option Value → am_H → Prop} (hs : Nat.ble (am_ws as) 3 = true) (h : ∀ P : am_C → Prop, (∀ c, am_step K I (am_run K I am_m d) cd_X12_types mc ms Q P c → P c) → P (cd_X12_types, am_ent 3 as, [], hp, 0, 0)) : am_run K I am_m (d + 1) 149 as hp mc ms Q := ⟨hs, h⟩
theorem en_X12_feed {K : am_K} {I : am_I} {d mc ms : Nat} {as : List Value} {hp : am_H} {Q : Option Value → am_H → Prop} (hs : Nat.ble (am_ws as) 6 = true) (h : ∀ P : am_C → Prop, (∀ c, am_step K I (am_run K I am_m d) cd_X12_feed mc ms Q P c → P c) → P (cd_X12_feed, am_ent 6 as, [], hp, 0, 0)) : am_run K I am_m (d + 1) 150 as hp mc ms Q := ⟨hs, h⟩
theorem en_X12_octet {K : am_K} {I : am_I} {d mc ms : Nat} {as : List Value} {hp : am_H} {Q : Option Value → am_H → Prop} (hs : Nat.ble (am_ws as) 2 = true) (h : ∀ P : am_C → Prop, (∀ c, am_step K I (am_run K I am_m d) cd_X12_octet mc ms Q P c → P c) → P (cd_X12_octet, am_ent 2 as, [], hp, 0, 0)) : am_run K I am_m (d + 1) 151 as hp mc ms Q := ⟨hs, h⟩
theorem en_X12_here {K : am_K} {I : am_I} {d mc ms : Nat} {as : List Value} {hp : am_H} {Q : Option Value → am_H → Prop} (hs : Nat.ble (am_ws as) 1 = true) (h : ∀ P : am_C → Prop, (∀ c, am_step K I (am_run K I am_m d) cd_X12_here mc ms Q P c → P c) → P (cd_X12_here, am_ent 1 as, [], hp, 0, 0)) : am_run K I am_m (d + 1) 152 as hp mc ms Q := ⟨hs, h⟩
theorem en_X12_isDigit {K : am_K} {I : am_I} {d mc ms : Nat} {as : List Value} {hp : am_H} {Q : Option Value → am_H → Prop} (hs : Nat.ble (am_ws as) 1 = true) (h : ∀ P : am_C → Prop, (∀ c, am_step K I (am_run K I am_m d) cd_X12_isDigit mc ms Q P c → P c) → P (cd_X12_isDigit, am_ent 1 as, [], hp, 0, 0)) : am_run K I am_m (d + 1) 153 as hp mc ms Q := ⟨hs, h⟩
theorem en_X12_wrongAt {K : am_K} {I : am_I} {d mc ms : Nat} {as : List Value} {hp : am_H} {Q : Option Value → am_H → Prop} (hs : Nat.ble (am_ws as) 3 = true) (h : ∀ P : am_C → Prop, (∀ c, am_step K I (am_run K I am_m d) cd_X12_wrongAt mc ms Q P c → P c) → P (cd_X12_wrongAt, am_ent 3 as, [], hp, 0, 0)) : am_run K I am_m (d + 1) 154 as hp mc ms Q := ⟨hs, h⟩
theorem en_X12_takes {K : am_K} {I : am_I} {d mc ms : Nat} {as : List Value} {hp : am_H} {Q : Option Value → am_H → Prop} (hs : Nat.ble (am_ws as) 2 = true) (h : ∀ P : am_C → Prop, (∀ c, am_step K I (am_run K I am_m d) cd_X12_takes mc ms Q P c → P c) → P (cd_X12_takes, am_ent 2 as, [], hp, 0, 0)) : am_run K I am_m (d + 1) 155 as hp mc ms Q := ⟨hs, h⟩
theorem en_X12_readsNumber {K : am_K} {I : am_I} {d mc ms : Nat} {as : List Value} {hp : am_H} {Q : Option Value → am_H → Prop} (hs : Nat.ble (am_ws as) 2 = true) (h : ∀ P : am_C → Prop, (∀ c, am_step K I (am_run K I am_m d) cd_X12_readsNumber mc ms Q P c → P c) → P (cd_X12_readsNumber, am_ent 2 as, [], hp, 0, 0)) : am_run K I am_m (d + 1) 156 as hp mc ms Q := ⟨hs, h⟩
theorem en_X12_notes {K : am_K} {I : am_I} {d mc ms : Nat} {as : List Value} {hp : am_H} {Q : Option Value → am_H → Prop} (hs : Nat.ble (am_ws as) 3 = true) (h : ∀ P : am_C → Prop, (∀ c, am_step K I (am_run K I am_m d) cd_X12_notes mc ms Q P c → P c) → P (cd_X12_notes, am_ent 3 as, [], hp, 0, 0)) : am_run K I am_m (d + 1) 157 as hp mc ms Q := ⟨hs, h⟩
theorem en_X12_opens {K : am_K} {I : am_I} {d mc ms : Nat} {as : List Value} {hp : am_H} {Q : Option Value → am_H → Prop} (hs : Nat.ble (am_ws as) 2 = true) (h : ∀ P : am_C → Prop, (∀ c, am_step K I (am_run K I am_m d) cd_X12_opens mc ms Q P c → P c) → P (cd_X12_opens, am_ent 2 as, [], hp, 0, 0)) : am_run K I am_m (d + 1) 158 as hp mc ms Q := ⟨hs, h⟩
theorem en_X12_waitTop {K : am_K} {I : am_I} {d mc ms : Nat} {as : List Value} {hp : am_H} {Q : Option Value → am_H → Prop} (hs : Nat.ble (am_ws as) 1 = true) (h : ∀ P : am_C → Prop, (∀ c, am_step K I (am_run K I am_m d) cd_X12_waitTop mc ms Q P c → P c) → P (cd_X12_waitTop, am_ent 1 as, [], hp, 0, 0)) : am_run K I am_m (d + 1) 159 as hp mc ms Q := ⟨hs, h⟩
theorem en_X12_factOf {K : am_K} {I : am_I} {d mc ms : Nat} {as : List Value} {hp : am_H} {Q : Option Value → am_H → Prop} (hs : Nat.ble (am_ws as) 1 = true) (h : ∀ P : am_C → Prop, (∀ c, am_step K I (am_run K I am_m d) cd_X12_factOf mc ms Q P c → P c) → P (cd_X12_factOf, am_ent 1 as, [], hp, 0, 0)) : am_run K I am_m (d + 1) 160 as hp mc ms Q := ⟨hs, h⟩
theorem en_X12_sumSign {K : am_K} {I : am_I} {d mc ms : Nat} {as : List Value} {hp : am_H} {Q : Option Value → am_H → Prop} (hs : Nat.ble (am_ws as) 1 = true) (h : ∀ P : am_C → Prop, (∀ c, am_step K I (am_run K I am_m d) cd_X12_sumSign mc ms Q P c → P c) → P (cd_X12_sumSign, am_ent 1 as, [], hp, 0, 0)) : am_run K I am_m (d + 1) 161 as hp mc ms Q := ⟨hs, h⟩
theorem en_X12_closesSums {K : am_K} {I : am_I} {d mc ms : Nat} {as : List Value} {hp : am_H} {Q : Option Value → am_H → Prop} (hs : Nat.ble (am_ws as) 2 = true) (h : ∀ P : am_C → Prop, (∀ c, am_step K I (am_run K I am_m d) cd_X12_closesSums mc ms Q P c → P c) → P (cd_X12_closesSums, am_ent 2 as, [], hp, 0, 0)) : am_run K I am_m (d + 1) 162 as hp mc ms Q := ⟨hs, h⟩
theorem en_X12_readsFactor {K : am_K} {I : am_I} {d mc ms : Nat} {as : List Value} {hp : am_H} {Q : Option Value → am_H → Prop} (hs : Nat.ble (am_ws as) 2 = true) (h : ∀ P : am_C → Prop, (∀ c, am_step K I (am_run K I am_m d) cd_X12_readsFactor mc ms Q P c → P c) → P (cd_X12_readsFactor, am_ent 2 as, [], hp, 0, 0)) : am_run K I am_m (d + 1) 163 as hp mc ms Q := ⟨hs, h⟩
theorem en_X12_hasOpenSum {K : am_K} {I : am_I} {d mc ms : Nat} {as : List Value} {hp : am_H} {Q : Option Value → am_H → Prop} (hs : Nat.ble (am_ws as) 3 = true) (h : ∀ P : am_C → Prop, (∀ c, am_step K I (am_run K I am_m d) cd_X12_hasOpenSum mc ms Q P c → P c) → P (cd_X12_hasOpenSum, am_ent 3 as, [], hp, 0, 0)) : am_run K I am_m (d + 1) 164 as hp mc ms Q := ⟨hs, h⟩
theorem en_X12_readsSum {K : am_K} {I : am_I} {d mc ms : Nat} {as : List Value} {hp : am_H} {Q : Option Value → am_H → Prop} (hs : Nat.ble (am_ws as) 3 = true) (h : ∀ P : am_C → Prop, (∀ c, am_step K I (am_run K I am_m d) cd_X12_readsSum mc ms Q P c → P c) → P (cd_X12_readsSum, am_ent 3 as, [], hp, 0, 0)) : am_run K I am_m (d + 1) 165 as hp mc ms Q := ⟨hs, h⟩
theorem en_X12_endsPiece {K : am_K} {I : am_I} {d mc ms : Nat} {as : List Value} {hp : am_H} {Q : Option Value → am_H → Prop} (hs : Nat.ble (am_ws as) 1 = true) (h : ∀ P : am_C → Prop, (∀ c, am_step K I (am_run K I am_m d) cd_X12_endsPiece mc ms Q P c → P c) → P (cd_X12_endsPiece, am_ent 1 as, [], hp, 0, 0)) : am_run K I am_m (d + 1) 166 as hp mc ms Q := ⟨hs, h⟩
theorem en_X12_lands {K : am_K} {I : am_I} {d mc ms : Nat} {as : List Value} {hp : am_H} {Q : Option Value → am_H → Prop} (hs : Nat.ble (am_ws as) 3 = true) (h : ∀ P : am_C → Prop, (∀ c, am_step K I (am_run K I am_m d) cd_X12_lands mc ms Q P c → P c) → P (cd_X12_lands, am_ent 3 as, [], hp, 0, 0)) : am_run K I am_m (d + 1) 167 as hp mc ms Q := ⟨hs, h⟩
theorem en_X12_jumps {K : am_K} {I : am_I} {d mc ms : Nat} {as : List Value} {hp : am_H} {Q : Option Value → am_H → Prop} (hs : Nat.ble (am_ws as) 2 = true) (h : ∀ P : am_C → Prop, (∀ c, am_step K I (am_run K I am_m d) cd_X12_jumps mc ms Q P c → P c) → P (cd_X12_jumps, am_ent 2 as, [], hp, 0, 0)) : am_run K I am_m (d + 1) 168 as hp mc ms Q := ⟨hs, h⟩
theorem en_X12_readsCompared {K : am_K} {I : am_I} {d mc ms : Nat} {as : List Value} {hp : am_H} {Q : Option Value → am_H → Prop} (hs : Nat.ble (am_ws as) 2 = true) (h : ∀ P : am_C → Prop, (∀ c, am_step K I (am_run K I am_m d) cd_X12_readsCompared mc ms Q P c → P c) → P (cd_X12_readsCompared, am_ent 2 as, [], hp, 0, 0)) : am_run K I am_m (d + 1) 169 as hp mc ms Q := ⟨hs, h⟩
theorem en_X12_readsCondition {K : am_K} {I : am_I} {d mc ms : Nat} {as : List Value} {hp : am_H} {Q : Option Value → am_H → Prop} (hs : Nat.ble (am_ws as) 1 = true) (h : ∀ P : am_C → Prop, (∀ c, am_step K I (am_run K I am_m d) cd_X12_readsCondition mc ms Q P c → P c) → P (cd_X12_readsCondition, am_ent 1 as, [], hp, 0, 0)) : am_run K I am_m (d + 1) 170 as hp mc ms Q := ⟨hs, h⟩
theorem en_X12_readsRule {K : am_K} {I : am_I} {d mc ms : Nat} {as : List Value} {hp : am_H} {Q : Option Value → am_H → Prop} (hs : Nat.ble (am_ws as) 2 = true) (h : ∀ P : am_C → Prop, (∀ c, am_step K I (am_run K I am_m d) cd_X12_readsRule mc ms Q P c → P c) → P (cd_X12_readsRule, am_ent 2 as, [], hp, 0, 0)) : am_run K I am_m (d + 1) 171 as hp mc ms Q := ⟨hs, h⟩
theorem en_X12_beginsText {K : am_K} {I : am_I} {d mc ms : Nat} {as : List Value} {hp : am_H} {Q : Option Value → am_H → Prop} (hs : Nat.ble (am_ws as) 2 = true) (h : ∀ P : am_C → Prop, (∀ c, am_step K I (am_run K I am_m d) cd_X12_beginsText mc ms Q P c → P c) → P (cd_X12_beginsText, am_ent 2 as, [], hp, 0, 0)) : am_run K I am_m (d + 1) 172 as hp mc ms Q := ⟨hs, h⟩
theorem en_X12_law {K : am_K} {I : am_I} {d mc ms : Nat} {as : List Value} {hp : am_H} {Q : Option Value → am_H → Prop} (hs : Nat.ble (am_ws as) 4 = true) (h : ∀ P : am_C → Prop, (∀ c, am_step K I (am_run K I am_m d) cd_X12_law mc ms Q P c → P c) → P (cd_X12_law, am_ent 4 as, [], hp, 0, 0)) : am_run K I am_m (d + 1) 173 as hp mc ms Q := ⟨hs, h⟩
theorem en_X12_reckon {K : am_K} {I : am_I} {d mc ms : Nat} {as : List Value} {hp : am_H} {Q : Option Value → am_H → Prop} (hs : Nat.ble (am_ws as) 3 = true) (h : ∀ P : am_C → Prop, (∀ c, am_step K I (am_run K I am_m d) cd_X12_reckon mc ms Q P c → P c) → P (cd_X12_reckon, am_ent 3 as, [], hp, 0, 0)) : am_run K I am_m (d + 1) 174 as hp mc ms Q := ⟨hs, h⟩
theorem en_X12_comesTo {K : am_K} {I : am_I} {d mc ms : Nat} {as : List Value} {hp : am_H} {Q : Option Value → am_H → Prop} (hs : Nat.ble (am_ws as) 8 = true) (h : ∀ P : am_C → Prop, (∀ c, am_step K I (am_run K I am_m d) cd_X12_comesTo mc ms Q P c → P c) → P (cd_X12_comesTo, am_ent 8 as, [], hp, 0, 0)) : am_run K I am_m (d + 1) 175 as hp mc ms Q := ⟨hs, h⟩
theorem en_X12_byLaw {K : am_K} {I : am_I} {d mc ms : Nat} {as : List Value} {hp : am_H} {Q : Option Value → am_H → Prop} (hs : Nat.ble (am_ws as) 5 = true) (h : ∀ P : am_C → Prop, (∀ c, am_step K I (am_run K I am_m d) cd_X12_byLaw mc ms Q P c → P c) → P (cd_X12_byLaw, am_ent 5 as, [], hp, 0, 0)) : am_run K I am_m (d + 1) 176 as hp mc ms Q := ⟨hs, h⟩
theorem en_X12_holdsAny {K : am_K} {I : am_I} {d mc ms : Nat} {as : List Value} {hp : am_H} {Q : Option Value → am_H → Prop} (hs : Nat.ble (am_ws as) 3 = true) (h : ∀ P : am_C → Prop, (∀ c, am_step K I (am_run K I am_m d) cd_X12_holdsAny mc ms Q P c → P c) → P (cd_X12_holdsAny, am_ent 3 as, [], hp, 0, 0)) : am_run K I am_m (d + 1) 177 as hp mc ms Q := ⟨hs, h⟩
theorem en_X12_hasRule {K : am_K} {I : am_I} {d mc ms : Nat} {as : List Value} {hp : am_H} {Q : Option Value → am_H → Prop} (hs : Nat.ble (am_ws as) 3 = true) (h : ∀ P : am_C → Prop, (∀ c, am_step K I (am_run K I am_m d) cd_X12_hasRule mc ms Q P c → P c) → P (cd_X12_hasRule, am_ent 3 as, [], hp, 0, 0)) : am_run K I am_m (d + 1) 178 as hp mc ms Q := ⟨hs, h⟩
theorem en_X12_readsAmount {K : am_K} {I : am_I} {d mc ms : Nat} {as : List Value} {hp : am_H} {Q : Option Value → am_H → Prop} (hs : Nat.ble (am_ws as) 2 = true) (h : ∀ P : am_C → Prop, (∀ c, am_step K I (am_run K I am_m d) cd_X12_readsAmount mc ms Q P c → P c) → P (cd_X12_readsAmount, am_ent 2 as, [], hp, 0, 0)) : am_run K I am_m (d + 1) 179 as hp mc ms Q := ⟨hs, h⟩
theorem en_X12_obeys {K : am_K} {I : am_I} {d mc ms : Nat} {as : List Value} {hp : am_H} {Q : Option Value → am_H → Prop} (hs : Nat.ble (am_ws as) 3 = true) (h : ∀ P : am_C → Prop, (∀ c, am_step K I (am_run K I am_m d) cd_X12_obeys mc ms Q P c → P c) → P (cd_X12_obeys, am_ent 3 as, [], hp, 0, 0)) : am_run K I am_m (d + 1) 180 as hp mc ms Q := ⟨hs, h⟩
theorem en_X12_readsLine {K : am_K} {I : am_I} {d mc ms : Nat} {as : List Value} {hp : am_H} {Q : Option Value → am_H → Prop} (hs : Nat.ble (am_ws as) 4 = true) (h : ∀ P : am_C → Prop, (∀ c, am_step K I (am_run K I am_m d) cd_X12_readsLine mc ms Q P c → P c) → P (cd_X12_readsLine, am_ent 4 as, [], hp, 0, 0)) : am_run K I am_m (d + 1) 181 as hp mc ms Q := ⟨hs, h⟩
theorem en_X12_orders {K : am_K} {I : am_I} {d mc ms : Nat} {as : List Value} {hp : am_H} {Q : Option Value → am_H → Prop} (hs : Nat.ble (am_ws as) 3 = true) (h : ∀ P : am_C → Prop, (∀ c, am_step K I (am_run K I am_m d) cd_X12_orders mc ms Q P c → P c) → P (cd_X12_orders, am_ent 3 as, [], hp, 0, 0)) : am_run K I am_m (d + 1) 182 as hp mc ms Q := ⟨hs, h⟩
theorem en_X12_feels {K : am_K} {I : am_I} {d mc ms : Nat} {as : List Value} {hp : am_H} {Q : Option Value → am_H → Prop} (hs : Nat.ble (am_ws as) 3 = true) (h : ∀ P : am_C → Prop, (∀ c, am_step K I (am_run K I am_m d) cd_X12_feels mc ms Q P c → P c) → P (cd_X12_feels, am_ent 3 as, [], hp, 0, 0)) : am_run K I am_m (d + 1) 183 as hp mc ms Q := ⟨hs, h⟩
theorem en_X12_asks {K : am_K} {I : am_I} {d mc ms : Nat} {as : List Value} {hp : am_H} {Q : Option Value → am_H → Prop} (hs : Nat.ble (am_ws as) 2 = true) (h : ∀ P : am_C → Prop, (∀ c, am_step K I (am_run K I am_m d) cd_X12_asks mc ms Q P c → P c) → P (cd_X12_asks, am_ent 2 as, [], hp, 0, 0)) : am_run K I am_m (d + 1) 184 as hp mc ms Q := ⟨hs, h⟩
theorem en_X12_moves {K : am_K} {I : am_I} {d mc ms : Nat} {as : List Value} {hp : am_H} {Q : Option Value → am_H → Prop} (hs : Nat.ble (am_ws as) 3 = true) (h : ∀ P : am_C → Prop, (∀ c, am_step K I (am_run K I am_m d) cd_X12_moves mc ms Q P c → P c) → P (cd_X12_moves, am_ent 3 as, [], hp, 0, 0)) : am_run K I am_m (d + 1) 185 as hp mc ms Q := ⟨hs, h⟩
theorem en_X12_offenceTo {K : am_K} {I : am_I} {d mc ms : Nat} {as : List Value} {hp : am_H} {Q : Option Value → am_H → Prop} (hs : Nat.ble (am_ws as) 4 = true) (h : ∀ P : am_C → Prop, (∀ c, am_step K I (am_run K I am_m d) cd_X12_offenceTo mc ms Q P c → P c) → P (cd_X12_offenceTo, am_ent 4 as, [], hp, 0, 0)) : am_run K I am_m (d + 1) 186 as hp mc ms Q := ⟨hs, h⟩
theorem en_X12_apartNow {K : am_K} {I : am_I} {d mc ms : Nat} {as : List Value} {hp : am_H} {Q : Option Value → am_H → Prop} (hs : Nat.ble (am_ws as) 1 = true) (h : ∀ P : am_C → Prop, (∀ c, am_step K I (am_run K I am_m d) cd_X12_apartNow mc ms Q P c → P c) → P (cd_X12_apartNow, am_ent 1 as, [], hp, 0, 0)) : am_run K I am_m (d + 1) 187 as hp mc ms Q := ⟨hs, h⟩
theorem en_X12_goesOn {K : am_K} {I : am_I} {d mc ms : Nat} {as : List Value} {hp : am_H} {Q : Option Value → am_H → Prop} (hs : Nat.ble (am_ws as) 1 = true) (h : ∀ P : am_C → Prop, (∀ c, am_step K I (am_run K I am_m d) cd_X12_goesOn mc ms Q P c → P c) → P (cd_X12_goesOn, am_ent 1 as, [], hp, 0, 0)) : am_run K I am_m (d + 1) 188 as hp mc ms Q := ⟨hs, h⟩
theorem en_X12_thereNow {K : am_K} {I : am_I} {d mc ms : Nat} {as : List Value} {hp : am_H} {Q : Option Value → am_H → Prop} (hs : Nat.ble (am_ws as) 1 = true) (h : ∀ P : am_C → Prop, (∀ c, am_step K I (am_run K I am_m d) cd_X12_thereNow mc ms Q P c → P c) → P (cd_X12_thereNow, am_ent 1 as, [], hp, 0, 0)) : am_run K I am_m (d + 1) 189 as hp mc ms Q := ⟨hs, h⟩
theorem en_X12_breathGoes {K : am_K} {I : am_I} {d mc ms : Nat} {as : List Value} {hp : am_H} {Q : Option Value → am_H → Prop} (hs : Nat.ble (am_ws as) 4 = true) (h : ∀ P : am_C → Prop, (∀ c, am_step K I (am_run K I am_m d) cd_X12_breathGoes mc ms Q P c → P c) → P (cd_X12_breathGoes, am_ent 4 as, [], hp, 0, 0)) : am_run K I am_m (d + 1) 190 as hp mc ms Q := ⟨hs, h⟩
theorem en_X12_breathsGo {K : am_K} {I : am_I} {d mc ms : Nat} {as : List Value} {hp : am_H} {Q : Option Value → am_H → Prop} (hs : Nat.ble (am_ws as) 3 = true) (h : ∀ P : am_C → Prop, (∀ c, am_step K I (am_run K I am_m d) cd_X12_breathsGo mc ms Q P c → P c) → P (cd_X12_breathsGo, am_ent 3 as, [], hp, 0, 0)) : am_run K I am_m (d + 1) 191 as hp mc ms Q := ⟨hs, h⟩
theorem en_X12_breaths {K : am_K} {I : am_I} {d mc ms : Nat} {as : List Value} {hp : am_H} {Q : Option Value → am_H → Prop} (hs : Nat.ble (am_ws as) 2 = true) (h : ∀ P : am_C → Prop, (∀ c, am_step K I (am_run K I am_m d) cd_X12_breaths mc ms Q P c → P c) → P (cd_X12_breaths, am_ent 2 as, [], hp, 0, 0)) : am_run K I am_m (d + 1) 192 as hp mc ms Q := ⟨hs, h⟩
theorem en_X12_tried {K : am_K} {I : am_I} {d mc ms : Nat} {as : List Value} {hp : am_H} {Q : Option Value → am_H → Prop} (hs : Nat.ble (am_ws as) 4 = true) (h : ∀ P : am_C → Prop, (∀ c, am_step K I (am_run K I am_m d) cd_X12_tried mc ms Q P c → P c) → P (cd_X12_tried, am_ent 4 as, [], hp, 0, 0)) : am_run K I am_m (d + 1) 193 as hp mc ms Q := ⟨hs, h⟩
theorem en_X12_kingIs {K : am_K} {I : am_I} {d mc ms : Nat} {as : List Value} {hp : am_H} {Q : Option Value → am_H → Prop} (hs : Nat.ble (am_ws as) 3 = true) (h : ∀ P : am_C → Prop, (∀ c, am_step K I (am_run K I am_m d) cd_X12_kingIs mc ms Q P c → P c) → P (cd_X12_kingIs, am_ent 3 as, [], hp, 0, 0)) : am_run K I am_m (d + 1) 194 as hp mc ms Q := ⟨hs, h⟩
theorem en_X12_meet {K : am_K} {I : am_I} {d mc ms : Nat} {as : List Value} {hp : am_H} {Q : Option Value → am_H → Prop} (hs : Nat.ble (am_ws as) 4 = true) (h : ∀ P : am_C → Prop, (∀ c, am_step K I (am_run K I am_m d) cd_X12_meet mc ms Q P c → P c) → P (cd_X12_meet, am_ent 4 as, [], hp, 0, 0)) : am_run K I am_m (d + 1) 195 as hp mc ms Q := ⟨hs, h⟩
theorem en_X12_leaves {K : am_K} {I : am_I} {d mc ms : Nat} {as : List Value} {hp : am_H} {Q : Option Value → am_H → Prop} (hs : Nat.ble (am_ws as) 4 = true) (h : ∀ P : am_C → Prop, (∀ c, am_step K I (am_run K I am_m d) cd_X12_leaves mc ms Q P c → P c) → P (cd_X12_leaves, am_ent 4 as, [], hp, 0, 0)) : am_run K I am_m (d + 1) 196 as hp mc ms Q := ⟨hs, h⟩
theorem en_X12_worst {K : am_K} {I : am_I} {d mc ms : Nat} {as : List Value} {hp : am_H} {Q : Option Value → am_H → Prop} (hs : Nat.ble (am_ws as) 2 = true) (h : ∀ P : am_C → Prop, (∀ c, am_step K I (am_run K I am_m d) cd_X12_worst mc ms Q P c → P c) → P (cd_X12_worst, am_ent 2 as, [], hp, 0, 0)) : am_run K I am_m (d + 1) 197 as hp mc ms Q := ⟨hs, h⟩
theorem en_X12_nearer {K : am_K} {I : am_I} {d mc ms : Nat} {as : List Value} {hp : am_H} {Q : Option Value → am_H → Prop} (hs : Nat.ble (am_ws as) 3 = true) (h : ∀ P : am_C → Prop, (∀ c, am_step K I (am_run K I am_m d) cd_X12_nearer mc ms Q P c → P c) → P (cd_X12_nearer, am_ent 3 as, [], hp, 0, 0)) : am_run K I am_m (d + 1) 198 as hp mc ms Q := ⟨hs, h⟩
theorem en_X12_readsPair {K : am_K} {I : am_I} {d mc ms : Nat} {as : List Value} {hp : am_H} {Q : Option Value → am_H → Prop} (hs : Nat.ble (am_ws as) 4 = true) (h : ∀ P : am_C → Prop, (∀ c, am_step K I (am_run K I am_m d) cd_X12_readsPair mc ms Q P c → P c) → P (cd_X12_readsPair, am_ent 4 as, [], hp, 0, 0)) : am_run K I am_m (d + 1) 199 as hp mc ms Q := ⟨hs, h⟩
theorem en_X12_treaty {K : am_K} {I : am_I} {d mc ms : Nat} {as : List Value} {hp : am_H} {Q : Option Value → am_H → Prop} (hs : Nat.ble (am_ws as) 4 = true) (h : ∀ P : am_C → Prop, (∀ c, am_step K I (am_run K I am_m d) cd_X12_treaty mc ms Q P c → P c) → P (cd_X12_treaty, am_ent 4 as, [], hp, 0, 0)) : am_run K I am_m (d + 1) 200 as hp mc ms Q := ⟨hs, h⟩
theorem en_X12_named {K : am_K} {I : am_I} {d mc ms : Nat} {as : List Value} {hp : am_H} {Q : Option Value → am_H → Prop} (hs : Nat.ble (am_ws as) 3 = true) (h : ∀ P : am_C → Prop, (∀ c, am_step K I (am_run K I am_m d) cd_X12_named mc ms Q P c → P c) → P (cd_X12_named, am_ent 3 as, [], hp, 0, 0)) : am_run K I am_m (d + 1) 201 as hp mc ms Q := ⟨hs, h⟩
theorem en_X12_laysMoments {K : am_K} {I : am_I} {d mc ms : Nat} {as : List Value} {hp : am_H} {Q : Option Value → am_H → Prop} (hs : Nat.ble (am_ws as) 6 = true) (h : ∀ P : am_C → Prop, (∀ c, am_step K I (am_run K I am_m d) cd_X12_laysMoments mc ms Q P c → P c) → P (cd_X12_laysMoments, am_ent 6 as, [], hp, 0, 0)) : am_run K I am_m (d + 1) 202 as hp mc ms Q := ⟨hs, h⟩
theorem en_X12_lifts {K : am_K} {I : am_I} {d mc ms : Nat} {as : List Value} {hp : am_H} {Q : Option Value → am_H → Prop} (hs : Nat.ble (am_ws as) 6 = true) (h : ∀ P : am_C → Prop, (∀ c, am_step K I (am_run K I am_m d) cd_X12_lifts mc ms Q P c → P c) → P (cd_X12_lifts, am_ent 6 as, [], hp, 0, 0)) : am_run K I am_m (d + 1) 203 as hp mc ms Q := ⟨hs, h⟩
theorem en_X12_contradictsAt {K : am_K} {I : am_I} {d mc ms : Nat} {as : List Value} {hp : am_H} {Q : Option Value → am_H → Prop} (hs : Nat.ble (am_ws as) 2 = true) (h : ∀ P : am_C → Prop, (∀ c, am_step K I (am_run K I am_m d) cd_X12_contradictsAt mc ms Q P c → P c) → P (cd_X12_contradictsAt, am_ent 2 as, [], hp, 0, 0)) : am_run K I am_m (d + 1) 204 as hp mc ms Q := ⟨hs, h⟩
theorem en_X12_moments {K : am_K} {I : am_I} {d mc ms : Nat} {as : List Value} {hp : am_H} {Q : Option Value → am_H → Prop} (hs : Nat.ble (am_ws as) 5 = true) (h : ∀ P : am_C → Prop, (∀ c, am_step K I (am_run K I am_m d) cd_X12_moments mc ms Q P c → P c) → P (cd_X12_moments, am_ent 5 as, [], hp, 0, 0)) : am_run K I am_m (d + 1) 205 as hp mc ms Q := ⟨hs, h⟩
theorem en_X12_atOnceWith {K : am_K} {I : am_I} {d mc ms : Nat} {as : List Value} {hp : am_H} {Q : Option Value → am_H → Prop} (hs : Nat.ble (am_ws as) 5 = true) (h : ∀ P : am_C → Prop, (∀ c, am_step K I (am_run K I am_m d) cd_X12_atOnceWith mc ms Q P c → P c) → P (cd_X12_atOnceWith, am_ent 5 as, [], hp, 0, 0)) : am_run K I am_m (d + 1) 206 as hp mc ms Q := ⟨hs, h⟩
theorem en_X12_aheadOf {K : am_K} {I : am_I} {d mc ms : Nat} {as : List Value} {hp : am_H} {Q : Option Value → am_H → Prop} (hs : Nat.ble (am_ws as) 5 = true) (h : ∀ P : am_C → Prop, (∀ c, am_step K I (am_run K I am_m d) cd_X12_aheadOf mc ms Q P c → P c) → P (cd_X12_aheadOf, am_ent 5 as, [], hp, 0, 0)) : am_run K I am_m (d + 1) 207 as hp mc ms Q := ⟨hs, h⟩
theorem en_X12_act {K : am_K} {I : am_I} {d mc ms : Nat} {as : List Value} {hp : am_H} {Q : Option Value → am_H → Prop} (hs : Nat.ble (am_ws as) 3 = true) (h : ∀ P : am_C → Prop, (∀ c, am_step K I (am_run K I am_m d) cd_X12_act mc ms Q P c → P c) → P (cd_X12_act, am_ent 3 as, [], hp, 0, 0)) : am_run K I am_m (d + 1) 208 as hp mc ms Q := ⟨hs, h⟩
theorem en_X12_unfolds {K : am_K} {I : am_I} {d mc ms : Nat} {as : List Value} {hp : am_H} {Q : Option Value → am_H → Prop} (hs : Nat.ble (am_ws as) 5 = true) (h : ∀ P : am_C → Prop, (∀ c, am_step K I (am_run K I am_m d) cd_X12_unfolds mc ms Q P c → P c) → P (cd_X12_unfolds, am_ent 5 as, [], hp, 0, 0)) : am_run K I am_m (d + 1) 209 as hp mc ms Q := ⟨hs, h⟩
theorem en_X12_isThrough {K : am_K} {I : am_I} {d mc ms : Nat} {as : List Value} {hp : am_H} {Q : Option Value → am_H → Prop} (hs : Nat.ble (am_ws as) 4 = true) (h : ∀ P : am_C → Prop, (∀ c, am_step K I (am_run K I am_m d) cd_X12_isThrough mc ms Q P c → P c) → P (cd_X12_isThrough, am_ent 4 as, [], hp, 0, 0)) : am_run K I am_m (d + 1) 210 as hp mc ms Q := ⟨hs, h⟩
theorem en_X12_goesTo {K : am_K} {I : am_I} {d mc ms : Nat} {as : List Value} {hp : am_H} {Q : Option Value → am_H → Prop} (hs : Nat.ble (am_ws as) 4 = true) (h : ∀ P : am_C → Prop, (∀ c, am_step K I (am_run K I am_m d) cd_X12_goesTo mc ms Q P c → P c) → P (cd_X12_goesTo, am_ent 4 as, [], hp, 0, 0)) : am_run K I am_m (d + 1) 211 as hp mc ms Q := ⟨hs, h⟩
theorem en_X12_searches {K : am_K} {I : am_I} {d mc ms : Nat} {as : List Value} {hp : am_H} {Q : Option Value → am_H → Prop} (hs : Nat.ble (am_ws as) 11 = true) (h : ∀ P : am_C → Prop, (∀ c, am_step K I (am_run K I am_m d) cd_X12_searches mc ms Q P c → P c) → P (cd_X12_searches, am_ent 11 as, [], hp, 0, 0)) : am_run K I am_m (d + 1) 212 as hp mc ms Q := ⟨hs, h⟩
theorem en_X12_lane {K : am_K} {I : am_I} {d mc ms : Nat} {as : List Value} {hp : am_H} {Q : Option Value → am_H → Prop} (hs : Nat.ble (am_ws as) 6 = true) (h : ∀ P : am_C → Prop, (∀ c, am_step K I (am_run K I am_m d) cd_X12_lane mc ms Q P c → P c) → P (cd_X12_lane, am_ent 6 as, [], hp, 0, 0)) : am_run K I am_m (d + 1) 213 as hp mc ms Q := ⟨hs, h⟩
theorem en_X12_signing {K : am_K} {I : am_I} {d mc ms : Nat} {as : List Value} {hp : am_H} {Q : Option Value → am_H → Prop} (hs : Nat.ble (am_ws as) 7 = true) (h : ∀ P : am_C → Prop, (∀ c, am_step K I (am_run K I am_m d) cd_X12_signing mc ms Q P c → P c) → P (cd_X12_signing, am_ent 7 as, [], hp, 0, 0)) : am_run K I am_m (d + 1) 214 as hp mc ms Q := ⟨hs, h⟩
theorem en_X12_titles {K : am_K} {I : am_I} {d mc ms : Nat} {as : List Value} {hp : am_H} {Q : Option Value → am_H → Prop} (hs : Nat.ble (am_ws as) 7 = true) (h : ∀ P : am_C → Prop, (∀ c, am_step K I (am_run K I am_m d) cd_X12_titles mc ms Q P c → P c) → P (cd_X12_titles, am_ent 7 as, [], hp, 0, 0)) : am_run K I am_m (d + 1) 215 as hp mc ms Q := ⟨hs, h⟩
theorem en_X12_unlike {K : am_K} {I : am_I} {d mc ms : Nat} {as : List Value} {hp : am_H} {Q : Option Value → am_H → Prop} (hs : Nat.ble (am_ws as) 4 = true) (h : ∀ P : am_C → Prop, (∀ c, am_step K I (am_run K I am_m d) cd_X12_unlike mc ms Q P c → P c) → P (cd_X12_unlike, am_ent 4 as, [], hp, 0, 0)) : am_run K I am_m (d + 1) 216 as hp mc ms Q := ⟨hs, h⟩
theorem en_X12_leastGifts {K : am_K} {I : am_I} {d mc ms : Nat} {as : List Value} {hp : am_H} {Q : Option Value → am_H → Prop} (hs : Nat.ble (am_ws as) 8 = true) (h : ∀ P : am_C → Prop, (∀ c, am_step K I (am_run K I am_m d) cd_X12_leastGifts mc ms Q P c → P c) → P (cd_X12_leastGifts, am_ent 8 as, [], hp, 0, 0)) : am_run K I am_m (d + 1) 217 as hp mc ms Q := ⟨hs, h⟩
theorem en_X12_gifts {K : am_K} {I : am_I} {d mc ms : Nat} {as : List Value} {hp : am_H} {Q : Option Value → am_H → Prop} (hs : Nat.ble (am_ws as) 4 = true) (h : ∀ P : am_C → Prop, (∀ c, am_step K I (am_run K I am_m d) cd_X12_gifts mc ms Q P c → P c) → P (cd_X12_gifts, am_ent 4 as, [], hp, 0, 0)) : am_run K I am_m (d + 1) 218 as hp mc ms Q := ⟨hs, h⟩
theorem en_X12_sumOf {K : am_K} {I : am_I} {d mc ms : Nat} {as : List Value} {hp : am_H} {Q : Option Value → am_H → Prop} (hs : Nat.ble (am_ws as) 5 = true) (h : ∀ P : am_C → Prop, (∀ c, am_step K I (am_run K I am_m d) cd_X12_sumOf mc ms Q P c → P c) → P (cd_X12_sumOf, am_ent 5 as, [], hp, 0, 0)) : am_run K I am_m (d + 1) 219 as hp mc ms Q := ⟨hs, h⟩
theorem en_X12_cushions {K : am_K} {I : am_I} {d mc ms : Nat} {as : List Value} {hp : am_H} {Q : Option Value → am_H → Prop} (hs : Nat.ble (am_ws as) 11 = true) (h : ∀ P : am_C → Prop, (∀ c, am_step K I (am_run K I am_m d) cd_X12_cushions mc ms Q P c → P c) → P (cd_X12_cushions, am_ent 11 as, [], hp, 0, 0)) : am_run K I am_m (d + 1) 220 as hp mc ms Q := ⟨hs, h⟩
theorem en_X12_wrongsNow {K : am_K} {I : am_I} {d mc ms : Nat} {as : List Value} {hp : am_H} {Q : Option Value → am_H → Prop} (hs : Nat.ble (am_ws as) 5 = true) (h : ∀ P : am_C → Prop, (∀ c, am_step K I (am_run K I am_m d) cd_X12_wrongsNow mc ms Q P c → P c) → P (cd_X12_wrongsNow, am_ent 5 as, [], hp, 0, 0)) : am_run K I am_m (d + 1) 221 as hp mc ms Q := ⟨hs, h⟩
theorem en_X12_changesSeats {K : am_K} {I : am_I} {d mc ms : Nat} {as : List Value} {hp : am_H} {Q : Option Value → am_H → Prop} (hs : Nat.ble (am_ws as) 4 = true) (h : ∀ P : am_C → Prop, (∀ c, am_step K I (am_run K I am_m d) cd_X12_changesSeats mc ms Q P c → P c) → P (cd_X12_changesSeats, am_ent 4 as, [], hp, 0, 0)) : am_run K I am_m (d + 1) 222 as hp mc ms Q := ⟨hs, h⟩
theorem en_X12_nextSeats {K : am_K} {I : am_I} {d mc ms : Nat} {as : List Value} {hp : am_H} {Q : Option Value → am_H → Prop} (hs : Nat.ble (am_ws as) 6 = true) (h : ∀ P : am_C → Prop, (∀ c, am_step K I (am_run K I am_m d) cd_X12_nextSeats mc ms Q P c → P c) → P (cd_X12_nextSeats, am_ent 6 as, [], hp, 0, 0)) : am_run K I am_m (d + 1) 223 as hp mc ms Q := ⟨hs, h⟩
theorem en_X12_mayBeSeats {K : am_K} {I : am_I} {d mc ms : Nat} {as : List Value} {hp : am_H} {Q : Option Value → am_H → Prop} (hs : Nat.ble (am_ws as) 4 = true) (h : ∀ P : am_C → Prop, (∀ c, am_step K I (am_run K I am_m d) cd_X12_mayBeSeats mc ms Q P c → P c) → P (cd_X12_mayBeSeats, am_ent 4 as, [], hp, 0, 0)) : am_run K I am_m (d + 1) 224 as hp mc ms Q := ⟨hs, h⟩
theorem en_X12_table {K : am_K} {I : am_I} {d mc ms : Nat} {as : List Value} {hp : am_H} {Q : Option Value → am_H → Prop} (hs : Nat.ble (am_ws as) 4 = true) (h : ∀ P : am_C → Prop, (∀ c, am_step K I (am_run K I am_m d) cd_X12_table mc ms Q P c → P c) → P (cd_X12_table, am_ent 4 as, [], hp, 0, 0)) : am_run K I am_m (d + 1) 225 as hp mc ms Q := ⟨hs, h⟩
theorem en_X12_drums {K : am_K} {I : am_I} {d mc ms : Nat} {as : List Value} {hp : am_H} {Q : Option Value → am_H → Prop} (hs : Nat.ble (am_ws as) 7 = true) (h : ∀ P : am_C → Prop, (∀ c, am_step K I (am_run K I am_m d) cd_X12_drums mc ms Q P c → P c) → P (cd_X12_drums, am_ent 7 as, [], hp, 0, 0)) : am_run K I am_m (d + 1) 226 as hp mc ms Q := ⟨hs, h⟩
theorem en_X12_tent {K : am_K} {I : am_I} {d mc ms : Nat} {as : List Value} {hp : am_H} {Q : Option Value → am_H → Prop} (hs : Nat.ble (am_ws as) 8 = true) (h : ∀ P : am_C → Prop, (∀ c, am_step K I (am_run K I am_m d) cd_X12_tent mc ms Q P c → P c) → P (cd_X12_tent, am_ent 8 as, [], hp, 0, 0)) : am_run K I am_m (d + 1) 227 as hp mc ms Q := ⟨hs, h⟩
theorem en_X12_stairs {K : am_K} {I : am_I} {d mc ms : Nat} {as : List Value} {hp : am_H} {Q : Option Value → am_H → Prop} (hs : Nat.ble (am_ws as) 10 = true) (h : ∀ P : am_C → Prop, (∀ c, am_step K I (am_run K I am_m d) cd_X12_stairs mc ms Q P c → P c) → P (cd_X12_stairs, am_ent 10 as, [], hp, 0, 0)) : am_run K I am_m (d + 1) 228 as hp mc ms Q := ⟨hs, h⟩
theorem en_X12_heralds {K : am_K} {I : am_I} {d mc ms : Nat} {as : List Value} {hp : am_H} {Q : Option Value → am_H → Prop} (hs : Nat.ble (am_ws as) 5 = true) (h : ∀ P : am_C → Prop, (∀ c, am_step K I (am_run K I am_m d) cd_X12_heralds mc ms Q P c → P c) → P (cd_X12_heralds, am_ent 5 as, [], hp, 0, 0)) : am_run K I am_m (d + 1) 229 as hp mc ms Q := ⟨hs, h⟩
theorem en_X12_seed {K : am_K} {I : am_I} {d mc ms : Nat} {as : List Value} {hp : am_H} {Q : Option Value → am_H → Prop} (hs : Nat.ble (am_ws as) 2 = true) (h : ∀ P : am_C → Prop, (∀ c, am_step K I (am_run K I am_m d) cd_X12_seed mc ms Q P c → P c) → P (cd_X12_seed, am_ent 2 as, [], hp, 0, 0)) : am_run K I am_m (d + 1) 230 as hp mc ms Q := ⟨hs, h⟩
theorem en_X12_keep {K : am_K} {I : am_I} {d mc ms : Nat} {as : List Value} {hp : am_H} {Q : Option Value → am_H → Prop} (hs : Nat.ble (am_ws as) 1 = true) (h : ∀ P : am_C → Prop, (∀ c, am_step K I (am_run K I am_m d) cd_X12_keep mc ms Q P c → P c) → P (cd_X12_keep, am_ent 1 as, [], hp, 0, 0)) : am_run K I am_m (d + 1) 231 as hp mc ms Q := ⟨hs, h⟩
theorem en_X12_undo {K : am_K} {I : am_I} {d mc ms : Nat} {as : List Value} {hp : am_H} {Q : Option Value → am_H → Prop} (hs : Nat.ble (am_ws as) 1 = true) (h : ∀ P : am_C → Prop, (∀ c, am_step K I (am_run K I am_m d) cd_X12_undo mc ms Q P c → P c) → P (cd_X12_undo, am_ent 1 as, [], hp, 0, 0)) : am_run K I am_m (d + 1) 232 as hp mc ms Q := ⟨hs, h⟩
theorem en_X12_check {K : am_K} {I : am_I} {d mc ms : Nat} {as : List Value} {hp : am_H} {Q : Option Value → am_H → Prop} (hs : Nat.ble (am_ws as) 2 = true) (h : ∀ P : am_C → Prop, (∀ c, am_step K I (am_run K I am_m d) cd_X12_check mc ms Q P c → P c) → P (cd_X12_check, am_ent 2 as, [], hp, 0, 0)) : am_run K I am_m (d + 1) 233 as hp mc ms Q := ⟨hs, h⟩
theorem en_X12_count {K : am_K} {I : am_I} {d mc ms : Nat} {as : List Value} {hp : am_H} {Q : Option Value → am_H → Prop} (hs : Nat.ble (am_ws as) 2 = true) (h : ∀ P : am_C → Prop, (∀ c, am_step K I (am_run K I am_m d) cd_X12_count mc ms Q P c → P c) → P (cd_X12_count, am_ent 2 as, [], hp, 0, 0)) : am_run K I am_m (d + 1) 234 as hp mc ms Q := ⟨hs, h⟩
theorem en_J6_numberOfTrailingZeros_0f7a4 {K : am_K} {I : am_I} {d mc ms : Nat} {as : List Value} {hp : am_H} {Q : Option Value → am_H → Prop} (hs : Nat.ble (am_ws as) 2 = true) (h : ∀ P : am_C → Prop, (∀ c, am_step K I (am_run K I am_m d) cd_J6_numberOfTrailingZeros_0f7a4 mc ms Q P c → P c) → P (cd_J6_numberOfTrailingZeros_0f7a4, am_ent 2 as, [], hp, 0, 0)) : am_run K I am_m (d + 1) 235 as hp mc ms Q := ⟨hs, h⟩
theorem en_J7_fill_d0a16 {K : am_K} {I : am_I} {d mc ms : Nat} {as : List Value} {hp : am_H} {Q : Option Value → am_H → Prop} (hs : Nat.ble (am_ws as) 5 = true) (h : ∀ P : am_C → Prop, (∀ c, am_step K I (am_run K I am_m d) cd_J7_fill_d0a16 mc ms Q P c → P c) → P (cd_J7_fill_d0a16, am_ent 5 as, [], hp, 0, 0)) : am_run K I am_m (d + 1) 236 as hp mc ms Q := ⟨hs, h⟩
theorem en_J7_fill_53178 {K : am_K} {I : am_I} {d mc ms : Nat} {as : List Value} {hp : am_H} {Q : Option Value → am_H → Prop} (hs : Nat.ble (am_ws as) 4 = true) (h : ∀ P : am_C → Prop, (∀ c, am_step K I (am_run K I am_m d) cd_J7_fill_53178 mc ms Q P c → P c) → P (cd_J7_fill_53178, am_ent 4 as, [], hp, 0, 0)) : am_run K I am_m (d + 1) 237 as hp mc ms Q := ⟨hs, h⟩
end
section
/-! ===== the cells of the law: TwoKings 0 to 61, TwoKingsModel 62 to 104 ===== -/
def am_sh : List am_S := [
  (10, 0, [some 1, some 3, some 10, some 18, some 22, some 26, some 30, some 33, some 36, some 39, some 43, none, none, none]),
  (7, 0, [some 2, none]),
  (100, 260, []),
  (3, 0, [some 4, some 5, some 6, some 7, some 8, some 9, none, none]),
  (100, 240, []),
  (100, 16, []),
  (100, 16, []),
  (100, 16, []),
  (100, 32, []),
  (100, 10, []),
  (4, 0, [some 1, none, none, none, none, some 11, none]),
  (3, 0, [some 12, some 13, some 14, some 15, some 16, some 17, none, none]),
  (100, 240, []),
  (100, 16, []),
  (100, 16, []),
  (100, 16, []),
  (100, 32, []),
  (100, 10, []),
  (6, 0, [some 1, none, none, none, none, some 19, some 20, some 21]),
  (100, 20, []),
  (100, 20, []),
  (100, 20, []),
  (8, 0, [some 23, some 24, some 25, none, none, none]),
  (100, 16, []),
  (100, 16, []),
  (100, 16, []),
  (9, 0, [some 1, none, none, none, none, some 27, some 28, some 29]),
  (100, 24, []),
  (100, 24, []),
  (100, 24, []),
  (5, 0, [some 31, some 32, none, none]),
  (1, 0, [none, none, none, none, none, none, none, none, none, none, none]),
  (1, 0, [none, none, none, none, none, none, none, none, none, none, none]),
  (5, 0, [some 34, some 35, none, none]),
  (1, 0, [none, none, none, none, none, none, none, none, none, none, none]),
  (1, 0, [none, none, none, none, none, none, none, none, none, none, none]),
  (5, 0, [some 37, some 38, none, none]),
  (1, 0, [none, none, none, none, none, none, none, none, none, none, none]),
  (1, 0, [none, none, none, none, none, none, none, none, none, none, none]),
  (2, 0, [some 40, some 41, some 42, none, none, none, none]),
  (100, 1680, []),
  (100, 616, []),
  (100, 9, []),
  (0, 0, [some 1, some 44, some 45, some 46, some 47, some 59, some 60, some 61, none, none, none]),
  (100, 8, []),
  (100, 8, []),
  (100, 256, []),
  (104, 11, [some 48, some 49, some 50, some 51, some 52, some 53, some 54, some 55, some 56, some 57, some 58]),
  (100, 11, []),
  (100, 11, []),
  (100, 11, []),
  (100, 11, []),
  (100, 11, []),
  (100, 11, []),
  (100, 11, []),
  (100, 11, []),
  (100, 11, []),
  (100, 11, []),
  (100, 11, []),
  (100, 6, []),
  (100, 6, []),
  (103, 41, []),
  (11, 0, [some 63, some 64, some 65, none, none, some 66, none, none, none, none, none, none, none, none, none, none, some 67, some 68, some 69, some 70, some 71, some 72, some 73, some 74, some 75, some 76, some 77, some 78, some 79, none, some 80, some 81, some 82, some 83, some 84, some 85, some 86, some 87, none, none, none, some 88, some 89, some 90, some 91, some 92, some 93, some 94, none, none, some 95, some 96, some 97, some 98, some 99, some 100, some 101, some 102, some 103, none, none, some 104, none]),
  (100, 14, []),
  (100, 14, []),
  (100, 14, []),
  (102, 260, []),
  (100, 260, []),
  (100, 260, []),
  (100, 16, []),
  (100, 16, []),
  (100, 16, []),
  (100, 16, []),
  (100, 260, []),
  (100, 16, []),
  (100, 16, []),
  (100, 16, []),
  (100, 16, []),
  (100, 260, []),
  (100, 10, []),
  (100, 2, []),
  (100, 2, []),
  (100, 2, []),
  (100, 2, []),
  (100, 2, []),
  (100, 3, []),
  (101, 2, []),
  (101, 2, []),
  (100, 24, []),
  (100, 24, []),
  (100, 24, []),
  (100, 24, []),
  (100, 16, []),
  (101, 24, []),
  (101, 24, []),
  (100, 19683, []),
  (100, 19683, []),
  (100, 19683, []),
  (100, 10, []),
  (100, 9, []),
  (100, 121, []),
  (100, 256, []),
  (100, 6, []),
  (100, 6, []),
  (103, 1681, [])]
end
section
/-! ===== what holds between the law's two objects, between calls ===== -/
/-- both kings, the breath, the lot: cell of the Meeting, of its kings, of the reference's row -/
def iv_meet (v : am_V) (c a b r : Nat) : Prop := (v a 0 = v r 0 ∧ v b 0 = v r 1 ∧ v a 1 = v r 2 ∧ v b 1 = v r 3 ∧ v a 2 = v r 4 ∧ v b 2 = v r 5) ∧ (v a 3 = v r 6 ∧ v b 3 = v r 7 ∧ v a 4 = v r 8 ∧ v b 4 = v r 9 ∧ v a 5 = v r 10 ∧ v b 5 = v r 11) ∧ v c 2 = v r 12 ∧ v c 3 = v r 13
def iv_in (x lo hi : Int32) : Prop := lo ≤ x ∧ x ≤ hi
def iv_bit (x : Int32) : Prop := x = 0 ∨ x = 1
/-- what the row's numbers are -/
def iv_rng (v : am_V) (r : Nat) : Prop := (iv_in (v r 0) 0 999 ∧ iv_in (v r 1) 0 999 ∧ iv_in (v r 2) 0 90 ∧ iv_in (v r 3) 0 90 ∧ iv_in (v r 4) 0 9999 ∧ iv_in (v r 5) 0 9999) ∧ (iv_bit (v r 6) ∧ iv_bit (v r 7) ∧ iv_bit (v r 8) ∧ iv_bit (v r 9) ∧ iv_bit (v r 10) ∧ iv_bit (v r 11)) ∧ iv_in (v r 12) 0 9999 ∧ iv_in (v r 13) 0 65535
def iv_misc (v : am_V) : Prop := v 0 11 = v 62 62 ∧ iv_bit (v 0 11) ∧ v 0 12 = v 62 3 ∧ v 0 13 = v 62 4 ∧ iv_in (v 62 3) 0 99 ∧ iv_in (v 62 4) 0 90
/-- the tape: how many, which bytes -/
def iv_tapeF (a b : Int32) (f g : Nat → Int32) : Prop := ∃ n : Nat, n ≤ 260 ∧ a = nI n ∧ b = nI n ∧ ∀ i, i < n → f i = g i &&& 255
/-- THE LAW, on both sides (to be filled) -/
def iv_lawF (rules size : Int32) (code letters amountAt testAt : Nat → Int32) (clauses : Int32) (codes clauseOf codeFrom codeHalf codeTo : Nat → Int32) : Prop := ∃ n : Nat, n ≤ 16 ∧ rules = nI n ∧ clauses = nI n
/-- a TREATY, on both sides (to be filled) -/
def iv_treF (lines named contr : Int32) (atOnce ahead moment : Nat → Int32) (tl : Int32) (lineA lineB isAtOnce : Nat → Int32) : Prop := ∃ n : Nat, n ≤ 24 ∧ lines = nI n ∧ tl = nI n
def iv_tape (v : am_V) : Prop := iv_tapeF (v 1 1) (v 62 6) (v 2) (v 66)
def iv_law (v : am_V) : Prop := iv_lawF (v 3 7) (v 3 6) (v 4) (v 5) (v 6) (v 7) (v 62 15) (v 73) (v 74) (v 75) (v 76) (v 77)
def iv_tre (v : am_V) : Prop := iv_treF (v 22 3) (v 22 4) (v 22 5) (v 23) (v 24) (v 25) (v 62 48) (v 88) (v 89) (v 93)
def INV (v : am_V) : Prop := (iv_meet v 30 31 32 63 ∧ iv_rng v 63) ∧ (v 0 11 = 1 → iv_meet v 36 37 38 65 ∧ iv_rng v 65) ∧ iv_misc v ∧ iv_tape v ∧ iv_law v ∧ iv_tre v
/-- the constants: the script, the row WEIGHT -/
def am_kc (L : Nat) (xs : Nat → Int32) : am_K := fun k => match Nat.beq k 1000 with
  | true => some (L, xs)
  | false => match Nat.beq k 1001 with
    | true => some (9, fun j => match j with
      | 0 => 1
      | 1 => 3
      | 2 => 9
      | 3 => 27
      | 4 => 81
      | 5 => 243
      | 6 => 729
      | 7 => 2187
      | _ => 6561)
    | false => none
/-- the texts of the tables, by their words' places: indexOf -/
def am_sfind (c : Int32) : Int32 → List Int32 → Int32
  | _, [] => -1
  | i, a :: l => if a = c then i else am_sfind c (i + 1) l
def am_strs : List (Nat × List Int32) := [
  (2537, [102, 100, 117, 104, 120]),
  (2647, [102, 100, 117]),
  (2703, [40]),
  (2736, [41]),
  (2735, [124]),
  (2730, [38]),
  (2724, [33]),
  (2729, [60, 62, 61]),
  (2702, [43, 45]),
  (2701, [42, 47, 37]),
  (2675, [91]),
  (2686, [107, 112, 113, 98, 99, 111, 118, 97, 116, 114]),
  (2685, [93]),
  (2684, [40, 91, 33]),
  (2740, [48, 49, 42]),
  (2753, [102, 98, 104, 111, 97]),
  (2774, [59]),
  (2698, [48, 49, 50, 51, 52, 53, 54, 55, 56, 57]),
  (2760, [97, 98, 99, 100, 101, 102, 103, 104, 105, 106, 107, 108, 109, 110, 111, 112]),
  (2773, [60, 61])]
def am_sat : List (Nat × List Int32) → Nat → Option (List Int32)
  | [], _ => none
  | a :: l, k => match Nat.beq k a.1 with
    | true => some a.2
    | false => am_sat l k
def am_idx : am_I := fun k => match am_sat am_strs k with
  | some l => some (fun c => am_sfind c 0 l)
  | none => none
/-- a call of both: the same answer, and what holds holds on -/
def am_pair (L : Nat) (xs : Nat → Int32) (a b : Nat) (as : List Value) : Prop := ∀ (d : Nat) (v : am_V) (w : am_X) (Q : Option Value → am_H → Prop), INV v → (∀ (r : Int32) (v1 : am_V) (w1 : am_X), (∀ Q2 : Option Value → am_H → Prop, (∀ (v2 : am_V) (w2 : am_X), INV v2 → Q2 (some (.int r)) (am_sh, v2, w2)) → am_run (am_kc L xs) am_idx am_m (d + 30) b (.ref 62 :: as) (am_sh, v1, w1) 0 0 Q2) → Q (some (.int r)) (am_sh, v1, w1)) → am_run (am_kc L xs) am_idx am_m (d + 30) a (.ref 0 :: as) (am_sh, v, w) 0 0 Q
def am_pairL (L : Nat) (xs : Nat → Int32) (a b : Nat) (as : List Value) : Prop := ∀ (d : Nat) (v : am_V) (w : am_X) (Q : Option Value → am_H → Prop), INV v → (∀ (r : Int64) (v1 : am_V) (w1 : am_X), (∀ Q2 : Option Value → am_H → Prop, (∀ (v2 : am_V) (w2 : am_X), INV v2 → Q2 (some (.long r)) (am_sh, v2, w2)) → am_run (am_kc L xs) am_idx am_m (d + 30) b (.ref 62 :: as) (am_sh, v1, w1) 0 0 Q2) → Q (some (.long r)) (am_sh, v1, w1)) → am_run (am_kc L xs) am_idx am_m (d + 30) a (.ref 0 :: as) (am_sh, v, w) 0 0 Q
end
section
/-! ===== small methods ===== -/
theorem am_vin {i : Int32} {n : Nat} (h : decide (i < 0 ∨ n ≤ i.toNatClampNeg) = false) : vp_in i n := of_decide_eq_false h
theorem am_01 {k : Int32} (h1 : 0 ≤ k) (h2 : k ≤ 1) : k = 0 ∨ k = 1 := by
  have a := Int32.le_iff_toInt_le.mp h1
  have b := Int32.le_iff_toInt_le.mp h2
  rw [show (0 : Int32).toInt = 0 from rfl] at a
  rw [show (1 : Int32).toInt = 1 from rfl] at b
  rcases (show k.toInt = 0 ∨ k.toInt = 1 by omega) with h | h
  · exact Or.inl (Int32.toInt_inj.mp h)
  · exact Or.inr (Int32.toInt_inj.mp h)
theorem tn_0_0 : Int32.toNatClampNeg (0 + 0) = 0 := rfl
theorem tn_0_1 : Int32.toNatClampNeg (0 + 1) = 1 := rfl
theorem tn_2_0 : Int32.toNatClampNeg (2 + 0) = 2 := rfl
theorem tn_2_1 : Int32.toNatClampNeg (2 + 1) = 3 := rfl
theorem tn_4_0 : Int32.toNatClampNeg (4 + 0) = 4 := rfl
theorem tn_4_1 : Int32.toNatClampNeg (4 + 1) = 5 := rfl
theorem tn_6_0 : Int32.toNatClampNeg (6 + 0) = 6 := rfl
theorem tn_6_1 : Int32.toNatClampNeg (6 + 1) = 7 := rfl
theorem tn_8_0 : Int32.toNatClampNeg (8 + 0) = 8 := rfl
theorem tn_8_1 : Int32.toNatClampNeg (8 + 1) = 9 := rfl
theorem tn_10_0 : Int32.toNatClampNeg (10 + 0) = 10 := rfl
theorem tn_10_1 : Int32.toNatClampNeg (10 + 1) = 11 := rfl
theorem tn_0 : Int32.toNatClampNeg 0 = 0 := rfl
theorem tn_1 : Int32.toNatClampNeg 1 = 1 := rfl
theorem tn_2 : Int32.toNatClampNeg 2 = 2 := rfl
theorem tn_3 : Int32.toNatClampNeg 3 = 3 := rfl
theorem tn_4 : Int32.toNatClampNeg 4 = 4 := rfl
theorem tn_5 : Int32.toNatClampNeg 5 = 5 := rfl
theorem tn_6 : Int32.toNatClampNeg 6 = 6 := rfl
theorem tn_7 : Int32.toNatClampNeg 7 = 7 := rfl
theorem tn_8 : Int32.toNatClampNeg 8 = 8 := rfl
theorem tn_9 : Int32.toNatClampNeg 9 = 9 := rfl
theorem tn_10 : Int32.toNatClampNeg 10 = 10 := rfl
theorem tn_11 : Int32.toNatClampNeg 11 = 11 := rfl
theorem tn_12 : Int32.toNatClampNeg 12 = 12 := rfl
theorem tn_13 : Int32.toNatClampNeg 13 = 13 := rfl
theorem tn_14 : Int32.toNatClampNeg 14 = 14 := rfl
theorem tn_15 : Int32.toNatClampNeg 15 = 15 := rfl
theorem tn_16 : Int32.toNatClampNeg 16 = 16 := rfl
theorem tn_17 : Int32.toNatClampNeg 17 = 17 := rfl
theorem tn_18 : Int32.toNatClampNeg 18 = 18 := rfl
theorem tn_19 : Int32.toNatClampNeg 19 = 19 := rfl
theorem tn_20 : Int32.toNatClampNeg 20 = 20 := rfl
theorem tn_21 : Int32.toNatClampNeg 21 = 21 := rfl
theorem tn_22 : Int32.toNatClampNeg 22 = 22 := rfl
theorem tn_23 : Int32.toNatClampNeg 23 = 23 := rfl
section M22
variable {K : am_K} {I : am_I} {d : Nat} {v : am_V} {w : am_X} {sh : List am_S} {Q : Option Value → am_H → Prop}
set_option maxRecDepth 100000 in
set_option maxHeartbeats 4000000 in
theorem m_X11_outside {a b c : Int32} (h1 : a < b ∨ c < a → Q (some (.int 1)) (sh, v, w)) (h0 : b ≤ a → a ≤ c → Q (some (.int 0)) (sh, v, w)) : am_run K I am_m (d + 1) 135 [.int a, .int b, .int c] (sh, v, w) 0 0 Q := by
  refine en_X11_outside rfl ?_
  intro P hP
  ((repeat' first | refine hP _ ?_ | refine ⟨fun c1 => absurd c1 (by decide), fun _ => ?_⟩ | refine ⟨fun _ => ?_, fun c1 => absurd c1 (by decide)⟩ | refine ⟨am_vin rfl, ?_⟩ | refine ⟨fun c1 => ?_, fun c1 => ?_⟩ | refine ⟨Or.inr rfl, ?_⟩ | refine ⟨Or.inl rfl, ?_⟩ | fail); all_goals (try dsimp only at *))
  · exact h1 (Or.inl (by assumption))
  · exact h0 (Int32.not_lt.mp (by assumption)) (by assumption)
  · exact h1 (Or.inr (Int32.not_le.mp (by assumption)))
set_option maxRecDepth 100000 in
set_option maxHeartbeats 4000000 in
theorem m_X12_in {a b c : Int32} (h1 : b ≤ a → a ≤ c → Q (some (.int 1)) (sh, v, w)) (h0 : a < b ∨ c < a → Q (some (.int 0)) (sh, v, w)) : am_run K I am_m (d + 1) 138 [.int a, .int b, .int c] (sh, v, w) 0 0 Q := by
  refine en_X12_in rfl ?_
  intro P hP
  ((repeat' first | refine hP _ ?_ | refine ⟨fun c1 => absurd c1 (by decide), fun _ => ?_⟩ | refine ⟨fun _ => ?_, fun c1 => absurd c1 (by decide)⟩ | refine ⟨am_vin rfl, ?_⟩ | refine ⟨fun c1 => ?_, fun c1 => ?_⟩ | refine ⟨Or.inr rfl, ?_⟩ | refine ⟨Or.inl rfl, ?_⟩ | fail); all_goals (try dsimp only at *))
  · exact h0 (Or.inl (by assumption))
  · exact h0 (Or.inr (by assumption))
  · exact h1 (Int32.not_lt.mp (by assumption)) (Int32.not_lt.mp (by assumption))
set_option maxRecDepth 100000 in
set_option maxHeartbeats 4000000 in
theorem m_X12_min {a b : Int32} (h : Q (some (.int (if a < b then a else b))) (sh, v, w)) : am_run K I am_m (d + 1) 139 [.int a, .int b] (sh, v, w) 0 0 Q := by
  refine en_X12_min rfl ?_
  intro P hP
  ((repeat' first | refine hP _ ?_ | refine ⟨fun c1 => absurd c1 (by decide), fun _ => ?_⟩ | refine ⟨fun _ => ?_, fun c1 => absurd c1 (by decide)⟩ | refine ⟨am_vin rfl, ?_⟩ | refine ⟨fun c1 => ?_, fun c1 => ?_⟩ | refine ⟨Or.inr rfl, ?_⟩ | refine ⟨Or.inl rfl, ?_⟩ | fail); all_goals (try dsimp only at *))
  · rw [if_neg (Int32.not_lt.mpr c1)] at h
    exact h
  · rw [if_pos (Int32.not_le.mp c1)] at h
    exact h
set_option maxRecDepth 100000 in
set_option maxHeartbeats 4000000 in
theorem m_X12_max {a b : Int32} (h : Q (some (.int (if b < a then a else b))) (sh, v, w)) : am_run K I am_m (d + 1) 140 [.int a, .int b] (sh, v, w) 0 0 Q := by
  refine en_X12_max rfl ?_
  intro P hP
  ((repeat' first | refine hP _ ?_ | refine ⟨fun c1 => absurd c1 (by decide), fun _ => ?_⟩ | refine ⟨fun _ => ?_, fun c1 => absurd c1 (by decide)⟩ | refine ⟨am_vin rfl, ?_⟩ | refine ⟨fun c1 => ?_, fun c1 => ?_⟩ | refine ⟨Or.inr rfl, ?_⟩ | refine ⟨Or.inl rfl, ?_⟩ | fail); all_goals (try dsimp only at *))
  · rw [if_neg (Int32.not_lt.mpr c1)] at h
    exact h
  · rw [if_pos (Int32.not_le.mp c1)] at h
    exact h
set_option maxRecDepth 100000 in
set_option maxHeartbeats 4000000 in
theorem m_X12_size {a : Int32} (h : Q (some (.int (if a < 0 then -a else a))) (sh, v, w)) : am_run K I am_m (d + 1) 141 [.int a] (sh, v, w) 0 0 Q := by
  refine en_X12_size rfl ?_
  intro P hP
  ((repeat' first | refine hP _ ?_ | refine ⟨fun c1 => absurd c1 (by decide), fun _ => ?_⟩ | refine ⟨fun _ => ?_, fun c1 => absurd c1 (by decide)⟩ | refine ⟨am_vin rfl, ?_⟩ | refine ⟨fun c1 => ?_, fun c1 => ?_⟩ | refine ⟨Or.inr rfl, ?_⟩ | refine ⟨Or.inl rfl, ?_⟩ | fail); all_goals (try dsimp only at *))
  · rw [if_neg (Int32.not_lt.mpr c1)] at h
    exact h
  · rw [if_pos (Int32.not_le.mp c1)] at h
    exact h
/-- whether a set has a bit -/
def f_has (s k : Int32) : Int32 := if (s >>> (k &&& 31)) &&& 1 = 1 then 1 else 0
set_option maxRecDepth 100000 in
set_option maxHeartbeats 4000000 in
theorem m_X12_has {a k : Int32} (h : Q (some (.int (f_has a k))) (sh, v, w)) : am_run K I am_m (d + 1) 142 [.int a, .int k] (sh, v, w) 0 0 Q := by
  refine en_X12_has rfl ?_
  intro P hP
  ((repeat' first | refine hP _ ?_ | refine ⟨fun c1 => absurd c1 (by decide), fun _ => ?_⟩ | refine ⟨fun _ => ?_, fun c1 => absurd c1 (by decide)⟩ | refine ⟨am_vin rfl, ?_⟩ | refine ⟨fun c1 => ?_, fun c1 => ?_⟩ | refine ⟨Or.inr rfl, ?_⟩ | refine ⟨Or.inl rfl, ?_⟩ | fail); all_goals (try dsimp only at *))
  · rw [f_has, if_neg c1] at h
    exact h
  · rw [f_has, if_pos c1] at h
    exact h
set_option maxRecDepth 100000 in
set_option maxHeartbeats 4000000 in
theorem m_X8_has {n : Int32} (h1 : n ≤ v 1 1 → Q (some (.int 1)) (am_sh, v, w)) (h0 : v 1 1 < n → Q (some (.int 0)) (am_sh, v, w)) : am_run K I am_m (d + 1) 83 [.ref 1, .int n] (am_sh, v, w) 0 0 Q := by
  refine en_X8_has rfl ?_
  intro P hP
  ((repeat' first | refine hP _ ?_ | refine ⟨fun c1 => absurd c1 (by decide), fun _ => ?_⟩ | refine ⟨fun _ => ?_, fun c1 => absurd c1 (by decide)⟩ | refine ⟨am_vin rfl, ?_⟩ | refine ⟨fun c1 => ?_, fun c1 => ?_⟩ | refine ⟨Or.inr rfl, ?_⟩ | refine ⟨Or.inl rfl, ?_⟩ | fail); all_goals (try dsimp only at *))
  · exact h0 (by assumption)
  · exact h1 (Int32.not_lt.mp (by assumption))
set_option maxRecDepth 100000 in
set_option maxHeartbeats 4000000 in
theorem m_X8_clear (h : Q none (am_sh, am_up v 1 1 0, w)) : am_run K I am_m (d + 1) 86 [.ref 1] (am_sh, v, w) 0 0 Q := by
  refine en_X8_clear rfl ?_
  intro P hP
  ((repeat' first | refine hP _ ?_ | refine ⟨fun c1 => absurd c1 (by decide), fun _ => ?_⟩ | refine ⟨fun _ => ?_, fun c1 => absurd c1 (by decide)⟩ | refine ⟨am_vin rfl, ?_⟩ | refine ⟨fun c1 => ?_, fun c1 => ?_⟩ | refine ⟨Or.inr rfl, ?_⟩ | refine ⟨Or.inl rfl, ?_⟩ | fail); all_goals (try dsimp only at *))
  exact h
set_option maxRecDepth 100000 in
set_option maxHeartbeats 4000000 in
theorem m_X8_byteAt {i : Nat} (hi : i < 260) {n : Nat} (hn : v 1 1 = nI n) (hn2 : n ≤ 260) (h : Q (some (.int (if i < n then v 2 i else -1))) (am_sh, v, w)) : am_run K I am_m (d + 1) 85 [.ref 1, .int (nI i)] (am_sh, v, w) 0 0 Q := by
  refine en_X8_byteAt rfl ?_
  intro P hP
  ((repeat' first | refine hP _ ?_ | fail); try dsimp only)
  refine ⟨fun c1 => absurd c1 (Int32.not_lt.mpr (nI_pos' (by omega))), fun _ => ?_⟩
  ((repeat' first | refine hP _ ?_ | fail); try dsimp only)
  rw [hn]
  refine ⟨fun c1 => ?_, fun c1 => ?_⟩
  · ((repeat' first | refine hP _ ?_ | refine ⟨fun c1 => absurd c1 (by decide), fun _ => ?_⟩ | refine ⟨fun _ => ?_, fun c1 => absurd c1 (by decide)⟩ | refine ⟨am_vin rfl, ?_⟩ | refine ⟨fun c1 => ?_, fun c1 => ?_⟩ | refine ⟨Or.inr rfl, ?_⟩ | refine ⟨Or.inl rfl, ?_⟩ | fail); all_goals (try dsimp only at *))
    rw [if_neg (by
      intro q
      exact absurd ((nI_leI (by omega) (by omega)).mp c1) (by omega))] at h
    exact h
  · ((repeat' first | refine hP _ ?_ | fail); try dsimp only)
    refine ⟨vp_in_nI hi (by omega), ?_⟩
    ((repeat' first | refine hP _ ?_ | fail); try dsimp only)
    rw [if_pos (by
      rcases Nat.lt_or_ge i n with q | q
      · exact q
      · exact absurd ((nI_leI (by omega) (by omega)).mpr q) c1)] at h
    rw [nI_clamp (by omega)]
    exact h
end M22
end
section
/-! ===== pairs: tolerance, seed, king, keep, undo ===== -/
theorem am_no {a b c : Int32} (h : a < b ∨ c < a) (h1 : b ≤ a) (h2 : a ≤ c) : False := by
  rcases h with h | h
  · exact absurd h1 (Int32.not_le.mpr h)
  · exact absurd h2 (Int32.not_le.mpr h)
section M23
variable {K : am_K} {I : am_I} {d : Nat} {v : am_V} {w : am_X} {sh : List am_S} {Q : Option Value → am_H → Prop}
theorem m_X12_in1 {a b c : Int32} (e1 : b ≤ a) (e2 : a ≤ c) (h : Q (some (.int 1)) (sh, v, w)) : am_run K I am_m (d + 1) 138 [.int a, .int b, .int c] (sh, v, w) 0 0 Q := m_X12_in (fun _ _ => h) (fun e => (am_no e e1 e2).elim)
theorem m_X12_in0 {a b c : Int32} (e : a < b ∨ c < a) (h : Q (some (.int 0)) (sh, v, w)) : am_run K I am_m (d + 1) 138 [.int a, .int b, .int c] (sh, v, w) 0 0 Q := m_X12_in (fun e1 e2 => (am_no e e1 e2).elim) (fun _ => h)
end M23
set_option maxRecDepth 100000 in
set_option maxHeartbeats 4000000 in
theorem pr_tolerance {L : Nat} {xs : Nat → Int32} (a b : Int32) : am_pair L xs 104 148 [.int a, .int b] := by
  intro d v w Q hI h
  refine en_X11_tolerance rfl ?_
  intro P hP
  ((repeat' first | refine hP _ ?_ | fail); try dsimp only)
  refine m_X11_outside (fun c => ?_) (fun c1 c2 => ?_)
  · ((repeat' first | refine hP _ ?_ | refine ⟨fun c1 => absurd c1 (by decide), fun _ => ?_⟩ | refine ⟨fun _ => ?_, fun c1 => absurd c1 (by decide)⟩ | refine ⟨am_vin rfl, ?_⟩ | refine ⟨fun c1 => ?_, fun c1 => ?_⟩ | refine ⟨Or.inr rfl, ?_⟩ | refine ⟨Or.inl rfl, ?_⟩ | fail); all_goals (try dsimp only at *))
    refine h 0 v w (fun Q2 h2 => ?_)
    refine en_X12_tolerance rfl ?_
    intro P2 hP2
    ((repeat' first | refine hP2 _ ?_ | fail); try dsimp only)
    refine m_X12_in0 c ?_
    ((repeat' first | refine hP2 _ ?_ | refine ⟨fun c1 => absurd c1 (by decide), fun _ => ?_⟩ | refine ⟨fun _ => ?_, fun c1 => absurd c1 (by decide)⟩ | refine ⟨am_vin rfl, ?_⟩ | refine ⟨fun c1 => ?_, fun c1 => ?_⟩ | refine ⟨Or.inr rfl, ?_⟩ | refine ⟨Or.inl rfl, ?_⟩ | fail); all_goals (try dsimp only at *))
    exact h2 v w hI
  · ((repeat' first | refine hP _ ?_ | fail); try dsimp only)
    refine ⟨fun e => absurd rfl e, fun _ => ?_⟩
    ((repeat' first | refine hP _ ?_ | fail); try dsimp only)
    refine m_X11_outside (fun e => ?_) (fun e1 e2 => ?_)
    · ((repeat' first | refine hP _ ?_ | refine ⟨fun c1 => absurd c1 (by decide), fun _ => ?_⟩ | refine ⟨fun _ => ?_, fun c1 => absurd c1 (by decide)⟩ | refine ⟨am_vin rfl, ?_⟩ | refine ⟨fun c1 => ?_, fun c1 => ?_⟩ | refine ⟨Or.inr rfl, ?_⟩ | refine ⟨Or.inl rfl, ?_⟩ | fail); all_goals (try dsimp only at *))
      refine h 0 v w (fun Q2 h2 => ?_)
      refine en_X12_tolerance rfl ?_
      intro P2 hP2
      ((repeat' first | refine hP2 _ ?_ | fail); try dsimp only)
      refine m_X12_in1 c1 c2 ?_
      ((repeat' first | refine hP2 _ ?_ | fail); try dsimp only)
      refine ⟨fun e => absurd e (by decide), fun _ => ?_⟩
      ((repeat' first | refine hP2 _ ?_ | fail); try dsimp only)
      refine m_X12_in0 e ?_
      ((repeat' first | refine hP2 _ ?_ | refine ⟨fun c1 => absurd c1 (by decide), fun _ => ?_⟩ | refine ⟨fun _ => ?_, fun c1 => absurd c1 (by decide)⟩ | refine ⟨am_vin rfl, ?_⟩ | refine ⟨fun c1 => ?_, fun c1 => ?_⟩ | refine ⟨Or.inr rfl, ?_⟩ | refine ⟨Or.inl rfl, ?_⟩ | fail); all_goals (try dsimp only at *))
      exact h2 v w hI
    · ((repeat' first | refine hP _ ?_ | refine ⟨fun c1 => absurd c1 (by decide), fun _ => ?_⟩ | refine ⟨fun _ => ?_, fun c1 => absurd c1 (by decide)⟩ | refine ⟨am_vin rfl, ?_⟩ | refine ⟨fun c1 => ?_, fun c1 => ?_⟩ | refine ⟨Or.inr rfl, ?_⟩ | refine ⟨Or.inl rfl, ?_⟩ | fail); all_goals (try dsimp only at *))
      refine h 1 _ w (fun Q2 h2 => ?_)
      refine en_X12_tolerance rfl ?_
      intro P2 hP2
      ((repeat' first | refine hP2 _ ?_ | fail); try dsimp only)
      refine m_X12_in1 c1 c2 ?_
      ((repeat' first | refine hP2 _ ?_ | fail); try dsimp only)
      refine ⟨fun e => absurd e (by decide), fun _ => ?_⟩
      ((repeat' first | refine hP2 _ ?_ | fail); try dsimp only)
      refine m_X12_in1 e1 e2 ?_
      ((repeat' first | refine hP2 _ ?_ | refine ⟨fun c1 => absurd c1 (by decide), fun _ => ?_⟩ | refine ⟨fun _ => ?_, fun c1 => absurd c1 (by decide)⟩ | refine ⟨am_vin rfl, ?_⟩ | refine ⟨fun c1 => ?_, fun c1 => ?_⟩ | refine ⟨Or.inr rfl, ?_⟩ | refine ⟨Or.inl rfl, ?_⟩ | fail); all_goals (try dsimp only at *))
      refine h2 _ w ?_
      obtain ⟨hm, hk, hmi, ht, hl, hr⟩ := hI
      refine ⟨?_, ?_, ?_, ?_, ?_, ?_⟩
      · simpa [iv_meet, iv_rng, am_up_ne] using hm
      · simpa [iv_meet, iv_rng, am_up_eq] using hk
      · simpa [iv_misc, iv_in, am_up_eq, c1, c2, e1, e2] using ⟨hmi.1, hmi.2.1⟩
      · simpa [iv_tape, am_up_eq, am_up_ne] using ht
      · simpa [iv_law, am_up_eq, am_up_ne] using hl
      · simpa [iv_tre, am_up_eq, am_up_ne] using hr
set_option maxRecDepth 100000 in
set_option maxHeartbeats 4000000 in
theorem pr_seed {L : Nat} {xs : Nat → Int32} (a : Int32) : am_pair L xs 128 230 [.int a] := by
  intro d v w Q hI h
  refine en_X11_seed rfl ?_
  intro P hP
  ((repeat' first | refine hP _ ?_ | fail); try dsimp only)
  refine m_X11_outside (fun c => ?_) (fun c1 c2 => ?_)
  · ((repeat' first | refine hP _ ?_ | refine ⟨fun c1 => absurd c1 (by decide), fun _ => ?_⟩ | refine ⟨fun _ => ?_, fun c1 => absurd c1 (by decide)⟩ | refine ⟨am_vin rfl, ?_⟩ | refine ⟨fun c1 => ?_, fun c1 => ?_⟩ | refine ⟨Or.inr rfl, ?_⟩ | refine ⟨Or.inl rfl, ?_⟩ | fail); all_goals (try dsimp only at *))
    refine h 0 v w (fun Q2 h2 => ?_)
    refine en_X12_seed rfl ?_
    intro P2 hP2
    ((repeat' first | refine hP2 _ ?_ | fail); try dsimp only)
    refine m_X12_in0 c ?_
    ((repeat' first | refine hP2 _ ?_ | refine ⟨fun c1 => absurd c1 (by decide), fun _ => ?_⟩ | refine ⟨fun _ => ?_, fun c1 => absurd c1 (by decide)⟩ | refine ⟨am_vin rfl, ?_⟩ | refine ⟨fun c1 => ?_, fun c1 => ?_⟩ | refine ⟨Or.inr rfl, ?_⟩ | refine ⟨Or.inl rfl, ?_⟩ | fail); all_goals (try dsimp only at *))
    exact h2 v w hI
  · ((repeat' first | refine hP _ ?_ | refine ⟨fun c1 => absurd c1 (by decide), fun _ => ?_⟩ | refine ⟨fun _ => ?_, fun c1 => absurd c1 (by decide)⟩ | refine ⟨am_vin rfl, ?_⟩ | refine ⟨fun c1 => ?_, fun c1 => ?_⟩ | refine ⟨Or.inr rfl, ?_⟩ | refine ⟨Or.inl rfl, ?_⟩ | fail); all_goals (try dsimp only at *))
    refine h 1 _ w (fun Q2 h2 => ?_)
    refine en_X12_seed rfl ?_
    intro P2 hP2
    ((repeat' first | refine hP2 _ ?_ | fail); try dsimp only)
    refine m_X12_in1 c1 c2 ?_
    ((repeat' first | refine hP2 _ ?_ | refine ⟨fun c1 => absurd c1 (by decide), fun _ => ?_⟩ | refine ⟨fun _ => ?_, fun c1 => absurd c1 (by decide)⟩ | refine ⟨am_vin rfl, ?_⟩ | refine ⟨fun c1 => ?_, fun c1 => ?_⟩ | refine ⟨Or.inr rfl, ?_⟩ | refine ⟨Or.inl rfl, ?_⟩ | fail); all_goals (try dsimp only at *))
    refine h2 _ w ?_
    obtain ⟨hm, hk, hmi, ht, hl, hr⟩ := hI
    refine ⟨?_, ?_, ?_, ?_, ?_, ?_⟩
    · obtain ⟨⟨m1, m2, m3, m4⟩, r1, r2, r3, r4⟩ := hm
      have e : Int32.toNatClampNeg 13 = 13 := rfl
      simpa [iv_meet, iv_rng, iv_in, iv_bit, am_up_eq, am_up_ne, e, c1, c2] using ⟨⟨m1, m2, m3⟩, r1, r2, r3⟩
    · simpa [iv_meet, iv_rng, iv_in, iv_bit, am_up_eq, am_up_ne] using hk
    · simpa [iv_misc, iv_in, iv_bit, am_up_eq, am_up_ne] using hmi
    · simpa [iv_tape, am_up_eq, am_up_ne] using ht
    · simpa [iv_law, am_up_eq, am_up_ne] using hl
    · simpa [iv_tre, am_up_eq, am_up_ne] using hr
section M23b
variable {K : am_K} {I : am_I} {d : Nat} {v : am_V} {w : am_X} {Q : Option Value → am_H → Prop}
set_option maxRecDepth 100000 in
set_option maxHeartbeats 4000000 in
theorem m_X5_kingOf {m a b : Nat} (hm : (m = 30 ∧ a = 31 ∧ b = 32) ∨ (m = 33 ∧ a = 34 ∧ b = 35)) {k : Int32} (h1 : k = 1 → Q (some (.ref b)) (am_sh, v, w)) (h0 : ¬ k = 1 → Q (some (.ref a)) (am_sh, v, w)) : am_run K I am_m (d + 1) 62 [.ref m, .int k] (am_sh, v, w) 0 0 Q := by
  rcases hm with ⟨rfl, rfl, rfl⟩ | ⟨rfl, rfl, rfl⟩
  · refine en_X5_kingOf rfl ?_
    intro P hP
    ((repeat' first | refine hP _ ?_ | refine ⟨fun c1 => absurd c1 (by decide), fun _ => ?_⟩ | refine ⟨fun _ => ?_, fun c1 => absurd c1 (by decide)⟩ | refine ⟨am_vin rfl, ?_⟩ | refine ⟨fun c1 => ?_, fun c1 => ?_⟩ | refine ⟨Or.inr rfl, ?_⟩ | refine ⟨Or.inl rfl, ?_⟩ | fail); all_goals (try dsimp only at *))
    · exact h0 (by assumption)
    · exact h1 (by assumption)
  · refine en_X5_kingOf rfl ?_
    intro P hP
    ((repeat' first | refine hP _ ?_ | refine ⟨fun c1 => absurd c1 (by decide), fun _ => ?_⟩ | refine ⟨fun _ => ?_, fun c1 => absurd c1 (by decide)⟩ | refine ⟨am_vin rfl, ?_⟩ | refine ⟨fun c1 => ?_, fun c1 => ?_⟩ | refine ⟨Or.inr rfl, ?_⟩ | refine ⟨Or.inl rfl, ?_⟩ | fail); all_goals (try dsimp only at *))
    · exact h0 (by assumption)
    · exact h1 (by assumption)
set_option maxRecDepth 100000 in
set_option maxHeartbeats 4000000 in
theorem m_X1_begin {k : Nat} (hk : k = 31 ∨ k = 32) {s l : Int32} (hl : iv_bit l) (h : Q none (am_sh, am_up (am_up (am_up (am_up (am_up (am_up v k 0 s) k 4 l) k 1 0) k 2 0) k 3 1) k 5 0, w)) : am_run K I am_m (d + 1) 17 [.ref k, .int s, .int l] (am_sh, v, w) 0 0 Q := by
  rcases hk with rfl | rfl
  · refine en_X1_begin rfl ?_
    intro P hP
    ((repeat' first | refine hP _ ?_ | fail); try dsimp only)
    refine ⟨hl, ?_⟩
    ((repeat' first | refine hP _ ?_ | refine ⟨fun c1 => absurd c1 (by decide), fun _ => ?_⟩ | refine ⟨fun _ => ?_, fun c1 => absurd c1 (by decide)⟩ | refine ⟨am_vin rfl, ?_⟩ | refine ⟨fun c1 => ?_, fun c1 => ?_⟩ | refine ⟨Or.inr rfl, ?_⟩ | refine ⟨Or.inl rfl, ?_⟩ | fail); all_goals (try dsimp only at *))
    exact h
  · refine en_X1_begin rfl ?_
    intro P hP
    ((repeat' first | refine hP _ ?_ | fail); try dsimp only)
    refine ⟨hl, ?_⟩
    ((repeat' first | refine hP _ ?_ | refine ⟨fun c1 => absurd c1 (by decide), fun _ => ?_⟩ | refine ⟨fun _ => ?_, fun c1 => absurd c1 (by decide)⟩ | refine ⟨am_vin rfl, ?_⟩ | refine ⟨fun c1 => ?_, fun c1 => ?_⟩ | refine ⟨Or.inr rfl, ?_⟩ | refine ⟨Or.inl rfl, ?_⟩ | fail); all_goals (try dsimp only at *))
    exact h
end M23b
set_option maxRecDepth 100000 in
set_option maxHeartbeats 4000000 in
theorem pr_king {L : Nat} {xs : Nat → Int32} (a b c : Int32) (hc : iv_bit c) : am_pair L xs 103 147 [.int a, .int b, .int c] := by
  intro d v w Q hI h
  refine en_X11_king rfl ?_
  intro P hP
  ((repeat' first | refine hP _ ?_ | fail); try dsimp only)
  refine m_X11_outside (fun e => ?_) (fun c1 c2 => ?_)
  · ((repeat' first | refine hP _ ?_ | refine ⟨fun c1 => absurd c1 (by decide), fun _ => ?_⟩ | refine ⟨fun _ => ?_, fun c1 => absurd c1 (by decide)⟩ | refine ⟨am_vin rfl, ?_⟩ | refine ⟨fun c1 => ?_, fun c1 => ?_⟩ | refine ⟨Or.inr rfl, ?_⟩ | refine ⟨Or.inl rfl, ?_⟩ | fail); all_goals (try dsimp only at *))
    refine h 0 v w (fun Q2 h2 => ?_)
    refine en_X12_king rfl ?_
    intro P2 hP2
    ((repeat' first | refine hP2 _ ?_ | fail); try dsimp only)
    refine m_X12_in0 e ?_
    ((repeat' first | refine hP2 _ ?_ | refine ⟨fun c1 => absurd c1 (by decide), fun _ => ?_⟩ | refine ⟨fun _ => ?_, fun c1 => absurd c1 (by decide)⟩ | refine ⟨am_vin rfl, ?_⟩ | refine ⟨fun c1 => ?_, fun c1 => ?_⟩ | refine ⟨Or.inr rfl, ?_⟩ | refine ⟨Or.inl rfl, ?_⟩ | fail); all_goals (try dsimp only at *))
    exact h2 v w hI
  · ((repeat' first | refine hP _ ?_ | fail); try dsimp only)
    refine ⟨fun e => absurd rfl e, fun _ => ?_⟩
    ((repeat' first | refine hP _ ?_ | fail); try dsimp only)
    refine m_X11_outside (fun e => ?_) (fun e1 e2 => ?_)
    · ((repeat' first | refine hP _ ?_ | refine ⟨fun c1 => absurd c1 (by decide), fun _ => ?_⟩ | refine ⟨fun _ => ?_, fun c1 => absurd c1 (by decide)⟩ | refine ⟨am_vin rfl, ?_⟩ | refine ⟨fun c1 => ?_, fun c1 => ?_⟩ | refine ⟨Or.inr rfl, ?_⟩ | refine ⟨Or.inl rfl, ?_⟩ | fail); all_goals (try dsimp only at *))
      refine h 0 v w (fun Q2 h2 => ?_)
      refine en_X12_king rfl ?_
      intro P2 hP2
      ((repeat' first | refine hP2 _ ?_ | fail); try dsimp only)
      refine m_X12_in1 c1 c2 ?_
      ((repeat' first | refine hP2 _ ?_ | fail); try dsimp only)
      refine ⟨fun e => absurd e (by decide), fun _ => ?_⟩
      ((repeat' first | refine hP2 _ ?_ | fail); try dsimp only)
      refine m_X12_in0 e ?_
      ((repeat' first | refine hP2 _ ?_ | refine ⟨fun c1 => absurd c1 (by decide), fun _ => ?_⟩ | refine ⟨fun _ => ?_, fun c1 => absurd c1 (by decide)⟩ | refine ⟨am_vin rfl, ?_⟩ | refine ⟨fun c1 => ?_, fun c1 => ?_⟩ | refine ⟨Or.inr rfl, ?_⟩ | refine ⟨Or.inl rfl, ?_⟩ | fail); all_goals (try dsimp only at *))
      exact h2 v w hI
    · ((repeat' first | refine hP _ ?_ | refine ⟨fun c1 => absurd c1 (by decide), fun _ => ?_⟩ | refine ⟨fun _ => ?_, fun c1 => absurd c1 (by decide)⟩ | refine ⟨am_vin rfl, ?_⟩ | refine ⟨fun c1 => ?_, fun c1 => ?_⟩ | refine ⟨Or.inr rfl, ?_⟩ | refine ⟨Or.inl rfl, ?_⟩ | fail); all_goals (try dsimp only at *))
      have hr2 : ∀ {Q2 : Option Value → am_H → Prop} {v1 : am_V}, (∀ P2 : am_C → Prop, (∀ q, am_step (am_kc L xs) am_idx (am_run (am_kc L xs) am_idx am_m (d + 29)) cd_X12_king 0 0 Q2 P2 q → P2 q) → P2 (cd_X12_king.drop 12, am_ent 4 [Value.ref 62, Value.int a, Value.int b, Value.int c], [], (am_sh, v1, w), 0, 0)) → am_run (am_kc L xs) am_idx am_m (d + 30) 147 [.ref 62, .int a, .int b, .int c] (am_sh, v1, w) 0 0 Q2 := by
        intro Q2 v1 hh
        refine en_X12_king rfl ?_
        intro P2 hP2
        ((repeat' first | refine hP2 _ ?_ | fail); try dsimp only)
        refine m_X12_in1 c1 c2 ?_
        ((repeat' first | refine hP2 _ ?_ | fail); try dsimp only)
        refine ⟨fun e => absurd e (by decide), fun _ => ?_⟩
        ((repeat' first | refine hP2 _ ?_ | fail); try dsimp only)
        refine m_X12_in1 e1 e2 ?_
        ((repeat' first | refine hP2 _ ?_ | fail); try dsimp only)
        refine ⟨fun _ => ?_, fun e => absurd e (by decide)⟩
        exact hh P2 hP2
      rcases am_01 c1 c2 with rfl | rfl
      · refine m_X5_kingOf (Or.inl ⟨rfl, rfl, rfl⟩) (fun e => absurd e (by decide)) (fun _ => ?_)
        ((repeat' first | refine hP _ ?_ | fail); try dsimp only)
        refine m_X1_begin (Or.inl rfl) hc ?_
        ((repeat' first | refine hP _ ?_ | refine ⟨fun c1 => absurd c1 (by decide), fun _ => ?_⟩ | refine ⟨fun _ => ?_, fun c1 => absurd c1 (by decide)⟩ | refine ⟨am_vin rfl, ?_⟩ | refine ⟨fun c1 => ?_, fun c1 => ?_⟩ | refine ⟨Or.inr rfl, ?_⟩ | refine ⟨Or.inl rfl, ?_⟩ | fail); all_goals (try dsimp only at *))
        refine h 1 _ w (fun Q2 h2 => ?_)
        refine hr2 (fun P2 hP2 => ?_)
        rcases hc with rfl | rfl
        · ((repeat' first | refine hP2 _ ?_ | refine ⟨fun c1 => absurd c1 (by decide), fun _ => ?_⟩ | refine ⟨fun _ => ?_, fun c1 => absurd c1 (by decide)⟩ | refine ⟨am_vin rfl, ?_⟩ | refine ⟨fun c1 => ?_, fun c1 => ?_⟩ | refine ⟨Or.inr rfl, ?_⟩ | refine ⟨Or.inl rfl, ?_⟩ | fail); all_goals (try dsimp only at *))
          refine h2 _ w ?_
          obtain ⟨⟨⟨m1, m2, m3, m4⟩, r1, r2, r3, r4⟩, hk, hmi, ht, hl, hr⟩ := hI
          refine ⟨?_, ?_, ?_, ?_, ?_, ?_⟩
          · simp [iv_meet, iv_rng, iv_in, iv_bit, am_up_eq, am_up_ne, tn_0_0, tn_0_1, tn_2_0, tn_2_1, tn_4_0, tn_4_1, tn_6_0, tn_6_1, tn_8_0, tn_8_1, tn_10_0, tn_10_1, tn_0, tn_1, tn_2, tn_3, tn_4, tn_5, tn_6, tn_7, tn_8, tn_9, tn_10, tn_11, tn_12, tn_13, tn_14, tn_15, tn_16, tn_17, tn_18, tn_19, tn_20, tn_21, tn_22, tn_23] at m1 m2 m3 m4 r1 r2 r3 r4 ⊢
            simp_all
          · simpa [iv_meet, iv_rng, iv_in, iv_bit, am_up_eq, am_up_ne] using hk
          · simpa [iv_misc, iv_in, iv_bit, am_up_eq, am_up_ne] using hmi
          · simpa [iv_tape, am_up_eq, am_up_ne] using ht
          · simpa [iv_law, am_up_eq, am_up_ne] using hl
          · simpa [iv_tre, am_up_eq, am_up_ne] using hr
        · ((repeat' first | refine hP2 _ ?_ | refine ⟨fun c1 => absurd c1 (by decide), fun _ => ?_⟩ | refine ⟨fun _ => ?_, fun c1 => absurd c1 (by decide)⟩ | refine ⟨am_vin rfl, ?_⟩ | refine ⟨fun c1 => ?_, fun c1 => ?_⟩ | refine ⟨Or.inr rfl, ?_⟩ | refine ⟨Or.inl rfl, ?_⟩ | fail); all_goals (try dsimp only at *))
          refine h2 _ w ?_
          obtain ⟨⟨⟨m1, m2, m3, m4⟩, r1, r2, r3, r4⟩, hk, hmi, ht, hl, hr⟩ := hI
          refine ⟨?_, ?_, ?_, ?_, ?_, ?_⟩
          · simp [iv_meet, iv_rng, iv_in, iv_bit, am_up_eq, am_up_ne, tn_0_0, tn_0_1, tn_2_0, tn_2_1, tn_4_0, tn_4_1, tn_6_0, tn_6_1, tn_8_0, tn_8_1, tn_10_0, tn_10_1, tn_0, tn_1, tn_2, tn_3, tn_4, tn_5, tn_6, tn_7, tn_8, tn_9, tn_10, tn_11, tn_12, tn_13, tn_14, tn_15, tn_16, tn_17, tn_18, tn_19, tn_20, tn_21, tn_22, tn_23] at m1 m2 m3 m4 r1 r2 r3 r4 ⊢
            simp_all
          · simpa [iv_meet, iv_rng, iv_in, iv_bit, am_up_eq, am_up_ne] using hk
          · simpa [iv_misc, iv_in, iv_bit, am_up_eq, am_up_ne] using hmi
          · simpa [iv_tape, am_up_eq, am_up_ne] using ht
          · simpa [iv_law, am_up_eq, am_up_ne] using hl
          · simpa [iv_tre, am_up_eq, am_up_ne] using hr
      · refine m_X5_kingOf (Or.inl ⟨rfl, rfl, rfl⟩) (fun _ => ?_) (fun e => absurd rfl e)
        ((repeat' first | refine hP _ ?_ | fail); try dsimp only)
        refine m_X1_begin (Or.inr rfl) hc ?_
        ((repeat' first | refine hP _ ?_ | refine ⟨fun c1 => absurd c1 (by decide), fun _ => ?_⟩ | refine ⟨fun _ => ?_, fun c1 => absurd c1 (by decide)⟩ | refine ⟨am_vin rfl, ?_⟩ | refine ⟨fun c1 => ?_, fun c1 => ?_⟩ | refine ⟨Or.inr rfl, ?_⟩ | refine ⟨Or.inl rfl, ?_⟩ | fail); all_goals (try dsimp only at *))
        refine h 1 _ w (fun Q2 h2 => ?_)
        refine hr2 (fun P2 hP2 => ?_)
        rcases hc with rfl | rfl
        · ((repeat' first | refine hP2 _ ?_ | refine ⟨fun c1 => absurd c1 (by decide), fun _ => ?_⟩ | refine ⟨fun _ => ?_, fun c1 => absurd c1 (by decide)⟩ | refine ⟨am_vin rfl, ?_⟩ | refine ⟨fun c1 => ?_, fun c1 => ?_⟩ | refine ⟨Or.inr rfl, ?_⟩ | refine ⟨Or.inl rfl, ?_⟩ | fail); all_goals (try dsimp only at *))
          refine h2 _ w ?_
          obtain ⟨⟨⟨m1, m2, m3, m4⟩, r1, r2, r3, r4⟩, hk, hmi, ht, hl, hr⟩ := hI
          refine ⟨?_, ?_, ?_, ?_, ?_, ?_⟩
          · simp [iv_meet, iv_rng, iv_in, iv_bit, am_up_eq, am_up_ne, tn_0_0, tn_0_1, tn_2_0, tn_2_1, tn_4_0, tn_4_1, tn_6_0, tn_6_1, tn_8_0, tn_8_1, tn_10_0, tn_10_1, tn_0, tn_1, tn_2, tn_3, tn_4, tn_5, tn_6, tn_7, tn_8, tn_9, tn_10, tn_11, tn_12, tn_13, tn_14, tn_15, tn_16, tn_17, tn_18, tn_19, tn_20, tn_21, tn_22, tn_23] at m1 m2 m3 m4 r1 r2 r3 r4 ⊢
            simp_all
          · simpa [iv_meet, iv_rng, iv_in, iv_bit, am_up_eq, am_up_ne] using hk
          · simpa [iv_misc, iv_in, iv_bit, am_up_eq, am_up_ne] using hmi
          · simpa [iv_tape, am_up_eq, am_up_ne] using ht
          · simpa [iv_law, am_up_eq, am_up_ne] using hl
          · simpa [iv_tre, am_up_eq, am_up_ne] using hr
        · ((repeat' first | refine hP2 _ ?_ | refine ⟨fun c1 => absurd c1 (by decide), fun _ => ?_⟩ | refine ⟨fun _ => ?_, fun c1 => absurd c1 (by decide)⟩ | refine ⟨am_vin rfl, ?_⟩ | refine ⟨fun c1 => ?_, fun c1 => ?_⟩ | refine ⟨Or.inr rfl, ?_⟩ | refine ⟨Or.inl rfl, ?_⟩ | fail); all_goals (try dsimp only at *))
          refine h2 _ w ?_
          obtain ⟨⟨⟨m1, m2, m3, m4⟩, r1, r2, r3, r4⟩, hk, hmi, ht, hl, hr⟩ := hI
          refine ⟨?_, ?_, ?_, ?_, ?_, ?_⟩
          · simp [iv_meet, iv_rng, iv_in, iv_bit, am_up_eq, am_up_ne, tn_0_0, tn_0_1, tn_2_0, tn_2_1, tn_4_0, tn_4_1, tn_6_0, tn_6_1, tn_8_0, tn_8_1, tn_10_0, tn_10_1, tn_0, tn_1, tn_2, tn_3, tn_4, tn_5, tn_6, tn_7, tn_8, tn_9, tn_10, tn_11, tn_12, tn_13, tn_14, tn_15, tn_16, tn_17, tn_18, tn_19, tn_20, tn_21, tn_22, tn_23] at m1 m2 m3 m4 r1 r2 r3 r4 ⊢
            simp_all
          · simpa [iv_meet, iv_rng, iv_in, iv_bit, am_up_eq, am_up_ne] using hk
          · simpa [iv_misc, iv_in, iv_bit, am_up_eq, am_up_ne] using hmi
          · simpa [iv_tape, am_up_eq, am_up_ne] using ht
          · simpa [iv_law, am_up_eq, am_up_ne] using hl
          · simpa [iv_tre, am_up_eq, am_up_ne] using hr
end
section
/-! ===== pairs: keep, undo, kingIs ===== -/
theorem am_q {Q : Option Value → am_H → Prop} {o : Option Value} {sh : List am_S} {v v' : am_V} {w : am_X} (e : v = v') (h : Q o (sh, v', w)) : Q o (sh, v, w) := e ▸ h
/-- a king copied over another -/
def f_king (v : am_V) (k o : Nat) : am_V := fun x y => if x = k ∧ y < 6 then v o y else v x y
def f_meet (v : am_V) (c a b c2 a2 b2 : Nat) : am_V := am_up (am_up (f_king (f_king v a a2) b b2) c 2 (v c2 2)) c 3 (v c2 3)
/-- the first k of a row copied over another -/
def f_row (v : am_V) (r q k : Nat) : am_V := fun x y => if x = q ∧ y < k then v r y else v x y
theorem f_row_0 (v : am_V) (r q : Nat) : f_row v r q 0 = v := by
  funext x y
  simp [f_row]
theorem f_row_s {v : am_V} {r q k : Nat} (h : r ≠ q) : am_up (f_row v r q k) q k (f_row v r q k r k) = f_row v r q (k + 1) := by
  funext x y
  simp only [am_up_eq, f_row, h, false_and, if_false]
  by_cases hx : x = q
  · subst hx
    by_cases hy : y = k
    · subst hy
      simp
    · by_cases h2 : y < k
      · simp [hy, h2, Nat.lt_succ_of_lt h2]
      · have : ¬ y < k + 1 := by omega
        simp [hy, h2, this]
  · simp [hx]
theorem f_king_eq {v : am_V} {k o : Nat} (h : o ≠ k) : am_up (am_up (am_up (am_up (am_up (am_up v k 0 (v o 0)) k 1 (v o 1)) k 2 (v o 2)) k 3 (v o 3)) k 4 (v o 4)) k 5 (v o 5) = f_king v k o := by
  funext x y
  simp only [am_up_eq, f_king]
  by_cases hx : x = k
  · subst hx
    match y with
    | 0 => simp
    | 1 => simp
    | 2 => simp
    | 3 => simp
    | 4 => simp
    | 5 => simp
    | y + 6 =>
      have : ¬ y + 6 < 6 := by omega
      simp [this]
  · simp [hx]
section M24
variable {K : am_K} {I : am_I} {d : Nat} {v : am_V} {w : am_X} {Q : Option Value → am_H → Prop}
set_option maxRecDepth 100000 in
set_option maxHeartbeats 4000000 in
theorem m_X1_become {k o : Nat} (hko : (k = 37 ∧ o = 31) ∨ (k = 38 ∧ o = 32) ∨ (k = 31 ∧ o = 37) ∨ (k = 32 ∧ o = 38) ∨ (k = 34 ∧ o = 31) ∨ (k = 35 ∧ o = 32)) (hb : iv_bit (v o 3) ∧ iv_bit (v o 4) ∧ iv_bit (v o 5)) (h : Q none (am_sh, f_king v k o, w)) : am_run K I am_m (d + 1) 18 [.ref k, .ref o] (am_sh, v, w) 0 0 Q := by
  rcases hko with ⟨rfl, rfl⟩ | ⟨rfl, rfl⟩ | ⟨rfl, rfl⟩ | ⟨rfl, rfl⟩ | ⟨rfl, rfl⟩ | ⟨rfl, rfl⟩
  all_goals
    refine en_X1_become rfl ?_
    intro P hP
    ((repeat' first | refine hP _ ?_ | fail); try dsimp only)
    refine ⟨by simpa [am_up_eq, iv_bit] using hb.1, ?_⟩
    ((repeat' first | refine hP _ ?_ | fail); try dsimp only)
    refine ⟨by simpa [am_up_eq, iv_bit] using hb.2.1, ?_⟩
    ((repeat' first | refine hP _ ?_ | fail); try dsimp only)
    refine ⟨by simpa [am_up_eq, iv_bit] using hb.2.2, ?_⟩
    ((repeat' first | refine hP _ ?_ | fail); try dsimp only)
    refine am_q ?_ h
    rw [← f_king_eq (by decide)]
    simp [am_up_eq]
def iv_mm (c a b c2 a2 b2 : Nat) : Prop := (c = 36 ∧ a = 37 ∧ b = 38 ∧ c2 = 30 ∧ a2 = 31 ∧ b2 = 32) ∨ (c = 30 ∧ a = 31 ∧ b = 32 ∧ c2 = 36 ∧ a2 = 37 ∧ b2 = 38) ∨ (c = 33 ∧ a = 34 ∧ b = 35 ∧ c2 = 30 ∧ a2 = 31 ∧ b2 = 32)
set_option maxRecDepth 100000 in
set_option maxHeartbeats 4000000 in
theorem m_X5_become {c a b c2 a2 b2 : Nat} (hm : iv_mm c a b c2 a2 b2) (ha : iv_bit (v a2 3) ∧ iv_bit (v a2 4) ∧ iv_bit (v a2 5)) (hb : iv_bit (v b2 3) ∧ iv_bit (v b2 4) ∧ iv_bit (v b2 5)) (h : Q none (am_sh, f_meet v c a b c2 a2 b2, w)) : am_run K I am_m (d + 2) 63 [.ref c, .ref c2] (am_sh, v, w) 0 0 Q := by
  rcases hm with ⟨rfl, rfl, rfl, rfl, rfl, rfl⟩ | ⟨rfl, rfl, rfl, rfl, rfl, rfl⟩ | ⟨rfl, rfl, rfl, rfl, rfl, rfl⟩
  all_goals
    refine en_X5_become rfl ?_
    intro P hP
    ((repeat' first | refine hP _ ?_ | fail); try dsimp only)
    refine m_X1_become (by decide) ha ?_
    ((repeat' first | refine hP _ ?_ | fail); try dsimp only)
    refine m_X1_become (by decide) (by simpa [f_king] using hb) ?_
    ((repeat' first | refine hP _ ?_ | fail); try dsimp only)
    refine am_q ?_ h
    simp [f_meet, f_king, am_up_eq]
set_option maxRecDepth 100000 in
set_option maxHeartbeats 4000000 in
theorem m_X12_copies {r q : Nat} (hrq : (r = 63 ∧ q = 64) ∨ (r = 64 ∧ q = 63) ∨ (r = 63 ∧ q = 65) ∨ (r = 65 ∧ q = 63)) (h : Q none (am_sh, f_row v r q 14, w)) : am_run K I am_m (d + 1) 144 [.ref r, .ref q] (am_sh, v, w) 0 0 Q := by
  refine en_X12_copies rfl ?_
  intro P hP
  have key : ∀ n k : Nat, k + n = 14 → P (cd_X12_copies.drop 2, [some (.ref r), some (.ref q), some (.int (nI k))], [], (am_sh, f_row v r q k, w), 0, 0) := by
    intro n
    induction n with
    | zero =>
      intro k hk
      ((repeat' first | refine hP _ ?_ | fail); try dsimp only)
      refine ⟨fun _ => ?_, fun c => absurd (show (14 : Int32) ≤ nI k by rw [show k = 14 by omega]; decide) c⟩
      ((repeat' first | refine hP _ ?_ | fail); try dsimp only)
      rw [show k = 14 by omega]
      exact h
    | succ n ih =>
      intro k hk
      ((repeat' first | refine hP _ ?_ | fail); try dsimp only)
      refine ⟨fun c => absurd c (nI_ge (a := k) (b := 14) (by omega) (by omega)), fun _ => ?_⟩
      rcases hrq with ⟨rfl, rfl⟩ | ⟨rfl, rfl⟩ | ⟨rfl, rfl⟩ | ⟨rfl, rfl⟩
      all_goals
        ((repeat' first | refine hP _ ?_ | fail); try dsimp only)
        refine ⟨vp_in_nI (by omega) (by omega), ?_⟩
        ((repeat' first | refine hP _ ?_ | fail); try dsimp only)
        refine ⟨vp_in_nI (by omega) (by omega), ?_⟩
        have hc : (nI k).toNatClampNeg = k := nI_clamp (by omega)
        have e := ih (k + 1) (by omega)
        rw [← f_row_s (by decide), show nI (k + 1) = nI k + 1 from (nI_1 k).symm] at e
        dsimp only
        rw [hc]
        refine hP _ ?_
        refine hP _ ?_
        exact e
  rw [← f_row_0 v r q]
  rcases hrq with ⟨rfl, rfl⟩ | ⟨rfl, rfl⟩ | ⟨rfl, rfl⟩ | ⟨rfl, rfl⟩
  all_goals
    refine hP _ ?_
    refine hP _ ?_
    exact key 14 0 rfl
end M24
end
section
/-! ===== pairs: keep, undo, kingIs ===== -/
theorem am_qr {Q : Option Value → am_H → Prop} {r r' : Int32} {sh : List am_S} {v v' : am_V} {w : am_X} (e : r = r') (e2 : v = v') (h : Q (some (.int r')) (sh, v', w)) : Q (some (.int r)) (sh, v, w) := e ▸ e2 ▸ h
theorem iv_bits {v : am_V} {c a b r : Nat} (h : iv_meet v c a b r) (hr : iv_rng v r) : (iv_bit (v a 3) ∧ iv_bit (v a 4) ∧ iv_bit (v a 5)) ∧ (iv_bit (v b 3) ∧ iv_bit (v b 4) ∧ iv_bit (v b 5)) := by
  obtain ⟨-, ⟨h1, h2, h3, h4, h5, h6⟩, -⟩ := h
  obtain ⟨-, ⟨g1, g2, g3, g4, g5, g6⟩, -⟩ := hr
  rw [h1, h2, h3, h4, h5, h6]
  exact ⟨⟨g1, g3, g5⟩, g2, g4, g6⟩
set_option maxRecDepth 100000 in
set_option maxHeartbeats 4000000 in
theorem pr_keep {L : Nat} {xs : Nat → Int32} : am_pair L xs 129 231 [] := by
  intro d v w Q hI h
  obtain ⟨⟨hm, hmr⟩, hk, hmi, ht, hl, hr⟩ := hI
  obtain ⟨ba, bb⟩ := iv_bits hm hmr
  refine en_X11_keep rfl ?_
  intro P hP
  ((repeat' first | refine hP _ ?_ | fail); try dsimp only)
  refine m_X5_become (Or.inl ⟨rfl, rfl, rfl, rfl, rfl, rfl⟩) ba bb ?_
  ((repeat' first | refine hP _ ?_ | refine ⟨fun c1 => absurd c1 (by decide), fun _ => ?_⟩ | refine ⟨fun _ => ?_, fun c1 => absurd c1 (by decide)⟩ | refine ⟨am_vin rfl, ?_⟩ | refine ⟨fun c1 => ?_, fun c1 => ?_⟩ | refine ⟨Or.inr rfl, ?_⟩ | refine ⟨Or.inl rfl, ?_⟩ | fail); all_goals (try dsimp only at *))
  refine am_qr (r' := v 30 2) (by simp [f_meet, f_king, am_up_eq]) rfl (h _ _ w (fun Q2 h2 => ?_))
  refine en_X12_keep rfl ?_
  intro P2 hP2
  ((repeat' first | refine hP2 _ ?_ | fail); try dsimp only)
  refine ⟨Or.inr rfl, ?_⟩
  ((repeat' first | refine hP2 _ ?_ | fail); try dsimp only)
  refine m_X12_copies (by decide) ?_
  ((repeat' first | refine hP2 _ ?_ | refine ⟨fun c1 => absurd c1 (by decide), fun _ => ?_⟩ | refine ⟨fun _ => ?_, fun c1 => absurd c1 (by decide)⟩ | refine ⟨am_vin rfl, ?_⟩ | refine ⟨fun c1 => ?_, fun c1 => ?_⟩ | refine ⟨Or.inr rfl, ?_⟩ | refine ⟨Or.inl rfl, ?_⟩ | fail); all_goals (try dsimp only at *))
  refine am_qr (r' := v 30 2) (by simp [f_meet, f_king, f_row, am_up_eq, tn_0_0, tn_0_1, tn_2_0, tn_2_1, tn_4_0, tn_4_1, tn_6_0, tn_6_1, tn_8_0, tn_8_1, tn_10_0, tn_10_1, tn_0, tn_1, tn_2, tn_3, tn_4, tn_5, tn_6, tn_7, tn_8, tn_9, tn_10, tn_11, tn_12, tn_13, tn_14, tn_15, tn_16, tn_17, tn_18, tn_19, tn_20, tn_21, tn_22, tn_23]; exact hm.2.2.1.symm) rfl (h2 _ w ?_)
  refine ⟨⟨?_, ?_⟩, fun _ => ⟨?_, ?_⟩, ?_, ?_, ?_, ?_⟩
  · simpa [iv_meet, f_meet, f_king, f_row, am_up_eq] using hm
  · simpa [iv_rng, f_meet, f_king, f_row, am_up_eq] using hmr
  · simpa [iv_meet, f_meet, f_king, f_row, am_up_eq] using hm
  · simpa [iv_rng, f_meet, f_king, f_row, am_up_eq] using hmr
  · simpa [iv_misc, iv_bit, f_meet, f_king, f_row, am_up_eq] using hmi.2.2
  · simpa (config := { unfoldPartialApp := true }) [iv_tape, f_meet, f_king, f_row, am_up_eq, am_up_ne] using ht
  · simpa (config := { unfoldPartialApp := true }) [iv_law, f_meet, f_king, f_row, am_up_eq, am_up_ne] using hl
  · simpa (config := { unfoldPartialApp := true }) [iv_tre, f_meet, f_king, f_row, am_up_eq, am_up_ne] using hr
set_option maxRecDepth 100000 in
set_option maxHeartbeats 4000000 in
theorem pr_undo {L : Nat} {xs : Nat → Int32} : am_pair L xs 130 232 [] := by
  intro d v w Q hI h
  refine en_X11_undo rfl ?_
  intro P hP
  ((repeat' first | refine hP _ ?_ | fail); try dsimp only)
  refine ⟨fun c => ?_, fun c => ?_⟩
  · obtain ⟨⟨hm, hmr⟩, hk, hmi, ht, hl, hr⟩ := hI
    have h11 : v 0 11 = 1 := by
      rcases hmi.2.1 with q | q
      · exact absurd q c
      · exact q
    obtain ⟨km, kr⟩ := hk h11
    obtain ⟨ba, bb⟩ := iv_bits km kr
    ((repeat' first | refine hP _ ?_ | fail); try dsimp only)
    refine m_X5_become (Or.inr (Or.inl ⟨rfl, rfl, rfl, rfl, rfl, rfl⟩)) ba bb ?_
    ((repeat' first | refine hP _ ?_ | refine ⟨fun c1 => absurd c1 (by decide), fun _ => ?_⟩ | refine ⟨fun _ => ?_, fun c1 => absurd c1 (by decide)⟩ | refine ⟨am_vin rfl, ?_⟩ | refine ⟨fun c1 => ?_, fun c1 => ?_⟩ | refine ⟨Or.inr rfl, ?_⟩ | refine ⟨Or.inl rfl, ?_⟩ | fail); all_goals (try dsimp only at *))
    refine h 1 _ w (fun Q2 h2 => ?_)
    refine en_X12_undo rfl ?_
    intro P2 hP2
    ((repeat' first | refine hP2 _ ?_ | fail); try dsimp only)
    refine ⟨fun _ => ?_, fun e => absurd (show f_meet v 30 31 32 36 37 38 62 62 = 0 from e) (by
      have : f_meet v 30 31 32 36 37 38 62 62 = v 62 62 := by simp [f_meet, f_king, am_up_eq]
      rw [this, ← hmi.1, h11]
      decide)⟩
    ((repeat' first | refine hP2 _ ?_ | fail); try dsimp only)
    refine m_X12_copies (by decide) ?_
    ((repeat' first | refine hP2 _ ?_ | refine ⟨fun c1 => absurd c1 (by decide), fun _ => ?_⟩ | refine ⟨fun _ => ?_, fun c1 => absurd c1 (by decide)⟩ | refine ⟨am_vin rfl, ?_⟩ | refine ⟨fun c1 => ?_, fun c1 => ?_⟩ | refine ⟨Or.inr rfl, ?_⟩ | refine ⟨Or.inl rfl, ?_⟩ | fail); all_goals (try dsimp only at *))
    refine h2 _ w ?_
    refine ⟨⟨?_, ?_⟩, fun _ => ⟨?_, ?_⟩, ?_, ?_, ?_, ?_⟩
    · simpa [iv_meet, f_meet, f_king, f_row, am_up_eq] using km
    · simpa [iv_rng, f_meet, f_king, f_row, am_up_eq] using kr
    · simpa [iv_meet, f_meet, f_king, f_row, am_up_eq] using km
    · simpa [iv_rng, f_meet, f_king, f_row, am_up_eq] using kr
    · simpa [iv_misc, iv_bit, f_meet, f_king, f_row, am_up_eq] using hmi
    · simpa (config := { unfoldPartialApp := true }) [iv_tape, f_meet, f_king, f_row, am_up_eq, am_up_ne] using ht
    · simpa (config := { unfoldPartialApp := true }) [iv_law, f_meet, f_king, f_row, am_up_eq, am_up_ne] using hl
    · simpa (config := { unfoldPartialApp := true }) [iv_tre, f_meet, f_king, f_row, am_up_eq, am_up_ne] using hr
  · ((repeat' first | refine hP _ ?_ | refine ⟨fun c1 => absurd c1 (by decide), fun _ => ?_⟩ | refine ⟨fun _ => ?_, fun c1 => absurd c1 (by decide)⟩ | refine ⟨am_vin rfl, ?_⟩ | refine ⟨fun c1 => ?_, fun c1 => ?_⟩ | refine ⟨Or.inr rfl, ?_⟩ | refine ⟨Or.inl rfl, ?_⟩ | fail); all_goals (try dsimp only at *))
    refine h 0 v w (fun Q2 h2 => ?_)
    refine en_X12_undo rfl ?_
    intro P2 hP2
    ((repeat' first | refine hP2 _ ?_ | fail); try dsimp only)
    refine ⟨fun e => absurd (hI.2.2.1.1.symm.trans c) e, fun _ => ?_⟩
    ((repeat' first | refine hP2 _ ?_ | refine ⟨fun c1 => absurd c1 (by decide), fun _ => ?_⟩ | refine ⟨fun _ => ?_, fun c1 => absurd c1 (by decide)⟩ | refine ⟨am_vin rfl, ?_⟩ | refine ⟨fun c1 => ?_, fun c1 => ?_⟩ | refine ⟨Or.inr rfl, ?_⟩ | refine ⟨Or.inl rfl, ?_⟩ | fail); all_goals (try dsimp only at *))
    exact h2 v w hI
end
section
/-! ===== pairs: kingIs ===== -/
theorem iv_bit01 {x : Int32} (h : iv_bit x) (c : ¬ x = 0) : x = 1 := h.elim (fun q => absurd q c) id
theorem am_le5 {b : Int32} (h : b < 0 ∨ 0 + Int32.ofNat 6 ≤ b) : b < 0 ∨ 5 < b := by
  rcases h with h | h
  · exact Or.inl h
  · refine Or.inr ?_
    have a := Int32.le_iff_toInt_le.mp h
    rw [show (0 + Int32.ofNat 6 : Int32).toInt = 6 from rfl] at a
    rw [Int32.lt_iff_toInt_lt, show (5 : Int32).toInt = 5 from rfl]
    omega
set_option maxRecDepth 100000 in
set_option maxHeartbeats 4000000 in
theorem pr_kingIs {L : Nat} {xs : Nat → Int32} (a b : Int32) : am_pair L xs 111 194 [.int a, .int b] := by
  intro d v w Q hI h
  refine en_X11_kingIs rfl ?_
  intro P hP
  ((repeat' first | refine hP _ ?_ | fail); try dsimp only)
  refine m_X11_outside (fun c => ?_) (fun c1 c2 => ?_)
  · ((repeat' first | refine hP _ ?_ | refine ⟨fun c1 => absurd c1 (by decide), fun _ => ?_⟩ | refine ⟨fun _ => ?_, fun c1 => absurd c1 (by decide)⟩ | refine ⟨am_vin rfl, ?_⟩ | refine ⟨fun c1 => ?_, fun c1 => ?_⟩ | refine ⟨Or.inr rfl, ?_⟩ | refine ⟨Or.inl rfl, ?_⟩ | fail); all_goals (try dsimp only at *))
    refine h (-1) v w (fun Q2 h2 => ?_)
    refine en_X12_kingIs rfl ?_
    intro P2 hP2
    ((repeat' first | refine hP2 _ ?_ | fail); try dsimp only)
    refine m_X12_in0 c ?_
    ((repeat' first | refine hP2 _ ?_ | refine ⟨fun c1 => absurd c1 (by decide), fun _ => ?_⟩ | refine ⟨fun _ => ?_, fun c1 => absurd c1 (by decide)⟩ | refine ⟨am_vin rfl, ?_⟩ | refine ⟨fun c1 => ?_, fun c1 => ?_⟩ | refine ⟨Or.inr rfl, ?_⟩ | refine ⟨Or.inl rfl, ?_⟩ | fail); all_goals (try dsimp only at *))
    exact h2 v w hI
  · ((repeat' first | refine hP _ ?_ | fail); try dsimp only)
    refine ⟨fun _ => ?_, fun e => absurd rfl e⟩
    ((repeat' first | refine hP _ ?_ | fail); try dsimp only)
    have hI0 := hI
    obtain ⟨⟨⟨⟨m1, m2, m3, m4, m5, m6⟩, ⟨m7, m8, m9, m10, m11, m12⟩, m13, m14⟩, r1, ⟨r7, r8, r9, r10, r11, r12⟩, r3, r4⟩, -⟩ := hI0
    rcases am_01 c1 c2 with rfl | rfl
    · refine m_X5_kingOf (Or.inl ⟨rfl, rfl, rfl⟩) (fun e => absurd e (by decide)) (fun e => ?_)
      ((repeat' first | refine hP _ ?_ | fail); try dsimp only)
      refine ⟨⟨fun e => ?_, fun e => ?_, fun e => ?_, fun e => ?_, fun e => ?_, fun e => ?_, trivial⟩, fun e => ?_⟩
      · subst e
        ((repeat' first | refine hP _ ?_ | refine ⟨fun c1 => absurd c1 (by decide), fun _ => ?_⟩ | refine ⟨fun _ => ?_, fun c1 => absurd c1 (by decide)⟩ | refine ⟨am_vin rfl, ?_⟩ | refine ⟨fun c1 => ?_, fun c1 => ?_⟩ | refine ⟨Or.inr rfl, ?_⟩ | refine ⟨Or.inl rfl, ?_⟩ | fail); all_goals (try dsimp only at *))
        refine h (v 31 0) v w (fun Q2 h2 => ?_)
        refine en_X12_kingIs rfl ?_
        intro P2 hP2
        ((repeat' first | refine hP2 _ ?_ | fail); try dsimp only)
        refine m_X12_in1 c1 c2 ?_
        ((repeat' first | refine hP2 _ ?_ | fail); try dsimp only)
        refine ⟨fun e => absurd e (by decide), fun _ => ?_⟩
        ((repeat' first | refine hP2 _ ?_ | fail); try dsimp only)
        refine m_X12_in1 (by decide) (by decide) ?_
        ((repeat' first | refine hP2 _ ?_ | refine ⟨fun c1 => absurd c1 (by decide), fun _ => ?_⟩ | refine ⟨fun _ => ?_, fun c1 => absurd c1 (by decide)⟩ | refine ⟨am_vin rfl, ?_⟩ | refine ⟨fun c1 => ?_, fun c1 => ?_⟩ | refine ⟨Or.inr rfl, ?_⟩ | refine ⟨Or.inl rfl, ?_⟩ | fail); all_goals (try dsimp only at *))
        refine am_qr (show v 63 0 = _ from m1.symm) rfl (h2 v w hI)
      · subst e
        ((repeat' first | refine hP _ ?_ | refine ⟨fun c1 => absurd c1 (by decide), fun _ => ?_⟩ | refine ⟨fun _ => ?_, fun c1 => absurd c1 (by decide)⟩ | refine ⟨am_vin rfl, ?_⟩ | refine ⟨fun c1 => ?_, fun c1 => ?_⟩ | refine ⟨Or.inr rfl, ?_⟩ | refine ⟨Or.inl rfl, ?_⟩ | fail); all_goals (try dsimp only at *))
        refine h (v 31 1) v w (fun Q2 h2 => ?_)
        refine en_X12_kingIs rfl ?_
        intro P2 hP2
        ((repeat' first | refine hP2 _ ?_ | fail); try dsimp only)
        refine m_X12_in1 c1 c2 ?_
        ((repeat' first | refine hP2 _ ?_ | fail); try dsimp only)
        refine ⟨fun e => absurd e (by decide), fun _ => ?_⟩
        ((repeat' first | refine hP2 _ ?_ | fail); try dsimp only)
        refine m_X12_in1 (by decide) (by decide) ?_
        ((repeat' first | refine hP2 _ ?_ | refine ⟨fun c1 => absurd c1 (by decide), fun _ => ?_⟩ | refine ⟨fun _ => ?_, fun c1 => absurd c1 (by decide)⟩ | refine ⟨am_vin rfl, ?_⟩ | refine ⟨fun c1 => ?_, fun c1 => ?_⟩ | refine ⟨Or.inr rfl, ?_⟩ | refine ⟨Or.inl rfl, ?_⟩ | fail); all_goals (try dsimp only at *))
        refine am_qr (show v 63 2 = _ from m3.symm) rfl (h2 v w hI)
      · subst e
        ((repeat' first | refine hP _ ?_ | refine ⟨fun c1 => absurd c1 (by decide), fun _ => ?_⟩ | refine ⟨fun _ => ?_, fun c1 => absurd c1 (by decide)⟩ | refine ⟨am_vin rfl, ?_⟩ | refine ⟨fun c1 => ?_, fun c1 => ?_⟩ | refine ⟨Or.inr rfl, ?_⟩ | refine ⟨Or.inl rfl, ?_⟩ | fail); all_goals (try dsimp only at *))
        refine h (v 31 2) v w (fun Q2 h2 => ?_)
        refine en_X12_kingIs rfl ?_
        intro P2 hP2
        ((repeat' first | refine hP2 _ ?_ | fail); try dsimp only)
        refine m_X12_in1 c1 c2 ?_
        ((repeat' first | refine hP2 _ ?_ | fail); try dsimp only)
        refine ⟨fun e => absurd e (by decide), fun _ => ?_⟩
        ((repeat' first | refine hP2 _ ?_ | fail); try dsimp only)
        refine m_X12_in1 (by decide) (by decide) ?_
        ((repeat' first | refine hP2 _ ?_ | refine ⟨fun c1 => absurd c1 (by decide), fun _ => ?_⟩ | refine ⟨fun _ => ?_, fun c1 => absurd c1 (by decide)⟩ | refine ⟨am_vin rfl, ?_⟩ | refine ⟨fun c1 => ?_, fun c1 => ?_⟩ | refine ⟨Or.inr rfl, ?_⟩ | refine ⟨Or.inl rfl, ?_⟩ | fail); all_goals (try dsimp only at *))
        refine am_qr (show v 63 4 = _ from m5.symm) rfl (h2 v w hI)
      · subst e
        ((repeat' first | refine hP _ ?_ | fail); try dsimp only)
        refine ⟨fun z => ?_, fun z => ?_⟩
        · ((repeat' first | refine hP _ ?_ | refine ⟨fun c1 => absurd c1 (by decide), fun _ => ?_⟩ | refine ⟨fun _ => ?_, fun c1 => absurd c1 (by decide)⟩ | refine ⟨am_vin rfl, ?_⟩ | refine ⟨fun c1 => ?_, fun c1 => ?_⟩ | refine ⟨Or.inr rfl, ?_⟩ | refine ⟨Or.inl rfl, ?_⟩ | fail); all_goals (try dsimp only at *))
          refine h 0 v w (fun Q2 h2 => ?_)
          refine en_X12_kingIs rfl ?_
          intro P2 hP2
          ((repeat' first | refine hP2 _ ?_ | fail); try dsimp only)
          refine m_X12_in1 c1 c2 ?_
          ((repeat' first | refine hP2 _ ?_ | fail); try dsimp only)
          refine ⟨fun e => absurd e (by decide), fun _ => ?_⟩
          ((repeat' first | refine hP2 _ ?_ | fail); try dsimp only)
          refine m_X12_in1 (by decide) (by decide) ?_
          ((repeat' first | refine hP2 _ ?_ | refine ⟨fun c1 => absurd c1 (by decide), fun _ => ?_⟩ | refine ⟨fun _ => ?_, fun c1 => absurd c1 (by decide)⟩ | refine ⟨am_vin rfl, ?_⟩ | refine ⟨fun c1 => ?_, fun c1 => ?_⟩ | refine ⟨Or.inr rfl, ?_⟩ | refine ⟨Or.inl rfl, ?_⟩ | fail); all_goals (try dsimp only at *))
          refine am_qr (show v 63 6 = _ from m7.symm.trans z) rfl (h2 v w hI)
        · ((repeat' first | refine hP _ ?_ | refine ⟨fun c1 => absurd c1 (by decide), fun _ => ?_⟩ | refine ⟨fun _ => ?_, fun c1 => absurd c1 (by decide)⟩ | refine ⟨am_vin rfl, ?_⟩ | refine ⟨fun c1 => ?_, fun c1 => ?_⟩ | refine ⟨Or.inr rfl, ?_⟩ | refine ⟨Or.inl rfl, ?_⟩ | fail); all_goals (try dsimp only at *))
          refine h 1 v w (fun Q2 h2 => ?_)
          refine en_X12_kingIs rfl ?_
          intro P2 hP2
          ((repeat' first | refine hP2 _ ?_ | fail); try dsimp only)
          refine m_X12_in1 c1 c2 ?_
          ((repeat' first | refine hP2 _ ?_ | fail); try dsimp only)
          refine ⟨fun e => absurd e (by decide), fun _ => ?_⟩
          ((repeat' first | refine hP2 _ ?_ | fail); try dsimp only)
          refine m_X12_in1 (by decide) (by decide) ?_
          ((repeat' first | refine hP2 _ ?_ | refine ⟨fun c1 => absurd c1 (by decide), fun _ => ?_⟩ | refine ⟨fun _ => ?_, fun c1 => absurd c1 (by decide)⟩ | refine ⟨am_vin rfl, ?_⟩ | refine ⟨fun c1 => ?_, fun c1 => ?_⟩ | refine ⟨Or.inr rfl, ?_⟩ | refine ⟨Or.inl rfl, ?_⟩ | fail); all_goals (try dsimp only at *))
          refine am_qr (show v 63 6 = _ from iv_bit01 r7 (fun q => z (m7.trans q))) rfl (h2 v w hI)
      · subst e
        ((repeat' first | refine hP _ ?_ | fail); try dsimp only)
        refine ⟨fun z => ?_, fun z => ?_⟩
        · ((repeat' first | refine hP _ ?_ | refine ⟨fun c1 => absurd c1 (by decide), fun _ => ?_⟩ | refine ⟨fun _ => ?_, fun c1 => absurd c1 (by decide)⟩ | refine ⟨am_vin rfl, ?_⟩ | refine ⟨fun c1 => ?_, fun c1 => ?_⟩ | refine ⟨Or.inr rfl, ?_⟩ | refine ⟨Or.inl rfl, ?_⟩ | fail); all_goals (try dsimp only at *))
          refine h 0 v w (fun Q2 h2 => ?_)
          refine en_X12_kingIs rfl ?_
          intro P2 hP2
          ((repeat' first | refine hP2 _ ?_ | fail); try dsimp only)
          refine m_X12_in1 c1 c2 ?_
          ((repeat' first | refine hP2 _ ?_ | fail); try dsimp only)
          refine ⟨fun e => absurd e (by decide), fun _ => ?_⟩
          ((repeat' first | refine hP2 _ ?_ | fail); try dsimp only)
          refine m_X12_in1 (by decide) (by decide) ?_
          ((repeat' first | refine hP2 _ ?_ | refine ⟨fun c1 => absurd c1 (by decide), fun _ => ?_⟩ | refine ⟨fun _ => ?_, fun c1 => absurd c1 (by decide)⟩ | refine ⟨am_vin rfl, ?_⟩ | refine ⟨fun c1 => ?_, fun c1 => ?_⟩ | refine ⟨Or.inr rfl, ?_⟩ | refine ⟨Or.inl rfl, ?_⟩ | fail); all_goals (try dsimp only at *))
          refine am_qr (show v 63 8 = _ from m9.symm.trans z) rfl (h2 v w hI)
        · ((repeat' first | refine hP _ ?_ | refine ⟨fun c1 => absurd c1 (by decide), fun _ => ?_⟩ | refine ⟨fun _ => ?_, fun c1 => absurd c1 (by decide)⟩ | refine ⟨am_vin rfl, ?_⟩ | refine ⟨fun c1 => ?_, fun c1 => ?_⟩ | refine ⟨Or.inr rfl, ?_⟩ | refine ⟨Or.inl rfl, ?_⟩ | fail); all_goals (try dsimp only at *))
          refine h 1 v w (fun Q2 h2 => ?_)
          refine en_X12_kingIs rfl ?_
          intro P2 hP2
          ((repeat' first | refine hP2 _ ?_ | fail); try dsimp only)
          refine m_X12_in1 c1 c2 ?_
          ((repeat' first | refine hP2 _ ?_ | fail); try dsimp only)
          refine ⟨fun e => absurd e (by decide), fun _ => ?_⟩
          ((repeat' first | refine hP2 _ ?_ | fail); try dsimp only)
          refine m_X12_in1 (by decide) (by decide) ?_
          ((repeat' first | refine hP2 _ ?_ | refine ⟨fun c1 => absurd c1 (by decide), fun _ => ?_⟩ | refine ⟨fun _ => ?_, fun c1 => absurd c1 (by decide)⟩ | refine ⟨am_vin rfl, ?_⟩ | refine ⟨fun c1 => ?_, fun c1 => ?_⟩ | refine ⟨Or.inr rfl, ?_⟩ | refine ⟨Or.inl rfl, ?_⟩ | fail); all_goals (try dsimp only at *))
          refine am_qr (show v 63 8 = _ from iv_bit01 r9 (fun q => z (m9.trans q))) rfl (h2 v w hI)
      · subst e
        ((repeat' first | refine hP _ ?_ | fail); try dsimp only)
        refine ⟨fun z => ?_, fun z => ?_⟩
        · ((repeat' first | refine hP _ ?_ | refine ⟨fun c1 => absurd c1 (by decide), fun _ => ?_⟩ | refine ⟨fun _ => ?_, fun c1 => absurd c1 (by decide)⟩ | refine ⟨am_vin rfl, ?_⟩ | refine ⟨fun c1 => ?_, fun c1 => ?_⟩ | refine ⟨Or.inr rfl, ?_⟩ | refine ⟨Or.inl rfl, ?_⟩ | fail); all_goals (try dsimp only at *))
          refine h 0 v w (fun Q2 h2 => ?_)
          refine en_X12_kingIs rfl ?_
          intro P2 hP2
          ((repeat' first | refine hP2 _ ?_ | fail); try dsimp only)
          refine m_X12_in1 c1 c2 ?_
          ((repeat' first | refine hP2 _ ?_ | fail); try dsimp only)
          refine ⟨fun e => absurd e (by decide), fun _ => ?_⟩
          ((repeat' first | refine hP2 _ ?_ | fail); try dsimp only)
          refine m_X12_in1 (by decide) (by decide) ?_
          ((repeat' first | refine hP2 _ ?_ | refine ⟨fun c1 => absurd c1 (by decide), fun _ => ?_⟩ | refine ⟨fun _ => ?_, fun c1 => absurd c1 (by decide)⟩ | refine ⟨am_vin rfl, ?_⟩ | refine ⟨fun c1 => ?_, fun c1 => ?_⟩ | refine ⟨Or.inr rfl, ?_⟩ | refine ⟨Or.inl rfl, ?_⟩ | fail); all_goals (try dsimp only at *))
          refine am_qr (show v 63 10 = _ from m11.symm.trans z) rfl (h2 v w hI)
        · ((repeat' first | refine hP _ ?_ | refine ⟨fun c1 => absurd c1 (by decide), fun _ => ?_⟩ | refine ⟨fun _ => ?_, fun c1 => absurd c1 (by decide)⟩ | refine ⟨am_vin rfl, ?_⟩ | refine ⟨fun c1 => ?_, fun c1 => ?_⟩ | refine ⟨Or.inr rfl, ?_⟩ | refine ⟨Or.inl rfl, ?_⟩ | fail); all_goals (try dsimp only at *))
          refine h 1 v w (fun Q2 h2 => ?_)
          refine en_X12_kingIs rfl ?_
          intro P2 hP2
          ((repeat' first | refine hP2 _ ?_ | fail); try dsimp only)
          refine m_X12_in1 c1 c2 ?_
          ((repeat' first | refine hP2 _ ?_ | fail); try dsimp only)
          refine ⟨fun e => absurd e (by decide), fun _ => ?_⟩
          ((repeat' first | refine hP2 _ ?_ | fail); try dsimp only)
          refine m_X12_in1 (by decide) (by decide) ?_
          ((repeat' first | refine hP2 _ ?_ | refine ⟨fun c1 => absurd c1 (by decide), fun _ => ?_⟩ | refine ⟨fun _ => ?_, fun c1 => absurd c1 (by decide)⟩ | refine ⟨am_vin rfl, ?_⟩ | refine ⟨fun c1 => ?_, fun c1 => ?_⟩ | refine ⟨Or.inr rfl, ?_⟩ | refine ⟨Or.inl rfl, ?_⟩ | fail); all_goals (try dsimp only at *))
          refine am_qr (show v 63 10 = _ from iv_bit01 r11 (fun q => z (m11.trans q))) rfl (h2 v w hI)
      · ((repeat' first | refine hP _ ?_ | refine ⟨fun c1 => absurd c1 (by decide), fun _ => ?_⟩ | refine ⟨fun _ => ?_, fun c1 => absurd c1 (by decide)⟩ | refine ⟨am_vin rfl, ?_⟩ | refine ⟨fun c1 => ?_, fun c1 => ?_⟩ | refine ⟨Or.inr rfl, ?_⟩ | refine ⟨Or.inl rfl, ?_⟩ | fail); all_goals (try dsimp only at *))
        refine h (-1) v w (fun Q2 h2 => ?_)
        refine en_X12_kingIs rfl ?_
        intro P2 hP2
        ((repeat' first | refine hP2 _ ?_ | fail); try dsimp only)
        refine m_X12_in1 c1 c2 ?_
        ((repeat' first | refine hP2 _ ?_ | fail); try dsimp only)
        refine ⟨fun e => absurd e (by decide), fun _ => ?_⟩
        ((repeat' first | refine hP2 _ ?_ | fail); try dsimp only)
        refine m_X12_in0 (am_le5 e) ?_
        ((repeat' first | refine hP2 _ ?_ | refine ⟨fun c1 => absurd c1 (by decide), fun _ => ?_⟩ | refine ⟨fun _ => ?_, fun c1 => absurd c1 (by decide)⟩ | refine ⟨am_vin rfl, ?_⟩ | refine ⟨fun c1 => ?_, fun c1 => ?_⟩ | refine ⟨Or.inr rfl, ?_⟩ | refine ⟨Or.inl rfl, ?_⟩ | fail); all_goals (try dsimp only at *))
        exact h2 v w hI
    · refine m_X5_kingOf (Or.inl ⟨rfl, rfl, rfl⟩) (fun e => ?_) (fun e => absurd rfl e)
      ((repeat' first | refine hP _ ?_ | fail); try dsimp only)
      refine ⟨⟨fun e => ?_, fun e => ?_, fun e => ?_, fun e => ?_, fun e => ?_, fun e => ?_, trivial⟩, fun e => ?_⟩
      · subst e
        ((repeat' first | refine hP _ ?_ | refine ⟨fun c1 => absurd c1 (by decide), fun _ => ?_⟩ | refine ⟨fun _ => ?_, fun c1 => absurd c1 (by decide)⟩ | refine ⟨am_vin rfl, ?_⟩ | refine ⟨fun c1 => ?_, fun c1 => ?_⟩ | refine ⟨Or.inr rfl, ?_⟩ | refine ⟨Or.inl rfl, ?_⟩ | fail); all_goals (try dsimp only at *))
        refine h (v 32 0) v w (fun Q2 h2 => ?_)
        refine en_X12_kingIs rfl ?_
        intro P2 hP2
        ((repeat' first | refine hP2 _ ?_ | fail); try dsimp only)
        refine m_X12_in1 c1 c2 ?_
        ((repeat' first | refine hP2 _ ?_ | fail); try dsimp only)
        refine ⟨fun e => absurd e (by decide), fun _ => ?_⟩
        ((repeat' first | refine hP2 _ ?_ | fail); try dsimp only)
        refine m_X12_in1 (by decide) (by decide) ?_
        ((repeat' first | refine hP2 _ ?_ | refine ⟨fun c1 => absurd c1 (by decide), fun _ => ?_⟩ | refine ⟨fun _ => ?_, fun c1 => absurd c1 (by decide)⟩ | refine ⟨am_vin rfl, ?_⟩ | refine ⟨fun c1 => ?_, fun c1 => ?_⟩ | refine ⟨Or.inr rfl, ?_⟩ | refine ⟨Or.inl rfl, ?_⟩ | fail); all_goals (try dsimp only at *))
        refine am_qr (show v 63 1 = _ from m2.symm) rfl (h2 v w hI)
      · subst e
        ((repeat' first | refine hP _ ?_ | refine ⟨fun c1 => absurd c1 (by decide), fun _ => ?_⟩ | refine ⟨fun _ => ?_, fun c1 => absurd c1 (by decide)⟩ | refine ⟨am_vin rfl, ?_⟩ | refine ⟨fun c1 => ?_, fun c1 => ?_⟩ | refine ⟨Or.inr rfl, ?_⟩ | refine ⟨Or.inl rfl, ?_⟩ | fail); all_goals (try dsimp only at *))
        refine h (v 32 1) v w (fun Q2 h2 => ?_)
        refine en_X12_kingIs rfl ?_
        intro P2 hP2
        ((repeat' first | refine hP2 _ ?_ | fail); try dsimp only)
        refine m_X12_in1 c1 c2 ?_
        ((repeat' first | refine hP2 _ ?_ | fail); try dsimp only)
        refine ⟨fun e => absurd e (by decide), fun _ => ?_⟩
        ((repeat' first | refine hP2 _ ?_ | fail); try dsimp only)
        refine m_X12_in1 (by decide) (by decide) ?_
        ((repeat' first | refine hP2 _ ?_ | refine ⟨fun c1 => absurd c1 (by decide), fun _ => ?_⟩ | refine ⟨fun _ => ?_, fun c1 => absurd c1 (by decide)⟩ | refine ⟨am_vin rfl, ?_⟩ | refine ⟨fun c1 => ?_, fun c1 => ?_⟩ | refine ⟨Or.inr rfl, ?_⟩ | refine ⟨Or.inl rfl, ?_⟩ | fail); all_goals (try dsimp only at *))
        refine am_qr (show v 63 3 = _ from m4.symm) rfl (h2 v w hI)
      · subst e
        ((repeat' first | refine hP _ ?_ | refine ⟨fun c1 => absurd c1 (by decide), fun _ => ?_⟩ | refine ⟨fun _ => ?_, fun c1 => absurd c1 (by decide)⟩ | refine ⟨am_vin rfl, ?_⟩ | refine ⟨fun c1 => ?_, fun c1 => ?_⟩ | refine ⟨Or.inr rfl, ?_⟩ | refine ⟨Or.inl rfl, ?_⟩ | fail); all_goals (try dsimp only at *))
        refine h (v 32 2) v w (fun Q2 h2 => ?_)
        refine en_X12_kingIs rfl ?_
        intro P2 hP2
        ((repeat' first | refine hP2 _ ?_ | fail); try dsimp only)
        refine m_X12_in1 c1 c2 ?_
        ((repeat' first | refine hP2 _ ?_ | fail); try dsimp only)
        refine ⟨fun e => absurd e (by decide), fun _ => ?_⟩
        ((repeat' first | refine hP2 _ ?_ | fail); try dsimp only)
        refine m_X12_in1 (by decide) (by decide) ?_
        ((repeat' first | refine hP2 _ ?_ | refine ⟨fun c1 => absurd c1 (by decide), fun _ => ?_⟩ | refine ⟨fun _ => ?_, fun c1 => absurd c1 (by decide)⟩ | refine ⟨am_vin rfl, ?_⟩ | refine ⟨fun c1 => ?_, fun c1 => ?_⟩ | refine ⟨Or.inr rfl, ?_⟩ | refine ⟨Or.inl rfl, ?_⟩ | fail); all_goals (try dsimp only at *))
        refine am_qr (show v 63 5 = _ from m6.symm) rfl (h2 v w hI)
      · subst e
        ((repeat' first | refine hP _ ?_ | fail); try dsimp only)
        refine ⟨fun z => ?_, fun z => ?_⟩
        · ((repeat' first | refine hP _ ?_ | refine ⟨fun c1 => absurd c1 (by decide), fun _ => ?_⟩ | refine ⟨fun _ => ?_, fun c1 => absurd c1 (by decide)⟩ | refine ⟨am_vin rfl, ?_⟩ | refine ⟨fun c1 => ?_, fun c1 => ?_⟩ | refine ⟨Or.inr rfl, ?_⟩ | refine ⟨Or.inl rfl, ?_⟩ | fail); all_goals (try dsimp only at *))
          refine h 0 v w (fun Q2 h2 => ?_)
          refine en_X12_kingIs rfl ?_
          intro P2 hP2
          ((repeat' first | refine hP2 _ ?_ | fail); try dsimp only)
          refine m_X12_in1 c1 c2 ?_
          ((repeat' first | refine hP2 _ ?_ | fail); try dsimp only)
          refine ⟨fun e => absurd e (by decide), fun _ => ?_⟩
          ((repeat' first | refine hP2 _ ?_ | fail); try dsimp only)
          refine m_X12_in1 (by decide) (by decide) ?_
          ((repeat' first | refine hP2 _ ?_ | refine ⟨fun c1 => absurd c1 (by decide), fun _ => ?_⟩ | refine ⟨fun _ => ?_, fun c1 => absurd c1 (by decide)⟩ | refine ⟨am_vin rfl, ?_⟩ | refine ⟨fun c1 => ?_, fun c1 => ?_⟩ | refine ⟨Or.inr rfl, ?_⟩ | refine ⟨Or.inl rfl, ?_⟩ | fail); all_goals (try dsimp only at *))
          refine am_qr (show v 63 7 = _ from m8.symm.trans z) rfl (h2 v w hI)
        · ((repeat' first | refine hP _ ?_ | refine ⟨fun c1 => absurd c1 (by decide), fun _ => ?_⟩ | refine ⟨fun _ => ?_, fun c1 => absurd c1 (by decide)⟩ | refine ⟨am_vin rfl, ?_⟩ | refine ⟨fun c1 => ?_, fun c1 => ?_⟩ | refine ⟨Or.inr rfl, ?_⟩ | refine ⟨Or.inl rfl, ?_⟩ | fail); all_goals (try dsimp only at *))
          refine h 1 v w (fun Q2 h2 => ?_)
          refine en_X12_kingIs rfl ?_
          intro P2 hP2
          ((repeat' first | refine hP2 _ ?_ | fail); try dsimp only)
          refine m_X12_in1 c1 c2 ?_
          ((repeat' first | refine hP2 _ ?_ | fail); try dsimp only)
          refine ⟨fun e => absurd e (by decide), fun _ => ?_⟩
          ((repeat' first | refine hP2 _ ?_ | fail); try dsimp only)
          refine m_X12_in1 (by decide) (by decide) ?_
          ((repeat' first | refine hP2 _ ?_ | refine ⟨fun c1 => absurd c1 (by decide), fun _ => ?_⟩ | refine ⟨fun _ => ?_, fun c1 => absurd c1 (by decide)⟩ | refine ⟨am_vin rfl, ?_⟩ | refine ⟨fun c1 => ?_, fun c1 => ?_⟩ | refine ⟨Or.inr rfl, ?_⟩ | refine ⟨Or.inl rfl, ?_⟩ | fail); all_goals (try dsimp only at *))
          refine am_qr (show v 63 7 = _ from iv_bit01 r8 (fun q => z (m8.trans q))) rfl (h2 v w hI)
      · subst e
        ((repeat' first | refine hP _ ?_ | fail); try dsimp only)
        refine ⟨fun z => ?_, fun z => ?_⟩
        · ((repeat' first | refine hP _ ?_ | refine ⟨fun c1 => absurd c1 (by decide), fun _ => ?_⟩ | refine ⟨fun _ => ?_, fun c1 => absurd c1 (by decide)⟩ | refine ⟨am_vin rfl, ?_⟩ | refine ⟨fun c1 => ?_, fun c1 => ?_⟩ | refine ⟨Or.inr rfl, ?_⟩ | refine ⟨Or.inl rfl, ?_⟩ | fail); all_goals (try dsimp only at *))
          refine h 0 v w (fun Q2 h2 => ?_)
          refine en_X12_kingIs rfl ?_
          intro P2 hP2
          ((repeat' first | refine hP2 _ ?_ | fail); try dsimp only)
          refine m_X12_in1 c1 c2 ?_
          ((repeat' first | refine hP2 _ ?_ | fail); try dsimp only)
          refine ⟨fun e => absurd e (by decide), fun _ => ?_⟩
          ((repeat' first | refine hP2 _ ?_ | fail); try dsimp only)
          refine m_X12_in1 (by decide) (by decide) ?_
          ((repeat' first | refine hP2 _ ?_ | refine ⟨fun c1 => absurd c1 (by decide), fun _ => ?_⟩ | refine ⟨fun _ => ?_, fun c1 => absurd c1 (by decide)⟩ | refine ⟨am_vin rfl, ?_⟩ | refine ⟨fun c1 => ?_, fun c1 => ?_⟩ | refine ⟨Or.inr rfl, ?_⟩ | refine ⟨Or.inl rfl, ?_⟩ | fail); all_goals (try dsimp only at *))
          refine am_qr (show v 63 9 = _ from m10.symm.trans z) rfl (h2 v w hI)
        · ((repeat' first | refine hP _ ?_ | refine ⟨fun c1 => absurd c1 (by decide), fun _ => ?_⟩ | refine ⟨fun _ => ?_, fun c1 => absurd c1 (by decide)⟩ | refine ⟨am_vin rfl, ?_⟩ | refine ⟨fun c1 => ?_, fun c1 => ?_⟩ | refine ⟨Or.inr rfl, ?_⟩ | refine ⟨Or.inl rfl, ?_⟩ | fail); all_goals (try dsimp only at *))
          refine h 1 v w (fun Q2 h2 => ?_)
          refine en_X12_kingIs rfl ?_
          intro P2 hP2
          ((repeat' first | refine hP2 _ ?_ | fail); try dsimp only)
          refine m_X12_in1 c1 c2 ?_
          ((repeat' first | refine hP2 _ ?_ | fail); try dsimp only)
          refine ⟨fun e => absurd e (by decide), fun _ => ?_⟩
          ((repeat' first | refine hP2 _ ?_ | fail); try dsimp only)
          refine m_X12_in1 (by decide) (by decide) ?_
          ((repeat' first | refine hP2 _ ?_ | refine ⟨fun c1 => absurd c1 (by decide), fun _ => ?_⟩ | refine ⟨fun _ => ?_, fun c1 => absurd c1 (by decide)⟩ | refine ⟨am_vin rfl, ?_⟩ | refine ⟨fun c1 => ?_, fun c1 => ?_⟩ | refine ⟨Or.inr rfl, ?_⟩ | refine ⟨Or.inl rfl, ?_⟩ | fail); all_goals (try dsimp only at *))
          refine am_qr (show v 63 9 = _ from iv_bit01 r10 (fun q => z (m10.trans q))) rfl (h2 v w hI)
      · subst e
        ((repeat' first | refine hP _ ?_ | fail); try dsimp only)
        refine ⟨fun z => ?_, fun z => ?_⟩
        · ((repeat' first | refine hP _ ?_ | refine ⟨fun c1 => absurd c1 (by decide), fun _ => ?_⟩ | refine ⟨fun _ => ?_, fun c1 => absurd c1 (by decide)⟩ | refine ⟨am_vin rfl, ?_⟩ | refine ⟨fun c1 => ?_, fun c1 => ?_⟩ | refine ⟨Or.inr rfl, ?_⟩ | refine ⟨Or.inl rfl, ?_⟩ | fail); all_goals (try dsimp only at *))
          refine h 0 v w (fun Q2 h2 => ?_)
          refine en_X12_kingIs rfl ?_
          intro P2 hP2
          ((repeat' first | refine hP2 _ ?_ | fail); try dsimp only)
          refine m_X12_in1 c1 c2 ?_
          ((repeat' first | refine hP2 _ ?_ | fail); try dsimp only)
          refine ⟨fun e => absurd e (by decide), fun _ => ?_⟩
          ((repeat' first | refine hP2 _ ?_ | fail); try dsimp only)
          refine m_X12_in1 (by decide) (by decide) ?_
          ((repeat' first | refine hP2 _ ?_ | refine ⟨fun c1 => absurd c1 (by decide), fun _ => ?_⟩ | refine ⟨fun _ => ?_, fun c1 => absurd c1 (by decide)⟩ | refine ⟨am_vin rfl, ?_⟩ | refine ⟨fun c1 => ?_, fun c1 => ?_⟩ | refine ⟨Or.inr rfl, ?_⟩ | refine ⟨Or.inl rfl, ?_⟩ | fail); all_goals (try dsimp only at *))
          refine am_qr (show v 63 11 = _ from m12.symm.trans z) rfl (h2 v w hI)
        · ((repeat' first | refine hP _ ?_ | refine ⟨fun c1 => absurd c1 (by decide), fun _ => ?_⟩ | refine ⟨fun _ => ?_, fun c1 => absurd c1 (by decide)⟩ | refine ⟨am_vin rfl, ?_⟩ | refine ⟨fun c1 => ?_, fun c1 => ?_⟩ | refine ⟨Or.inr rfl, ?_⟩ | refine ⟨Or.inl rfl, ?_⟩ | fail); all_goals (try dsimp only at *))
          refine h 1 v w (fun Q2 h2 => ?_)
          refine en_X12_kingIs rfl ?_
          intro P2 hP2
          ((repeat' first | refine hP2 _ ?_ | fail); try dsimp only)
          refine m_X12_in1 c1 c2 ?_
          ((repeat' first | refine hP2 _ ?_ | fail); try dsimp only)
          refine ⟨fun e => absurd e (by decide), fun _ => ?_⟩
          ((repeat' first | refine hP2 _ ?_ | fail); try dsimp only)
          refine m_X12_in1 (by decide) (by decide) ?_
          ((repeat' first | refine hP2 _ ?_ | refine ⟨fun c1 => absurd c1 (by decide), fun _ => ?_⟩ | refine ⟨fun _ => ?_, fun c1 => absurd c1 (by decide)⟩ | refine ⟨am_vin rfl, ?_⟩ | refine ⟨fun c1 => ?_, fun c1 => ?_⟩ | refine ⟨Or.inr rfl, ?_⟩ | refine ⟨Or.inl rfl, ?_⟩ | fail); all_goals (try dsimp only at *))
          refine am_qr (show v 63 11 = _ from iv_bit01 r12 (fun q => z (m12.trans q))) rfl (h2 v w hI)
      · ((repeat' first | refine hP _ ?_ | refine ⟨fun c1 => absurd c1 (by decide), fun _ => ?_⟩ | refine ⟨fun _ => ?_, fun c1 => absurd c1 (by decide)⟩ | refine ⟨am_vin rfl, ?_⟩ | refine ⟨fun c1 => ?_, fun c1 => ?_⟩ | refine ⟨Or.inr rfl, ?_⟩ | refine ⟨Or.inl rfl, ?_⟩ | fail); all_goals (try dsimp only at *))
        refine h (-1) v w (fun Q2 h2 => ?_)
        refine en_X12_kingIs rfl ?_
        intro P2 hP2
        ((repeat' first | refine hP2 _ ?_ | fail); try dsimp only)
        refine m_X12_in1 c1 c2 ?_
        ((repeat' first | refine hP2 _ ?_ | fail); try dsimp only)
        refine ⟨fun e => absurd e (by decide), fun _ => ?_⟩
        ((repeat' first | refine hP2 _ ?_ | fail); try dsimp only)
        refine m_X12_in0 (am_le5 e) ?_
        ((repeat' first | refine hP2 _ ?_ | refine ⟨fun c1 => absurd c1 (by decide), fun _ => ?_⟩ | refine ⟨fun _ => ?_, fun c1 => absurd c1 (by decide)⟩ | refine ⟨am_vin rfl, ?_⟩ | refine ⟨fun c1 => ?_, fun c1 => ?_⟩ | refine ⟨Or.inr rfl, ?_⟩ | refine ⟨Or.inl rfl, ?_⟩ | fail); all_goals (try dsimp only at *))
        exact h2 v w hI
end
section
/-! ===== pairs: heralds, drums ===== -/
theorem am_nat {x c : Int32} {n : Nat} (h1 : 0 ≤ x) (h2 : x ≤ c) (hc : c.toInt = n) : ∃ j : Nat, j ≤ n ∧ x = nI j := nI_of2 hc (Int32.not_lt.mpr h1) h2
def f_her (n : Int32) : Nat → Int32
  | 0 => 1
  | j + 1 => f_her n j * (n + nI (j + 1)) / nI (j + 1)
section M27
variable {K : am_K} {I : am_I} {Tc : am_T} {v : am_V} {w : am_X} {Q : Option Value → am_H → Prop} {P : am_C → Prop}
set_option maxRecDepth 100000 in
set_option maxHeartbeats 4000000 in
theorem lp_heralds1 {n : Int32} {M : Nat} (hM : M ≤ 10) (hP : ∀ c, am_step K I Tc cd_X11_heralds 0 0 Q P c → P c) (h : Q (some (.int (f_her n M))) (am_sh, v, w)) : ∀ k j : Nat, j + k = M → P (cd_X11_heralds.drop 16, [some (.ref 0), some (.int n), some (.int (nI M)), some (.int (f_her n j)), some (.int (nI (j + 1)))], [], (am_sh, v, w), 0, 0) := by
  intro k
  induction k with
  | zero =>
    intro j hj
    ((repeat' first | refine hP _ ?_ | fail); try dsimp only)
    refine ⟨fun _ => ?_, fun c => absurd (nI_lt (a := M) (b := j + 1) (by omega) (by omega)) c⟩
    ((repeat' first | refine hP _ ?_ | fail); try dsimp only)
    rw [show j = M by omega]
    exact h
  | succ k ih =>
    intro j hj
    ((repeat' first | refine hP _ ?_ | fail); try dsimp only)
    refine ⟨fun c => absurd c (nI_nlt (by omega) (by omega)), fun _ => ?_⟩
    ((repeat' first | refine hP _ ?_ | fail); try dsimp only)
    refine ⟨fun c => absurd ((nI_eq (a := j + 1) (b := 0) (by omega) (by omega)).mp c) (by omega), ?_⟩
    have e := ih (j + 1) (by omega)
    rw [show nI (j + 1 + 1) = nI (j + 1) + 1 from (nI_1 _).symm] at e
    (iterate 3 refine hP _ ?_)
    exact e
set_option maxRecDepth 100000 in
set_option maxHeartbeats 4000000 in
theorem lp_heralds2 {n : Int32} {M : Nat} (hM : M ≤ 10) (hP : ∀ c, am_step K I Tc cd_X12_heralds 0 0 Q P c → P c) (h : Q (some (.int (f_her n M))) (am_sh, v, w)) : ∀ k j : Nat, j + k = M → P (cd_X12_heralds.drop 16, [some (.ref 62), some (.int n), some (.int (nI M)), some (.int (f_her n j)), some (.int (nI (j + 1)))], [], (am_sh, v, w), 0, 0) := by
  intro k
  induction k with
  | zero =>
    intro j hj
    ((repeat' first | refine hP _ ?_ | fail); try dsimp only)
    refine ⟨fun _ => ?_, fun c => absurd (nI_lt (a := M) (b := j + 1) (by omega) (by omega)) c⟩
    ((repeat' first | refine hP _ ?_ | fail); try dsimp only)
    rw [show j = M by omega]
    exact h
  | succ k ih =>
    intro j hj
    ((repeat' first | refine hP _ ?_ | fail); try dsimp only)
    refine ⟨fun c => absurd c (nI_nlt (by omega) (by omega)), fun _ => ?_⟩
    ((repeat' first | refine hP _ ?_ | fail); try dsimp only)
    refine ⟨fun c => absurd ((nI_eq (a := j + 1) (b := 0) (by omega) (by omega)).mp c) (by omega), ?_⟩
    have e := ih (j + 1) (by omega)
    rw [show nI (j + 1 + 1) = nI (j + 1) + 1 from (nI_1 _).symm] at e
    (iterate 3 refine hP _ ?_)
    exact e
end M27
set_option maxRecDepth 100000 in
set_option maxHeartbeats 4000000 in
theorem pr_heralds {L : Nat} {xs : Nat → Int32} (a b : Int32) : am_pair L xs 127 229 [.int a, .int b] := by
  intro d v w Q hI h
  refine en_X11_heralds rfl ?_
  intro P hP
  ((repeat' first | refine hP _ ?_ | fail); try dsimp only)
  refine m_X11_outside (fun c => ?_) (fun c1 c2 => ?_)
  · ((repeat' first | refine hP _ ?_ | refine ⟨fun c1 => absurd c1 (by decide), fun _ => ?_⟩ | refine ⟨fun _ => ?_, fun c1 => absurd c1 (by decide)⟩ | refine ⟨am_vin rfl, ?_⟩ | refine ⟨fun c1 => ?_, fun c1 => ?_⟩ | refine ⟨Or.inr rfl, ?_⟩ | refine ⟨Or.inl rfl, ?_⟩ | fail); all_goals (try dsimp only at *))
    refine h (-1) v w (fun Q2 h2 => ?_)
    refine en_X12_heralds rfl ?_
    intro P2 hP2
    ((repeat' first | refine hP2 _ ?_ | fail); try dsimp only)
    refine m_X12_in0 c ?_
    ((repeat' first | refine hP2 _ ?_ | refine ⟨fun c1 => absurd c1 (by decide), fun _ => ?_⟩ | refine ⟨fun _ => ?_, fun c1 => absurd c1 (by decide)⟩ | refine ⟨am_vin rfl, ?_⟩ | refine ⟨fun c1 => ?_, fun c1 => ?_⟩ | refine ⟨Or.inr rfl, ?_⟩ | refine ⟨Or.inl rfl, ?_⟩ | fail); all_goals (try dsimp only at *))
    exact h2 v w hI
  · ((repeat' first | refine hP _ ?_ | fail); try dsimp only)
    refine ⟨fun e => absurd rfl e, fun _ => ?_⟩
    ((repeat' first | refine hP _ ?_ | fail); try dsimp only)
    refine m_X11_outside (fun e => ?_) (fun e1 e2 => ?_)
    · ((repeat' first | refine hP _ ?_ | refine ⟨fun c1 => absurd c1 (by decide), fun _ => ?_⟩ | refine ⟨fun _ => ?_, fun c1 => absurd c1 (by decide)⟩ | refine ⟨am_vin rfl, ?_⟩ | refine ⟨fun c1 => ?_, fun c1 => ?_⟩ | refine ⟨Or.inr rfl, ?_⟩ | refine ⟨Or.inl rfl, ?_⟩ | fail); all_goals (try dsimp only at *))
      refine h (-1) v w (fun Q2 h2 => ?_)
      refine en_X12_heralds rfl ?_
      intro P2 hP2
      ((repeat' first | refine hP2 _ ?_ | fail); try dsimp only)
      refine m_X12_in1 c1 c2 ?_
      ((repeat' first | refine hP2 _ ?_ | fail); try dsimp only)
      refine ⟨fun e => absurd e (by decide), fun _ => ?_⟩
      ((repeat' first | refine hP2 _ ?_ | fail); try dsimp only)
      refine m_X12_in0 e ?_
      ((repeat' first | refine hP2 _ ?_ | refine ⟨fun c1 => absurd c1 (by decide), fun _ => ?_⟩ | refine ⟨fun _ => ?_, fun c1 => absurd c1 (by decide)⟩ | refine ⟨am_vin rfl, ?_⟩ | refine ⟨fun c1 => ?_, fun c1 => ?_⟩ | refine ⟨Or.inr rfl, ?_⟩ | refine ⟨Or.inl rfl, ?_⟩ | fail); all_goals (try dsimp only at *))
      exact h2 v w hI
    · obtain ⟨M, hM, rfl⟩ := am_nat e1 e2 (n := 10) rfl
      ((repeat' first | refine hP _ ?_ | fail); try dsimp only)
      refine ⟨fun _ => ?_, fun e => absurd rfl e⟩
      (iterate 4 refine hP _ ?_)
      refine lp_heralds1 hM hP ?_ M 0 (by omega)
      refine h _ v w (fun Q2 h2 => ?_)
      refine en_X12_heralds rfl ?_
      intro P2 hP2
      ((repeat' first | refine hP2 _ ?_ | fail); try dsimp only)
      refine m_X12_in1 c1 c2 ?_
      ((repeat' first | refine hP2 _ ?_ | fail); try dsimp only)
      refine ⟨fun e => absurd e (by decide), fun _ => ?_⟩
      ((repeat' first | refine hP2 _ ?_ | fail); try dsimp only)
      refine m_X12_in1 e1 e2 ?_
      ((repeat' first | refine hP2 _ ?_ | fail); try dsimp only)
      refine ⟨fun _ => ?_, fun e => absurd e (by decide)⟩
      (iterate 4 refine hP2 _ ?_)
      exact lp_heralds2 hM hP2 (h2 v w hI) M 0 (by omega)
/-- the beats of two drums -/
def f_hit (F E O R k : Nat) : Prop := O ≤ F + k * E ∧ (F + k * E - O) % R = 0
def f_dr (F E O R : Nat) : Nat → Nat → Int32
  | 0, _ => -2
  | n + 1, k => if O ≤ F + k * E ∧ (F + k * E - O) % R = 0 then nI (F + k * E) else f_dr F E O R n (k + 1)
theorem dr_none {F E O R : Nat} : ∀ (m k : Nat), (∀ j, j < m → ¬ f_hit F E O R (k + j)) → f_dr F E O R m k = -2
  | 0, _, _ => rfl
  | m + 1, k, h => by
    unfold f_dr
    rw [if_neg (show ¬ (O ≤ F + k * E ∧ (F + k * E - O) % R = 0) from h 0 (by omega))]
    exact dr_none m (k + 1) (fun j hj => by
      have := h (j + 1) (by omega)
      rw [show k + (j + 1) = k + 1 + j by omega] at this
      exact this)
theorem dr_ext {F E O R : Nat} (m : Nat) : ∀ (n k : Nat), (∀ j, n ≤ j → j < n + m → f_hit F E O R (k + j) → ∃ i, i < n ∧ f_hit F E O R (k + i)) → f_dr F E O R (n + m) k = f_dr F E O R n k
  | 0, k, h => by
    rw [Nat.zero_add]
    exact dr_none m k (fun j hj q => by
      obtain ⟨i, hi, -⟩ := h j (by omega) (by omega) q
      omega)
  | n + 1, k, h => by
    rw [show n + 1 + m = (n + m) + 1 by omega]
    unfold f_dr
    by_cases hk : O ≤ F + k * E ∧ (F + k * E - O) % R = 0
    · rw [if_pos hk, if_pos hk]
    · rw [if_neg hk, if_neg hk]
      refine dr_ext m n (k + 1) (fun j h1 h2 h3 => ?_)
      obtain ⟨i, hi, hh⟩ := h (j + 1) (by omega) (by omega) (by rw [show k + (j + 1) = k + 1 + j by omega]; exact h3)
      cases i with
      | zero => exact absurd hh hk
      | succ i => exact ⟨i, by omega, by rw [show k + 1 + i = k + (i + 1) by omega]; exact hh⟩
theorem dr_same {F E O R : Nat} (hF : F ≤ 999) (hE : 1 ≤ E) (hO : O ≤ 999) (hR : 1 ≤ R) (hR2 : R ≤ 1000) : f_dr F E O R 2000 0 = f_dr F E O R (R + 1000) 0 := by
  rw [show 2000 = (R + 1000) + (1000 - R) by omega]
  refine dr_ext _ _ _ (fun j h1 h2 h3 => ?_)
  refine ⟨1000 + (j - 1000) % R, ?_, ?_⟩
  · have := Nat.mod_lt (j - 1000) (show 0 < R by omega)
    omega
  · rw [Nat.zero_add] at h3 ⊢
    have hq := Nat.div_add_mod (j - 1000) R
    have hj : j = 1000 + (j - 1000) % R + R * ((j - 1000) / R) := by omega
    generalize (j - 1000) % R = s at hj ⊢
    generalize (j - 1000) / R = t at hj
    subst hj
    obtain ⟨g1, g2⟩ := h3
    have hge : O ≤ F + (1000 + s) * E := by
      have : 1000 * 1 ≤ (1000 + s) * E := Nat.mul_le_mul (by omega) hE
      omega
    refine ⟨hge, ?_⟩
    have e : F + (1000 + s + R * t) * E - O = (F + (1000 + s) * E - O) + R * (t * E) := by
      rw [Nat.add_mul, Nat.mul_assoc]
      omega
    rw [e, Nat.add_mul_mod_self_left] at g2
    exact g2
section M27b
variable {K : am_K} {I : am_I} {Tc : am_T} {v : am_V} {w : am_X} {Q : Option Value → am_H → Prop} {P : am_C → Prop}
theorem dr_bd {F E k : Nat} (hF : F ≤ 999) (hE : E ≤ 1000) (hk : k ≤ 2000) : F + k * E < 2 ^ 31 := by
  have := Nat.mul_le_mul hk hE
  omega
set_option maxRecDepth 100000 in
set_option maxHeartbeats 4000000 in
theorem lp_drums1 {F E O R : Nat} (hF : F ≤ 999) (hE : E ≤ 1000) (hO : O ≤ 999) (hR : 1 ≤ R) (hR2 : R ≤ 1000) (hP : ∀ c, am_step K I Tc cd_X11_drums 0 0 Q P c → P c) : ∀ (n k : Nat) (l6 : Option Value), k + n = 2000 → Q (some (.int (f_dr F E O R n k))) (am_sh, v, w) → P (cd_X11_drums.drop 24, [some (.ref 0), some (.int (nI F)), some (.int (nI E)), some (.int (nI O)), some (.int (nI R)), some (.int (nI k)), l6], [], (am_sh, v, w), 0, 0) := by
  intro n
  induction n with
  | zero =>
    intro k l6 hk h
    ((repeat' first | refine hP _ ?_ | fail); try dsimp only)
    refine ⟨fun _ => ?_, fun c => absurd (show (2000 : Int32) ≤ nI k by rw [show k = 2000 by omega]; decide) c⟩
    ((repeat' first | refine hP _ ?_ | fail); try dsimp only)
    exact h
  | succ n ih =>
    intro k l6 hk h
    have hbd := dr_bd hF hE (show k ≤ 2000 by omega)
    have e1 : nI F + nI k * nI E = nI (F + k * E) := by rw [pk_mul, nI_add]
    unfold f_dr at h
    ((repeat' first | refine hP _ ?_ | fail); try dsimp only)
    refine ⟨fun c => absurd c (nI_ge (a := k) (b := 2000) (by omega) (by omega)), fun _ => ?_⟩
    ((repeat' first | refine hP _ ?_ | fail); try dsimp only)
    rw [e1]
    refine ⟨fun c => ?_, fun c => ?_⟩
    · rw [if_neg (fun q => absurd ((nI_ltI (by omega) (by omega)).mp c) (by omega))] at h
      have e := ih (k + 1) (some (.int (nI (F + k * E)))) (by omega) h
      rw [show nI (k + 1) = nI k + 1 from (nI_1 _).symm] at e
      (iterate 2 refine hP _ ?_)
      exact e
    · have hle : O ≤ F + k * E := by
        rcases Nat.lt_or_ge (F + k * E) O with q | q
        · exact absurd ((nI_ltI (by omega) (by omega)).mpr q) c
        · exact q
      have e2 : am_rem (nI (F + k * E) - nI O) (nI R) = nI ((F + k * E - O) % R) := by
        rw [pk_sub hle]
        exact pk_rem (by omega) (by omega) (by omega)
      ((repeat' first | refine hP _ ?_ | fail); try dsimp only)
      refine ⟨fun c => absurd ((nI_eq (a := R) (b := 0) (by omega) (by omega)).mp c) (by omega), ?_⟩
      ((repeat' first | refine hP _ ?_ | fail); try dsimp only)
      rw [e2]
      have hlt : (F + k * E - O) % R < 2 ^ 31 := Nat.lt_of_lt_of_le (Nat.mod_lt _ (by omega)) (by omega)
      refine ⟨fun c => ?_, fun c => ?_⟩
      · rw [if_neg (fun q => c (by rw [q.2]; rfl))] at h
        have e := ih (k + 1) (some (.int (nI (F + k * E)))) (by omega) h
        rw [show nI (k + 1) = nI k + 1 from (nI_1 _).symm] at e
        (iterate 2 refine hP _ ?_)
        exact e
      · rw [if_pos ⟨hle, (nI_eq (b := 0) hlt (by omega)).mp c⟩] at h
        ((repeat' first | refine hP _ ?_ | fail); try dsimp only)
        exact h
set_option maxRecDepth 100000 in
set_option maxHeartbeats 4000000 in
theorem lp_drums2 {F E O R : Nat} (hF : F ≤ 999) (hE : E ≤ 1000) (hO : O ≤ 999) (hR : 1 ≤ R) (hR2 : R ≤ 1000) (hP : ∀ c, am_step K I Tc cd_X12_drums 0 0 Q P c → P c) : ∀ (n k : Nat), k + n = R + 1000 → Q (some (.int (f_dr F E O R n k))) (am_sh, v, w) → P (cd_X12_drums.drop 26, [some (.ref 62), some (.int (nI F)), some (.int (nI E)), some (.int (nI O)), some (.int (nI R)), some (.int (nI (F + k * E))), some (.int (nI k))], [], (am_sh, v, w), 0, 0) := by
  have e9 : nI R + 1000 = nI (R + 1000) := nI_add R 1000
  intro n
  induction n with
  | zero =>
    intro k hk h
    ((repeat' first | refine hP _ ?_ | fail); try dsimp only)
    rw [e9]
    refine ⟨fun _ => ?_, fun c => absurd (nI_le (a := R + 1000) (b := k) (by omega) (by omega)) c⟩
    ((repeat' first | refine hP _ ?_ | fail); try dsimp only)
    exact h
  | succ n ih =>
    intro k hk h
    have hbd := dr_bd hF hE (show k ≤ 2000 by omega)
    have e1 : nI (F + k * E) + nI E = nI (F + (k + 1) * E) := by
      rw [nI_add, show F + k * E + E = F + (k + 1) * E by rw [Nat.add_mul]; omega]
    unfold f_dr at h
    ((repeat' first | refine hP _ ?_ | fail); try dsimp only)
    rw [e9]
    refine ⟨fun c => absurd c (nI_ge (by omega) (by omega)), fun _ => ?_⟩
    ((repeat' first | refine hP _ ?_ | fail); try dsimp only)
    refine ⟨fun c => ?_, fun c => ?_⟩
    · rw [if_neg (fun q => absurd ((nI_ltI (by omega) (by omega)).mp c) (by omega))] at h
      have e := ih (k + 1) (by omega) h
      rw [show nI (k + 1) = nI k + 1 from (nI_1 _).symm, ← e1] at e
      (iterate 6 refine hP _ ?_)
      exact e
    · have hle : O ≤ F + k * E := by
        rcases Nat.lt_or_ge (F + k * E) O with q | q
        · exact absurd ((nI_ltI (by omega) (by omega)).mpr q) c
        · exact q
      have e2 : am_rem (nI (F + k * E) - nI O) (nI R) = nI ((F + k * E - O) % R) := by
        rw [pk_sub hle]
        exact pk_rem (by omega) (by omega) (by omega)
      ((repeat' first | refine hP _ ?_ | fail); try dsimp only)
      refine ⟨fun c => absurd ((nI_eq (a := R) (b := 0) (by omega) (by omega)).mp c) (by omega), ?_⟩
      ((repeat' first | refine hP _ ?_ | fail); try dsimp only)
      rw [e2]
      have hlt : (F + k * E - O) % R < 2 ^ 31 := Nat.lt_of_lt_of_le (Nat.mod_lt _ (by omega)) (by omega)
      refine ⟨fun c => ?_, fun c => ?_⟩
      · rw [if_neg (fun q => c (by rw [q.2]; rfl))] at h
        have e := ih (k + 1) (by omega) h
        rw [show nI (k + 1) = nI k + 1 from (nI_1 _).symm, ← e1] at e
        (iterate 6 refine hP _ ?_)
        exact e
      · rw [if_pos ⟨hle, (nI_eq (b := 0) hlt (by omega)).mp c⟩] at h
        ((repeat' first | refine hP _ ?_ | fail); try dsimp only)
        exact h
end M27b
theorem am_nat1 {x c : Int32} {n : Nat} (h1 : 1 ≤ x) (h2 : x ≤ c) (hc : c.toInt = n) : ∃ j : Nat, 1 ≤ j ∧ j ≤ n ∧ x = nI j := by
  have a := Int32.le_iff_toInt_le.mp h1
  rw [show (1 : Int32).toInt = 1 from rfl] at a
  obtain ⟨j, hj, rfl⟩ := am_nat (x := x) (Int32.le_iff_toInt_le.mpr (by rw [show (0 : Int32).toInt = 0 from rfl]; omega)) h2 hc
  refine ⟨j, ?_, hj, rfl⟩
  rcases Nat.eq_zero_or_pos j with rfl | q
  · exact absurd a (by decide)
  · exact q
set_option maxRecDepth 100000 in
set_option maxHeartbeats 4000000 in
theorem pr_drums {L : Nat} {xs : Nat → Int32} (a b c e : Int32) : am_pair L xs 124 226 [.int a, .int b, .int c, .int e] := by
  intro d v w Q hI h
  refine en_X11_drums rfl ?_
  intro P hP
  -- the reference's four checks
  have hR : ∀ {Q2 : Option Value → am_H → Prop}, (∀ (v2 : am_V) (w2 : am_X), INV v2 → Q2 (some (.int (-1))) (am_sh, v2, w2)) → ((a < 0 ∨ 999 < a) ∨ (c < 0 ∨ 999 < c) ∨ (b < 1 ∨ 1000 < b) ∨ (e < 1 ∨ 1000 < e)) → am_run (am_kc L xs) am_idx am_m (d + 30) 226 [.ref 62, .int a, .int b, .int c, .int e] (am_sh, v, w) 0 0 Q2 := by
    intro Q2 h2 hbad
    refine en_X12_drums rfl ?_
    intro P2 hP2
    ((repeat' first | refine hP2 _ ?_ | fail); try dsimp only)
    refine m_X12_in (fun a1 a2 => ?_) (fun _ => ?_)
    · ((repeat' first | refine hP2 _ ?_ | fail); try dsimp only)
      refine ⟨fun e => absurd e (by decide), fun _ => ?_⟩
      ((repeat' first | refine hP2 _ ?_ | fail); try dsimp only)
      refine m_X12_in (fun b1 b2 => ?_) (fun _ => ?_)
      · ((repeat' first | refine hP2 _ ?_ | fail); try dsimp only)
        refine ⟨fun e => absurd e (by decide), fun _ => ?_⟩
        ((repeat' first | refine hP2 _ ?_ | fail); try dsimp only)
        refine m_X12_in (fun c1 c2 => ?_) (fun _ => ?_)
        · ((repeat' first | refine hP2 _ ?_ | fail); try dsimp only)
          refine ⟨fun e => absurd e (by decide), fun _ => ?_⟩
          ((repeat' first | refine hP2 _ ?_ | fail); try dsimp only)
          refine m_X12_in (fun e1 e2 => ?_) (fun _ => ?_)
          · rcases hbad with q | q | q | q
            · exact (am_no q a1 a2).elim
            · exact (am_no q c1 c2).elim
            · exact (am_no q b1 b2).elim
            · exact (am_no q e1 e2).elim
          · ((repeat' first | refine hP2 _ ?_ | refine ⟨fun c1 => absurd c1 (by decide), fun _ => ?_⟩ | refine ⟨fun _ => ?_, fun c1 => absurd c1 (by decide)⟩ | refine ⟨am_vin rfl, ?_⟩ | refine ⟨fun c1 => ?_, fun c1 => ?_⟩ | refine ⟨Or.inr rfl, ?_⟩ | refine ⟨Or.inl rfl, ?_⟩ | fail); all_goals (try dsimp only at *))
            exact h2 v w hI
        · ((repeat' first | refine hP2 _ ?_ | refine ⟨fun c1 => absurd c1 (by decide), fun _ => ?_⟩ | refine ⟨fun _ => ?_, fun c1 => absurd c1 (by decide)⟩ | refine ⟨am_vin rfl, ?_⟩ | refine ⟨fun c1 => ?_, fun c1 => ?_⟩ | refine ⟨Or.inr rfl, ?_⟩ | refine ⟨Or.inl rfl, ?_⟩ | fail); all_goals (try dsimp only at *))
          exact h2 v w hI
      · ((repeat' first | refine hP2 _ ?_ | refine ⟨fun c1 => absurd c1 (by decide), fun _ => ?_⟩ | refine ⟨fun _ => ?_, fun c1 => absurd c1 (by decide)⟩ | refine ⟨am_vin rfl, ?_⟩ | refine ⟨fun c1 => ?_, fun c1 => ?_⟩ | refine ⟨Or.inr rfl, ?_⟩ | refine ⟨Or.inl rfl, ?_⟩ | fail); all_goals (try dsimp only at *))
        exact h2 v w hI
    · ((repeat' first | refine hP2 _ ?_ | refine ⟨fun c1 => absurd c1 (by decide), fun _ => ?_⟩ | refine ⟨fun _ => ?_, fun c1 => absurd c1 (by decide)⟩ | refine ⟨am_vin rfl, ?_⟩ | refine ⟨fun c1 => ?_, fun c1 => ?_⟩ | refine ⟨Or.inr rfl, ?_⟩ | refine ⟨Or.inl rfl, ?_⟩ | fail); all_goals (try dsimp only at *))
      exact h2 v w hI
  ((repeat' first | refine hP _ ?_ | fail); try dsimp only)
  refine m_X11_outside (fun q => ?_) (fun a1 a2 => ?_)
  · ((repeat' first | refine hP _ ?_ | refine ⟨fun c1 => absurd c1 (by decide), fun _ => ?_⟩ | refine ⟨fun _ => ?_, fun c1 => absurd c1 (by decide)⟩ | refine ⟨am_vin rfl, ?_⟩ | refine ⟨fun c1 => ?_, fun c1 => ?_⟩ | refine ⟨Or.inr rfl, ?_⟩ | refine ⟨Or.inl rfl, ?_⟩ | fail); all_goals (try dsimp only at *))
    exact h (-1) v w (fun Q2 h2 => hR h2 (Or.inl q))
  · ((repeat' first | refine hP _ ?_ | fail); try dsimp only)
    refine ⟨fun e => absurd rfl e, fun _ => ?_⟩
    ((repeat' first | refine hP _ ?_ | fail); try dsimp only)
    refine m_X11_outside (fun q => ?_) (fun c1 c2 => ?_)
    · ((repeat' first | refine hP _ ?_ | refine ⟨fun c1 => absurd c1 (by decide), fun _ => ?_⟩ | refine ⟨fun _ => ?_, fun c1 => absurd c1 (by decide)⟩ | refine ⟨am_vin rfl, ?_⟩ | refine ⟨fun c1 => ?_, fun c1 => ?_⟩ | refine ⟨Or.inr rfl, ?_⟩ | refine ⟨Or.inl rfl, ?_⟩ | fail); all_goals (try dsimp only at *))
      exact h (-1) v w (fun Q2 h2 => hR h2 (Or.inr (Or.inl q)))
    · ((repeat' first | refine hP _ ?_ | fail); try dsimp only)
      refine ⟨fun e => absurd rfl e, fun _ => ?_⟩
      ((repeat' first | refine hP _ ?_ | fail); try dsimp only)
      refine m_X11_outside (fun q => ?_) (fun b1 b2 => ?_)
      · ((repeat' first | refine hP _ ?_ | refine ⟨fun c1 => absurd c1 (by decide), fun _ => ?_⟩ | refine ⟨fun _ => ?_, fun c1 => absurd c1 (by decide)⟩ | refine ⟨am_vin rfl, ?_⟩ | refine ⟨fun c1 => ?_, fun c1 => ?_⟩ | refine ⟨Or.inr rfl, ?_⟩ | refine ⟨Or.inl rfl, ?_⟩ | fail); all_goals (try dsimp only at *))
        exact h (-1) v w (fun Q2 h2 => hR h2 (Or.inr (Or.inr (Or.inl q))))
      · ((repeat' first | refine hP _ ?_ | fail); try dsimp only)
        refine ⟨fun e => absurd rfl e, fun _ => ?_⟩
        ((repeat' first | refine hP _ ?_ | fail); try dsimp only)
        refine m_X11_outside (fun q => ?_) (fun e1 e2 => ?_)
        · ((repeat' first | refine hP _ ?_ | refine ⟨fun c1 => absurd c1 (by decide), fun _ => ?_⟩ | refine ⟨fun _ => ?_, fun c1 => absurd c1 (by decide)⟩ | refine ⟨am_vin rfl, ?_⟩ | refine ⟨fun c1 => ?_, fun c1 => ?_⟩ | refine ⟨Or.inr rfl, ?_⟩ | refine ⟨Or.inl rfl, ?_⟩ | fail); all_goals (try dsimp only at *))
          exact h (-1) v w (fun Q2 h2 => hR h2 (Or.inr (Or.inr (Or.inr q))))
        · ((repeat' first | refine hP _ ?_ | fail); try dsimp only)
          refine ⟨fun _ => ?_, fun e => absurd rfl e⟩
          obtain ⟨F, hF, rfl⟩ := am_nat a1 a2 (n := 999) rfl
          obtain ⟨O, hO, rfl⟩ := am_nat c1 c2 (n := 999) rfl
          obtain ⟨E, hE1, hE, rfl⟩ := am_nat1 b1 b2 (n := 1000) rfl
          obtain ⟨R, hR1, hR2, rfl⟩ := am_nat1 e1 e2 (n := 1000) rfl
          (iterate 2 refine hP _ ?_)
          refine lp_drums1 hF hE hO hR1 hR2 hP 2000 0 none rfl ?_
          refine h _ v w (fun Q2 h2 => ?_)
          refine en_X12_drums rfl ?_
          intro P2 hP2
          ((repeat' first | refine hP2 _ ?_ | fail); try dsimp only)
          refine m_X12_in1 a1 a2 ?_
          ((repeat' first | refine hP2 _ ?_ | fail); try dsimp only)
          refine ⟨fun e => absurd e (by decide), fun _ => ?_⟩
          ((repeat' first | refine hP2 _ ?_ | fail); try dsimp only)
          refine m_X12_in1 b1 b2 ?_
          ((repeat' first | refine hP2 _ ?_ | fail); try dsimp only)
          refine ⟨fun e => absurd e (by decide), fun _ => ?_⟩
          ((repeat' first | refine hP2 _ ?_ | fail); try dsimp only)
          refine m_X12_in1 c1 c2 ?_
          ((repeat' first | refine hP2 _ ?_ | fail); try dsimp only)
          refine ⟨fun e => absurd e (by decide), fun _ => ?_⟩
          ((repeat' first | refine hP2 _ ?_ | fail); try dsimp only)
          refine m_X12_in1 e1 e2 ?_
          ((repeat' first | refine hP2 _ ?_ | fail); try dsimp only)
          refine ⟨fun _ => ?_, fun e => absurd e (by decide)⟩
          have k := lp_drums2 (w := w) (v := v) (Q := Q2) hF hE hO hR1 hR2 hP2 (R + 1000) 0 (by omega) (by
            rw [← dr_same hF hE1 hO hR1 hR2]
            exact h2 v w hI)
          rw [Nat.zero_mul, Nat.add_zero] at k
          (iterate 4 refine hP2 _ ?_)
          exact k
end
section
/-! ===== pair: feed ===== -/
theorem by8 (y : Int32) : y.toInt8.toInt32 &&& 255 = y &&& 255 := by
  apply Int32.toBitVec_inj.mp
  rw [Int32.toBitVec_and, Int32.toBitVec_and]
  show (BitVec.signExtend 32 (y.toBitVec.signExtend 8)) &&& 255#32 = y.toBitVec &&& 255#32
  apply BitVec.eq_of_getLsbD_eq
  intro i hi
  rw [BitVec.getLsbD_and, BitVec.getLsbD_and]
  by_cases h8 : i < 8
  · congr 1
    simp only [BitVec.getLsbD_signExtend, hi, h8, decide_true, Bool.true_and, if_true]
  · have : (255#32).getLsbD i = false := by
      have e : (255#32) = (BitVec.allOnes 8).setWidth 32 := by decide
      rw [e, BitVec.getLsbD_setWidth, BitVec.getLsbD_of_ge _ _ (show 8 ≤ i by omega), Bool.and_false]
    rw [this, Bool.and_false, Bool.and_false]
/-- bytes laid on the tape, on either side -/
def f_c1 (v : am_V) (n : Nat) (b : Int32) : am_V := am_up (am_up v 2 n b) 1 1 (nI (n + 1))
def f_r1 (v : am_V) (n : Nat) (b : Int32) : am_V := am_up (am_up v 66 n b) 62 6 (nI (n + 1))
def f_cs : am_V → Nat → List Int32 → am_V
  | v, _, [] => v
  | v, n, b :: bs => f_cs (f_c1 v n b) (n + 1) bs
def f_rs : am_V → Nat → List Int32 → am_V
  | v, _, [] => v
  | v, n, b :: bs => f_rs (f_r1 v n b) (n + 1) bs
theorem f_cs_2 : ∀ (bs : List Int32) (v : am_V) (n i : Nat), f_cs v n bs 2 i = if n ≤ i ∧ i < n + bs.length then bs.getD (i - n) 0 else v 2 i
  | [], v, n, i => by
    have : ¬ (n ≤ i ∧ i < n + 0) := by omega
    rw [f_cs, List.length_nil, if_neg this]
  | b :: bs, v, n, i => by
    rw [f_cs, f_cs_2 bs]
    simp only [f_c1, am_up_eq, List.length_cons]
    by_cases h1 : n + 1 ≤ i ∧ i < n + 1 + bs.length
    · rw [if_pos h1, if_pos (by omega), show i - n = (i - (n + 1)) + 1 by omega, List.getD_cons_succ]
    · rw [if_neg h1]
      by_cases h2 : i = n
      · subst h2
        simp
      · have : ¬ (n ≤ i ∧ i < n + (bs.length + 1)) := by omega
        simp [h2, this]
theorem f_cs_1 : ∀ (bs : List Int32) (v : am_V) (n : Nat), bs ≠ [] → f_cs v n bs 1 1 = nI (n + bs.length)
  | [], v, n, h => absurd rfl h
  | [b], v, n, _ => by simp [f_cs, f_c1, am_up_eq]
  | b :: c :: bs, v, n, _ => by
    rw [f_cs, f_cs_1 (c :: bs) _ _ (by simp)]
    congr 1
    simp
    omega
theorem f_cs_o : ∀ (bs : List Int32) (v : am_V) (n k : Nat), k ≠ 1 → k ≠ 2 → f_cs v n bs k = v k
  | [], _, _, _, _, _ => rfl
  | b :: bs, v, n, k, h1, h2 => by
    rw [f_cs, f_cs_o bs _ _ k h1 h2, f_c1, am_up_ne _ _ _ h1, am_up_ne _ _ _ h2]
theorem f_rs_66 : ∀ (bs : List Int32) (v : am_V) (n i : Nat), f_rs v n bs 66 i = if n ≤ i ∧ i < n + bs.length then bs.getD (i - n) 0 else v 66 i
  | [], v, n, i => by
    have : ¬ (n ≤ i ∧ i < n + 0) := by omega
    rw [f_rs, List.length_nil, if_neg this]
  | b :: bs, v, n, i => by
    rw [f_rs, f_rs_66 bs]
    simp only [f_r1, am_up_eq, List.length_cons]
    by_cases h1 : n + 1 ≤ i ∧ i < n + 1 + bs.length
    · rw [if_pos h1, if_pos (by omega), show i - n = (i - (n + 1)) + 1 by omega, List.getD_cons_succ]
    · rw [if_neg h1]
      by_cases h2 : i = n
      · subst h2
        simp
      · have : ¬ (n ≤ i ∧ i < n + (bs.length + 1)) := by omega
        simp [h2, this]
theorem f_rs_6 : ∀ (bs : List Int32) (v : am_V) (n : Nat), bs ≠ [] → f_rs v n bs 62 6 = nI (n + bs.length)
  | [], v, n, h => absurd rfl h
  | [b], v, n, _ => by simp [f_rs, f_r1, am_up_eq]
  | b :: c :: bs, v, n, _ => by
    rw [f_rs, f_rs_6 (c :: bs) _ _ (by simp)]
    congr 1
    simp
    omega
theorem f_rs_o : ∀ (bs : List Int32) (v : am_V) (n k : Nat), k ≠ 62 → k ≠ 66 → f_rs v n bs k = v k
  | [], _, _, _, _, _ => rfl
  | b :: bs, v, n, k, h1, h2 => by
    rw [f_rs, f_rs_o bs _ _ k h1 h2, f_r1, am_up_ne _ _ _ h1, am_up_ne _ _ _ h2]
theorem f_rs_62 : ∀ (bs : List Int32) (v : am_V) (n j : Nat), j ≠ 6 → f_rs v n bs 62 j = v 62 j
  | [], _, _, _, _ => rfl
  | b :: bs, v, n, j, h1 => by
    rw [f_rs, f_rs_62 bs _ _ j h1, f_r1]
    simp [am_up_eq, h1]
theorem f_cs_app : ∀ (as bs : List Int32) (v : am_V) (n : Nat), f_cs (f_cs v n as) (n + as.length) bs = f_cs v n (as ++ bs)
  | [], _, _, _ => rfl
  | a :: as, bs, v, n => by
    rw [List.cons_append, f_cs, f_cs, ← f_cs_app as bs]
    congr 1
    simp
    omega
theorem f_rs_app : ∀ (as bs : List Int32) (v : am_V) (n : Nat), f_rs (f_rs v n as) (n + as.length) bs = f_rs v n (as ++ bs)
  | [], _, _, _ => rfl
  | a :: as, bs, v, n => by
    rw [List.cons_append, f_rs, f_rs, ← f_rs_app as bs]
    congr 1
    simp
    omega
def f_cb (x : Int32) : List Int32 := [(x >>> (24 &&& 31)) &&& 255, (x >>> (16 &&& 31)) &&& 255, (x >>> (8 &&& 31)) &&& 255, (x >>> (0 &&& 31)) &&& 255]
def f_rb (x : Int32) : List Int32 := [vp_nar .byte ((x >>> (24 &&& 31)).toInt8.toInt32), vp_nar .byte ((x >>> (16 &&& 31)).toInt8.toInt32), vp_nar .byte ((x >>> (8 &&& 31)).toInt8.toInt32), vp_nar .byte ((x >>> (0 &&& 31)).toInt8.toInt32)]
theorem f_b8 (y : Int32) : vp_nar .byte (y.toInt8.toInt32) &&& 255 = y &&& 255 := by rw [pk_vb, by8]
section M28
variable {K : am_K} {I : am_I} {d : Nat} {v : am_V} {w : am_X} {Q : Option Value → am_H → Prop}
set_option maxRecDepth 100000 in
set_option maxHeartbeats 4000000 in
theorem m_X8_append {x : Int32} {n : Nat} (hn : v 1 1 = nI n) (hn2 : n + 4 ≤ 260) (h : Q none (am_sh, f_cs v n (f_cb x), w)) : am_run K I am_m (d + 1) 84 [.ref 1, .int x] (am_sh, v, w) 0 0 Q := by
  refine en_X8_append rfl ?_
  intro P hP
  have pass : ∀ (s : Int32) (u : am_V) (k : Nat), ¬ s < 0 → u 1 1 = nI k → k < 260 → P (cd_X8_append.drop 2, [some (.ref 1), some (.int x), some (.int (s + -8))], [], (am_sh, f_c1 u k ((x >>> (s &&& 31)) &&& 255), w), 0, 0) → P (cd_X8_append.drop 2, [some (.ref 1), some (.int x), some (.int s)], [], (am_sh, u, w), 0, 0) := by
    intro s u k hs hk hk2 e
    ((repeat' first | refine hP _ ?_ | fail); try dsimp only)
    refine ⟨fun c => absurd c hs, fun _ => ?_⟩
    ((repeat' first | refine hP _ ?_ | fail); try dsimp only)
    rw [hk]
    refine ⟨fun c => absurd c (nI_ge (a := k) (b := 260) (by omega) (by omega)), fun _ => ?_⟩
    ((repeat' first | refine hP _ ?_ | fail); try dsimp only)
    rw [hk]
    refine ⟨vp_in_nI (by omega) (by omega), ?_⟩
    rw [f_c1, ← nI_1, ← hk] at e
    dsimp only
    rw [nI_clamp (by omega)]
    (iterate 8 refine hP _ ?_)
    have e2 : am_up u 2 k (x >>> (s &&& 31) &&& 255) 1 1 = u 1 1 := by simp [am_up_eq]
    dsimp only
    rw [e2]
    exact e
  (iterate 2 refine hP _ ?_)
  refine pass 24 v n (by decide) hn (by omega) ?_
  rw [show (24 + -8 : Int32) = 16 from rfl]
  refine pass 16 _ (n + 1) (by decide) (by simp [f_c1, am_up_eq]) (by omega) ?_
  rw [show (16 + -8 : Int32) = 8 from rfl]
  refine pass 8 _ (n + 2) (by decide) (by simp [f_c1, am_up_eq]) (by omega) ?_
  rw [show (8 + -8 : Int32) = 0 from rfl]
  refine pass 0 _ (n + 3) (by decide) (by simp [f_c1, am_up_eq]) (by omega) ?_
  rw [show (0 + -8 : Int32) = -8 from rfl]
  ((repeat' first | refine hP _ ?_ | fail); try dsimp only)
  refine ⟨fun _ => ?_, fun c => absurd (by decide) c⟩
  ((repeat' first | refine hP _ ?_ | fail); try dsimp only)
  exact h
set_option maxRecDepth 100000 in
set_option maxHeartbeats 4000000 in
theorem m_X12_types {x : Int32} {n : Nat} (hn : v 62 6 = nI n) (hn2 : n + 4 ≤ 260) (h : Q none (am_sh, f_rs v n (f_rb x), w)) : am_run K I am_m (d + 1) 149 [.ref 62, .int x] (am_sh, v, w) 0 0 Q := by
  refine en_X12_types rfl ?_
  intro P hP
  have pass : ∀ (s t : Int32) (u : am_V) (k : Nat), ¬ s < 0 → 8 * s = t → u 62 6 = nI k → k < 260 → P (cd_X12_types.drop 2, [some (.ref 62), some (.int x), some (.int (s + -1))], [], (am_sh, f_r1 u k (vp_nar .byte ((x >>> (t &&& 31)).toInt8.toInt32)), w), 0, 0) → P (cd_X12_types.drop 2, [some (.ref 62), some (.int x), some (.int s)], [], (am_sh, u, w), 0, 0) := by
    intro s t u k hs ht hk hk2 e
    ((repeat' first | refine hP _ ?_ | fail); try dsimp only)
    refine ⟨fun c => absurd c hs, fun _ => ?_⟩
    ((repeat' first | refine hP _ ?_ | fail); try dsimp only)
    rw [hk]
    refine ⟨vp_in_nI (by omega) (by omega), ?_⟩
    rw [f_r1, ← nI_1, ← hk] at e
    dsimp only
    rw [nI_clamp (by omega), ht]
    (iterate 8 refine hP _ ?_)
    have e2 : am_up u 66 k (vp_nar .byte ((x >>> (t &&& 31)).toInt8.toInt32)) 62 6 = u 62 6 := by simp [am_up_eq]
    dsimp only
    rw [e2]
    exact e
  (iterate 2 refine hP _ ?_)
  refine pass 3 24 v n (by decide) rfl hn (by omega) ?_
  rw [show (3 + -1 : Int32) = 2 from rfl]
  refine pass 2 16 _ (n + 1) (by decide) rfl (by simp [f_r1, am_up_eq]) (by omega) ?_
  rw [show (2 + -1 : Int32) = 1 from rfl]
  refine pass 1 8 _ (n + 2) (by decide) rfl (by simp [f_r1, am_up_eq]) (by omega) ?_
  rw [show (1 + -1 : Int32) = 0 from rfl]
  refine pass 0 0 _ (n + 3) (by decide) rfl (by simp [f_r1, am_up_eq]) (by omega) ?_
  rw [show (0 + -1 : Int32) = -1 from rfl]
  ((repeat' first | refine hP _ ?_ | fail); try dsimp only)
  refine ⟨fun _ => ?_, fun c => absurd (by decide) c⟩
  ((repeat' first | refine hP _ ?_ | fail); try dsimp only)
  exact h
end M28
theorem f_by (x : Int32) : ∀ j, (f_cb x).getD j 0 = (f_rb x).getD j 0 &&& 255
  | 0 => (f_b8 _).symm
  | 1 => (f_b8 _).symm
  | 2 => (f_b8 _).symm
  | 3 => (f_b8 _).symm
  | _ + 4 => show (0 : Int32) = 0 &&& 255 from by decide
theorem f_byA {as bs cs es : List Int32} (hl : as.length = bs.length) (h1 : ∀ j, as.getD j 0 = bs.getD j 0 &&& 255) (h2 : ∀ j, cs.getD j 0 = es.getD j 0 &&& 255) : ∀ j, (as ++ cs).getD j 0 = (bs ++ es).getD j 0 &&& 255 := by
  intro j
  have a := h1 j
  have b := h2 (j - as.length)
  simp only [List.getD_eq_getElem?_getD, List.getElem?_append] at a b ⊢
  by_cases hj : j < as.length
  · rw [if_pos hj, if_pos (by omega)]
    exact a
  · rw [if_neg hj, if_neg (by omega), ← hl]
    exact b
set_option maxRecDepth 100000 in
set_option maxHeartbeats 4000000 in
theorem pr_feed {L : Nat} {xs : Nat → Int32} (a b c e f : Int32) : am_pair L xs 105 150 [.int a, .int b, .int c, .int e, .int f] := by
  intro d v w Q hI h
  obtain ⟨n, hn, hn1, hn2, hby⟩ := hI.2.2.2.1
  refine en_X11_feed rfl ?_
  intro P hP
  ((repeat' first | refine hP _ ?_ | fail); try dsimp only)
  rw [hn1, show nI n + 20 = nI (n + 20) from nI_add n 20]
  refine ⟨fun q => ?_, fun q => ?_⟩
  · have hle : n + 20 ≤ 260 := (nI_leI (a := n + 20) (b := 260) (by omega) (by omega)).mp q
    ((repeat' first | refine hP _ ?_ | fail); try dsimp only)
    refine m_X8_append hn1 (by omega) ?_
    ((repeat' first | refine hP _ ?_ | fail); try dsimp only)
    refine m_X8_append (n := n + 4) (f_cs_1 _ _ _ (by simp [f_cb])) (by omega) ?_
    ((repeat' first | refine hP _ ?_ | fail); try dsimp only)
    rw [show n + 4 = n + (f_cb a).length from rfl, f_cs_app]
    refine m_X8_append (n := n + 8) (f_cs_1 _ _ _ (by simp [f_cb])) (by omega) ?_
    ((repeat' first | refine hP _ ?_ | fail); try dsimp only)
    rw [show n + 8 = n + (f_cb a ++ f_cb b).length from rfl, f_cs_app]
    refine m_X8_append (n := n + 12) (f_cs_1 _ _ _ (by simp [f_cb])) (by omega) ?_
    ((repeat' first | refine hP _ ?_ | fail); try dsimp only)
    rw [show n + 12 = n + (f_cb a ++ f_cb b ++ f_cb c).length from rfl, f_cs_app]
    refine m_X8_append (n := n + 16) (f_cs_1 _ _ _ (by simp [f_cb])) (by omega) ?_
    ((repeat' first | refine hP _ ?_ | fail); try dsimp only)
    rw [show n + 16 = n + (f_cb a ++ f_cb b ++ f_cb c ++ f_cb e).length from rfl, f_cs_app]
    refine am_qr (r' := nI (n + 20)) (f_cs_1 _ _ _ (by simp [f_cb])) rfl (h _ _ w (fun Q2 h2 => ?_))
    generalize hv1 : f_cs v n (f_cb a ++ f_cb b ++ f_cb c ++ f_cb e ++ f_cb f) = v1
    have g6 : v1 62 6 = nI n := by rw [← hv1, f_cs_o _ _ _ 62 (by decide) (by decide)]; exact hn2
    refine en_X12_feed rfl ?_
    intro P2 hP2
    ((repeat' first | refine hP2 _ ?_ | fail); try dsimp only)
    rw [g6, show nI n + 20 = nI (n + 20) from nI_add n 20]
    refine ⟨fun _ => ?_, fun z => absurd q z⟩
    ((repeat' first | refine hP2 _ ?_ | fail); try dsimp only)
    refine m_X12_types g6 (by omega) ?_
    ((repeat' first | refine hP2 _ ?_ | fail); try dsimp only)
    refine m_X12_types (n := n + 4) (f_rs_6 _ _ _ (by simp [f_rb])) (by omega) ?_
    ((repeat' first | refine hP2 _ ?_ | fail); try dsimp only)
    rw [show n + 4 = n + (f_rb a).length from rfl, f_rs_app]
    refine m_X12_types (n := n + 8) (f_rs_6 _ _ _ (by simp [f_rb])) (by omega) ?_
    ((repeat' first | refine hP2 _ ?_ | fail); try dsimp only)
    rw [show n + 8 = n + (f_rb a ++ f_rb b).length from rfl, f_rs_app]
    refine m_X12_types (n := n + 12) (f_rs_6 _ _ _ (by simp [f_rb])) (by omega) ?_
    ((repeat' first | refine hP2 _ ?_ | fail); try dsimp only)
    rw [show n + 12 = n + (f_rb a ++ f_rb b ++ f_rb c).length from rfl, f_rs_app]
    refine m_X12_types (n := n + 16) (f_rs_6 _ _ _ (by simp [f_rb])) (by omega) ?_
    ((repeat' first | refine hP2 _ ?_ | fail); try dsimp only)
    rw [show n + 16 = n + (f_rb a ++ f_rb b ++ f_rb c ++ f_rb e).length from rfl, f_rs_app]
    refine am_qr (r' := nI (n + 20)) (f_rs_6 _ _ _ (by simp [f_rb])) rfl (h2 _ w ?_)
    generalize hv2 : f_rs v1 n (f_rb a ++ f_rb b ++ f_rb c ++ f_rb e ++ f_rb f) = v2
    have o : ∀ k, k ≠ 1 → k ≠ 2 → k ≠ 62 → k ≠ 66 → v2 k = v k := fun k k1 k2 k3 k4 => by rw [← hv2, f_rs_o _ _ _ k k3 k4, ← hv1, f_cs_o _ _ _ k k1 k2]
    have o62 : ∀ j, j ≠ 6 → v2 62 j = v 62 j := fun j hj => by rw [← hv2, f_rs_62 _ _ _ j hj, ← hv1, f_cs_o _ _ _ 62 (by decide) (by decide)]
    obtain ⟨hm, hk, hmi, ht, hl, hr⟩ := hI
    refine ⟨?_, ?_, ?_, ⟨n + 20, hle, ?_, ?_, ?_⟩, ?_, ?_⟩
    · unfold iv_meet iv_rng
      rw [o 30 (by decide) (by decide) (by decide) (by decide), o 31 (by decide) (by decide) (by decide) (by decide), o 32 (by decide) (by decide) (by decide) (by decide), o 63 (by decide) (by decide) (by decide) (by decide)]
      exact hm
    · unfold iv_meet iv_rng
      rw [o 0 (by decide) (by decide) (by decide) (by decide), o 36 (by decide) (by decide) (by decide) (by decide), o 37 (by decide) (by decide) (by decide) (by decide), o 38 (by decide) (by decide) (by decide) (by decide), o 65 (by decide) (by decide) (by decide) (by decide)]
      exact hk
    · unfold iv_misc
      rw [o 0 (by decide) (by decide) (by decide) (by decide), o62 62 (by decide), o62 3 (by decide), o62 4 (by decide)]
      exact hmi
    · rw [← hv2, f_rs_o _ _ _ 1 (by decide) (by decide), ← hv1]
      exact f_cs_1 _ _ _ (by simp [f_cb])
    · rw [← hv2]
      exact f_rs_6 _ _ _ (by simp [f_rb])
    · intro i hi
      rw [← hv2, f_rs_66, f_rs_o _ _ _ 2 (by decide) (by decide), ← hv1, f_cs_2, f_cs_o _ _ _ 66 (by decide) (by decide)]
      by_cases hin : n ≤ i
      · rw [if_pos ⟨hin, by simp [f_cb]; omega⟩, if_pos ⟨hin, by simp [f_rb]; omega⟩]
        exact f_byA (as := f_cb a ++ f_cb b ++ f_cb c ++ f_cb e) (bs := f_rb a ++ f_rb b ++ f_rb c ++ f_rb e) rfl (f_byA (as := f_cb a ++ f_cb b ++ f_cb c) (bs := f_rb a ++ f_rb b ++ f_rb c) rfl (f_byA (as := f_cb a ++ f_cb b) (bs := f_rb a ++ f_rb b) rfl (f_byA (as := f_cb a) (bs := f_rb a) rfl (f_by a) (f_by b)) (f_by c)) (f_by e)) (f_by f) _
      · rw [if_neg (fun z => hin z.1), if_neg (fun z => hin z.1)]
        exact hby i (by omega)
    · unfold iv_law
      rw [o 3 (by decide) (by decide) (by decide) (by decide), o 4 (by decide) (by decide) (by decide) (by decide), o 5 (by decide) (by decide) (by decide) (by decide), o 6 (by decide) (by decide) (by decide) (by decide), o 7 (by decide) (by decide) (by decide) (by decide), o62 15 (by decide), o 73 (by decide) (by decide) (by decide) (by decide), o 74 (by decide) (by decide) (by decide) (by decide), o 75 (by decide) (by decide) (by decide) (by decide), o 76 (by decide) (by decide) (by decide) (by decide), o 77 (by decide) (by decide) (by decide) (by decide)]
      exact hl
    · unfold iv_tre
      rw [o 22 (by decide) (by decide) (by decide) (by decide), o 23 (by decide) (by decide) (by decide) (by decide), o 24 (by decide) (by decide) (by decide) (by decide), o 25 (by decide) (by decide) (by decide) (by decide), o62 48 (by decide), o 88 (by decide) (by decide) (by decide) (by decide), o 89 (by decide) (by decide) (by decide) (by decide), o 93 (by decide) (by decide) (by decide) (by decide)]
      exact hr
  · ((repeat' first | refine hP _ ?_ | refine ⟨fun c1 => absurd c1 (by decide), fun _ => ?_⟩ | refine ⟨fun _ => ?_, fun c1 => absurd c1 (by decide)⟩ | refine ⟨am_vin rfl, ?_⟩ | refine ⟨fun c1 => ?_, fun c1 => ?_⟩ | refine ⟨Or.inr rfl, ?_⟩ | refine ⟨Or.inl rfl, ?_⟩ | fail); all_goals (try dsimp only at *))
    refine h (-1) v w (fun Q2 h2 => ?_)
    refine en_X12_feed rfl ?_
    intro P2 hP2
    ((repeat' first | refine hP2 _ ?_ | fail); try dsimp only)
    rw [hn2, show nI n + 20 = nI (n + 20) from nI_add n 20]
    refine ⟨fun z => absurd z q, fun _ => ?_⟩
    ((repeat' first | refine hP2 _ ?_ | refine ⟨fun c1 => absurd c1 (by decide), fun _ => ?_⟩ | refine ⟨fun _ => ?_, fun c1 => absurd c1 (by decide)⟩ | refine ⟨am_vin rfl, ?_⟩ | refine ⟨fun c1 => ?_, fun c1 => ?_⟩ | refine ⟨Or.inr rfl, ?_⟩ | refine ⟨Or.inl rfl, ?_⟩ | fail); all_goals (try dsimp only at *))
    exact h2 v w hI
end
section
/-! ===== what stays when the tape is cleared ===== -/
def iv_impL : List Nat := [0, 3, 4, 5, 6, 7, 22, 23, 24, 25, 30, 31, 32, 36, 37, 38, 63, 65, 73, 74, 75, 76, 77, 88, 89, 93]
theorem INV.of {v v' : am_V} (hI : INV v) (h : ∀ k, k ∈ iv_impL → v' k = v k) (h62 : ∀ j, j ∈ [3, 4, 15, 48, 62] → v' 62 j = v 62 j) (ht : iv_tape v') : INV v' := by
  obtain ⟨hm, hk, hmi, -, hl, hr⟩ := hI
  refine ⟨?_, ?_, ?_, ht, ?_, ?_⟩
  · unfold iv_meet iv_rng
    rw [h 30 (by decide), h 31 (by decide), h 32 (by decide), h 63 (by decide)]
    exact hm
  · unfold iv_meet iv_rng
    rw [h 0 (by decide), h 36 (by decide), h 37 (by decide), h 38 (by decide), h 65 (by decide)]
    exact hk
  · unfold iv_misc
    rw [h 0 (by decide), h62 62 (by decide), h62 3 (by decide), h62 4 (by decide)]
    exact hmi
  · unfold iv_law
    rw [h 3 (by decide), h 4 (by decide), h 5 (by decide), h 6 (by decide), h 7 (by decide), h62 15 (by decide), h 73 (by decide), h 74 (by decide), h 75 (by decide), h 76 (by decide), h 77 (by decide)]
    exact hl
  · unfold iv_tre
    rw [h 22 (by decide), h 23 (by decide), h 24 (by decide), h 25 (by decide), h62 48 (by decide), h 88 (by decide), h 89 (by decide), h 93 (by decide)]
    exact hr
/-- with the tape cleared -/
theorem INV.clr {v v' : am_V} (hI : INV v) (h : ∀ k, k ∈ iv_impL → v' k = v k) (h62 : ∀ j, j ∈ [3, 4, 15, 48, 62] → v' 62 j = v 62 j) (h1 : v' 1 1 = 0) (h6 : v' 62 6 = 0) : INV v' := hI.of h h62 ⟨0, by omega, h1, h6, fun i hi => absurd hi (by omega)⟩
/-- with the tape as it was -/
theorem INV.scr {v v' : am_V} (hI : INV v) (h : ∀ k, k ∈ iv_impL → v' k = v k) (h62 : ∀ j, j ∈ [3, 4, 6, 15, 48, 62] → v' 62 j = v 62 j) (h1 : v' 1 = v 1) (h2 : v' 2 = v 2) (h66 : v' 66 = v 66) : INV v' := by
  refine hI.of h (fun j hj => h62 j (by revert hj; simp; omega)) ?_
  unfold iv_tape
  rw [h1, h2, h66, h62 6 (by decide)]
  exact hI.2.2.2.1
section M29
variable {K : am_K} {I : am_I} {d : Nat} {v : am_V} {w : am_X} {Q : Option Value → am_H → Prop}
set_option maxRecDepth 100000 in
set_option maxHeartbeats 4000000 in
theorem m_X12_octet {i : Nat} (hi : i < 260) (h : Q (some (.int (v 66 i &&& 255))) (am_sh, v, w)) : am_run K I am_m (d + 1) 151 [.ref 62, .int (nI i)] (am_sh, v, w) 0 0 Q := by
  refine en_X12_octet rfl ?_
  intro P hP
  ((repeat' first | refine hP _ ?_ | fail); try dsimp only)
  refine ⟨vp_in_nI hi (by omega), ?_⟩
  ((repeat' first | refine hP _ ?_ | fail); try dsimp only)
  rw [nI_clamp (by omega)]
  exact h
theorem m_byteAt {i n : Nat} (hi : i < n) (hn : v 1 1 = nI n) (hn2 : n ≤ 260) (h : Q (some (.int (v 2 i))) (am_sh, v, w)) : am_run K I am_m (d + 1) 85 [.ref 1, .int (nI i)] (am_sh, v, w) 0 0 Q := m_X8_byteAt (by omega) hn hn2 (by rw [if_pos hi]; exact h)
end M29
def f_mx (x y : Int32) : Int32 := if x < y then y else x
theorem f_mx2 (x y : Int32) : (if y < x then x else y) = f_mx x y := by
  unfold f_mx
  by_cases h1 : x < y
  · rw [if_pos h1, if_neg (by
      have a := Int32.lt_iff_toInt_lt.mp h1
      rw [Int32.lt_iff_toInt_lt]
      omega)]
  · rw [if_neg h1]
    by_cases h2 : y < x
    · rw [if_pos h2]
    · rw [if_neg h2]
      have a : ¬ x.toInt < y.toInt := fun q => h1 (Int32.lt_iff_toInt_lt.mpr q)
      have b : ¬ y.toInt < x.toInt := fun q => h2 (Int32.lt_iff_toInt_lt.mpr q)
      exact Int32.toInt_inj.mp (by omega)
def f_mn (x y : Int32) : Int32 := if y < x then y else x
theorem f_mn2 (x y : Int32) : (if x < y then x else y) = f_mn x y := by
  unfold f_mn
  by_cases h1 : x < y
  · rw [if_pos h1, if_neg (by
      have a := Int32.lt_iff_toInt_lt.mp h1
      rw [Int32.lt_iff_toInt_lt]
      omega)]
  · rw [if_neg h1]
    by_cases h2 : y < x
    · rw [if_pos h2]
    · rw [if_neg h2]
      have a : ¬ x.toInt < y.toInt := fun q => h1 (Int32.lt_iff_toInt_lt.mpr q)
      have b : ¬ y.toInt < x.toInt := fun q => h2 (Int32.lt_iff_toInt_lt.mpr q)
      exact Int32.toInt_inj.mp (by omega)
end
section
/-! ===== pair: signing ===== -/
def sgA (t : Nat → Int32) : Nat → Int32
  | 0 => 0
  | i + 1 => sgA t i + t (2 * i)
def sgB (t : Nat → Int32) : Nat → Int32
  | 0 => 0
  | i + 1 => sgB t i + t (2 * i + 1)
def sgC (t : Nat → Int32) : Nat → Int32
  | 0 => 0
  | i + 1 => f_mx (sgC t i) (t (2 * i) + t (2 * i + 1))
theorem sg_congr {t u : Nat → Int32} : ∀ n, (∀ j, j < 2 * n → t j = u j) → sgA t n = sgA u n ∧ sgB t n = sgB u n ∧ sgC t n = sgC u n
  | 0, _ => ⟨rfl, rfl, rfl⟩
  | n + 1, h => by
    obtain ⟨a, b, c⟩ := sg_congr n (fun j hj => h j (by omega))
    refine ⟨?_, ?_, ?_⟩
    · rw [sgA, sgA, a, h _ (by omega)]
    · rw [sgB, sgB, b, h _ (by omega)]
    · rw [sgC, sgC, c, h _ (by omega), h _ (by omega)]
def sgL (t : Nat → Int32) (n : Nat) : Int32 := f_mx (sgC t n) (f_mx (sgA t n) (sgB t n))
def sgW (t : Nat → Int32) (n : Nat) : Int32 := if sgL t n = sgA t n then 0 else if sgL t n = sgB t n then 1 else 2
section M30
variable {K : am_K} {I : am_I} {d : Nat} {v : am_V} {w : am_X} {Q : Option Value → am_H → Prop}
set_option maxRecDepth 100000 in
set_option maxHeartbeats 4000000 in
theorem m_X0_sign {N n : Nat} (hn : v 1 1 = nI n) (hn2 : n ≤ 260) (hN : 2 * N ≤ n) (h : Q none (am_sh, am_up (am_up v 43 8 (sgL (v 2) N)) 43 9 (sgW (v 2) N), w)) : am_run K I am_m (d + 2) 2 [.ref 43, .int (nI N)] (am_sh, v, w) 0 0 Q := by
  refine en_X0_sign rfl ?_
  intro P hP
  have key : ∀ (k i : Nat) (l6 l7 : Option Value), i + k = N → P (cd_X0_sign.drop 8, [some (.ref 43), some (.int (nI N)), some (.int (sgA (v 2) i)), some (.int (sgB (v 2) i)), some (.int (sgC (v 2) i)), some (.int (nI i)), l6, l7], [], (am_sh, v, w), 0, 0) := by
    intro k
    induction k with
    | zero =>
      intro i l6 l7 hi
      have hi : i = N := by omega
      subst hi
      ((repeat' first | refine hP _ ?_ | fail); try dsimp only)
      refine ⟨fun _ => ?_, fun c => absurd (nI_le (Nat.le_refl i) (by omega)) c⟩
      ((repeat' first | refine hP _ ?_ | fail); try dsimp only)
      have e1 : am_up v 43 8 (sgL (v 2) i) 43 8 = sgL (v 2) i := by simp [am_up_eq]
      change am_step _ _ _ _ _ _ _ _ (_, _, [Value.int (sgA (v 2) i), Value.int (am_up v 43 8 (sgL (v 2) i) 43 8), _], _, _, _)
      rw [e1]
      refine ⟨fun c => ?_, fun c => ?_⟩
      · ((repeat' first | refine hP _ ?_ | fail); try dsimp only)
        change am_step _ _ _ _ _ _ _ _ (_, _, [Value.int (sgB (v 2) i), Value.int (am_up v 43 8 (sgL (v 2) i) 43 8), _], _, _, _)
        rw [e1]
        refine ⟨fun c2 => ?_, fun c2 => ?_⟩
        · ((repeat' first | refine hP _ ?_ | fail); try dsimp only)
          rw [sgW, if_neg c, if_neg c2] at h
          exact h
        · ((repeat' first | refine hP _ ?_ | fail); try dsimp only)
          rw [sgW, if_neg c, if_pos c2] at h
          exact h
      · ((repeat' first | refine hP _ ?_ | fail); try dsimp only)
        rw [sgW, if_pos c] at h
        exact h
    | succ k ih =>
      intro i l6 l7 hi
      have e2 : 2 * nI i = nI (2 * i) := pk_mul 2 i
      have e3 : nI (2 * i) + 1 = nI (2 * i + 1) := nI_1 _
      ((repeat' first | refine hP _ ?_ | fail); try dsimp only)
      refine ⟨fun c => absurd c (nI_ge (by omega) (by omega)), fun _ => ?_⟩
      ((repeat' first | refine hP _ ?_ | fail); try dsimp only)
      rw [e2]
      refine m_byteAt (by omega) hn hn2 ?_
      ((repeat' first | refine hP _ ?_ | fail); try dsimp only)
      rw [e2, e3]
      refine m_byteAt (by omega) hn hn2 ?_
      have e := ih (i + 1) (some (.int (v 2 (2 * i)))) (some (.int (v 2 (2 * i + 1)))) (by omega)
      rw [← nI_1] at e
      ((iterate 17 refine hP _ ?_); try dsimp only)
      exact e
  ((iterate 8 refine hP _ ?_); try dsimp only)
  exact key N 0 none none (by omega)
end M30
section M30b
variable {K : am_K} {I : am_I} {d : Nat} {v : am_V} {w : am_X} {Q : Option Value → am_H → Prop} {P : am_C → Prop}
set_option maxRecDepth 100000 in
set_option maxHeartbeats 4000000 in
theorem lp_signing2 {N : Nat} {what : Int32} {t : Nat → Int32} (ht : t = fun j => v 66 j &&& 255) (hN : N ≤ 12) (hw : iv_bit what) (hP : ∀ c, am_step K I (am_run K I am_m (d + 1)) cd_X12_signing 0 0 Q P c → P c) (h : Q (some (.int (if what = 0 then sgL t N else sgW t N))) (am_sh, v, w)) : ∀ k i : Nat, i + k = N → P (cd_X12_signing.drop 29, [some (.ref 62), some (.int (nI N)), some (.int what), some (.int (sgA t i)), some (.int (sgB t i)), some (.int (sgC t i)), some (.int (nI i))], [], (am_sh, v, w), 0, 0) := by
  intro k
  induction k with
  | zero =>
    intro i hi
    have hi : i = N := by omega
    subst hi
    ((repeat' first | refine hP _ ?_ | fail); try dsimp only)
    refine ⟨fun _ => ?_, fun c => absurd (nI_le (Nat.le_refl i) (by omega)) c⟩
    ((repeat' first | refine hP _ ?_ | fail); try dsimp only)
    refine m_X12_max ?_
    rw [f_mx2]
    ((repeat' first | refine hP _ ?_ | fail); try dsimp only)
    refine m_X12_max ?_
    rw [f_mx2, show f_mx (sgC t i) (f_mx (sgA t i) (sgB t i)) = sgL t i from rfl]
    ((repeat' first | refine hP _ ?_ | fail); try dsimp only)
    refine ⟨fun c => ?_, fun c => ?_⟩
    · rw [if_neg c] at h
      ((repeat' first | refine hP _ ?_ | fail); try dsimp only)
      refine ⟨fun c2 => ?_, fun c2 => ?_⟩
      · ((repeat' first | refine hP _ ?_ | fail); try dsimp only)
        refine ⟨fun c3 => ?_, fun c3 => ?_⟩
        · ((repeat' first | refine hP _ ?_ | fail); try dsimp only)
          rw [sgW, if_neg (fun q => c2 q.symm), if_neg (fun q => c3 q.symm)] at h
          exact h
        · ((repeat' first | refine hP _ ?_ | fail); try dsimp only)
          rw [sgW, if_neg (fun q => c2 q.symm), if_pos c3.symm] at h
          exact h
      · ((repeat' first | refine hP _ ?_ | fail); try dsimp only)
        rw [sgW, if_pos c2.symm] at h
        exact h
    · ((repeat' first | refine hP _ ?_ | fail); try dsimp only)
      rw [if_pos c] at h
      exact h
  | succ k ih =>
    intro i hi
    have e2 : 2 * nI i = nI (2 * i) := pk_mul 2 i
    have e3 : nI (2 * i) + 1 = nI (2 * i + 1) := nI_1 _
    ((repeat' first | refine hP _ ?_ | fail); try dsimp only)
    refine ⟨fun c => absurd c (nI_ge (by omega) (by omega)), fun _ => ?_⟩
    ((repeat' first | refine hP _ ?_ | fail); try dsimp only)
    rw [e2]
    refine m_X12_octet (by omega) ?_
    ((repeat' first | refine hP _ ?_ | fail); try dsimp only)
    rw [e2, e3]
    refine m_X12_octet (by omega) ?_
    ((repeat' first | refine hP _ ?_ | fail); try dsimp only)
    rw [e2]
    refine m_X12_octet (by omega) ?_
    ((repeat' first | refine hP _ ?_ | fail); try dsimp only)
    rw [e2, e3]
    refine m_X12_octet (by omega) ?_
    ((repeat' first | refine hP _ ?_ | fail); try dsimp only)
    refine m_X12_max ?_
    rw [f_mx2]
    have e := ih (i + 1) (by omega)
    rw [← nI_1, sgA, sgB, sgC, show t (2 * i) = v 66 (2 * i) &&& 255 by rw [ht], show t (2 * i + 1) = v 66 (2 * i + 1) &&& 255 by rw [ht]] at e
    ((iterate 3 refine hP _ ?_); try dsimp only)
    exact e
end M30b
set_option maxRecDepth 100000 in
set_option maxHeartbeats 4000000 in
theorem pr_signing {L : Nat} {xs : Nat → Int32} (a b : Int32) : am_pair L xs 119 214 [.int a, .int b] := by
  intro d v w Q hI h
  obtain ⟨n, hn, hn1, hn2, hby⟩ := hI.2.2.2.1
  refine en_X11_signing rfl ?_
  intro P hP
  ((repeat' first | refine hP _ ?_ | fail); try dsimp only)
  refine m_X11_outside (fun c => ?_) (fun c1 c2 => ?_)
  · ((repeat' first | refine hP _ ?_ | refine ⟨fun c1 => absurd c1 (by decide), fun _ => ?_⟩ | refine ⟨fun _ => ?_, fun c1 => absurd c1 (by decide)⟩ | refine ⟨am_vin rfl, ?_⟩ | refine ⟨fun c1 => ?_, fun c1 => ?_⟩ | refine ⟨Or.inr rfl, ?_⟩ | refine ⟨Or.inl rfl, ?_⟩ | fail); all_goals (try dsimp only at *))
    refine h (-1) v w (fun Q2 h2 => ?_)
    refine en_X12_signing rfl ?_
    intro P2 hP2
    ((repeat' first | refine hP2 _ ?_ | fail); try dsimp only)
    refine m_X12_in0 c ?_
    ((repeat' first | refine hP2 _ ?_ | refine ⟨fun c1 => absurd c1 (by decide), fun _ => ?_⟩ | refine ⟨fun _ => ?_, fun c1 => absurd c1 (by decide)⟩ | refine ⟨am_vin rfl, ?_⟩ | refine ⟨fun c1 => ?_, fun c1 => ?_⟩ | refine ⟨Or.inr rfl, ?_⟩ | refine ⟨Or.inl rfl, ?_⟩ | fail); all_goals (try dsimp only at *))
    exact h2 v w hI
  · ((repeat' first | refine hP _ ?_ | fail); try dsimp only)
    refine ⟨fun e => absurd rfl e, fun _ => ?_⟩
    ((repeat' first | refine hP _ ?_ | fail); try dsimp only)
    refine m_X11_outside (fun e => ?_) (fun e1 e2 => ?_)
    · ((repeat' first | refine hP _ ?_ | refine ⟨fun c1 => absurd c1 (by decide), fun _ => ?_⟩ | refine ⟨fun _ => ?_, fun c1 => absurd c1 (by decide)⟩ | refine ⟨am_vin rfl, ?_⟩ | refine ⟨fun c1 => ?_, fun c1 => ?_⟩ | refine ⟨Or.inr rfl, ?_⟩ | refine ⟨Or.inl rfl, ?_⟩ | fail); all_goals (try dsimp only at *))
      refine h (-1) v w (fun Q2 h2 => ?_)
      refine en_X12_signing rfl ?_
      intro P2 hP2
      ((repeat' first | refine hP2 _ ?_ | fail); try dsimp only)
      refine m_X12_in1 c1 c2 ?_
      ((repeat' first | refine hP2 _ ?_ | fail); try dsimp only)
      refine ⟨fun e => absurd e (by decide), fun _ => ?_⟩
      ((repeat' first | refine hP2 _ ?_ | fail); try dsimp only)
      refine m_X12_in0 e ?_
      ((repeat' first | refine hP2 _ ?_ | refine ⟨fun c1 => absurd c1 (by decide), fun _ => ?_⟩ | refine ⟨fun _ => ?_, fun c1 => absurd c1 (by decide)⟩ | refine ⟨am_vin rfl, ?_⟩ | refine ⟨fun c1 => ?_, fun c1 => ?_⟩ | refine ⟨Or.inr rfl, ?_⟩ | refine ⟨Or.inl rfl, ?_⟩ | fail); all_goals (try dsimp only at *))
      exact h2 v w hI
    · obtain ⟨N, hN1, hN, rfl⟩ := am_nat1 c1 c2 (n := 12) rfl
      have eN : 2 * nI N = nI (2 * N) := pk_mul 2 N
      ((repeat' first | refine hP _ ?_ | fail); try dsimp only)
      refine ⟨fun e => absurd rfl e, fun _ => ?_⟩
      ((repeat' first | refine hP _ ?_ | fail); try dsimp only)
      rw [eN]
      have hr0 : ∀ {Q2 : Option Value → am_H → Prop} {v1 : am_V} {P2 : am_C → Prop}, (∀ q, am_step (am_kc L xs) am_idx (am_run (am_kc L xs) am_idx am_m (d + 29)) cd_X12_signing 0 0 Q2 P2 q → P2 q) → v1 62 6 = nI n → (nI (2 * N) ≤ nI n → P2 (cd_X12_signing.drop 18, am_ent 7 [Value.ref 62, Value.int (nI N), Value.int b], [], (am_sh, v1, w), 0, 0)) → (¬ nI (2 * N) ≤ nI n → Q2 (some (.int (-1))) (am_sh, v1, w)) → P2 (cd_X12_signing, am_ent 7 [Value.ref 62, Value.int (nI N), Value.int b], [], (am_sh, v1, w), 0, 0) := by
        intro Q2 v1 P2 hP2 g6 k1 k2
        ((repeat' first | refine hP2 _ ?_ | fail); try dsimp only)
        refine m_X12_in1 c1 c2 ?_
        ((repeat' first | refine hP2 _ ?_ | fail); try dsimp only)
        refine ⟨fun e => absurd e (by decide), fun _ => ?_⟩
        ((repeat' first | refine hP2 _ ?_ | fail); try dsimp only)
        refine m_X12_in1 e1 e2 ?_
        ((repeat' first | refine hP2 _ ?_ | fail); try dsimp only)
        refine ⟨fun e => absurd e (by decide), fun _ => ?_⟩
        ((repeat' first | refine hP2 _ ?_ | fail); try dsimp only)
        rw [eN, g6]
        refine ⟨fun q => k1 q, fun q => ?_⟩
        ((repeat' first | refine hP2 _ ?_ | fail); try dsimp only)
        exact k2 q
      refine m_X8_has (fun q => ?_) (fun q => ?_)
      · rw [hn1] at q
        have hle : 2 * N ≤ n := (nI_leI (by omega) (by omega)).mp q
        ((repeat' first | refine hP _ ?_ | fail); try dsimp only)
        refine ⟨fun _ => ?_, fun e => absurd e (by decide)⟩
        ((repeat' first | refine hP _ ?_ | fail); try dsimp only)
        refine m_X0_sign hn1 hn hle ?_
        ((repeat' first | refine hP _ ?_ | fail); try dsimp only)
        refine m_X8_clear ?_
        have hcg := sg_congr (t := v 2) (u := fun j => v 66 j &&& 255) N (fun j hj => hby j (by omega))
        have hLq : sgL (v 2) N = sgL (fun j => v 66 j &&& 255) N := by rw [sgL, sgL, hcg.1, hcg.2.1, hcg.2.2]
        have hWq : sgW (v 2) N = sgW (fun j => v 66 j &&& 255) N := by rw [sgW, sgW, hLq, hcg.1, hcg.2.1]
        have hb := am_01 e1 e2
        have fin : Q (some (.int (if b = 0 then sgL (fun j => v 66 j &&& 255) N else sgW (fun j => v 66 j &&& 255) N))) (am_sh, am_up (am_up (am_up v 43 8 (sgL (v 2) N)) 43 9 (sgW (v 2) N)) 1 1 0, w) := by
          refine h _ _ w (fun Q2 h2 => ?_)
          refine en_X12_signing rfl ?_
          intro P2 hP2
          refine hr0 hP2 (by simp [am_up_eq]; exact hn2) (fun _ => ?_) (fun z => absurd q z)
          ((iterate 11 refine hP2 _ ?_); try dsimp only)
          refine lp_signing2 (t := fun j => v 66 j &&& 255) (by simp [am_up_eq]) hN hb hP2 ?_ N 0 (by omega)
          refine h2 _ w (hI.clr (fun k hk => ?_) (fun j hj => ?_) ?_ ?_)
          · have : k ≠ 62 ∧ k ≠ 1 ∧ k ≠ 43 := by
              refine ⟨?_, ?_, ?_⟩ <;> (intro z; rw [z] at hk; revert hk; decide)
            rw [am_up_ne _ _ _ this.1, am_up_ne _ _ _ this.2.1, am_up_ne _ _ _ this.2.2, am_up_ne _ _ _ this.2.2]
          · have : j ≠ 6 := by
              intro z; rw [z] at hj; revert hj; decide
            simp [am_up_eq, this]
          · simp [am_up_eq]
          · simp [am_up_eq]
        rcases hb with rfl | rfl
        · ((repeat' first | refine hP _ ?_ | refine ⟨fun c1 => absurd c1 (by decide), fun _ => ?_⟩ | refine ⟨fun _ => ?_, fun c1 => absurd c1 (by decide)⟩ | refine ⟨am_vin rfl, ?_⟩ | refine ⟨fun c1 => ?_, fun c1 => ?_⟩ | refine ⟨Or.inr rfl, ?_⟩ | refine ⟨Or.inl rfl, ?_⟩ | fail); all_goals (try dsimp only at *))
          refine am_qr ?_ rfl fin
          rw [if_pos rfl, ← hLq]
          simp [am_up_eq]
        · ((repeat' first | refine hP _ ?_ | refine ⟨fun c1 => absurd c1 (by decide), fun _ => ?_⟩ | refine ⟨fun _ => ?_, fun c1 => absurd c1 (by decide)⟩ | refine ⟨am_vin rfl, ?_⟩ | refine ⟨fun c1 => ?_, fun c1 => ?_⟩ | refine ⟨Or.inr rfl, ?_⟩ | refine ⟨Or.inl rfl, ?_⟩ | fail); all_goals (try dsimp only at *))
          refine am_qr ?_ rfl fin
          rw [if_neg (by decide), ← hWq]
          simp [am_up_eq]
      · rw [hn1] at q
        ((repeat' first | refine hP _ ?_ | refine ⟨fun c1 => absurd c1 (by decide), fun _ => ?_⟩ | refine ⟨fun _ => ?_, fun c1 => absurd c1 (by decide)⟩ | refine ⟨am_vin rfl, ?_⟩ | refine ⟨fun c1 => ?_, fun c1 => ?_⟩ | refine ⟨Or.inr rfl, ?_⟩ | refine ⟨Or.inl rfl, ?_⟩ | fail); all_goals (try dsimp only at *))
        refine h (-1) v w (fun Q2 h2 => ?_)
        refine en_X12_signing rfl ?_
        intro P2 hP2
        exact hr0 hP2 hn2 (fun z => absurd z (Int32.not_le.mpr q)) (fun _ => h2 v w hI)
end
section
/-! ===== pair: tent ===== -/
/-- bytes as numbers -/
def tpN (v : am_V) (j : Nat) : Nat := (v 66 j).toBitVec.toNat % 256
theorem tpN_lt (v : am_V) (j : Nat) : tpN v j < 256 := Nat.mod_lt _ (by decide)
theorem tpN_eq (v : am_V) (j : Nat) : v 66 j &&& 255 = nI (tpN v j) := pk_and (v 66 j) 8 rfl
def tsum (t : Nat → Nat) : Nat → Nat
  | 0 => 0
  | i + 1 => tsum t i + t i
theorem tsum_le {t : Nat → Nat} (ht : ∀ j, t j < 256) : ∀ n, tsum t n ≤ 255 * n
  | 0 => Nat.le_refl _
  | n + 1 => by
    have := tsum_le ht n
    have := ht n
    unfold tsum
    omega
theorem tsum_mono {t : Nat → Nat} {a : Nat} : ∀ k, tsum t a ≤ tsum t (a + k)
  | 0 => Nat.le_refl _
  | k + 1 => Nat.le_trans (tsum_mono k) (by show _ ≤ tsum t (a + k) + t (a + k); omega)
def adif (a b : Nat) : Nat := if b ≤ a then a - b else b - a
theorem ab1 {a b : Nat} (ha : a < 2 ^ 30) (hb : b < 2 ^ 30) : (if 0 ≤ nI a - nI b then nI a - nI b else 0 - (nI a - nI b)) = nI (adif a b) := by
  have hs : (nI a - nI b).toInt = (a : Int) - b := by
    rw [Int32.toInt_sub, nI_toInt (by omega), nI_toInt (by omega), Int.bmod_eq_of_le (by omega) (by omega)]
  unfold adif
  by_cases h : b ≤ a
  · rw [if_pos h, if_pos (Int32.le_iff_toInt_le.mpr (by rw [hs, show (0 : Int32).toInt = 0 from rfl]; omega)), pk_sub h]
  · rw [if_neg h, if_neg (fun q => by
      have := Int32.le_iff_toInt_le.mp q
      rw [hs, show (0 : Int32).toInt = 0 from rfl] at this
      omega)]
    apply Int32.toInt_inj.mp
    rw [Int32.toInt_sub, hs, nI_toInt (by omega), show (0 : Int32).toInt = 0 from rfl, Int.bmod_eq_of_le (by omega) (by omega)]
    omega
theorem ab2 {a b : Nat} (ha : a < 2 ^ 30) (hb : b < 2 ^ 30) : (if nI a - nI b < 0 then -(nI a - nI b) else nI a - nI b) = nI (adif a b) := by
  rw [← ab1 ha hb]
  by_cases h : nI a - nI b < 0
  · rw [if_pos h, if_neg (Int32.not_le.mpr h)]
    rw [Int32.zero_sub]
  · rw [if_neg h, if_pos (Int32.not_lt.mp h)]
/-- the least of a row of differences, and where first -/
def tnG (D : Nat → Nat) : Nat → Nat → Nat → Nat → Nat × Nat
  | 0, _, b, p => (b, p)
  | k + 1, i, b, p => if D i < b then tnG D k (i + 1) (D i) i else tnG D k (i + 1) b p
theorem tnG_s (D : Nat → Nat) (k i b p : Nat) : tnG D (k + 1) i b p = if D i < b then tnG D k (i + 1) (D i) i else tnG D k (i + 1) b p := rfl
theorem up2 (v : am_V) (k a b : Nat) (x y x2 y2 : Int32) (h : a ≠ b) : am_up (am_up (am_up (am_up v k a x) k b y) k a x2) k b y2 = am_up (am_up v k a x2) k b y2 := by
  funext c e
  simp only [am_up_eq]
  by_cases h1 : c = k
  · subst h1
    by_cases h2 : e = b
    · simp [h2]
    · by_cases h3 : e = a
      · simp [h3, h]
      · simp [h2, h3]
  · simp [h1]
theorem up1 (v : am_V) (k a b : Nat) (x : Int32) (h : a ≠ b) : am_up v k a x = am_up (am_up v k a x) k b (v k b) := by
  funext c e
  simp only [am_up_eq]
  by_cases h1 : c = k
  · subst h1
    by_cases h2 : e = b
    · subst h2
      have : ¬ e = a := fun q => h q.symm
      simp [this]
    · simp [h2]
  · simp [h1]
section M31
variable {K : am_K} {I : am_I} {d : Nat} {v : am_V} {w : am_X} {Q : Option Value → am_H → Prop}
set_option maxRecDepth 100000 in
set_option maxHeartbeats 4000000 in
theorem m_X0_cut {N n : Nat} {t : Nat → Nat} (ht : ∀ j, t j < 256) (hv : ∀ j, j < n → v 2 j = nI (t j)) (hn : v 1 1 = nI n) (hn2 : n ≤ 260) (hN : N ≤ n) (hN2 : 2 ≤ N ∧ N ≤ 20) (h : ∀ b p : Nat, tnG (fun i => adif (tsum t i) (tsum t N - tsum t i)) (N - 1) 1 2147483647 0 = (b, p) → Q none (am_sh, am_up (am_up v 43 8 (nI b)) 43 9 (nI p), w)) : am_run K I am_m (d + 2) 13 [.ref 43, .int (nI N)] (am_sh, v, w) 0 0 Q := by
  refine en_X0_cut rfl ?_
  intro P hP
  have hS : ∀ i, tsum t i ≤ 255 * i := tsum_le ht
  -- the second loop
  have key2 : ∀ (k i b p : Nat) (y : Int32), i + k = N → 1 ≤ i → (2 ≤ i → y = nI p) → b ≤ 2147483647 → (i = 1 → b = 2147483647) → tnG (fun i => adif (tsum t i) (tsum t N - tsum t i)) k i b p = tnG (fun i => adif (tsum t i) (tsum t N - tsum t i)) (N - 1) 1 2147483647 0 → P (cd_X0_cut.drop 23, [some (.ref 43), some (.int (nI N)), some (.int (nI (tsum t N - tsum t (i - 1)))), some (.int (nI (tsum t (i - 1)))), some (.int (nI i))], [], (am_sh, am_up (am_up v 43 8 (nI b)) 43 9 y, w), 0, 0) := by
    intro k
    induction k with
    | zero =>
      intro i b p y hi h1 hy hb hb1 hg
      ((repeat' first | refine hP _ ?_ | fail); try dsimp only)
      refine ⟨fun _ => ?_, fun c => absurd (nI_le (show N ≤ i by omega) (by omega)) c⟩
      ((repeat' first | refine hP _ ?_ | fail); try dsimp only)
      rw [hy (by omega)]
      exact h b p hg.symm
    | succ k ih =>
      intro i b p y hi h1 hy hb hb1 hg
      have b1 := hS i
      have b2 := hS N
      have b3 : tsum t i ≤ tsum t N := by
        have := tsum_mono (t := t) (a := i) (N - i)
        rw [show i + (N - i) = N by omega] at this
        exact this
      have b4 : tsum t i = tsum t (i - 1) + t (i - 1) := by
        have : tsum t (i - 1 + 1) = tsum t (i - 1) + t (i - 1) := rfl
        rw [show i - 1 + 1 = i by omega] at this
        exact this
      have e1 : nI i - 1 = nI (i - 1) := pk_sub (a := i) (b := 1) h1
      have e2 : nI (tsum t (i - 1)) + nI (t (i - 1)) = nI (tsum t i) := by rw [nI_add, b4]
      have e3 : nI (tsum t N - tsum t (i - 1)) - nI (t (i - 1)) = nI (tsum t N - tsum t i) := by
        rw [pk_sub (by omega)]
        congr 1
        omega
      have r2 : ∀ j, j < n → am_up (am_up v 43 8 (nI b)) 43 9 y 2 j = nI (t j) := fun j hj => by
        simp [am_up_eq]
        exact hv j hj
      have r1 : am_up (am_up v 43 8 (nI b)) 43 9 y 1 1 = nI n := by
        simp [am_up_eq]
        exact hn
      ((repeat' first | refine hP _ ?_ | fail); try dsimp only)
      refine ⟨fun c => absurd c (nI_ge (by omega) (by omega)), fun _ => ?_⟩
      ((repeat' first | refine hP _ ?_ | fail); try dsimp only)
      rw [e1]
      refine m_byteAt (by omega) r1 hn2 ?_
      rw [r2 _ (by omega)]
      ((repeat' first | refine hP _ ?_ | fail); try dsimp only)
      rw [e1, e2]
      refine m_byteAt (by omega) r1 hn2 ?_
      rw [r2 _ (by omega)]
      ((repeat' first | refine hP _ ?_ | fail); try dsimp only)
      rw [e3, ab1 (by omega) (by omega)]
      have r8 : am_up (am_up v 43 8 (nI b)) 43 9 y 43 8 = nI b := by simp [am_up_eq]
      rw [r8]
      rw [tnG_s] at hg
      have e9 : ∀ q : Nat, nI (q + 1) = nI q + 1 := fun q => (nI_1 q).symm
      refine ⟨fun c => ?_, fun c => ?_⟩
      · rw [if_neg (by
          intro q
          have := nI_lt q (by omega)
          exact absurd c (Int32.not_le.mpr this))] at hg
        have hi2 : 2 ≤ i := by
          rcases Nat.lt_or_ge i 2 with q | q
          · exfalso
            rw [hb1 (by omega)] at c
            have : nI (adif (tsum t i) (tsum t N - tsum t i)) < nI 2147483647 := nI_lt (by unfold adif; split <;> omega) (by omega)
            exact absurd c (Int32.not_le.mpr this)
          · exact q
        have e := ih (i + 1) b p y (by omega) (by omega) (fun _ => hy hi2) hb (by omega) hg
        rw [e9, show i + 1 - 1 = i by omega] at e
        ((iterate 2 refine hP _ ?_); try dsimp only)
        exact e
      · have hlt : adif (tsum t i) (tsum t N - tsum t i) < b := by
          rcases Nat.lt_or_ge (adif (tsum t i) (tsum t N - tsum t i)) b with q | q
          · exact q
          · exact absurd (nI_le q (by unfold adif; split <;> omega)) c
        rw [if_pos hlt] at hg
        have e := ih (i + 1) (adif (tsum t i) (tsum t N - tsum t i)) i (nI i) (by omega) (by omega) (fun _ => rfl) (by unfold adif; split <;> omega) (by omega) hg
        rw [e9, show i + 1 - 1 = i by omega, ← up2 v 43 8 9 (nI b) y _ _ (by decide), ← ab1 (by omega) (by omega)] at e
        ((iterate 11 refine hP _ ?_); try dsimp only)
        exact e
  -- the first loop
  have key1 : ∀ (k i : Nat) (l4 : Option Value), i + k = N → P (cd_X0_cut.drop 4, [some (.ref 43), some (.int (nI N)), some (.int (nI (tsum t i))), some (.int (nI i)), l4], [], (am_sh, v, w), 0, 0) := by
    intro k
    induction k with
    | zero =>
      intro i l4 hi
      have hi : i = N := by omega
      subst hi
      ((repeat' first | refine hP _ ?_ | fail); try dsimp only)
      refine ⟨fun _ => ?_, fun c => absurd (nI_le (Nat.le_refl i) (by omega)) c⟩
      have e := key2 (i - 1) 1 2147483647 0 (v 43 9) (by omega) (by omega) (by omega) (by omega) (fun _ => rfl) rfl
      rw [← up1 v 43 8 9 _ (by decide)] at e
      ((iterate 7 refine hP _ ?_); try dsimp only)
      exact e
    | succ k ih =>
      intro i l4 hi
      ((repeat' first | refine hP _ ?_ | fail); try dsimp only)
      refine ⟨fun c => absurd c (nI_ge (by omega) (by omega)), fun _ => ?_⟩
      ((repeat' first | refine hP _ ?_ | fail); try dsimp only)
      refine m_byteAt (by omega) hn hn2 ?_
      rw [hv _ (by omega)]
      have e := ih (i + 1) l4 (by omega)
      rw [tsum, ← nI_add, ← nI_1] at e
      ((iterate 4 refine hP _ ?_); try dsimp only)
      exact e
  ((iterate 4 refine hP _ ?_); try dsimp only)
  exact key1 N 0 none (by omega)
end M31
theorem tnG_st (D : Nat → Nat) (k i a b p q : Nat) (ha : D i < a) (hb : D i < b) : tnG D (k + 1) i a p = tnG D (k + 1) i b q := by
  rw [tnG_s, tnG_s, if_pos ha, if_pos hb]
theorem tnG_congr {D E : Nat → Nat} : ∀ (k i b p : Nat), (∀ j, i ≤ j → j < i + k → D j = E j) → tnG D k i b p = tnG E k i b p
  | 0, _, _, _, _ => rfl
  | k + 1, i, b, p, h => by
    rw [tnG_s, tnG_s, h i (by omega) (by omega), tnG_congr k (i + 1) (E i) i (fun j h1 h2 => h j (by omega) (by omega)), tnG_congr k (i + 1) b p (fun j h1 h2 => h j (by omega) (by omega))]
section M31b
variable {K : am_K} {I : am_I} {d : Nat} {v : am_V} {w : am_X} {Q : Option Value → am_H → Prop} {P : am_C → Prop}
set_option maxRecDepth 100000 in
set_option maxHeartbeats 4000000 in
theorem lp_tent2 {N : Nat} {what : Int32} {t : Nat → Nat} (ht : ∀ j, t j < 256) (hv : ∀ j, v 66 j &&& 255 = nI (t j)) (hN : 2 ≤ N ∧ N ≤ 20) (hP : ∀ c, am_step K I (am_run K I am_m (d + 1)) cd_X12_tent 0 0 Q P c → P c) (h : ∀ b p : Nat, tnG (fun i => adif (tsum t N) (2 * tsum t i)) (N - 1) 1 1000000 0 = (b, p) → Q (some (.int (if what = 0 then nI p else nI b))) (am_sh, v, w)) : P (cd_X12_tent.drop 23, [some (.ref 62), some (.int (nI N)), some (.int what), some (.int 0), some (.int 0), none, none, none], [], (am_sh, v, w), 0, 0) := by
  have hS : ∀ i, tsum t i ≤ 255 * i := tsum_le ht
  have key2 : ∀ (k i b p : Nat), i + k = N → 1 ≤ i → b ≤ 1000000 → tnG (fun i => adif (tsum t N) (2 * tsum t i)) k i b p = tnG (fun i => adif (tsum t N) (2 * tsum t i)) (N - 1) 1 1000000 0 → P (cd_X12_tent.drop 42, [some (.ref 62), some (.int (nI N)), some (.int what), some (.int (nI (tsum t N))), some (.int (nI p)), some (.int (nI b)), some (.int (nI (tsum t (i - 1)))), some (.int (nI i))], [], (am_sh, v, w), 0, 0) := by
    intro k
    induction k with
    | zero =>
      intro i b p hi h1 hb hg
      ((repeat' first | refine hP _ ?_ | fail); try dsimp only)
      refine ⟨fun _ => ?_, fun c => absurd (nI_le (show N ≤ i by omega) (by omega)) c⟩
      have hh := h b p hg.symm
      ((repeat' first | refine hP _ ?_ | fail); try dsimp only)
      refine ⟨fun c => ?_, fun c => ?_⟩
      · ((repeat' first | refine hP _ ?_ | fail); try dsimp only)
        rw [if_neg c] at hh
        exact hh
      · ((repeat' first | refine hP _ ?_ | fail); try dsimp only)
        rw [if_pos c] at hh
        exact hh
    | succ k ih =>
      intro i b p hi h1 hb hg
      have b1 := hS i
      have b2 := hS N
      have b4 : tsum t i = tsum t (i - 1) + t (i - 1) := by
        have : tsum t (i - 1 + 1) = tsum t (i - 1) + t (i - 1) := rfl
        rw [show i - 1 + 1 = i by omega] at this
        exact this
      have e1 : nI i - 1 = nI (i - 1) := pk_sub (a := i) (b := 1) h1
      have e2 : nI (tsum t (i - 1)) + nI (t (i - 1)) = nI (tsum t i) := by rw [nI_add, b4]
      have e3 : 2 * nI (tsum t i) = nI (2 * tsum t i) := pk_mul 2 _
      have e9 : ∀ q : Nat, nI (q + 1) = nI q + 1 := fun q => (nI_1 q).symm
      ((repeat' first | refine hP _ ?_ | fail); try dsimp only)
      refine ⟨fun c => absurd c (nI_ge (by omega) (by omega)), fun _ => ?_⟩
      ((repeat' first | refine hP _ ?_ | fail); try dsimp only)
      rw [e1]
      refine m_X12_octet (by omega) ?_
      rw [hv]
      ((repeat' first | refine hP _ ?_ | fail); try dsimp only)
      rw [e2, e3]
      refine m_X12_size ?_
      rw [ab2 (by omega) (by omega)]
      ((repeat' first | refine hP _ ?_ | fail); try dsimp only)
      rw [tnG_s] at hg
      refine ⟨fun c => ?_, fun c => ?_⟩
      · rw [if_pos ((nI_ltI (by unfold adif; split <;> omega) (by omega)).mp c)] at hg
        have e := ih (i + 1) _ i (by omega) (by omega) (by unfold adif; split <;> omega) hg
        rw [e9, show i + 1 - 1 = i by omega] at e
        ((repeat' first | refine hP _ ?_ | fail); try dsimp only)
        rw [e3]
        refine m_X12_size ?_
        rw [ab2 (by omega) (by omega)]
        ((iterate 5 refine hP _ ?_); try dsimp only)
        exact e
      · rw [if_neg (fun q => c (nI_lt q (by omega)))] at hg
        have e := ih (i + 1) b p (by omega) (by omega) hb hg
        rw [e9, show i + 1 - 1 = i by omega] at e
        ((iterate 3 refine hP _ ?_); try dsimp only)
        exact e
  have key1 : ∀ (k i : Nat), i + k = N → P (cd_X12_tent.drop 23, [some (.ref 62), some (.int (nI N)), some (.int what), some (.int (nI (tsum t i))), some (.int (nI i)), none, none, none], [], (am_sh, v, w), 0, 0) := by
    intro k
    induction k with
    | zero =>
      intro i hi
      have hi : i = N := by omega
      subst hi
      ((repeat' first | refine hP _ ?_ | fail); try dsimp only)
      refine ⟨fun _ => ?_, fun c => absurd (nI_le (Nat.le_refl i) (by omega)) c⟩
      have e := key2 (i - 1) 1 1000000 0 (by omega) (by omega) (by omega) rfl
      ((iterate 8 refine hP _ ?_); try dsimp only)
      exact e
    | succ k ih =>
      intro i hi
      ((repeat' first | refine hP _ ?_ | fail); try dsimp only)
      refine ⟨fun c => absurd c (nI_ge (by omega) (by omega)), fun _ => ?_⟩
      ((repeat' first | refine hP _ ?_ | fail); try dsimp only)
      refine m_X12_octet (by omega) ?_
      rw [hv]
      have e := ih (i + 1) (by omega)
      rw [tsum, ← nI_add, ← nI_1] at e
      ((iterate 4 refine hP _ ?_); try dsimp only)
      exact e
  exact key1 N 0 (by omega)
end M31b
end
section
/-! ===== pair: tent ===== -/
set_option maxRecDepth 100000 in
set_option maxHeartbeats 4000000 in
theorem pr_tent {L : Nat} {xs : Nat → Int32} (a b : Int32) : am_pair L xs 125 227 [.int a, .int b] := by
  intro d v w Q hI h
  obtain ⟨n, hn, hn1, hn2, hby⟩ := hI.2.2.2.1
  refine en_X11_tent rfl ?_
  intro P hP
  ((repeat' first | refine hP _ ?_ | fail); try dsimp only)
  refine m_X11_outside (fun c => ?_) (fun c1 c2 => ?_)
  · ((repeat' first | refine hP _ ?_ | refine ⟨fun c1 => absurd c1 (by decide), fun _ => ?_⟩ | refine ⟨fun _ => ?_, fun c1 => absurd c1 (by decide)⟩ | refine ⟨am_vin rfl, ?_⟩ | refine ⟨fun c1 => ?_, fun c1 => ?_⟩ | refine ⟨Or.inr rfl, ?_⟩ | refine ⟨Or.inl rfl, ?_⟩ | fail); all_goals (try dsimp only at *))
    refine h (-1) v w (fun Q2 h2 => ?_)
    refine en_X12_tent rfl ?_
    intro P2 hP2
    ((repeat' first | refine hP2 _ ?_ | fail); try dsimp only)
    refine m_X12_in0 c ?_
    ((repeat' first | refine hP2 _ ?_ | refine ⟨fun c1 => absurd c1 (by decide), fun _ => ?_⟩ | refine ⟨fun _ => ?_, fun c1 => absurd c1 (by decide)⟩ | refine ⟨am_vin rfl, ?_⟩ | refine ⟨fun c1 => ?_, fun c1 => ?_⟩ | refine ⟨Or.inr rfl, ?_⟩ | refine ⟨Or.inl rfl, ?_⟩ | fail); all_goals (try dsimp only at *))
    exact h2 v w hI
  · ((repeat' first | refine hP _ ?_ | fail); try dsimp only)
    refine ⟨fun e => absurd rfl e, fun _ => ?_⟩
    ((repeat' first | refine hP _ ?_ | fail); try dsimp only)
    refine m_X11_outside (fun e => ?_) (fun e1 e2 => ?_)
    · ((repeat' first | refine hP _ ?_ | refine ⟨fun c1 => absurd c1 (by decide), fun _ => ?_⟩ | refine ⟨fun _ => ?_, fun c1 => absurd c1 (by decide)⟩ | refine ⟨am_vin rfl, ?_⟩ | refine ⟨fun c1 => ?_, fun c1 => ?_⟩ | refine ⟨Or.inr rfl, ?_⟩ | refine ⟨Or.inl rfl, ?_⟩ | fail); all_goals (try dsimp only at *))
      refine h (-1) v w (fun Q2 h2 => ?_)
      refine en_X12_tent rfl ?_
      intro P2 hP2
      ((repeat' first | refine hP2 _ ?_ | fail); try dsimp only)
      refine m_X12_in1 c1 c2 ?_
      ((repeat' first | refine hP2 _ ?_ | fail); try dsimp only)
      refine ⟨fun e => absurd e (by decide), fun _ => ?_⟩
      ((repeat' first | refine hP2 _ ?_ | fail); try dsimp only)
      refine m_X12_in0 e ?_
      ((repeat' first | refine hP2 _ ?_ | refine ⟨fun c1 => absurd c1 (by decide), fun _ => ?_⟩ | refine ⟨fun _ => ?_, fun c1 => absurd c1 (by decide)⟩ | refine ⟨am_vin rfl, ?_⟩ | refine ⟨fun c1 => ?_, fun c1 => ?_⟩ | refine ⟨Or.inr rfl, ?_⟩ | refine ⟨Or.inl rfl, ?_⟩ | fail); all_goals (try dsimp only at *))
      exact h2 v w hI
    · have hb := am_01 e1 e2
      obtain ⟨N, hN, rfl⟩ := am_nat (Int32.le_trans (by decide) c1) c2 (n := 20) rfl
      have hN1 : 2 ≤ N := (nI_leI (a := 2) (by omega) (by omega)).mp c1
      ((repeat' first | refine hP _ ?_ | fail); try dsimp only)
      refine ⟨fun e => absurd rfl e, fun _ => ?_⟩
      ((repeat' first | refine hP _ ?_ | fail); try dsimp only)
      have hr0 : ∀ {Q2 : Option Value → am_H → Prop} {v1 : am_V} {P2 : am_C → Prop}, (∀ q, am_step (am_kc L xs) am_idx (am_run (am_kc L xs) am_idx am_m (d + 29)) cd_X12_tent 0 0 Q2 P2 q → P2 q) → v1 62 6 = nI n → (nI (N) ≤ nI n → P2 (cd_X12_tent.drop 16, am_ent 8 [Value.ref 62, Value.int (nI N), Value.int b], [], (am_sh, v1, w), 0, 0)) → (¬ nI (N) ≤ nI n → Q2 (some (.int (-1))) (am_sh, v1, w)) → P2 (cd_X12_tent, am_ent 8 [Value.ref 62, Value.int (nI N), Value.int b], [], (am_sh, v1, w), 0, 0) := by
        intro Q2 v1 P2 hP2 g6 k1 k2
        ((repeat' first | refine hP2 _ ?_ | fail); try dsimp only)
        refine m_X12_in1 c1 c2 ?_
        ((repeat' first | refine hP2 _ ?_ | fail); try dsimp only)
        refine ⟨fun e => absurd e (by decide), fun _ => ?_⟩
        ((repeat' first | refine hP2 _ ?_ | fail); try dsimp only)
        refine m_X12_in1 e1 e2 ?_
        ((repeat' first | refine hP2 _ ?_ | fail); try dsimp only)
        refine ⟨fun e => absurd e (by decide), fun _ => ?_⟩
        ((repeat' first | refine hP2 _ ?_ | fail); try dsimp only)
        rw [g6]
        refine ⟨fun q => k1 q, fun q => ?_⟩
        ((repeat' first | refine hP2 _ ?_ | fail); try dsimp only)
        exact k2 q
      refine m_X8_has (fun q => ?_) (fun q => ?_)
      · rw [hn1] at q
        have hle : N ≤ n := (nI_leI (by omega) (by omega)).mp q
        ((repeat' first | refine hP _ ?_ | fail); try dsimp only)
        refine ⟨fun _ => ?_, fun e => absurd e (by decide)⟩
        ((repeat' first | refine hP _ ?_ | fail); try dsimp only)
        refine m_X0_cut (t := tpN v) (tpN_lt v) (fun j hj => (hby j hj).trans (tpN_eq v j)) hn1 hn hle ⟨hN1, hN⟩ (fun bb pp hg => ?_)
        ((repeat' first | refine hP _ ?_ | fail); try dsimp only)
        refine m_X8_clear ?_
        have hg2 : tnG (fun i => adif (tsum (tpN v) N) (2 * tsum (tpN v) i)) (N - 1) 1 1000000 0 = (bb, pp) := by
          have b2 := tsum_le (tpN_lt v) N
          have hm : ∀ i, i ≤ N → tsum (tpN v) i ≤ tsum (tpN v) N := fun i hi => by
            have := tsum_mono (t := tpN v) (a := i) (N - i)
            rw [show i + (N - i) = N by omega] at this
            exact this
          rw [← hg]
          rw [show N - 1 = (N - 2) + 1 by omega]
          rw [tnG_st (fun i => adif (tsum (tpN v) N) (2 * tsum (tpN v) i)) (N - 2) 1 1000000 2147483647 0 0 (by have := hm 1 (by omega); unfold adif; split <;> omega) (by have := hm 1 (by omega); unfold adif; split <;> omega)]
          apply tnG_congr
          intro j h1 h2
          have := hm j (by omega)
        
          unfold adif
          split <;> split <;> omega
        have fin : Q (some (.int (if b = 0 then nI pp else nI bb))) (am_sh, am_up (am_up (am_up v 43 8 (nI bb)) 43 9 (nI pp)) 1 1 0, w) := by
          refine h _ _ w (fun Q2 h2 => ?_)
          refine en_X12_tent rfl ?_
          intro P2 hP2
          refine hr0 hP2 (by simp [am_up_eq]; exact hn2) (fun _ => ?_) (fun z => absurd q z)
          ((iterate 7 refine hP2 _ ?_); try dsimp only)
          refine lp_tent2 (t := tpN v) (tpN_lt v) (fun j => by rw [← tpN_eq]; simp [am_up_eq]) ⟨hN1, hN⟩ hP2 (fun b2 p2 hh => ?_)
          rw [hg2] at hh
          cases hh
          refine h2 _ w (hI.clr (fun k hk => ?_) (fun j hj => ?_) ?_ ?_)
          · have : k ≠ 62 ∧ k ≠ 1 ∧ k ≠ 43 := by
              refine ⟨?_, ?_, ?_⟩ <;> (intro z; rw [z] at hk; revert hk; decide)
            rw [am_up_ne _ _ _ this.1, am_up_ne _ _ _ this.2.1, am_up_ne _ _ _ this.2.2, am_up_ne _ _ _ this.2.2]
          · have : j ≠ 6 := by
              intro z; rw [z] at hj; revert hj; decide
            simp [am_up_eq, this]
          · simp [am_up_eq]
          · simp [am_up_eq]
        rcases hb with rfl | rfl
        · ((repeat' first | refine hP _ ?_ | refine ⟨fun c1 => absurd c1 (by decide), fun _ => ?_⟩ | refine ⟨fun _ => ?_, fun c1 => absurd c1 (by decide)⟩ | refine ⟨am_vin rfl, ?_⟩ | refine ⟨fun c1 => ?_, fun c1 => ?_⟩ | refine ⟨Or.inr rfl, ?_⟩ | refine ⟨Or.inl rfl, ?_⟩ | fail); all_goals (try dsimp only at *))
          refine am_qr ?_ rfl fin
          rw [if_pos rfl]
          simp [am_up_eq]
        · ((repeat' first | refine hP _ ?_ | refine ⟨fun c1 => absurd c1 (by decide), fun _ => ?_⟩ | refine ⟨fun _ => ?_, fun c1 => absurd c1 (by decide)⟩ | refine ⟨am_vin rfl, ?_⟩ | refine ⟨fun c1 => ?_, fun c1 => ?_⟩ | refine ⟨Or.inr rfl, ?_⟩ | refine ⟨Or.inl rfl, ?_⟩ | fail); all_goals (try dsimp only at *))
          refine am_qr ?_ rfl fin
          rw [if_neg (by decide)]
          simp [am_up_eq]
      · rw [hn1] at q
        ((repeat' first | refine hP _ ?_ | refine ⟨fun c1 => absurd c1 (by decide), fun _ => ?_⟩ | refine ⟨fun _ => ?_, fun c1 => absurd c1 (by decide)⟩ | refine ⟨am_vin rfl, ?_⟩ | refine ⟨fun c1 => ?_, fun c1 => ?_⟩ | refine ⟨Or.inr rfl, ?_⟩ | refine ⟨Or.inl rfl, ?_⟩ | fail); all_goals (try dsimp only at *))
        refine h (-1) v w (fun Q2 h2 => ?_)
        refine en_X12_tent rfl ?_
        intro P2 hP2
        exact hr0 hP2 hn2 (fun z => absurd z (Int32.not_le.mpr q)) (fun _ => h2 v w hI)
end
section
/-! ===== pair: stairs ===== -/
def stF (k : Nat) : Nat → Nat → Int64
  | 0, a => if a = 0 then 1 else 0
  | s + 1, a => (if 1 ≤ a then stF k s (a - 1) else 0) + (if 2 ≤ a then stF k s (a - 2) else 0) + (if k ≤ a then stF k s (a - k) else 0)
def stS (F : Nat → Nat → Int64) (n : Nat) : Nat → Int64
  | 0 => 0
  | s + 1 => stS F n s + F (s + 1) n
def stR (F : Nat → Nat → Int64) (n T : Nat) : Nat → Int64
  | 0 => 0
  | m + 1 => if T = 0 ∨ T = m then stR F n T m + F m n else stR F n T m
theorem stR_0 {F : Nat → Nat → Int64} {n : Nat} (h : F 0 n = 0) : ∀ m, stR F n 0 (m + 1) = stS F n m
  | 0 => by simp [stR, stS, h]
  | m + 1 => by
    rw [stR, stR_0 h m]
    simp [stS]
theorem stR_T {F : Nat → Nat → Int64} {n T : Nat} (hT : 1 ≤ T) : ∀ m, stR F n T m = if T < m then F T n else 0
  | 0 => by simp [stR]
  | m + 1 => by
    rw [stR, stR_T hT m]
    by_cases h : T = m
    · subst h
      have : ¬ T = 0 := by omega
      simp
    · have h1 : ¬ (T = 0 ∨ T = m) := by omega
      rw [if_neg h1]
      by_cases h2 : T < m
      · rw [if_pos h2, if_pos (by omega)]
      · rw [if_neg h2, if_neg (by omega)]
section M33
variable {K : am_K} {I : am_I} {d : Nat} {v : am_V} {w : am_X} {Q : Option Value → am_H → Prop}
set_option maxRecDepth 100000 in
set_option maxHeartbeats 4000000 in
theorem m_fillL {x : Int64} (h : ∀ w' : am_X, (∀ j, j < 41 → w' 61 j = x) → Q none (am_sh, v, w')) : am_run K I am_m (d + 1) 236 [.ref 61, .long x] (am_sh, v, w) 0 0 Q := by
  refine en_J7_fill_d0a16 rfl ?_
  intro P hP
  have key : ∀ (k i : Nat) (u : am_X), i + k = 41 → (∀ j, j < i → u 61 j = x) → P (cd_J7_fill_d0a16.drop 5, [some (.ref 61), some (.long x), none, some (.int (nI i)), some (.int (nI 41))], [], (am_sh, v, u), 0, 0) := by
    intro k
    induction k with
    | zero =>
      intro i u hi hu
      ((repeat' first | refine hP _ ?_ | fail); try dsimp only)
      refine ⟨fun _ => ?_, fun c => absurd (nI_le (show 41 ≤ i by omega) (by omega)) c⟩
      ((repeat' first | refine hP _ ?_ | fail); try dsimp only)
      exact h u (fun j hj => hu j (by omega))
    | succ k ih =>
      intro i u hi hu
      ((repeat' first | refine hP _ ?_ | fail); try dsimp only)
      refine ⟨fun c => absurd c (nI_ge (by omega) (by omega)), fun _ => ?_⟩
      ((repeat' first | refine hP _ ?_ | fail); try dsimp only)
      refine ⟨vp_in_nI (by omega) (by omega), ?_⟩
      dsimp only
      rw [nI_clamp (by omega)]
      have e := ih (i + 1) (am_upX u 61 i x) (by omega) (fun j hj => by
        rw [am_upX_eq]
        by_cases q : j = i
        · simp [q]
        · simp [q]
          exact hu j (by omega))
      rw [← nI_1] at e
      ((iterate 2 refine hP _ ?_); try dsimp only)
      exact e
  ((iterate 5 refine hP _ ?_); try dsimp only)
  exact key 41 0 w rfl (fun j hj => absurd hj (by omega))
set_option maxRecDepth 100000 in
set_option maxHeartbeats 4000000 in
theorem m_ways {a b : Nat} (ha : a ≤ 40) (hb : b ≤ 40) (h : Q (some (.long (if b ≤ a then w 61 (a - b) else 0))) (am_sh, v, w)) : am_run K I am_m (d + 1) 15 [.ref 43, .int (nI a - nI b)] (am_sh, v, w) 0 0 Q := by
  refine en_X0_waysTo rfl ?_
  intro P hP
  by_cases hab : b ≤ a
  · rw [if_pos hab] at h
    rw [pk_sub hab]
    ((repeat' first | refine hP _ ?_ | fail); try dsimp only)
    refine ⟨fun c => absurd c (Int32.not_lt.mpr (nI_pos' (by omega))), fun _ => ?_⟩
    ((repeat' first | refine hP _ ?_ | fail); try dsimp only)
    refine ⟨fun c => absurd c (nI_nlt (a := 40) (by omega) (by omega)), fun _ => ?_⟩
    ((repeat' first | refine hP _ ?_ | fail); try dsimp only)
    refine ⟨vp_in_nI (by omega) (by omega), ?_⟩
    ((repeat' first | refine hP _ ?_ | fail); try dsimp only)
    rw [nI_clamp (by omega)]
    exact h
  · rw [if_neg hab] at h
    ((repeat' first | refine hP _ ?_ | fail); try dsimp only)
    refine ⟨fun _ => ?_, fun c => absurd (Int32.lt_iff_toInt_lt.mpr (by
      rw [Int32.toInt_sub, nI_toInt (by omega), nI_toInt (by omega), show (0 : Int32).toInt = 0 from rfl, Int.bmod_eq_of_le (by omega) (by omega)]
      omega)) c⟩
    ((repeat' first | refine hP _ ?_ | fail); try dsimp only)
    exact h
set_option maxRecDepth 100000 in
set_option maxHeartbeats 4000000 in
theorem m_X0_climb {n k T : Nat} (hn : n ≤ 40) (hk : 3 ≤ k ∧ k ≤ 5) (hT : T ≤ 40) (h : ∀ w' : am_X, Q (some (.long (if T = 0 then stS (stF k) n 40 else stF k T n))) (am_sh, v, w')) : am_run K I am_m (d + 2) 14 [.ref 43, .int (nI n), .int (nI k), .int (nI T)] (am_sh, v, w) 0 0 Q := by
  refine en_X0_climb rfl ?_
  intro P hP
  have inner : ∀ (m s : Nat) (u : am_X) (x : Int32) (sm : Int64), m ≤ 41 → x = nI m + -1 → (∀ j, j ≤ 40 → u 61 j = if m ≤ j then stF k (s + 1) j else stF k s j) → (∀ (u' : am_X) (l7 : Option Value), (∀ j, j ≤ 40 → u' 61 j = stF k (s + 1) j) → P (cd_X0_climb.drop 43, [some (.ref 43), some (.int (nI n)), some (.int (nI k)), some (.int (nI T)), some (.long sm), none, some (.int (nI (s + 1))), l7], [], (am_sh, v, u'), 0, 0)) → P (cd_X0_climb.drop 18, [some (.ref 43), some (.int (nI n)), some (.int (nI k)), some (.int (nI T)), some (.long sm), none, some (.int (nI (s + 1))), some (.int x)], [], (am_sh, v, u), 0, 0) := by
    intro m
    induction m with
    | zero =>
      intro s u x sm hm hx hu kk
      subst hx
      ((repeat' first | refine hP _ ?_ | fail); try dsimp only)
      refine ⟨fun _ => ?_, fun c => absurd (by decide) c⟩
      exact kk u _ (fun j hj => by rw [hu j hj, if_pos (Nat.zero_le _)])
    | succ m ih =>
      intro s u x sm hm hx hu kk
      have hx2 : x = nI m := by rw [hx, ← nI_1, Int32.add_assoc, show (1 + -1 : Int32) = 0 from rfl, Int32.add_zero]
      subst hx2
      have e1 : nI m - 1 = nI m - nI 1 := rfl
      have e2 : nI m - 2 = nI m - nI 2 := rfl
      ((repeat' first | refine hP _ ?_ | fail); try dsimp only)
      refine ⟨fun c => absurd c (Int32.not_lt.mpr (nI_pos' (by omega))), fun _ => ?_⟩
      ((repeat' first | refine hP _ ?_ | fail); try dsimp only)
      rw [e1]
      refine m_ways (by omega) (by omega) ?_
      ((repeat' first | refine hP _ ?_ | fail); try dsimp only)
      rw [e2]
      refine m_ways (by omega) (by omega) ?_
      ((repeat' first | refine hP _ ?_ | fail); try dsimp only)
      refine m_ways (by omega) (by omega) ?_
      ((repeat' first | refine hP _ ?_ | fail); try dsimp only)
      refine ⟨vp_in_nI (by omega) (by omega), ?_⟩
      dsimp only
      rw [nI_clamp (by omega)]
      have hval : (if 1 ≤ m then u 61 (m - 1) else 0) + (if 2 ≤ m then u 61 (m - 2) else 0) + (if k ≤ m then u 61 (m - k) else 0) = stF k (s + 1) m := by
        have g : ∀ b, 1 ≤ b → (if b ≤ m then u 61 (m - b) else 0) = (if b ≤ m then stF k s (m - b) else 0) := by
          intro b hb
          by_cases q : b ≤ m
          · rw [if_pos q, if_pos q, hu _ (by omega), if_neg (by omega)]
          · rw [if_neg q, if_neg q]
        rw [g 1 (by omega), g 2 (by omega), g k (by omega), stF]
      rw [hval]
      have e := ih s (am_upX u 61 m (stF k (s + 1) m)) (nI m + -1) sm (by omega) rfl (fun j hj => by
        rw [am_upX_eq]
        by_cases q : j = m
        · subst q
          simp
        · have hh := hu j hj
          by_cases q2 : m + 1 ≤ j
          · rw [if_pos q2] at hh
            rw [if_pos (show m ≤ j by omega)]
            simp [q, hh]
          · rw [if_neg q2] at hh
            rw [if_neg (show ¬ m ≤ j by omega)]
            simp [q, hh]) kk
      ((iterate 2 refine hP _ ?_); try dsimp only)
      exact e
  have en : nI n = nI n - nI 0 := by rw [pk_sub (Nat.zero_le _)]; rfl
  have outer : ∀ (r s : Nat) (u : am_X) (l7 : Option Value), s + r = 40 → (T = 0 ∨ s < T) → (∀ j, j ≤ 40 → u 61 j = stF k s j) → P (cd_X0_climb.drop 13, [some (.ref 43), some (.int (nI n)), some (.int (nI k)), some (.int (nI T)), some (.long (stS (stF k) n s)), none, some (.int (nI (s + 1))), l7], [], (am_sh, v, u), 0, 0) := by
    intro r
    induction r with
    | zero =>
      intro s u l7 hs hT2 hu
      ((repeat' first | refine hP _ ?_ | fail); try dsimp only)
      refine ⟨fun _ => ?_, fun c => absurd (nI_lt (a := 40) (show 40 < s + 1 by omega) (by omega)) c⟩
      ((repeat' first | refine hP _ ?_ | fail); try dsimp only)
      have hh := h u
      rw [if_pos (by omega)] at hh
      rw [show s = 40 by omega]
      exact hh
    | succ r ih =>
      intro s u l7 hs hT2 hu
      ((repeat' first | refine hP _ ?_ | fail); try dsimp only)
      refine ⟨fun c => absurd c (nI_nlt (b := s + 1) (a := 40) (by omega) (by omega)), fun _ => ?_⟩
      ((iterate 2 refine hP _ ?_); try dsimp only)
      refine inner 41 s u 40 (stS (stF k) n s) (by omega) rfl (fun j hj => by rw [if_neg (by omega)]; exact hu j hj) (fun u' l72 hu' => ?_)
      ((repeat' first | refine hP _ ?_ | fail); try dsimp only)
      refine ⟨fun c => ?_, fun c => ?_⟩
      · ((repeat' first | refine hP _ ?_ | fail); try dsimp only)
        rw [en]
        refine m_ways hn (by omega) ?_
        rw [if_pos (Nat.zero_le _), Nat.sub_zero, hu' n hn, ← en]
        have e := ih (s + 1) u' l72 (by omega) (by
          rcases hT2 with q | q
          · exact Or.inl q
          · refine Or.inr ?_
            rcases Nat.lt_or_ge (s + 1) T with z | z
            · exact z
            · exact absurd (by rw [show s + 1 = T by omega]) c) hu'
        rw [stS, ← nI_1 (s + 1)] at e
        ((iterate 4 refine hP _ ?_); try dsimp only)
        exact e
      · have hTs : s + 1 = T := (nI_eq (by omega) (by omega)).mp c
        ((repeat' first | refine hP _ ?_ | fail); try dsimp only)
        rw [en]
        refine m_ways hn (by omega) ?_
        rw [if_pos (Nat.zero_le _), Nat.sub_zero, hu' n hn]
        have hh := h u'
        rw [if_neg (by omega), ← hTs] at hh
        ((repeat' first | refine hP _ ?_ | fail); try dsimp only)
        exact hh
  ((repeat' first | refine hP _ ?_ | fail); try dsimp only)
  refine m_fillL (fun w' hw' => ?_)
  ((repeat' first | refine hP _ ?_ | fail); try dsimp only)
  refine ⟨am_vin rfl, ?_⟩
  have e := outer 40 0 (am_upX w' 61 0 1) none rfl (by omega) (fun j hj => by
    rw [am_upX_eq, stF]
    by_cases q : j = 0
    · simp [q]
    · simp [q]
      exact hw' j (by omega))
  ((iterate 4 refine hP _ ?_); try dsimp only)
  exact e
end M33
section M33b
variable {K : am_K} {I : am_I} {Tc : am_T} {v : am_V} {w : am_X} {Q : Option Value → am_H → Prop} {P : am_C → Prop}
set_option maxRecDepth 100000 in
set_option maxHeartbeats 4000000 in
theorem lp_stairs2 {n k T : Nat} (hn : 1 ≤ n ∧ n ≤ 40) (hk : 3 ≤ k ∧ k ≤ 5) (hT : T ≤ 40) (hP : ∀ c, am_step K I Tc cd_X12_stairs 0 0 Q P c → P c) (h : ∀ w' : am_X, Q (some (.long (stR (stF k) n T 41))) (am_sh, v, w')) : P (cd_X12_stairs.drop 21, [some (.ref 62), some (.int (nI n)), some (.int (nI k)), some (.int (nI T)), some (.long 0), none, some (.int 0), none, none, none], [], (am_sh, v, w), 0, 0) := by
  have i41 : ∀ s : Nat, 41 * nI s = nI (41 * s) := fun s => pk_mul 41 s
  -- one place of a row: what is laid there
  have one : ∀ (s a : Nat) (u : am_X) (sm : Int64) (l8 l9 : Option Value), s ≤ 40 → a ≤ n → (∀ s' a', s' < s → a' ≤ n → u 104 (41 * s' + a') = stF k s' a') → P (cd_X12_stairs.drop 26, [some (.ref 62), some (.int (nI n)), some (.int (nI k)), some (.int (nI T)), some (.long sm), none, some (.int (nI s)), some (.int (nI a + 1)), some (.long (stF k s a)), none], [], (am_sh, v, am_upX u 104 (41 * s + a) (stF k s a)), 0, 0) → P (cd_X12_stairs.drop 29, [some (.ref 62), some (.int (nI n)), some (.int (nI k)), some (.int (nI T)), some (.long sm), none, some (.int (nI s)), some (.int (nI a)), l8, l9], [], (am_sh, v, u), 0, 0) := by
    intro s a u sm l8 l9 hs ha hu kk
    -- the end: the store
    have fin : ∀ x : Int64, x = stF k s a → P (cd_X12_stairs.drop 97, [some (.ref 62), some (.int (nI n)), some (.int (nI k)), some (.int (nI T)), some (.long sm), none, some (.int (nI s)), some (.int (nI a)), some (.long x), none], [], (am_sh, v, u), 0, 0) := by
      intro x hx
      subst hx
      ((repeat' first | refine hP _ ?_ | fail); try dsimp only)
      rw [i41, nI_add]
      refine ⟨vp_in_nI (by omega) (by omega), ?_⟩
      dsimp only
      rw [nI_clamp (by omega)]
      ((iterate 2 refine hP _ ?_); try dsimp only)
      exact kk
    cases s with
    | zero =>
      ((repeat' first | refine hP _ ?_ | fail); try dsimp only)
      refine ⟨fun c => absurd rfl c, fun _ => ?_⟩
      ((repeat' first | refine hP _ ?_ | fail); try dsimp only)
      refine ⟨fun c => ?_, fun c => ?_⟩
      · ((repeat' first | refine hP _ ?_ | fail); try dsimp only)
        refine ⟨fun _ => ?_, fun c => absurd (by decide) c⟩
        ((repeat' first | refine hP _ ?_ | fail); try dsimp only)
        refine ⟨fun _ => ?_, fun c => absurd (by decide) c⟩
        ((repeat' first | refine hP _ ?_ | fail); try dsimp only)
        refine ⟨fun _ => ?_, fun c => absurd (by decide) c⟩
        refine fin _ ?_
        rw [stF, if_neg (fun q => c (by rw [q]; rfl))]
        rfl
      · have ha0 : a = 0 := (nI_eq (b := 0) (by omega) (by omega)).mp c
        ((repeat' first | refine hP _ ?_ | fail); try dsimp only)
        refine ⟨fun _ => ?_, fun c => absurd (by decide) c⟩
        ((repeat' first | refine hP _ ?_ | fail); try dsimp only)
        refine ⟨fun _ => ?_, fun c => absurd (by decide) c⟩
        ((repeat' first | refine hP _ ?_ | fail); try dsimp only)
        refine ⟨fun _ => ?_, fun c => absurd (by decide) c⟩
        refine fin _ ?_
        rw [stF, if_pos ha0]
        rfl
    | succ s =>
      have es : nI (s + 1) - 1 = nI s := pk_sub (a := s + 1) (b := 1) (by omega)
      have pos : ¬ nI (s + 1) ≤ 0 := nI_nle (by omega) (by omega)
      have ix : ∀ b : Nat, b ≤ a → nI (41 * s) + nI a - nI b = nI (41 * s + (a - b)) := fun b hb => by
        rw [nI_add, pk_sub (by omega)]
        congr 1
        omega
      have rd : ∀ b : Nat, 1 ≤ b → b ≤ a → u 104 (41 * s + (a - b)) = stF k s (a - b) := fun b h1 h2 => hu s (a - b) (by omega) (by omega)
      -- third
      have third : ∀ x : Int64, x = (if 1 ≤ a then stF k s (a - 1) else 0) + (if 2 ≤ a then stF k s (a - 2) else 0) → P (cd_X12_stairs.drop 77, [some (.ref 62), some (.int (nI n)), some (.int (nI k)), some (.int (nI T)), some (.long sm), none, some (.int (nI (s + 1))), some (.int (nI a)), some (.long x), none], [], (am_sh, v, u), 0, 0) := by
        intro x hx
        ((repeat' first | refine hP _ ?_ | fail); try dsimp only)
        refine ⟨fun c => absurd c pos, fun _ => ?_⟩
        ((repeat' first | refine hP _ ?_ | fail); try dsimp only)
        refine ⟨fun c => ?_, fun c => ?_⟩
        · refine fin x ?_
          rw [hx, stF, if_neg (show ¬ k ≤ a from fun q => absurd ((nI_ltI (by omega) (by omega)).mp c) (by omega)), Int64.add_zero]
        · have hka : k ≤ a := by
            rcases Nat.lt_or_ge a k with q | q
            · exact absurd (nI_lt q (by omega)) c
            · exact q
          ((repeat' first | refine hP _ ?_ | fail); try dsimp only)
          rw [es, i41, ix k hka]
          refine ⟨vp_in_nI (by omega) (by omega), ?_⟩
          dsimp only
          rw [nI_clamp (by omega), rd k (by omega) hka]
          ((iterate 2 refine hP _ ?_); try dsimp only)
          refine fin _ ?_
          rw [hx, stF, if_pos hka]
      -- second
      have second : ∀ x : Int64, x = (if 1 ≤ a then stF k s (a - 1) else 0) → P (cd_X12_stairs.drop 57, [some (.ref 62), some (.int (nI n)), some (.int (nI k)), some (.int (nI T)), some (.long sm), none, some (.int (nI (s + 1))), some (.int (nI a)), some (.long x), none], [], (am_sh, v, u), 0, 0) := by
        intro x hx
        ((repeat' first | refine hP _ ?_ | fail); try dsimp only)
        refine ⟨fun c => absurd c pos, fun _ => ?_⟩
        ((repeat' first | refine hP _ ?_ | fail); try dsimp only)
        refine ⟨fun c => ?_, fun c => ?_⟩
        · refine third x ?_
          rw [hx, if_neg (show ¬ 2 ≤ a from fun q => absurd ((nI_ltI (b := 2) (by omega) (by omega)).mp c) (by omega)), Int64.add_zero]
        · have hka : 2 ≤ a := by
            rcases Nat.lt_or_ge a 2 with q | q
            · exact absurd (nI_lt q (by omega)) c
            · exact q
          ((repeat' first | refine hP _ ?_ | fail); try dsimp only)
          rw [es, i41]
          have e2 := ix 2 hka
          rw [show nI 2 = 2 from rfl] at e2
          rw [e2]
          refine ⟨vp_in_nI (by omega) (by omega), ?_⟩
          dsimp only
          rw [nI_clamp (by omega), rd 2 (by omega) hka]
          ((iterate 2 refine hP _ ?_); try dsimp only)
          refine third _ ?_
          rw [hx, if_pos hka]
      ((repeat' first | refine hP _ ?_ | fail); try dsimp only)
      refine ⟨fun _ => ?_, fun c => absurd ((nI_eq (b := 0) (by omega) (by omega)).mp c) (by omega)⟩
      ((repeat' first | refine hP _ ?_ | fail); try dsimp only)
      refine ⟨fun c => absurd c pos, fun _ => ?_⟩
      ((repeat' first | refine hP _ ?_ | fail); try dsimp only)
      refine ⟨fun c => ?_, fun c => ?_⟩
      · refine second _ ?_
        rw [if_neg (show ¬ 1 ≤ a from fun q => absurd ((nI_ltI (b := 1) (by omega) (by omega)).mp c) (by omega))]
        rfl
      · have hka : 1 ≤ a := by
          rcases Nat.lt_or_ge a 1 with q | q
          · exact absurd (nI_lt q (by omega)) c
          · exact q
        ((repeat' first | refine hP _ ?_ | fail); try dsimp only)
        rw [es, i41]
        have e1 := ix 1 hka
        rw [show nI 1 = 1 from rfl] at e1
        rw [e1]
        refine ⟨vp_in_nI (by omega) (by omega), ?_⟩
        dsimp only
        rw [nI_clamp (by omega), rd 1 (by omega) hka]
        ((iterate 2 refine hP _ ?_); try dsimp only)
        refine second _ ?_
        rw [if_pos hka]
        exact Int64.zero_add _
  -- a row
  have row : ∀ (q s a : Nat) (u : am_X) (sm : Int64) (l8 l9 : Option Value), s ≤ 40 → a + q = n + 1 → (∀ s' a', s' < s → a' ≤ n → u 104 (41 * s' + a') = stF k s' a') → (∀ a', a' < a → u 104 (41 * s + a') = stF k s a') → (∀ (u' : am_X) (l7 l8 l9 : Option Value), (∀ s' a', s' < s + 1 → a' ≤ n → u' 104 (41 * s' + a') = stF k s' a') → P (cd_X12_stairs.drop 108, [some (.ref 62), some (.int (nI n)), some (.int (nI k)), some (.int (nI T)), some (.long sm), none, some (.int (nI s)), l7, l8, l9], [], (am_sh, v, u'), 0, 0)) → P (cd_X12_stairs.drop 26, [some (.ref 62), some (.int (nI n)), some (.int (nI k)), some (.int (nI T)), some (.long sm), none, some (.int (nI s)), some (.int (nI a)), l8, l9], [], (am_sh, v, u), 0, 0) := by
    intro q
    induction q with
    | zero =>
      intro s a u sm l8 l9 hs ha h1 h2 kk
      ((repeat' first | refine hP _ ?_ | fail); try dsimp only)
      refine ⟨fun _ => ?_, fun c => absurd (nI_lt (show n < a by omega) (by omega)) c⟩
      refine kk u _ _ _ (fun s' a' z1 z2 => ?_)
      rcases Nat.lt_or_ge s' s with z | z
      · exact h1 s' a' z z2
      · rw [show s' = s by omega]
        exact h2 a' (by omega)
    | succ q ih =>
      intro s a u sm l8 l9 hs ha h1 h2 kk
      ((repeat' first | refine hP _ ?_ | fail); try dsimp only)
      refine ⟨fun c => absurd c (nI_nlt (by omega) (by omega)), fun _ => ?_⟩
      refine one s a u sm l8 l9 hs (by omega) h1 ?_
      have e := ih s (a + 1) (am_upX u 104 (41 * s + a) (stF k s a)) sm (some (.long (stF k s a))) none hs (by omega) (fun s' a' z1 z2 => by
        rw [am_upX_eq, if_neg (by omega)]
        exact h1 s' a' z1 z2) (fun a' z => by
        rw [am_upX_eq]
        by_cases y : a' = a
        · rw [if_pos ⟨rfl, by omega⟩, y]
        · rw [if_neg (by omega)]
          exact h2 a' (by omega)) kk
      rw [← nI_1] at e
      exact e
  have outer : ∀ (q s : Nat) (u : am_X) (l7 l8 l9 : Option Value), s + q = 41 → (∀ s' a', s' < s → a' ≤ n → u 104 (41 * s' + a') = stF k s' a') → P (cd_X12_stairs.drop 21, [some (.ref 62), some (.int (nI n)), some (.int (nI k)), some (.int (nI T)), some (.long (stR (stF k) n T s)), none, some (.int (nI s)), l7, l8, l9], [], (am_sh, v, u), 0, 0) := by
    intro q
    induction q with
    | zero =>
      intro s u l7 l8 l9 hs hu
      ((repeat' first | refine hP _ ?_ | fail); try dsimp only)
      refine ⟨fun _ => ?_, fun c => absurd (nI_lt (a := 40) (show 40 < s by omega) (by omega)) c⟩
      ((repeat' first | refine hP _ ?_ | fail); try dsimp only)
      rw [show s = 41 by omega]
      exact h u
    | succ q ih =>
      intro s u l7 l8 l9 hs hu
      ((repeat' first | refine hP _ ?_ | fail); try dsimp only)
      refine ⟨fun c => absurd c (nI_nlt (b := s) (a := 40) (by omega) (by omega)), fun _ => ?_⟩
      ((iterate 2 refine hP _ ?_); try dsimp only)
      refine row (n + 1) s 0 u _ l8 l9 (by omega) (by omega) hu (fun a' z => absurd z (by omega)) (fun u' m7 m8 m9 hu' => ?_)
      have e := ih (s + 1) u' m7 m8 m9 (by omega) hu'
      rw [← nI_1, stR] at e
      have take : P (cd_X12_stairs.drop 113, [some (.ref 62), some (.int (nI n)), some (.int (nI k)), some (.int (nI T)), some (.long (stR (stF k) n T s)), none, some (.int (nI s)), m7, m8, m9], [], (am_sh, v, u'), 0, 0) ∨ ¬ (T = 0 ∨ T = s) := by
        by_cases z : T = 0 ∨ T = s
        · left
          rw [if_pos z] at e
          ((repeat' first | refine hP _ ?_ | fail); try dsimp only)
          rw [i41, nI_add]
          refine ⟨vp_in_nI (by omega) (by omega), ?_⟩
          dsimp only
          rw [nI_clamp (by omega), hu' s n (by omega) (by omega)]
          ((iterate 4 refine hP _ ?_); try dsimp only)
          exact e
        · exact Or.inr z
      ((repeat' first | refine hP _ ?_ | fail); try dsimp only)
      refine ⟨fun c => ?_, fun c => ?_⟩
      · have hT0 : T = 0 := (nI_eq (b := 0) (by omega) (by omega)).mp c
        rcases take with t | t
        · exact t
        · exact absurd (Or.inl hT0) t
      · have hT0 : ¬ T = 0 := fun z => c (by rw [z]; rfl)
        ((repeat' first | refine hP _ ?_ | fail); try dsimp only)
        refine ⟨fun c2 => ?_, fun c2 => ?_⟩
        · have : ¬ (T = 0 ∨ T = s) := by
            intro z
            rcases z with z | z
            · exact hT0 z
            · exact c2 (by rw [z])
          rw [if_neg this] at e
          ((iterate 2 refine hP _ ?_); try dsimp only)
          exact e
        · have hTs : T = s := (nI_eq (by omega) (by omega)).mp c2
          rcases take with t | t
          · exact t
          · exact absurd (Or.inr hTs) t
  exact outer 41 0 w none none none rfl (fun s' a' z => absurd z (by omega))
end M33b
end
section
/-! ===== pair: stairs ===== -/
theorem am_ql {Q : Option Value → am_H → Prop} {r r' : Int64} {sh : List am_S} {v : am_V} {w : am_X} (e : r = r') (h : Q (some (.long r')) (sh, v, w)) : Q (some (.long r)) (sh, v, w) := e ▸ h
set_option maxRecDepth 100000 in
set_option maxHeartbeats 4000000 in
theorem pr_stairs {L : Nat} {xs : Nat → Int32} (a b c : Int32) : am_pairL L xs 126 228 [.int a, .int b, .int c] := by
  intro d v w Q hI h
  refine en_X11_stairs rfl ?_
  intro P hP
  have hR : ∀ {Q2 : Option Value → am_H → Prop}, (∀ (v2 : am_V) (w2 : am_X), INV v2 → Q2 (some (.long (-1))) (am_sh, v2, w2)) → ((a < 1 ∨ 40 < a) ∨ (b < 3 ∨ 5 < b) ∨ (c < 0 ∨ 40 < c)) → am_run (am_kc L xs) am_idx am_m (d + 30) 228 [.ref 62, .int a, .int b, .int c] (am_sh, v, w) 0 0 Q2 := by
    intro Q2 h2 hbad
    refine en_X12_stairs rfl ?_
    intro P2 hP2
    ((repeat' first | refine hP2 _ ?_ | fail); try dsimp only)
    refine m_X12_in (fun a1 a2 => ?_) (fun _ => ?_)
    · ((repeat' first | refine hP2 _ ?_ | fail); try dsimp only)
      refine ⟨fun e => absurd e (by decide), fun _ => ?_⟩
      ((repeat' first | refine hP2 _ ?_ | fail); try dsimp only)
      refine m_X12_in (fun b1 b2 => ?_) (fun _ => ?_)
      · ((repeat' first | refine hP2 _ ?_ | fail); try dsimp only)
        refine ⟨fun e => absurd e (by decide), fun _ => ?_⟩
        ((repeat' first | refine hP2 _ ?_ | fail); try dsimp only)
        refine m_X12_in (fun c1 c2 => ?_) (fun _ => ?_)
        · rcases hbad with q | q | q
          · exact (am_no q a1 a2).elim
          · exact (am_no q b1 b2).elim
          · exact (am_no q c1 c2).elim
        · ((repeat' first | refine hP2 _ ?_ | refine ⟨fun c1 => absurd c1 (by decide), fun _ => ?_⟩ | refine ⟨fun _ => ?_, fun c1 => absurd c1 (by decide)⟩ | refine ⟨am_vin rfl, ?_⟩ | refine ⟨fun c1 => ?_, fun c1 => ?_⟩ | refine ⟨Or.inr rfl, ?_⟩ | refine ⟨Or.inl rfl, ?_⟩ | fail); all_goals (try dsimp only at *))
          exact h2 v w hI
      · ((repeat' first | refine hP2 _ ?_ | refine ⟨fun c1 => absurd c1 (by decide), fun _ => ?_⟩ | refine ⟨fun _ => ?_, fun c1 => absurd c1 (by decide)⟩ | refine ⟨am_vin rfl, ?_⟩ | refine ⟨fun c1 => ?_, fun c1 => ?_⟩ | refine ⟨Or.inr rfl, ?_⟩ | refine ⟨Or.inl rfl, ?_⟩ | fail); all_goals (try dsimp only at *))
        exact h2 v w hI
    · ((repeat' first | refine hP2 _ ?_ | refine ⟨fun c1 => absurd c1 (by decide), fun _ => ?_⟩ | refine ⟨fun _ => ?_, fun c1 => absurd c1 (by decide)⟩ | refine ⟨am_vin rfl, ?_⟩ | refine ⟨fun c1 => ?_, fun c1 => ?_⟩ | refine ⟨Or.inr rfl, ?_⟩ | refine ⟨Or.inl rfl, ?_⟩ | fail); all_goals (try dsimp only at *))
      exact h2 v w hI
  ((repeat' first | refine hP _ ?_ | fail); try dsimp only)
  refine m_X11_outside (fun q => ?_) (fun a1 a2 => ?_)
  · ((repeat' first | refine hP _ ?_ | refine ⟨fun c1 => absurd c1 (by decide), fun _ => ?_⟩ | refine ⟨fun _ => ?_, fun c1 => absurd c1 (by decide)⟩ | refine ⟨am_vin rfl, ?_⟩ | refine ⟨fun c1 => ?_, fun c1 => ?_⟩ | refine ⟨Or.inr rfl, ?_⟩ | refine ⟨Or.inl rfl, ?_⟩ | fail); all_goals (try dsimp only at *))
    exact h (-1) v w (fun Q2 h2 => hR h2 (Or.inl q))
  · ((repeat' first | refine hP _ ?_ | fail); try dsimp only)
    refine ⟨fun e => absurd rfl e, fun _ => ?_⟩
    ((repeat' first | refine hP _ ?_ | fail); try dsimp only)
    refine m_X11_outside (fun q => ?_) (fun b1 b2 => ?_)
    · ((repeat' first | refine hP _ ?_ | refine ⟨fun c1 => absurd c1 (by decide), fun _ => ?_⟩ | refine ⟨fun _ => ?_, fun c1 => absurd c1 (by decide)⟩ | refine ⟨am_vin rfl, ?_⟩ | refine ⟨fun c1 => ?_, fun c1 => ?_⟩ | refine ⟨Or.inr rfl, ?_⟩ | refine ⟨Or.inl rfl, ?_⟩ | fail); all_goals (try dsimp only at *))
      exact h (-1) v w (fun Q2 h2 => hR h2 (Or.inr (Or.inl q)))
    · ((repeat' first | refine hP _ ?_ | fail); try dsimp only)
      refine ⟨fun e => absurd rfl e, fun _ => ?_⟩
      ((repeat' first | refine hP _ ?_ | fail); try dsimp only)
      refine m_X11_outside (fun q => ?_) (fun c1 c2 => ?_)
      · ((repeat' first | refine hP _ ?_ | refine ⟨fun c1 => absurd c1 (by decide), fun _ => ?_⟩ | refine ⟨fun _ => ?_, fun c1 => absurd c1 (by decide)⟩ | refine ⟨am_vin rfl, ?_⟩ | refine ⟨fun c1 => ?_, fun c1 => ?_⟩ | refine ⟨Or.inr rfl, ?_⟩ | refine ⟨Or.inl rfl, ?_⟩ | fail); all_goals (try dsimp only at *))
        exact h (-1) v w (fun Q2 h2 => hR h2 (Or.inr (Or.inr q)))
      · ((repeat' first | refine hP _ ?_ | fail); try dsimp only)
        refine ⟨fun _ => ?_, fun e => absurd rfl e⟩
        obtain ⟨n, hn1, hn, rfl⟩ := am_nat1 a1 a2 (n := 40) rfl
        obtain ⟨k, hk, rfl⟩ := am_nat (Int32.le_trans (by decide) b1) b2 (n := 5) rfl
        have hk1 : 3 ≤ k := (nI_leI (a := 3) (by omega) (by omega)).mp b1
        obtain ⟨T, hT, rfl⟩ := am_nat c1 c2 (n := 40) rfl
        ((repeat' first | refine hP _ ?_ | fail); try dsimp only)
        refine m_X0_climb hn ⟨hk1, hk⟩ hT (fun w' => ?_)
        ((repeat' first | refine hP _ ?_ | fail); try dsimp only)
        have hval : (if T = 0 then stS (stF k) n 40 else stF k T n) = stR (stF k) n T 41 := by
          by_cases hT0 : T = 0
          · rw [if_pos hT0, hT0, stR_0 (by rw [stF, if_neg (by omega)]) 40]
          · rw [if_neg hT0, stR_T (by omega), if_pos (by omega)]
        refine am_ql hval (h _ v w' (fun Q2 h2 => ?_))
        refine en_X12_stairs rfl ?_
        intro P2 hP2
        ((repeat' first | refine hP2 _ ?_ | fail); try dsimp only)
        refine m_X12_in1 a1 a2 ?_
        ((repeat' first | refine hP2 _ ?_ | fail); try dsimp only)
        refine ⟨fun e => absurd e (by decide), fun _ => ?_⟩
        ((repeat' first | refine hP2 _ ?_ | fail); try dsimp only)
        refine m_X12_in1 b1 b2 ?_
        ((repeat' first | refine hP2 _ ?_ | fail); try dsimp only)
        refine ⟨fun e => absurd e (by decide), fun _ => ?_⟩
        ((repeat' first | refine hP2 _ ?_ | fail); try dsimp only)
        refine m_X12_in1 c1 c2 ?_
        ((repeat' first | refine hP2 _ ?_ | fail); try dsimp only)
        refine ⟨fun _ => ?_, fun e => absurd e (by decide)⟩
        ((iterate 4 refine hP2 _ ?_); try dsimp only)
        exact lp_stairs2 ⟨hn1, hn⟩ ⟨hk1, hk⟩ hT hP2 (fun w2 => h2 v w2 hI)
end
