section
-- ===== PART A: goes FIRST, ahead of the names: the tables' words, and 'selects' of the private methods out of them =====
/-- a private method of a class that the tables say can be made, by its rows of tables_1 -/
def lw_okq (q : MethodName × Nat) : Prop := (q.1.cls ≠ "java/lang/invoke/MethodHandle" ∧ q.1.cls ≠ "java/lang/invoke/VarHandle") ∧ Cond.instantiable q.1.cls q.2 ∈ tables_1 ∧ Cond.privateMethod q.1 ∈ tables_1 ∧ Cond.instanceMethod q.1 ∈ tables_1
theorem lw_p0 : lw_okq (⟨"FlapBoard", "found", "(I)I"⟩, 16) := ⟨⟨by decide +kernel, by decide +kernel⟩, List.mem_of_getElem? (i := 14) (by decide +kernel), List.mem_of_getElem? (i := 216) (by decide +kernel), List.mem_of_getElem? (i := 217) (by decide +kernel)⟩
theorem lw_p1 : lw_okq (⟨"FlapBoard", "placeRefused", "(II)I"⟩, 16) := ⟨⟨by decide +kernel, by decide +kernel⟩, List.mem_of_getElem? (i := 14) (by decide +kernel), List.mem_of_getElem? (i := 228) (by decide +kernel), List.mem_of_getElem? (i := 229) (by decide +kernel)⟩
theorem lw_p2 : lw_okq (⟨"FlapBoard", "rowRefused", "(I)I"⟩, 16) := ⟨⟨by decide +kernel, by decide +kernel⟩, List.mem_of_getElem? (i := 14) (by decide +kernel), List.mem_of_getElem? (i := 232) (by decide +kernel), List.mem_of_getElem? (i := 233) (by decide +kernel)⟩
theorem lw_p3 : lw_okq (⟨"FlapBoard", "textRefused", "(I)I"⟩, 16) := ⟨⟨by decide +kernel, by decide +kernel⟩, List.mem_of_getElem? (i := 14) (by decide +kernel), List.mem_of_getElem? (i := 278) (by decide +kernel), List.mem_of_getElem? (i := 279) (by decide +kernel)⟩
theorem lw_p4 : lw_okq (⟨"FlapBoard", "doAgain", "(I)V"⟩, 16) := ⟨⟨by decide +kernel, by decide +kernel⟩, List.mem_of_getElem? (i := 14) (by decide +kernel), List.mem_of_getElem? (i := 331) (by decide +kernel), List.mem_of_getElem? (i := 332) (by decide +kernel)⟩
theorem lw_p5 : lw_okq (⟨"FlapBoard$Board", "skippedFrom", "(II)I"⟩, 9) := ⟨⟨by decide +kernel, by decide +kernel⟩, List.mem_of_getElem? (i := 26) (by decide +kernel), List.mem_of_getElem? (i := 365) (by decide +kernel), List.mem_of_getElem? (i := 366) (by decide +kernel)⟩
theorem lw_p6 : lw_okq (⟨"FlapBoard", "isDrum", "(I)Z"⟩, 16) := ⟨⟨by decide +kernel, by decide +kernel⟩, List.mem_of_getElem? (i := 14) (by decide +kernel), List.mem_of_getElem? (i := 376) (by decide +kernel), List.mem_of_getElem? (i := 377) (by decide +kernel)⟩
theorem lw_p7 : lw_okq (⟨"FlapBoard", "drumFact", "(II)I"⟩, 16) := ⟨⟨by decide +kernel, by decide +kernel⟩, List.mem_of_getElem? (i := 14) (by decide +kernel), List.mem_of_getElem? (i := 380) (by decide +kernel), List.mem_of_getElem? (i := 381) (by decide +kernel)⟩
theorem lw_p8 : lw_okq (⟨"FlapBoard", "dueTicks", "(II)I"⟩, 16) := ⟨⟨by decide +kernel, by decide +kernel⟩, List.mem_of_getElem? (i := 14) (by decide +kernel), List.mem_of_getElem? (i := 394) (by decide +kernel), List.mem_of_getElem? (i := 395) (by decide +kernel)⟩
theorem lw_p9 : lw_okq (⟨"FlapBoard", "figuresNeverShown", "(I)I"⟩, 16) := ⟨⟨by decide +kernel, by decide +kernel⟩, List.mem_of_getElem? (i := 14) (by decide +kernel), List.mem_of_getElem? (i := 399) (by decide +kernel), List.mem_of_getElem? (i := 400) (by decide +kernel)⟩
theorem lw_p10 : lw_okq (⟨"FlapBoard", "carryOut", "(III)V"⟩, 16) := ⟨⟨by decide +kernel, by decide +kernel⟩, List.mem_of_getElem? (i := 14) (by decide +kernel), List.mem_of_getElem? (i := 420) (by decide +kernel), List.mem_of_getElem? (i := 421) (by decide +kernel)⟩
theorem lw_p11 : lw_okq (⟨"FlapBoard", "isAmongNumbers", "(II)Z"⟩, 16) := ⟨⟨by decide +kernel, by decide +kernel⟩, List.mem_of_getElem? (i := 14) (by decide +kernel), List.mem_of_getElem? (i := 497) (by decide +kernel), List.mem_of_getElem? (i := 498) (by decide +kernel)⟩
theorem lw_p12 : lw_okq (⟨"FlapBoard", "ticksByPower", "(I)I"⟩, 16) := ⟨⟨by decide +kernel, by decide +kernel⟩, List.mem_of_getElem? (i := 14) (by decide +kernel), List.mem_of_getElem? (i := 505) (by decide +kernel), List.mem_of_getElem? (i := 506) (by decide +kernel)⟩
theorem lw_p13 : lw_okq (⟨"FlapBoard", "messagesRefused", "(I)I"⟩, 16) := ⟨⟨by decide +kernel, by decide +kernel⟩, List.mem_of_getElem? (i := 14) (by decide +kernel), List.mem_of_getElem? (i := 513) (by decide +kernel), List.mem_of_getElem? (i := 514) (by decide +kernel)⟩
theorem lw_p14 : lw_okq (⟨"FlapBoard$OrderSearch", "goOn", "(LFlapBoard$Row;III)V"⟩, 4) := ⟨⟨by decide +kernel, by decide +kernel⟩, List.mem_of_getElem? (i := 87) (by decide +kernel), List.mem_of_getElem? (i := 537) (by decide +kernel), List.mem_of_getElem? (i := 538) (by decide +kernel)⟩
theorem lw_p15 : lw_okq (⟨"FlapBoard", "showedRefused", "(II)I"⟩, 16) := ⟨⟨by decide +kernel, by decide +kernel⟩, List.mem_of_getElem? (i := 14) (by decide +kernel), List.mem_of_getElem? (i := 548) (by decide +kernel), List.mem_of_getElem? (i := 549) (by decide +kernel)⟩
def lw_privs_1 : List (MethodName × Nat) := [(⟨"FlapBoard", "found", "(I)I"⟩, 16), (⟨"FlapBoard", "placeRefused", "(II)I"⟩, 16), (⟨"FlapBoard", "rowRefused", "(I)I"⟩, 16), (⟨"FlapBoard", "textRefused", "(I)I"⟩, 16), (⟨"FlapBoard", "doAgain", "(I)V"⟩, 16), (⟨"FlapBoard$Board", "skippedFrom", "(II)I"⟩, 9), (⟨"FlapBoard", "isDrum", "(I)Z"⟩, 16), (⟨"FlapBoard", "drumFact", "(II)I"⟩, 16), (⟨"FlapBoard", "dueTicks", "(II)I"⟩, 16), (⟨"FlapBoard", "figuresNeverShown", "(I)I"⟩, 16), (⟨"FlapBoard", "carryOut", "(III)V"⟩, 16), (⟨"FlapBoard", "isAmongNumbers", "(II)Z"⟩, 16), (⟨"FlapBoard", "ticksByPower", "(I)I"⟩, 16), (⟨"FlapBoard", "messagesRefused", "(I)I"⟩, 16), (⟨"FlapBoard$OrderSearch", "goOn", "(LFlapBoard$Row;III)V"⟩, 4), (⟨"FlapBoard", "showedRefused", "(II)I"⟩, 16)]
theorem lw_r1 : ∀ q ∈ lw_privs_1, lw_okq q := List.forall_mem_cons.mpr ⟨lw_p0, List.forall_mem_cons.mpr ⟨lw_p1, List.forall_mem_cons.mpr ⟨lw_p2, List.forall_mem_cons.mpr ⟨lw_p3, List.forall_mem_cons.mpr ⟨lw_p4, List.forall_mem_cons.mpr ⟨lw_p5, List.forall_mem_cons.mpr ⟨lw_p6, List.forall_mem_cons.mpr ⟨lw_p7, List.forall_mem_cons.mpr ⟨lw_p8, List.forall_mem_cons.mpr ⟨lw_p9, List.forall_mem_cons.mpr ⟨lw_p10, List.forall_mem_cons.mpr ⟨lw_p11, List.forall_mem_cons.mpr ⟨lw_p12, List.forall_mem_cons.mpr ⟨lw_p13, List.forall_mem_cons.mpr ⟨lw_p14, List.forall_mem_cons.mpr ⟨lw_p15, fun _ h => absurd h List.not_mem_nil⟩⟩⟩⟩⟩⟩⟩⟩⟩⟩⟩⟩⟩⟩⟩⟩
theorem lw_p16 : lw_okq (⟨"FlapBoard", "kindsThatShowed", "(ILFlapBoard$Row;)I"⟩, 16) := ⟨⟨by decide +kernel, by decide +kernel⟩, List.mem_of_getElem? (i := 14) (by decide +kernel), List.mem_of_getElem? (i := 552) (by decide +kernel), List.mem_of_getElem? (i := 553) (by decide +kernel)⟩
theorem lw_p17 : lw_okq (⟨"FlapBoard", "wouldHaveShown", "(IIILFlapBoard$Row;)Z"⟩, 16) := ⟨⟨by decide +kernel, by decide +kernel⟩, List.mem_of_getElem? (i := 14) (by decide +kernel), List.mem_of_getElem? (i := 556) (by decide +kernel), List.mem_of_getElem? (i := 557) (by decide +kernel)⟩
theorem lw_p18 : lw_okq (⟨"FlapBoard", "lookAhead", "(II)V"⟩, 16) := ⟨⟨by decide +kernel, by decide +kernel⟩, List.mem_of_getElem? (i := 14) (by decide +kernel), List.mem_of_getElem? (i := 568) (by decide +kernel), List.mem_of_getElem? (i := 569) (by decide +kernel)⟩
theorem lw_p19 : lw_okq (⟨"FlapBoard", "greatestPart", "(II)I"⟩, 16) := ⟨⟨by decide +kernel, by decide +kernel⟩, List.mem_of_getElem? (i := 14) (by decide +kernel), List.mem_of_getElem? (i := 572) (by decide +kernel), List.mem_of_getElem? (i := 573) (by decide +kernel)⟩
theorem lw_p20 : lw_okq (⟨"FlapBoard", "latestByAiming", "(Z)I"⟩, 16) := ⟨⟨by decide +kernel, by decide +kernel⟩, List.mem_of_getElem? (i := 14) (by decide +kernel), List.mem_of_getElem? (i := 580) (by decide +kernel), List.mem_of_getElem? (i := 581) (by decide +kernel)⟩
theorem lw_p21 : lw_okq (⟨"FlapBoard", "soonestByAiming", "(I)I"⟩, 16) := ⟨⟨by decide +kernel, by decide +kernel⟩, List.mem_of_getElem? (i := 14) (by decide +kernel), List.mem_of_getElem? (i := 584) (by decide +kernel), List.mem_of_getElem? (i := 585) (by decide +kernel)⟩
theorem lw_p22 : lw_okq (⟨"FlapBoard", "weighRightOnes", "(II)V"⟩, 16) := ⟨⟨by decide +kernel, by decide +kernel⟩, List.mem_of_getElem? (i := 14) (by decide +kernel), List.mem_of_getElem? (i := 595) (by decide +kernel), List.mem_of_getElem? (i := 596) (by decide +kernel)⟩
theorem lw_p23 : lw_okq (⟨"FlapBoard", "freeOnes", "()I"⟩, 16) := ⟨⟨by decide +kernel, by decide +kernel⟩, List.mem_of_getElem? (i := 14) (by decide +kernel), List.mem_of_getElem? (i := 599) (by decide +kernel), List.mem_of_getElem? (i := 600) (by decide +kernel)⟩
theorem lw_p24 : lw_okq (⟨"FlapBoard", "weightOfAll", "()J"⟩, 16) := ⟨⟨by decide +kernel, by decide +kernel⟩, List.mem_of_getElem? (i := 14) (by decide +kernel), List.mem_of_getElem? (i := 604) (by decide +kernel), List.mem_of_getElem? (i := 605) (by decide +kernel)⟩
theorem lw_p25 : lw_okq (⟨"FlapBoard", "carryOutLot", "(J)V"⟩, 16) := ⟨⟨by decide +kernel, by decide +kernel⟩, List.mem_of_getElem? (i := 14) (by decide +kernel), List.mem_of_getElem? (i := 625) (by decide +kernel), List.mem_of_getElem? (i := 626) (by decide +kernel)⟩
theorem lw_p26 : lw_okq (⟨"FlapBoard", "countOf", "(I)I"⟩, 16) := ⟨⟨by decide +kernel, by decide +kernel⟩, List.mem_of_getElem? (i := 14) (by decide +kernel), List.mem_of_getElem? (i := 648) (by decide +kernel), List.mem_of_getElem? (i := 649) (by decide +kernel)⟩
theorem lw_p27 : lw_okq (⟨"FlapBoard", "rowsThere", "()I"⟩, 16) := ⟨⟨by decide +kernel, by decide +kernel⟩, List.mem_of_getElem? (i := 14) (by decide +kernel), List.mem_of_getElem? (i := 652) (by decide +kernel), List.mem_of_getElem? (i := 653) (by decide +kernel)⟩
theorem lw_p28 : lw_okq (⟨"FlapBoard", "textsThere", "()I"⟩, 16) := ⟨⟨by decide +kernel, by decide +kernel⟩, List.mem_of_getElem? (i := 14) (by decide +kernel), List.mem_of_getElem? (i := 656) (by decide +kernel), List.mem_of_getElem? (i := 657) (by decide +kernel)⟩
theorem lw_p29 : lw_okq (⟨"FlapBoard", "keptThere", "()I"⟩, 16) := ⟨⟨by decide +kernel, by decide +kernel⟩, List.mem_of_getElem? (i := 14) (by decide +kernel), List.mem_of_getElem? (i := 660) (by decide +kernel), List.mem_of_getElem? (i := 661) (by decide +kernel)⟩
theorem lw_p30 : lw_okq (⟨"FlapBoardModel", "finds", "(I)I"⟩, 22) := ⟨⟨by decide +kernel, by decide +kernel⟩, List.mem_of_getElem? (i := 693) (by decide +kernel), List.mem_of_getElem? (i := 776) (by decide +kernel), List.mem_of_getElem? (i := 777) (by decide +kernel)⟩
theorem lw_p31 : lw_okq (⟨"FlapBoardModel", "anew", "(II)V"⟩, 22) := ⟨⟨by decide +kernel, by decide +kernel⟩, List.mem_of_getElem? (i := 693) (by decide +kernel), List.mem_of_getElem? (i := 780) (by decide +kernel), List.mem_of_getElem? (i := 781) (by decide +kernel)⟩
def lw_privs_2 : List (MethodName × Nat) := [(⟨"FlapBoard", "kindsThatShowed", "(ILFlapBoard$Row;)I"⟩, 16), (⟨"FlapBoard", "wouldHaveShown", "(IIILFlapBoard$Row;)Z"⟩, 16), (⟨"FlapBoard", "lookAhead", "(II)V"⟩, 16), (⟨"FlapBoard", "greatestPart", "(II)I"⟩, 16), (⟨"FlapBoard", "latestByAiming", "(Z)I"⟩, 16), (⟨"FlapBoard", "soonestByAiming", "(I)I"⟩, 16), (⟨"FlapBoard", "weighRightOnes", "(II)V"⟩, 16), (⟨"FlapBoard", "freeOnes", "()I"⟩, 16), (⟨"FlapBoard", "weightOfAll", "()J"⟩, 16), (⟨"FlapBoard", "carryOutLot", "(J)V"⟩, 16), (⟨"FlapBoard", "countOf", "(I)I"⟩, 16), (⟨"FlapBoard", "rowsThere", "()I"⟩, 16), (⟨"FlapBoard", "textsThere", "()I"⟩, 16), (⟨"FlapBoard", "keptThere", "()I"⟩, 16), (⟨"FlapBoardModel", "finds", "(I)I"⟩, 22), (⟨"FlapBoardModel", "anew", "(II)V"⟩, 22)]
theorem lw_r2 : ∀ q ∈ lw_privs_2, lw_okq q := List.forall_mem_cons.mpr ⟨lw_p16, List.forall_mem_cons.mpr ⟨lw_p17, List.forall_mem_cons.mpr ⟨lw_p18, List.forall_mem_cons.mpr ⟨lw_p19, List.forall_mem_cons.mpr ⟨lw_p20, List.forall_mem_cons.mpr ⟨lw_p21, List.forall_mem_cons.mpr ⟨lw_p22, List.forall_mem_cons.mpr ⟨lw_p23, List.forall_mem_cons.mpr ⟨lw_p24, List.forall_mem_cons.mpr ⟨lw_p25, List.forall_mem_cons.mpr ⟨lw_p26, List.forall_mem_cons.mpr ⟨lw_p27, List.forall_mem_cons.mpr ⟨lw_p28, List.forall_mem_cons.mpr ⟨lw_p29, List.forall_mem_cons.mpr ⟨lw_p30, List.forall_mem_cons.mpr ⟨lw_p31, fun _ h => absurd h List.not_mem_nil⟩⟩⟩⟩⟩⟩⟩⟩⟩⟩⟩⟩⟩⟩⟩⟩
theorem lw_p32 : lw_okq (⟨"FlapBoardModel", "tells", "(I)I"⟩, 22) := ⟨⟨by decide +kernel, by decide +kernel⟩, List.mem_of_getElem? (i := 693) (by decide +kernel), List.mem_of_getElem? (i := 788) (by decide +kernel), List.mem_of_getElem? (i := 789) (by decide +kernel)⟩
theorem lw_p33 : lw_okq (⟨"FlapBoardModel", "lies", "(III)Z"⟩, 22) := ⟨⟨by decide +kernel, by decide +kernel⟩, List.mem_of_getElem? (i := 693) (by decide +kernel), List.mem_of_getElem? (i := 804) (by decide +kernel), List.mem_of_getElem? (i := 805) (by decide +kernel)⟩
theorem lw_p34 : lw_okq (⟨"FlapBoardModel", "reads", "(I)I"⟩, 22) := ⟨⟨by decide +kernel, by decide +kernel⟩, List.mem_of_getElem? (i := 693) (by decide +kernel), List.mem_of_getElem? (i := 827) (by decide +kernel), List.mem_of_getElem? (i := 828) (by decide +kernel)⟩
theorem lw_p35 : lw_okq (⟨"FlapBoardModel", "skips", "(II)I"⟩, 22) := ⟨⟨by decide +kernel, by decide +kernel⟩, List.mem_of_getElem? (i := 693) (by decide +kernel), List.mem_of_getElem? (i := 831) (by decide +kernel), List.mem_of_getElem? (i := 832) (by decide +kernel)⟩
theorem lw_p36 : lw_okq (⟨"FlapBoardModel", "byteAt", "(II)I"⟩, 22) := ⟨⟨by decide +kernel, by decide +kernel⟩, List.mem_of_getElem? (i := 693) (by decide +kernel), List.mem_of_getElem? (i := 835) (by decide +kernel), List.mem_of_getElem? (i := 836) (by decide +kernel)⟩
theorem lw_p37 : lw_okq (⟨"FlapBoardModel", "isDrum", "(I)Z"⟩, 22) := ⟨⟨by decide +kernel, by decide +kernel⟩, List.mem_of_getElem? (i := 693) (by decide +kernel), List.mem_of_getElem? (i := 850) (by decide +kernel), List.mem_of_getElem? (i := 851) (by decide +kernel)⟩
theorem lw_p38 : lw_okq (⟨"FlapBoardModel", "readyTicks", "(II)I"⟩, 22) := ⟨⟨by decide +kernel, by decide +kernel⟩, List.mem_of_getElem? (i := 693) (by decide +kernel), List.mem_of_getElem? (i := 876) (by decide +kernel), List.mem_of_getElem? (i := 877) (by decide +kernel)⟩
theorem lw_p39 : lw_okq (⟨"FlapBoardModel", "neverShown", "(I)I"⟩, 22) := ⟨⟨by decide +kernel, by decide +kernel⟩, List.mem_of_getElem? (i := 693) (by decide +kernel), List.mem_of_getElem? (i := 880) (by decide +kernel), List.mem_of_getElem? (i := 881) (by decide +kernel)⟩
theorem lw_p40 : lw_okq (⟨"FlapBoardModel", "does", "()V"⟩, 22) := ⟨⟨by decide +kernel, by decide +kernel⟩, List.mem_of_getElem? (i := 693) (by decide +kernel), List.mem_of_getElem? (i := 891) (by decide +kernel), List.mem_of_getElem? (i := 892) (by decide +kernel)⟩
theorem lw_p41 : lw_okq (⟨"FlapBoardModel", "amiss", "(I)I"⟩, 22) := ⟨⟨by decide +kernel, by decide +kernel⟩, List.mem_of_getElem? (i := 693) (by decide +kernel), List.mem_of_getElem? (i := 960) (by decide +kernel), List.mem_of_getElem? (i := 961) (by decide +kernel)⟩
theorem lw_p42 : lw_okq (⟨"FlapBoardModel", "aims", "([II)V"⟩, 22) := ⟨⟨by decide +kernel, by decide +kernel⟩, List.mem_of_getElem? (i := 693) (by decide +kernel), List.mem_of_getElem? (i := 964) (by decide +kernel), List.mem_of_getElem? (i := 965) (by decide +kernel)⟩
theorem lw_p43 : lw_okq (⟨"FlapBoardModel", "unfit", "(I)I"⟩, 22) := ⟨⟨by decide +kernel, by decide +kernel⟩, List.mem_of_getElem? (i := 693) (by decide +kernel), List.mem_of_getElem? (i := 976) (by decide +kernel), List.mem_of_getElem? (i := 977) (by decide +kernel)⟩
theorem lw_p44 : lw_okq (⟨"FlapBoardModel", "fitting", "(IIII)I"⟩, 22) := ⟨⟨by decide +kernel, by decide +kernel⟩, List.mem_of_getElem? (i := 693) (by decide +kernel), List.mem_of_getElem? (i := 980) (by decide +kernel), List.mem_of_getElem? (i := 981) (by decide +kernel)⟩
theorem lw_p45 : lw_okq (⟨"FlapBoardModel", "late", "([I)I"⟩, 22) := ⟨⟨by decide +kernel, by decide +kernel⟩, List.mem_of_getElem? (i := 693) (by decide +kernel), List.mem_of_getElem? (i := 996) (by decide +kernel), List.mem_of_getElem? (i := 997) (by decide +kernel)⟩
theorem lw_p46 : lw_okq (⟨"FlapBoardModel", "answered", "()I"⟩, 22) := ⟨⟨by decide +kernel, by decide +kernel⟩, List.mem_of_getElem? (i := 693) (by decide +kernel), List.mem_of_getElem? (i := 1000) (by decide +kernel), List.mem_of_getElem? (i := 1001) (by decide +kernel)⟩
theorem lw_p47 : lw_okq (⟨"FlapBoardModel", "chances", "(III)V"⟩, 22) := ⟨⟨by decide +kernel, by decide +kernel⟩, List.mem_of_getElem? (i := 693) (by decide +kernel), List.mem_of_getElem? (i := 1008) (by decide +kernel), List.mem_of_getElem? (i := 1009) (by decide +kernel)⟩
def lw_privs_3 : List (MethodName × Nat) := [(⟨"FlapBoardModel", "tells", "(I)I"⟩, 22), (⟨"FlapBoardModel", "lies", "(III)Z"⟩, 22), (⟨"FlapBoardModel", "reads", "(I)I"⟩, 22), (⟨"FlapBoardModel", "skips", "(II)I"⟩, 22), (⟨"FlapBoardModel", "byteAt", "(II)I"⟩, 22), (⟨"FlapBoardModel", "isDrum", "(I)Z"⟩, 22), (⟨"FlapBoardModel", "readyTicks", "(II)I"⟩, 22), (⟨"FlapBoardModel", "neverShown", "(I)I"⟩, 22), (⟨"FlapBoardModel", "does", "()V"⟩, 22), (⟨"FlapBoardModel", "amiss", "(I)I"⟩, 22), (⟨"FlapBoardModel", "aims", "([II)V"⟩, 22), (⟨"FlapBoardModel", "unfit", "(I)I"⟩, 22), (⟨"FlapBoardModel", "fitting", "(IIII)I"⟩, 22), (⟨"FlapBoardModel", "late", "([I)I"⟩, 22), (⟨"FlapBoardModel", "answered", "()I"⟩, 22), (⟨"FlapBoardModel", "chances", "(III)V"⟩, 22)]
theorem lw_r3 : ∀ q ∈ lw_privs_3, lw_okq q := List.forall_mem_cons.mpr ⟨lw_p32, List.forall_mem_cons.mpr ⟨lw_p33, List.forall_mem_cons.mpr ⟨lw_p34, List.forall_mem_cons.mpr ⟨lw_p35, List.forall_mem_cons.mpr ⟨lw_p36, List.forall_mem_cons.mpr ⟨lw_p37, List.forall_mem_cons.mpr ⟨lw_p38, List.forall_mem_cons.mpr ⟨lw_p39, List.forall_mem_cons.mpr ⟨lw_p40, List.forall_mem_cons.mpr ⟨lw_p41, List.forall_mem_cons.mpr ⟨lw_p42, List.forall_mem_cons.mpr ⟨lw_p43, List.forall_mem_cons.mpr ⟨lw_p44, List.forall_mem_cons.mpr ⟨lw_p45, List.forall_mem_cons.mpr ⟨lw_p46, List.forall_mem_cons.mpr ⟨lw_p47, fun _ h => absurd h List.not_mem_nil⟩⟩⟩⟩⟩⟩⟩⟩⟩⟩⟩⟩⟩⟩⟩⟩
theorem lw_p48 : lw_okq (⟨"FlapBoardModel", "lowest", "(JJ)V"⟩, 22) := ⟨⟨by decide +kernel, by decide +kernel⟩, List.mem_of_getElem? (i := 693) (by decide +kernel), List.mem_of_getElem? (i := 1013) (by decide +kernel), List.mem_of_getElem? (i := 1014) (by decide +kernel)⟩
theorem lw_p49 : lw_okq (⟨"FlapBoardModel", "ofKind", "(I)I"⟩, 22) := ⟨⟨by decide +kernel, by decide +kernel⟩, List.mem_of_getElem? (i := 693) (by decide +kernel), List.mem_of_getElem? (i := 1047) (by decide +kernel), List.mem_of_getElem? (i := 1048) (by decide +kernel)⟩
theorem lw_p50 : lw_okq (⟨"FlapBoardModel", "of", "(II)I"⟩, 22) := ⟨⟨by decide +kernel, by decide +kernel⟩, List.mem_of_getElem? (i := 693) (by decide +kernel), List.mem_of_getElem? (i := 1066) (by decide +kernel), List.mem_of_getElem? (i := 1067) (by decide +kernel)⟩
def lw_privs_4 : List (MethodName × Nat) := [(⟨"FlapBoardModel", "lowest", "(JJ)V"⟩, 22), (⟨"FlapBoardModel", "ofKind", "(I)I"⟩, 22), (⟨"FlapBoardModel", "of", "(II)I"⟩, 22)]
theorem lw_r4 : ∀ q ∈ lw_privs_4, lw_okq q := List.forall_mem_cons.mpr ⟨lw_p48, List.forall_mem_cons.mpr ⟨lw_p49, List.forall_mem_cons.mpr ⟨lw_p50, fun _ h => absurd h List.not_mem_nil⟩⟩⟩
def lw_privs : List (MethodName × Nat) := lw_privs_1 ++ (lw_privs_2 ++ (lw_privs_3 ++ (lw_privs_4)))
def lw_tbl : List Cond := k2_sels lw_privs ++ tables_1
theorem lw_privs_ok : ∀ q ∈ lw_privs, lw_okq q := by
  show ∀ q ∈ lw_privs_1 ++ (lw_privs_2 ++ (lw_privs_3 ++ (lw_privs_4))), lw_okq q
  exact List.forall_mem_append.mpr ⟨lw_r1, List.forall_mem_append.mpr ⟨lw_r2, List.forall_mem_append.mpr ⟨lw_r3, lw_r4⟩⟩⟩
end
section
def RX0 : String := "FlapBoard$Board"
def TX0 : u_T := fun k => match k with
  | 0 => ("FlapBoard$Board", "kind", "[I", true)
  | 1 => ("FlapBoard$Board", "shows", "[I", true)
  | 2 => ("FlapBoard$Board", "goal", "[I", true)
  | 3 => ("FlapBoard$Board", "mark", "[I", true)
  | 4 => ("FlapBoard$Board", "drums", "I", false)
  | 5 => ("FlapBoard$Board", "power", "I", false)
  | 6 => ("FlapBoard$Board", "ticks", "I", false)
  | 7 => ("FlapBoard$Board", "turns", "I", false)
  | _ => ("FlapBoard$Board", "jammed", "I", false)
def tyX0 : Nat → FieldType := fun k => match k with
  | 0 => .array .int
  | 1 => .array .int
  | 2 => .array .int
  | 3 => .array .int
  | 4 => .int
  | 5 => .int
  | 6 => .int
  | 7 => .int
  | _ => .int
abbrev wsX00 : List Cond := u_ws RX0 TX0 9
theorem nmX0 : ∀ a, a < 9 → ∀ b, b < 9 → a ≠ b → (TX0 a).2.1 ≠ (TX0 b).2.1 := by decide +kernel
theorem tyX0_ok : ∀ k, k < 9 → parseFieldDescriptor (TX0 k).2.2.1 = some (tyX0 k) := by decide +kernel
abbrev cX0_init : ByteArray := prog_2_method_1_code
def yX0_init : MethodName := ⟨RX0, "<init>", "()V"⟩
abbrev cX0_become : ByteArray := prog_2_method_2_code
def yX0_become : MethodName := ⟨RX0, "become", "(LFlapBoard$Board;)V"⟩
abbrev cX0_begin : ByteArray := prog_2_method_3_code
def yX0_begin : MethodName := ⟨RX0, "begin", "(I)V"⟩
abbrev cX0_addDrum : ByteArray := prog_2_method_4_code
def yX0_addDrum : MethodName := ⟨RX0, "addDrum", "(III)V"⟩
abbrev cX0_isJammed : ByteArray := prog_2_method_5_code
def yX0_isJammed : MethodName := ⟨RX0, "isJammed", "(I)Z"⟩
abbrev cX0_isReady : ByteArray := prog_2_method_6_code
def yX0_isReady : MethodName := ⟨RX0, "isReady", "(I)Z"⟩
abbrev cX0_isDue : ByteArray := prog_2_method_7_code
def yX0_isDue : MethodName := ⟨RX0, "isDue", "(I)Z"⟩
abbrev cX0_afterTurn : ByteArray := prog_2_method_8_code
def yX0_afterTurn : MethodName := ⟨RX0, "afterTurn", "(I)I"⟩
abbrev cX0_skippedFrom : ByteArray := prog_2_method_9_code
def yX0_skippedFrom : MethodName := ⟨RX0, "skippedFrom", "(II)I"⟩
abbrev cX0_step : ByteArray := prog_2_method_10_code
def yX0_step : MethodName := ⟨RX0, "step", "()V"⟩
abbrev cX0_stepOn : ByteArray := prog_2_method_11_code
def yX0_stepOn : MethodName := ⟨RX0, "stepOn", "(I)V"⟩
abbrev cX0_isTold : ByteArray := prog_2_method_12_code
def yX0_isTold : MethodName := ⟨RX0, "isTold", "()Z"⟩
abbrev cX0_rightOnes : ByteArray := prog_2_method_13_code
def yX0_rightOnes : MethodName := ⟨RX0, "rightOnes", "()I"⟩
abbrev cX0_drumsOf : ByteArray := prog_2_method_14_code
def yX0_drumsOf : MethodName := ⟨RX0, "drumsOf", "(I)I"⟩
abbrev cX0_number : ByteArray := prog_2_method_15_code
def yX0_number : MethodName := ⟨RX0, "number", "()I"⟩
abbrev cX0_aimAt : ByteArray := prog_2_method_16_code
def yX0_aimAt : MethodName := ⟨RX0, "aimAt", "(I)V"⟩
abbrev cX0_ticksTillTold : ByteArray := prog_2_method_17_code
def yX0_ticksTillTold : MethodName := ⟨RX0, "ticksTillTold", "(I)I"⟩
abbrev cX0_carryOut : ByteArray := prog_2_method_18_code
def yX0_carryOut : MethodName := ⟨RX0, "carryOut", "(I)V"⟩
def RX1 : String := "FlapBoard$Deeds"
def TX1 : u_T := fun k => match k with
  | 0 => ("FlapBoard$Deeds", "list", "[I", true)
  | _ => ("FlapBoard$Deeds", "size", "I", false)
def tyX1 : Nat → FieldType := fun k => match k with
  | 0 => .array .int
  | _ => .int
abbrev wsX10 : List Cond := u_ws RX1 TX1 2
theorem nmX1 : ∀ a, a < 2 → ∀ b, b < 2 → a ≠ b → (TX1 a).2.1 ≠ (TX1 b).2.1 := by decide +kernel
theorem tyX1_ok : ∀ k, k < 2 → parseFieldDescriptor (TX1 k).2.2.1 = some (tyX1 k) := by decide +kernel
abbrev cX1_init : ByteArray := prog_3_method_1_code
def yX1_init : MethodName := ⟨RX1, "<init>", "()V"⟩
abbrev cX1_packed : ByteArray := prog_3_method_2_code
def yX1_packed : MethodName := ⟨RX1, "packed", "(III)I"⟩
abbrev cX1_whatOf : ByteArray := prog_3_method_3_code
def yX1_whatOf : MethodName := ⟨RX1, "whatOf", "(I)I"⟩
abbrev cX1_drumOf : ByteArray := prog_3_method_4_code
def yX1_drumOf : MethodName := ⟨RX1, "drumOf", "(I)I"⟩
abbrev cX1_valueOf : ByteArray := prog_3_method_5_code
def yX1_valueOf : MethodName := ⟨RX1, "valueOf", "(I)I"⟩
abbrev cX1_isFull : ByteArray := prog_3_method_6_code
def yX1_isFull : MethodName := ⟨RX1, "isFull", "(I)Z"⟩
abbrev cX1_add : ByteArray := prog_3_method_7_code
def yX1_add : MethodName := ⟨RX1, "add", "(I)V"⟩
abbrev cX1_become : ByteArray := prog_3_method_8_code
def yX1_become : MethodName := ⟨RX1, "become", "(LFlapBoard$Deeds;)V"⟩
def RX2 : String := "FlapBoard$OrderSearch"
def TX2 : u_T := fun k => match k with
  | 0 => ("FlapBoard$OrderSearch", "best", "[I", true)
  | 1 => ("FlapBoard$OrderSearch", "tried", "[I", true)
  | 2 => ("FlapBoard$OrderSearch", "behind", "[LFlapBoard$Board;", true)
  | _ => ("FlapBoard$OrderSearch", "fewest", "I", false)
def tyX2 : Nat → FieldType := fun k => match k with
  | 0 => .array .int
  | 1 => .array .int
  | 2 => .array (.object "FlapBoard$Board")
  | _ => .int
abbrev wsX20 : List Cond := u_ws RX2 TX2 4
theorem nmX2 : ∀ a, a < 4 → ∀ b, b < 4 → a ≠ b → (TX2 a).2.1 ≠ (TX2 b).2.1 := by decide +kernel
theorem tyX2_ok : ∀ k, k < 4 → parseFieldDescriptor (TX2 k).2.2.1 = some (tyX2 k) := by decide +kernel
abbrev cX2_init : ByteArray := prog_4_method_1_code
def yX2_init : MethodName := ⟨RX2, "<init>", "()V"⟩
abbrev cX2_search : ByteArray := prog_4_method_2_code
def yX2_search : MethodName := ⟨RX2, "search", "(LFlapBoard$Board;LFlapBoard$Row;)I"⟩
abbrev cX2_goOn : ByteArray := prog_4_method_3_code
def yX2_goOn : MethodName := ⟨RX2, "goOn", "(LFlapBoard$Row;III)V"⟩
def RX3 : String := "FlapBoard$Reader"
def TX3 : u_T := fun k => match k with
  | _ => ("", "", "", false)
def tyX3 : Nat → FieldType := fun k => match k with
  | _ => .int
abbrev wsX30 : List Cond := u_ws RX3 TX3 0
theorem nmX3 : ∀ a, a < 0 → ∀ b, b < 0 → a ≠ b → (TX3 a).2.1 ≠ (TX3 b).2.1 := by decide +kernel
theorem tyX3_ok : ∀ k, k < 0 → parseFieldDescriptor (TX3 k).2.2.1 = some (tyX3 k) := by decide +kernel
abbrev cX3_read : ByteArray := prog_5_method_2_code
def yX3_read : MethodName := ⟨RX3, "read", "(LFlapBoard$Text;LFlapBoard$Board;)I"⟩
abbrev cX3_faultOfDrum : ByteArray := prog_5_method_3_code
def yX3_faultOfDrum : MethodName := ⟨RX3, "faultOfDrum", "(LFlapBoard$Text;I)I"⟩
def RX4 : String := "FlapBoard$Row"
def TX4 : u_T := fun k => match k with
  | 0 => ("FlapBoard$Row", "ints", "[I", true)
  | _ => ("FlapBoard$Row", "size", "I", false)
def tyX4 : Nat → FieldType := fun k => match k with
  | 0 => .array .int
  | _ => .int
abbrev wsX40 : List Cond := u_ws RX4 TX4 2
theorem nmX4 : ∀ a, a < 2 → ∀ b, b < 2 → a ≠ b → (TX4 a).2.1 ≠ (TX4 b).2.1 := by decide +kernel
theorem tyX4_ok : ∀ k, k < 2 → parseFieldDescriptor (TX4 k).2.2.1 = some (tyX4 k) := by decide +kernel
abbrev cX4_init : ByteArray := prog_6_method_1_code
def yX4_init : MethodName := ⟨RX4, "<init>", "()V"⟩
abbrev cX4_isMissing : ByteArray := prog_6_method_2_code
def yX4_isMissing : MethodName := ⟨RX4, "isMissing", "()Z"⟩
abbrev cX4_begin : ByteArray := prog_6_method_3_code
def yX4_begin : MethodName := ⟨RX4, "begin", "(I)V"⟩
abbrev cX4_holds : ByteArray := prog_6_method_4_code
def yX4_holds : MethodName := ⟨RX4, "holds", "(II)Z"⟩
abbrev cX4_isWithin : ByteArray := prog_6_method_5_code
def yX4_isWithin : MethodName := ⟨RX4, "isWithin", "(I)Z"⟩
abbrev cX4_digestFrom : ByteArray := prog_6_method_6_code
def yX4_digestFrom : MethodName := ⟨RX4, "digestFrom", "(J)J"⟩
def RX5 : String := "FlapBoard$Share"
def TX5 : u_T := fun k => match k with
  | 0 => ("FlapBoard$Share", "top", "J", false)
  | _ => ("FlapBoard$Share", "bottom", "J", false)
def tyX5 : Nat → FieldType := fun k => match k with
  | 0 => .long
  | _ => .long
abbrev wsX50 : List Cond := u_ws RX5 TX5 2
theorem nmX5 : ∀ a, a < 2 → ∀ b, b < 2 → a ≠ b → (TX5 a).2.1 ≠ (TX5 b).2.1 := by decide +kernel
theorem tyX5_ok : ∀ k, k < 2 → parseFieldDescriptor (TX5 k).2.2.1 = some (tyX5 k) := by decide +kernel
abbrev cX5_init : ByteArray := prog_7_method_1_code
def yX5_init : MethodName := ⟨RX5, "<init>", "()V"⟩
abbrev cX5_tell : ByteArray := prog_7_method_2_code
def yX5_tell : MethodName := ⟨RX5, "tell", "(JJ)V"⟩
abbrev cX5_commonDivisor : ByteArray := prog_7_method_3_code
def yX5_commonDivisor : MethodName := ⟨RX5, "commonDivisor", "(JJ)J"⟩
def RX6 : String := "FlapBoard$Text"
def TX6 : u_T := fun k => match k with
  | 0 => ("FlapBoard$Text", "bytes", "[B", true)
  | _ => ("FlapBoard$Text", "size", "I", false)
def tyX6 : Nat → FieldType := fun k => match k with
  | 0 => .array .byte
  | _ => .int
abbrev wsX60 : List Cond := u_ws RX6 TX6 2
theorem nmX6 : ∀ a, a < 2 → ∀ b, b < 2 → a ≠ b → (TX6 a).2.1 ≠ (TX6 b).2.1 := by decide +kernel
theorem tyX6_ok : ∀ k, k < 2 → parseFieldDescriptor (TX6 k).2.2.1 = some (tyX6 k) := by decide +kernel
abbrev cX6_init : ByteArray := prog_8_method_1_code
def yX6_init : MethodName := ⟨RX6, "<init>", "()V"⟩
abbrev cX6_isMissing : ByteArray := prog_8_method_2_code
def yX6_isMissing : MethodName := ⟨RX6, "isMissing", "()Z"⟩
abbrev cX6_begin : ByteArray := prog_8_method_3_code
def yX6_begin : MethodName := ⟨RX6, "begin", "(I)V"⟩
abbrev cX6_isFigure : ByteArray := prog_8_method_4_code
def yX6_isFigure : MethodName := ⟨RX6, "isFigure", "(II)Z"⟩
abbrev cX6_figure : ByteArray := prog_8_method_5_code
def yX6_figure : MethodName := ⟨RX6, "figure", "(I)I"⟩
abbrev cX6_kind : ByteArray := prog_8_method_6_code
def yX6_kind : MethodName := ⟨RX6, "kind", "(I)I"⟩
abbrev cX6_pastBlanks : ByteArray := prog_8_method_7_code
def yX6_pastBlanks : MethodName := ⟨RX6, "pastBlanks", "(I)I"⟩
abbrev cX6_digestFrom : ByteArray := prog_8_method_8_code
def yX6_digestFrom : MethodName := ⟨RX6, "digestFrom", "(J)J"⟩
def RX7 : String := "FlapBoard"
def TX7 : u_T := fun k => match k with
  | 0 => ("FlapBoard", "rows", "[LFlapBoard$Row;", true)
  | 1 => ("FlapBoard", "texts", "[LFlapBoard$Text;", true)
  | 2 => ("FlapBoard", "start", "LFlapBoard$Board;", true)
  | 3 => ("FlapBoard", "now", "LFlapBoard$Board;", true)
  | 4 => ("FlapBoard", "aside", "LFlapBoard$Board;", true)
  | 5 => ("FlapBoard", "aimed", "LFlapBoard$Board;", true)
  | 6 => ("FlapBoard", "deeds", "LFlapBoard$Deeds;", true)
  | 7 => ("FlapBoard", "kept", "[LFlapBoard$Deeds;", true)
  | 8 => ("FlapBoard", "orderSearch", "LFlapBoard$OrderSearch;", true)
  | 9 => ("FlapBoard", "numbers", "[I", true)
  | 10 => ("FlapBoard", "looks", "[[I", true)
  | 11 => ("FlapBoard", "weights", "[J", true)
  | 12 => ("FlapBoard", "share", "LFlapBoard$Share;", true)
  | 13 => ("FlapBoard", "findingCounts", "[I", true)
  | 14 => ("FlapBoard", "latestFinding", "I", false)
  | _ => ("FlapBoard", "latestAsked", "I", false)
def tyX7 : Nat → FieldType := fun k => match k with
  | 0 => .array (.object "FlapBoard$Row")
  | 1 => .array (.object "FlapBoard$Text")
  | 2 => .object "FlapBoard$Board"
  | 3 => .object "FlapBoard$Board"
  | 4 => .object "FlapBoard$Board"
  | 5 => .object "FlapBoard$Board"
  | 6 => .object "FlapBoard$Deeds"
  | 7 => .array (.object "FlapBoard$Deeds")
  | 8 => .object "FlapBoard$OrderSearch"
  | 9 => .array .int
  | 10 => .array (.array .int)
  | 11 => .array .long
  | 12 => .object "FlapBoard$Share"
  | 13 => .array .int
  | 14 => .int
  | _ => .int
abbrev wsX70 : List Cond := u_ws RX7 TX7 16
theorem nmX7 : ∀ a, a < 16 → ∀ b, b < 16 → a ≠ b → (TX7 a).2.1 ≠ (TX7 b).2.1 := by decide +kernel
theorem tyX7_ok : ∀ k, k < 16 → parseFieldDescriptor (TX7 k).2.2.1 = some (tyX7 k) := by decide +kernel
abbrev cX7_init : ByteArray := prog_1_method_1_code
def yX7_init : MethodName := ⟨RX7, "<init>", "()V"⟩
abbrev cX7_row : ByteArray := prog_1_method_2_code
def yX7_row : MethodName := ⟨RX7, "row", "(II)I"⟩
abbrev cX7_lay : ByteArray := prog_1_method_3_code
def yX7_lay : MethodName := ⟨RX7, "lay", "(III)I"⟩
abbrev cX7_at : ByteArray := prog_1_method_4_code
def yX7_at : MethodName := ⟨RX7, "at", "(II)I"⟩
abbrev cX7_tear : ByteArray := prog_1_method_5_code
def yX7_tear : MethodName := ⟨RX7, "tear", "(I)I"⟩
abbrev cX7_copy : ByteArray := prog_1_method_6_code
def yX7_copy : MethodName := ⟨RX7, "copy", "(IIIII)I"⟩
abbrev cX7_mean : ByteArray := prog_1_method_7_code
def yX7_mean : MethodName := ⟨RX7, "mean", "(I)I"⟩
abbrev cX7_text : ByteArray := prog_1_method_8_code
def yX7_text : MethodName := ⟨RX7, "text", "(II)I"⟩
abbrev cX7_put : ByteArray := prog_1_method_9_code
def yX7_put : MethodName := ⟨RX7, "put", "(III)I"⟩
abbrev cX7_fault : ByteArray := prog_1_method_10_code
def yX7_fault : MethodName := ⟨RX7, "fault", "(I)I"⟩
abbrev cX7_board : ByteArray := prog_1_method_11_code
def yX7_board : MethodName := ⟨RX7, "board", "(I)I"⟩
abbrev cX7_drum : ByteArray := prog_1_method_12_code
def yX7_drum : MethodName := ⟨RX7, "drum", "(II)I"⟩
abbrev cX7_mark : ByteArray := prog_1_method_13_code
def yX7_mark : MethodName := ⟨RX7, "mark", "(II)I"⟩
abbrev cX7_tick : ByteArray := prog_1_method_14_code
def yX7_tick : MethodName := ⟨RX7, "tick", "()I"⟩
abbrev cX7_aim : ByteArray := prog_1_method_15_code
def yX7_aim : MethodName := ⟨RX7, "aim", "(II)I"⟩
abbrev cX7_power : ByteArray := prog_1_method_16_code
def yX7_power : MethodName := ⟨RX7, "power", "(I)I"⟩
abbrev cX7_jam : ByteArray := prog_1_method_17_code
def yX7_jam : MethodName := ⟨RX7, "jam", "(I)I"⟩
abbrev cX7_undo : ByteArray := prog_1_method_18_code
def yX7_undo : MethodName := ⟨RX7, "undo", "(I)I"⟩
abbrev cX7_keep : ByteArray := prog_1_method_19_code
def yX7_keep : MethodName := ⟨RX7, "keep", "(I)I"⟩
abbrev cX7_on : ByteArray := prog_1_method_20_code
def yX7_on : MethodName := ⟨RX7, "on", "(I)I"⟩
abbrev cX7_later : ByteArray := prog_1_method_21_code
def yX7_later : MethodName := ⟨RX7, "later", "(I)I"⟩
abbrev cX7_ends : ByteArray := prog_1_method_22_code
def yX7_ends : MethodName := ⟨RX7, "ends", "()I"⟩
abbrev cX7_passes : ByteArray := prog_1_method_23_code
def yX7_passes : MethodName := ⟨RX7, "passes", "()I"⟩
abbrev cX7_least : ByteArray := prog_1_method_24_code
def yX7_least : MethodName := ⟨RX7, "least", "()I"⟩
abbrev cX7_soonest : ByteArray := prog_1_method_25_code
def yX7_soonest : MethodName := ⟨RX7, "soonest", "(I)I"⟩
abbrev cX7_order : ByteArray := prog_1_method_26_code
def yX7_order : MethodName := ⟨RX7, "order", "(II)I"⟩
abbrev cX7_kinds : ByteArray := prog_1_method_27_code
def yX7_kinds : MethodName := ⟨RX7, "kinds", "(II)I"⟩
abbrev cX7_marks : ByteArray := prog_1_method_28_code
def yX7_marks : MethodName := ⟨RX7, "marks", "(II)I"⟩
abbrev cX7_test : ByteArray := prog_1_method_29_code
def yX7_test : MethodName := ⟨RX7, "test", "(II)I"⟩
abbrev cX7_duel : ByteArray := prog_1_method_30_code
def yX7_duel : MethodName := ⟨RX7, "duel", "(I)I"⟩
abbrev cX7_odds : ByteArray := prog_1_method_31_code
def yX7_odds : MethodName := ⟨RX7, "odds", "(III)I"⟩
abbrev cX7_mid : ByteArray := prog_1_method_32_code
def yX7_mid : MethodName := ⟨RX7, "mid", "(II)I"⟩
abbrev cX7_lots : ByteArray := prog_1_method_33_code
def yX7_lots : MethodName := ⟨RX7, "lots", "(II)I"⟩
abbrev cX7_asked : ByteArray := prog_1_method_34_code
def yX7_asked : MethodName := ⟨RX7, "asked", "()I"⟩
abbrev cX7_upper : ByteArray := prog_1_method_35_code
def yX7_upper : MethodName := ⟨RX7, "upper", "()J"⟩
abbrev cX7_lower : ByteArray := prog_1_method_36_code
def yX7_lower : MethodName := ⟨RX7, "lower", "()J"⟩
abbrev cX7_count : ByteArray := prog_1_method_37_code
def yX7_count : MethodName := ⟨RX7, "count", "(I)I"⟩
abbrev cX7_finding : ByteArray := prog_1_method_38_code
def yX7_finding : MethodName := ⟨RX7, "finding", "()I"⟩
abbrev cX7_findings : ByteArray := prog_1_method_39_code
def yX7_findings : MethodName := ⟨RX7, "findings", "(I)I"⟩
abbrev cX7_digest : ByteArray := prog_1_method_40_code
def yX7_digest : MethodName := ⟨RX7, "digest", "()J"⟩
abbrev cX7_found : ByteArray := prog_1_method_41_code
def yX7_found : MethodName := ⟨RX7, "found", "(I)I"⟩
abbrev cX7_isRow : ByteArray := prog_1_method_42_code
def yX7_isRow : MethodName := ⟨RX7, "isRow", "(I)Z"⟩
abbrev cX7_isText : ByteArray := prog_1_method_43_code
def yX7_isText : MethodName := ⟨RX7, "isText", "(I)Z"⟩
abbrev cX7_isDrum : ByteArray := prog_1_method_44_code
def yX7_isDrum : MethodName := ⟨RX7, "isDrum", "(I)Z"⟩
abbrev cX7_areChances : ByteArray := prog_1_method_45_code
def yX7_areChances : MethodName := ⟨RX7, "areChances", "(II)Z"⟩
abbrev cX7_rowRefused : ByteArray := prog_1_method_46_code
def yX7_rowRefused : MethodName := ⟨RX7, "rowRefused", "(I)I"⟩
abbrev cX7_placeRefused : ByteArray := prog_1_method_47_code
def yX7_placeRefused : MethodName := ⟨RX7, "placeRefused", "(II)I"⟩
abbrev cX7_textRefused : ByteArray := prog_1_method_48_code
def yX7_textRefused : MethodName := ⟨RX7, "textRefused", "(I)I"⟩
abbrev cX7_messagesRefused : ByteArray := prog_1_method_49_code
def yX7_messagesRefused : MethodName := ⟨RX7, "messagesRefused", "(I)I"⟩
abbrev cX7_showedRefused : ByteArray := prog_1_method_50_code
def yX7_showedRefused : MethodName := ⟨RX7, "showedRefused", "(II)I"⟩
abbrev cX7_drumFact : ByteArray := prog_1_method_51_code
def yX7_drumFact : MethodName := ⟨RX7, "drumFact", "(II)I"⟩
abbrev cX7_countOf : ByteArray := prog_1_method_52_code
def yX7_countOf : MethodName := ⟨RX7, "countOf", "(I)I"⟩
abbrev cX7_rowsThere : ByteArray := prog_1_method_53_code
def yX7_rowsThere : MethodName := ⟨RX7, "rowsThere", "()I"⟩
abbrev cX7_textsThere : ByteArray := prog_1_method_54_code
def yX7_textsThere : MethodName := ⟨RX7, "textsThere", "()I"⟩
abbrev cX7_keptThere : ByteArray := prog_1_method_55_code
def yX7_keptThere : MethodName := ⟨RX7, "keptThere", "()I"⟩
abbrev cX7_dueTicks : ByteArray := prog_1_method_56_code
def yX7_dueTicks : MethodName := ⟨RX7, "dueTicks", "(II)I"⟩
abbrev cX7_figuresNeverShown : ByteArray := prog_1_method_57_code
def yX7_figuresNeverShown : MethodName := ⟨RX7, "figuresNeverShown", "(I)I"⟩
abbrev cX7_isOf : ByteArray := prog_1_method_58_code
def yX7_isOf : MethodName := ⟨RX7, "isOf", "(II)Z"⟩
abbrev cX7_carryOut : ByteArray := prog_1_method_59_code
def yX7_carryOut : MethodName := ⟨RX7, "carryOut", "(III)V"⟩
abbrev cX7_doAgain : ByteArray := prog_1_method_60_code
def yX7_doAgain : MethodName := ⟨RX7, "doAgain", "(I)V"⟩
abbrev cX7_carryOutLot : ByteArray := prog_1_method_61_code
def yX7_carryOutLot : MethodName := ⟨RX7, "carryOutLot", "(J)V"⟩
abbrev cX7_isAmongNumbers : ByteArray := prog_1_method_62_code
def yX7_isAmongNumbers : MethodName := ⟨RX7, "isAmongNumbers", "(II)Z"⟩
abbrev cX7_ticksByPower : ByteArray := prog_1_method_63_code
def yX7_ticksByPower : MethodName := ⟨RX7, "ticksByPower", "(I)I"⟩
abbrev cX7_wouldHaveShown : ByteArray := prog_1_method_64_code
def yX7_wouldHaveShown : MethodName := ⟨RX7, "wouldHaveShown", "(IIILFlapBoard$Row;)Z"⟩
abbrev cX7_kindsThatShowed : ByteArray := prog_1_method_65_code
def yX7_kindsThatShowed : MethodName := ⟨RX7, "kindsThatShowed", "(ILFlapBoard$Row;)I"⟩
abbrev cX7_lookAhead : ByteArray := prog_1_method_66_code
def yX7_lookAhead : MethodName := ⟨RX7, "lookAhead", "(II)V"⟩
abbrev cX7_greatestPart : ByteArray := prog_1_method_67_code
def yX7_greatestPart : MethodName := ⟨RX7, "greatestPart", "(II)I"⟩
abbrev cX7_latestByAiming : ByteArray := prog_1_method_68_code
def yX7_latestByAiming : MethodName := ⟨RX7, "latestByAiming", "(Z)I"⟩
abbrev cX7_soonestByAiming : ByteArray := prog_1_method_69_code
def yX7_soonestByAiming : MethodName := ⟨RX7, "soonestByAiming", "(I)I"⟩
abbrev cX7_weighRightOnes : ByteArray := prog_1_method_70_code
def yX7_weighRightOnes : MethodName := ⟨RX7, "weighRightOnes", "(II)V"⟩
abbrev cX7_freeOnes : ByteArray := prog_1_method_71_code
def yX7_freeOnes : MethodName := ⟨RX7, "freeOnes", "()I"⟩
abbrev cX7_weightOfAll : ByteArray := prog_1_method_72_code
def yX7_weightOfAll : MethodName := ⟨RX7, "weightOfAll", "()J"⟩
abbrev cX7_raised : ByteArray := prog_1_method_73_code
def yX7_raised : MethodName := ⟨RX7, "raised", "(II)I"⟩
def RX8 : String := "FlapBoardModel"
def TX8 : u_T := fun k => match k with
  | 0 => ("FlapBoardModel", "sizes", "[I", true)
  | 1 => ("FlapBoardModel", "rows", "[I", true)
  | 2 => ("FlapBoardModel", "moved", "[I", true)
  | 3 => ("FlapBoardModel", "lengths", "[I", true)
  | 4 => ("FlapBoardModel", "texts", "[B", true)
  | 5 => ("FlapBoardModel", "s", "[I", true)
  | 6 => ("FlapBoardModel", "draft", "[I", true)
  | 7 => ("FlapBoardModel", "then", "[I", true)
  | 8 => ("FlapBoardModel", "other", "[I", true)
  | 9 => ("FlapBoardModel", "past", "[I", true)
  | 10 => ("FlapBoardModel", "deeds", "I", false)
  | 11 => ("FlapBoardModel", "boards", "[I", true)
  | 12 => ("FlapBoardModel", "pasts", "[I", true)
  | 13 => ("FlapBoardModel", "kept", "[I", true)
  | 14 => ("FlapBoardModel", "asked", "I", false)
  | 15 => ("FlapBoardModel", "upper", "J", false)
  | 16 => ("FlapBoardModel", "lower", "J", false)
  | 17 => ("FlapBoardModel", "finding", "I", false)
  | 18 => ("FlapBoardModel", "found", "[I", true)
  | 19 => ("FlapBoardModel", "numbers", "[I", true)
  | 20 => ("FlapBoardModel", "parts", "[I", true)
  | _ => ("FlapBoardModel", "films", "[I", true)
def tyX8 : Nat → FieldType := fun k => match k with
  | 0 => .array .int
  | 1 => .array .int
  | 2 => .array .int
  | 3 => .array .int
  | 4 => .array .byte
  | 5 => .array .int
  | 6 => .array .int
  | 7 => .array .int
  | 8 => .array .int
  | 9 => .array .int
  | 10 => .int
  | 11 => .array .int
  | 12 => .array .int
  | 13 => .array .int
  | 14 => .int
  | 15 => .long
  | 16 => .long
  | 17 => .int
  | 18 => .array .int
  | 19 => .array .int
  | 20 => .array .int
  | _ => .array .int
abbrev wsX80 : List Cond := u_ws RX8 TX8 22
theorem nmX8 : ∀ a, a < 22 → ∀ b, b < 22 → a ≠ b → (TX8 a).2.1 ≠ (TX8 b).2.1 := by decide +kernel
theorem tyX8_ok : ∀ k, k < 22 → parseFieldDescriptor (TX8 k).2.2.1 = some (tyX8 k) := by decide +kernel
abbrev cX8_init : ByteArray := prog_10_method_1_code
def yX8_init : MethodName := ⟨RX8, "<init>", "()V"⟩
abbrev cX8_in : ByteArray := prog_10_method_3_code
def yX8_in : MethodName := ⟨RX8, "in", "(III)Z"⟩
abbrev cX8_finds : ByteArray := prog_10_method_4_code
def yX8_finds : MethodName := ⟨RX8, "finds", "(I)I"⟩
abbrev cX8_tells : ByteArray := prog_10_method_5_code
def yX8_tells : MethodName := ⟨RX8, "tells", "(I)I"⟩
abbrev cX8_isRow : ByteArray := prog_10_method_6_code
def yX8_isRow : MethodName := ⟨RX8, "isRow", "(I)Z"⟩
abbrev cX8_isText : ByteArray := prog_10_method_7_code
def yX8_isText : MethodName := ⟨RX8, "isText", "(I)Z"⟩
abbrev cX8_anew : ByteArray := prog_10_method_8_code
def yX8_anew : MethodName := ⟨RX8, "anew", "(II)V"⟩
abbrev cX8_row : ByteArray := prog_10_method_9_code
def yX8_row : MethodName := ⟨RX8, "row", "(II)I"⟩
abbrev cX8_lay : ByteArray := prog_10_method_10_code
def yX8_lay : MethodName := ⟨RX8, "lay", "(III)I"⟩
abbrev cX8_at : ByteArray := prog_10_method_11_code
def yX8_at : MethodName := ⟨RX8, "at", "(II)I"⟩
abbrev cX8_tear : ByteArray := prog_10_method_12_code
def yX8_tear : MethodName := ⟨RX8, "tear", "(I)I"⟩
abbrev cX8_lies : ByteArray := prog_10_method_13_code
def yX8_lies : MethodName := ⟨RX8, "lies", "(III)Z"⟩
abbrev cX8_copy : ByteArray := prog_10_method_14_code
def yX8_copy : MethodName := ⟨RX8, "copy", "(IIIII)I"⟩
abbrev cX8_mean : ByteArray := prog_10_method_15_code
def yX8_mean : MethodName := ⟨RX8, "mean", "(I)I"⟩
abbrev cX8_text : ByteArray := prog_10_method_16_code
def yX8_text : MethodName := ⟨RX8, "text", "(II)I"⟩
abbrev cX8_put : ByteArray := prog_10_method_17_code
def yX8_put : MethodName := ⟨RX8, "put", "(III)I"⟩
abbrev cX8_byteAt : ByteArray := prog_10_method_18_code
def yX8_byteAt : MethodName := ⟨RX8, "byteAt", "(II)I"⟩
abbrev cX8_skips : ByteArray := prog_10_method_19_code
def yX8_skips : MethodName := ⟨RX8, "skips", "(II)I"⟩
abbrev cX8_kindBy : ByteArray := prog_10_method_20_code
def yX8_kindBy : MethodName := ⟨RX8, "kindBy", "(I)I"⟩
abbrev cX8_reads : ByteArray := prog_10_method_21_code
def yX8_reads : MethodName := ⟨RX8, "reads", "(I)I"⟩
abbrev cX8_fault : ByteArray := prog_10_method_22_code
def yX8_fault : MethodName := ⟨RX8, "fault", "(I)I"⟩
abbrev cX8_board : ByteArray := prog_10_method_23_code
def yX8_board : MethodName := ⟨RX8, "board", "(I)I"⟩
abbrev cX8_isDrum : ByteArray := prog_10_method_24_code
def yX8_isDrum : MethodName := ⟨RX8, "isDrum", "(I)Z"⟩
abbrev cX8_has : ByteArray := prog_10_method_25_code
def yX8_has : MethodName := ⟨RX8, "has", "(II)Z"⟩
abbrev cX8_skipsOn : ByteArray := prog_10_method_26_code
def yX8_skipsOn : MethodName := ⟨RX8, "skipsOn", "(III)I"⟩
abbrev cX8_turned : ByteArray := prog_10_method_27_code
def yX8_turned : MethodName := ⟨RX8, "turned", "(IIII)I"⟩
abbrev cX8_lets : ByteArray := prog_10_method_28_code
def yX8_lets : MethodName := ⟨RX8, "lets", "(IIZ)Z"⟩
abbrev cX8_isReady : ByteArray := prog_10_method_29_code
def yX8_isReady : MethodName := ⟨RX8, "isReady", "([II)Z"⟩
abbrev cX8_next : ByteArray := prog_10_method_30_code
def yX8_next : MethodName := ⟨RX8, "next", "([II)I"⟩
abbrev cX8_drum : ByteArray := prog_10_method_31_code
def yX8_drum : MethodName := ⟨RX8, "drum", "(II)I"⟩
abbrev cX8_is : ByteArray := prog_10_method_32_code
def yX8_is : MethodName := ⟨RX8, "is", "(II)Z"⟩
abbrev cX8_readyTicks : ByteArray := prog_10_method_33_code
def yX8_readyTicks : MethodName := ⟨RX8, "readyTicks", "(II)I"⟩
abbrev cX8_neverShown : ByteArray := prog_10_method_34_code
def yX8_neverShown : MethodName := ⟨RX8, "neverShown", "(I)I"⟩
abbrev cX8_mark : ByteArray := prog_10_method_35_code
def yX8_mark : MethodName := ⟨RX8, "mark", "(II)I"⟩
abbrev cX8_does : ByteArray := prog_10_method_36_code
def yX8_does : MethodName := ⟨RX8, "does", "()V"⟩
abbrev cX8_goes : ByteArray := prog_10_method_37_code
def yX8_goes : MethodName := ⟨RX8, "goes", "([I)I"⟩
abbrev cX8_tick : ByteArray := prog_10_method_38_code
def yX8_tick : MethodName := ⟨RX8, "tick", "()I"⟩
abbrev cX8_aim : ByteArray := prog_10_method_39_code
def yX8_aim : MethodName := ⟨RX8, "aim", "(II)I"⟩
abbrev cX8_power : ByteArray := prog_10_method_40_code
def yX8_power : MethodName := ⟨RX8, "power", "(I)I"⟩
abbrev cX8_ones : ByteArray := prog_10_method_41_code
def yX8_ones : MethodName := ⟨RX8, "ones", "(I)I"⟩
abbrev cX8_jam : ByteArray := prog_10_method_42_code
def yX8_jam : MethodName := ⟨RX8, "jam", "(I)I"⟩
abbrev cX8_undo : ByteArray := prog_10_method_43_code
def yX8_undo : MethodName := ⟨RX8, "undo", "(I)I"⟩
abbrev cX8_keep : ByteArray := prog_10_method_44_code
def yX8_keep : MethodName := ⟨RX8, "keep", "(I)I"⟩
abbrev cX8_on : ByteArray := prog_10_method_45_code
def yX8_on : MethodName := ⟨RX8, "on", "(I)I"⟩
abbrev cX8_copies : ByteArray := prog_10_method_46_code
def yX8_copies : MethodName := ⟨RX8, "copies", "([I[I)V"⟩
abbrev cX8_shown : ByteArray := prog_10_method_47_code
def yX8_shown : MethodName := ⟨RX8, "shown", "([I)I"⟩
abbrev cX8_right : ByteArray := prog_10_method_48_code
def yX8_right : MethodName := ⟨RX8, "right", "([I)I"⟩
abbrev cX8_isTold : ByteArray := prog_10_method_49_code
def yX8_isTold : MethodName := ⟨RX8, "isTold", "([I)Z"⟩
abbrev cX8_later : ByteArray := prog_10_method_50_code
def yX8_later : MethodName := ⟨RX8, "later", "(I)I"⟩
abbrev cX8_told : ByteArray := prog_10_method_51_code
def yX8_told : MethodName := ⟨RX8, "told", "([I)I"⟩
abbrev cX8_ends : ByteArray := prog_10_method_52_code
def yX8_ends : MethodName := ⟨RX8, "ends", "()I"⟩
abbrev cX8_passes : ByteArray := prog_10_method_53_code
def yX8_passes : MethodName := ⟨RX8, "passes", "()I"⟩
abbrev cX8_least : ByteArray := prog_10_method_54_code
def yX8_least : MethodName := ⟨RX8, "least", "()I"⟩
abbrev cX8_aims : ByteArray := prog_10_method_55_code
def yX8_aims : MethodName := ⟨RX8, "aims", "([II)V"⟩
abbrev cX8_amiss : ByteArray := prog_10_method_56_code
def yX8_amiss : MethodName := ⟨RX8, "amiss", "(I)I"⟩
abbrev cX8_soonest : ByteArray := prog_10_method_57_code
def yX8_soonest : MethodName := ⟨RX8, "soonest", "(I)I"⟩
abbrev cX8_order : ByteArray := prog_10_method_58_code
def yX8_order : MethodName := ⟨RX8, "order", "(II)I"⟩
abbrev cX8_unfit : ByteArray := prog_10_method_59_code
def yX8_unfit : MethodName := ⟨RX8, "unfit", "(I)I"⟩
abbrev cX8_fitting : ByteArray := prog_10_method_60_code
def yX8_fitting : MethodName := ⟨RX8, "fitting", "(IIII)I"⟩
abbrev cX8_kinds : ByteArray := prog_10_method_61_code
def yX8_kinds : MethodName := ⟨RX8, "kinds", "(II)I"⟩
abbrev cX8_marks : ByteArray := prog_10_method_62_code
def yX8_marks : MethodName := ⟨RX8, "marks", "(II)I"⟩
abbrev cX8_test : ByteArray := prog_10_method_63_code
def yX8_test : MethodName := ⟨RX8, "test", "(II)I"⟩
abbrev cX8_late : ByteArray := prog_10_method_64_code
def yX8_late : MethodName := ⟨RX8, "late", "([I)I"⟩
abbrev cX8_duel : ByteArray := prog_10_method_65_code
def yX8_duel : MethodName := ⟨RX8, "duel", "(I)I"⟩
abbrev cX8_answered : ByteArray := prog_10_method_66_code
def yX8_answered : MethodName := ⟨RX8, "answered", "()I"⟩
abbrev cX8_lowest : ByteArray := prog_10_method_67_code
def yX8_lowest : MethodName := ⟨RX8, "lowest", "(JJ)V"⟩
abbrev cX8_chances : ByteArray := prog_10_method_68_code
def yX8_chances : MethodName := ⟨RX8, "chances", "(III)V"⟩
abbrev cX8_odds : ByteArray := prog_10_method_69_code
def yX8_odds : MethodName := ⟨RX8, "odds", "(III)I"⟩
abbrev cX8_mid : ByteArray := prog_10_method_70_code
def yX8_mid : MethodName := ⟨RX8, "mid", "(II)I"⟩
abbrev cX8_lots : ByteArray := prog_10_method_71_code
def yX8_lots : MethodName := ⟨RX8, "lots", "(II)I"⟩
abbrev cX8_asked : ByteArray := prog_10_method_72_code
def yX8_asked : MethodName := ⟨RX8, "asked", "()I"⟩
abbrev cX8_upper : ByteArray := prog_10_method_73_code
def yX8_upper : MethodName := ⟨RX8, "upper", "()J"⟩
abbrev cX8_lower : ByteArray := prog_10_method_74_code
def yX8_lower : MethodName := ⟨RX8, "lower", "()J"⟩
abbrev cX8_ofKind : ByteArray := prog_10_method_75_code
def yX8_ofKind : MethodName := ⟨RX8, "ofKind", "(I)I"⟩
abbrev cX8_count : ByteArray := prog_10_method_76_code
def yX8_count : MethodName := ⟨RX8, "count", "(I)I"⟩
abbrev cX8_finding : ByteArray := prog_10_method_77_code
def yX8_finding : MethodName := ⟨RX8, "finding", "()I"⟩
abbrev cX8_findings : ByteArray := prog_10_method_78_code
def yX8_findings : MethodName := ⟨RX8, "findings", "(I)I"⟩
abbrev cX8_of : ByteArray := prog_10_method_79_code
def yX8_of : MethodName := ⟨RX8, "of", "(II)I"⟩
abbrev cX8_digest : ByteArray := prog_10_method_80_code
def yX8_digest : MethodName := ⟨RX8, "digest", "()J"⟩
def RJ6 : String := "java/lang/Integer"
abbrev cJ6_bitCount_0f7a4 : ByteArray := prog_11_method_49_code
def yJ6_bitCount_0f7a4 : MethodName := ⟨RJ6, "bitCount", "(I)I"⟩
def RJ9 : String := "java/lang/Math"
abbrev cJ9_floorMod_7cf53 : ByteArray := prog_12_method_50_code
def yJ9_floorMod_7cf53 : MethodName := ⟨RJ9, "floorMod", "(II)I"⟩
abbrev cJ9_max_7cf53 : ByteArray := prog_12_method_65_code
def yJ9_max_7cf53 : MethodName := ⟨RJ9, "max", "(II)I"⟩
def RJ10 : String := "java/lang/System"
def RL : String := "FlapBoardLaw"
abbrev cL_law : ByteArray := code
abbrev vwCl : List vw_C := [(RX0, TX0, 9), (RX1, TX1, 2), (RX2, TX2, 4), (RX4, TX4, 2), (RX5, TX5, 2), (RX6, TX6, 2), (RX7, TX7, 16), (RX8, TX8, 22)]
end
section
theorem dX0_init_0 : decode cX0_init 0 = .ok (.aload_n 0, 1) := by decide +kernel
theorem dX0_init_1 : decode cX0_init 1 = .ok (.invokespecial 3, 3) := by decide +kernel
theorem dX0_init_4 : decode cX0_init 4 = .ok (.aload_n 0, 1) := by decide +kernel
theorem dX0_init_5 : decode cX0_init 5 = .ok (.bipush 7, 2) := by decide +kernel
theorem dX0_init_7 : decode cX0_init 7 = .ok (.newarray .int, 2) := by decide +kernel
theorem dX0_init_9 : decode cX0_init 9 = .ok (.putfield 9, 3) := by decide +kernel
theorem dX0_init_12 : decode cX0_init 12 = .ok (.aload_n 0, 1) := by decide +kernel
theorem dX0_init_13 : decode cX0_init 13 = .ok (.bipush 7, 2) := by decide +kernel
theorem dX0_init_15 : decode cX0_init 15 = .ok (.newarray .int, 2) := by decide +kernel
theorem dX0_init_17 : decode cX0_init 17 = .ok (.putfield 15, 3) := by decide +kernel
theorem dX0_init_20 : decode cX0_init 20 = .ok (.aload_n 0, 1) := by decide +kernel
theorem dX0_init_21 : decode cX0_init 21 = .ok (.bipush 7, 2) := by decide +kernel
theorem dX0_init_23 : decode cX0_init 23 = .ok (.newarray .int, 2) := by decide +kernel
theorem dX0_init_25 : decode cX0_init 25 = .ok (.putfield 18, 3) := by decide +kernel
theorem dX0_init_28 : decode cX0_init 28 = .ok (.aload_n 0, 1) := by decide +kernel
theorem dX0_init_29 : decode cX0_init 29 = .ok (.bipush 7, 2) := by decide +kernel
theorem dX0_init_31 : decode cX0_init 31 = .ok (.newarray .int, 2) := by decide +kernel
theorem dX0_init_33 : decode cX0_init 33 = .ok (.putfield 21, 3) := by decide +kernel
theorem dX0_init_36 : decode cX0_init 36 = .ok (.return_, 1) := by decide +kernel
theorem dX0_become_0 : decode cX0_become 0 = .ok (.aload_n 1, 1) := by decide +kernel
theorem dX0_become_1 : decode cX0_become 1 = .ok (.getfield 9, 3) := by decide +kernel
theorem dX0_become_4 : decode cX0_become 4 = .ok (.iconst 0, 1) := by decide +kernel
theorem dX0_become_5 : decode cX0_become 5 = .ok (.aload_n 0, 1) := by decide +kernel
theorem dX0_become_6 : decode cX0_become 6 = .ok (.getfield 9, 3) := by decide +kernel
theorem dX0_become_9 : decode cX0_become 9 = .ok (.iconst 0, 1) := by decide +kernel
theorem dX0_become_10 : decode cX0_become 10 = .ok (.aload_n 1, 1) := by decide +kernel
theorem dX0_become_11 : decode cX0_become 11 = .ok (.getfield 24, 3) := by decide +kernel
theorem dX0_become_14 : decode cX0_become 14 = .ok (.invokestatic 28, 3) := by decide +kernel
theorem dX0_become_17 : decode cX0_become 17 = .ok (.aload_n 1, 1) := by decide +kernel
theorem dX0_become_18 : decode cX0_become 18 = .ok (.getfield 15, 3) := by decide +kernel
theorem dX0_become_21 : decode cX0_become 21 = .ok (.iconst 0, 1) := by decide +kernel
theorem dX0_become_22 : decode cX0_become 22 = .ok (.aload_n 0, 1) := by decide +kernel
theorem dX0_become_23 : decode cX0_become 23 = .ok (.getfield 15, 3) := by decide +kernel
theorem dX0_become_26 : decode cX0_become 26 = .ok (.iconst 0, 1) := by decide +kernel
theorem dX0_become_27 : decode cX0_become 27 = .ok (.aload_n 1, 1) := by decide +kernel
theorem dX0_become_28 : decode cX0_become 28 = .ok (.getfield 24, 3) := by decide +kernel
theorem dX0_become_31 : decode cX0_become 31 = .ok (.invokestatic 28, 3) := by decide +kernel
theorem dX0_become_34 : decode cX0_become 34 = .ok (.aload_n 1, 1) := by decide +kernel
theorem dX0_become_35 : decode cX0_become 35 = .ok (.getfield 18, 3) := by decide +kernel
theorem dX0_become_38 : decode cX0_become 38 = .ok (.iconst 0, 1) := by decide +kernel
theorem dX0_become_39 : decode cX0_become 39 = .ok (.aload_n 0, 1) := by decide +kernel
theorem dX0_become_40 : decode cX0_become 40 = .ok (.getfield 18, 3) := by decide +kernel
theorem dX0_become_43 : decode cX0_become 43 = .ok (.iconst 0, 1) := by decide +kernel
theorem dX0_become_44 : decode cX0_become 44 = .ok (.aload_n 1, 1) := by decide +kernel
theorem dX0_become_45 : decode cX0_become 45 = .ok (.getfield 24, 3) := by decide +kernel
theorem dX0_become_48 : decode cX0_become 48 = .ok (.invokestatic 28, 3) := by decide +kernel
theorem dX0_become_51 : decode cX0_become 51 = .ok (.aload_n 1, 1) := by decide +kernel
theorem dX0_become_52 : decode cX0_become 52 = .ok (.getfield 21, 3) := by decide +kernel
theorem dX0_become_55 : decode cX0_become 55 = .ok (.iconst 0, 1) := by decide +kernel
theorem dX0_become_56 : decode cX0_become 56 = .ok (.aload_n 0, 1) := by decide +kernel
theorem dX0_become_57 : decode cX0_become 57 = .ok (.getfield 21, 3) := by decide +kernel
theorem dX0_become_60 : decode cX0_become 60 = .ok (.iconst 0, 1) := by decide +kernel
theorem dX0_become_61 : decode cX0_become 61 = .ok (.aload_n 1, 1) := by decide +kernel
theorem dX0_become_62 : decode cX0_become 62 = .ok (.getfield 24, 3) := by decide +kernel
theorem dX0_become_65 : decode cX0_become 65 = .ok (.invokestatic 28, 3) := by decide +kernel
theorem dX0_become_68 : decode cX0_become 68 = .ok (.aload_n 0, 1) := by decide +kernel
theorem dX0_become_69 : decode cX0_become 69 = .ok (.aload_n 1, 1) := by decide +kernel
theorem dX0_become_70 : decode cX0_become 70 = .ok (.getfield 24, 3) := by decide +kernel
theorem dX0_become_73 : decode cX0_become 73 = .ok (.putfield 24, 3) := by decide +kernel
theorem dX0_become_76 : decode cX0_become 76 = .ok (.aload_n 0, 1) := by decide +kernel
theorem dX0_become_77 : decode cX0_become 77 = .ok (.aload_n 1, 1) := by decide +kernel
theorem dX0_become_78 : decode cX0_become 78 = .ok (.getfield 34, 3) := by decide +kernel
theorem dX0_become_81 : decode cX0_become 81 = .ok (.putfield 34, 3) := by decide +kernel
theorem dX0_become_84 : decode cX0_become 84 = .ok (.aload_n 0, 1) := by decide +kernel
theorem dX0_become_85 : decode cX0_become 85 = .ok (.aload_n 1, 1) := by decide +kernel
theorem dX0_become_86 : decode cX0_become 86 = .ok (.getfield 37, 3) := by decide +kernel
theorem dX0_become_89 : decode cX0_become 89 = .ok (.putfield 37, 3) := by decide +kernel
theorem dX0_become_92 : decode cX0_become 92 = .ok (.aload_n 0, 1) := by decide +kernel
theorem dX0_become_93 : decode cX0_become 93 = .ok (.aload_n 1, 1) := by decide +kernel
theorem dX0_become_94 : decode cX0_become 94 = .ok (.getfield 40, 3) := by decide +kernel
theorem dX0_become_97 : decode cX0_become 97 = .ok (.putfield 40, 3) := by decide +kernel
theorem dX0_become_100 : decode cX0_become 100 = .ok (.aload_n 0, 1) := by decide +kernel
theorem dX0_become_101 : decode cX0_become 101 = .ok (.aload_n 1, 1) := by decide +kernel
theorem dX0_become_102 : decode cX0_become 102 = .ok (.getfield 43, 3) := by decide +kernel
theorem dX0_become_105 : decode cX0_become 105 = .ok (.putfield 43, 3) := by decide +kernel
theorem dX0_become_108 : decode cX0_become 108 = .ok (.return_, 1) := by decide +kernel
theorem dX0_begin_0 : decode cX0_begin 0 = .ok (.aload_n 0, 1) := by decide +kernel
theorem dX0_begin_1 : decode cX0_begin 1 = .ok (.iconst 0, 1) := by decide +kernel
theorem dX0_begin_2 : decode cX0_begin 2 = .ok (.putfield 24, 3) := by decide +kernel
theorem dX0_begin_5 : decode cX0_begin 5 = .ok (.aload_n 0, 1) := by decide +kernel
theorem dX0_begin_6 : decode cX0_begin 6 = .ok (.iload_n 1, 1) := by decide +kernel
theorem dX0_begin_7 : decode cX0_begin 7 = .ok (.putfield 34, 3) := by decide +kernel
theorem dX0_begin_10 : decode cX0_begin 10 = .ok (.aload_n 0, 1) := by decide +kernel
theorem dX0_begin_11 : decode cX0_begin 11 = .ok (.iconst 0, 1) := by decide +kernel
theorem dX0_begin_12 : decode cX0_begin 12 = .ok (.putfield 37, 3) := by decide +kernel
theorem dX0_begin_15 : decode cX0_begin 15 = .ok (.aload_n 0, 1) := by decide +kernel
theorem dX0_begin_16 : decode cX0_begin 16 = .ok (.iconst 0, 1) := by decide +kernel
theorem dX0_begin_17 : decode cX0_begin 17 = .ok (.putfield 40, 3) := by decide +kernel
theorem dX0_begin_20 : decode cX0_begin 20 = .ok (.aload_n 0, 1) := by decide +kernel
theorem dX0_begin_21 : decode cX0_begin 21 = .ok (.iconst 0, 1) := by decide +kernel
theorem dX0_begin_22 : decode cX0_begin 22 = .ok (.putfield 43, 3) := by decide +kernel
theorem dX0_begin_25 : decode cX0_begin 25 = .ok (.return_, 1) := by decide +kernel
theorem dX0_addDrum_0 : decode cX0_addDrum 0 = .ok (.aload_n 0, 1) := by decide +kernel
theorem dX0_addDrum_1 : decode cX0_addDrum 1 = .ok (.getfield 24, 3) := by decide +kernel
theorem dX0_addDrum_4 : decode cX0_addDrum 4 = .ok (.bipush 7, 2) := by decide +kernel
theorem dX0_addDrum_6 : decode cX0_addDrum 6 = .ok (.if_icmp .ge 53, 3) := by decide +kernel
theorem dX0_addDrum_9 : decode cX0_addDrum 9 = .ok (.aload_n 0, 1) := by decide +kernel
theorem dX0_addDrum_10 : decode cX0_addDrum 10 = .ok (.getfield 9, 3) := by decide +kernel
theorem dX0_addDrum_13 : decode cX0_addDrum 13 = .ok (.aload_n 0, 1) := by decide +kernel
theorem dX0_addDrum_14 : decode cX0_addDrum 14 = .ok (.getfield 24, 3) := by decide +kernel
theorem dX0_addDrum_17 : decode cX0_addDrum 17 = .ok (.iload_n 1, 1) := by decide +kernel
theorem dX0_addDrum_18 : decode cX0_addDrum 18 = .ok (.iastore, 1) := by decide +kernel
theorem dX0_addDrum_19 : decode cX0_addDrum 19 = .ok (.aload_n 0, 1) := by decide +kernel
theorem dX0_addDrum_20 : decode cX0_addDrum 20 = .ok (.getfield 15, 3) := by decide +kernel
theorem dX0_addDrum_23 : decode cX0_addDrum 23 = .ok (.aload_n 0, 1) := by decide +kernel
theorem dX0_addDrum_24 : decode cX0_addDrum 24 = .ok (.getfield 24, 3) := by decide +kernel
theorem dX0_addDrum_27 : decode cX0_addDrum 27 = .ok (.iload_n 2, 1) := by decide +kernel
theorem dX0_addDrum_28 : decode cX0_addDrum 28 = .ok (.iastore, 1) := by decide +kernel
theorem dX0_addDrum_29 : decode cX0_addDrum 29 = .ok (.aload_n 0, 1) := by decide +kernel
theorem dX0_addDrum_30 : decode cX0_addDrum 30 = .ok (.getfield 18, 3) := by decide +kernel
theorem dX0_addDrum_33 : decode cX0_addDrum 33 = .ok (.aload_n 0, 1) := by decide +kernel
theorem dX0_addDrum_34 : decode cX0_addDrum 34 = .ok (.getfield 24, 3) := by decide +kernel
theorem dX0_addDrum_37 : decode cX0_addDrum 37 = .ok (.iload_n 2, 1) := by decide +kernel
theorem dX0_addDrum_38 : decode cX0_addDrum 38 = .ok (.iastore, 1) := by decide +kernel
theorem dX0_addDrum_39 : decode cX0_addDrum 39 = .ok (.aload_n 0, 1) := by decide +kernel
theorem dX0_addDrum_40 : decode cX0_addDrum 40 = .ok (.getfield 21, 3) := by decide +kernel
theorem dX0_addDrum_43 : decode cX0_addDrum 43 = .ok (.aload_n 0, 1) := by decide +kernel
theorem dX0_addDrum_44 : decode cX0_addDrum 44 = .ok (.getfield 24, 3) := by decide +kernel
theorem dX0_addDrum_47 : decode cX0_addDrum 47 = .ok (.iload_n 3, 1) := by decide +kernel
theorem dX0_addDrum_48 : decode cX0_addDrum 48 = .ok (.iastore, 1) := by decide +kernel
theorem dX0_addDrum_49 : decode cX0_addDrum 49 = .ok (.aload_n 0, 1) := by decide +kernel
theorem dX0_addDrum_50 : decode cX0_addDrum 50 = .ok (.dup, 1) := by decide +kernel
theorem dX0_addDrum_51 : decode cX0_addDrum 51 = .ok (.getfield 24, 3) := by decide +kernel
theorem dX0_addDrum_54 : decode cX0_addDrum 54 = .ok (.iconst 1, 1) := by decide +kernel
theorem dX0_addDrum_55 : decode cX0_addDrum 55 = .ok (.iadd, 1) := by decide +kernel
theorem dX0_addDrum_56 : decode cX0_addDrum 56 = .ok (.putfield 24, 3) := by decide +kernel
theorem dX0_addDrum_59 : decode cX0_addDrum 59 = .ok (.return_, 1) := by decide +kernel
theorem dX0_isJammed_0 : decode cX0_isJammed 0 = .ok (.aload_n 0, 1) := by decide +kernel
theorem dX0_isJammed_1 : decode cX0_isJammed 1 = .ok (.getfield 43, 3) := by decide +kernel
theorem dX0_isJammed_4 : decode cX0_isJammed 4 = .ok (.iload_n 1, 1) := by decide +kernel
theorem dX0_isJammed_5 : decode cX0_isJammed 5 = .ok (.ishr, 1) := by decide +kernel
theorem dX0_isJammed_6 : decode cX0_isJammed 6 = .ok (.iconst 1, 1) := by decide +kernel
theorem dX0_isJammed_7 : decode cX0_isJammed 7 = .ok (.iand, 1) := by decide +kernel
theorem dX0_isJammed_8 : decode cX0_isJammed 8 = .ok (.ifCond .eq 7, 3) := by decide +kernel
theorem dX0_isJammed_11 : decode cX0_isJammed 11 = .ok (.iconst 1, 1) := by decide +kernel
theorem dX0_isJammed_12 : decode cX0_isJammed 12 = .ok (.goto 4, 3) := by decide +kernel
theorem dX0_isJammed_15 : decode cX0_isJammed 15 = .ok (.iconst 0, 1) := by decide +kernel
theorem dX0_isJammed_16 : decode cX0_isJammed 16 = .ok (.ireturn, 1) := by decide +kernel
theorem dX0_isReady_0 : decode cX0_isReady 0 = .ok (.aload_n 0, 1) := by decide +kernel
theorem dX0_isReady_1 : decode cX0_isReady 1 = .ok (.getfield 15, 3) := by decide +kernel
theorem dX0_isReady_4 : decode cX0_isReady 4 = .ok (.iload_n 1, 1) := by decide +kernel
theorem dX0_isReady_5 : decode cX0_isReady 5 = .ok (.iaload, 1) := by decide +kernel
theorem dX0_isReady_6 : decode cX0_isReady 6 = .ok (.aload_n 0, 1) := by decide +kernel
theorem dX0_isReady_7 : decode cX0_isReady 7 = .ok (.getfield 18, 3) := by decide +kernel
theorem dX0_isReady_10 : decode cX0_isReady 10 = .ok (.iload_n 1, 1) := by decide +kernel
theorem dX0_isReady_11 : decode cX0_isReady 11 = .ok (.iaload, 1) := by decide +kernel
theorem dX0_isReady_12 : decode cX0_isReady 12 = .ok (.if_icmp .eq 15, 3) := by decide +kernel
theorem dX0_isReady_15 : decode cX0_isReady 15 = .ok (.aload_n 0, 1) := by decide +kernel
theorem dX0_isReady_16 : decode cX0_isReady 16 = .ok (.iload_n 1, 1) := by decide +kernel
theorem dX0_isReady_17 : decode cX0_isReady 17 = .ok (.invokevirtual 46, 3) := by decide +kernel
theorem dX0_isReady_20 : decode cX0_isReady 20 = .ok (.ifCond .eq 7, 3) := by decide +kernel
theorem dX0_isReady_23 : decode cX0_isReady 23 = .ok (.iconst 1, 1) := by decide +kernel
theorem dX0_isReady_24 : decode cX0_isReady 24 = .ok (.goto 4, 3) := by decide +kernel
theorem dX0_isReady_27 : decode cX0_isReady 27 = .ok (.iconst 0, 1) := by decide +kernel
theorem dX0_isReady_28 : decode cX0_isReady 28 = .ok (.ireturn, 1) := by decide +kernel
theorem dX0_isDue_0 : decode cX0_isDue 0 = .ok (.aload_n 0, 1) := by decide +kernel
theorem dX0_isDue_1 : decode cX0_isDue 1 = .ok (.getfield 9, 3) := by decide +kernel
theorem dX0_isDue_4 : decode cX0_isDue 4 = .ok (.iload_n 1, 1) := by decide +kernel
theorem dX0_isDue_5 : decode cX0_isDue 5 = .ok (.iaload, 1) := by decide +kernel
theorem dX0_isDue_6 : decode cX0_isDue 6 = .ok (.iconst 4, 1) := by decide +kernel
theorem dX0_isDue_7 : decode cX0_isDue 7 = .ok (.if_icmp .ne 33, 3) := by decide +kernel
theorem dX0_isDue_10 : decode cX0_isDue 10 = .ok (.aload_n 0, 1) := by decide +kernel
theorem dX0_isDue_11 : decode cX0_isDue 11 = .ok (.getfield 15, 3) := by decide +kernel
theorem dX0_isDue_14 : decode cX0_isDue 14 = .ok (.iload_n 1, 1) := by decide +kernel
theorem dX0_isDue_15 : decode cX0_isDue 15 = .ok (.iaload, 1) := by decide +kernel
theorem dX0_isDue_16 : decode cX0_isDue 16 = .ok (.aload_n 0, 1) := by decide +kernel
theorem dX0_isDue_17 : decode cX0_isDue 17 = .ok (.getfield 21, 3) := by decide +kernel
theorem dX0_isDue_20 : decode cX0_isDue 20 = .ok (.iload_n 1, 1) := by decide +kernel
theorem dX0_isDue_21 : decode cX0_isDue 21 = .ok (.iaload, 1) := by decide +kernel
theorem dX0_isDue_22 : decode cX0_isDue 22 = .ok (.if_icmp .ne 18, 3) := by decide +kernel
theorem dX0_isDue_25 : decode cX0_isDue 25 = .ok (.aload_n 0, 1) := by decide +kernel
theorem dX0_isDue_26 : decode cX0_isDue 26 = .ok (.getfield 37, 3) := by decide +kernel
theorem dX0_isDue_29 : decode cX0_isDue 29 = .ok (.iconst 4, 1) := by decide +kernel
theorem dX0_isDue_30 : decode cX0_isDue 30 = .ok (.irem, 1) := by decide +kernel
theorem dX0_isDue_31 : decode cX0_isDue 31 = .ok (.ifCond .ne 7, 3) := by decide +kernel
theorem dX0_isDue_34 : decode cX0_isDue 34 = .ok (.iconst 1, 1) := by decide +kernel
theorem dX0_isDue_35 : decode cX0_isDue 35 = .ok (.goto 4, 3) := by decide +kernel
theorem dX0_isDue_38 : decode cX0_isDue 38 = .ok (.iconst 0, 1) := by decide +kernel
theorem dX0_isDue_39 : decode cX0_isDue 39 = .ok (.ireturn, 1) := by decide +kernel
theorem dX0_isDue_40 : decode cX0_isDue 40 = .ok (.aload_n 0, 1) := by decide +kernel
theorem dX0_isDue_41 : decode cX0_isDue 41 = .ok (.getfield 37, 3) := by decide +kernel
theorem dX0_isDue_44 : decode cX0_isDue 44 = .ok (.iconst 2, 1) := by decide +kernel
theorem dX0_isDue_45 : decode cX0_isDue 45 = .ok (.irem, 1) := by decide +kernel
theorem dX0_isDue_46 : decode cX0_isDue 46 = .ok (.ifCond .eq 23, 3) := by decide +kernel
theorem dX0_isDue_49 : decode cX0_isDue 49 = .ok (.aload_n 0, 1) := by decide +kernel
theorem dX0_isDue_50 : decode cX0_isDue 50 = .ok (.getfield 9, 3) := by decide +kernel
theorem dX0_isDue_53 : decode cX0_isDue 53 = .ok (.iload_n 1, 1) := by decide +kernel
theorem dX0_isDue_54 : decode cX0_isDue 54 = .ok (.iaload, 1) := by decide +kernel
theorem dX0_isDue_55 : decode cX0_isDue 55 = .ok (.iconst 1, 1) := by decide +kernel
theorem dX0_isDue_56 : decode cX0_isDue 56 = .ok (.if_icmp .eq 17, 3) := by decide +kernel
theorem dX0_isDue_59 : decode cX0_isDue 59 = .ok (.aload_n 0, 1) := by decide +kernel
theorem dX0_isDue_60 : decode cX0_isDue 60 = .ok (.getfield 9, 3) := by decide +kernel
theorem dX0_isDue_63 : decode cX0_isDue 63 = .ok (.iload_n 1, 1) := by decide +kernel
theorem dX0_isDue_64 : decode cX0_isDue 64 = .ok (.iaload, 1) := by decide +kernel
theorem dX0_isDue_65 : decode cX0_isDue 65 = .ok (.iconst 4, 1) := by decide +kernel
theorem dX0_isDue_66 : decode cX0_isDue 66 = .ok (.if_icmp .eq 7, 3) := by decide +kernel
theorem dX0_isDue_69 : decode cX0_isDue 69 = .ok (.iconst 1, 1) := by decide +kernel
theorem dX0_isDue_70 : decode cX0_isDue 70 = .ok (.goto 4, 3) := by decide +kernel
theorem dX0_isDue_73 : decode cX0_isDue 73 = .ok (.iconst 0, 1) := by decide +kernel
theorem dX0_isDue_74 : decode cX0_isDue 74 = .ok (.ireturn, 1) := by decide +kernel
theorem dX0_afterTurn_0 : decode cX0_afterTurn 0 = .ok (.aload_n 0, 1) := by decide +kernel
theorem dX0_afterTurn_1 : decode cX0_afterTurn 1 = .ok (.getfield 9, 3) := by decide +kernel
theorem dX0_afterTurn_4 : decode cX0_afterTurn 4 = .ok (.iload_n 1, 1) := by decide +kernel
theorem dX0_afterTurn_5 : decode cX0_afterTurn 5 = .ok (.iaload, 1) := by decide +kernel
theorem dX0_afterTurn_6 : decode cX0_afterTurn 6 = .ok (.tableswitch 90 2 5 #[45, 30, 90, 57], 30) := by decide +kernel
theorem dX0_afterTurn_36 : decode cX0_afterTurn 36 = .ok (.aload_n 0, 1) := by decide +kernel
theorem dX0_afterTurn_37 : decode cX0_afterTurn 37 = .ok (.getfield 15, 3) := by decide +kernel
theorem dX0_afterTurn_40 : decode cX0_afterTurn 40 = .ok (.iload_n 1, 1) := by decide +kernel
theorem dX0_afterTurn_41 : decode cX0_afterTurn 41 = .ok (.iaload, 1) := by decide +kernel
theorem dX0_afterTurn_42 : decode cX0_afterTurn 42 = .ok (.bipush 10, 2) := by decide +kernel
theorem dX0_afterTurn_44 : decode cX0_afterTurn 44 = .ok (.iadd, 1) := by decide +kernel
theorem dX0_afterTurn_45 : decode cX0_afterTurn 45 = .ok (.iconst 1, 1) := by decide +kernel
theorem dX0_afterTurn_46 : decode cX0_afterTurn 46 = .ok (.isub, 1) := by decide +kernel
theorem dX0_afterTurn_47 : decode cX0_afterTurn 47 = .ok (.bipush 10, 2) := by decide +kernel
theorem dX0_afterTurn_49 : decode cX0_afterTurn 49 = .ok (.irem, 1) := by decide +kernel
theorem dX0_afterTurn_50 : decode cX0_afterTurn 50 = .ok (.ireturn, 1) := by decide +kernel
theorem dX0_afterTurn_51 : decode cX0_afterTurn 51 = .ok (.aload_n 0, 1) := by decide +kernel
theorem dX0_afterTurn_52 : decode cX0_afterTurn 52 = .ok (.aload_n 0, 1) := by decide +kernel
theorem dX0_afterTurn_53 : decode cX0_afterTurn 53 = .ok (.getfield 15, 3) := by decide +kernel
theorem dX0_afterTurn_56 : decode cX0_afterTurn 56 = .ok (.iload_n 1, 1) := by decide +kernel
theorem dX0_afterTurn_57 : decode cX0_afterTurn 57 = .ok (.iaload, 1) := by decide +kernel
theorem dX0_afterTurn_58 : decode cX0_afterTurn 58 = .ok (.iload_n 1, 1) := by decide +kernel
theorem dX0_afterTurn_59 : decode cX0_afterTurn 59 = .ok (.invokevirtual 50, 3) := by decide +kernel
theorem dX0_afterTurn_62 : decode cX0_afterTurn 62 = .ok (.ireturn, 1) := by decide +kernel
theorem dX0_afterTurn_63 : decode cX0_afterTurn 63 = .ok (.aload_n 0, 1) := by decide +kernel
theorem dX0_afterTurn_64 : decode cX0_afterTurn 64 = .ok (.aload_n 0, 1) := by decide +kernel
theorem dX0_afterTurn_65 : decode cX0_afterTurn 65 = .ok (.getfield 15, 3) := by decide +kernel
theorem dX0_afterTurn_68 : decode cX0_afterTurn 68 = .ok (.iload_n 1, 1) := by decide +kernel
theorem dX0_afterTurn_69 : decode cX0_afterTurn 69 = .ok (.iaload, 1) := by decide +kernel
theorem dX0_afterTurn_70 : decode cX0_afterTurn 70 = .ok (.iload_n 1, 1) := by decide +kernel
theorem dX0_afterTurn_71 : decode cX0_afterTurn 71 = .ok (.invokevirtual 50, 3) := by decide +kernel
theorem dX0_afterTurn_74 : decode cX0_afterTurn 74 = .ok (.istore_n 2, 1) := by decide +kernel
theorem dX0_afterTurn_75 : decode cX0_afterTurn 75 = .ok (.iload_n 2, 1) := by decide +kernel
theorem dX0_afterTurn_76 : decode cX0_afterTurn 76 = .ok (.aload_n 0, 1) := by decide +kernel
theorem dX0_afterTurn_77 : decode cX0_afterTurn 77 = .ok (.getfield 18, 3) := by decide +kernel
theorem dX0_afterTurn_80 : decode cX0_afterTurn 80 = .ok (.iload_n 1, 1) := by decide +kernel
theorem dX0_afterTurn_81 : decode cX0_afterTurn 81 = .ok (.iaload, 1) := by decide +kernel
theorem dX0_afterTurn_82 : decode cX0_afterTurn 82 = .ok (.if_icmp .ne 7, 3) := by decide +kernel
theorem dX0_afterTurn_85 : decode cX0_afterTurn 85 = .ok (.iload_n 2, 1) := by decide +kernel
theorem dX0_afterTurn_86 : decode cX0_afterTurn 86 = .ok (.goto 9, 3) := by decide +kernel
theorem dX0_afterTurn_89 : decode cX0_afterTurn 89 = .ok (.aload_n 0, 1) := by decide +kernel
theorem dX0_afterTurn_90 : decode cX0_afterTurn 90 = .ok (.iload_n 2, 1) := by decide +kernel
theorem dX0_afterTurn_91 : decode cX0_afterTurn 91 = .ok (.iload_n 1, 1) := by decide +kernel
theorem dX0_afterTurn_92 : decode cX0_afterTurn 92 = .ok (.invokevirtual 50, 3) := by decide +kernel
theorem dX0_afterTurn_95 : decode cX0_afterTurn 95 = .ok (.ireturn, 1) := by decide +kernel
theorem dX0_afterTurn_96 : decode cX0_afterTurn 96 = .ok (.aload_n 0, 1) := by decide +kernel
theorem dX0_afterTurn_97 : decode cX0_afterTurn 97 = .ok (.getfield 15, 3) := by decide +kernel
theorem dX0_afterTurn_100 : decode cX0_afterTurn 100 = .ok (.iload_n 1, 1) := by decide +kernel
theorem dX0_afterTurn_101 : decode cX0_afterTurn 101 = .ok (.iaload, 1) := by decide +kernel
theorem dX0_afterTurn_102 : decode cX0_afterTurn 102 = .ok (.iconst 1, 1) := by decide +kernel
theorem dX0_afterTurn_103 : decode cX0_afterTurn 103 = .ok (.iadd, 1) := by decide +kernel
theorem dX0_afterTurn_104 : decode cX0_afterTurn 104 = .ok (.bipush 10, 2) := by decide +kernel
theorem dX0_afterTurn_106 : decode cX0_afterTurn 106 = .ok (.irem, 1) := by decide +kernel
theorem dX0_afterTurn_107 : decode cX0_afterTurn 107 = .ok (.ireturn, 1) := by decide +kernel
theorem dX0_skippedFrom_0 : decode cX0_skippedFrom 0 = .ok (.iload_n 1, 1) := by decide +kernel
theorem dX0_skippedFrom_1 : decode cX0_skippedFrom 1 = .ok (.iconst 1, 1) := by decide +kernel
theorem dX0_skippedFrom_2 : decode cX0_skippedFrom 2 = .ok (.iadd, 1) := by decide +kernel
theorem dX0_skippedFrom_3 : decode cX0_skippedFrom 3 = .ok (.bipush 10, 2) := by decide +kernel
theorem dX0_skippedFrom_5 : decode cX0_skippedFrom 5 = .ok (.irem, 1) := by decide +kernel
theorem dX0_skippedFrom_6 : decode cX0_skippedFrom 6 = .ok (.istore_n 3, 1) := by decide +kernel
theorem dX0_skippedFrom_7 : decode cX0_skippedFrom 7 = .ok (.iload_n 3, 1) := by decide +kernel
theorem dX0_skippedFrom_8 : decode cX0_skippedFrom 8 = .ok (.aload_n 0, 1) := by decide +kernel
theorem dX0_skippedFrom_9 : decode cX0_skippedFrom 9 = .ok (.getfield 21, 3) := by decide +kernel
theorem dX0_skippedFrom_12 : decode cX0_skippedFrom 12 = .ok (.iload_n 2, 1) := by decide +kernel
theorem dX0_skippedFrom_13 : decode cX0_skippedFrom 13 = .ok (.iaload, 1) := by decide +kernel
theorem dX0_skippedFrom_14 : decode cX0_skippedFrom 14 = .ok (.if_icmp .ne 27, 3) := by decide +kernel
theorem dX0_skippedFrom_17 : decode cX0_skippedFrom 17 = .ok (.aload_n 0, 1) := by decide +kernel
theorem dX0_skippedFrom_18 : decode cX0_skippedFrom 18 = .ok (.getfield 21, 3) := by decide +kernel
theorem dX0_skippedFrom_21 : decode cX0_skippedFrom 21 = .ok (.iload_n 2, 1) := by decide +kernel
theorem dX0_skippedFrom_22 : decode cX0_skippedFrom 22 = .ok (.iaload, 1) := by decide +kernel
theorem dX0_skippedFrom_23 : decode cX0_skippedFrom 23 = .ok (.aload_n 0, 1) := by decide +kernel
theorem dX0_skippedFrom_24 : decode cX0_skippedFrom 24 = .ok (.getfield 18, 3) := by decide +kernel
theorem dX0_skippedFrom_27 : decode cX0_skippedFrom 27 = .ok (.iload_n 2, 1) := by decide +kernel
theorem dX0_skippedFrom_28 : decode cX0_skippedFrom 28 = .ok (.iaload, 1) := by decide +kernel
theorem dX0_skippedFrom_29 : decode cX0_skippedFrom 29 = .ok (.if_icmp .eq 12, 3) := by decide +kernel
theorem dX0_skippedFrom_32 : decode cX0_skippedFrom 32 = .ok (.iload_n 3, 1) := by decide +kernel
theorem dX0_skippedFrom_33 : decode cX0_skippedFrom 33 = .ok (.iconst 1, 1) := by decide +kernel
theorem dX0_skippedFrom_34 : decode cX0_skippedFrom 34 = .ok (.iadd, 1) := by decide +kernel
theorem dX0_skippedFrom_35 : decode cX0_skippedFrom 35 = .ok (.bipush 10, 2) := by decide +kernel
theorem dX0_skippedFrom_37 : decode cX0_skippedFrom 37 = .ok (.irem, 1) := by decide +kernel
theorem dX0_skippedFrom_38 : decode cX0_skippedFrom 38 = .ok (.goto 4, 3) := by decide +kernel
theorem dX0_skippedFrom_41 : decode cX0_skippedFrom 41 = .ok (.iload_n 3, 1) := by decide +kernel
theorem dX0_skippedFrom_42 : decode cX0_skippedFrom 42 = .ok (.ireturn, 1) := by decide +kernel
theorem dX0_step_0 : decode cX0_step 0 = .ok (.aload_n 0, 1) := by decide +kernel
theorem dX0_step_1 : decode cX0_step 1 = .ok (.getfield 34, 3) := by decide +kernel
theorem dX0_step_4 : decode cX0_step 4 = .ok (.istore_n 1, 1) := by decide +kernel
theorem dX0_step_5 : decode cX0_step 5 = .ok (.iconst 0, 1) := by decide +kernel
theorem dX0_step_6 : decode cX0_step 6 = .ok (.istore_n 2, 1) := by decide +kernel
theorem dX0_step_7 : decode cX0_step 7 = .ok (.iload_n 2, 1) := by decide +kernel
theorem dX0_step_8 : decode cX0_step 8 = .ok (.aload_n 0, 1) := by decide +kernel
theorem dX0_step_9 : decode cX0_step 9 = .ok (.getfield 24, 3) := by decide +kernel
theorem dX0_step_12 : decode cX0_step 12 = .ok (.if_icmp .ge 53, 3) := by decide +kernel
theorem dX0_step_15 : decode cX0_step 15 = .ok (.iload_n 1, 1) := by decide +kernel
theorem dX0_step_16 : decode cX0_step 16 = .ok (.ifCond .le 49, 3) := by decide +kernel
theorem dX0_step_19 : decode cX0_step 19 = .ok (.aload_n 0, 1) := by decide +kernel
theorem dX0_step_20 : decode cX0_step 20 = .ok (.iload_n 2, 1) := by decide +kernel
theorem dX0_step_21 : decode cX0_step 21 = .ok (.invokevirtual 54, 3) := by decide +kernel
theorem dX0_step_24 : decode cX0_step 24 = .ok (.ifCond .eq 35, 3) := by decide +kernel
theorem dX0_step_27 : decode cX0_step 27 = .ok (.aload_n 0, 1) := by decide +kernel
theorem dX0_step_28 : decode cX0_step 28 = .ok (.iload_n 2, 1) := by decide +kernel
theorem dX0_step_29 : decode cX0_step 29 = .ok (.invokevirtual 57, 3) := by decide +kernel
theorem dX0_step_32 : decode cX0_step 32 = .ok (.ifCond .ne 27, 3) := by decide +kernel
theorem dX0_step_35 : decode cX0_step 35 = .ok (.aload_n 0, 1) := by decide +kernel
theorem dX0_step_36 : decode cX0_step 36 = .ok (.getfield 15, 3) := by decide +kernel
theorem dX0_step_39 : decode cX0_step 39 = .ok (.iload_n 2, 1) := by decide +kernel
theorem dX0_step_40 : decode cX0_step 40 = .ok (.aload_n 0, 1) := by decide +kernel
theorem dX0_step_41 : decode cX0_step 41 = .ok (.iload_n 2, 1) := by decide +kernel
theorem dX0_step_42 : decode cX0_step 42 = .ok (.invokevirtual 60, 3) := by decide +kernel
theorem dX0_step_45 : decode cX0_step 45 = .ok (.iastore, 1) := by decide +kernel
theorem dX0_step_46 : decode cX0_step 46 = .ok (.aload_n 0, 1) := by decide +kernel
theorem dX0_step_47 : decode cX0_step 47 = .ok (.dup, 1) := by decide +kernel
theorem dX0_step_48 : decode cX0_step 48 = .ok (.getfield 40, 3) := by decide +kernel
theorem dX0_step_51 : decode cX0_step 51 = .ok (.iconst 1, 1) := by decide +kernel
theorem dX0_step_52 : decode cX0_step 52 = .ok (.iadd, 1) := by decide +kernel
theorem dX0_step_53 : decode cX0_step 53 = .ok (.putfield 40, 3) := by decide +kernel
theorem dX0_step_56 : decode cX0_step 56 = .ok (.iinc 1 (-1), 3) := by decide +kernel
theorem dX0_step_59 : decode cX0_step 59 = .ok (.iinc 2 1, 3) := by decide +kernel
theorem dX0_step_62 : decode cX0_step 62 = .ok (.goto (-55), 3) := by decide +kernel
theorem dX0_step_65 : decode cX0_step 65 = .ok (.aload_n 0, 1) := by decide +kernel
theorem dX0_step_66 : decode cX0_step 66 = .ok (.dup, 1) := by decide +kernel
theorem dX0_step_67 : decode cX0_step 67 = .ok (.getfield 37, 3) := by decide +kernel
theorem dX0_step_70 : decode cX0_step 70 = .ok (.iconst 1, 1) := by decide +kernel
theorem dX0_step_71 : decode cX0_step 71 = .ok (.iadd, 1) := by decide +kernel
theorem dX0_step_72 : decode cX0_step 72 = .ok (.putfield 37, 3) := by decide +kernel
theorem dX0_step_75 : decode cX0_step 75 = .ok (.return_, 1) := by decide +kernel
theorem dX0_stepOn_0 : decode cX0_stepOn 0 = .ok (.iconst 0, 1) := by decide +kernel
theorem dX0_stepOn_1 : decode cX0_stepOn 1 = .ok (.istore_n 2, 1) := by decide +kernel
theorem dX0_stepOn_2 : decode cX0_stepOn 2 = .ok (.iload_n 2, 1) := by decide +kernel
theorem dX0_stepOn_3 : decode cX0_stepOn 3 = .ok (.iload_n 1, 1) := by decide +kernel
theorem dX0_stepOn_4 : decode cX0_stepOn 4 = .ok (.if_icmp .ge 13, 3) := by decide +kernel
theorem dX0_stepOn_7 : decode cX0_stepOn 7 = .ok (.aload_n 0, 1) := by decide +kernel
theorem dX0_stepOn_8 : decode cX0_stepOn 8 = .ok (.invokevirtual 64, 3) := by decide +kernel
theorem dX0_stepOn_11 : decode cX0_stepOn 11 = .ok (.iinc 2 1, 3) := by decide +kernel
theorem dX0_stepOn_14 : decode cX0_stepOn 14 = .ok (.goto (-12), 3) := by decide +kernel
theorem dX0_stepOn_17 : decode cX0_stepOn 17 = .ok (.return_, 1) := by decide +kernel
theorem dX0_isTold_0 : decode cX0_isTold 0 = .ok (.iconst 0, 1) := by decide +kernel
theorem dX0_isTold_1 : decode cX0_isTold 1 = .ok (.istore_n 1, 1) := by decide +kernel
theorem dX0_isTold_2 : decode cX0_isTold 2 = .ok (.iload_n 1, 1) := by decide +kernel
theorem dX0_isTold_3 : decode cX0_isTold 3 = .ok (.aload_n 0, 1) := by decide +kernel
theorem dX0_isTold_4 : decode cX0_isTold 4 = .ok (.getfield 24, 3) := by decide +kernel
theorem dX0_isTold_7 : decode cX0_isTold 7 = .ok (.if_icmp .ge 26, 3) := by decide +kernel
theorem dX0_isTold_10 : decode cX0_isTold 10 = .ok (.aload_n 0, 1) := by decide +kernel
theorem dX0_isTold_11 : decode cX0_isTold 11 = .ok (.getfield 15, 3) := by decide +kernel
theorem dX0_isTold_14 : decode cX0_isTold 14 = .ok (.iload_n 1, 1) := by decide +kernel
theorem dX0_isTold_15 : decode cX0_isTold 15 = .ok (.iaload, 1) := by decide +kernel
theorem dX0_isTold_16 : decode cX0_isTold 16 = .ok (.aload_n 0, 1) := by decide +kernel
theorem dX0_isTold_17 : decode cX0_isTold 17 = .ok (.getfield 18, 3) := by decide +kernel
theorem dX0_isTold_20 : decode cX0_isTold 20 = .ok (.iload_n 1, 1) := by decide +kernel
theorem dX0_isTold_21 : decode cX0_isTold 21 = .ok (.iaload, 1) := by decide +kernel
theorem dX0_isTold_22 : decode cX0_isTold 22 = .ok (.if_icmp .eq 5, 3) := by decide +kernel
theorem dX0_isTold_25 : decode cX0_isTold 25 = .ok (.iconst 0, 1) := by decide +kernel
theorem dX0_isTold_26 : decode cX0_isTold 26 = .ok (.ireturn, 1) := by decide +kernel
theorem dX0_isTold_27 : decode cX0_isTold 27 = .ok (.iinc 1 1, 3) := by decide +kernel
theorem dX0_isTold_30 : decode cX0_isTold 30 = .ok (.goto (-28), 3) := by decide +kernel
theorem dX0_isTold_33 : decode cX0_isTold 33 = .ok (.iconst 1, 1) := by decide +kernel
theorem dX0_isTold_34 : decode cX0_isTold 34 = .ok (.ireturn, 1) := by decide +kernel
theorem dX0_rightOnes_0 : decode cX0_rightOnes 0 = .ok (.iconst 0, 1) := by decide +kernel
theorem dX0_rightOnes_1 : decode cX0_rightOnes 1 = .ok (.istore_n 1, 1) := by decide +kernel
theorem dX0_rightOnes_2 : decode cX0_rightOnes 2 = .ok (.iconst 0, 1) := by decide +kernel
theorem dX0_rightOnes_3 : decode cX0_rightOnes 3 = .ok (.istore_n 2, 1) := by decide +kernel
theorem dX0_rightOnes_4 : decode cX0_rightOnes 4 = .ok (.iload_n 2, 1) := by decide +kernel
theorem dX0_rightOnes_5 : decode cX0_rightOnes 5 = .ok (.aload_n 0, 1) := by decide +kernel
theorem dX0_rightOnes_6 : decode cX0_rightOnes 6 = .ok (.getfield 24, 3) := by decide +kernel
theorem dX0_rightOnes_9 : decode cX0_rightOnes 9 = .ok (.if_icmp .ge 30, 3) := by decide +kernel
theorem dX0_rightOnes_12 : decode cX0_rightOnes 12 = .ok (.aload_n 0, 1) := by decide +kernel
theorem dX0_rightOnes_13 : decode cX0_rightOnes 13 = .ok (.getfield 15, 3) := by decide +kernel
theorem dX0_rightOnes_16 : decode cX0_rightOnes 16 = .ok (.iload_n 2, 1) := by decide +kernel
theorem dX0_rightOnes_17 : decode cX0_rightOnes 17 = .ok (.iaload, 1) := by decide +kernel
theorem dX0_rightOnes_18 : decode cX0_rightOnes 18 = .ok (.aload_n 0, 1) := by decide +kernel
theorem dX0_rightOnes_19 : decode cX0_rightOnes 19 = .ok (.getfield 18, 3) := by decide +kernel
theorem dX0_rightOnes_22 : decode cX0_rightOnes 22 = .ok (.iload_n 2, 1) := by decide +kernel
theorem dX0_rightOnes_23 : decode cX0_rightOnes 23 = .ok (.iaload, 1) := by decide +kernel
theorem dX0_rightOnes_24 : decode cX0_rightOnes 24 = .ok (.if_icmp .ne 9, 3) := by decide +kernel
theorem dX0_rightOnes_27 : decode cX0_rightOnes 27 = .ok (.iload_n 1, 1) := by decide +kernel
theorem dX0_rightOnes_28 : decode cX0_rightOnes 28 = .ok (.iconst 1, 1) := by decide +kernel
theorem dX0_rightOnes_29 : decode cX0_rightOnes 29 = .ok (.iload_n 2, 1) := by decide +kernel
theorem dX0_rightOnes_30 : decode cX0_rightOnes 30 = .ok (.ishl, 1) := by decide +kernel
theorem dX0_rightOnes_31 : decode cX0_rightOnes 31 = .ok (.ior, 1) := by decide +kernel
theorem dX0_rightOnes_32 : decode cX0_rightOnes 32 = .ok (.istore_n 1, 1) := by decide +kernel
theorem dX0_rightOnes_33 : decode cX0_rightOnes 33 = .ok (.iinc 2 1, 3) := by decide +kernel
theorem dX0_rightOnes_36 : decode cX0_rightOnes 36 = .ok (.goto (-32), 3) := by decide +kernel
theorem dX0_rightOnes_39 : decode cX0_rightOnes 39 = .ok (.iload_n 1, 1) := by decide +kernel
theorem dX0_rightOnes_40 : decode cX0_rightOnes 40 = .ok (.ireturn, 1) := by decide +kernel
theorem dX0_drumsOf_0 : decode cX0_drumsOf 0 = .ok (.iconst 0, 1) := by decide +kernel
theorem dX0_drumsOf_1 : decode cX0_drumsOf 1 = .ok (.istore_n 2, 1) := by decide +kernel
theorem dX0_drumsOf_2 : decode cX0_drumsOf 2 = .ok (.iconst 0, 1) := by decide +kernel
theorem dX0_drumsOf_3 : decode cX0_drumsOf 3 = .ok (.istore_n 3, 1) := by decide +kernel
theorem dX0_drumsOf_4 : decode cX0_drumsOf 4 = .ok (.iload_n 3, 1) := by decide +kernel
theorem dX0_drumsOf_5 : decode cX0_drumsOf 5 = .ok (.aload_n 0, 1) := by decide +kernel
theorem dX0_drumsOf_6 : decode cX0_drumsOf 6 = .ok (.getfield 24, 3) := by decide +kernel
theorem dX0_drumsOf_9 : decode cX0_drumsOf 9 = .ok (.if_icmp .ge 30, 3) := by decide +kernel
theorem dX0_drumsOf_12 : decode cX0_drumsOf 12 = .ok (.iload_n 2, 1) := by decide +kernel
theorem dX0_drumsOf_13 : decode cX0_drumsOf 13 = .ok (.aload_n 0, 1) := by decide +kernel
theorem dX0_drumsOf_14 : decode cX0_drumsOf 14 = .ok (.getfield 9, 3) := by decide +kernel
theorem dX0_drumsOf_17 : decode cX0_drumsOf 17 = .ok (.iload_n 3, 1) := by decide +kernel
theorem dX0_drumsOf_18 : decode cX0_drumsOf 18 = .ok (.iaload, 1) := by decide +kernel
theorem dX0_drumsOf_19 : decode cX0_drumsOf 19 = .ok (.iload_n 1, 1) := by decide +kernel
theorem dX0_drumsOf_20 : decode cX0_drumsOf 20 = .ok (.invokestatic 67, 3) := by decide +kernel
theorem dX0_drumsOf_23 : decode cX0_drumsOf 23 = .ok (.ifCond .eq 7, 3) := by decide +kernel
theorem dX0_drumsOf_26 : decode cX0_drumsOf 26 = .ok (.iconst 1, 1) := by decide +kernel
theorem dX0_drumsOf_27 : decode cX0_drumsOf 27 = .ok (.goto 4, 3) := by decide +kernel
theorem dX0_drumsOf_30 : decode cX0_drumsOf 30 = .ok (.iconst 0, 1) := by decide +kernel
theorem dX0_drumsOf_31 : decode cX0_drumsOf 31 = .ok (.iadd, 1) := by decide +kernel
theorem dX0_drumsOf_32 : decode cX0_drumsOf 32 = .ok (.istore_n 2, 1) := by decide +kernel
theorem dX0_drumsOf_33 : decode cX0_drumsOf 33 = .ok (.iinc 3 1, 3) := by decide +kernel
theorem dX0_drumsOf_36 : decode cX0_drumsOf 36 = .ok (.goto (-32), 3) := by decide +kernel
theorem dX0_drumsOf_39 : decode cX0_drumsOf 39 = .ok (.iload_n 2, 1) := by decide +kernel
theorem dX0_drumsOf_40 : decode cX0_drumsOf 40 = .ok (.ireturn, 1) := by decide +kernel
theorem dX0_number_0 : decode cX0_number 0 = .ok (.iconst 0, 1) := by decide +kernel
theorem dX0_number_1 : decode cX0_number 1 = .ok (.istore_n 1, 1) := by decide +kernel
theorem dX0_number_2 : decode cX0_number 2 = .ok (.iconst 0, 1) := by decide +kernel
theorem dX0_number_3 : decode cX0_number 3 = .ok (.istore_n 2, 1) := by decide +kernel
theorem dX0_number_4 : decode cX0_number 4 = .ok (.iload_n 2, 1) := by decide +kernel
theorem dX0_number_5 : decode cX0_number 5 = .ok (.aload_n 0, 1) := by decide +kernel
theorem dX0_number_6 : decode cX0_number 6 = .ok (.getfield 24, 3) := by decide +kernel
theorem dX0_number_9 : decode cX0_number 9 = .ok (.if_icmp .ge 21, 3) := by decide +kernel
theorem dX0_number_12 : decode cX0_number 12 = .ok (.iload_n 1, 1) := by decide +kernel
theorem dX0_number_13 : decode cX0_number 13 = .ok (.bipush 10, 2) := by decide +kernel
theorem dX0_number_15 : decode cX0_number 15 = .ok (.imul, 1) := by decide +kernel
theorem dX0_number_16 : decode cX0_number 16 = .ok (.aload_n 0, 1) := by decide +kernel
theorem dX0_number_17 : decode cX0_number 17 = .ok (.getfield 15, 3) := by decide +kernel
theorem dX0_number_20 : decode cX0_number 20 = .ok (.iload_n 2, 1) := by decide +kernel
theorem dX0_number_21 : decode cX0_number 21 = .ok (.iaload, 1) := by decide +kernel
theorem dX0_number_22 : decode cX0_number 22 = .ok (.iadd, 1) := by decide +kernel
theorem dX0_number_23 : decode cX0_number 23 = .ok (.istore_n 1, 1) := by decide +kernel
theorem dX0_number_24 : decode cX0_number 24 = .ok (.iinc 2 1, 3) := by decide +kernel
theorem dX0_number_27 : decode cX0_number 27 = .ok (.goto (-23), 3) := by decide +kernel
theorem dX0_number_30 : decode cX0_number 30 = .ok (.iload_n 1, 1) := by decide +kernel
theorem dX0_number_31 : decode cX0_number 31 = .ok (.ireturn, 1) := by decide +kernel
theorem dX0_aimAt_0 : decode cX0_aimAt 0 = .ok (.iload_n 1, 1) := by decide +kernel
theorem dX0_aimAt_1 : decode cX0_aimAt 1 = .ok (.istore_n 2, 1) := by decide +kernel
theorem dX0_aimAt_2 : decode cX0_aimAt 2 = .ok (.aload_n 0, 1) := by decide +kernel
theorem dX0_aimAt_3 : decode cX0_aimAt 3 = .ok (.getfield 24, 3) := by decide +kernel
theorem dX0_aimAt_6 : decode cX0_aimAt 6 = .ok (.iconst 1, 1) := by decide +kernel
theorem dX0_aimAt_7 : decode cX0_aimAt 7 = .ok (.isub, 1) := by decide +kernel
theorem dX0_aimAt_8 : decode cX0_aimAt 8 = .ok (.istore_n 3, 1) := by decide +kernel
theorem dX0_aimAt_9 : decode cX0_aimAt 9 = .ok (.iload_n 3, 1) := by decide +kernel
theorem dX0_aimAt_10 : decode cX0_aimAt 10 = .ok (.ifCond .lt 24, 3) := by decide +kernel
theorem dX0_aimAt_13 : decode cX0_aimAt 13 = .ok (.aload_n 0, 1) := by decide +kernel
theorem dX0_aimAt_14 : decode cX0_aimAt 14 = .ok (.getfield 18, 3) := by decide +kernel
theorem dX0_aimAt_17 : decode cX0_aimAt 17 = .ok (.iload_n 3, 1) := by decide +kernel
theorem dX0_aimAt_18 : decode cX0_aimAt 18 = .ok (.iload_n 2, 1) := by decide +kernel
theorem dX0_aimAt_19 : decode cX0_aimAt 19 = .ok (.bipush 10, 2) := by decide +kernel
theorem dX0_aimAt_21 : decode cX0_aimAt 21 = .ok (.irem, 1) := by decide +kernel
theorem dX0_aimAt_22 : decode cX0_aimAt 22 = .ok (.iastore, 1) := by decide +kernel
theorem dX0_aimAt_23 : decode cX0_aimAt 23 = .ok (.iload_n 2, 1) := by decide +kernel
theorem dX0_aimAt_24 : decode cX0_aimAt 24 = .ok (.bipush 10, 2) := by decide +kernel
theorem dX0_aimAt_26 : decode cX0_aimAt 26 = .ok (.idiv, 1) := by decide +kernel
theorem dX0_aimAt_27 : decode cX0_aimAt 27 = .ok (.istore_n 2, 1) := by decide +kernel
theorem dX0_aimAt_28 : decode cX0_aimAt 28 = .ok (.iinc 3 (-1), 3) := by decide +kernel
theorem dX0_aimAt_31 : decode cX0_aimAt 31 = .ok (.goto (-22), 3) := by decide +kernel
theorem dX0_aimAt_34 : decode cX0_aimAt 34 = .ok (.return_, 1) := by decide +kernel
theorem dX0_ticksTillTold_0 : decode cX0_ticksTillTold 0 = .ok (.aload_n 0, 1) := by decide +kernel
theorem dX0_ticksTillTold_1 : decode cX0_ticksTillTold 1 = .ok (.getfield 43, 3) := by decide +kernel
theorem dX0_ticksTillTold_4 : decode cX0_ticksTillTold 4 = .ok (.aload_n 0, 1) := by decide +kernel
theorem dX0_ticksTillTold_5 : decode cX0_ticksTillTold 5 = .ok (.invokevirtual 71, 3) := by decide +kernel
theorem dX0_ticksTillTold_8 : decode cX0_ticksTillTold 8 = .ok (.iconst (-1), 1) := by decide +kernel
theorem dX0_ticksTillTold_9 : decode cX0_ticksTillTold 9 = .ok (.ixor, 1) := by decide +kernel
theorem dX0_ticksTillTold_10 : decode cX0_ticksTillTold 10 = .ok (.iand, 1) := by decide +kernel
theorem dX0_ticksTillTold_11 : decode cX0_ticksTillTold 11 = .ok (.ifCond .eq 7, 3) := by decide +kernel
theorem dX0_ticksTillTold_14 : decode cX0_ticksTillTold 14 = .ok (.iload_n 1, 1) := by decide +kernel
theorem dX0_ticksTillTold_15 : decode cX0_ticksTillTold 15 = .ok (.iconst 1, 1) := by decide +kernel
theorem dX0_ticksTillTold_16 : decode cX0_ticksTillTold 16 = .ok (.iadd, 1) := by decide +kernel
theorem dX0_ticksTillTold_17 : decode cX0_ticksTillTold 17 = .ok (.ireturn, 1) := by decide +kernel
theorem dX0_ticksTillTold_18 : decode cX0_ticksTillTold 18 = .ok (.iconst 0, 1) := by decide +kernel
theorem dX0_ticksTillTold_19 : decode cX0_ticksTillTold 19 = .ok (.istore_n 2, 1) := by decide +kernel
theorem dX0_ticksTillTold_20 : decode cX0_ticksTillTold 20 = .ok (.iload_n 2, 1) := by decide +kernel
theorem dX0_ticksTillTold_21 : decode cX0_ticksTillTold 21 = .ok (.iload_n 1, 1) := by decide +kernel
theorem dX0_ticksTillTold_22 : decode cX0_ticksTillTold 22 = .ok (.if_icmp .gt 20, 3) := by decide +kernel
theorem dX0_ticksTillTold_25 : decode cX0_ticksTillTold 25 = .ok (.aload_n 0, 1) := by decide +kernel
theorem dX0_ticksTillTold_26 : decode cX0_ticksTillTold 26 = .ok (.invokevirtual 75, 3) := by decide +kernel
theorem dX0_ticksTillTold_29 : decode cX0_ticksTillTold 29 = .ok (.ifCond .ne 13, 3) := by decide +kernel
theorem dX0_ticksTillTold_32 : decode cX0_ticksTillTold 32 = .ok (.aload_n 0, 1) := by decide +kernel
theorem dX0_ticksTillTold_33 : decode cX0_ticksTillTold 33 = .ok (.invokevirtual 64, 3) := by decide +kernel
theorem dX0_ticksTillTold_36 : decode cX0_ticksTillTold 36 = .ok (.iinc 2 1, 3) := by decide +kernel
theorem dX0_ticksTillTold_39 : decode cX0_ticksTillTold 39 = .ok (.goto (-19), 3) := by decide +kernel
theorem dX0_ticksTillTold_42 : decode cX0_ticksTillTold 42 = .ok (.iload_n 2, 1) := by decide +kernel
theorem dX0_ticksTillTold_43 : decode cX0_ticksTillTold 43 = .ok (.ireturn, 1) := by decide +kernel
theorem dX0_carryOut_0 : decode cX0_carryOut 0 = .ok (.iload_n 1, 1) := by decide +kernel
theorem dX0_carryOut_1 : decode cX0_carryOut 1 = .ok (.invokestatic 79, 3) := by decide +kernel
theorem dX0_carryOut_4 : decode cX0_carryOut 4 = .ok (.istore_n 2, 1) := by decide +kernel
theorem dX0_carryOut_5 : decode cX0_carryOut 5 = .ok (.iload_n 1, 1) := by decide +kernel
theorem dX0_carryOut_6 : decode cX0_carryOut 6 = .ok (.invokestatic 84, 3) := by decide +kernel
theorem dX0_carryOut_9 : decode cX0_carryOut 9 = .ok (.tableswitch 77 0 3 #[31, 38, 51, 62], 31) := by decide +kernel
theorem dX0_carryOut_40 : decode cX0_carryOut 40 = .ok (.aload_n 0, 1) := by decide +kernel
theorem dX0_carryOut_41 : decode cX0_carryOut 41 = .ok (.invokevirtual 64, 3) := by decide +kernel
theorem dX0_carryOut_44 : decode cX0_carryOut 44 = .ok (.goto 42, 3) := by decide +kernel
theorem dX0_carryOut_47 : decode cX0_carryOut 47 = .ok (.aload_n 0, 1) := by decide +kernel
theorem dX0_carryOut_48 : decode cX0_carryOut 48 = .ok (.getfield 18, 3) := by decide +kernel
theorem dX0_carryOut_51 : decode cX0_carryOut 51 = .ok (.iload_n 2, 1) := by decide +kernel
theorem dX0_carryOut_52 : decode cX0_carryOut 52 = .ok (.iload_n 1, 1) := by decide +kernel
theorem dX0_carryOut_53 : decode cX0_carryOut 53 = .ok (.invokestatic 87, 3) := by decide +kernel
theorem dX0_carryOut_56 : decode cX0_carryOut 56 = .ok (.iastore, 1) := by decide +kernel
theorem dX0_carryOut_57 : decode cX0_carryOut 57 = .ok (.goto 29, 3) := by decide +kernel
theorem dX0_carryOut_60 : decode cX0_carryOut 60 = .ok (.aload_n 0, 1) := by decide +kernel
theorem dX0_carryOut_61 : decode cX0_carryOut 61 = .ok (.iload_n 1, 1) := by decide +kernel
theorem dX0_carryOut_62 : decode cX0_carryOut 62 = .ok (.invokestatic 87, 3) := by decide +kernel
theorem dX0_carryOut_65 : decode cX0_carryOut 65 = .ok (.putfield 34, 3) := by decide +kernel
theorem dX0_carryOut_68 : decode cX0_carryOut 68 = .ok (.goto 18, 3) := by decide +kernel
theorem dX0_carryOut_71 : decode cX0_carryOut 71 = .ok (.aload_n 0, 1) := by decide +kernel
theorem dX0_carryOut_72 : decode cX0_carryOut 72 = .ok (.dup, 1) := by decide +kernel
theorem dX0_carryOut_73 : decode cX0_carryOut 73 = .ok (.getfield 43, 3) := by decide +kernel
theorem dX0_carryOut_76 : decode cX0_carryOut 76 = .ok (.iconst 1, 1) := by decide +kernel
theorem dX0_carryOut_77 : decode cX0_carryOut 77 = .ok (.iload_n 2, 1) := by decide +kernel
theorem dX0_carryOut_78 : decode cX0_carryOut 78 = .ok (.ishl, 1) := by decide +kernel
theorem dX0_carryOut_79 : decode cX0_carryOut 79 = .ok (.ixor, 1) := by decide +kernel
theorem dX0_carryOut_80 : decode cX0_carryOut 80 = .ok (.putfield 43, 3) := by decide +kernel
theorem dX0_carryOut_83 : decode cX0_carryOut 83 = .ok (.goto 3, 3) := by decide +kernel
theorem dX0_carryOut_86 : decode cX0_carryOut 86 = .ok (.return_, 1) := by decide +kernel
theorem dX1_init_0 : decode cX1_init 0 = .ok (.aload_n 0, 1) := by decide +kernel
theorem dX1_init_1 : decode cX1_init 1 = .ok (.invokespecial 3, 3) := by decide +kernel
theorem dX1_init_4 : decode cX1_init 4 = .ok (.aload_n 0, 1) := by decide +kernel
theorem dX1_init_5 : decode cX1_init 5 = .ok (.bipush 40, 2) := by decide +kernel
theorem dX1_init_7 : decode cX1_init 7 = .ok (.newarray .int, 2) := by decide +kernel
theorem dX1_init_9 : decode cX1_init 9 = .ok (.putfield 9, 3) := by decide +kernel
theorem dX1_init_12 : decode cX1_init 12 = .ok (.return_, 1) := by decide +kernel
theorem dX1_packed_0 : decode cX1_packed 0 = .ok (.iload_n 0, 1) := by decide +kernel
theorem dX1_packed_1 : decode cX1_packed 1 = .ok (.bipush 8, 2) := by decide +kernel
theorem dX1_packed_3 : decode cX1_packed 3 = .ok (.ishl, 1) := by decide +kernel
theorem dX1_packed_4 : decode cX1_packed 4 = .ok (.iload_n 1, 1) := by decide +kernel
theorem dX1_packed_5 : decode cX1_packed 5 = .ok (.iconst 4, 1) := by decide +kernel
theorem dX1_packed_6 : decode cX1_packed 6 = .ok (.ishl, 1) := by decide +kernel
theorem dX1_packed_7 : decode cX1_packed 7 = .ok (.ior, 1) := by decide +kernel
theorem dX1_packed_8 : decode cX1_packed 8 = .ok (.iload_n 2, 1) := by decide +kernel
theorem dX1_packed_9 : decode cX1_packed 9 = .ok (.ior, 1) := by decide +kernel
theorem dX1_packed_10 : decode cX1_packed 10 = .ok (.ireturn, 1) := by decide +kernel
theorem dX1_whatOf_0 : decode cX1_whatOf 0 = .ok (.iload_n 0, 1) := by decide +kernel
theorem dX1_whatOf_1 : decode cX1_whatOf 1 = .ok (.bipush 8, 2) := by decide +kernel
theorem dX1_whatOf_3 : decode cX1_whatOf 3 = .ok (.ishr, 1) := by decide +kernel
theorem dX1_whatOf_4 : decode cX1_whatOf 4 = .ok (.ireturn, 1) := by decide +kernel
theorem dX1_drumOf_0 : decode cX1_drumOf 0 = .ok (.iload_n 0, 1) := by decide +kernel
theorem dX1_drumOf_1 : decode cX1_drumOf 1 = .ok (.iconst 4, 1) := by decide +kernel
theorem dX1_drumOf_2 : decode cX1_drumOf 2 = .ok (.ishr, 1) := by decide +kernel
theorem dX1_drumOf_3 : decode cX1_drumOf 3 = .ok (.bipush 15, 2) := by decide +kernel
theorem dX1_drumOf_5 : decode cX1_drumOf 5 = .ok (.iand, 1) := by decide +kernel
theorem dX1_drumOf_6 : decode cX1_drumOf 6 = .ok (.ireturn, 1) := by decide +kernel
theorem dX1_valueOf_0 : decode cX1_valueOf 0 = .ok (.iload_n 0, 1) := by decide +kernel
theorem dX1_valueOf_1 : decode cX1_valueOf 1 = .ok (.bipush 15, 2) := by decide +kernel
theorem dX1_valueOf_3 : decode cX1_valueOf 3 = .ok (.iand, 1) := by decide +kernel
theorem dX1_valueOf_4 : decode cX1_valueOf 4 = .ok (.ireturn, 1) := by decide +kernel
theorem dX1_isFull_0 : decode cX1_isFull 0 = .ok (.aload_n 0, 1) := by decide +kernel
theorem dX1_isFull_1 : decode cX1_isFull 1 = .ok (.getfield 15, 3) := by decide +kernel
theorem dX1_isFull_4 : decode cX1_isFull 4 = .ok (.iload_n 1, 1) := by decide +kernel
theorem dX1_isFull_5 : decode cX1_isFull 5 = .ok (.iadd, 1) := by decide +kernel
theorem dX1_isFull_6 : decode cX1_isFull 6 = .ok (.bipush 40, 2) := by decide +kernel
theorem dX1_isFull_8 : decode cX1_isFull 8 = .ok (.if_icmp .le 7, 3) := by decide +kernel
theorem dX1_isFull_11 : decode cX1_isFull 11 = .ok (.iconst 1, 1) := by decide +kernel
theorem dX1_isFull_12 : decode cX1_isFull 12 = .ok (.goto 4, 3) := by decide +kernel
theorem dX1_isFull_15 : decode cX1_isFull 15 = .ok (.iconst 0, 1) := by decide +kernel
theorem dX1_isFull_16 : decode cX1_isFull 16 = .ok (.ireturn, 1) := by decide +kernel
theorem dX1_add_0 : decode cX1_add 0 = .ok (.aload_n 0, 1) := by decide +kernel
theorem dX1_add_1 : decode cX1_add 1 = .ok (.getfield 15, 3) := by decide +kernel
theorem dX1_add_4 : decode cX1_add 4 = .ok (.bipush 40, 2) := by decide +kernel
theorem dX1_add_6 : decode cX1_add 6 = .ok (.if_icmp .ge 23, 3) := by decide +kernel
theorem dX1_add_9 : decode cX1_add 9 = .ok (.aload_n 0, 1) := by decide +kernel
theorem dX1_add_10 : decode cX1_add 10 = .ok (.getfield 9, 3) := by decide +kernel
theorem dX1_add_13 : decode cX1_add 13 = .ok (.aload_n 0, 1) := by decide +kernel
theorem dX1_add_14 : decode cX1_add 14 = .ok (.getfield 15, 3) := by decide +kernel
theorem dX1_add_17 : decode cX1_add 17 = .ok (.iload_n 1, 1) := by decide +kernel
theorem dX1_add_18 : decode cX1_add 18 = .ok (.iastore, 1) := by decide +kernel
theorem dX1_add_19 : decode cX1_add 19 = .ok (.aload_n 0, 1) := by decide +kernel
theorem dX1_add_20 : decode cX1_add 20 = .ok (.dup, 1) := by decide +kernel
theorem dX1_add_21 : decode cX1_add 21 = .ok (.getfield 15, 3) := by decide +kernel
theorem dX1_add_24 : decode cX1_add 24 = .ok (.iconst 1, 1) := by decide +kernel
theorem dX1_add_25 : decode cX1_add 25 = .ok (.iadd, 1) := by decide +kernel
theorem dX1_add_26 : decode cX1_add 26 = .ok (.putfield 15, 3) := by decide +kernel
theorem dX1_add_29 : decode cX1_add 29 = .ok (.return_, 1) := by decide +kernel
theorem dX1_become_0 : decode cX1_become 0 = .ok (.aload_n 1, 1) := by decide +kernel
theorem dX1_become_1 : decode cX1_become 1 = .ok (.getfield 9, 3) := by decide +kernel
theorem dX1_become_4 : decode cX1_become 4 = .ok (.iconst 0, 1) := by decide +kernel
theorem dX1_become_5 : decode cX1_become 5 = .ok (.aload_n 0, 1) := by decide +kernel
theorem dX1_become_6 : decode cX1_become 6 = .ok (.getfield 9, 3) := by decide +kernel
theorem dX1_become_9 : decode cX1_become 9 = .ok (.iconst 0, 1) := by decide +kernel
theorem dX1_become_10 : decode cX1_become 10 = .ok (.aload_n 1, 1) := by decide +kernel
theorem dX1_become_11 : decode cX1_become 11 = .ok (.getfield 15, 3) := by decide +kernel
theorem dX1_become_14 : decode cX1_become 14 = .ok (.invokestatic 19, 3) := by decide +kernel
theorem dX1_become_17 : decode cX1_become 17 = .ok (.aload_n 0, 1) := by decide +kernel
theorem dX1_become_18 : decode cX1_become 18 = .ok (.aload_n 1, 1) := by decide +kernel
theorem dX1_become_19 : decode cX1_become 19 = .ok (.getfield 15, 3) := by decide +kernel
theorem dX1_become_22 : decode cX1_become 22 = .ok (.putfield 15, 3) := by decide +kernel
theorem dX1_become_25 : decode cX1_become 25 = .ok (.return_, 1) := by decide +kernel
theorem dX2_init_0 : decode cX2_init 0 = .ok (.aload_n 0, 1) := by decide +kernel
theorem dX2_init_1 : decode cX2_init 1 = .ok (.invokespecial 3, 3) := by decide +kernel
theorem dX2_init_4 : decode cX2_init 4 = .ok (.aload_n 0, 1) := by decide +kernel
theorem dX2_init_5 : decode cX2_init 5 = .ok (.iconst 5, 1) := by decide +kernel
theorem dX2_init_6 : decode cX2_init 6 = .ok (.newarray .int, 2) := by decide +kernel
theorem dX2_init_8 : decode cX2_init 8 = .ok (.putfield 9, 3) := by decide +kernel
theorem dX2_init_11 : decode cX2_init 11 = .ok (.aload_n 0, 1) := by decide +kernel
theorem dX2_init_12 : decode cX2_init 12 = .ok (.iconst 5, 1) := by decide +kernel
theorem dX2_init_13 : decode cX2_init 13 = .ok (.newarray .int, 2) := by decide +kernel
theorem dX2_init_15 : decode cX2_init 15 = .ok (.putfield 15, 3) := by decide +kernel
theorem dX2_init_18 : decode cX2_init 18 = .ok (.aload_n 0, 1) := by decide +kernel
theorem dX2_init_19 : decode cX2_init 19 = .ok (.bipush 6, 2) := by decide +kernel
theorem dX2_init_21 : decode cX2_init 21 = .ok (.anewarray 18, 3) := by decide +kernel
theorem dX2_init_24 : decode cX2_init 24 = .ok (.putfield 20, 3) := by decide +kernel
theorem dX2_init_27 : decode cX2_init 27 = .ok (.iconst 0, 1) := by decide +kernel
theorem dX2_init_28 : decode cX2_init 28 = .ok (.istore_n 1, 1) := by decide +kernel
theorem dX2_init_29 : decode cX2_init 29 = .ok (.iload_n 1, 1) := by decide +kernel
theorem dX2_init_30 : decode cX2_init 30 = .ok (.iconst 5, 1) := by decide +kernel
theorem dX2_init_31 : decode cX2_init 31 = .ok (.if_icmp .gt 22, 3) := by decide +kernel
theorem dX2_init_34 : decode cX2_init 34 = .ok (.aload_n 0, 1) := by decide +kernel
theorem dX2_init_35 : decode cX2_init 35 = .ok (.getfield 20, 3) := by decide +kernel
theorem dX2_init_38 : decode cX2_init 38 = .ok (.iload_n 1, 1) := by decide +kernel
theorem dX2_init_39 : decode cX2_init 39 = .ok (.new 18, 3) := by decide +kernel
theorem dX2_init_42 : decode cX2_init 42 = .ok (.dup, 1) := by decide +kernel
theorem dX2_init_43 : decode cX2_init 43 = .ok (.invokespecial 24, 3) := by decide +kernel
theorem dX2_init_46 : decode cX2_init 46 = .ok (.aastore, 1) := by decide +kernel
theorem dX2_init_47 : decode cX2_init 47 = .ok (.iinc 1 1, 3) := by decide +kernel
theorem dX2_init_50 : decode cX2_init 50 = .ok (.goto (-21), 3) := by decide +kernel
theorem dX2_init_53 : decode cX2_init 53 = .ok (.return_, 1) := by decide +kernel
theorem dX2_search_0 : decode cX2_search 0 = .ok (.aload_n 0, 1) := by decide +kernel
theorem dX2_search_1 : decode cX2_search 1 = .ok (.sipush 301, 3) := by decide +kernel
theorem dX2_search_4 : decode cX2_search 4 = .ok (.putfield 25, 3) := by decide +kernel
theorem dX2_search_7 : decode cX2_search 7 = .ok (.aload_n 0, 1) := by decide +kernel
theorem dX2_search_8 : decode cX2_search 8 = .ok (.getfield 20, 3) := by decide +kernel
theorem dX2_search_11 : decode cX2_search 11 = .ok (.iconst 0, 1) := by decide +kernel
theorem dX2_search_12 : decode cX2_search 12 = .ok (.aaload, 1) := by decide +kernel
theorem dX2_search_13 : decode cX2_search 13 = .ok (.aload_n 1, 1) := by decide +kernel
theorem dX2_search_14 : decode cX2_search 14 = .ok (.invokevirtual 29, 3) := by decide +kernel
theorem dX2_search_17 : decode cX2_search 17 = .ok (.aload_n 0, 1) := by decide +kernel
theorem dX2_search_18 : decode cX2_search 18 = .ok (.aload_n 2, 1) := by decide +kernel
theorem dX2_search_19 : decode cX2_search 19 = .ok (.iconst 0, 1) := by decide +kernel
theorem dX2_search_20 : decode cX2_search 20 = .ok (.iconst 0, 1) := by decide +kernel
theorem dX2_search_21 : decode cX2_search 21 = .ok (.iconst 0, 1) := by decide +kernel
theorem dX2_search_22 : decode cX2_search 22 = .ok (.invokevirtual 33, 3) := by decide +kernel
theorem dX2_search_25 : decode cX2_search 25 = .ok (.aload_n 0, 1) := by decide +kernel
theorem dX2_search_26 : decode cX2_search 26 = .ok (.getfield 25, 3) := by decide +kernel
theorem dX2_search_29 : decode cX2_search 29 = .ok (.sipush 301, 3) := by decide +kernel
theorem dX2_search_32 : decode cX2_search 32 = .ok (.if_icmp .ne 8, 3) := by decide +kernel
theorem dX2_search_35 : decode cX2_search 35 = .ok (.bipush (-9), 2) := by decide +kernel
theorem dX2_search_37 : decode cX2_search 37 = .ok (.goto 7, 3) := by decide +kernel
theorem dX2_search_40 : decode cX2_search 40 = .ok (.aload_n 0, 1) := by decide +kernel
theorem dX2_search_41 : decode cX2_search 41 = .ok (.getfield 25, 3) := by decide +kernel
theorem dX2_search_44 : decode cX2_search 44 = .ok (.ireturn, 1) := by decide +kernel
theorem dX2_goOn_0 : decode cX2_goOn 0 = .ok (.iload_n 2, 1) := by decide +kernel
theorem dX2_goOn_1 : decode cX2_goOn 1 = .ok (.aload_n 1, 1) := by decide +kernel
theorem dX2_goOn_2 : decode cX2_goOn 2 = .ok (.getfield 37, 3) := by decide +kernel
theorem dX2_goOn_5 : decode cX2_goOn 5 = .ok (.if_icmp .ge 8, 3) := by decide +kernel
theorem dX2_goOn_8 : decode cX2_goOn 8 = .ok (.iload_n 2, 1) := by decide +kernel
theorem dX2_goOn_9 : decode cX2_goOn 9 = .ok (.iconst 5, 1) := by decide +kernel
theorem dX2_goOn_10 : decode cX2_goOn 10 = .ok (.if_icmp .lt 24, 3) := by decide +kernel
theorem dX2_goOn_13 : decode cX2_goOn 13 = .ok (.aload_n 0, 1) := by decide +kernel
theorem dX2_goOn_14 : decode cX2_goOn 14 = .ok (.iload 4, 2) := by decide +kernel
theorem dX2_goOn_16 : decode cX2_goOn 16 = .ok (.putfield 25, 3) := by decide +kernel
theorem dX2_goOn_19 : decode cX2_goOn 19 = .ok (.aload_n 0, 1) := by decide +kernel
theorem dX2_goOn_20 : decode cX2_goOn 20 = .ok (.getfield 15, 3) := by decide +kernel
theorem dX2_goOn_23 : decode cX2_goOn 23 = .ok (.iconst 0, 1) := by decide +kernel
theorem dX2_goOn_24 : decode cX2_goOn 24 = .ok (.aload_n 0, 1) := by decide +kernel
theorem dX2_goOn_25 : decode cX2_goOn 25 = .ok (.getfield 9, 3) := by decide +kernel
theorem dX2_goOn_28 : decode cX2_goOn 28 = .ok (.iconst 0, 1) := by decide +kernel
theorem dX2_goOn_29 : decode cX2_goOn 29 = .ok (.iload_n 2, 1) := by decide +kernel
theorem dX2_goOn_30 : decode cX2_goOn 30 = .ok (.invokestatic 42, 3) := by decide +kernel
theorem dX2_goOn_33 : decode cX2_goOn 33 = .ok (.return_, 1) := by decide +kernel
theorem dX2_goOn_34 : decode cX2_goOn 34 = .ok (.aload_n 0, 1) := by decide +kernel
theorem dX2_goOn_35 : decode cX2_goOn 35 = .ok (.getfield 20, 3) := by decide +kernel
theorem dX2_goOn_38 : decode cX2_goOn 38 = .ok (.iload_n 2, 1) := by decide +kernel
theorem dX2_goOn_39 : decode cX2_goOn 39 = .ok (.iconst 1, 1) := by decide +kernel
theorem dX2_goOn_40 : decode cX2_goOn 40 = .ok (.iadd, 1) := by decide +kernel
theorem dX2_goOn_41 : decode cX2_goOn 41 = .ok (.aaload, 1) := by decide +kernel
theorem dX2_goOn_42 : decode cX2_goOn 42 = .ok (.astore 5, 2) := by decide +kernel
theorem dX2_goOn_44 : decode cX2_goOn 44 = .ok (.iconst 0, 1) := by decide +kernel
theorem dX2_goOn_45 : decode cX2_goOn 45 = .ok (.istore 6, 2) := by decide +kernel
theorem dX2_goOn_47 : decode cX2_goOn 47 = .ok (.iload 6, 2) := by decide +kernel
theorem dX2_goOn_49 : decode cX2_goOn 49 = .ok (.aload_n 1, 1) := by decide +kernel
theorem dX2_goOn_50 : decode cX2_goOn 50 = .ok (.getfield 37, 3) := by decide +kernel
theorem dX2_goOn_53 : decode cX2_goOn 53 = .ok (.if_icmp .ge 96, 3) := by decide +kernel
theorem dX2_goOn_56 : decode cX2_goOn 56 = .ok (.iload_n 3, 1) := by decide +kernel
theorem dX2_goOn_57 : decode cX2_goOn 57 = .ok (.iload 6, 2) := by decide +kernel
theorem dX2_goOn_59 : decode cX2_goOn 59 = .ok (.ishr, 1) := by decide +kernel
theorem dX2_goOn_60 : decode cX2_goOn 60 = .ok (.iconst 1, 1) := by decide +kernel
theorem dX2_goOn_61 : decode cX2_goOn 61 = .ok (.iand, 1) := by decide +kernel
theorem dX2_goOn_62 : decode cX2_goOn 62 = .ok (.ifCond .ne 81, 3) := by decide +kernel
theorem dX2_goOn_65 : decode cX2_goOn 65 = .ok (.aload 5, 2) := by decide +kernel
theorem dX2_goOn_67 : decode cX2_goOn 67 = .ok (.aload_n 0, 1) := by decide +kernel
theorem dX2_goOn_68 : decode cX2_goOn 68 = .ok (.getfield 20, 3) := by decide +kernel
theorem dX2_goOn_71 : decode cX2_goOn 71 = .ok (.iload_n 2, 1) := by decide +kernel
theorem dX2_goOn_72 : decode cX2_goOn 72 = .ok (.aaload, 1) := by decide +kernel
theorem dX2_goOn_73 : decode cX2_goOn 73 = .ok (.invokevirtual 29, 3) := by decide +kernel
theorem dX2_goOn_76 : decode cX2_goOn 76 = .ok (.aload 5, 2) := by decide +kernel
theorem dX2_goOn_78 : decode cX2_goOn 78 = .ok (.aload_n 1, 1) := by decide +kernel
theorem dX2_goOn_79 : decode cX2_goOn 79 = .ok (.getfield 48, 3) := by decide +kernel
theorem dX2_goOn_82 : decode cX2_goOn 82 = .ok (.iload 6, 2) := by decide +kernel
theorem dX2_goOn_84 : decode cX2_goOn 84 = .ok (.iaload, 1) := by decide +kernel
theorem dX2_goOn_85 : decode cX2_goOn 85 = .ok (.invokevirtual 51, 3) := by decide +kernel
theorem dX2_goOn_88 : decode cX2_goOn 88 = .ok (.aload 5, 2) := by decide +kernel
theorem dX2_goOn_90 : decode cX2_goOn 90 = .ok (.bipush 60, 2) := by decide +kernel
theorem dX2_goOn_92 : decode cX2_goOn 92 = .ok (.invokevirtual 55, 3) := by decide +kernel
theorem dX2_goOn_95 : decode cX2_goOn 95 = .ok (.istore 7, 2) := by decide +kernel
theorem dX2_goOn_97 : decode cX2_goOn 97 = .ok (.iload 7, 2) := by decide +kernel
theorem dX2_goOn_99 : decode cX2_goOn 99 = .ok (.bipush 60, 2) := by decide +kernel
theorem dX2_goOn_101 : decode cX2_goOn 101 = .ok (.if_icmp .gt 42, 3) := by decide +kernel
theorem dX2_goOn_104 : decode cX2_goOn 104 = .ok (.iload 4, 2) := by decide +kernel
theorem dX2_goOn_106 : decode cX2_goOn 106 = .ok (.iload 7, 2) := by decide +kernel
theorem dX2_goOn_108 : decode cX2_goOn 108 = .ok (.iadd, 1) := by decide +kernel
theorem dX2_goOn_109 : decode cX2_goOn 109 = .ok (.aload_n 0, 1) := by decide +kernel
theorem dX2_goOn_110 : decode cX2_goOn 110 = .ok (.getfield 25, 3) := by decide +kernel
theorem dX2_goOn_113 : decode cX2_goOn 113 = .ok (.if_icmp .ge 30, 3) := by decide +kernel
theorem dX2_goOn_116 : decode cX2_goOn 116 = .ok (.aload_n 0, 1) := by decide +kernel
theorem dX2_goOn_117 : decode cX2_goOn 117 = .ok (.getfield 15, 3) := by decide +kernel
theorem dX2_goOn_120 : decode cX2_goOn 120 = .ok (.iload_n 2, 1) := by decide +kernel
theorem dX2_goOn_121 : decode cX2_goOn 121 = .ok (.iload 6, 2) := by decide +kernel
theorem dX2_goOn_123 : decode cX2_goOn 123 = .ok (.iastore, 1) := by decide +kernel
theorem dX2_goOn_124 : decode cX2_goOn 124 = .ok (.aload_n 0, 1) := by decide +kernel
theorem dX2_goOn_125 : decode cX2_goOn 125 = .ok (.aload_n 1, 1) := by decide +kernel
theorem dX2_goOn_126 : decode cX2_goOn 126 = .ok (.iload_n 2, 1) := by decide +kernel
theorem dX2_goOn_127 : decode cX2_goOn 127 = .ok (.iconst 1, 1) := by decide +kernel
theorem dX2_goOn_128 : decode cX2_goOn 128 = .ok (.iadd, 1) := by decide +kernel
theorem dX2_goOn_129 : decode cX2_goOn 129 = .ok (.iload_n 3, 1) := by decide +kernel
theorem dX2_goOn_130 : decode cX2_goOn 130 = .ok (.iconst 1, 1) := by decide +kernel
theorem dX2_goOn_131 : decode cX2_goOn 131 = .ok (.iload 6, 2) := by decide +kernel
theorem dX2_goOn_133 : decode cX2_goOn 133 = .ok (.ishl, 1) := by decide +kernel
theorem dX2_goOn_134 : decode cX2_goOn 134 = .ok (.ior, 1) := by decide +kernel
theorem dX2_goOn_135 : decode cX2_goOn 135 = .ok (.iload 4, 2) := by decide +kernel
theorem dX2_goOn_137 : decode cX2_goOn 137 = .ok (.iload 7, 2) := by decide +kernel
theorem dX2_goOn_139 : decode cX2_goOn 139 = .ok (.iadd, 1) := by decide +kernel
theorem dX2_goOn_140 : decode cX2_goOn 140 = .ok (.invokevirtual 33, 3) := by decide +kernel
theorem dX2_goOn_143 : decode cX2_goOn 143 = .ok (.iinc 6 1, 3) := by decide +kernel
theorem dX2_goOn_146 : decode cX2_goOn 146 = .ok (.goto (-99), 3) := by decide +kernel
theorem dX2_goOn_149 : decode cX2_goOn 149 = .ok (.return_, 1) := by decide +kernel
theorem dX3_read_0 : decode cX3_read 0 = .ok (.aload_n 0, 1) := by decide +kernel
theorem dX3_read_1 : decode cX3_read 1 = .ok (.iconst 0, 1) := by decide +kernel
theorem dX3_read_2 : decode cX3_read 2 = .ok (.invokevirtual 9, 3) := by decide +kernel
theorem dX3_read_5 : decode cX3_read 5 = .ok (.istore_n 2, 1) := by decide +kernel
theorem dX3_read_6 : decode cX3_read 6 = .ok (.aload_n 0, 1) := by decide +kernel
theorem dX3_read_7 : decode cX3_read 7 = .ok (.iload_n 2, 1) := by decide +kernel
theorem dX3_read_8 : decode cX3_read 8 = .ok (.iconst 1, 1) := by decide +kernel
theorem dX3_read_9 : decode cX3_read 9 = .ok (.invokevirtual 15, 3) := by decide +kernel
theorem dX3_read_12 : decode cX3_read 12 = .ok (.ifCond .ne 5, 3) := by decide +kernel
theorem dX3_read_15 : decode cX3_read 15 = .ok (.iload_n 2, 1) := by decide +kernel
theorem dX3_read_16 : decode cX3_read 16 = .ok (.ireturn, 1) := by decide +kernel
theorem dX3_read_17 : decode cX3_read 17 = .ok (.aload_n 1, 1) := by decide +kernel
theorem dX3_read_18 : decode cX3_read 18 = .ok (.aload_n 0, 1) := by decide +kernel
theorem dX3_read_19 : decode cX3_read 19 = .ok (.iload_n 2, 1) := by decide +kernel
theorem dX3_read_20 : decode cX3_read 20 = .ok (.invokevirtual 19, 3) := by decide +kernel
theorem dX3_read_23 : decode cX3_read 23 = .ok (.invokevirtual 22, 3) := by decide +kernel
theorem dX3_read_26 : decode cX3_read 26 = .ok (.aload_n 0, 1) := by decide +kernel
theorem dX3_read_27 : decode cX3_read 27 = .ok (.iload_n 2, 1) := by decide +kernel
theorem dX3_read_28 : decode cX3_read 28 = .ok (.iconst 1, 1) := by decide +kernel
theorem dX3_read_29 : decode cX3_read 29 = .ok (.iadd, 1) := by decide +kernel
theorem dX3_read_30 : decode cX3_read 30 = .ok (.invokevirtual 9, 3) := by decide +kernel
theorem dX3_read_33 : decode cX3_read 33 = .ok (.istore_n 2, 1) := by decide +kernel
theorem dX3_read_34 : decode cX3_read 34 = .ok (.iconst 0, 1) := by decide +kernel
theorem dX3_read_35 : decode cX3_read 35 = .ok (.istore_n 3, 1) := by decide +kernel
theorem dX3_read_36 : decode cX3_read 36 = .ok (.iload_n 3, 1) := by decide +kernel
theorem dX3_read_37 : decode cX3_read 37 = .ok (.bipush 7, 2) := by decide +kernel
theorem dX3_read_39 : decode cX3_read 39 = .ok (.if_icmp .ge 65, 3) := by decide +kernel
theorem dX3_read_42 : decode cX3_read 42 = .ok (.iload_n 2, 1) := by decide +kernel
theorem dX3_read_43 : decode cX3_read 43 = .ok (.aload_n 0, 1) := by decide +kernel
theorem dX3_read_44 : decode cX3_read 44 = .ok (.getfield 28, 3) := by decide +kernel
theorem dX3_read_47 : decode cX3_read 47 = .ok (.if_icmp .ge 57, 3) := by decide +kernel
theorem dX3_read_50 : decode cX3_read 50 = .ok (.aload_n 0, 1) := by decide +kernel
theorem dX3_read_51 : decode cX3_read 51 = .ok (.iload_n 2, 1) := by decide +kernel
theorem dX3_read_52 : decode cX3_read 52 = .ok (.invokestatic 32, 3) := by decide +kernel
theorem dX3_read_55 : decode cX3_read 55 = .ok (.istore 4, 2) := by decide +kernel
theorem dX3_read_57 : decode cX3_read 57 = .ok (.iload 4, 2) := by decide +kernel
theorem dX3_read_59 : decode cX3_read 59 = .ok (.bipush (-9), 2) := by decide +kernel
theorem dX3_read_61 : decode cX3_read 61 = .ok (.if_icmp .eq 6, 3) := by decide +kernel
theorem dX3_read_64 : decode cX3_read 64 = .ok (.iload 4, 2) := by decide +kernel
theorem dX3_read_66 : decode cX3_read 66 = .ok (.ireturn, 1) := by decide +kernel
theorem dX3_read_67 : decode cX3_read 67 = .ok (.aload_n 1, 1) := by decide +kernel
theorem dX3_read_68 : decode cX3_read 68 = .ok (.aload_n 0, 1) := by decide +kernel
theorem dX3_read_69 : decode cX3_read 69 = .ok (.iload_n 2, 1) := by decide +kernel
theorem dX3_read_70 : decode cX3_read 70 = .ok (.invokevirtual 38, 3) := by decide +kernel
theorem dX3_read_73 : decode cX3_read 73 = .ok (.aload_n 0, 1) := by decide +kernel
theorem dX3_read_74 : decode cX3_read 74 = .ok (.iload_n 2, 1) := by decide +kernel
theorem dX3_read_75 : decode cX3_read 75 = .ok (.iconst 1, 1) := by decide +kernel
theorem dX3_read_76 : decode cX3_read 76 = .ok (.iadd, 1) := by decide +kernel
theorem dX3_read_77 : decode cX3_read 77 = .ok (.invokevirtual 19, 3) := by decide +kernel
theorem dX3_read_80 : decode cX3_read 80 = .ok (.aload_n 0, 1) := by decide +kernel
theorem dX3_read_81 : decode cX3_read 81 = .ok (.iload_n 2, 1) := by decide +kernel
theorem dX3_read_82 : decode cX3_read 82 = .ok (.iconst 2, 1) := by decide +kernel
theorem dX3_read_83 : decode cX3_read 83 = .ok (.iadd, 1) := by decide +kernel
theorem dX3_read_84 : decode cX3_read 84 = .ok (.invokevirtual 19, 3) := by decide +kernel
theorem dX3_read_87 : decode cX3_read 87 = .ok (.invokevirtual 41, 3) := by decide +kernel
theorem dX3_read_90 : decode cX3_read 90 = .ok (.aload_n 0, 1) := by decide +kernel
theorem dX3_read_91 : decode cX3_read 91 = .ok (.iload_n 2, 1) := by decide +kernel
theorem dX3_read_92 : decode cX3_read 92 = .ok (.iconst 3, 1) := by decide +kernel
theorem dX3_read_93 : decode cX3_read 93 = .ok (.iadd, 1) := by decide +kernel
theorem dX3_read_94 : decode cX3_read 94 = .ok (.invokevirtual 9, 3) := by decide +kernel
theorem dX3_read_97 : decode cX3_read 97 = .ok (.istore_n 2, 1) := by decide +kernel
theorem dX3_read_98 : decode cX3_read 98 = .ok (.iinc 3 1, 3) := by decide +kernel
theorem dX3_read_101 : decode cX3_read 101 = .ok (.goto (-65), 3) := by decide +kernel
theorem dX3_read_104 : decode cX3_read 104 = .ok (.iload_n 2, 1) := by decide +kernel
theorem dX3_read_105 : decode cX3_read 105 = .ok (.aload_n 0, 1) := by decide +kernel
theorem dX3_read_106 : decode cX3_read 106 = .ok (.getfield 28, 3) := by decide +kernel
theorem dX3_read_109 : decode cX3_read 109 = .ok (.if_icmp .lt 11, 3) := by decide +kernel
theorem dX3_read_112 : decode cX3_read 112 = .ok (.aload_n 1, 1) := by decide +kernel
theorem dX3_read_113 : decode cX3_read 113 = .ok (.getfield 45, 3) := by decide +kernel
theorem dX3_read_116 : decode cX3_read 116 = .ok (.iconst 2, 1) := by decide +kernel
theorem dX3_read_117 : decode cX3_read 117 = .ok (.if_icmp .ge 7, 3) := by decide +kernel
theorem dX3_read_120 : decode cX3_read 120 = .ok (.iload_n 2, 1) := by decide +kernel
theorem dX3_read_121 : decode cX3_read 121 = .ok (.goto 5, 3) := by decide +kernel
theorem dX3_read_124 : decode cX3_read 124 = .ok (.bipush (-9), 2) := by decide +kernel
theorem dX3_read_126 : decode cX3_read 126 = .ok (.ireturn, 1) := by decide +kernel
theorem dX3_faultOfDrum_0 : decode cX3_faultOfDrum 0 = .ok (.aload_n 0, 1) := by decide +kernel
theorem dX3_faultOfDrum_1 : decode cX3_faultOfDrum 1 = .ok (.iload_n 1, 1) := by decide +kernel
theorem dX3_faultOfDrum_2 : decode cX3_faultOfDrum 2 = .ok (.invokevirtual 38, 3) := by decide +kernel
theorem dX3_faultOfDrum_5 : decode cX3_faultOfDrum 5 = .ok (.bipush (-9), 2) := by decide +kernel
theorem dX3_faultOfDrum_7 : decode cX3_faultOfDrum 7 = .ok (.if_icmp .ne 5, 3) := by decide +kernel
theorem dX3_faultOfDrum_10 : decode cX3_faultOfDrum 10 = .ok (.iload_n 1, 1) := by decide +kernel
theorem dX3_faultOfDrum_11 : decode cX3_faultOfDrum 11 = .ok (.ireturn, 1) := by decide +kernel
theorem dX3_faultOfDrum_12 : decode cX3_faultOfDrum 12 = .ok (.aload_n 0, 1) := by decide +kernel
theorem dX3_faultOfDrum_13 : decode cX3_faultOfDrum 13 = .ok (.iload_n 1, 1) := by decide +kernel
theorem dX3_faultOfDrum_14 : decode cX3_faultOfDrum 14 = .ok (.iconst 1, 1) := by decide +kernel
theorem dX3_faultOfDrum_15 : decode cX3_faultOfDrum 15 = .ok (.iadd, 1) := by decide +kernel
theorem dX3_faultOfDrum_16 : decode cX3_faultOfDrum 16 = .ok (.iconst 0, 1) := by decide +kernel
theorem dX3_faultOfDrum_17 : decode cX3_faultOfDrum 17 = .ok (.invokevirtual 15, 3) := by decide +kernel
theorem dX3_faultOfDrum_20 : decode cX3_faultOfDrum 20 = .ok (.ifCond .ne 7, 3) := by decide +kernel
theorem dX3_faultOfDrum_23 : decode cX3_faultOfDrum 23 = .ok (.iload_n 1, 1) := by decide +kernel
theorem dX3_faultOfDrum_24 : decode cX3_faultOfDrum 24 = .ok (.iconst 1, 1) := by decide +kernel
theorem dX3_faultOfDrum_25 : decode cX3_faultOfDrum 25 = .ok (.iadd, 1) := by decide +kernel
theorem dX3_faultOfDrum_26 : decode cX3_faultOfDrum 26 = .ok (.ireturn, 1) := by decide +kernel
theorem dX3_faultOfDrum_27 : decode cX3_faultOfDrum 27 = .ok (.aload_n 0, 1) := by decide +kernel
theorem dX3_faultOfDrum_28 : decode cX3_faultOfDrum 28 = .ok (.iload_n 1, 1) := by decide +kernel
theorem dX3_faultOfDrum_29 : decode cX3_faultOfDrum 29 = .ok (.iconst 2, 1) := by decide +kernel
theorem dX3_faultOfDrum_30 : decode cX3_faultOfDrum 30 = .ok (.iadd, 1) := by decide +kernel
theorem dX3_faultOfDrum_31 : decode cX3_faultOfDrum 31 = .ok (.iconst 0, 1) := by decide +kernel
theorem dX3_faultOfDrum_32 : decode cX3_faultOfDrum 32 = .ok (.invokevirtual 15, 3) := by decide +kernel
theorem dX3_faultOfDrum_35 : decode cX3_faultOfDrum 35 = .ok (.ifCond .eq 8, 3) := by decide +kernel
theorem dX3_faultOfDrum_38 : decode cX3_faultOfDrum 38 = .ok (.bipush (-9), 2) := by decide +kernel
theorem dX3_faultOfDrum_40 : decode cX3_faultOfDrum 40 = .ok (.goto 6, 3) := by decide +kernel
theorem dX3_faultOfDrum_43 : decode cX3_faultOfDrum 43 = .ok (.iload_n 1, 1) := by decide +kernel
theorem dX3_faultOfDrum_44 : decode cX3_faultOfDrum 44 = .ok (.iconst 2, 1) := by decide +kernel
theorem dX3_faultOfDrum_45 : decode cX3_faultOfDrum 45 = .ok (.iadd, 1) := by decide +kernel
theorem dX3_faultOfDrum_46 : decode cX3_faultOfDrum 46 = .ok (.ireturn, 1) := by decide +kernel
theorem dX4_init_0 : decode cX4_init 0 = .ok (.aload_n 0, 1) := by decide +kernel
theorem dX4_init_1 : decode cX4_init 1 = .ok (.invokespecial 3, 3) := by decide +kernel
theorem dX4_init_4 : decode cX4_init 4 = .ok (.aload_n 0, 1) := by decide +kernel
theorem dX4_init_5 : decode cX4_init 5 = .ok (.bipush 40, 2) := by decide +kernel
theorem dX4_init_7 : decode cX4_init 7 = .ok (.newarray .int, 2) := by decide +kernel
theorem dX4_init_9 : decode cX4_init 9 = .ok (.putfield 9, 3) := by decide +kernel
theorem dX4_init_12 : decode cX4_init 12 = .ok (.aload_n 0, 1) := by decide +kernel
theorem dX4_init_13 : decode cX4_init 13 = .ok (.iconst (-1), 1) := by decide +kernel
theorem dX4_init_14 : decode cX4_init 14 = .ok (.putfield 15, 3) := by decide +kernel
theorem dX4_init_17 : decode cX4_init 17 = .ok (.return_, 1) := by decide +kernel
theorem dX4_isMissing_0 : decode cX4_isMissing 0 = .ok (.aload_n 0, 1) := by decide +kernel
theorem dX4_isMissing_1 : decode cX4_isMissing 1 = .ok (.getfield 15, 3) := by decide +kernel
theorem dX4_isMissing_4 : decode cX4_isMissing 4 = .ok (.iconst (-1), 1) := by decide +kernel
theorem dX4_isMissing_5 : decode cX4_isMissing 5 = .ok (.if_icmp .ne 7, 3) := by decide +kernel
theorem dX4_isMissing_8 : decode cX4_isMissing 8 = .ok (.iconst 1, 1) := by decide +kernel
theorem dX4_isMissing_9 : decode cX4_isMissing 9 = .ok (.goto 4, 3) := by decide +kernel
theorem dX4_isMissing_12 : decode cX4_isMissing 12 = .ok (.iconst 0, 1) := by decide +kernel
theorem dX4_isMissing_13 : decode cX4_isMissing 13 = .ok (.ireturn, 1) := by decide +kernel
theorem dX4_begin_0 : decode cX4_begin 0 = .ok (.aload_n 0, 1) := by decide +kernel
theorem dX4_begin_1 : decode cX4_begin 1 = .ok (.iload_n 1, 1) := by decide +kernel
theorem dX4_begin_2 : decode cX4_begin 2 = .ok (.putfield 15, 3) := by decide +kernel
theorem dX4_begin_5 : decode cX4_begin 5 = .ok (.iconst 0, 1) := by decide +kernel
theorem dX4_begin_6 : decode cX4_begin 6 = .ok (.istore_n 2, 1) := by decide +kernel
theorem dX4_begin_7 : decode cX4_begin 7 = .ok (.iload_n 2, 1) := by decide +kernel
theorem dX4_begin_8 : decode cX4_begin 8 = .ok (.iload_n 1, 1) := by decide +kernel
theorem dX4_begin_9 : decode cX4_begin 9 = .ok (.if_icmp .ge 16, 3) := by decide +kernel
theorem dX4_begin_12 : decode cX4_begin 12 = .ok (.aload_n 0, 1) := by decide +kernel
theorem dX4_begin_13 : decode cX4_begin 13 = .ok (.getfield 9, 3) := by decide +kernel
theorem dX4_begin_16 : decode cX4_begin 16 = .ok (.iload_n 2, 1) := by decide +kernel
theorem dX4_begin_17 : decode cX4_begin 17 = .ok (.iconst 0, 1) := by decide +kernel
theorem dX4_begin_18 : decode cX4_begin 18 = .ok (.iastore, 1) := by decide +kernel
theorem dX4_begin_19 : decode cX4_begin 19 = .ok (.iinc 2 1, 3) := by decide +kernel
theorem dX4_begin_22 : decode cX4_begin 22 = .ok (.goto (-15), 3) := by decide +kernel
theorem dX4_begin_25 : decode cX4_begin 25 = .ok (.return_, 1) := by decide +kernel
theorem dX4_holds_0 : decode cX4_holds 0 = .ok (.iload_n 1, 1) := by decide +kernel
theorem dX4_holds_1 : decode cX4_holds 1 = .ok (.ifCond .lt 25, 3) := by decide +kernel
theorem dX4_holds_4 : decode cX4_holds 4 = .ok (.iload_n 1, 1) := by decide +kernel
theorem dX4_holds_5 : decode cX4_holds 5 = .ok (.aload_n 0, 1) := by decide +kernel
theorem dX4_holds_6 : decode cX4_holds 6 = .ok (.getfield 15, 3) := by decide +kernel
theorem dX4_holds_9 : decode cX4_holds 9 = .ok (.if_icmp .gt 17, 3) := by decide +kernel
theorem dX4_holds_12 : decode cX4_holds 12 = .ok (.iload_n 2, 1) := by decide +kernel
theorem dX4_holds_13 : decode cX4_holds 13 = .ok (.aload_n 0, 1) := by decide +kernel
theorem dX4_holds_14 : decode cX4_holds 14 = .ok (.getfield 15, 3) := by decide +kernel
theorem dX4_holds_17 : decode cX4_holds 17 = .ok (.iload_n 1, 1) := by decide +kernel
theorem dX4_holds_18 : decode cX4_holds 18 = .ok (.isub, 1) := by decide +kernel
theorem dX4_holds_19 : decode cX4_holds 19 = .ok (.if_icmp .gt 7, 3) := by decide +kernel
theorem dX4_holds_22 : decode cX4_holds 22 = .ok (.iconst 1, 1) := by decide +kernel
theorem dX4_holds_23 : decode cX4_holds 23 = .ok (.goto 4, 3) := by decide +kernel
theorem dX4_holds_26 : decode cX4_holds 26 = .ok (.iconst 0, 1) := by decide +kernel
theorem dX4_holds_27 : decode cX4_holds 27 = .ok (.ireturn, 1) := by decide +kernel
theorem dX4_isWithin_0 : decode cX4_isWithin 0 = .ok (.iconst 0, 1) := by decide +kernel
theorem dX4_isWithin_1 : decode cX4_isWithin 1 = .ok (.istore_n 2, 1) := by decide +kernel
theorem dX4_isWithin_2 : decode cX4_isWithin 2 = .ok (.iload_n 2, 1) := by decide +kernel
theorem dX4_isWithin_3 : decode cX4_isWithin 3 = .ok (.aload_n 0, 1) := by decide +kernel
theorem dX4_isWithin_4 : decode cX4_isWithin 4 = .ok (.getfield 15, 3) := by decide +kernel
theorem dX4_isWithin_7 : decode cX4_isWithin 7 = .ok (.if_icmp .ge 30, 3) := by decide +kernel
theorem dX4_isWithin_10 : decode cX4_isWithin 10 = .ok (.aload_n 0, 1) := by decide +kernel
theorem dX4_isWithin_11 : decode cX4_isWithin 11 = .ok (.getfield 9, 3) := by decide +kernel
theorem dX4_isWithin_14 : decode cX4_isWithin 14 = .ok (.iload_n 2, 1) := by decide +kernel
theorem dX4_isWithin_15 : decode cX4_isWithin 15 = .ok (.iaload, 1) := by decide +kernel
theorem dX4_isWithin_16 : decode cX4_isWithin 16 = .ok (.ifCond .lt 13, 3) := by decide +kernel
theorem dX4_isWithin_19 : decode cX4_isWithin 19 = .ok (.aload_n 0, 1) := by decide +kernel
theorem dX4_isWithin_20 : decode cX4_isWithin 20 = .ok (.getfield 9, 3) := by decide +kernel
theorem dX4_isWithin_23 : decode cX4_isWithin 23 = .ok (.iload_n 2, 1) := by decide +kernel
theorem dX4_isWithin_24 : decode cX4_isWithin 24 = .ok (.iaload, 1) := by decide +kernel
theorem dX4_isWithin_25 : decode cX4_isWithin 25 = .ok (.iload_n 1, 1) := by decide +kernel
theorem dX4_isWithin_26 : decode cX4_isWithin 26 = .ok (.if_icmp .le 5, 3) := by decide +kernel
theorem dX4_isWithin_29 : decode cX4_isWithin 29 = .ok (.iconst 0, 1) := by decide +kernel
theorem dX4_isWithin_30 : decode cX4_isWithin 30 = .ok (.ireturn, 1) := by decide +kernel
theorem dX4_isWithin_31 : decode cX4_isWithin 31 = .ok (.iinc 2 1, 3) := by decide +kernel
theorem dX4_isWithin_34 : decode cX4_isWithin 34 = .ok (.goto (-32), 3) := by decide +kernel
theorem dX4_isWithin_37 : decode cX4_isWithin 37 = .ok (.iconst 1, 1) := by decide +kernel
theorem dX4_isWithin_38 : decode cX4_isWithin 38 = .ok (.ireturn, 1) := by decide +kernel
theorem dX4_digestFrom_0 : decode cX4_digestFrom 0 = .ok (.ldc2_w 19, 3) := by decide +kernel
theorem dX4_digestFrom_3 : decode cX4_digestFrom 3 = .ok (.lload_n 1, 1) := by decide +kernel
theorem dX4_digestFrom_4 : decode cX4_digestFrom 4 = .ok (.lmul, 1) := by decide +kernel
theorem dX4_digestFrom_5 : decode cX4_digestFrom 5 = .ok (.aload_n 0, 1) := by decide +kernel
theorem dX4_digestFrom_6 : decode cX4_digestFrom 6 = .ok (.getfield 15, 3) := by decide +kernel
theorem dX4_digestFrom_9 : decode cX4_digestFrom 9 = .ok (.i2l, 1) := by decide +kernel
theorem dX4_digestFrom_10 : decode cX4_digestFrom 10 = .ok (.ladd, 1) := by decide +kernel
theorem dX4_digestFrom_11 : decode cX4_digestFrom 11 = .ok (.lstore_n 3, 1) := by decide +kernel
theorem dX4_digestFrom_12 : decode cX4_digestFrom 12 = .ok (.iconst 0, 1) := by decide +kernel
theorem dX4_digestFrom_13 : decode cX4_digestFrom 13 = .ok (.istore 5, 2) := by decide +kernel
theorem dX4_digestFrom_15 : decode cX4_digestFrom 15 = .ok (.iload 5, 2) := by decide +kernel
theorem dX4_digestFrom_17 : decode cX4_digestFrom 17 = .ok (.aload_n 0, 1) := by decide +kernel
theorem dX4_digestFrom_18 : decode cX4_digestFrom 18 = .ok (.getfield 15, 3) := by decide +kernel
theorem dX4_digestFrom_21 : decode cX4_digestFrom 21 = .ok (.if_icmp .ge 24, 3) := by decide +kernel
theorem dX4_digestFrom_24 : decode cX4_digestFrom 24 = .ok (.ldc2_w 19, 3) := by decide +kernel
theorem dX4_digestFrom_27 : decode cX4_digestFrom 27 = .ok (.lload_n 3, 1) := by decide +kernel
theorem dX4_digestFrom_28 : decode cX4_digestFrom 28 = .ok (.lmul, 1) := by decide +kernel
theorem dX4_digestFrom_29 : decode cX4_digestFrom 29 = .ok (.aload_n 0, 1) := by decide +kernel
theorem dX4_digestFrom_30 : decode cX4_digestFrom 30 = .ok (.getfield 9, 3) := by decide +kernel
theorem dX4_digestFrom_33 : decode cX4_digestFrom 33 = .ok (.iload 5, 2) := by decide +kernel
theorem dX4_digestFrom_35 : decode cX4_digestFrom 35 = .ok (.iaload, 1) := by decide +kernel
theorem dX4_digestFrom_36 : decode cX4_digestFrom 36 = .ok (.i2l, 1) := by decide +kernel
theorem dX4_digestFrom_37 : decode cX4_digestFrom 37 = .ok (.ladd, 1) := by decide +kernel
theorem dX4_digestFrom_38 : decode cX4_digestFrom 38 = .ok (.lstore_n 3, 1) := by decide +kernel
theorem dX4_digestFrom_39 : decode cX4_digestFrom 39 = .ok (.iinc 5 1, 3) := by decide +kernel
theorem dX4_digestFrom_42 : decode cX4_digestFrom 42 = .ok (.goto (-27), 3) := by decide +kernel
theorem dX4_digestFrom_45 : decode cX4_digestFrom 45 = .ok (.lload_n 3, 1) := by decide +kernel
theorem dX4_digestFrom_46 : decode cX4_digestFrom 46 = .ok (.lreturn, 1) := by decide +kernel
theorem dX5_init_0 : decode cX5_init 0 = .ok (.aload_n 0, 1) := by decide +kernel
theorem dX5_init_1 : decode cX5_init 1 = .ok (.invokespecial 1, 3) := by decide +kernel
theorem dX5_init_4 : decode cX5_init 4 = .ok (.aload_n 0, 1) := by decide +kernel
theorem dX5_init_5 : decode cX5_init 5 = .ok (.lconst 0, 1) := by decide +kernel
theorem dX5_init_6 : decode cX5_init 6 = .ok (.putfield 7, 3) := by decide +kernel
theorem dX5_init_9 : decode cX5_init 9 = .ok (.aload_n 0, 1) := by decide +kernel
theorem dX5_init_10 : decode cX5_init 10 = .ok (.lconst 1, 1) := by decide +kernel
theorem dX5_init_11 : decode cX5_init 11 = .ok (.putfield 13, 3) := by decide +kernel
theorem dX5_init_14 : decode cX5_init 14 = .ok (.return_, 1) := by decide +kernel
theorem dX5_tell_0 : decode cX5_tell 0 = .ok (.lload_n 1, 1) := by decide +kernel
theorem dX5_tell_1 : decode cX5_tell 1 = .ok (.lload_n 3, 1) := by decide +kernel
theorem dX5_tell_2 : decode cX5_tell 2 = .ok (.invokestatic 16, 3) := by decide +kernel
theorem dX5_tell_5 : decode cX5_tell 5 = .ok (.lstore 5, 2) := by decide +kernel
theorem dX5_tell_7 : decode cX5_tell 7 = .ok (.lload 5, 2) := by decide +kernel
theorem dX5_tell_9 : decode cX5_tell 9 = .ok (.lconst 0, 1) := by decide +kernel
theorem dX5_tell_10 : decode cX5_tell 10 = .ok (.lcmp, 1) := by decide +kernel
theorem dX5_tell_11 : decode cX5_tell 11 = .ok (.ifCond .le 19, 3) := by decide +kernel
theorem dX5_tell_14 : decode cX5_tell 14 = .ok (.aload_n 0, 1) := by decide +kernel
theorem dX5_tell_15 : decode cX5_tell 15 = .ok (.lload_n 1, 1) := by decide +kernel
theorem dX5_tell_16 : decode cX5_tell 16 = .ok (.lload 5, 2) := by decide +kernel
theorem dX5_tell_18 : decode cX5_tell 18 = .ok (.ldiv, 1) := by decide +kernel
theorem dX5_tell_19 : decode cX5_tell 19 = .ok (.putfield 7, 3) := by decide +kernel
theorem dX5_tell_22 : decode cX5_tell 22 = .ok (.aload_n 0, 1) := by decide +kernel
theorem dX5_tell_23 : decode cX5_tell 23 = .ok (.lload_n 3, 1) := by decide +kernel
theorem dX5_tell_24 : decode cX5_tell 24 = .ok (.lload 5, 2) := by decide +kernel
theorem dX5_tell_26 : decode cX5_tell 26 = .ok (.ldiv, 1) := by decide +kernel
theorem dX5_tell_27 : decode cX5_tell 27 = .ok (.putfield 13, 3) := by decide +kernel
theorem dX5_tell_30 : decode cX5_tell 30 = .ok (.return_, 1) := by decide +kernel
theorem dX5_commonDivisor_0 : decode cX5_commonDivisor 0 = .ok (.lload_n 0, 1) := by decide +kernel
theorem dX5_commonDivisor_1 : decode cX5_commonDivisor 1 = .ok (.lstore 4, 2) := by decide +kernel
theorem dX5_commonDivisor_3 : decode cX5_commonDivisor 3 = .ok (.lload_n 2, 1) := by decide +kernel
theorem dX5_commonDivisor_4 : decode cX5_commonDivisor 4 = .ok (.lstore 6, 2) := by decide +kernel
theorem dX5_commonDivisor_6 : decode cX5_commonDivisor 6 = .ok (.iconst 0, 1) := by decide +kernel
theorem dX5_commonDivisor_7 : decode cX5_commonDivisor 7 = .ok (.istore 8, 2) := by decide +kernel
theorem dX5_commonDivisor_9 : decode cX5_commonDivisor 9 = .ok (.iload 8, 2) := by decide +kernel
theorem dX5_commonDivisor_11 : decode cX5_commonDivisor 11 = .ok (.sipush 200, 3) := by decide +kernel
theorem dX5_commonDivisor_14 : decode cX5_commonDivisor 14 = .ok (.if_icmp .ge 31, 3) := by decide +kernel
theorem dX5_commonDivisor_17 : decode cX5_commonDivisor 17 = .ok (.lload 6, 2) := by decide +kernel
theorem dX5_commonDivisor_19 : decode cX5_commonDivisor 19 = .ok (.lconst 0, 1) := by decide +kernel
theorem dX5_commonDivisor_20 : decode cX5_commonDivisor 20 = .ok (.lcmp, 1) := by decide +kernel
theorem dX5_commonDivisor_21 : decode cX5_commonDivisor 21 = .ok (.ifCond .eq 24, 3) := by decide +kernel
theorem dX5_commonDivisor_24 : decode cX5_commonDivisor 24 = .ok (.lload 4, 2) := by decide +kernel
theorem dX5_commonDivisor_26 : decode cX5_commonDivisor 26 = .ok (.lload 6, 2) := by decide +kernel
theorem dX5_commonDivisor_28 : decode cX5_commonDivisor 28 = .ok (.lrem, 1) := by decide +kernel
theorem dX5_commonDivisor_29 : decode cX5_commonDivisor 29 = .ok (.lstore 9, 2) := by decide +kernel
theorem dX5_commonDivisor_31 : decode cX5_commonDivisor 31 = .ok (.lload 6, 2) := by decide +kernel
theorem dX5_commonDivisor_33 : decode cX5_commonDivisor 33 = .ok (.lstore 4, 2) := by decide +kernel
theorem dX5_commonDivisor_35 : decode cX5_commonDivisor 35 = .ok (.lload 9, 2) := by decide +kernel
theorem dX5_commonDivisor_37 : decode cX5_commonDivisor 37 = .ok (.lstore 6, 2) := by decide +kernel
theorem dX5_commonDivisor_39 : decode cX5_commonDivisor 39 = .ok (.iinc 8 1, 3) := by decide +kernel
theorem dX5_commonDivisor_42 : decode cX5_commonDivisor 42 = .ok (.goto (-33), 3) := by decide +kernel
theorem dX5_commonDivisor_45 : decode cX5_commonDivisor 45 = .ok (.lload 4, 2) := by decide +kernel
theorem dX5_commonDivisor_47 : decode cX5_commonDivisor 47 = .ok (.lreturn, 1) := by decide +kernel
theorem dX6_init_0 : decode cX6_init 0 = .ok (.aload_n 0, 1) := by decide +kernel
theorem dX6_init_1 : decode cX6_init 1 = .ok (.invokespecial 3, 3) := by decide +kernel
theorem dX6_init_4 : decode cX6_init 4 = .ok (.aload_n 0, 1) := by decide +kernel
theorem dX6_init_5 : decode cX6_init 5 = .ok (.bipush 60, 2) := by decide +kernel
theorem dX6_init_7 : decode cX6_init 7 = .ok (.newarray .byte, 2) := by decide +kernel
theorem dX6_init_9 : decode cX6_init 9 = .ok (.putfield 9, 3) := by decide +kernel
theorem dX6_init_12 : decode cX6_init 12 = .ok (.aload_n 0, 1) := by decide +kernel
theorem dX6_init_13 : decode cX6_init 13 = .ok (.iconst (-1), 1) := by decide +kernel
theorem dX6_init_14 : decode cX6_init 14 = .ok (.putfield 15, 3) := by decide +kernel
theorem dX6_init_17 : decode cX6_init 17 = .ok (.return_, 1) := by decide +kernel
theorem dX6_isMissing_0 : decode cX6_isMissing 0 = .ok (.aload_n 0, 1) := by decide +kernel
theorem dX6_isMissing_1 : decode cX6_isMissing 1 = .ok (.getfield 15, 3) := by decide +kernel
theorem dX6_isMissing_4 : decode cX6_isMissing 4 = .ok (.iconst (-1), 1) := by decide +kernel
theorem dX6_isMissing_5 : decode cX6_isMissing 5 = .ok (.if_icmp .ne 7, 3) := by decide +kernel
theorem dX6_isMissing_8 : decode cX6_isMissing 8 = .ok (.iconst 1, 1) := by decide +kernel
theorem dX6_isMissing_9 : decode cX6_isMissing 9 = .ok (.goto 4, 3) := by decide +kernel
theorem dX6_isMissing_12 : decode cX6_isMissing 12 = .ok (.iconst 0, 1) := by decide +kernel
theorem dX6_isMissing_13 : decode cX6_isMissing 13 = .ok (.ireturn, 1) := by decide +kernel
theorem dX6_begin_0 : decode cX6_begin 0 = .ok (.aload_n 0, 1) := by decide +kernel
theorem dX6_begin_1 : decode cX6_begin 1 = .ok (.iload_n 1, 1) := by decide +kernel
theorem dX6_begin_2 : decode cX6_begin 2 = .ok (.putfield 15, 3) := by decide +kernel
theorem dX6_begin_5 : decode cX6_begin 5 = .ok (.iconst 0, 1) := by decide +kernel
theorem dX6_begin_6 : decode cX6_begin 6 = .ok (.istore_n 2, 1) := by decide +kernel
theorem dX6_begin_7 : decode cX6_begin 7 = .ok (.iload_n 2, 1) := by decide +kernel
theorem dX6_begin_8 : decode cX6_begin 8 = .ok (.iload_n 1, 1) := by decide +kernel
theorem dX6_begin_9 : decode cX6_begin 9 = .ok (.if_icmp .ge 17, 3) := by decide +kernel
theorem dX6_begin_12 : decode cX6_begin 12 = .ok (.aload_n 0, 1) := by decide +kernel
theorem dX6_begin_13 : decode cX6_begin 13 = .ok (.getfield 9, 3) := by decide +kernel
theorem dX6_begin_16 : decode cX6_begin 16 = .ok (.iload_n 2, 1) := by decide +kernel
theorem dX6_begin_17 : decode cX6_begin 17 = .ok (.bipush 32, 2) := by decide +kernel
theorem dX6_begin_19 : decode cX6_begin 19 = .ok (.bastore, 1) := by decide +kernel
theorem dX6_begin_20 : decode cX6_begin 20 = .ok (.iinc 2 1, 3) := by decide +kernel
theorem dX6_begin_23 : decode cX6_begin 23 = .ok (.goto (-16), 3) := by decide +kernel
theorem dX6_begin_26 : decode cX6_begin 26 = .ok (.return_, 1) := by decide +kernel
theorem dX6_isFigure_0 : decode cX6_isFigure 0 = .ok (.iload_n 1, 1) := by decide +kernel
theorem dX6_isFigure_1 : decode cX6_isFigure 1 = .ok (.aload_n 0, 1) := by decide +kernel
theorem dX6_isFigure_2 : decode cX6_isFigure 2 = .ok (.getfield 15, 3) := by decide +kernel
theorem dX6_isFigure_5 : decode cX6_isFigure 5 = .ok (.if_icmp .ge 31, 3) := by decide +kernel
theorem dX6_isFigure_8 : decode cX6_isFigure 8 = .ok (.aload_n 0, 1) := by decide +kernel
theorem dX6_isFigure_9 : decode cX6_isFigure 9 = .ok (.getfield 9, 3) := by decide +kernel
theorem dX6_isFigure_12 : decode cX6_isFigure 12 = .ok (.iload_n 1, 1) := by decide +kernel
theorem dX6_isFigure_13 : decode cX6_isFigure 13 = .ok (.baload, 1) := by decide +kernel
theorem dX6_isFigure_14 : decode cX6_isFigure 14 = .ok (.bipush 48, 2) := by decide +kernel
theorem dX6_isFigure_16 : decode cX6_isFigure 16 = .ok (.iload_n 2, 1) := by decide +kernel
theorem dX6_isFigure_17 : decode cX6_isFigure 17 = .ok (.iadd, 1) := by decide +kernel
theorem dX6_isFigure_18 : decode cX6_isFigure 18 = .ok (.if_icmp .lt 18, 3) := by decide +kernel
theorem dX6_isFigure_21 : decode cX6_isFigure 21 = .ok (.aload_n 0, 1) := by decide +kernel
theorem dX6_isFigure_22 : decode cX6_isFigure 22 = .ok (.getfield 9, 3) := by decide +kernel
theorem dX6_isFigure_25 : decode cX6_isFigure 25 = .ok (.iload_n 1, 1) := by decide +kernel
theorem dX6_isFigure_26 : decode cX6_isFigure 26 = .ok (.baload, 1) := by decide +kernel
theorem dX6_isFigure_27 : decode cX6_isFigure 27 = .ok (.bipush 58, 2) := by decide +kernel
theorem dX6_isFigure_29 : decode cX6_isFigure 29 = .ok (.if_icmp .ge 7, 3) := by decide +kernel
theorem dX6_isFigure_32 : decode cX6_isFigure 32 = .ok (.iconst 1, 1) := by decide +kernel
theorem dX6_isFigure_33 : decode cX6_isFigure 33 = .ok (.goto 4, 3) := by decide +kernel
theorem dX6_isFigure_36 : decode cX6_isFigure 36 = .ok (.iconst 0, 1) := by decide +kernel
theorem dX6_isFigure_37 : decode cX6_isFigure 37 = .ok (.ireturn, 1) := by decide +kernel
theorem dX6_figure_0 : decode cX6_figure 0 = .ok (.aload_n 0, 1) := by decide +kernel
theorem dX6_figure_1 : decode cX6_figure 1 = .ok (.getfield 9, 3) := by decide +kernel
theorem dX6_figure_4 : decode cX6_figure 4 = .ok (.iload_n 1, 1) := by decide +kernel
theorem dX6_figure_5 : decode cX6_figure 5 = .ok (.baload, 1) := by decide +kernel
theorem dX6_figure_6 : decode cX6_figure 6 = .ok (.bipush 48, 2) := by decide +kernel
theorem dX6_figure_8 : decode cX6_figure 8 = .ok (.isub, 1) := by decide +kernel
theorem dX6_figure_9 : decode cX6_figure 9 = .ok (.ireturn, 1) := by decide +kernel
theorem dX6_kind_0 : decode cX6_kind 0 = .ok (.iconst 0, 1) := by decide +kernel
theorem dX6_kind_1 : decode cX6_kind 1 = .ok (.istore_n 2, 1) := by decide +kernel
theorem dX6_kind_2 : decode cX6_kind 2 = .ok (.iload_n 2, 1) := by decide +kernel
theorem dX6_kind_3 : decode cX6_kind 3 = .ok (.bipush 6, 2) := by decide +kernel
theorem dX6_kind_5 : decode cX6_kind 5 = .ok (.if_icmp .ge 33, 3) := by decide +kernel
theorem dX6_kind_8 : decode cX6_kind 8 = .ok (.iload_n 1, 1) := by decide +kernel
theorem dX6_kind_9 : decode cX6_kind 9 = .ok (.aload_n 0, 1) := by decide +kernel
theorem dX6_kind_10 : decode cX6_kind 10 = .ok (.getfield 15, 3) := by decide +kernel
theorem dX6_kind_13 : decode cX6_kind 13 = .ok (.if_icmp .ge 25, 3) := by decide +kernel
theorem dX6_kind_16 : decode cX6_kind 16 = .ok (.aload_n 0, 1) := by decide +kernel
theorem dX6_kind_17 : decode cX6_kind 17 = .ok (.getfield 9, 3) := by decide +kernel
theorem dX6_kind_20 : decode cX6_kind 20 = .ok (.iload_n 1, 1) := by decide +kernel
theorem dX6_kind_21 : decode cX6_kind 21 = .ok (.baload, 1) := by decide +kernel
theorem dX6_kind_22 : decode cX6_kind 22 = .ok (.getstatic 19, 3) := by decide +kernel
theorem dX6_kind_25 : decode cX6_kind 25 = .ok (.iload_n 2, 1) := by decide +kernel
theorem dX6_kind_26 : decode cX6_kind 26 = .ok (.iaload, 1) := by decide +kernel
theorem dX6_kind_27 : decode cX6_kind 27 = .ok (.if_icmp .ne 5, 3) := by decide +kernel
theorem dX6_kind_30 : decode cX6_kind 30 = .ok (.iload_n 2, 1) := by decide +kernel
theorem dX6_kind_31 : decode cX6_kind 31 = .ok (.ireturn, 1) := by decide +kernel
theorem dX6_kind_32 : decode cX6_kind 32 = .ok (.iinc 2 1, 3) := by decide +kernel
theorem dX6_kind_35 : decode cX6_kind 35 = .ok (.goto (-33), 3) := by decide +kernel
theorem dX6_kind_38 : decode cX6_kind 38 = .ok (.bipush (-9), 2) := by decide +kernel
theorem dX6_kind_40 : decode cX6_kind 40 = .ok (.ireturn, 1) := by decide +kernel
theorem dX6_pastBlanks_0 : decode cX6_pastBlanks 0 = .ok (.iload_n 1, 1) := by decide +kernel
theorem dX6_pastBlanks_1 : decode cX6_pastBlanks 1 = .ok (.istore_n 2, 1) := by decide +kernel
theorem dX6_pastBlanks_2 : decode cX6_pastBlanks 2 = .ok (.iload_n 2, 1) := by decide +kernel
theorem dX6_pastBlanks_3 : decode cX6_pastBlanks 3 = .ok (.aload_n 0, 1) := by decide +kernel
theorem dX6_pastBlanks_4 : decode cX6_pastBlanks 4 = .ok (.getfield 15, 3) := by decide +kernel
theorem dX6_pastBlanks_7 : decode cX6_pastBlanks 7 = .ok (.if_icmp .ge 20, 3) := by decide +kernel
theorem dX6_pastBlanks_10 : decode cX6_pastBlanks 10 = .ok (.aload_n 0, 1) := by decide +kernel
theorem dX6_pastBlanks_11 : decode cX6_pastBlanks 11 = .ok (.getfield 9, 3) := by decide +kernel
theorem dX6_pastBlanks_14 : decode cX6_pastBlanks 14 = .ok (.iload_n 2, 1) := by decide +kernel
theorem dX6_pastBlanks_15 : decode cX6_pastBlanks 15 = .ok (.baload, 1) := by decide +kernel
theorem dX6_pastBlanks_16 : decode cX6_pastBlanks 16 = .ok (.bipush 32, 2) := by decide +kernel
theorem dX6_pastBlanks_18 : decode cX6_pastBlanks 18 = .ok (.if_icmp .ne 9, 3) := by decide +kernel
theorem dX6_pastBlanks_21 : decode cX6_pastBlanks 21 = .ok (.iinc 2 1, 3) := by decide +kernel
theorem dX6_pastBlanks_24 : decode cX6_pastBlanks 24 = .ok (.goto (-22), 3) := by decide +kernel
theorem dX6_pastBlanks_27 : decode cX6_pastBlanks 27 = .ok (.iload_n 2, 1) := by decide +kernel
theorem dX6_pastBlanks_28 : decode cX6_pastBlanks 28 = .ok (.ireturn, 1) := by decide +kernel
theorem dX6_digestFrom_0 : decode cX6_digestFrom 0 = .ok (.ldc2_w 23, 3) := by decide +kernel
theorem dX6_digestFrom_3 : decode cX6_digestFrom 3 = .ok (.lload_n 1, 1) := by decide +kernel
theorem dX6_digestFrom_4 : decode cX6_digestFrom 4 = .ok (.lmul, 1) := by decide +kernel
theorem dX6_digestFrom_5 : decode cX6_digestFrom 5 = .ok (.aload_n 0, 1) := by decide +kernel
theorem dX6_digestFrom_6 : decode cX6_digestFrom 6 = .ok (.getfield 15, 3) := by decide +kernel
theorem dX6_digestFrom_9 : decode cX6_digestFrom 9 = .ok (.i2l, 1) := by decide +kernel
theorem dX6_digestFrom_10 : decode cX6_digestFrom 10 = .ok (.ladd, 1) := by decide +kernel
theorem dX6_digestFrom_11 : decode cX6_digestFrom 11 = .ok (.lstore_n 3, 1) := by decide +kernel
theorem dX6_digestFrom_12 : decode cX6_digestFrom 12 = .ok (.iconst 0, 1) := by decide +kernel
theorem dX6_digestFrom_13 : decode cX6_digestFrom 13 = .ok (.istore 5, 2) := by decide +kernel
theorem dX6_digestFrom_15 : decode cX6_digestFrom 15 = .ok (.iload 5, 2) := by decide +kernel
theorem dX6_digestFrom_17 : decode cX6_digestFrom 17 = .ok (.aload_n 0, 1) := by decide +kernel
theorem dX6_digestFrom_18 : decode cX6_digestFrom 18 = .ok (.getfield 15, 3) := by decide +kernel
theorem dX6_digestFrom_21 : decode cX6_digestFrom 21 = .ok (.if_icmp .ge 24, 3) := by decide +kernel
theorem dX6_digestFrom_24 : decode cX6_digestFrom 24 = .ok (.ldc2_w 23, 3) := by decide +kernel
theorem dX6_digestFrom_27 : decode cX6_digestFrom 27 = .ok (.lload_n 3, 1) := by decide +kernel
theorem dX6_digestFrom_28 : decode cX6_digestFrom 28 = .ok (.lmul, 1) := by decide +kernel
theorem dX6_digestFrom_29 : decode cX6_digestFrom 29 = .ok (.aload_n 0, 1) := by decide +kernel
theorem dX6_digestFrom_30 : decode cX6_digestFrom 30 = .ok (.getfield 9, 3) := by decide +kernel
theorem dX6_digestFrom_33 : decode cX6_digestFrom 33 = .ok (.iload 5, 2) := by decide +kernel
theorem dX6_digestFrom_35 : decode cX6_digestFrom 35 = .ok (.baload, 1) := by decide +kernel
theorem dX6_digestFrom_36 : decode cX6_digestFrom 36 = .ok (.i2l, 1) := by decide +kernel
theorem dX6_digestFrom_37 : decode cX6_digestFrom 37 = .ok (.ladd, 1) := by decide +kernel
theorem dX6_digestFrom_38 : decode cX6_digestFrom 38 = .ok (.lstore_n 3, 1) := by decide +kernel
theorem dX6_digestFrom_39 : decode cX6_digestFrom 39 = .ok (.iinc 5 1, 3) := by decide +kernel
theorem dX6_digestFrom_42 : decode cX6_digestFrom 42 = .ok (.goto (-27), 3) := by decide +kernel
theorem dX6_digestFrom_45 : decode cX6_digestFrom 45 = .ok (.lload_n 3, 1) := by decide +kernel
theorem dX6_digestFrom_46 : decode cX6_digestFrom 46 = .ok (.lreturn, 1) := by decide +kernel
theorem dX7_init_0 : decode cX7_init 0 = .ok (.aload_n 0, 1) := by decide +kernel
theorem dX7_init_1 : decode cX7_init 1 = .ok (.invokespecial 1, 3) := by decide +kernel
theorem dX7_init_4 : decode cX7_init 4 = .ok (.aload_n 0, 1) := by decide +kernel
theorem dX7_init_5 : decode cX7_init 5 = .ok (.bipush 6, 2) := by decide +kernel
theorem dX7_init_7 : decode cX7_init 7 = .ok (.anewarray 9, 3) := by decide +kernel
theorem dX7_init_10 : decode cX7_init 10 = .ok (.putfield 11, 3) := by decide +kernel
theorem dX7_init_13 : decode cX7_init 13 = .ok (.aload_n 0, 1) := by decide +kernel
theorem dX7_init_14 : decode cX7_init 14 = .ok (.iconst 4, 1) := by decide +kernel
theorem dX7_init_15 : decode cX7_init 15 = .ok (.anewarray 15, 3) := by decide +kernel
theorem dX7_init_18 : decode cX7_init 18 = .ok (.putfield 17, 3) := by decide +kernel
theorem dX7_init_21 : decode cX7_init 21 = .ok (.aload_n 0, 1) := by decide +kernel
theorem dX7_init_22 : decode cX7_init 22 = .ok (.new 21, 3) := by decide +kernel
theorem dX7_init_25 : decode cX7_init 25 = .ok (.dup, 1) := by decide +kernel
theorem dX7_init_26 : decode cX7_init 26 = .ok (.invokespecial 23, 3) := by decide +kernel
theorem dX7_init_29 : decode cX7_init 29 = .ok (.putfield 24, 3) := by decide +kernel
theorem dX7_init_32 : decode cX7_init 32 = .ok (.aload_n 0, 1) := by decide +kernel
theorem dX7_init_33 : decode cX7_init 33 = .ok (.new 21, 3) := by decide +kernel
theorem dX7_init_36 : decode cX7_init 36 = .ok (.dup, 1) := by decide +kernel
theorem dX7_init_37 : decode cX7_init 37 = .ok (.invokespecial 23, 3) := by decide +kernel
theorem dX7_init_40 : decode cX7_init 40 = .ok (.putfield 28, 3) := by decide +kernel
theorem dX7_init_43 : decode cX7_init 43 = .ok (.aload_n 0, 1) := by decide +kernel
theorem dX7_init_44 : decode cX7_init 44 = .ok (.new 21, 3) := by decide +kernel
theorem dX7_init_47 : decode cX7_init 47 = .ok (.dup, 1) := by decide +kernel
theorem dX7_init_48 : decode cX7_init 48 = .ok (.invokespecial 23, 3) := by decide +kernel
theorem dX7_init_51 : decode cX7_init 51 = .ok (.putfield 31, 3) := by decide +kernel
theorem dX7_init_54 : decode cX7_init 54 = .ok (.aload_n 0, 1) := by decide +kernel
theorem dX7_init_55 : decode cX7_init 55 = .ok (.new 21, 3) := by decide +kernel
theorem dX7_init_58 : decode cX7_init 58 = .ok (.dup, 1) := by decide +kernel
theorem dX7_init_59 : decode cX7_init 59 = .ok (.invokespecial 23, 3) := by decide +kernel
theorem dX7_init_62 : decode cX7_init 62 = .ok (.putfield 34, 3) := by decide +kernel
theorem dX7_init_65 : decode cX7_init 65 = .ok (.aload_n 0, 1) := by decide +kernel
theorem dX7_init_66 : decode cX7_init 66 = .ok (.new 37, 3) := by decide +kernel
theorem dX7_init_69 : decode cX7_init 69 = .ok (.dup, 1) := by decide +kernel
theorem dX7_init_70 : decode cX7_init 70 = .ok (.invokespecial 39, 3) := by decide +kernel
theorem dX7_init_73 : decode cX7_init 73 = .ok (.putfield 40, 3) := by decide +kernel
theorem dX7_init_76 : decode cX7_init 76 = .ok (.aload_n 0, 1) := by decide +kernel
theorem dX7_init_77 : decode cX7_init 77 = .ok (.iconst 3, 1) := by decide +kernel
theorem dX7_init_78 : decode cX7_init 78 = .ok (.anewarray 37, 3) := by decide +kernel
theorem dX7_init_81 : decode cX7_init 81 = .ok (.putfield 44, 3) := by decide +kernel
theorem dX7_init_84 : decode cX7_init 84 = .ok (.aload_n 0, 1) := by decide +kernel
theorem dX7_init_85 : decode cX7_init 85 = .ok (.new 48, 3) := by decide +kernel
theorem dX7_init_88 : decode cX7_init 88 = .ok (.dup, 1) := by decide +kernel
theorem dX7_init_89 : decode cX7_init 89 = .ok (.invokespecial 50, 3) := by decide +kernel
theorem dX7_init_92 : decode cX7_init 92 = .ok (.putfield 51, 3) := by decide +kernel
theorem dX7_init_95 : decode cX7_init 95 = .ok (.aload_n 0, 1) := by decide +kernel
theorem dX7_init_96 : decode cX7_init 96 = .ok (.bipush 61, 2) := by decide +kernel
theorem dX7_init_98 : decode cX7_init 98 = .ok (.newarray .int, 2) := by decide +kernel
theorem dX7_init_100 : decode cX7_init 100 = .ok (.putfield 55, 3) := by decide +kernel
theorem dX7_init_103 : decode cX7_init 103 = .ok (.aload_n 0, 1) := by decide +kernel
theorem dX7_init_104 : decode cX7_init 104 = .ok (.bipush 6, 2) := by decide +kernel
theorem dX7_init_106 : decode cX7_init 106 = .ok (.bipush 21, 2) := by decide +kernel
theorem dX7_init_108 : decode cX7_init 108 = .ok (.multianewarray 59 2, 4) := by decide +kernel
theorem dX7_init_112 : decode cX7_init 112 = .ok (.putfield 61, 3) := by decide +kernel
theorem dX7_init_115 : decode cX7_init 115 = .ok (.aload_n 0, 1) := by decide +kernel
theorem dX7_init_116 : decode cX7_init 116 = .ok (.bipush 8, 2) := by decide +kernel
theorem dX7_init_118 : decode cX7_init 118 = .ok (.newarray .long, 2) := by decide +kernel
theorem dX7_init_120 : decode cX7_init 120 = .ok (.putfield 64, 3) := by decide +kernel
theorem dX7_init_123 : decode cX7_init 123 = .ok (.aload_n 0, 1) := by decide +kernel
theorem dX7_init_124 : decode cX7_init 124 = .ok (.new 68, 3) := by decide +kernel
theorem dX7_init_127 : decode cX7_init 127 = .ok (.dup, 1) := by decide +kernel
theorem dX7_init_128 : decode cX7_init 128 = .ok (.invokespecial 70, 3) := by decide +kernel
theorem dX7_init_131 : decode cX7_init 131 = .ok (.putfield 71, 3) := by decide +kernel
theorem dX7_init_134 : decode cX7_init 134 = .ok (.aload_n 0, 1) := by decide +kernel
theorem dX7_init_135 : decode cX7_init 135 = .ok (.bipush 6, 2) := by decide +kernel
theorem dX7_init_137 : decode cX7_init 137 = .ok (.newarray .int, 2) := by decide +kernel
theorem dX7_init_139 : decode cX7_init 139 = .ok (.putfield 75, 3) := by decide +kernel
theorem dX7_init_142 : decode cX7_init 142 = .ok (.iconst 0, 1) := by decide +kernel
theorem dX7_init_143 : decode cX7_init 143 = .ok (.istore_n 1, 1) := by decide +kernel
theorem dX7_init_144 : decode cX7_init 144 = .ok (.iload_n 1, 1) := by decide +kernel
theorem dX7_init_145 : decode cX7_init 145 = .ok (.bipush 6, 2) := by decide +kernel
theorem dX7_init_147 : decode cX7_init 147 = .ok (.if_icmp .ge 22, 3) := by decide +kernel
theorem dX7_init_150 : decode cX7_init 150 = .ok (.aload_n 0, 1) := by decide +kernel
theorem dX7_init_151 : decode cX7_init 151 = .ok (.getfield 11, 3) := by decide +kernel
theorem dX7_init_154 : decode cX7_init 154 = .ok (.iload_n 1, 1) := by decide +kernel
theorem dX7_init_155 : decode cX7_init 155 = .ok (.new 9, 3) := by decide +kernel
theorem dX7_init_158 : decode cX7_init 158 = .ok (.dup, 1) := by decide +kernel
theorem dX7_init_159 : decode cX7_init 159 = .ok (.invokespecial 78, 3) := by decide +kernel
theorem dX7_init_162 : decode cX7_init 162 = .ok (.aastore, 1) := by decide +kernel
theorem dX7_init_163 : decode cX7_init 163 = .ok (.iinc 1 1, 3) := by decide +kernel
theorem dX7_init_166 : decode cX7_init 166 = .ok (.goto (-22), 3) := by decide +kernel
theorem dX7_init_169 : decode cX7_init 169 = .ok (.iconst 0, 1) := by decide +kernel
theorem dX7_init_170 : decode cX7_init 170 = .ok (.istore_n 1, 1) := by decide +kernel
theorem dX7_init_171 : decode cX7_init 171 = .ok (.iload_n 1, 1) := by decide +kernel
theorem dX7_init_172 : decode cX7_init 172 = .ok (.iconst 4, 1) := by decide +kernel
theorem dX7_init_173 : decode cX7_init 173 = .ok (.if_icmp .ge 22, 3) := by decide +kernel
theorem dX7_init_176 : decode cX7_init 176 = .ok (.aload_n 0, 1) := by decide +kernel
theorem dX7_init_177 : decode cX7_init 177 = .ok (.getfield 17, 3) := by decide +kernel
theorem dX7_init_180 : decode cX7_init 180 = .ok (.iload_n 1, 1) := by decide +kernel
theorem dX7_init_181 : decode cX7_init 181 = .ok (.new 15, 3) := by decide +kernel
theorem dX7_init_184 : decode cX7_init 184 = .ok (.dup, 1) := by decide +kernel
theorem dX7_init_185 : decode cX7_init 185 = .ok (.invokespecial 79, 3) := by decide +kernel
theorem dX7_init_188 : decode cX7_init 188 = .ok (.aastore, 1) := by decide +kernel
theorem dX7_init_189 : decode cX7_init 189 = .ok (.iinc 1 1, 3) := by decide +kernel
theorem dX7_init_192 : decode cX7_init 192 = .ok (.goto (-21), 3) := by decide +kernel
theorem dX7_init_195 : decode cX7_init 195 = .ok (.iconst 0, 1) := by decide +kernel
theorem dX7_init_196 : decode cX7_init 196 = .ok (.istore_n 1, 1) := by decide +kernel
theorem dX7_init_197 : decode cX7_init 197 = .ok (.iload_n 1, 1) := by decide +kernel
theorem dX7_init_198 : decode cX7_init 198 = .ok (.iconst 3, 1) := by decide +kernel
theorem dX7_init_199 : decode cX7_init 199 = .ok (.if_icmp .ge 32, 3) := by decide +kernel
theorem dX7_init_202 : decode cX7_init 202 = .ok (.aload_n 0, 1) := by decide +kernel
theorem dX7_init_203 : decode cX7_init 203 = .ok (.getfield 44, 3) := by decide +kernel
theorem dX7_init_206 : decode cX7_init 206 = .ok (.iload_n 1, 1) := by decide +kernel
theorem dX7_init_207 : decode cX7_init 207 = .ok (.new 37, 3) := by decide +kernel
theorem dX7_init_210 : decode cX7_init 210 = .ok (.dup, 1) := by decide +kernel
theorem dX7_init_211 : decode cX7_init 211 = .ok (.invokespecial 39, 3) := by decide +kernel
theorem dX7_init_214 : decode cX7_init 214 = .ok (.aastore, 1) := by decide +kernel
theorem dX7_init_215 : decode cX7_init 215 = .ok (.aload_n 0, 1) := by decide +kernel
theorem dX7_init_216 : decode cX7_init 216 = .ok (.getfield 44, 3) := by decide +kernel
theorem dX7_init_219 : decode cX7_init 219 = .ok (.iload_n 1, 1) := by decide +kernel
theorem dX7_init_220 : decode cX7_init 220 = .ok (.aaload, 1) := by decide +kernel
theorem dX7_init_221 : decode cX7_init 221 = .ok (.iconst (-1), 1) := by decide +kernel
theorem dX7_init_222 : decode cX7_init 222 = .ok (.putfield 80, 3) := by decide +kernel
theorem dX7_init_225 : decode cX7_init 225 = .ok (.iinc 1 1, 3) := by decide +kernel
theorem dX7_init_228 : decode cX7_init 228 = .ok (.goto (-31), 3) := by decide +kernel
theorem dX7_init_231 : decode cX7_init 231 = .ok (.return_, 1) := by decide +kernel
theorem dX7_row_0 : decode cX7_row 0 = .ok (.iload_n 1, 1) := by decide +kernel
theorem dX7_row_1 : decode cX7_row 1 = .ok (.invokestatic 84, 3) := by decide +kernel
theorem dX7_row_4 : decode cX7_row 4 = .ok (.ifCond .eq 9, 3) := by decide +kernel
theorem dX7_row_7 : decode cX7_row 7 = .ok (.iload_n 2, 1) := by decide +kernel
theorem dX7_row_8 : decode cX7_row 8 = .ok (.bipush 40, 2) := by decide +kernel
theorem dX7_row_10 : decode cX7_row 10 = .ok (.if_icmp .le 5, 3) := by decide +kernel
theorem dX7_row_13 : decode cX7_row 13 = .ok (.iconst (-1), 1) := by decide +kernel
theorem dX7_row_14 : decode cX7_row 14 = .ok (.ireturn, 1) := by decide +kernel
theorem dX7_row_15 : decode cX7_row 15 = .ok (.iload_n 2, 1) := by decide +kernel
theorem dX7_row_16 : decode cX7_row 16 = .ok (.ifCond .ge 9, 3) := by decide +kernel
theorem dX7_row_19 : decode cX7_row 19 = .ok (.aload_n 0, 1) := by decide +kernel
theorem dX7_row_20 : decode cX7_row 20 = .ok (.iconst 5, 1) := by decide +kernel
theorem dX7_row_21 : decode cX7_row 21 = .ok (.invokevirtual 88, 3) := by decide +kernel
theorem dX7_row_24 : decode cX7_row 24 = .ok (.ireturn, 1) := by decide +kernel
theorem dX7_row_25 : decode cX7_row 25 = .ok (.aload_n 0, 1) := by decide +kernel
theorem dX7_row_26 : decode cX7_row 26 = .ok (.getfield 11, 3) := by decide +kernel
theorem dX7_row_29 : decode cX7_row 29 = .ok (.iload_n 1, 1) := by decide +kernel
theorem dX7_row_30 : decode cX7_row 30 = .ok (.aaload, 1) := by decide +kernel
theorem dX7_row_31 : decode cX7_row 31 = .ok (.iload_n 2, 1) := by decide +kernel
theorem dX7_row_32 : decode cX7_row 32 = .ok (.invokevirtual 92, 3) := by decide +kernel
theorem dX7_row_35 : decode cX7_row 35 = .ok (.iload_n 2, 1) := by decide +kernel
theorem dX7_row_36 : decode cX7_row 36 = .ok (.ireturn, 1) := by decide +kernel
theorem dX7_lay_0 : decode cX7_lay 0 = .ok (.aload_n 0, 1) := by decide +kernel
theorem dX7_lay_1 : decode cX7_lay 1 = .ok (.iload_n 1, 1) := by decide +kernel
theorem dX7_lay_2 : decode cX7_lay 2 = .ok (.iload_n 2, 1) := by decide +kernel
theorem dX7_lay_3 : decode cX7_lay 3 = .ok (.invokevirtual 96, 3) := by decide +kernel
theorem dX7_lay_6 : decode cX7_lay 6 = .ok (.istore 4, 2) := by decide +kernel
theorem dX7_lay_8 : decode cX7_lay 8 = .ok (.iload 4, 2) := by decide +kernel
theorem dX7_lay_10 : decode cX7_lay 10 = .ok (.ifCond .eq 6, 3) := by decide +kernel
theorem dX7_lay_13 : decode cX7_lay 13 = .ok (.iload 4, 2) := by decide +kernel
theorem dX7_lay_15 : decode cX7_lay 15 = .ok (.ireturn, 1) := by decide +kernel
theorem dX7_lay_16 : decode cX7_lay 16 = .ok (.aload_n 0, 1) := by decide +kernel
theorem dX7_lay_17 : decode cX7_lay 17 = .ok (.aload_n 0, 1) := by decide +kernel
theorem dX7_lay_18 : decode cX7_lay 18 = .ok (.getfield 11, 3) := by decide +kernel
theorem dX7_lay_21 : decode cX7_lay 21 = .ok (.iload_n 1, 1) := by decide +kernel
theorem dX7_lay_22 : decode cX7_lay 22 = .ok (.aaload, 1) := by decide +kernel
theorem dX7_lay_23 : decode cX7_lay 23 = .ok (.getfield 100, 3) := by decide +kernel
theorem dX7_lay_26 : decode cX7_lay 26 = .ok (.iload_n 2, 1) := by decide +kernel
theorem dX7_lay_27 : decode cX7_lay 27 = .ok (.iaload, 1) := by decide +kernel
theorem dX7_lay_28 : decode cX7_lay 28 = .ok (.putfield 103, 3) := by decide +kernel
theorem dX7_lay_31 : decode cX7_lay 31 = .ok (.aload_n 0, 1) := by decide +kernel
theorem dX7_lay_32 : decode cX7_lay 32 = .ok (.getfield 11, 3) := by decide +kernel
theorem dX7_lay_35 : decode cX7_lay 35 = .ok (.iload_n 1, 1) := by decide +kernel
theorem dX7_lay_36 : decode cX7_lay 36 = .ok (.aaload, 1) := by decide +kernel
theorem dX7_lay_37 : decode cX7_lay 37 = .ok (.getfield 100, 3) := by decide +kernel
theorem dX7_lay_40 : decode cX7_lay 40 = .ok (.iload_n 2, 1) := by decide +kernel
theorem dX7_lay_41 : decode cX7_lay 41 = .ok (.iload_n 3, 1) := by decide +kernel
theorem dX7_lay_42 : decode cX7_lay 42 = .ok (.iastore, 1) := by decide +kernel
theorem dX7_lay_43 : decode cX7_lay 43 = .ok (.iconst 1, 1) := by decide +kernel
theorem dX7_lay_44 : decode cX7_lay 44 = .ok (.ireturn, 1) := by decide +kernel
theorem dX7_at_0 : decode cX7_at 0 = .ok (.aload_n 0, 1) := by decide +kernel
theorem dX7_at_1 : decode cX7_at 1 = .ok (.iload_n 1, 1) := by decide +kernel
theorem dX7_at_2 : decode cX7_at 2 = .ok (.iload_n 2, 1) := by decide +kernel
theorem dX7_at_3 : decode cX7_at 3 = .ok (.invokevirtual 96, 3) := by decide +kernel
theorem dX7_at_6 : decode cX7_at 6 = .ok (.istore_n 3, 1) := by decide +kernel
theorem dX7_at_7 : decode cX7_at 7 = .ok (.iload_n 3, 1) := by decide +kernel
theorem dX7_at_8 : decode cX7_at 8 = .ok (.ifCond .eq 5, 3) := by decide +kernel
theorem dX7_at_11 : decode cX7_at 11 = .ok (.iload_n 3, 1) := by decide +kernel
theorem dX7_at_12 : decode cX7_at 12 = .ok (.ireturn, 1) := by decide +kernel
theorem dX7_at_13 : decode cX7_at 13 = .ok (.aload_n 0, 1) := by decide +kernel
theorem dX7_at_14 : decode cX7_at 14 = .ok (.aload_n 0, 1) := by decide +kernel
theorem dX7_at_15 : decode cX7_at 15 = .ok (.getfield 11, 3) := by decide +kernel
theorem dX7_at_18 : decode cX7_at 18 = .ok (.iload_n 1, 1) := by decide +kernel
theorem dX7_at_19 : decode cX7_at 19 = .ok (.aaload, 1) := by decide +kernel
theorem dX7_at_20 : decode cX7_at 20 = .ok (.getfield 100, 3) := by decide +kernel
theorem dX7_at_23 : decode cX7_at 23 = .ok (.iload_n 2, 1) := by decide +kernel
theorem dX7_at_24 : decode cX7_at 24 = .ok (.iaload, 1) := by decide +kernel
theorem dX7_at_25 : decode cX7_at 25 = .ok (.putfield 103, 3) := by decide +kernel
theorem dX7_at_28 : decode cX7_at 28 = .ok (.iconst 1, 1) := by decide +kernel
theorem dX7_at_29 : decode cX7_at 29 = .ok (.ireturn, 1) := by decide +kernel
theorem dX7_tear_0 : decode cX7_tear 0 = .ok (.aload_n 0, 1) := by decide +kernel
theorem dX7_tear_1 : decode cX7_tear 1 = .ok (.iload_n 1, 1) := by decide +kernel
theorem dX7_tear_2 : decode cX7_tear 2 = .ok (.invokevirtual 106, 3) := by decide +kernel
theorem dX7_tear_5 : decode cX7_tear 5 = .ok (.istore_n 2, 1) := by decide +kernel
theorem dX7_tear_6 : decode cX7_tear 6 = .ok (.iload_n 2, 1) := by decide +kernel
theorem dX7_tear_7 : decode cX7_tear 7 = .ok (.ifCond .eq 5, 3) := by decide +kernel
theorem dX7_tear_10 : decode cX7_tear 10 = .ok (.iload_n 2, 1) := by decide +kernel
theorem dX7_tear_11 : decode cX7_tear 11 = .ok (.ireturn, 1) := by decide +kernel
theorem dX7_tear_12 : decode cX7_tear 12 = .ok (.aload_n 0, 1) := by decide +kernel
theorem dX7_tear_13 : decode cX7_tear 13 = .ok (.getfield 11, 3) := by decide +kernel
theorem dX7_tear_16 : decode cX7_tear 16 = .ok (.iload_n 1, 1) := by decide +kernel
theorem dX7_tear_17 : decode cX7_tear 17 = .ok (.aaload, 1) := by decide +kernel
theorem dX7_tear_18 : decode cX7_tear 18 = .ok (.iconst (-1), 1) := by decide +kernel
theorem dX7_tear_19 : decode cX7_tear 19 = .ok (.putfield 109, 3) := by decide +kernel
theorem dX7_tear_22 : decode cX7_tear 22 = .ok (.iconst 1, 1) := by decide +kernel
theorem dX7_tear_23 : decode cX7_tear 23 = .ok (.ireturn, 1) := by decide +kernel
theorem dX7_copy_0 : decode cX7_copy 0 = .ok (.iload_n 1, 1) := by decide +kernel
theorem dX7_copy_1 : decode cX7_copy 1 = .ok (.invokestatic 84, 3) := by decide +kernel
theorem dX7_copy_4 : decode cX7_copy 4 = .ok (.ifCond .eq 10, 3) := by decide +kernel
theorem dX7_copy_7 : decode cX7_copy 7 = .ok (.iload_n 3, 1) := by decide +kernel
theorem dX7_copy_8 : decode cX7_copy 8 = .ok (.invokestatic 84, 3) := by decide +kernel
theorem dX7_copy_11 : decode cX7_copy 11 = .ok (.ifCond .ne 5, 3) := by decide +kernel
theorem dX7_copy_14 : decode cX7_copy 14 = .ok (.iconst (-1), 1) := by decide +kernel
theorem dX7_copy_15 : decode cX7_copy 15 = .ok (.ireturn, 1) := by decide +kernel
theorem dX7_copy_16 : decode cX7_copy 16 = .ok (.iload 5, 2) := by decide +kernel
theorem dX7_copy_18 : decode cX7_copy 18 = .ok (.ifCond .ge 9, 3) := by decide +kernel
theorem dX7_copy_21 : decode cX7_copy 21 = .ok (.aload_n 0, 1) := by decide +kernel
theorem dX7_copy_22 : decode cX7_copy 22 = .ok (.iconst 5, 1) := by decide +kernel
theorem dX7_copy_23 : decode cX7_copy 23 = .ok (.invokevirtual 88, 3) := by decide +kernel
theorem dX7_copy_26 : decode cX7_copy 26 = .ok (.ireturn, 1) := by decide +kernel
theorem dX7_copy_27 : decode cX7_copy 27 = .ok (.aload_n 0, 1) := by decide +kernel
theorem dX7_copy_28 : decode cX7_copy 28 = .ok (.getfield 11, 3) := by decide +kernel
theorem dX7_copy_31 : decode cX7_copy 31 = .ok (.iload_n 1, 1) := by decide +kernel
theorem dX7_copy_32 : decode cX7_copy 32 = .ok (.aaload, 1) := by decide +kernel
theorem dX7_copy_33 : decode cX7_copy 33 = .ok (.invokevirtual 110, 3) := by decide +kernel
theorem dX7_copy_36 : decode cX7_copy 36 = .ok (.ifCond .ne 15, 3) := by decide +kernel
theorem dX7_copy_39 : decode cX7_copy 39 = .ok (.aload_n 0, 1) := by decide +kernel
theorem dX7_copy_40 : decode cX7_copy 40 = .ok (.getfield 11, 3) := by decide +kernel
theorem dX7_copy_43 : decode cX7_copy 43 = .ok (.iload_n 3, 1) := by decide +kernel
theorem dX7_copy_44 : decode cX7_copy 44 = .ok (.aaload, 1) := by decide +kernel
theorem dX7_copy_45 : decode cX7_copy 45 = .ok (.invokevirtual 110, 3) := by decide +kernel
theorem dX7_copy_48 : decode cX7_copy 48 = .ok (.ifCond .eq 9, 3) := by decide +kernel
theorem dX7_copy_51 : decode cX7_copy 51 = .ok (.aload_n 0, 1) := by decide +kernel
theorem dX7_copy_52 : decode cX7_copy 52 = .ok (.iconst 1, 1) := by decide +kernel
theorem dX7_copy_53 : decode cX7_copy 53 = .ok (.invokevirtual 88, 3) := by decide +kernel
theorem dX7_copy_56 : decode cX7_copy 56 = .ok (.ireturn, 1) := by decide +kernel
theorem dX7_copy_57 : decode cX7_copy 57 = .ok (.aload_n 0, 1) := by decide +kernel
theorem dX7_copy_58 : decode cX7_copy 58 = .ok (.getfield 11, 3) := by decide +kernel
theorem dX7_copy_61 : decode cX7_copy 61 = .ok (.iload_n 1, 1) := by decide +kernel
theorem dX7_copy_62 : decode cX7_copy 62 = .ok (.aaload, 1) := by decide +kernel
theorem dX7_copy_63 : decode cX7_copy 63 = .ok (.iload_n 2, 1) := by decide +kernel
theorem dX7_copy_64 : decode cX7_copy 64 = .ok (.iload 5, 2) := by decide +kernel
theorem dX7_copy_66 : decode cX7_copy 66 = .ok (.invokevirtual 114, 3) := by decide +kernel
theorem dX7_copy_69 : decode cX7_copy 69 = .ok (.ifCond .eq 19, 3) := by decide +kernel
theorem dX7_copy_72 : decode cX7_copy 72 = .ok (.aload_n 0, 1) := by decide +kernel
theorem dX7_copy_73 : decode cX7_copy 73 = .ok (.getfield 11, 3) := by decide +kernel
theorem dX7_copy_76 : decode cX7_copy 76 = .ok (.iload_n 3, 1) := by decide +kernel
theorem dX7_copy_77 : decode cX7_copy 77 = .ok (.aaload, 1) := by decide +kernel
theorem dX7_copy_78 : decode cX7_copy 78 = .ok (.iload 4, 2) := by decide +kernel
theorem dX7_copy_80 : decode cX7_copy 80 = .ok (.iload 5, 2) := by decide +kernel
theorem dX7_copy_82 : decode cX7_copy 82 = .ok (.invokevirtual 114, 3) := by decide +kernel
theorem dX7_copy_85 : decode cX7_copy 85 = .ok (.ifCond .ne 9, 3) := by decide +kernel
theorem dX7_copy_88 : decode cX7_copy 88 = .ok (.aload_n 0, 1) := by decide +kernel
theorem dX7_copy_89 : decode cX7_copy 89 = .ok (.iconst 2, 1) := by decide +kernel
theorem dX7_copy_90 : decode cX7_copy 90 = .ok (.invokevirtual 88, 3) := by decide +kernel
theorem dX7_copy_93 : decode cX7_copy 93 = .ok (.ireturn, 1) := by decide +kernel
theorem dX7_copy_94 : decode cX7_copy 94 = .ok (.aload_n 0, 1) := by decide +kernel
theorem dX7_copy_95 : decode cX7_copy 95 = .ok (.getfield 11, 3) := by decide +kernel
theorem dX7_copy_98 : decode cX7_copy 98 = .ok (.iload_n 1, 1) := by decide +kernel
theorem dX7_copy_99 : decode cX7_copy 99 = .ok (.aaload, 1) := by decide +kernel
theorem dX7_copy_100 : decode cX7_copy 100 = .ok (.getfield 100, 3) := by decide +kernel
theorem dX7_copy_103 : decode cX7_copy 103 = .ok (.iload_n 2, 1) := by decide +kernel
theorem dX7_copy_104 : decode cX7_copy 104 = .ok (.aload_n 0, 1) := by decide +kernel
theorem dX7_copy_105 : decode cX7_copy 105 = .ok (.getfield 11, 3) := by decide +kernel
theorem dX7_copy_108 : decode cX7_copy 108 = .ok (.iload_n 3, 1) := by decide +kernel
theorem dX7_copy_109 : decode cX7_copy 109 = .ok (.aaload, 1) := by decide +kernel
theorem dX7_copy_110 : decode cX7_copy 110 = .ok (.getfield 100, 3) := by decide +kernel
theorem dX7_copy_113 : decode cX7_copy 113 = .ok (.iload 4, 2) := by decide +kernel
theorem dX7_copy_115 : decode cX7_copy 115 = .ok (.iload 5, 2) := by decide +kernel
theorem dX7_copy_117 : decode cX7_copy 117 = .ok (.invokestatic 118, 3) := by decide +kernel
theorem dX7_copy_120 : decode cX7_copy 120 = .ok (.iconst 1, 1) := by decide +kernel
theorem dX7_copy_121 : decode cX7_copy 121 = .ok (.ireturn, 1) := by decide +kernel
theorem dX7_mean_0 : decode cX7_mean 0 = .ok (.aload_n 0, 1) := by decide +kernel
theorem dX7_mean_1 : decode cX7_mean 1 = .ok (.iload_n 1, 1) := by decide +kernel
theorem dX7_mean_2 : decode cX7_mean 2 = .ok (.invokevirtual 106, 3) := by decide +kernel
theorem dX7_mean_5 : decode cX7_mean 5 = .ok (.istore_n 2, 1) := by decide +kernel
theorem dX7_mean_6 : decode cX7_mean 6 = .ok (.iload_n 2, 1) := by decide +kernel
theorem dX7_mean_7 : decode cX7_mean 7 = .ok (.ifCond .eq 5, 3) := by decide +kernel
theorem dX7_mean_10 : decode cX7_mean 10 = .ok (.iload_n 2, 1) := by decide +kernel
theorem dX7_mean_11 : decode cX7_mean 11 = .ok (.ireturn, 1) := by decide +kernel
theorem dX7_mean_12 : decode cX7_mean 12 = .ok (.aload_n 0, 1) := by decide +kernel
theorem dX7_mean_13 : decode cX7_mean 13 = .ok (.getfield 11, 3) := by decide +kernel
theorem dX7_mean_16 : decode cX7_mean 16 = .ok (.iload_n 1, 1) := by decide +kernel
theorem dX7_mean_17 : decode cX7_mean 17 = .ok (.aaload, 1) := by decide +kernel
theorem dX7_mean_18 : decode cX7_mean 18 = .ok (.getfield 109, 3) := by decide +kernel
theorem dX7_mean_21 : decode cX7_mean 21 = .ok (.ifCond .ne 9, 3) := by decide +kernel
theorem dX7_mean_24 : decode cX7_mean 24 = .ok (.aload_n 0, 1) := by decide +kernel
theorem dX7_mean_25 : decode cX7_mean 25 = .ok (.iconst 4, 1) := by decide +kernel
theorem dX7_mean_26 : decode cX7_mean 26 = .ok (.invokevirtual 88, 3) := by decide +kernel
theorem dX7_mean_29 : decode cX7_mean 29 = .ok (.ireturn, 1) := by decide +kernel
theorem dX7_mean_30 : decode cX7_mean 30 = .ok (.lconst 0, 1) := by decide +kernel
theorem dX7_mean_31 : decode cX7_mean 31 = .ok (.lstore_n 3, 1) := by decide +kernel
theorem dX7_mean_32 : decode cX7_mean 32 = .ok (.iconst 0, 1) := by decide +kernel
theorem dX7_mean_33 : decode cX7_mean 33 = .ok (.istore 5, 2) := by decide +kernel
theorem dX7_mean_35 : decode cX7_mean 35 = .ok (.iload 5, 2) := by decide +kernel
theorem dX7_mean_37 : decode cX7_mean 37 = .ok (.aload_n 0, 1) := by decide +kernel
theorem dX7_mean_38 : decode cX7_mean 38 = .ok (.getfield 11, 3) := by decide +kernel
theorem dX7_mean_41 : decode cX7_mean 41 = .ok (.iload_n 1, 1) := by decide +kernel
theorem dX7_mean_42 : decode cX7_mean 42 = .ok (.aaload, 1) := by decide +kernel
theorem dX7_mean_43 : decode cX7_mean 43 = .ok (.getfield 109, 3) := by decide +kernel
theorem dX7_mean_46 : decode cX7_mean 46 = .ok (.if_icmp .ge 25, 3) := by decide +kernel
theorem dX7_mean_49 : decode cX7_mean 49 = .ok (.lload_n 3, 1) := by decide +kernel
theorem dX7_mean_50 : decode cX7_mean 50 = .ok (.aload_n 0, 1) := by decide +kernel
theorem dX7_mean_51 : decode cX7_mean 51 = .ok (.getfield 11, 3) := by decide +kernel
theorem dX7_mean_54 : decode cX7_mean 54 = .ok (.iload_n 1, 1) := by decide +kernel
theorem dX7_mean_55 : decode cX7_mean 55 = .ok (.aaload, 1) := by decide +kernel
theorem dX7_mean_56 : decode cX7_mean 56 = .ok (.getfield 100, 3) := by decide +kernel
theorem dX7_mean_59 : decode cX7_mean 59 = .ok (.iload 5, 2) := by decide +kernel
theorem dX7_mean_61 : decode cX7_mean 61 = .ok (.iaload, 1) := by decide +kernel
theorem dX7_mean_62 : decode cX7_mean 62 = .ok (.i2l, 1) := by decide +kernel
theorem dX7_mean_63 : decode cX7_mean 63 = .ok (.ladd, 1) := by decide +kernel
theorem dX7_mean_64 : decode cX7_mean 64 = .ok (.lstore_n 3, 1) := by decide +kernel
theorem dX7_mean_65 : decode cX7_mean 65 = .ok (.iinc 5 1, 3) := by decide +kernel
theorem dX7_mean_68 : decode cX7_mean 68 = .ok (.goto (-33), 3) := by decide +kernel
theorem dX7_mean_71 : decode cX7_mean 71 = .ok (.aload_n 0, 1) := by decide +kernel
theorem dX7_mean_72 : decode cX7_mean 72 = .ok (.lload_n 3, 1) := by decide +kernel
theorem dX7_mean_73 : decode cX7_mean 73 = .ok (.aload_n 0, 1) := by decide +kernel
theorem dX7_mean_74 : decode cX7_mean 74 = .ok (.getfield 11, 3) := by decide +kernel
theorem dX7_mean_77 : decode cX7_mean 77 = .ok (.iload_n 1, 1) := by decide +kernel
theorem dX7_mean_78 : decode cX7_mean 78 = .ok (.aaload, 1) := by decide +kernel
theorem dX7_mean_79 : decode cX7_mean 79 = .ok (.getfield 109, 3) := by decide +kernel
theorem dX7_mean_82 : decode cX7_mean 82 = .ok (.i2l, 1) := by decide +kernel
theorem dX7_mean_83 : decode cX7_mean 83 = .ok (.ldiv, 1) := by decide +kernel
theorem dX7_mean_84 : decode cX7_mean 84 = .ok (.l2i, 1) := by decide +kernel
theorem dX7_mean_85 : decode cX7_mean 85 = .ok (.putfield 103, 3) := by decide +kernel
theorem dX7_mean_88 : decode cX7_mean 88 = .ok (.iconst 1, 1) := by decide +kernel
theorem dX7_mean_89 : decode cX7_mean 89 = .ok (.ireturn, 1) := by decide +kernel
theorem dX7_text_0 : decode cX7_text 0 = .ok (.iload_n 1, 1) := by decide +kernel
theorem dX7_text_1 : decode cX7_text 1 = .ok (.invokestatic 124, 3) := by decide +kernel
theorem dX7_text_4 : decode cX7_text 4 = .ok (.ifCond .eq 9, 3) := by decide +kernel
theorem dX7_text_7 : decode cX7_text 7 = .ok (.iload_n 2, 1) := by decide +kernel
theorem dX7_text_8 : decode cX7_text 8 = .ok (.bipush 60, 2) := by decide +kernel
theorem dX7_text_10 : decode cX7_text 10 = .ok (.if_icmp .le 5, 3) := by decide +kernel
theorem dX7_text_13 : decode cX7_text 13 = .ok (.iconst (-1), 1) := by decide +kernel
theorem dX7_text_14 : decode cX7_text 14 = .ok (.ireturn, 1) := by decide +kernel
theorem dX7_text_15 : decode cX7_text 15 = .ok (.iload_n 2, 1) := by decide +kernel
theorem dX7_text_16 : decode cX7_text 16 = .ok (.ifCond .ge 9, 3) := by decide +kernel
theorem dX7_text_19 : decode cX7_text 19 = .ok (.aload_n 0, 1) := by decide +kernel
theorem dX7_text_20 : decode cX7_text 20 = .ok (.iconst 5, 1) := by decide +kernel
theorem dX7_text_21 : decode cX7_text 21 = .ok (.invokevirtual 88, 3) := by decide +kernel
theorem dX7_text_24 : decode cX7_text 24 = .ok (.ireturn, 1) := by decide +kernel
theorem dX7_text_25 : decode cX7_text 25 = .ok (.aload_n 0, 1) := by decide +kernel
theorem dX7_text_26 : decode cX7_text 26 = .ok (.getfield 17, 3) := by decide +kernel
theorem dX7_text_29 : decode cX7_text 29 = .ok (.iload_n 1, 1) := by decide +kernel
theorem dX7_text_30 : decode cX7_text 30 = .ok (.aaload, 1) := by decide +kernel
theorem dX7_text_31 : decode cX7_text 31 = .ok (.iload_n 2, 1) := by decide +kernel
theorem dX7_text_32 : decode cX7_text 32 = .ok (.invokevirtual 127, 3) := by decide +kernel
theorem dX7_text_35 : decode cX7_text 35 = .ok (.iload_n 2, 1) := by decide +kernel
theorem dX7_text_36 : decode cX7_text 36 = .ok (.ireturn, 1) := by decide +kernel
theorem dX7_put_0 : decode cX7_put 0 = .ok (.aload_n 0, 1) := by decide +kernel
theorem dX7_put_1 : decode cX7_put 1 = .ok (.iload_n 1, 1) := by decide +kernel
theorem dX7_put_2 : decode cX7_put 2 = .ok (.invokevirtual 128, 3) := by decide +kernel
theorem dX7_put_5 : decode cX7_put 5 = .ok (.istore 4, 2) := by decide +kernel
theorem dX7_put_7 : decode cX7_put 7 = .ok (.iload 4, 2) := by decide +kernel
theorem dX7_put_9 : decode cX7_put 9 = .ok (.ifCond .eq 6, 3) := by decide +kernel
theorem dX7_put_12 : decode cX7_put 12 = .ok (.iload 4, 2) := by decide +kernel
theorem dX7_put_14 : decode cX7_put 14 = .ok (.ireturn, 1) := by decide +kernel
theorem dX7_put_15 : decode cX7_put 15 = .ok (.iload_n 2, 1) := by decide +kernel
theorem dX7_put_16 : decode cX7_put 16 = .ok (.ifCond .lt 16, 3) := by decide +kernel
theorem dX7_put_19 : decode cX7_put 19 = .ok (.iload_n 2, 1) := by decide +kernel
theorem dX7_put_20 : decode cX7_put 20 = .ok (.aload_n 0, 1) := by decide +kernel
theorem dX7_put_21 : decode cX7_put 21 = .ok (.getfield 17, 3) := by decide +kernel
theorem dX7_put_24 : decode cX7_put 24 = .ok (.iload_n 1, 1) := by decide +kernel
theorem dX7_put_25 : decode cX7_put 25 = .ok (.aaload, 1) := by decide +kernel
theorem dX7_put_26 : decode cX7_put 26 = .ok (.getfield 131, 3) := by decide +kernel
theorem dX7_put_29 : decode cX7_put 29 = .ok (.if_icmp .lt 9, 3) := by decide +kernel
theorem dX7_put_32 : decode cX7_put 32 = .ok (.aload_n 0, 1) := by decide +kernel
theorem dX7_put_33 : decode cX7_put 33 = .ok (.iconst 2, 1) := by decide +kernel
theorem dX7_put_34 : decode cX7_put 34 = .ok (.invokevirtual 88, 3) := by decide +kernel
theorem dX7_put_37 : decode cX7_put 37 = .ok (.ireturn, 1) := by decide +kernel
theorem dX7_put_38 : decode cX7_put 38 = .ok (.aload_n 0, 1) := by decide +kernel
theorem dX7_put_39 : decode cX7_put 39 = .ok (.getfield 17, 3) := by decide +kernel
theorem dX7_put_42 : decode cX7_put 42 = .ok (.iload_n 1, 1) := by decide +kernel
theorem dX7_put_43 : decode cX7_put 43 = .ok (.aaload, 1) := by decide +kernel
theorem dX7_put_44 : decode cX7_put 44 = .ok (.getfield 132, 3) := by decide +kernel
theorem dX7_put_47 : decode cX7_put 47 = .ok (.iload_n 2, 1) := by decide +kernel
theorem dX7_put_48 : decode cX7_put 48 = .ok (.baload, 1) := by decide +kernel
theorem dX7_put_49 : decode cX7_put 49 = .ok (.istore 5, 2) := by decide +kernel
theorem dX7_put_51 : decode cX7_put 51 = .ok (.aload_n 0, 1) := by decide +kernel
theorem dX7_put_52 : decode cX7_put 52 = .ok (.getfield 17, 3) := by decide +kernel
theorem dX7_put_55 : decode cX7_put 55 = .ok (.iload_n 1, 1) := by decide +kernel
theorem dX7_put_56 : decode cX7_put 56 = .ok (.aaload, 1) := by decide +kernel
theorem dX7_put_57 : decode cX7_put 57 = .ok (.getfield 132, 3) := by decide +kernel
theorem dX7_put_60 : decode cX7_put 60 = .ok (.iload_n 2, 1) := by decide +kernel
theorem dX7_put_61 : decode cX7_put 61 = .ok (.iload_n 3, 1) := by decide +kernel
theorem dX7_put_62 : decode cX7_put 62 = .ok (.i2b, 1) := by decide +kernel
theorem dX7_put_63 : decode cX7_put 63 = .ok (.bastore, 1) := by decide +kernel
theorem dX7_put_64 : decode cX7_put 64 = .ok (.iload 5, 2) := by decide +kernel
theorem dX7_put_66 : decode cX7_put 66 = .ok (.sipush 1000, 3) := by decide +kernel
theorem dX7_put_69 : decode cX7_put 69 = .ok (.iadd, 1) := by decide +kernel
theorem dX7_put_70 : decode cX7_put 70 = .ok (.ireturn, 1) := by decide +kernel
theorem dX7_fault_0 : decode cX7_fault 0 = .ok (.aload_n 0, 1) := by decide +kernel
theorem dX7_fault_1 : decode cX7_fault 1 = .ok (.iload_n 1, 1) := by decide +kernel
theorem dX7_fault_2 : decode cX7_fault 2 = .ok (.invokevirtual 128, 3) := by decide +kernel
theorem dX7_fault_5 : decode cX7_fault 5 = .ok (.istore_n 2, 1) := by decide +kernel
theorem dX7_fault_6 : decode cX7_fault 6 = .ok (.iload_n 2, 1) := by decide +kernel
theorem dX7_fault_7 : decode cX7_fault 7 = .ok (.ifCond .eq 7, 3) := by decide +kernel
theorem dX7_fault_10 : decode cX7_fault 10 = .ok (.iload_n 2, 1) := by decide +kernel
theorem dX7_fault_11 : decode cX7_fault 11 = .ok (.goto 16, 3) := by decide +kernel
theorem dX7_fault_14 : decode cX7_fault 14 = .ok (.aload_n 0, 1) := by decide +kernel
theorem dX7_fault_15 : decode cX7_fault 15 = .ok (.getfield 17, 3) := by decide +kernel
theorem dX7_fault_18 : decode cX7_fault 18 = .ok (.iload_n 1, 1) := by decide +kernel
theorem dX7_fault_19 : decode cX7_fault 19 = .ok (.aaload, 1) := by decide +kernel
theorem dX7_fault_20 : decode cX7_fault 20 = .ok (.aload_n 0, 1) := by decide +kernel
theorem dX7_fault_21 : decode cX7_fault 21 = .ok (.getfield 31, 3) := by decide +kernel
theorem dX7_fault_24 : decode cX7_fault 24 = .ok (.invokestatic 136, 3) := by decide +kernel
theorem dX7_fault_27 : decode cX7_fault 27 = .ok (.ireturn, 1) := by decide +kernel
theorem dX7_board_0 : decode cX7_board 0 = .ok (.aload_n 0, 1) := by decide +kernel
theorem dX7_board_1 : decode cX7_board 1 = .ok (.iload_n 1, 1) := by decide +kernel
theorem dX7_board_2 : decode cX7_board 2 = .ok (.invokevirtual 128, 3) := by decide +kernel
theorem dX7_board_5 : decode cX7_board 5 = .ok (.istore_n 2, 1) := by decide +kernel
theorem dX7_board_6 : decode cX7_board 6 = .ok (.iload_n 2, 1) := by decide +kernel
theorem dX7_board_7 : decode cX7_board 7 = .ok (.ifCond .eq 5, 3) := by decide +kernel
theorem dX7_board_10 : decode cX7_board 10 = .ok (.iload_n 2, 1) := by decide +kernel
theorem dX7_board_11 : decode cX7_board 11 = .ok (.ireturn, 1) := by decide +kernel
theorem dX7_board_12 : decode cX7_board 12 = .ok (.aload_n 0, 1) := by decide +kernel
theorem dX7_board_13 : decode cX7_board 13 = .ok (.getfield 17, 3) := by decide +kernel
theorem dX7_board_16 : decode cX7_board 16 = .ok (.iload_n 1, 1) := by decide +kernel
theorem dX7_board_17 : decode cX7_board 17 = .ok (.aaload, 1) := by decide +kernel
theorem dX7_board_18 : decode cX7_board 18 = .ok (.aload_n 0, 1) := by decide +kernel
theorem dX7_board_19 : decode cX7_board 19 = .ok (.getfield 31, 3) := by decide +kernel
theorem dX7_board_22 : decode cX7_board 22 = .ok (.invokestatic 136, 3) := by decide +kernel
theorem dX7_board_25 : decode cX7_board 25 = .ok (.bipush (-9), 2) := by decide +kernel
theorem dX7_board_27 : decode cX7_board 27 = .ok (.if_icmp .eq 6, 3) := by decide +kernel
theorem dX7_board_30 : decode cX7_board 30 = .ok (.bipush (-4), 2) := by decide +kernel
theorem dX7_board_32 : decode cX7_board 32 = .ok (.ireturn, 1) := by decide +kernel
theorem dX7_board_33 : decode cX7_board 33 = .ok (.aload_n 0, 1) := by decide +kernel
theorem dX7_board_34 : decode cX7_board 34 = .ok (.getfield 24, 3) := by decide +kernel
theorem dX7_board_37 : decode cX7_board 37 = .ok (.aload_n 0, 1) := by decide +kernel
theorem dX7_board_38 : decode cX7_board 38 = .ok (.getfield 31, 3) := by decide +kernel
theorem dX7_board_41 : decode cX7_board 41 = .ok (.invokevirtual 142, 3) := by decide +kernel
theorem dX7_board_44 : decode cX7_board 44 = .ok (.aload_n 0, 1) := by decide +kernel
theorem dX7_board_45 : decode cX7_board 45 = .ok (.iconst 0, 1) := by decide +kernel
theorem dX7_board_46 : decode cX7_board 46 = .ok (.invokevirtual 146, 3) := by decide +kernel
theorem dX7_board_49 : decode cX7_board 49 = .ok (.iconst 0, 1) := by decide +kernel
theorem dX7_board_50 : decode cX7_board 50 = .ok (.istore_n 3, 1) := by decide +kernel
theorem dX7_board_51 : decode cX7_board 51 = .ok (.iload_n 3, 1) := by decide +kernel
theorem dX7_board_52 : decode cX7_board 52 = .ok (.iconst 3, 1) := by decide +kernel
theorem dX7_board_53 : decode cX7_board 53 = .ok (.if_icmp .ge 19, 3) := by decide +kernel
theorem dX7_board_56 : decode cX7_board 56 = .ok (.aload_n 0, 1) := by decide +kernel
theorem dX7_board_57 : decode cX7_board 57 = .ok (.getfield 44, 3) := by decide +kernel
theorem dX7_board_60 : decode cX7_board 60 = .ok (.iload_n 3, 1) := by decide +kernel
theorem dX7_board_61 : decode cX7_board 61 = .ok (.aaload, 1) := by decide +kernel
theorem dX7_board_62 : decode cX7_board 62 = .ok (.iconst (-1), 1) := by decide +kernel
theorem dX7_board_63 : decode cX7_board 63 = .ok (.putfield 80, 3) := by decide +kernel
theorem dX7_board_66 : decode cX7_board 66 = .ok (.iinc 3 1, 3) := by decide +kernel
theorem dX7_board_69 : decode cX7_board 69 = .ok (.goto (-18), 3) := by decide +kernel
theorem dX7_board_72 : decode cX7_board 72 = .ok (.aload_n 0, 1) := by decide +kernel
theorem dX7_board_73 : decode cX7_board 73 = .ok (.getfield 28, 3) := by decide +kernel
theorem dX7_board_76 : decode cX7_board 76 = .ok (.getfield 149, 3) := by decide +kernel
theorem dX7_board_79 : decode cX7_board 79 = .ok (.ireturn, 1) := by decide +kernel
theorem dX7_drum_0 : decode cX7_drum 0 = .ok (.aload_n 0, 1) := by decide +kernel
theorem dX7_drum_1 : decode cX7_drum 1 = .ok (.iload_n 1, 1) := by decide +kernel
theorem dX7_drum_2 : decode cX7_drum 2 = .ok (.invokevirtual 152, 3) := by decide +kernel
theorem dX7_drum_5 : decode cX7_drum 5 = .ok (.ifCond .eq 13, 3) := by decide +kernel
theorem dX7_drum_8 : decode cX7_drum 8 = .ok (.iload_n 2, 1) := by decide +kernel
theorem dX7_drum_9 : decode cX7_drum 9 = .ok (.ifCond .lt 9, 3) := by decide +kernel
theorem dX7_drum_12 : decode cX7_drum 12 = .ok (.iload_n 2, 1) := by decide +kernel
theorem dX7_drum_13 : decode cX7_drum 13 = .ok (.bipush 7, 2) := by decide +kernel
theorem dX7_drum_15 : decode cX7_drum 15 = .ok (.if_icmp .lt 5, 3) := by decide +kernel
theorem dX7_drum_18 : decode cX7_drum 18 = .ok (.iconst (-1), 1) := by decide +kernel
theorem dX7_drum_19 : decode cX7_drum 19 = .ok (.ireturn, 1) := by decide +kernel
theorem dX7_drum_20 : decode cX7_drum 20 = .ok (.aload_n 0, 1) := by decide +kernel
theorem dX7_drum_21 : decode cX7_drum 21 = .ok (.aload_n 0, 1) := by decide +kernel
theorem dX7_drum_22 : decode cX7_drum 22 = .ok (.iload_n 1, 1) := by decide +kernel
theorem dX7_drum_23 : decode cX7_drum 23 = .ok (.iload_n 2, 1) := by decide +kernel
theorem dX7_drum_24 : decode cX7_drum 24 = .ok (.invokevirtual 155, 3) := by decide +kernel
theorem dX7_drum_27 : decode cX7_drum 27 = .ok (.putfield 103, 3) := by decide +kernel
theorem dX7_drum_30 : decode cX7_drum 30 = .ok (.iconst 1, 1) := by decide +kernel
theorem dX7_drum_31 : decode cX7_drum 31 = .ok (.ireturn, 1) := by decide +kernel
theorem dX7_mark_0 : decode cX7_mark 0 = .ok (.aload_n 0, 1) := by decide +kernel
theorem dX7_mark_1 : decode cX7_mark 1 = .ok (.iload_n 1, 1) := by decide +kernel
theorem dX7_mark_2 : decode cX7_mark 2 = .ok (.invokevirtual 152, 3) := by decide +kernel
theorem dX7_mark_5 : decode cX7_mark 5 = .ok (.ifCond .eq 13, 3) := by decide +kernel
theorem dX7_mark_8 : decode cX7_mark 8 = .ok (.iload_n 2, 1) := by decide +kernel
theorem dX7_mark_9 : decode cX7_mark 9 = .ok (.ifCond .le 9, 3) := by decide +kernel
theorem dX7_mark_12 : decode cX7_mark 12 = .ok (.iload_n 2, 1) := by decide +kernel
theorem dX7_mark_13 : decode cX7_mark 13 = .ok (.bipush 6, 2) := by decide +kernel
theorem dX7_mark_15 : decode cX7_mark 15 = .ok (.if_icmp .lt 5, 3) := by decide +kernel
theorem dX7_mark_18 : decode cX7_mark 18 = .ok (.iconst (-1), 1) := by decide +kernel
theorem dX7_mark_19 : decode cX7_mark 19 = .ok (.ireturn, 1) := by decide +kernel
theorem dX7_mark_20 : decode cX7_mark 20 = .ok (.aload_n 0, 1) := by decide +kernel
theorem dX7_mark_21 : decode cX7_mark 21 = .ok (.getfield 28, 3) := by decide +kernel
theorem dX7_mark_24 : decode cX7_mark 24 = .ok (.getfield 158, 3) := by decide +kernel
theorem dX7_mark_27 : decode cX7_mark 27 = .ok (.iload_n 1, 1) := by decide +kernel
theorem dX7_mark_28 : decode cX7_mark 28 = .ok (.iaload, 1) := by decide +kernel
theorem dX7_mark_29 : decode cX7_mark 29 = .ok (.iload_n 2, 1) := by decide +kernel
theorem dX7_mark_30 : decode cX7_mark 30 = .ok (.invokestatic 161, 3) := by decide +kernel
theorem dX7_mark_33 : decode cX7_mark 33 = .ok (.ifCond .ne 9, 3) := by decide +kernel
theorem dX7_mark_36 : decode cX7_mark 36 = .ok (.aload_n 0, 1) := by decide +kernel
theorem dX7_mark_37 : decode cX7_mark 37 = .ok (.iconst 3, 1) := by decide +kernel
theorem dX7_mark_38 : decode cX7_mark 38 = .ok (.invokevirtual 88, 3) := by decide +kernel
theorem dX7_mark_41 : decode cX7_mark 41 = .ok (.ireturn, 1) := by decide +kernel
theorem dX7_mark_42 : decode cX7_mark 42 = .ok (.iload_n 2, 1) := by decide +kernel
theorem dX7_mark_43 : decode cX7_mark 43 = .ok (.tableswitch 89 1 4 #[29, 44, 50, 75], 29) := by decide +kernel
theorem dX7_mark_72 : decode cX7_mark 72 = .ok (.aload_n 0, 1) := by decide +kernel
theorem dX7_mark_73 : decode cX7_mark 73 = .ok (.iload_n 1, 1) := by decide +kernel
theorem dX7_mark_74 : decode cX7_mark 74 = .ok (.aload_n 0, 1) := by decide +kernel
theorem dX7_mark_75 : decode cX7_mark 75 = .ok (.getfield 28, 3) := by decide +kernel
theorem dX7_mark_78 : decode cX7_mark 78 = .ok (.getfield 158, 3) := by decide +kernel
theorem dX7_mark_81 : decode cX7_mark 81 = .ok (.iload_n 1, 1) := by decide +kernel
theorem dX7_mark_82 : decode cX7_mark 82 = .ok (.iaload, 1) := by decide +kernel
theorem dX7_mark_83 : decode cX7_mark 83 = .ok (.invokevirtual 164, 3) := by decide +kernel
theorem dX7_mark_86 : decode cX7_mark 86 = .ok (.ireturn, 1) := by decide +kernel
theorem dX7_mark_87 : decode cX7_mark 87 = .ok (.aload_n 0, 1) := by decide +kernel
theorem dX7_mark_88 : decode cX7_mark 88 = .ok (.iload_n 1, 1) := by decide +kernel
theorem dX7_mark_89 : decode cX7_mark 89 = .ok (.invokevirtual 167, 3) := by decide +kernel
theorem dX7_mark_92 : decode cX7_mark 92 = .ok (.ireturn, 1) := by decide +kernel
theorem dX7_mark_93 : decode cX7_mark 93 = .ok (.aload_n 0, 1) := by decide +kernel
theorem dX7_mark_94 : decode cX7_mark 94 = .ok (.getfield 28, 3) := by decide +kernel
theorem dX7_mark_97 : decode cX7_mark 97 = .ok (.getfield 170, 3) := by decide +kernel
theorem dX7_mark_100 : decode cX7_mark 100 = .ok (.iload_n 1, 1) := by decide +kernel
theorem dX7_mark_101 : decode cX7_mark 101 = .ok (.iaload, 1) := by decide +kernel
theorem dX7_mark_102 : decode cX7_mark 102 = .ok (.aload_n 0, 1) := by decide +kernel
theorem dX7_mark_103 : decode cX7_mark 103 = .ok (.getfield 28, 3) := by decide +kernel
theorem dX7_mark_106 : decode cX7_mark 106 = .ok (.getfield 173, 3) := by decide +kernel
theorem dX7_mark_109 : decode cX7_mark 109 = .ok (.iload_n 1, 1) := by decide +kernel
theorem dX7_mark_110 : decode cX7_mark 110 = .ok (.iaload, 1) := by decide +kernel
theorem dX7_mark_111 : decode cX7_mark 111 = .ok (.isub, 1) := by decide +kernel
theorem dX7_mark_112 : decode cX7_mark 112 = .ok (.bipush 10, 2) := by decide +kernel
theorem dX7_mark_114 : decode cX7_mark 114 = .ok (.invokestatic 176, 3) := by decide +kernel
theorem dX7_mark_117 : decode cX7_mark 117 = .ok (.ireturn, 1) := by decide +kernel
theorem dX7_mark_118 : decode cX7_mark 118 = .ok (.aload_n 0, 1) := by decide +kernel
theorem dX7_mark_119 : decode cX7_mark 119 = .ok (.iload_n 1, 1) := by decide +kernel
theorem dX7_mark_120 : decode cX7_mark 120 = .ok (.iconst 1, 1) := by decide +kernel
theorem dX7_mark_121 : decode cX7_mark 121 = .ok (.invokevirtual 164, 3) := by decide +kernel
theorem dX7_mark_124 : decode cX7_mark 124 = .ok (.aload_n 0, 1) := by decide +kernel
theorem dX7_mark_125 : decode cX7_mark 125 = .ok (.iload_n 1, 1) := by decide +kernel
theorem dX7_mark_126 : decode cX7_mark 126 = .ok (.iconst 4, 1) := by decide +kernel
theorem dX7_mark_127 : decode cX7_mark 127 = .ok (.invokevirtual 164, 3) := by decide +kernel
theorem dX7_mark_130 : decode cX7_mark 130 = .ok (.isub, 1) := by decide +kernel
theorem dX7_mark_131 : decode cX7_mark 131 = .ok (.ireturn, 1) := by decide +kernel
theorem dX7_mark_132 : decode cX7_mark 132 = .ok (.aload_n 0, 1) := by decide +kernel
theorem dX7_mark_133 : decode cX7_mark 133 = .ok (.getfield 28, 3) := by decide +kernel
theorem dX7_mark_136 : decode cX7_mark 136 = .ok (.iload_n 1, 1) := by decide +kernel
theorem dX7_mark_137 : decode cX7_mark 137 = .ok (.invokevirtual 181, 3) := by decide +kernel
theorem dX7_mark_140 : decode cX7_mark 140 = .ok (.aload_n 0, 1) := by decide +kernel
theorem dX7_mark_141 : decode cX7_mark 141 = .ok (.getfield 28, 3) := by decide +kernel
theorem dX7_mark_144 : decode cX7_mark 144 = .ok (.getfield 170, 3) := by decide +kernel
theorem dX7_mark_147 : decode cX7_mark 147 = .ok (.iload_n 1, 1) := by decide +kernel
theorem dX7_mark_148 : decode cX7_mark 148 = .ok (.iaload, 1) := by decide +kernel
theorem dX7_mark_149 : decode cX7_mark 149 = .ok (.isub, 1) := by decide +kernel
theorem dX7_mark_150 : decode cX7_mark 150 = .ok (.bipush 10, 2) := by decide +kernel
theorem dX7_mark_152 : decode cX7_mark 152 = .ok (.invokestatic 176, 3) := by decide +kernel
theorem dX7_mark_155 : decode cX7_mark 155 = .ok (.ireturn, 1) := by decide +kernel
theorem dX7_tick_0 : decode cX7_tick 0 = .ok (.aload_n 0, 1) := by decide +kernel
theorem dX7_tick_1 : decode cX7_tick 1 = .ok (.getfield 28, 3) := by decide +kernel
theorem dX7_tick_4 : decode cX7_tick 4 = .ok (.getfield 149, 3) := by decide +kernel
theorem dX7_tick_7 : decode cX7_tick 7 = .ok (.ifCond .eq 15, 3) := by decide +kernel
theorem dX7_tick_10 : decode cX7_tick 10 = .ok (.aload_n 0, 1) := by decide +kernel
theorem dX7_tick_11 : decode cX7_tick 11 = .ok (.getfield 28, 3) := by decide +kernel
theorem dX7_tick_14 : decode cX7_tick 14 = .ok (.getfield 184, 3) := by decide +kernel
theorem dX7_tick_17 : decode cX7_tick 17 = .ok (.bipush 99, 2) := by decide +kernel
theorem dX7_tick_19 : decode cX7_tick 19 = .ok (.if_icmp .lt 6, 3) := by decide +kernel
theorem dX7_tick_22 : decode cX7_tick 22 = .ok (.bipush (-4), 2) := by decide +kernel
theorem dX7_tick_24 : decode cX7_tick 24 = .ok (.ireturn, 1) := by decide +kernel
theorem dX7_tick_25 : decode cX7_tick 25 = .ok (.aload_n 0, 1) := by decide +kernel
theorem dX7_tick_26 : decode cX7_tick 26 = .ok (.getfield 40, 3) := by decide +kernel
theorem dX7_tick_29 : decode cX7_tick 29 = .ok (.iconst 1, 1) := by decide +kernel
theorem dX7_tick_30 : decode cX7_tick 30 = .ok (.invokevirtual 187, 3) := by decide +kernel
theorem dX7_tick_33 : decode cX7_tick 33 = .ok (.ifCond .eq 6, 3) := by decide +kernel
theorem dX7_tick_36 : decode cX7_tick 36 = .ok (.bipush (-2), 2) := by decide +kernel
theorem dX7_tick_38 : decode cX7_tick 38 = .ok (.ireturn, 1) := by decide +kernel
theorem dX7_tick_39 : decode cX7_tick 39 = .ok (.aload_n 0, 1) := by decide +kernel
theorem dX7_tick_40 : decode cX7_tick 40 = .ok (.getfield 28, 3) := by decide +kernel
theorem dX7_tick_43 : decode cX7_tick 43 = .ok (.getfield 190, 3) := by decide +kernel
theorem dX7_tick_46 : decode cX7_tick 46 = .ok (.istore_n 1, 1) := by decide +kernel
theorem dX7_tick_47 : decode cX7_tick 47 = .ok (.aload_n 0, 1) := by decide +kernel
theorem dX7_tick_48 : decode cX7_tick 48 = .ok (.iconst 0, 1) := by decide +kernel
theorem dX7_tick_49 : decode cX7_tick 49 = .ok (.iconst 0, 1) := by decide +kernel
theorem dX7_tick_50 : decode cX7_tick 50 = .ok (.iconst 0, 1) := by decide +kernel
theorem dX7_tick_51 : decode cX7_tick 51 = .ok (.invokevirtual 193, 3) := by decide +kernel
theorem dX7_tick_54 : decode cX7_tick 54 = .ok (.aload_n 0, 1) := by decide +kernel
theorem dX7_tick_55 : decode cX7_tick 55 = .ok (.getfield 28, 3) := by decide +kernel
theorem dX7_tick_58 : decode cX7_tick 58 = .ok (.getfield 190, 3) := by decide +kernel
theorem dX7_tick_61 : decode cX7_tick 61 = .ok (.iload_n 1, 1) := by decide +kernel
theorem dX7_tick_62 : decode cX7_tick 62 = .ok (.isub, 1) := by decide +kernel
theorem dX7_tick_63 : decode cX7_tick 63 = .ok (.ireturn, 1) := by decide +kernel
theorem dX7_aim_0 : decode cX7_aim 0 = .ok (.aload_n 0, 1) := by decide +kernel
theorem dX7_aim_1 : decode cX7_aim 1 = .ok (.iload_n 1, 1) := by decide +kernel
theorem dX7_aim_2 : decode cX7_aim 2 = .ok (.invokevirtual 152, 3) := by decide +kernel
theorem dX7_aim_5 : decode cX7_aim 5 = .ok (.ifCond .eq 13, 3) := by decide +kernel
theorem dX7_aim_8 : decode cX7_aim 8 = .ok (.iload_n 2, 1) := by decide +kernel
theorem dX7_aim_9 : decode cX7_aim 9 = .ok (.ifCond .lt 9, 3) := by decide +kernel
theorem dX7_aim_12 : decode cX7_aim 12 = .ok (.iload_n 2, 1) := by decide +kernel
theorem dX7_aim_13 : decode cX7_aim 13 = .ok (.bipush 10, 2) := by decide +kernel
theorem dX7_aim_15 : decode cX7_aim 15 = .ok (.if_icmp .lt 5, 3) := by decide +kernel
theorem dX7_aim_18 : decode cX7_aim 18 = .ok (.iconst (-1), 1) := by decide +kernel
theorem dX7_aim_19 : decode cX7_aim 19 = .ok (.ireturn, 1) := by decide +kernel
theorem dX7_aim_20 : decode cX7_aim 20 = .ok (.aload_n 0, 1) := by decide +kernel
theorem dX7_aim_21 : decode cX7_aim 21 = .ok (.getfield 28, 3) := by decide +kernel
theorem dX7_aim_24 : decode cX7_aim 24 = .ok (.getfield 173, 3) := by decide +kernel
theorem dX7_aim_27 : decode cX7_aim 27 = .ok (.iload_n 1, 1) := by decide +kernel
theorem dX7_aim_28 : decode cX7_aim 28 = .ok (.iaload, 1) := by decide +kernel
theorem dX7_aim_29 : decode cX7_aim 29 = .ok (.istore_n 3, 1) := by decide +kernel
theorem dX7_aim_30 : decode cX7_aim 30 = .ok (.iload_n 3, 1) := by decide +kernel
theorem dX7_aim_31 : decode cX7_aim 31 = .ok (.iload_n 2, 1) := by decide +kernel
theorem dX7_aim_32 : decode cX7_aim 32 = .ok (.if_icmp .ne 6, 3) := by decide +kernel
theorem dX7_aim_35 : decode cX7_aim 35 = .ok (.bipush (-4), 2) := by decide +kernel
theorem dX7_aim_37 : decode cX7_aim 37 = .ok (.ireturn, 1) := by decide +kernel
theorem dX7_aim_38 : decode cX7_aim 38 = .ok (.aload_n 0, 1) := by decide +kernel
theorem dX7_aim_39 : decode cX7_aim 39 = .ok (.getfield 40, 3) := by decide +kernel
theorem dX7_aim_42 : decode cX7_aim 42 = .ok (.iconst 1, 1) := by decide +kernel
theorem dX7_aim_43 : decode cX7_aim 43 = .ok (.invokevirtual 187, 3) := by decide +kernel
theorem dX7_aim_46 : decode cX7_aim 46 = .ok (.ifCond .eq 6, 3) := by decide +kernel
theorem dX7_aim_49 : decode cX7_aim 49 = .ok (.bipush (-2), 2) := by decide +kernel
theorem dX7_aim_51 : decode cX7_aim 51 = .ok (.ireturn, 1) := by decide +kernel
theorem dX7_aim_52 : decode cX7_aim 52 = .ok (.aload_n 0, 1) := by decide +kernel
theorem dX7_aim_53 : decode cX7_aim 53 = .ok (.iconst 1, 1) := by decide +kernel
theorem dX7_aim_54 : decode cX7_aim 54 = .ok (.iload_n 1, 1) := by decide +kernel
theorem dX7_aim_55 : decode cX7_aim 55 = .ok (.iload_n 2, 1) := by decide +kernel
theorem dX7_aim_56 : decode cX7_aim 56 = .ok (.invokevirtual 193, 3) := by decide +kernel
theorem dX7_aim_59 : decode cX7_aim 59 = .ok (.iload_n 3, 1) := by decide +kernel
theorem dX7_aim_60 : decode cX7_aim 60 = .ok (.ireturn, 1) := by decide +kernel
theorem dX7_power_0 : decode cX7_power 0 = .ok (.iload_n 1, 1) := by decide +kernel
theorem dX7_power_1 : decode cX7_power 1 = .ok (.iconst 1, 1) := by decide +kernel
theorem dX7_power_2 : decode cX7_power 2 = .ok (.if_icmp .lt 9, 3) := by decide +kernel
theorem dX7_power_5 : decode cX7_power 5 = .ok (.iload_n 1, 1) := by decide +kernel
theorem dX7_power_6 : decode cX7_power 6 = .ok (.bipush 9, 2) := by decide +kernel
theorem dX7_power_8 : decode cX7_power 8 = .ok (.if_icmp .le 5, 3) := by decide +kernel
theorem dX7_power_11 : decode cX7_power 11 = .ok (.iconst (-1), 1) := by decide +kernel
theorem dX7_power_12 : decode cX7_power 12 = .ok (.ireturn, 1) := by decide +kernel
theorem dX7_power_13 : decode cX7_power 13 = .ok (.aload_n 0, 1) := by decide +kernel
theorem dX7_power_14 : decode cX7_power 14 = .ok (.getfield 28, 3) := by decide +kernel
theorem dX7_power_17 : decode cX7_power 17 = .ok (.getfield 197, 3) := by decide +kernel
theorem dX7_power_20 : decode cX7_power 20 = .ok (.istore_n 2, 1) := by decide +kernel
theorem dX7_power_21 : decode cX7_power 21 = .ok (.aload_n 0, 1) := by decide +kernel
theorem dX7_power_22 : decode cX7_power 22 = .ok (.getfield 28, 3) := by decide +kernel
theorem dX7_power_25 : decode cX7_power 25 = .ok (.getfield 149, 3) := by decide +kernel
theorem dX7_power_28 : decode cX7_power 28 = .ok (.ifCond .eq 8, 3) := by decide +kernel
theorem dX7_power_31 : decode cX7_power 31 = .ok (.iload_n 2, 1) := by decide +kernel
theorem dX7_power_32 : decode cX7_power 32 = .ok (.iload_n 1, 1) := by decide +kernel
theorem dX7_power_33 : decode cX7_power 33 = .ok (.if_icmp .ne 6, 3) := by decide +kernel
theorem dX7_power_36 : decode cX7_power 36 = .ok (.bipush (-4), 2) := by decide +kernel
theorem dX7_power_38 : decode cX7_power 38 = .ok (.ireturn, 1) := by decide +kernel
theorem dX7_power_39 : decode cX7_power 39 = .ok (.aload_n 0, 1) := by decide +kernel
theorem dX7_power_40 : decode cX7_power 40 = .ok (.getfield 40, 3) := by decide +kernel
theorem dX7_power_43 : decode cX7_power 43 = .ok (.iconst 1, 1) := by decide +kernel
theorem dX7_power_44 : decode cX7_power 44 = .ok (.invokevirtual 187, 3) := by decide +kernel
theorem dX7_power_47 : decode cX7_power 47 = .ok (.ifCond .eq 6, 3) := by decide +kernel
theorem dX7_power_50 : decode cX7_power 50 = .ok (.bipush (-2), 2) := by decide +kernel
theorem dX7_power_52 : decode cX7_power 52 = .ok (.ireturn, 1) := by decide +kernel
theorem dX7_power_53 : decode cX7_power 53 = .ok (.aload_n 0, 1) := by decide +kernel
theorem dX7_power_54 : decode cX7_power 54 = .ok (.iconst 2, 1) := by decide +kernel
theorem dX7_power_55 : decode cX7_power 55 = .ok (.iconst 0, 1) := by decide +kernel
theorem dX7_power_56 : decode cX7_power 56 = .ok (.iload_n 1, 1) := by decide +kernel
theorem dX7_power_57 : decode cX7_power 57 = .ok (.invokevirtual 193, 3) := by decide +kernel
theorem dX7_power_60 : decode cX7_power 60 = .ok (.iload_n 2, 1) := by decide +kernel
theorem dX7_power_61 : decode cX7_power 61 = .ok (.ireturn, 1) := by decide +kernel
theorem dX7_jam_0 : decode cX7_jam 0 = .ok (.aload_n 0, 1) := by decide +kernel
theorem dX7_jam_1 : decode cX7_jam 1 = .ok (.iload_n 1, 1) := by decide +kernel
theorem dX7_jam_2 : decode cX7_jam 2 = .ok (.invokevirtual 152, 3) := by decide +kernel
theorem dX7_jam_5 : decode cX7_jam 5 = .ok (.ifCond .ne 5, 3) := by decide +kernel
theorem dX7_jam_8 : decode cX7_jam 8 = .ok (.iconst (-1), 1) := by decide +kernel
theorem dX7_jam_9 : decode cX7_jam 9 = .ok (.ireturn, 1) := by decide +kernel
theorem dX7_jam_10 : decode cX7_jam 10 = .ok (.aload_n 0, 1) := by decide +kernel
theorem dX7_jam_11 : decode cX7_jam 11 = .ok (.getfield 40, 3) := by decide +kernel
theorem dX7_jam_14 : decode cX7_jam 14 = .ok (.iconst 1, 1) := by decide +kernel
theorem dX7_jam_15 : decode cX7_jam 15 = .ok (.invokevirtual 187, 3) := by decide +kernel
theorem dX7_jam_18 : decode cX7_jam 18 = .ok (.ifCond .eq 6, 3) := by decide +kernel
theorem dX7_jam_21 : decode cX7_jam 21 = .ok (.bipush (-2), 2) := by decide +kernel
theorem dX7_jam_23 : decode cX7_jam 23 = .ok (.ireturn, 1) := by decide +kernel
theorem dX7_jam_24 : decode cX7_jam 24 = .ok (.aload_n 0, 1) := by decide +kernel
theorem dX7_jam_25 : decode cX7_jam 25 = .ok (.iconst 3, 1) := by decide +kernel
theorem dX7_jam_26 : decode cX7_jam 26 = .ok (.iload_n 1, 1) := by decide +kernel
theorem dX7_jam_27 : decode cX7_jam 27 = .ok (.iconst 0, 1) := by decide +kernel
theorem dX7_jam_28 : decode cX7_jam 28 = .ok (.invokevirtual 193, 3) := by decide +kernel
theorem dX7_jam_31 : decode cX7_jam 31 = .ok (.aload_n 0, 1) := by decide +kernel
theorem dX7_jam_32 : decode cX7_jam 32 = .ok (.getfield 28, 3) := by decide +kernel
theorem dX7_jam_35 : decode cX7_jam 35 = .ok (.getfield 200, 3) := by decide +kernel
theorem dX7_jam_38 : decode cX7_jam 38 = .ok (.invokestatic 203, 3) := by decide +kernel
theorem dX7_jam_41 : decode cX7_jam 41 = .ok (.ireturn, 1) := by decide +kernel
theorem dX7_undo_0 : decode cX7_undo 0 = .ok (.iload_n 1, 1) := by decide +kernel
theorem dX7_undo_1 : decode cX7_undo 1 = .ok (.ifCond .lt 14, 3) := by decide +kernel
theorem dX7_undo_4 : decode cX7_undo 4 = .ok (.iload_n 1, 1) := by decide +kernel
theorem dX7_undo_5 : decode cX7_undo 5 = .ok (.aload_n 0, 1) := by decide +kernel
theorem dX7_undo_6 : decode cX7_undo 6 = .ok (.getfield 40, 3) := by decide +kernel
theorem dX7_undo_9 : decode cX7_undo 9 = .ok (.getfield 80, 3) := by decide +kernel
theorem dX7_undo_12 : decode cX7_undo 12 = .ok (.if_icmp .le 5, 3) := by decide +kernel
theorem dX7_undo_15 : decode cX7_undo 15 = .ok (.iconst (-1), 1) := by decide +kernel
theorem dX7_undo_16 : decode cX7_undo 16 = .ok (.ireturn, 1) := by decide +kernel
theorem dX7_undo_17 : decode cX7_undo 17 = .ok (.aload_n 0, 1) := by decide +kernel
theorem dX7_undo_18 : decode cX7_undo 18 = .ok (.getfield 40, 3) := by decide +kernel
theorem dX7_undo_21 : decode cX7_undo 21 = .ok (.getfield 80, 3) := by decide +kernel
theorem dX7_undo_24 : decode cX7_undo 24 = .ok (.iload_n 1, 1) := by decide +kernel
theorem dX7_undo_25 : decode cX7_undo 25 = .ok (.isub, 1) := by decide +kernel
theorem dX7_undo_26 : decode cX7_undo 26 = .ok (.istore_n 2, 1) := by decide +kernel
theorem dX7_undo_27 : decode cX7_undo 27 = .ok (.aload_n 0, 1) := by decide +kernel
theorem dX7_undo_28 : decode cX7_undo 28 = .ok (.iload_n 1, 1) := by decide +kernel
theorem dX7_undo_29 : decode cX7_undo 29 = .ok (.invokevirtual 146, 3) := by decide +kernel
theorem dX7_undo_32 : decode cX7_undo 32 = .ok (.iload_n 2, 1) := by decide +kernel
theorem dX7_undo_33 : decode cX7_undo 33 = .ok (.ireturn, 1) := by decide +kernel
theorem dX7_keep_0 : decode cX7_keep 0 = .ok (.iload_n 1, 1) := by decide +kernel
theorem dX7_keep_1 : decode cX7_keep 1 = .ok (.ifCond .lt 8, 3) := by decide +kernel
theorem dX7_keep_4 : decode cX7_keep 4 = .ok (.iload_n 1, 1) := by decide +kernel
theorem dX7_keep_5 : decode cX7_keep 5 = .ok (.iconst 3, 1) := by decide +kernel
theorem dX7_keep_6 : decode cX7_keep 6 = .ok (.if_icmp .lt 5, 3) := by decide +kernel
theorem dX7_keep_9 : decode cX7_keep 9 = .ok (.iconst (-1), 1) := by decide +kernel
theorem dX7_keep_10 : decode cX7_keep 10 = .ok (.ireturn, 1) := by decide +kernel
theorem dX7_keep_11 : decode cX7_keep 11 = .ok (.aload_n 0, 1) := by decide +kernel
theorem dX7_keep_12 : decode cX7_keep 12 = .ok (.getfield 28, 3) := by decide +kernel
theorem dX7_keep_15 : decode cX7_keep 15 = .ok (.getfield 149, 3) := by decide +kernel
theorem dX7_keep_18 : decode cX7_keep 18 = .ok (.ifCond .ne 6, 3) := by decide +kernel
theorem dX7_keep_21 : decode cX7_keep 21 = .ok (.bipush (-4), 2) := by decide +kernel
theorem dX7_keep_23 : decode cX7_keep 23 = .ok (.ireturn, 1) := by decide +kernel
theorem dX7_keep_24 : decode cX7_keep 24 = .ok (.aload_n 0, 1) := by decide +kernel
theorem dX7_keep_25 : decode cX7_keep 25 = .ok (.getfield 44, 3) := by decide +kernel
theorem dX7_keep_28 : decode cX7_keep 28 = .ok (.iload_n 1, 1) := by decide +kernel
theorem dX7_keep_29 : decode cX7_keep 29 = .ok (.aaload, 1) := by decide +kernel
theorem dX7_keep_30 : decode cX7_keep 30 = .ok (.aload_n 0, 1) := by decide +kernel
theorem dX7_keep_31 : decode cX7_keep 31 = .ok (.getfield 40, 3) := by decide +kernel
theorem dX7_keep_34 : decode cX7_keep 34 = .ok (.invokevirtual 208, 3) := by decide +kernel
theorem dX7_keep_37 : decode cX7_keep 37 = .ok (.aload_n 0, 1) := by decide +kernel
theorem dX7_keep_38 : decode cX7_keep 38 = .ok (.getfield 40, 3) := by decide +kernel
theorem dX7_keep_41 : decode cX7_keep 41 = .ok (.getfield 80, 3) := by decide +kernel
theorem dX7_keep_44 : decode cX7_keep 44 = .ok (.ireturn, 1) := by decide +kernel
theorem dX7_on_0 : decode cX7_on 0 = .ok (.iload_n 1, 1) := by decide +kernel
theorem dX7_on_1 : decode cX7_on 1 = .ok (.ifCond .lt 8, 3) := by decide +kernel
theorem dX7_on_4 : decode cX7_on 4 = .ok (.iload_n 1, 1) := by decide +kernel
theorem dX7_on_5 : decode cX7_on 5 = .ok (.iconst 3, 1) := by decide +kernel
theorem dX7_on_6 : decode cX7_on 6 = .ok (.if_icmp .lt 5, 3) := by decide +kernel
theorem dX7_on_9 : decode cX7_on 9 = .ok (.iconst (-1), 1) := by decide +kernel
theorem dX7_on_10 : decode cX7_on 10 = .ok (.ireturn, 1) := by decide +kernel
theorem dX7_on_11 : decode cX7_on 11 = .ok (.aload_n 0, 1) := by decide +kernel
theorem dX7_on_12 : decode cX7_on 12 = .ok (.getfield 44, 3) := by decide +kernel
theorem dX7_on_15 : decode cX7_on 15 = .ok (.iload_n 1, 1) := by decide +kernel
theorem dX7_on_16 : decode cX7_on 16 = .ok (.aaload, 1) := by decide +kernel
theorem dX7_on_17 : decode cX7_on 17 = .ok (.getfield 80, 3) := by decide +kernel
theorem dX7_on_20 : decode cX7_on 20 = .ok (.iconst (-1), 1) := by decide +kernel
theorem dX7_on_21 : decode cX7_on 21 = .ok (.if_icmp .ne 9, 3) := by decide +kernel
theorem dX7_on_24 : decode cX7_on 24 = .ok (.aload_n 0, 1) := by decide +kernel
theorem dX7_on_25 : decode cX7_on 25 = .ok (.iconst 1, 1) := by decide +kernel
theorem dX7_on_26 : decode cX7_on 26 = .ok (.invokevirtual 88, 3) := by decide +kernel
theorem dX7_on_29 : decode cX7_on 29 = .ok (.ireturn, 1) := by decide +kernel
theorem dX7_on_30 : decode cX7_on 30 = .ok (.aload_n 0, 1) := by decide +kernel
theorem dX7_on_31 : decode cX7_on 31 = .ok (.getfield 40, 3) := by decide +kernel
theorem dX7_on_34 : decode cX7_on 34 = .ok (.aload_n 0, 1) := by decide +kernel
theorem dX7_on_35 : decode cX7_on 35 = .ok (.getfield 44, 3) := by decide +kernel
theorem dX7_on_38 : decode cX7_on 38 = .ok (.iload_n 1, 1) := by decide +kernel
theorem dX7_on_39 : decode cX7_on 39 = .ok (.aaload, 1) := by decide +kernel
theorem dX7_on_40 : decode cX7_on 40 = .ok (.invokevirtual 208, 3) := by decide +kernel
theorem dX7_on_43 : decode cX7_on 43 = .ok (.aload_n 0, 1) := by decide +kernel
theorem dX7_on_44 : decode cX7_on 44 = .ok (.aload_n 0, 1) := by decide +kernel
theorem dX7_on_45 : decode cX7_on 45 = .ok (.getfield 40, 3) := by decide +kernel
theorem dX7_on_48 : decode cX7_on 48 = .ok (.getfield 80, 3) := by decide +kernel
theorem dX7_on_51 : decode cX7_on 51 = .ok (.invokevirtual 146, 3) := by decide +kernel
theorem dX7_on_54 : decode cX7_on 54 = .ok (.aload_n 0, 1) := by decide +kernel
theorem dX7_on_55 : decode cX7_on 55 = .ok (.getfield 40, 3) := by decide +kernel
theorem dX7_on_58 : decode cX7_on 58 = .ok (.getfield 80, 3) := by decide +kernel
theorem dX7_on_61 : decode cX7_on 61 = .ok (.ireturn, 1) := by decide +kernel
theorem dX7_later_0 : decode cX7_later 0 = .ok (.iload_n 1, 1) := by decide +kernel
theorem dX7_later_1 : decode cX7_later 1 = .ok (.ifCond .lt 9, 3) := by decide +kernel
theorem dX7_later_4 : decode cX7_later 4 = .ok (.iload_n 1, 1) := by decide +kernel
theorem dX7_later_5 : decode cX7_later 5 = .ok (.bipush 60, 2) := by decide +kernel
theorem dX7_later_7 : decode cX7_later 7 = .ok (.if_icmp .le 5, 3) := by decide +kernel
theorem dX7_later_10 : decode cX7_later 10 = .ok (.iconst (-1), 1) := by decide +kernel
theorem dX7_later_11 : decode cX7_later 11 = .ok (.ireturn, 1) := by decide +kernel
theorem dX7_later_12 : decode cX7_later 12 = .ok (.aload_n 0, 1) := by decide +kernel
theorem dX7_later_13 : decode cX7_later 13 = .ok (.getfield 28, 3) := by decide +kernel
theorem dX7_later_16 : decode cX7_later 16 = .ok (.getfield 149, 3) := by decide +kernel
theorem dX7_later_19 : decode cX7_later 19 = .ok (.ifCond .ne 6, 3) := by decide +kernel
theorem dX7_later_22 : decode cX7_later 22 = .ok (.bipush (-4), 2) := by decide +kernel
theorem dX7_later_24 : decode cX7_later 24 = .ok (.ireturn, 1) := by decide +kernel
theorem dX7_later_25 : decode cX7_later 25 = .ok (.aload_n 0, 1) := by decide +kernel
theorem dX7_later_26 : decode cX7_later 26 = .ok (.getfield 31, 3) := by decide +kernel
theorem dX7_later_29 : decode cX7_later 29 = .ok (.aload_n 0, 1) := by decide +kernel
theorem dX7_later_30 : decode cX7_later 30 = .ok (.getfield 28, 3) := by decide +kernel
theorem dX7_later_33 : decode cX7_later 33 = .ok (.invokevirtual 142, 3) := by decide +kernel
theorem dX7_later_36 : decode cX7_later 36 = .ok (.aload_n 0, 1) := by decide +kernel
theorem dX7_later_37 : decode cX7_later 37 = .ok (.getfield 31, 3) := by decide +kernel
theorem dX7_later_40 : decode cX7_later 40 = .ok (.iload_n 1, 1) := by decide +kernel
theorem dX7_later_41 : decode cX7_later 41 = .ok (.invokevirtual 211, 3) := by decide +kernel
theorem dX7_later_44 : decode cX7_later 44 = .ok (.aload_n 0, 1) := by decide +kernel
theorem dX7_later_45 : decode cX7_later 45 = .ok (.aload_n 0, 1) := by decide +kernel
theorem dX7_later_46 : decode cX7_later 46 = .ok (.getfield 31, 3) := by decide +kernel
theorem dX7_later_49 : decode cX7_later 49 = .ok (.getfield 190, 3) := by decide +kernel
theorem dX7_later_52 : decode cX7_later 52 = .ok (.aload_n 0, 1) := by decide +kernel
theorem dX7_later_53 : decode cX7_later 53 = .ok (.getfield 28, 3) := by decide +kernel
theorem dX7_later_56 : decode cX7_later 56 = .ok (.getfield 190, 3) := by decide +kernel
theorem dX7_later_59 : decode cX7_later 59 = .ok (.isub, 1) := by decide +kernel
theorem dX7_later_60 : decode cX7_later 60 = .ok (.putfield 103, 3) := by decide +kernel
theorem dX7_later_63 : decode cX7_later 63 = .ok (.aload_n 0, 1) := by decide +kernel
theorem dX7_later_64 : decode cX7_later 64 = .ok (.getfield 31, 3) := by decide +kernel
theorem dX7_later_67 : decode cX7_later 67 = .ok (.invokevirtual 214, 3) := by decide +kernel
theorem dX7_later_70 : decode cX7_later 70 = .ok (.ireturn, 1) := by decide +kernel
theorem dX7_ends_0 : decode cX7_ends 0 = .ok (.aload_n 0, 1) := by decide +kernel
theorem dX7_ends_1 : decode cX7_ends 1 = .ok (.getfield 28, 3) := by decide +kernel
theorem dX7_ends_4 : decode cX7_ends 4 = .ok (.getfield 149, 3) := by decide +kernel
theorem dX7_ends_7 : decode cX7_ends 7 = .ok (.ifCond .ne 6, 3) := by decide +kernel
theorem dX7_ends_10 : decode cX7_ends 10 = .ok (.bipush (-4), 2) := by decide +kernel
theorem dX7_ends_12 : decode cX7_ends 12 = .ok (.ireturn, 1) := by decide +kernel
theorem dX7_ends_13 : decode cX7_ends 13 = .ok (.aload_n 0, 1) := by decide +kernel
theorem dX7_ends_14 : decode cX7_ends 14 = .ok (.getfield 31, 3) := by decide +kernel
theorem dX7_ends_17 : decode cX7_ends 17 = .ok (.aload_n 0, 1) := by decide +kernel
theorem dX7_ends_18 : decode cX7_ends 18 = .ok (.getfield 28, 3) := by decide +kernel
theorem dX7_ends_21 : decode cX7_ends 21 = .ok (.invokevirtual 142, 3) := by decide +kernel
theorem dX7_ends_24 : decode cX7_ends 24 = .ok (.aload_n 0, 1) := by decide +kernel
theorem dX7_ends_25 : decode cX7_ends 25 = .ok (.getfield 31, 3) := by decide +kernel
theorem dX7_ends_28 : decode cX7_ends 28 = .ok (.bipush 60, 2) := by decide +kernel
theorem dX7_ends_30 : decode cX7_ends 30 = .ok (.invokevirtual 218, 3) := by decide +kernel
theorem dX7_ends_33 : decode cX7_ends 33 = .ok (.istore_n 1, 1) := by decide +kernel
theorem dX7_ends_34 : decode cX7_ends 34 = .ok (.iload_n 1, 1) := by decide +kernel
theorem dX7_ends_35 : decode cX7_ends 35 = .ok (.bipush 60, 2) := by decide +kernel
theorem dX7_ends_37 : decode cX7_ends 37 = .ok (.if_icmp .le 6, 3) := by decide +kernel
theorem dX7_ends_40 : decode cX7_ends 40 = .ok (.bipush (-9), 2) := by decide +kernel
theorem dX7_ends_42 : decode cX7_ends 42 = .ok (.ireturn, 1) := by decide +kernel
theorem dX7_ends_43 : decode cX7_ends 43 = .ok (.aload_n 0, 1) := by decide +kernel
theorem dX7_ends_44 : decode cX7_ends 44 = .ok (.aload_n 0, 1) := by decide +kernel
theorem dX7_ends_45 : decode cX7_ends 45 = .ok (.getfield 31, 3) := by decide +kernel
theorem dX7_ends_48 : decode cX7_ends 48 = .ok (.getfield 190, 3) := by decide +kernel
theorem dX7_ends_51 : decode cX7_ends 51 = .ok (.aload_n 0, 1) := by decide +kernel
theorem dX7_ends_52 : decode cX7_ends 52 = .ok (.getfield 28, 3) := by decide +kernel
theorem dX7_ends_55 : decode cX7_ends 55 = .ok (.getfield 190, 3) := by decide +kernel
theorem dX7_ends_58 : decode cX7_ends 58 = .ok (.isub, 1) := by decide +kernel
theorem dX7_ends_59 : decode cX7_ends 59 = .ok (.putfield 103, 3) := by decide +kernel
theorem dX7_ends_62 : decode cX7_ends 62 = .ok (.iload_n 1, 1) := by decide +kernel
theorem dX7_ends_63 : decode cX7_ends 63 = .ok (.ireturn, 1) := by decide +kernel
theorem dX7_passes_0 : decode cX7_passes 0 = .ok (.aload_n 0, 1) := by decide +kernel
theorem dX7_passes_1 : decode cX7_passes 1 = .ok (.getfield 28, 3) := by decide +kernel
theorem dX7_passes_4 : decode cX7_passes 4 = .ok (.getfield 149, 3) := by decide +kernel
theorem dX7_passes_7 : decode cX7_passes 7 = .ok (.ifCond .ne 6, 3) := by decide +kernel
theorem dX7_passes_10 : decode cX7_passes 10 = .ok (.bipush (-4), 2) := by decide +kernel
theorem dX7_passes_12 : decode cX7_passes 12 = .ok (.ireturn, 1) := by decide +kernel
theorem dX7_passes_13 : decode cX7_passes 13 = .ok (.aload_n 0, 1) := by decide +kernel
theorem dX7_passes_14 : decode cX7_passes 14 = .ok (.getfield 31, 3) := by decide +kernel
theorem dX7_passes_17 : decode cX7_passes 17 = .ok (.aload_n 0, 1) := by decide +kernel
theorem dX7_passes_18 : decode cX7_passes 18 = .ok (.getfield 28, 3) := by decide +kernel
theorem dX7_passes_21 : decode cX7_passes 21 = .ok (.invokevirtual 142, 3) := by decide +kernel
theorem dX7_passes_24 : decode cX7_passes 24 = .ok (.aload_n 0, 1) := by decide +kernel
theorem dX7_passes_25 : decode cX7_passes 25 = .ok (.getfield 55, 3) := by decide +kernel
theorem dX7_passes_28 : decode cX7_passes 28 = .ok (.iconst 0, 1) := by decide +kernel
theorem dX7_passes_29 : decode cX7_passes 29 = .ok (.aload_n 0, 1) := by decide +kernel
theorem dX7_passes_30 : decode cX7_passes 30 = .ok (.getfield 31, 3) := by decide +kernel
theorem dX7_passes_33 : decode cX7_passes 33 = .ok (.invokevirtual 214, 3) := by decide +kernel
theorem dX7_passes_36 : decode cX7_passes 36 = .ok (.iastore, 1) := by decide +kernel
theorem dX7_passes_37 : decode cX7_passes 37 = .ok (.iconst 1, 1) := by decide +kernel
theorem dX7_passes_38 : decode cX7_passes 38 = .ok (.istore_n 1, 1) := by decide +kernel
theorem dX7_passes_39 : decode cX7_passes 39 = .ok (.aload_n 0, 1) := by decide +kernel
theorem dX7_passes_40 : decode cX7_passes 40 = .ok (.getfield 55, 3) := by decide +kernel
theorem dX7_passes_43 : decode cX7_passes 43 = .ok (.iconst 0, 1) := by decide +kernel
theorem dX7_passes_44 : decode cX7_passes 44 = .ok (.iaload, 1) := by decide +kernel
theorem dX7_passes_45 : decode cX7_passes 45 = .ok (.istore_n 2, 1) := by decide +kernel
theorem dX7_passes_46 : decode cX7_passes 46 = .ok (.iconst 0, 1) := by decide +kernel
theorem dX7_passes_47 : decode cX7_passes 47 = .ok (.istore_n 3, 1) := by decide +kernel
theorem dX7_passes_48 : decode cX7_passes 48 = .ok (.iload_n 3, 1) := by decide +kernel
theorem dX7_passes_49 : decode cX7_passes 49 = .ok (.bipush 60, 2) := by decide +kernel
theorem dX7_passes_51 : decode cX7_passes 51 = .ok (.if_icmp .ge 63, 3) := by decide +kernel
theorem dX7_passes_54 : decode cX7_passes 54 = .ok (.aload_n 0, 1) := by decide +kernel
theorem dX7_passes_55 : decode cX7_passes 55 = .ok (.getfield 31, 3) := by decide +kernel
theorem dX7_passes_58 : decode cX7_passes 58 = .ok (.invokevirtual 221, 3) := by decide +kernel
theorem dX7_passes_61 : decode cX7_passes 61 = .ok (.ifCond .ne 53, 3) := by decide +kernel
theorem dX7_passes_64 : decode cX7_passes 64 = .ok (.aload_n 0, 1) := by decide +kernel
theorem dX7_passes_65 : decode cX7_passes 65 = .ok (.getfield 31, 3) := by decide +kernel
theorem dX7_passes_68 : decode cX7_passes 68 = .ok (.invokevirtual 224, 3) := by decide +kernel
theorem dX7_passes_71 : decode cX7_passes 71 = .ok (.aload_n 0, 1) := by decide +kernel
theorem dX7_passes_72 : decode cX7_passes 72 = .ok (.getfield 31, 3) := by decide +kernel
theorem dX7_passes_75 : decode cX7_passes 75 = .ok (.invokevirtual 214, 3) := by decide +kernel
theorem dX7_passes_78 : decode cX7_passes 78 = .ok (.istore 4, 2) := by decide +kernel
theorem dX7_passes_80 : decode cX7_passes 80 = .ok (.iload_n 2, 1) := by decide +kernel
theorem dX7_passes_81 : decode cX7_passes 81 = .ok (.iload 4, 2) := by decide +kernel
theorem dX7_passes_83 : decode cX7_passes 83 = .ok (.invokestatic 227, 3) := by decide +kernel
theorem dX7_passes_86 : decode cX7_passes 86 = .ok (.istore_n 2, 1) := by decide +kernel
theorem dX7_passes_87 : decode cX7_passes 87 = .ok (.aload_n 0, 1) := by decide +kernel
theorem dX7_passes_88 : decode cX7_passes 88 = .ok (.iload 4, 2) := by decide +kernel
theorem dX7_passes_90 : decode cX7_passes 90 = .ok (.iload_n 1, 1) := by decide +kernel
theorem dX7_passes_91 : decode cX7_passes 91 = .ok (.invokevirtual 230, 3) := by decide +kernel
theorem dX7_passes_94 : decode cX7_passes 94 = .ok (.ifCond .ne 14, 3) := by decide +kernel
theorem dX7_passes_97 : decode cX7_passes 97 = .ok (.aload_n 0, 1) := by decide +kernel
theorem dX7_passes_98 : decode cX7_passes 98 = .ok (.getfield 55, 3) := by decide +kernel
theorem dX7_passes_101 : decode cX7_passes 101 = .ok (.iload_n 1, 1) := by decide +kernel
theorem dX7_passes_102 : decode cX7_passes 102 = .ok (.iload 4, 2) := by decide +kernel
theorem dX7_passes_104 : decode cX7_passes 104 = .ok (.iastore, 1) := by decide +kernel
theorem dX7_passes_105 : decode cX7_passes 105 = .ok (.iinc 1 1, 3) := by decide +kernel
theorem dX7_passes_108 : decode cX7_passes 108 = .ok (.iinc 3 1, 3) := by decide +kernel
theorem dX7_passes_111 : decode cX7_passes 111 = .ok (.goto (-63), 3) := by decide +kernel
theorem dX7_passes_114 : decode cX7_passes 114 = .ok (.aload_n 0, 1) := by decide +kernel
theorem dX7_passes_115 : decode cX7_passes 115 = .ok (.iload_n 2, 1) := by decide +kernel
theorem dX7_passes_116 : decode cX7_passes 116 = .ok (.putfield 103, 3) := by decide +kernel
theorem dX7_passes_119 : decode cX7_passes 119 = .ok (.iload_n 1, 1) := by decide +kernel
theorem dX7_passes_120 : decode cX7_passes 120 = .ok (.ireturn, 1) := by decide +kernel
theorem dX7_least_0 : decode cX7_least 0 = .ok (.aload_n 0, 1) := by decide +kernel
theorem dX7_least_1 : decode cX7_least 1 = .ok (.getfield 28, 3) := by decide +kernel
theorem dX7_least_4 : decode cX7_least 4 = .ok (.getfield 149, 3) := by decide +kernel
theorem dX7_least_7 : decode cX7_least 7 = .ok (.ifCond .ne 6, 3) := by decide +kernel
theorem dX7_least_10 : decode cX7_least 10 = .ok (.bipush (-4), 2) := by decide +kernel
theorem dX7_least_12 : decode cX7_least 12 = .ok (.ireturn, 1) := by decide +kernel
theorem dX7_least_13 : decode cX7_least 13 = .ok (.aload_n 0, 1) := by decide +kernel
theorem dX7_least_14 : decode cX7_least 14 = .ok (.bipush 9, 2) := by decide +kernel
theorem dX7_least_16 : decode cX7_least 16 = .ok (.invokevirtual 233, 3) := by decide +kernel
theorem dX7_least_19 : decode cX7_least 19 = .ok (.istore_n 1, 1) := by decide +kernel
theorem dX7_least_20 : decode cX7_least 20 = .ok (.iload_n 1, 1) := by decide +kernel
theorem dX7_least_21 : decode cX7_least 21 = .ok (.bipush 60, 2) := by decide +kernel
theorem dX7_least_23 : decode cX7_least 23 = .ok (.if_icmp .le 6, 3) := by decide +kernel
theorem dX7_least_26 : decode cX7_least 26 = .ok (.bipush (-9), 2) := by decide +kernel
theorem dX7_least_28 : decode cX7_least 28 = .ok (.ireturn, 1) := by decide +kernel
theorem dX7_least_29 : decode cX7_least 29 = .ok (.iconst 1, 1) := by decide +kernel
end
section
theorem dX7_least_30 : decode cX7_least 30 = .ok (.istore_n 2, 1) := by decide +kernel
theorem dX7_least_31 : decode cX7_least 31 = .ok (.iload_n 2, 1) := by decide +kernel
theorem dX7_least_32 : decode cX7_least 32 = .ok (.bipush 9, 2) := by decide +kernel
theorem dX7_least_34 : decode cX7_least 34 = .ok (.if_icmp .ge 18, 3) := by decide +kernel
theorem dX7_least_37 : decode cX7_least 37 = .ok (.aload_n 0, 1) := by decide +kernel
theorem dX7_least_38 : decode cX7_least 38 = .ok (.iload_n 2, 1) := by decide +kernel
theorem dX7_least_39 : decode cX7_least 39 = .ok (.invokevirtual 233, 3) := by decide +kernel
theorem dX7_least_42 : decode cX7_least 42 = .ok (.iload_n 1, 1) := by decide +kernel
theorem dX7_least_43 : decode cX7_least 43 = .ok (.if_icmp .le 9, 3) := by decide +kernel
theorem dX7_least_46 : decode cX7_least 46 = .ok (.iinc 2 1, 3) := by decide +kernel
theorem dX7_least_49 : decode cX7_least 49 = .ok (.goto (-18), 3) := by decide +kernel
theorem dX7_least_52 : decode cX7_least 52 = .ok (.aload_n 0, 1) := by decide +kernel
theorem dX7_least_53 : decode cX7_least 53 = .ok (.iload_n 1, 1) := by decide +kernel
theorem dX7_least_54 : decode cX7_least 54 = .ok (.putfield 103, 3) := by decide +kernel
theorem dX7_least_57 : decode cX7_least 57 = .ok (.iload_n 2, 1) := by decide +kernel
theorem dX7_least_58 : decode cX7_least 58 = .ok (.ireturn, 1) := by decide +kernel
theorem dX7_soonest_0 : decode cX7_soonest 0 = .ok (.iload_n 1, 1) := by decide +kernel
theorem dX7_soonest_1 : decode cX7_soonest 1 = .ok (.invokestatic 84, 3) := by decide +kernel
theorem dX7_soonest_4 : decode cX7_soonest 4 = .ok (.ifCond .ne 5, 3) := by decide +kernel
theorem dX7_soonest_7 : decode cX7_soonest 7 = .ok (.iconst (-1), 1) := by decide +kernel
theorem dX7_soonest_8 : decode cX7_soonest 8 = .ok (.ireturn, 1) := by decide +kernel
theorem dX7_soonest_9 : decode cX7_soonest 9 = .ok (.aload_n 0, 1) := by decide +kernel
theorem dX7_soonest_10 : decode cX7_soonest 10 = .ok (.iload_n 1, 1) := by decide +kernel
theorem dX7_soonest_11 : decode cX7_soonest 11 = .ok (.invokevirtual 236, 3) := by decide +kernel
theorem dX7_soonest_14 : decode cX7_soonest 14 = .ok (.istore_n 2, 1) := by decide +kernel
theorem dX7_soonest_15 : decode cX7_soonest 15 = .ok (.iload_n 2, 1) := by decide +kernel
theorem dX7_soonest_16 : decode cX7_soonest 16 = .ok (.ifCond .eq 5, 3) := by decide +kernel
theorem dX7_soonest_19 : decode cX7_soonest 19 = .ok (.iload_n 2, 1) := by decide +kernel
theorem dX7_soonest_20 : decode cX7_soonest 20 = .ok (.ireturn, 1) := by decide +kernel
theorem dX7_soonest_21 : decode cX7_soonest 21 = .ok (.bipush (-9), 2) := by decide +kernel
theorem dX7_soonest_23 : decode cX7_soonest 23 = .ok (.istore_n 3, 1) := by decide +kernel
theorem dX7_soonest_24 : decode cX7_soonest 24 = .ok (.bipush 61, 2) := by decide +kernel
theorem dX7_soonest_26 : decode cX7_soonest 26 = .ok (.istore 4, 2) := by decide +kernel
theorem dX7_soonest_28 : decode cX7_soonest 28 = .ok (.iconst 0, 1) := by decide +kernel
theorem dX7_soonest_29 : decode cX7_soonest 29 = .ok (.istore 5, 2) := by decide +kernel
theorem dX7_soonest_31 : decode cX7_soonest 31 = .ok (.iload 5, 2) := by decide +kernel
theorem dX7_soonest_33 : decode cX7_soonest 33 = .ok (.aload_n 0, 1) := by decide +kernel
theorem dX7_soonest_34 : decode cX7_soonest 34 = .ok (.getfield 11, 3) := by decide +kernel
theorem dX7_soonest_37 : decode cX7_soonest 37 = .ok (.iload_n 1, 1) := by decide +kernel
theorem dX7_soonest_38 : decode cX7_soonest 38 = .ok (.aaload, 1) := by decide +kernel
theorem dX7_soonest_39 : decode cX7_soonest 39 = .ok (.getfield 109, 3) := by decide +kernel
theorem dX7_soonest_42 : decode cX7_soonest 42 = .ok (.if_icmp .ge 66, 3) := by decide +kernel
theorem dX7_soonest_45 : decode cX7_soonest 45 = .ok (.aload_n 0, 1) := by decide +kernel
theorem dX7_soonest_46 : decode cX7_soonest 46 = .ok (.getfield 31, 3) := by decide +kernel
theorem dX7_soonest_49 : decode cX7_soonest 49 = .ok (.aload_n 0, 1) := by decide +kernel
theorem dX7_soonest_50 : decode cX7_soonest 50 = .ok (.getfield 28, 3) := by decide +kernel
theorem dX7_soonest_53 : decode cX7_soonest 53 = .ok (.invokevirtual 142, 3) := by decide +kernel
theorem dX7_soonest_56 : decode cX7_soonest 56 = .ok (.aload_n 0, 1) := by decide +kernel
theorem dX7_soonest_57 : decode cX7_soonest 57 = .ok (.getfield 31, 3) := by decide +kernel
theorem dX7_soonest_60 : decode cX7_soonest 60 = .ok (.aload_n 0, 1) := by decide +kernel
theorem dX7_soonest_61 : decode cX7_soonest 61 = .ok (.getfield 11, 3) := by decide +kernel
theorem dX7_soonest_64 : decode cX7_soonest 64 = .ok (.iload_n 1, 1) := by decide +kernel
theorem dX7_soonest_65 : decode cX7_soonest 65 = .ok (.aaload, 1) := by decide +kernel
theorem dX7_soonest_66 : decode cX7_soonest 66 = .ok (.getfield 100, 3) := by decide +kernel
theorem dX7_soonest_69 : decode cX7_soonest 69 = .ok (.iload 5, 2) := by decide +kernel
theorem dX7_soonest_71 : decode cX7_soonest 71 = .ok (.iaload, 1) := by decide +kernel
theorem dX7_soonest_72 : decode cX7_soonest 72 = .ok (.invokevirtual 239, 3) := by decide +kernel
theorem dX7_soonest_75 : decode cX7_soonest 75 = .ok (.aload_n 0, 1) := by decide +kernel
theorem dX7_soonest_76 : decode cX7_soonest 76 = .ok (.getfield 31, 3) := by decide +kernel
theorem dX7_soonest_79 : decode cX7_soonest 79 = .ok (.iload 4, 2) := by decide +kernel
theorem dX7_soonest_81 : decode cX7_soonest 81 = .ok (.iconst 1, 1) := by decide +kernel
theorem dX7_soonest_82 : decode cX7_soonest 82 = .ok (.isub, 1) := by decide +kernel
theorem dX7_soonest_83 : decode cX7_soonest 83 = .ok (.invokevirtual 218, 3) := by decide +kernel
theorem dX7_soonest_86 : decode cX7_soonest 86 = .ok (.istore 6, 2) := by decide +kernel
theorem dX7_soonest_88 : decode cX7_soonest 88 = .ok (.iload 6, 2) := by decide +kernel
theorem dX7_soonest_90 : decode cX7_soonest 90 = .ok (.iload 4, 2) := by decide +kernel
theorem dX7_soonest_92 : decode cX7_soonest 92 = .ok (.if_icmp .ge 10, 3) := by decide +kernel
theorem dX7_soonest_95 : decode cX7_soonest 95 = .ok (.iload 6, 2) := by decide +kernel
theorem dX7_soonest_97 : decode cX7_soonest 97 = .ok (.istore 4, 2) := by decide +kernel
theorem dX7_soonest_99 : decode cX7_soonest 99 = .ok (.iload 5, 2) := by decide +kernel
theorem dX7_soonest_101 : decode cX7_soonest 101 = .ok (.istore_n 3, 1) := by decide +kernel
theorem dX7_soonest_102 : decode cX7_soonest 102 = .ok (.iinc 5 1, 3) := by decide +kernel
theorem dX7_soonest_105 : decode cX7_soonest 105 = .ok (.goto (-74), 3) := by decide +kernel
theorem dX7_soonest_108 : decode cX7_soonest 108 = .ok (.iload_n 3, 1) := by decide +kernel
theorem dX7_soonest_109 : decode cX7_soonest 109 = .ok (.bipush (-9), 2) := by decide +kernel
theorem dX7_soonest_111 : decode cX7_soonest 111 = .ok (.if_icmp .eq 9, 3) := by decide +kernel
theorem dX7_soonest_114 : decode cX7_soonest 114 = .ok (.aload_n 0, 1) := by decide +kernel
theorem dX7_soonest_115 : decode cX7_soonest 115 = .ok (.iload 4, 2) := by decide +kernel
theorem dX7_soonest_117 : decode cX7_soonest 117 = .ok (.putfield 103, 3) := by decide +kernel
theorem dX7_soonest_120 : decode cX7_soonest 120 = .ok (.iload_n 3, 1) := by decide +kernel
theorem dX7_soonest_121 : decode cX7_soonest 121 = .ok (.ireturn, 1) := by decide +kernel
theorem dX7_order_0 : decode cX7_order 0 = .ok (.iload_n 1, 1) := by decide +kernel
theorem dX7_order_1 : decode cX7_order 1 = .ok (.invokestatic 84, 3) := by decide +kernel
theorem dX7_order_4 : decode cX7_order 4 = .ok (.ifCond .eq 10, 3) := by decide +kernel
theorem dX7_order_7 : decode cX7_order 7 = .ok (.iload_n 2, 1) := by decide +kernel
theorem dX7_order_8 : decode cX7_order 8 = .ok (.invokestatic 84, 3) := by decide +kernel
theorem dX7_order_11 : decode cX7_order 11 = .ok (.ifCond .ne 5, 3) := by decide +kernel
theorem dX7_order_14 : decode cX7_order 14 = .ok (.iconst (-1), 1) := by decide +kernel
theorem dX7_order_15 : decode cX7_order 15 = .ok (.ireturn, 1) := by decide +kernel
theorem dX7_order_16 : decode cX7_order 16 = .ok (.aload_n 0, 1) := by decide +kernel
theorem dX7_order_17 : decode cX7_order 17 = .ok (.iload_n 1, 1) := by decide +kernel
theorem dX7_order_18 : decode cX7_order 18 = .ok (.invokevirtual 236, 3) := by decide +kernel
theorem dX7_order_21 : decode cX7_order 21 = .ok (.istore_n 3, 1) := by decide +kernel
theorem dX7_order_22 : decode cX7_order 22 = .ok (.iload_n 3, 1) := by decide +kernel
theorem dX7_order_23 : decode cX7_order 23 = .ok (.ifCond .eq 5, 3) := by decide +kernel
theorem dX7_order_26 : decode cX7_order 26 = .ok (.iload_n 3, 1) := by decide +kernel
theorem dX7_order_27 : decode cX7_order 27 = .ok (.ireturn, 1) := by decide +kernel
theorem dX7_order_28 : decode cX7_order 28 = .ok (.aload_n 0, 1) := by decide +kernel
theorem dX7_order_29 : decode cX7_order 29 = .ok (.getfield 11, 3) := by decide +kernel
theorem dX7_order_32 : decode cX7_order 32 = .ok (.iload_n 1, 1) := by decide +kernel
theorem dX7_order_33 : decode cX7_order 33 = .ok (.aaload, 1) := by decide +kernel
theorem dX7_order_34 : decode cX7_order 34 = .ok (.getfield 109, 3) := by decide +kernel
theorem dX7_order_37 : decode cX7_order 37 = .ok (.istore 4, 2) := by decide +kernel
theorem dX7_order_39 : decode cX7_order 39 = .ok (.aload_n 0, 1) := by decide +kernel
theorem dX7_order_40 : decode cX7_order 40 = .ok (.getfield 51, 3) := by decide +kernel
theorem dX7_order_43 : decode cX7_order 43 = .ok (.aload_n 0, 1) := by decide +kernel
theorem dX7_order_44 : decode cX7_order 44 = .ok (.getfield 28, 3) := by decide +kernel
theorem dX7_order_47 : decode cX7_order 47 = .ok (.aload_n 0, 1) := by decide +kernel
theorem dX7_order_48 : decode cX7_order 48 = .ok (.getfield 11, 3) := by decide +kernel
theorem dX7_order_51 : decode cX7_order 51 = .ok (.iload_n 1, 1) := by decide +kernel
theorem dX7_order_52 : decode cX7_order 52 = .ok (.aaload, 1) := by decide +kernel
theorem dX7_order_53 : decode cX7_order 53 = .ok (.invokevirtual 242, 3) := by decide +kernel
theorem dX7_order_56 : decode cX7_order 56 = .ok (.istore 5, 2) := by decide +kernel
theorem dX7_order_58 : decode cX7_order 58 = .ok (.iload 5, 2) := by decide +kernel
theorem dX7_order_60 : decode cX7_order 60 = .ok (.bipush (-9), 2) := by decide +kernel
theorem dX7_order_62 : decode cX7_order 62 = .ok (.if_icmp .eq 37, 3) := by decide +kernel
theorem dX7_order_65 : decode cX7_order 65 = .ok (.aload_n 0, 1) := by decide +kernel
theorem dX7_order_66 : decode cX7_order 66 = .ok (.getfield 11, 3) := by decide +kernel
theorem dX7_order_69 : decode cX7_order 69 = .ok (.iload_n 2, 1) := by decide +kernel
theorem dX7_order_70 : decode cX7_order 70 = .ok (.aaload, 1) := by decide +kernel
theorem dX7_order_71 : decode cX7_order 71 = .ok (.iload 4, 2) := by decide +kernel
theorem dX7_order_73 : decode cX7_order 73 = .ok (.invokevirtual 92, 3) := by decide +kernel
theorem dX7_order_76 : decode cX7_order 76 = .ok (.aload_n 0, 1) := by decide +kernel
theorem dX7_order_77 : decode cX7_order 77 = .ok (.getfield 51, 3) := by decide +kernel
theorem dX7_order_80 : decode cX7_order 80 = .ok (.getfield 246, 3) := by decide +kernel
theorem dX7_order_83 : decode cX7_order 83 = .ok (.iconst 0, 1) := by decide +kernel
theorem dX7_order_84 : decode cX7_order 84 = .ok (.aload_n 0, 1) := by decide +kernel
theorem dX7_order_85 : decode cX7_order 85 = .ok (.getfield 11, 3) := by decide +kernel
theorem dX7_order_88 : decode cX7_order 88 = .ok (.iload_n 2, 1) := by decide +kernel
theorem dX7_order_89 : decode cX7_order 89 = .ok (.aaload, 1) := by decide +kernel
theorem dX7_order_90 : decode cX7_order 90 = .ok (.getfield 100, 3) := by decide +kernel
theorem dX7_order_93 : decode cX7_order 93 = .ok (.iconst 0, 1) := by decide +kernel
theorem dX7_order_94 : decode cX7_order 94 = .ok (.iload 4, 2) := by decide +kernel
theorem dX7_order_96 : decode cX7_order 96 = .ok (.invokestatic 118, 3) := by decide +kernel
theorem dX7_order_99 : decode cX7_order 99 = .ok (.iload 5, 2) := by decide +kernel
theorem dX7_order_101 : decode cX7_order 101 = .ok (.ireturn, 1) := by decide +kernel
theorem dX7_kinds_0 : decode cX7_kinds 0 = .ok (.aload_n 0, 1) := by decide +kernel
theorem dX7_kinds_1 : decode cX7_kinds 1 = .ok (.iload_n 1, 1) := by decide +kernel
theorem dX7_kinds_2 : decode cX7_kinds 2 = .ok (.iload_n 2, 1) := by decide +kernel
theorem dX7_kinds_3 : decode cX7_kinds 3 = .ok (.invokevirtual 249, 3) := by decide +kernel
theorem dX7_kinds_6 : decode cX7_kinds 6 = .ok (.istore_n 3, 1) := by decide +kernel
theorem dX7_kinds_7 : decode cX7_kinds 7 = .ok (.iload_n 3, 1) := by decide +kernel
theorem dX7_kinds_8 : decode cX7_kinds 8 = .ok (.ifCond .eq 7, 3) := by decide +kernel
theorem dX7_kinds_11 : decode cX7_kinds 11 = .ok (.iload_n 3, 1) := by decide +kernel
theorem dX7_kinds_12 : decode cX7_kinds 12 = .ok (.goto 14, 3) := by decide +kernel
theorem dX7_kinds_15 : decode cX7_kinds 15 = .ok (.aload_n 0, 1) := by decide +kernel
theorem dX7_kinds_16 : decode cX7_kinds 16 = .ok (.iload_n 1, 1) := by decide +kernel
theorem dX7_kinds_17 : decode cX7_kinds 17 = .ok (.aload_n 0, 1) := by decide +kernel
theorem dX7_kinds_18 : decode cX7_kinds 18 = .ok (.getfield 11, 3) := by decide +kernel
theorem dX7_kinds_21 : decode cX7_kinds 21 = .ok (.iload_n 2, 1) := by decide +kernel
theorem dX7_kinds_22 : decode cX7_kinds 22 = .ok (.aaload, 1) := by decide +kernel
theorem dX7_kinds_23 : decode cX7_kinds 23 = .ok (.invokevirtual 252, 3) := by decide +kernel
theorem dX7_kinds_26 : decode cX7_kinds 26 = .ok (.ireturn, 1) := by decide +kernel
theorem dX7_marks_0 : decode cX7_marks 0 = .ok (.aload_n 0, 1) := by decide +kernel
theorem dX7_marks_1 : decode cX7_marks 1 = .ok (.iload_n 1, 1) := by decide +kernel
theorem dX7_marks_2 : decode cX7_marks 2 = .ok (.iload_n 2, 1) := by decide +kernel
theorem dX7_marks_3 : decode cX7_marks 3 = .ok (.invokevirtual 249, 3) := by decide +kernel
theorem dX7_marks_6 : decode cX7_marks 6 = .ok (.istore_n 3, 1) := by decide +kernel
theorem dX7_marks_7 : decode cX7_marks 7 = .ok (.iload_n 3, 1) := by decide +kernel
theorem dX7_marks_8 : decode cX7_marks 8 = .ok (.ifCond .eq 5, 3) := by decide +kernel
theorem dX7_marks_11 : decode cX7_marks 11 = .ok (.iload_n 3, 1) := by decide +kernel
theorem dX7_marks_12 : decode cX7_marks 12 = .ok (.ireturn, 1) := by decide +kernel
theorem dX7_marks_13 : decode cX7_marks 13 = .ok (.iconst 0, 1) := by decide +kernel
theorem dX7_marks_14 : decode cX7_marks 14 = .ok (.istore 4, 2) := by decide +kernel
theorem dX7_marks_16 : decode cX7_marks 16 = .ok (.iconst 0, 1) := by decide +kernel
theorem dX7_marks_17 : decode cX7_marks 17 = .ok (.istore 5, 2) := by decide +kernel
theorem dX7_marks_19 : decode cX7_marks 19 = .ok (.iload 5, 2) := by decide +kernel
theorem dX7_marks_21 : decode cX7_marks 21 = .ok (.bipush 10, 2) := by decide +kernel
theorem dX7_marks_23 : decode cX7_marks 23 = .ok (.if_icmp .ge 43, 3) := by decide +kernel
theorem dX7_marks_26 : decode cX7_marks 26 = .ok (.aload_n 0, 1) := by decide +kernel
theorem dX7_marks_27 : decode cX7_marks 27 = .ok (.iload_n 1, 1) := by decide +kernel
theorem dX7_marks_28 : decode cX7_marks 28 = .ok (.aload_n 0, 1) := by decide +kernel
theorem dX7_marks_29 : decode cX7_marks 29 = .ok (.getfield 28, 3) := by decide +kernel
theorem dX7_marks_32 : decode cX7_marks 32 = .ok (.getfield 158, 3) := by decide +kernel
theorem dX7_marks_35 : decode cX7_marks 35 = .ok (.iload_n 1, 1) := by decide +kernel
theorem dX7_marks_36 : decode cX7_marks 36 = .ok (.iaload, 1) := by decide +kernel
theorem dX7_marks_37 : decode cX7_marks 37 = .ok (.iload 5, 2) := by decide +kernel
theorem dX7_marks_39 : decode cX7_marks 39 = .ok (.aload_n 0, 1) := by decide +kernel
theorem dX7_marks_40 : decode cX7_marks 40 = .ok (.getfield 11, 3) := by decide +kernel
theorem dX7_marks_43 : decode cX7_marks 43 = .ok (.iload_n 2, 1) := by decide +kernel
theorem dX7_marks_44 : decode cX7_marks 44 = .ok (.aaload, 1) := by decide +kernel
theorem dX7_marks_45 : decode cX7_marks 45 = .ok (.invokevirtual 256, 3) := by decide +kernel
theorem dX7_marks_48 : decode cX7_marks 48 = .ok (.ifCond .eq 12, 3) := by decide +kernel
theorem dX7_marks_51 : decode cX7_marks 51 = .ok (.iload 4, 2) := by decide +kernel
theorem dX7_marks_53 : decode cX7_marks 53 = .ok (.iconst 1, 1) := by decide +kernel
theorem dX7_marks_54 : decode cX7_marks 54 = .ok (.iload 5, 2) := by decide +kernel
theorem dX7_marks_56 : decode cX7_marks 56 = .ok (.ishl, 1) := by decide +kernel
theorem dX7_marks_57 : decode cX7_marks 57 = .ok (.ior, 1) := by decide +kernel
theorem dX7_marks_58 : decode cX7_marks 58 = .ok (.istore 4, 2) := by decide +kernel
theorem dX7_marks_60 : decode cX7_marks 60 = .ok (.iinc 5 1, 3) := by decide +kernel
theorem dX7_marks_63 : decode cX7_marks 63 = .ok (.goto (-44), 3) := by decide +kernel
theorem dX7_marks_66 : decode cX7_marks 66 = .ok (.iload 4, 2) := by decide +kernel
theorem dX7_marks_68 : decode cX7_marks 68 = .ok (.ireturn, 1) := by decide +kernel
theorem dX7_test_0 : decode cX7_test 0 = .ok (.aload_n 0, 1) := by decide +kernel
theorem dX7_test_1 : decode cX7_test 1 = .ok (.iload_n 1, 1) := by decide +kernel
theorem dX7_test_2 : decode cX7_test 2 = .ok (.iload_n 2, 1) := by decide +kernel
theorem dX7_test_3 : decode cX7_test 3 = .ok (.invokevirtual 249, 3) := by decide +kernel
theorem dX7_test_6 : decode cX7_test 6 = .ok (.istore_n 3, 1) := by decide +kernel
theorem dX7_test_7 : decode cX7_test 7 = .ok (.iload_n 3, 1) := by decide +kernel
theorem dX7_test_8 : decode cX7_test 8 = .ok (.ifCond .eq 5, 3) := by decide +kernel
theorem dX7_test_11 : decode cX7_test 11 = .ok (.iload_n 3, 1) := by decide +kernel
theorem dX7_test_12 : decode cX7_test 12 = .ok (.ireturn, 1) := by decide +kernel
theorem dX7_test_13 : decode cX7_test 13 = .ok (.aload_n 0, 1) := by decide +kernel
theorem dX7_test_14 : decode cX7_test 14 = .ok (.iload_n 1, 1) := by decide +kernel
theorem dX7_test_15 : decode cX7_test 15 = .ok (.aload_n 0, 1) := by decide +kernel
theorem dX7_test_16 : decode cX7_test 16 = .ok (.getfield 11, 3) := by decide +kernel
theorem dX7_test_19 : decode cX7_test 19 = .ok (.iload_n 2, 1) := by decide +kernel
theorem dX7_test_20 : decode cX7_test 20 = .ok (.aaload, 1) := by decide +kernel
theorem dX7_test_21 : decode cX7_test 21 = .ok (.invokevirtual 252, 3) := by decide +kernel
theorem dX7_test_24 : decode cX7_test 24 = .ok (.istore 4, 2) := by decide +kernel
theorem dX7_test_26 : decode cX7_test 26 = .ok (.iload 4, 2) := by decide +kernel
theorem dX7_test_28 : decode cX7_test 28 = .ok (.ifCond .ne 6, 3) := by decide +kernel
theorem dX7_test_31 : decode cX7_test 31 = .ok (.bipush (-9), 2) := by decide +kernel
theorem dX7_test_33 : decode cX7_test 33 = .ok (.ireturn, 1) := by decide +kernel
theorem dX7_test_34 : decode cX7_test 34 = .ok (.aload_n 0, 1) := by decide +kernel
theorem dX7_test_35 : decode cX7_test 35 = .ok (.iload_n 1, 1) := by decide +kernel
theorem dX7_test_36 : decode cX7_test 36 = .ok (.iload 4, 2) := by decide +kernel
theorem dX7_test_38 : decode cX7_test 38 = .ok (.invokevirtual 260, 3) := by decide +kernel
theorem dX7_test_41 : decode cX7_test 41 = .ok (.bipush (-9), 2) := by decide +kernel
theorem dX7_test_43 : decode cX7_test 43 = .ok (.istore 5, 2) := by decide +kernel
theorem dX7_test_45 : decode cX7_test 45 = .ok (.bipush 7, 2) := by decide +kernel
theorem dX7_test_47 : decode cX7_test 47 = .ok (.istore 6, 2) := by decide +kernel
theorem dX7_test_49 : decode cX7_test 49 = .ok (.iconst 1, 1) := by decide +kernel
theorem dX7_test_50 : decode cX7_test 50 = .ok (.istore 7, 2) := by decide +kernel
theorem dX7_test_52 : decode cX7_test 52 = .ok (.iload 7, 2) := by decide +kernel
theorem dX7_test_54 : decode cX7_test 54 = .ok (.bipush 20, 2) := by decide +kernel
theorem dX7_test_56 : decode cX7_test 56 = .ok (.if_icmp .gt 34, 3) := by decide +kernel
theorem dX7_test_59 : decode cX7_test 59 = .ok (.aload_n 0, 1) := by decide +kernel
theorem dX7_test_60 : decode cX7_test 60 = .ok (.iload 4, 2) := by decide +kernel
theorem dX7_test_62 : decode cX7_test 62 = .ok (.iload 7, 2) := by decide +kernel
theorem dX7_test_64 : decode cX7_test 64 = .ok (.invokevirtual 264, 3) := by decide +kernel
theorem dX7_test_67 : decode cX7_test 67 = .ok (.istore 8, 2) := by decide +kernel
theorem dX7_test_69 : decode cX7_test 69 = .ok (.iload 8, 2) := by decide +kernel
theorem dX7_test_71 : decode cX7_test 71 = .ok (.iload 6, 2) := by decide +kernel
theorem dX7_test_73 : decode cX7_test 73 = .ok (.if_icmp .ge 11, 3) := by decide +kernel
theorem dX7_test_76 : decode cX7_test 76 = .ok (.iload 8, 2) := by decide +kernel
theorem dX7_test_78 : decode cX7_test 78 = .ok (.istore 6, 2) := by decide +kernel
theorem dX7_test_80 : decode cX7_test 80 = .ok (.iload 7, 2) := by decide +kernel
theorem dX7_test_82 : decode cX7_test 82 = .ok (.istore 5, 2) := by decide +kernel
theorem dX7_test_84 : decode cX7_test 84 = .ok (.iinc 7 1, 3) := by decide +kernel
theorem dX7_test_87 : decode cX7_test 87 = .ok (.goto (-35), 3) := by decide +kernel
theorem dX7_test_90 : decode cX7_test 90 = .ok (.aload_n 0, 1) := by decide +kernel
theorem dX7_test_91 : decode cX7_test 91 = .ok (.iload 6, 2) := by decide +kernel
theorem dX7_test_93 : decode cX7_test 93 = .ok (.putfield 103, 3) := by decide +kernel
theorem dX7_test_96 : decode cX7_test 96 = .ok (.iload 5, 2) := by decide +kernel
theorem dX7_test_98 : decode cX7_test 98 = .ok (.ireturn, 1) := by decide +kernel
theorem dX7_duel_0 : decode cX7_duel 0 = .ok (.iload_n 1, 1) := by decide +kernel
theorem dX7_duel_1 : decode cX7_duel 1 = .ok (.ifCond .lt 8, 3) := by decide +kernel
theorem dX7_duel_4 : decode cX7_duel 4 = .ok (.iload_n 1, 1) := by decide +kernel
theorem dX7_duel_5 : decode cX7_duel 5 = .ok (.iconst 2, 1) := by decide +kernel
theorem dX7_duel_6 : decode cX7_duel 6 = .ok (.if_icmp .le 5, 3) := by decide +kernel
theorem dX7_duel_9 : decode cX7_duel 9 = .ok (.iconst (-1), 1) := by decide +kernel
theorem dX7_duel_10 : decode cX7_duel 10 = .ok (.ireturn, 1) := by decide +kernel
theorem dX7_duel_11 : decode cX7_duel 11 = .ok (.aload_n 0, 1) := by decide +kernel
theorem dX7_duel_12 : decode cX7_duel 12 = .ok (.getfield 28, 3) := by decide +kernel
theorem dX7_duel_15 : decode cX7_duel 15 = .ok (.getfield 149, 3) := by decide +kernel
theorem dX7_duel_18 : decode cX7_duel 18 = .ok (.ifCond .ne 6, 3) := by decide +kernel
theorem dX7_duel_21 : decode cX7_duel 21 = .ok (.bipush (-4), 2) := by decide +kernel
theorem dX7_duel_23 : decode cX7_duel 23 = .ok (.ireturn, 1) := by decide +kernel
theorem dX7_duel_24 : decode cX7_duel 24 = .ok (.iload_n 1, 1) := by decide +kernel
theorem dX7_duel_25 : decode cX7_duel 25 = .ok (.ifCond .ne 24, 3) := by decide +kernel
theorem dX7_duel_28 : decode cX7_duel 28 = .ok (.aload_n 0, 1) := by decide +kernel
theorem dX7_duel_29 : decode cX7_duel 29 = .ok (.getfield 31, 3) := by decide +kernel
theorem dX7_duel_32 : decode cX7_duel 32 = .ok (.aload_n 0, 1) := by decide +kernel
theorem dX7_duel_33 : decode cX7_duel 33 = .ok (.getfield 28, 3) := by decide +kernel
theorem dX7_duel_36 : decode cX7_duel 36 = .ok (.invokevirtual 142, 3) := by decide +kernel
theorem dX7_duel_39 : decode cX7_duel 39 = .ok (.aload_n 0, 1) := by decide +kernel
theorem dX7_duel_40 : decode cX7_duel 40 = .ok (.getfield 31, 3) := by decide +kernel
theorem dX7_duel_43 : decode cX7_duel 43 = .ok (.bipush 60, 2) := by decide +kernel
theorem dX7_duel_45 : decode cX7_duel 45 = .ok (.invokevirtual 218, 3) := by decide +kernel
theorem dX7_duel_48 : decode cX7_duel 48 = .ok (.ireturn, 1) := by decide +kernel
theorem dX7_duel_49 : decode cX7_duel 49 = .ok (.aload_n 0, 1) := by decide +kernel
theorem dX7_duel_50 : decode cX7_duel 50 = .ok (.iload_n 1, 1) := by decide +kernel
theorem dX7_duel_51 : decode cX7_duel 51 = .ok (.iconst 2, 1) := by decide +kernel
theorem dX7_duel_52 : decode cX7_duel 52 = .ok (.if_icmp .ne 7, 3) := by decide +kernel
theorem dX7_duel_55 : decode cX7_duel 55 = .ok (.iconst 1, 1) := by decide +kernel
theorem dX7_duel_56 : decode cX7_duel 56 = .ok (.goto 4, 3) := by decide +kernel
theorem dX7_duel_59 : decode cX7_duel 59 = .ok (.iconst 0, 1) := by decide +kernel
theorem dX7_duel_60 : decode cX7_duel 60 = .ok (.invokevirtual 267, 3) := by decide +kernel
theorem dX7_duel_63 : decode cX7_duel 63 = .ok (.ireturn, 1) := by decide +kernel
theorem dX7_odds_0 : decode cX7_odds 0 = .ok (.iload_n 1, 1) := by decide +kernel
theorem dX7_odds_1 : decode cX7_odds 1 = .ok (.ifCond .lt 17, 3) := by decide +kernel
theorem dX7_odds_4 : decode cX7_odds 4 = .ok (.iload_n 1, 1) := by decide +kernel
theorem dX7_odds_5 : decode cX7_odds 5 = .ok (.bipush 7, 2) := by decide +kernel
theorem dX7_odds_7 : decode cX7_odds 7 = .ok (.if_icmp .gt 11, 3) := by decide +kernel
theorem dX7_odds_10 : decode cX7_odds 10 = .ok (.iload_n 2, 1) := by decide +kernel
theorem dX7_odds_11 : decode cX7_odds 11 = .ok (.iload_n 3, 1) := by decide +kernel
theorem dX7_odds_12 : decode cX7_odds 12 = .ok (.invokestatic 271, 3) := by decide +kernel
theorem dX7_odds_15 : decode cX7_odds 15 = .ok (.ifCond .ne 5, 3) := by decide +kernel
theorem dX7_odds_18 : decode cX7_odds 18 = .ok (.iconst (-1), 1) := by decide +kernel
theorem dX7_odds_19 : decode cX7_odds 19 = .ok (.ireturn, 1) := by decide +kernel
theorem dX7_odds_20 : decode cX7_odds 20 = .ok (.aload_n 0, 1) := by decide +kernel
theorem dX7_odds_21 : decode cX7_odds 21 = .ok (.getfield 28, 3) := by decide +kernel
theorem dX7_odds_24 : decode cX7_odds 24 = .ok (.getfield 149, 3) := by decide +kernel
theorem dX7_odds_27 : decode cX7_odds 27 = .ok (.ifCond .ne 6, 3) := by decide +kernel
theorem dX7_odds_30 : decode cX7_odds 30 = .ok (.bipush (-4), 2) := by decide +kernel
theorem dX7_odds_32 : decode cX7_odds 32 = .ok (.ireturn, 1) := by decide +kernel
theorem dX7_odds_33 : decode cX7_odds 33 = .ok (.aload_n 0, 1) := by decide +kernel
theorem dX7_odds_34 : decode cX7_odds 34 = .ok (.iload_n 2, 1) := by decide +kernel
theorem dX7_odds_35 : decode cX7_odds 35 = .ok (.iload_n 3, 1) := by decide +kernel
theorem dX7_odds_36 : decode cX7_odds 36 = .ok (.invokevirtual 274, 3) := by decide +kernel
theorem dX7_odds_39 : decode cX7_odds 39 = .ok (.lconst 0, 1) := by decide +kernel
theorem dX7_odds_40 : decode cX7_odds 40 = .ok (.lstore 4, 2) := by decide +kernel
theorem dX7_odds_42 : decode cX7_odds 42 = .ok (.iload_n 1, 1) := by decide +kernel
theorem dX7_odds_43 : decode cX7_odds 43 = .ok (.istore 6, 2) := by decide +kernel
theorem dX7_odds_45 : decode cX7_odds 45 = .ok (.iload 6, 2) := by decide +kernel
theorem dX7_odds_47 : decode cX7_odds 47 = .ok (.bipush 7, 2) := by decide +kernel
theorem dX7_odds_49 : decode cX7_odds 49 = .ok (.if_icmp .gt 21, 3) := by decide +kernel
theorem dX7_odds_52 : decode cX7_odds 52 = .ok (.lload 4, 2) := by decide +kernel
theorem dX7_odds_54 : decode cX7_odds 54 = .ok (.aload_n 0, 1) := by decide +kernel
theorem dX7_odds_55 : decode cX7_odds 55 = .ok (.getfield 64, 3) := by decide +kernel
theorem dX7_odds_58 : decode cX7_odds 58 = .ok (.iload 6, 2) := by decide +kernel
theorem dX7_odds_60 : decode cX7_odds 60 = .ok (.laload, 1) := by decide +kernel
theorem dX7_odds_61 : decode cX7_odds 61 = .ok (.ladd, 1) := by decide +kernel
theorem dX7_odds_62 : decode cX7_odds 62 = .ok (.lstore 4, 2) := by decide +kernel
theorem dX7_odds_64 : decode cX7_odds 64 = .ok (.iinc 6 1, 3) := by decide +kernel
theorem dX7_odds_67 : decode cX7_odds 67 = .ok (.goto (-22), 3) := by decide +kernel
theorem dX7_odds_70 : decode cX7_odds 70 = .ok (.aload_n 0, 1) := by decide +kernel
theorem dX7_odds_71 : decode cX7_odds 71 = .ok (.getfield 71, 3) := by decide +kernel
theorem dX7_odds_74 : decode cX7_odds 74 = .ok (.lload 4, 2) := by decide +kernel
theorem dX7_odds_76 : decode cX7_odds 76 = .ok (.aload_n 0, 1) := by decide +kernel
theorem dX7_odds_77 : decode cX7_odds 77 = .ok (.invokevirtual 277, 3) := by decide +kernel
theorem dX7_odds_80 : decode cX7_odds 80 = .ok (.invokevirtual 281, 3) := by decide +kernel
theorem dX7_odds_83 : decode cX7_odds 83 = .ok (.iconst 1, 1) := by decide +kernel
theorem dX7_odds_84 : decode cX7_odds 84 = .ok (.ireturn, 1) := by decide +kernel
theorem dX7_mid_0 : decode cX7_mid 0 = .ok (.iload_n 1, 1) := by decide +kernel
theorem dX7_mid_1 : decode cX7_mid 1 = .ok (.iload_n 2, 1) := by decide +kernel
theorem dX7_mid_2 : decode cX7_mid 2 = .ok (.invokestatic 271, 3) := by decide +kernel
theorem dX7_mid_5 : decode cX7_mid 5 = .ok (.ifCond .ne 5, 3) := by decide +kernel
theorem dX7_mid_8 : decode cX7_mid 8 = .ok (.iconst (-1), 1) := by decide +kernel
theorem dX7_mid_9 : decode cX7_mid 9 = .ok (.ireturn, 1) := by decide +kernel
theorem dX7_mid_10 : decode cX7_mid 10 = .ok (.aload_n 0, 1) := by decide +kernel
theorem dX7_mid_11 : decode cX7_mid 11 = .ok (.getfield 28, 3) := by decide +kernel
theorem dX7_mid_14 : decode cX7_mid 14 = .ok (.getfield 149, 3) := by decide +kernel
theorem dX7_mid_17 : decode cX7_mid 17 = .ok (.ifCond .ne 6, 3) := by decide +kernel
theorem dX7_mid_20 : decode cX7_mid 20 = .ok (.bipush (-4), 2) := by decide +kernel
theorem dX7_mid_22 : decode cX7_mid 22 = .ok (.ireturn, 1) := by decide +kernel
theorem dX7_mid_23 : decode cX7_mid 23 = .ok (.aload_n 0, 1) := by decide +kernel
theorem dX7_mid_24 : decode cX7_mid 24 = .ok (.iload_n 1, 1) := by decide +kernel
theorem dX7_mid_25 : decode cX7_mid 25 = .ok (.iload_n 2, 1) := by decide +kernel
theorem dX7_mid_26 : decode cX7_mid 26 = .ok (.invokevirtual 274, 3) := by decide +kernel
theorem dX7_mid_29 : decode cX7_mid 29 = .ok (.lconst 0, 1) := by decide +kernel
theorem dX7_mid_30 : decode cX7_mid 30 = .ok (.lstore_n 3, 1) := by decide +kernel
theorem dX7_mid_31 : decode cX7_mid 31 = .ok (.iconst 0, 1) := by decide +kernel
theorem dX7_mid_32 : decode cX7_mid 32 = .ok (.istore 5, 2) := by decide +kernel
theorem dX7_mid_34 : decode cX7_mid 34 = .ok (.iload 5, 2) := by decide +kernel
theorem dX7_mid_36 : decode cX7_mid 36 = .ok (.bipush 7, 2) := by decide +kernel
theorem dX7_mid_38 : decode cX7_mid 38 = .ok (.if_icmp .gt 23, 3) := by decide +kernel
theorem dX7_mid_41 : decode cX7_mid 41 = .ok (.lload_n 3, 1) := by decide +kernel
theorem dX7_mid_42 : decode cX7_mid 42 = .ok (.iload 5, 2) := by decide +kernel
theorem dX7_mid_44 : decode cX7_mid 44 = .ok (.i2l, 1) := by decide +kernel
theorem dX7_mid_45 : decode cX7_mid 45 = .ok (.aload_n 0, 1) := by decide +kernel
theorem dX7_mid_46 : decode cX7_mid 46 = .ok (.getfield 64, 3) := by decide +kernel
theorem dX7_mid_49 : decode cX7_mid 49 = .ok (.iload 5, 2) := by decide +kernel
theorem dX7_mid_51 : decode cX7_mid 51 = .ok (.laload, 1) := by decide +kernel
theorem dX7_mid_52 : decode cX7_mid 52 = .ok (.lmul, 1) := by decide +kernel
theorem dX7_mid_53 : decode cX7_mid 53 = .ok (.ladd, 1) := by decide +kernel
theorem dX7_mid_54 : decode cX7_mid 54 = .ok (.lstore_n 3, 1) := by decide +kernel
theorem dX7_mid_55 : decode cX7_mid 55 = .ok (.iinc 5 1, 3) := by decide +kernel
theorem dX7_mid_58 : decode cX7_mid 58 = .ok (.goto (-24), 3) := by decide +kernel
theorem dX7_mid_61 : decode cX7_mid 61 = .ok (.aload_n 0, 1) := by decide +kernel
theorem dX7_mid_62 : decode cX7_mid 62 = .ok (.getfield 71, 3) := by decide +kernel
theorem dX7_mid_65 : decode cX7_mid 65 = .ok (.lload_n 3, 1) := by decide +kernel
theorem dX7_mid_66 : decode cX7_mid 66 = .ok (.aload_n 0, 1) := by decide +kernel
theorem dX7_mid_67 : decode cX7_mid 67 = .ok (.invokevirtual 277, 3) := by decide +kernel
theorem dX7_mid_70 : decode cX7_mid 70 = .ok (.invokevirtual 281, 3) := by decide +kernel
theorem dX7_mid_73 : decode cX7_mid 73 = .ok (.iconst 1, 1) := by decide +kernel
theorem dX7_mid_74 : decode cX7_mid 74 = .ok (.ireturn, 1) := by decide +kernel
theorem dX7_lots_0 : decode cX7_lots 0 = .ok (.iload_n 1, 1) := by decide +kernel
theorem dX7_lots_1 : decode cX7_lots 1 = .ok (.iconst 1, 1) := by decide +kernel
theorem dX7_lots_2 : decode cX7_lots 2 = .ok (.if_icmp .lt 23, 3) := by decide +kernel
theorem dX7_lots_5 : decode cX7_lots 5 = .ok (.iload_n 1, 1) := by decide +kernel
theorem dX7_lots_6 : decode cX7_lots 6 = .ok (.bipush 20, 2) := by decide +kernel
theorem dX7_lots_8 : decode cX7_lots 8 = .ok (.if_icmp .gt 17, 3) := by decide +kernel
theorem dX7_lots_11 : decode cX7_lots 11 = .ok (.iload_n 2, 1) := by decide +kernel
theorem dX7_lots_12 : decode cX7_lots 12 = .ok (.iconst 1, 1) := by decide +kernel
theorem dX7_lots_13 : decode cX7_lots 13 = .ok (.if_icmp .lt 12, 3) := by decide +kernel
theorem dX7_lots_16 : decode cX7_lots 16 = .ok (.iload_n 2, 1) := by decide +kernel
theorem dX7_lots_17 : decode cX7_lots 17 = .ok (.i2l, 1) := by decide +kernel
theorem dX7_lots_18 : decode cX7_lots 18 = .ok (.ldc2_w 285, 3) := by decide +kernel
theorem dX7_lots_21 : decode cX7_lots 21 = .ok (.lcmp, 1) := by decide +kernel
theorem dX7_lots_22 : decode cX7_lots 22 = .ok (.ifCond .lt 5, 3) := by decide +kernel
theorem dX7_lots_25 : decode cX7_lots 25 = .ok (.iconst (-1), 1) := by decide +kernel
theorem dX7_lots_26 : decode cX7_lots 26 = .ok (.ireturn, 1) := by decide +kernel
theorem dX7_lots_27 : decode cX7_lots 27 = .ok (.aload_n 0, 1) := by decide +kernel
theorem dX7_lots_28 : decode cX7_lots 28 = .ok (.getfield 28, 3) := by decide +kernel
theorem dX7_lots_31 : decode cX7_lots 31 = .ok (.getfield 149, 3) := by decide +kernel
theorem dX7_lots_34 : decode cX7_lots 34 = .ok (.ifCond .ne 6, 3) := by decide +kernel
theorem dX7_lots_37 : decode cX7_lots 37 = .ok (.bipush (-4), 2) := by decide +kernel
theorem dX7_lots_39 : decode cX7_lots 39 = .ok (.ireturn, 1) := by decide +kernel
theorem dX7_lots_40 : decode cX7_lots 40 = .ok (.aload_n 0, 1) := by decide +kernel
theorem dX7_lots_41 : decode cX7_lots 41 = .ok (.getfield 40, 3) := by decide +kernel
theorem dX7_lots_44 : decode cX7_lots 44 = .ok (.iload_n 1, 1) := by decide +kernel
theorem dX7_lots_45 : decode cX7_lots 45 = .ok (.invokevirtual 187, 3) := by decide +kernel
theorem dX7_lots_48 : decode cX7_lots 48 = .ok (.ifCond .eq 6, 3) := by decide +kernel
theorem dX7_lots_51 : decode cX7_lots 51 = .ok (.bipush (-2), 2) := by decide +kernel
theorem dX7_lots_53 : decode cX7_lots 53 = .ok (.ireturn, 1) := by decide +kernel
theorem dX7_lots_54 : decode cX7_lots 54 = .ok (.iload_n 2, 1) := by decide +kernel
theorem dX7_lots_55 : decode cX7_lots 55 = .ok (.i2l, 1) := by decide +kernel
theorem dX7_lots_56 : decode cX7_lots 56 = .ok (.lstore_n 3, 1) := by decide +kernel
theorem dX7_lots_57 : decode cX7_lots 57 = .ok (.iconst 0, 1) := by decide +kernel
theorem dX7_lots_58 : decode cX7_lots 58 = .ok (.istore 5, 2) := by decide +kernel
theorem dX7_lots_60 : decode cX7_lots 60 = .ok (.iload 5, 2) := by decide +kernel
theorem dX7_lots_62 : decode cX7_lots 62 = .ok (.iload_n 1, 1) := by decide +kernel
theorem dX7_lots_63 : decode cX7_lots 63 = .ok (.if_icmp .ge 24, 3) := by decide +kernel
theorem dX7_lots_66 : decode cX7_lots 66 = .ok (.lload_n 3, 1) := by decide +kernel
theorem dX7_lots_67 : decode cX7_lots 67 = .ok (.ldc2_w 287, 3) := by decide +kernel
theorem dX7_lots_70 : decode cX7_lots 70 = .ok (.lmul, 1) := by decide +kernel
theorem dX7_lots_71 : decode cX7_lots 71 = .ok (.ldc2_w 285, 3) := by decide +kernel
theorem dX7_lots_74 : decode cX7_lots 74 = .ok (.lrem, 1) := by decide +kernel
theorem dX7_lots_75 : decode cX7_lots 75 = .ok (.lstore_n 3, 1) := by decide +kernel
theorem dX7_lots_76 : decode cX7_lots 76 = .ok (.aload_n 0, 1) := by decide +kernel
theorem dX7_lots_77 : decode cX7_lots 77 = .ok (.lload_n 3, 1) := by decide +kernel
theorem dX7_lots_78 : decode cX7_lots 78 = .ok (.invokevirtual 289, 3) := by decide +kernel
theorem dX7_lots_81 : decode cX7_lots 81 = .ok (.iinc 5 1, 3) := by decide +kernel
theorem dX7_lots_84 : decode cX7_lots 84 = .ok (.goto (-24), 3) := by decide +kernel
theorem dX7_lots_87 : decode cX7_lots 87 = .ok (.aload_n 0, 1) := by decide +kernel
theorem dX7_lots_88 : decode cX7_lots 88 = .ok (.getfield 28, 3) := by decide +kernel
theorem dX7_lots_91 : decode cX7_lots 91 = .ok (.invokevirtual 214, 3) := by decide +kernel
theorem dX7_lots_94 : decode cX7_lots 94 = .ok (.ireturn, 1) := by decide +kernel
theorem dX7_asked_0 : decode cX7_asked 0 = .ok (.aload_n 0, 1) := by decide +kernel
theorem dX7_asked_1 : decode cX7_asked 1 = .ok (.getfield 103, 3) := by decide +kernel
theorem dX7_asked_4 : decode cX7_asked 4 = .ok (.ireturn, 1) := by decide +kernel
theorem dX7_upper_0 : decode cX7_upper 0 = .ok (.aload_n 0, 1) := by decide +kernel
theorem dX7_upper_1 : decode cX7_upper 1 = .ok (.getfield 71, 3) := by decide +kernel
theorem dX7_upper_4 : decode cX7_upper 4 = .ok (.getfield 293, 3) := by decide +kernel
theorem dX7_upper_7 : decode cX7_upper 7 = .ok (.lreturn, 1) := by decide +kernel
theorem dX7_lower_0 : decode cX7_lower 0 = .ok (.aload_n 0, 1) := by decide +kernel
theorem dX7_lower_1 : decode cX7_lower 1 = .ok (.getfield 71, 3) := by decide +kernel
theorem dX7_lower_4 : decode cX7_lower 4 = .ok (.getfield 297, 3) := by decide +kernel
theorem dX7_lower_7 : decode cX7_lower 7 = .ok (.lreturn, 1) := by decide +kernel
theorem dX7_count_0 : decode cX7_count 0 = .ok (.iload_n 1, 1) := by decide +kernel
theorem dX7_count_1 : decode cX7_count 1 = .ok (.ifCond .lt 9, 3) := by decide +kernel
theorem dX7_count_4 : decode cX7_count 4 = .ok (.iload_n 1, 1) := by decide +kernel
theorem dX7_count_5 : decode cX7_count 5 = .ok (.bipush 13, 2) := by decide +kernel
theorem dX7_count_7 : decode cX7_count 7 = .ok (.if_icmp .lt 7, 3) := by decide +kernel
theorem dX7_count_10 : decode cX7_count 10 = .ok (.iconst (-1), 1) := by decide +kernel
theorem dX7_count_11 : decode cX7_count 11 = .ok (.goto 8, 3) := by decide +kernel
theorem dX7_count_14 : decode cX7_count 14 = .ok (.aload_n 0, 1) := by decide +kernel
theorem dX7_count_15 : decode cX7_count 15 = .ok (.iload_n 1, 1) := by decide +kernel
theorem dX7_count_16 : decode cX7_count 16 = .ok (.invokevirtual 300, 3) := by decide +kernel
theorem dX7_count_19 : decode cX7_count 19 = .ok (.ireturn, 1) := by decide +kernel
theorem dX7_finding_0 : decode cX7_finding 0 = .ok (.aload_n 0, 1) := by decide +kernel
theorem dX7_finding_1 : decode cX7_finding 1 = .ok (.getfield 303, 3) := by decide +kernel
theorem dX7_finding_4 : decode cX7_finding 4 = .ok (.ireturn, 1) := by decide +kernel
theorem dX7_findings_0 : decode cX7_findings 0 = .ok (.iload_n 1, 1) := by decide +kernel
theorem dX7_findings_1 : decode cX7_findings 1 = .ok (.iconst 1, 1) := by decide +kernel
theorem dX7_findings_2 : decode cX7_findings 2 = .ok (.if_icmp .lt 8, 3) := by decide +kernel
theorem dX7_findings_5 : decode cX7_findings 5 = .ok (.iload_n 1, 1) := by decide +kernel
theorem dX7_findings_6 : decode cX7_findings 6 = .ok (.iconst 5, 1) := by decide +kernel
theorem dX7_findings_7 : decode cX7_findings 7 = .ok (.if_icmp .le 7, 3) := by decide +kernel
theorem dX7_findings_10 : decode cX7_findings 10 = .ok (.iconst (-1), 1) := by decide +kernel
theorem dX7_findings_11 : decode cX7_findings 11 = .ok (.goto 9, 3) := by decide +kernel
theorem dX7_findings_14 : decode cX7_findings 14 = .ok (.aload_n 0, 1) := by decide +kernel
theorem dX7_findings_15 : decode cX7_findings 15 = .ok (.getfield 75, 3) := by decide +kernel
theorem dX7_findings_18 : decode cX7_findings 18 = .ok (.iload_n 1, 1) := by decide +kernel
theorem dX7_findings_19 : decode cX7_findings 19 = .ok (.iaload, 1) := by decide +kernel
theorem dX7_findings_20 : decode cX7_findings 20 = .ok (.ireturn, 1) := by decide +kernel
theorem dX7_digest_0 : decode cX7_digest 0 = .ok (.ldc2_w 306, 3) := by decide +kernel
theorem dX7_digest_3 : decode cX7_digest 3 = .ok (.lstore_n 1, 1) := by decide +kernel
theorem dX7_digest_4 : decode cX7_digest 4 = .ok (.iconst 0, 1) := by decide +kernel
theorem dX7_digest_5 : decode cX7_digest 5 = .ok (.istore_n 3, 1) := by decide +kernel
theorem dX7_digest_6 : decode cX7_digest 6 = .ok (.iload_n 3, 1) := by decide +kernel
theorem dX7_digest_7 : decode cX7_digest 7 = .ok (.bipush 13, 2) := by decide +kernel
theorem dX7_digest_9 : decode cX7_digest 9 = .ok (.if_icmp .ge 22, 3) := by decide +kernel
theorem dX7_digest_12 : decode cX7_digest 12 = .ok (.ldc2_w 308, 3) := by decide +kernel
theorem dX7_digest_15 : decode cX7_digest 15 = .ok (.lload_n 1, 1) := by decide +kernel
theorem dX7_digest_16 : decode cX7_digest 16 = .ok (.lmul, 1) := by decide +kernel
theorem dX7_digest_17 : decode cX7_digest 17 = .ok (.aload_n 0, 1) := by decide +kernel
theorem dX7_digest_18 : decode cX7_digest 18 = .ok (.iload_n 3, 1) := by decide +kernel
theorem dX7_digest_19 : decode cX7_digest 19 = .ok (.invokevirtual 300, 3) := by decide +kernel
theorem dX7_digest_22 : decode cX7_digest 22 = .ok (.i2l, 1) := by decide +kernel
theorem dX7_digest_23 : decode cX7_digest 23 = .ok (.ladd, 1) := by decide +kernel
theorem dX7_digest_24 : decode cX7_digest 24 = .ok (.lstore_n 1, 1) := by decide +kernel
theorem dX7_digest_25 : decode cX7_digest 25 = .ok (.iinc 3 1, 3) := by decide +kernel
theorem dX7_digest_28 : decode cX7_digest 28 = .ok (.goto (-22), 3) := by decide +kernel
theorem dX7_digest_31 : decode cX7_digest 31 = .ok (.iconst 0, 1) := by decide +kernel
theorem dX7_digest_32 : decode cX7_digest 32 = .ok (.istore_n 3, 1) := by decide +kernel
theorem dX7_digest_33 : decode cX7_digest 33 = .ok (.iload_n 3, 1) := by decide +kernel
theorem dX7_digest_34 : decode cX7_digest 34 = .ok (.aload_n 0, 1) := by decide +kernel
theorem dX7_digest_35 : decode cX7_digest 35 = .ok (.getfield 28, 3) := by decide +kernel
theorem dX7_digest_38 : decode cX7_digest 38 = .ok (.getfield 149, 3) := by decide +kernel
theorem dX7_digest_41 : decode cX7_digest 41 = .ok (.if_icmp .ge 40, 3) := by decide +kernel
theorem dX7_digest_44 : decode cX7_digest 44 = .ok (.iconst 0, 1) := by decide +kernel
theorem dX7_digest_45 : decode cX7_digest 45 = .ok (.istore 4, 2) := by decide +kernel
theorem dX7_digest_47 : decode cX7_digest 47 = .ok (.iload 4, 2) := by decide +kernel
theorem dX7_digest_49 : decode cX7_digest 49 = .ok (.bipush 7, 2) := by decide +kernel
theorem dX7_digest_51 : decode cX7_digest 51 = .ok (.if_icmp .ge 24, 3) := by decide +kernel
theorem dX7_digest_54 : decode cX7_digest 54 = .ok (.ldc2_w 308, 3) := by decide +kernel
theorem dX7_digest_57 : decode cX7_digest 57 = .ok (.lload_n 1, 1) := by decide +kernel
theorem dX7_digest_58 : decode cX7_digest 58 = .ok (.lmul, 1) := by decide +kernel
theorem dX7_digest_59 : decode cX7_digest 59 = .ok (.aload_n 0, 1) := by decide +kernel
theorem dX7_digest_60 : decode cX7_digest 60 = .ok (.iload_n 3, 1) := by decide +kernel
theorem dX7_digest_61 : decode cX7_digest 61 = .ok (.iload 4, 2) := by decide +kernel
theorem dX7_digest_63 : decode cX7_digest 63 = .ok (.invokevirtual 155, 3) := by decide +kernel
theorem dX7_digest_66 : decode cX7_digest 66 = .ok (.i2l, 1) := by decide +kernel
theorem dX7_digest_67 : decode cX7_digest 67 = .ok (.ladd, 1) := by decide +kernel
theorem dX7_digest_68 : decode cX7_digest 68 = .ok (.lstore_n 1, 1) := by decide +kernel
theorem dX7_digest_69 : decode cX7_digest 69 = .ok (.iinc 4 1, 3) := by decide +kernel
theorem dX7_digest_72 : decode cX7_digest 72 = .ok (.goto (-25), 3) := by decide +kernel
theorem dX7_digest_75 : decode cX7_digest 75 = .ok (.iinc 3 1, 3) := by decide +kernel
theorem dX7_digest_78 : decode cX7_digest 78 = .ok (.goto (-45), 3) := by decide +kernel
theorem dX7_digest_81 : decode cX7_digest 81 = .ok (.iconst 0, 1) := by decide +kernel
theorem dX7_digest_82 : decode cX7_digest 82 = .ok (.istore_n 3, 1) := by decide +kernel
theorem dX7_digest_83 : decode cX7_digest 83 = .ok (.iload_n 3, 1) := by decide +kernel
theorem dX7_digest_84 : decode cX7_digest 84 = .ok (.iconst 3, 1) := by decide +kernel
theorem dX7_digest_85 : decode cX7_digest 85 = .ok (.if_icmp .ge 26, 3) := by decide +kernel
theorem dX7_digest_88 : decode cX7_digest 88 = .ok (.ldc2_w 308, 3) := by decide +kernel
theorem dX7_digest_91 : decode cX7_digest 91 = .ok (.lload_n 1, 1) := by decide +kernel
theorem dX7_digest_92 : decode cX7_digest 92 = .ok (.lmul, 1) := by decide +kernel
theorem dX7_digest_93 : decode cX7_digest 93 = .ok (.aload_n 0, 1) := by decide +kernel
theorem dX7_digest_94 : decode cX7_digest 94 = .ok (.getfield 44, 3) := by decide +kernel
theorem dX7_digest_97 : decode cX7_digest 97 = .ok (.iload_n 3, 1) := by decide +kernel
theorem dX7_digest_98 : decode cX7_digest 98 = .ok (.aaload, 1) := by decide +kernel
theorem dX7_digest_99 : decode cX7_digest 99 = .ok (.getfield 80, 3) := by decide +kernel
theorem dX7_digest_102 : decode cX7_digest 102 = .ok (.i2l, 1) := by decide +kernel
theorem dX7_digest_103 : decode cX7_digest 103 = .ok (.ladd, 1) := by decide +kernel
theorem dX7_digest_104 : decode cX7_digest 104 = .ok (.lstore_n 1, 1) := by decide +kernel
theorem dX7_digest_105 : decode cX7_digest 105 = .ok (.iinc 3 1, 3) := by decide +kernel
theorem dX7_digest_108 : decode cX7_digest 108 = .ok (.goto (-25), 3) := by decide +kernel
theorem dX7_digest_111 : decode cX7_digest 111 = .ok (.iconst 0, 1) := by decide +kernel
theorem dX7_digest_112 : decode cX7_digest 112 = .ok (.istore_n 3, 1) := by decide +kernel
theorem dX7_digest_113 : decode cX7_digest 113 = .ok (.iload_n 3, 1) := by decide +kernel
theorem dX7_digest_114 : decode cX7_digest 114 = .ok (.bipush 6, 2) := by decide +kernel
theorem dX7_digest_116 : decode cX7_digest 116 = .ok (.if_icmp .ge 20, 3) := by decide +kernel
theorem dX7_digest_119 : decode cX7_digest 119 = .ok (.aload_n 0, 1) := by decide +kernel
theorem dX7_digest_120 : decode cX7_digest 120 = .ok (.getfield 11, 3) := by decide +kernel
theorem dX7_digest_123 : decode cX7_digest 123 = .ok (.iload_n 3, 1) := by decide +kernel
theorem dX7_digest_124 : decode cX7_digest 124 = .ok (.aaload, 1) := by decide +kernel
theorem dX7_digest_125 : decode cX7_digest 125 = .ok (.lload_n 1, 1) := by decide +kernel
theorem dX7_digest_126 : decode cX7_digest 126 = .ok (.invokevirtual 310, 3) := by decide +kernel
theorem dX7_digest_129 : decode cX7_digest 129 = .ok (.lstore_n 1, 1) := by decide +kernel
theorem dX7_digest_130 : decode cX7_digest 130 = .ok (.iinc 3 1, 3) := by decide +kernel
theorem dX7_digest_133 : decode cX7_digest 133 = .ok (.goto (-20), 3) := by decide +kernel
theorem dX7_digest_136 : decode cX7_digest 136 = .ok (.iconst 0, 1) := by decide +kernel
theorem dX7_digest_137 : decode cX7_digest 137 = .ok (.istore_n 3, 1) := by decide +kernel
theorem dX7_digest_138 : decode cX7_digest 138 = .ok (.iload_n 3, 1) := by decide +kernel
theorem dX7_digest_139 : decode cX7_digest 139 = .ok (.iconst 4, 1) := by decide +kernel
theorem dX7_digest_140 : decode cX7_digest 140 = .ok (.if_icmp .ge 20, 3) := by decide +kernel
theorem dX7_digest_143 : decode cX7_digest 143 = .ok (.aload_n 0, 1) := by decide +kernel
theorem dX7_digest_144 : decode cX7_digest 144 = .ok (.getfield 17, 3) := by decide +kernel
theorem dX7_digest_147 : decode cX7_digest 147 = .ok (.iload_n 3, 1) := by decide +kernel
theorem dX7_digest_148 : decode cX7_digest 148 = .ok (.aaload, 1) := by decide +kernel
theorem dX7_digest_149 : decode cX7_digest 149 = .ok (.lload_n 1, 1) := by decide +kernel
theorem dX7_digest_150 : decode cX7_digest 150 = .ok (.invokevirtual 314, 3) := by decide +kernel
theorem dX7_digest_153 : decode cX7_digest 153 = .ok (.lstore_n 1, 1) := by decide +kernel
theorem dX7_digest_154 : decode cX7_digest 154 = .ok (.iinc 3 1, 3) := by decide +kernel
theorem dX7_digest_157 : decode cX7_digest 157 = .ok (.goto (-19), 3) := by decide +kernel
theorem dX7_digest_160 : decode cX7_digest 160 = .ok (.lload_n 1, 1) := by decide +kernel
theorem dX7_digest_161 : decode cX7_digest 161 = .ok (.lreturn, 1) := by decide +kernel
theorem dX7_found_0 : decode cX7_found 0 = .ok (.aload_n 0, 1) := by decide +kernel
theorem dX7_found_1 : decode cX7_found 1 = .ok (.iload_n 1, 1) := by decide +kernel
theorem dX7_found_2 : decode cX7_found 2 = .ok (.putfield 303, 3) := by decide +kernel
theorem dX7_found_5 : decode cX7_found 5 = .ok (.aload_n 0, 1) := by decide +kernel
theorem dX7_found_6 : decode cX7_found 6 = .ok (.getfield 75, 3) := by decide +kernel
theorem dX7_found_9 : decode cX7_found 9 = .ok (.iload_n 1, 1) := by decide +kernel
theorem dX7_found_10 : decode cX7_found 10 = .ok (.dup2, 1) := by decide +kernel
theorem dX7_found_11 : decode cX7_found 11 = .ok (.iaload, 1) := by decide +kernel
theorem dX7_found_12 : decode cX7_found 12 = .ok (.iconst 1, 1) := by decide +kernel
theorem dX7_found_13 : decode cX7_found 13 = .ok (.iadd, 1) := by decide +kernel
theorem dX7_found_14 : decode cX7_found 14 = .ok (.iastore, 1) := by decide +kernel
theorem dX7_found_15 : decode cX7_found 15 = .ok (.bipush (-3), 2) := by decide +kernel
theorem dX7_found_17 : decode cX7_found 17 = .ok (.ireturn, 1) := by decide +kernel
theorem dX7_isRow_0 : decode cX7_isRow 0 = .ok (.iload_n 0, 1) := by decide +kernel
theorem dX7_isRow_1 : decode cX7_isRow 1 = .ok (.ifCond .lt 13, 3) := by decide +kernel
theorem dX7_isRow_4 : decode cX7_isRow 4 = .ok (.iload_n 0, 1) := by decide +kernel
theorem dX7_isRow_5 : decode cX7_isRow 5 = .ok (.bipush 6, 2) := by decide +kernel
theorem dX7_isRow_7 : decode cX7_isRow 7 = .ok (.if_icmp .ge 7, 3) := by decide +kernel
theorem dX7_isRow_10 : decode cX7_isRow 10 = .ok (.iconst 1, 1) := by decide +kernel
theorem dX7_isRow_11 : decode cX7_isRow 11 = .ok (.goto 4, 3) := by decide +kernel
theorem dX7_isRow_14 : decode cX7_isRow 14 = .ok (.iconst 0, 1) := by decide +kernel
theorem dX7_isRow_15 : decode cX7_isRow 15 = .ok (.ireturn, 1) := by decide +kernel
theorem dX7_isText_0 : decode cX7_isText 0 = .ok (.iload_n 0, 1) := by decide +kernel
theorem dX7_isText_1 : decode cX7_isText 1 = .ok (.ifCond .lt 12, 3) := by decide +kernel
theorem dX7_isText_4 : decode cX7_isText 4 = .ok (.iload_n 0, 1) := by decide +kernel
theorem dX7_isText_5 : decode cX7_isText 5 = .ok (.iconst 4, 1) := by decide +kernel
theorem dX7_isText_6 : decode cX7_isText 6 = .ok (.if_icmp .ge 7, 3) := by decide +kernel
theorem dX7_isText_9 : decode cX7_isText 9 = .ok (.iconst 1, 1) := by decide +kernel
theorem dX7_isText_10 : decode cX7_isText 10 = .ok (.goto 4, 3) := by decide +kernel
theorem dX7_isText_13 : decode cX7_isText 13 = .ok (.iconst 0, 1) := by decide +kernel
theorem dX7_isText_14 : decode cX7_isText 14 = .ok (.ireturn, 1) := by decide +kernel
theorem dX7_isDrum_0 : decode cX7_isDrum 0 = .ok (.iload_n 1, 1) := by decide +kernel
theorem dX7_isDrum_1 : decode cX7_isDrum 1 = .ok (.ifCond .lt 18, 3) := by decide +kernel
theorem dX7_isDrum_4 : decode cX7_isDrum 4 = .ok (.iload_n 1, 1) := by decide +kernel
theorem dX7_isDrum_5 : decode cX7_isDrum 5 = .ok (.aload_n 0, 1) := by decide +kernel
theorem dX7_isDrum_6 : decode cX7_isDrum 6 = .ok (.getfield 28, 3) := by decide +kernel
theorem dX7_isDrum_9 : decode cX7_isDrum 9 = .ok (.getfield 149, 3) := by decide +kernel
theorem dX7_isDrum_12 : decode cX7_isDrum 12 = .ok (.if_icmp .ge 7, 3) := by decide +kernel
theorem dX7_isDrum_15 : decode cX7_isDrum 15 = .ok (.iconst 1, 1) := by decide +kernel
theorem dX7_isDrum_16 : decode cX7_isDrum 16 = .ok (.goto 4, 3) := by decide +kernel
theorem dX7_isDrum_19 : decode cX7_isDrum 19 = .ok (.iconst 0, 1) := by decide +kernel
theorem dX7_isDrum_20 : decode cX7_isDrum 20 = .ok (.ireturn, 1) := by decide +kernel
theorem dX7_areChances_0 : decode cX7_areChances 0 = .ok (.iload_n 0, 1) := by decide +kernel
theorem dX7_areChances_1 : decode cX7_areChances 1 = .ok (.ifCond .lt 23, 3) := by decide +kernel
theorem dX7_areChances_4 : decode cX7_areChances 4 = .ok (.iload_n 0, 1) := by decide +kernel
theorem dX7_areChances_5 : decode cX7_areChances 5 = .ok (.bipush 20, 2) := by decide +kernel
theorem dX7_areChances_7 : decode cX7_areChances 7 = .ok (.if_icmp .gt 17, 3) := by decide +kernel
theorem dX7_areChances_10 : decode cX7_areChances 10 = .ok (.iload_n 1, 1) := by decide +kernel
theorem dX7_areChances_11 : decode cX7_areChances 11 = .ok (.ifCond .lt 13, 3) := by decide +kernel
theorem dX7_areChances_14 : decode cX7_areChances 14 = .ok (.iload_n 1, 1) := by decide +kernel
theorem dX7_areChances_15 : decode cX7_areChances 15 = .ok (.bipush 12, 2) := by decide +kernel
theorem dX7_areChances_17 : decode cX7_areChances 17 = .ok (.if_icmp .gt 7, 3) := by decide +kernel
theorem dX7_areChances_20 : decode cX7_areChances 20 = .ok (.iconst 1, 1) := by decide +kernel
theorem dX7_areChances_21 : decode cX7_areChances 21 = .ok (.goto 4, 3) := by decide +kernel
theorem dX7_areChances_24 : decode cX7_areChances 24 = .ok (.iconst 0, 1) := by decide +kernel
theorem dX7_areChances_25 : decode cX7_areChances 25 = .ok (.ireturn, 1) := by decide +kernel
theorem dX7_rowRefused_0 : decode cX7_rowRefused 0 = .ok (.iload_n 1, 1) := by decide +kernel
theorem dX7_rowRefused_1 : decode cX7_rowRefused 1 = .ok (.invokestatic 84, 3) := by decide +kernel
theorem dX7_rowRefused_4 : decode cX7_rowRefused 4 = .ok (.ifCond .ne 5, 3) := by decide +kernel
theorem dX7_rowRefused_7 : decode cX7_rowRefused 7 = .ok (.iconst (-1), 1) := by decide +kernel
theorem dX7_rowRefused_8 : decode cX7_rowRefused 8 = .ok (.ireturn, 1) := by decide +kernel
theorem dX7_rowRefused_9 : decode cX7_rowRefused 9 = .ok (.aload_n 0, 1) := by decide +kernel
theorem dX7_rowRefused_10 : decode cX7_rowRefused 10 = .ok (.getfield 11, 3) := by decide +kernel
theorem dX7_rowRefused_13 : decode cX7_rowRefused 13 = .ok (.iload_n 1, 1) := by decide +kernel
theorem dX7_rowRefused_14 : decode cX7_rowRefused 14 = .ok (.aaload, 1) := by decide +kernel
theorem dX7_rowRefused_15 : decode cX7_rowRefused 15 = .ok (.invokevirtual 110, 3) := by decide +kernel
theorem dX7_rowRefused_18 : decode cX7_rowRefused 18 = .ok (.ifCond .eq 11, 3) := by decide +kernel
theorem dX7_rowRefused_21 : decode cX7_rowRefused 21 = .ok (.aload_n 0, 1) := by decide +kernel
theorem dX7_rowRefused_22 : decode cX7_rowRefused 22 = .ok (.iconst 1, 1) := by decide +kernel
theorem dX7_rowRefused_23 : decode cX7_rowRefused 23 = .ok (.invokevirtual 88, 3) := by decide +kernel
theorem dX7_rowRefused_26 : decode cX7_rowRefused 26 = .ok (.goto 4, 3) := by decide +kernel
theorem dX7_rowRefused_29 : decode cX7_rowRefused 29 = .ok (.iconst 0, 1) := by decide +kernel
theorem dX7_rowRefused_30 : decode cX7_rowRefused 30 = .ok (.ireturn, 1) := by decide +kernel
theorem dX7_placeRefused_0 : decode cX7_placeRefused 0 = .ok (.aload_n 0, 1) := by decide +kernel
theorem dX7_placeRefused_1 : decode cX7_placeRefused 1 = .ok (.iload_n 1, 1) := by decide +kernel
theorem dX7_placeRefused_2 : decode cX7_placeRefused 2 = .ok (.invokevirtual 106, 3) := by decide +kernel
theorem dX7_placeRefused_5 : decode cX7_placeRefused 5 = .ok (.istore_n 3, 1) := by decide +kernel
theorem dX7_placeRefused_6 : decode cX7_placeRefused 6 = .ok (.iload_n 3, 1) := by decide +kernel
theorem dX7_placeRefused_7 : decode cX7_placeRefused 7 = .ok (.ifCond .eq 5, 3) := by decide +kernel
theorem dX7_placeRefused_10 : decode cX7_placeRefused 10 = .ok (.iload_n 3, 1) := by decide +kernel
theorem dX7_placeRefused_11 : decode cX7_placeRefused 11 = .ok (.ireturn, 1) := by decide +kernel
theorem dX7_placeRefused_12 : decode cX7_placeRefused 12 = .ok (.iload_n 2, 1) := by decide +kernel
theorem dX7_placeRefused_13 : decode cX7_placeRefused 13 = .ok (.ifCond .lt 16, 3) := by decide +kernel
theorem dX7_placeRefused_16 : decode cX7_placeRefused 16 = .ok (.iload_n 2, 1) := by decide +kernel
theorem dX7_placeRefused_17 : decode cX7_placeRefused 17 = .ok (.aload_n 0, 1) := by decide +kernel
theorem dX7_placeRefused_18 : decode cX7_placeRefused 18 = .ok (.getfield 11, 3) := by decide +kernel
theorem dX7_placeRefused_21 : decode cX7_placeRefused 21 = .ok (.iload_n 1, 1) := by decide +kernel
theorem dX7_placeRefused_22 : decode cX7_placeRefused 22 = .ok (.aaload, 1) := by decide +kernel
theorem dX7_placeRefused_23 : decode cX7_placeRefused 23 = .ok (.getfield 109, 3) := by decide +kernel
theorem dX7_placeRefused_26 : decode cX7_placeRefused 26 = .ok (.if_icmp .lt 11, 3) := by decide +kernel
theorem dX7_placeRefused_29 : decode cX7_placeRefused 29 = .ok (.aload_n 0, 1) := by decide +kernel
theorem dX7_placeRefused_30 : decode cX7_placeRefused 30 = .ok (.iconst 2, 1) := by decide +kernel
theorem dX7_placeRefused_31 : decode cX7_placeRefused 31 = .ok (.invokevirtual 88, 3) := by decide +kernel
theorem dX7_placeRefused_34 : decode cX7_placeRefused 34 = .ok (.goto 4, 3) := by decide +kernel
theorem dX7_placeRefused_37 : decode cX7_placeRefused 37 = .ok (.iconst 0, 1) := by decide +kernel
theorem dX7_placeRefused_38 : decode cX7_placeRefused 38 = .ok (.ireturn, 1) := by decide +kernel
theorem dX7_textRefused_0 : decode cX7_textRefused 0 = .ok (.iload_n 1, 1) := by decide +kernel
theorem dX7_textRefused_1 : decode cX7_textRefused 1 = .ok (.invokestatic 124, 3) := by decide +kernel
theorem dX7_textRefused_4 : decode cX7_textRefused 4 = .ok (.ifCond .ne 5, 3) := by decide +kernel
theorem dX7_textRefused_7 : decode cX7_textRefused 7 = .ok (.iconst (-1), 1) := by decide +kernel
theorem dX7_textRefused_8 : decode cX7_textRefused 8 = .ok (.ireturn, 1) := by decide +kernel
theorem dX7_textRefused_9 : decode cX7_textRefused 9 = .ok (.aload_n 0, 1) := by decide +kernel
theorem dX7_textRefused_10 : decode cX7_textRefused 10 = .ok (.getfield 17, 3) := by decide +kernel
theorem dX7_textRefused_13 : decode cX7_textRefused 13 = .ok (.iload_n 1, 1) := by decide +kernel
theorem dX7_textRefused_14 : decode cX7_textRefused 14 = .ok (.aaload, 1) := by decide +kernel
theorem dX7_textRefused_15 : decode cX7_textRefused 15 = .ok (.invokevirtual 315, 3) := by decide +kernel
theorem dX7_textRefused_18 : decode cX7_textRefused 18 = .ok (.ifCond .eq 11, 3) := by decide +kernel
theorem dX7_textRefused_21 : decode cX7_textRefused 21 = .ok (.aload_n 0, 1) := by decide +kernel
theorem dX7_textRefused_22 : decode cX7_textRefused 22 = .ok (.iconst 1, 1) := by decide +kernel
theorem dX7_textRefused_23 : decode cX7_textRefused 23 = .ok (.invokevirtual 88, 3) := by decide +kernel
theorem dX7_textRefused_26 : decode cX7_textRefused 26 = .ok (.goto 4, 3) := by decide +kernel
theorem dX7_textRefused_29 : decode cX7_textRefused 29 = .ok (.iconst 0, 1) := by decide +kernel
theorem dX7_textRefused_30 : decode cX7_textRefused 30 = .ok (.ireturn, 1) := by decide +kernel
theorem dX7_messagesRefused_0 : decode cX7_messagesRefused 0 = .ok (.aload_n 0, 1) := by decide +kernel
theorem dX7_messagesRefused_1 : decode cX7_messagesRefused 1 = .ok (.getfield 28, 3) := by decide +kernel
theorem dX7_messagesRefused_4 : decode cX7_messagesRefused 4 = .ok (.getfield 149, 3) := by decide +kernel
theorem dX7_messagesRefused_7 : decode cX7_messagesRefused 7 = .ok (.ifCond .ne 6, 3) := by decide +kernel
theorem dX7_messagesRefused_10 : decode cX7_messagesRefused 10 = .ok (.bipush (-4), 2) := by decide +kernel
theorem dX7_messagesRefused_12 : decode cX7_messagesRefused 12 = .ok (.ireturn, 1) := by decide +kernel
theorem dX7_messagesRefused_13 : decode cX7_messagesRefused 13 = .ok (.aload_n 0, 1) := by decide +kernel
theorem dX7_messagesRefused_14 : decode cX7_messagesRefused 14 = .ok (.getfield 11, 3) := by decide +kernel
theorem dX7_messagesRefused_17 : decode cX7_messagesRefused 17 = .ok (.iload_n 1, 1) := by decide +kernel
theorem dX7_messagesRefused_18 : decode cX7_messagesRefused 18 = .ok (.aaload, 1) := by decide +kernel
theorem dX7_messagesRefused_19 : decode cX7_messagesRefused 19 = .ok (.invokevirtual 110, 3) := by decide +kernel
theorem dX7_messagesRefused_22 : decode cX7_messagesRefused 22 = .ok (.ifCond .eq 9, 3) := by decide +kernel
theorem dX7_messagesRefused_25 : decode cX7_messagesRefused 25 = .ok (.aload_n 0, 1) := by decide +kernel
theorem dX7_messagesRefused_26 : decode cX7_messagesRefused 26 = .ok (.iconst 1, 1) := by decide +kernel
theorem dX7_messagesRefused_27 : decode cX7_messagesRefused 27 = .ok (.invokevirtual 88, 3) := by decide +kernel
theorem dX7_messagesRefused_30 : decode cX7_messagesRefused 30 = .ok (.ireturn, 1) := by decide +kernel
theorem dX7_messagesRefused_31 : decode cX7_messagesRefused 31 = .ok (.aload_n 0, 1) := by decide +kernel
theorem dX7_messagesRefused_32 : decode cX7_messagesRefused 32 = .ok (.getfield 11, 3) := by decide +kernel
theorem dX7_messagesRefused_35 : decode cX7_messagesRefused 35 = .ok (.iload_n 1, 1) := by decide +kernel
theorem dX7_messagesRefused_36 : decode cX7_messagesRefused 36 = .ok (.aaload, 1) := by decide +kernel
theorem dX7_messagesRefused_37 : decode cX7_messagesRefused 37 = .ok (.getfield 109, 3) := by decide +kernel
theorem dX7_messagesRefused_40 : decode cX7_messagesRefused 40 = .ok (.ifCond .eq 16, 3) := by decide +kernel
theorem dX7_messagesRefused_43 : decode cX7_messagesRefused 43 = .ok (.aload_n 0, 1) := by decide +kernel
theorem dX7_messagesRefused_44 : decode cX7_messagesRefused 44 = .ok (.getfield 11, 3) := by decide +kernel
theorem dX7_messagesRefused_47 : decode cX7_messagesRefused 47 = .ok (.iload_n 1, 1) := by decide +kernel
theorem dX7_messagesRefused_48 : decode cX7_messagesRefused 48 = .ok (.aaload, 1) := by decide +kernel
theorem dX7_messagesRefused_49 : decode cX7_messagesRefused 49 = .ok (.getfield 109, 3) := by decide +kernel
theorem dX7_messagesRefused_52 : decode cX7_messagesRefused 52 = .ok (.iconst 5, 1) := by decide +kernel
theorem dX7_messagesRefused_53 : decode cX7_messagesRefused 53 = .ok (.if_icmp .le 9, 3) := by decide +kernel
theorem dX7_messagesRefused_56 : decode cX7_messagesRefused 56 = .ok (.aload_n 0, 1) := by decide +kernel
theorem dX7_messagesRefused_57 : decode cX7_messagesRefused 57 = .ok (.iconst 5, 1) := by decide +kernel
theorem dX7_messagesRefused_58 : decode cX7_messagesRefused 58 = .ok (.invokevirtual 88, 3) := by decide +kernel
theorem dX7_messagesRefused_61 : decode cX7_messagesRefused 61 = .ok (.ireturn, 1) := by decide +kernel
theorem dX7_messagesRefused_62 : decode cX7_messagesRefused 62 = .ok (.aload_n 0, 1) := by decide +kernel
theorem dX7_messagesRefused_63 : decode cX7_messagesRefused 63 = .ok (.getfield 11, 3) := by decide +kernel
theorem dX7_messagesRefused_66 : decode cX7_messagesRefused 66 = .ok (.iload_n 1, 1) := by decide +kernel
theorem dX7_messagesRefused_67 : decode cX7_messagesRefused 67 = .ok (.aaload, 1) := by decide +kernel
theorem dX7_messagesRefused_68 : decode cX7_messagesRefused 68 = .ok (.bipush 10, 2) := by decide +kernel
theorem dX7_messagesRefused_70 : decode cX7_messagesRefused 70 = .ok (.aload_n 0, 1) := by decide +kernel
theorem dX7_messagesRefused_71 : decode cX7_messagesRefused 71 = .ok (.getfield 28, 3) := by decide +kernel
theorem dX7_messagesRefused_74 : decode cX7_messagesRefused 74 = .ok (.getfield 149, 3) := by decide +kernel
theorem dX7_messagesRefused_77 : decode cX7_messagesRefused 77 = .ok (.invokestatic 316, 3) := by decide +kernel
theorem dX7_messagesRefused_80 : decode cX7_messagesRefused 80 = .ok (.iconst 1, 1) := by decide +kernel
theorem dX7_messagesRefused_81 : decode cX7_messagesRefused 81 = .ok (.isub, 1) := by decide +kernel
theorem dX7_messagesRefused_82 : decode cX7_messagesRefused 82 = .ok (.invokevirtual 319, 3) := by decide +kernel
theorem dX7_messagesRefused_85 : decode cX7_messagesRefused 85 = .ok (.ifCond .eq 7, 3) := by decide +kernel
theorem dX7_messagesRefused_88 : decode cX7_messagesRefused 88 = .ok (.iconst 0, 1) := by decide +kernel
theorem dX7_messagesRefused_89 : decode cX7_messagesRefused 89 = .ok (.goto 8, 3) := by decide +kernel
theorem dX7_messagesRefused_92 : decode cX7_messagesRefused 92 = .ok (.aload_n 0, 1) := by decide +kernel
theorem dX7_messagesRefused_93 : decode cX7_messagesRefused 93 = .ok (.iconst 3, 1) := by decide +kernel
theorem dX7_messagesRefused_94 : decode cX7_messagesRefused 94 = .ok (.invokevirtual 88, 3) := by decide +kernel
theorem dX7_messagesRefused_97 : decode cX7_messagesRefused 97 = .ok (.ireturn, 1) := by decide +kernel
theorem dX7_showedRefused_0 : decode cX7_showedRefused 0 = .ok (.aload_n 0, 1) := by decide +kernel
theorem dX7_showedRefused_1 : decode cX7_showedRefused 1 = .ok (.iload_n 1, 1) := by decide +kernel
theorem dX7_showedRefused_2 : decode cX7_showedRefused 2 = .ok (.invokevirtual 152, 3) := by decide +kernel
theorem dX7_showedRefused_5 : decode cX7_showedRefused 5 = .ok (.ifCond .eq 10, 3) := by decide +kernel
theorem dX7_showedRefused_8 : decode cX7_showedRefused 8 = .ok (.iload_n 2, 1) := by decide +kernel
theorem dX7_showedRefused_9 : decode cX7_showedRefused 9 = .ok (.invokestatic 84, 3) := by decide +kernel
theorem dX7_showedRefused_12 : decode cX7_showedRefused 12 = .ok (.ifCond .ne 5, 3) := by decide +kernel
theorem dX7_showedRefused_15 : decode cX7_showedRefused 15 = .ok (.iconst (-1), 1) := by decide +kernel
theorem dX7_showedRefused_16 : decode cX7_showedRefused 16 = .ok (.ireturn, 1) := by decide +kernel
theorem dX7_showedRefused_17 : decode cX7_showedRefused 17 = .ok (.aload_n 0, 1) := by decide +kernel
theorem dX7_showedRefused_18 : decode cX7_showedRefused 18 = .ok (.getfield 11, 3) := by decide +kernel
theorem dX7_showedRefused_21 : decode cX7_showedRefused 21 = .ok (.iload_n 2, 1) := by decide +kernel
theorem dX7_showedRefused_22 : decode cX7_showedRefused 22 = .ok (.aaload, 1) := by decide +kernel
theorem dX7_showedRefused_23 : decode cX7_showedRefused 23 = .ok (.invokevirtual 110, 3) := by decide +kernel
theorem dX7_showedRefused_26 : decode cX7_showedRefused 26 = .ok (.ifCond .eq 9, 3) := by decide +kernel
theorem dX7_showedRefused_29 : decode cX7_showedRefused 29 = .ok (.aload_n 0, 1) := by decide +kernel
theorem dX7_showedRefused_30 : decode cX7_showedRefused 30 = .ok (.iconst 1, 1) := by decide +kernel
theorem dX7_showedRefused_31 : decode cX7_showedRefused 31 = .ok (.invokevirtual 88, 3) := by decide +kernel
theorem dX7_showedRefused_34 : decode cX7_showedRefused 34 = .ok (.ireturn, 1) := by decide +kernel
theorem dX7_showedRefused_35 : decode cX7_showedRefused 35 = .ok (.aload_n 0, 1) := by decide +kernel
theorem dX7_showedRefused_36 : decode cX7_showedRefused 36 = .ok (.getfield 11, 3) := by decide +kernel
theorem dX7_showedRefused_39 : decode cX7_showedRefused 39 = .ok (.iload_n 2, 1) := by decide +kernel
theorem dX7_showedRefused_40 : decode cX7_showedRefused 40 = .ok (.aaload, 1) := by decide +kernel
theorem dX7_showedRefused_41 : decode cX7_showedRefused 41 = .ok (.getfield 109, 3) := by decide +kernel
theorem dX7_showedRefused_44 : decode cX7_showedRefused 44 = .ok (.ifCond .eq 17, 3) := by decide +kernel
theorem dX7_showedRefused_47 : decode cX7_showedRefused 47 = .ok (.aload_n 0, 1) := by decide +kernel
theorem dX7_showedRefused_48 : decode cX7_showedRefused 48 = .ok (.getfield 11, 3) := by decide +kernel
theorem dX7_showedRefused_51 : decode cX7_showedRefused 51 = .ok (.iload_n 2, 1) := by decide +kernel
theorem dX7_showedRefused_52 : decode cX7_showedRefused 52 = .ok (.aaload, 1) := by decide +kernel
theorem dX7_showedRefused_53 : decode cX7_showedRefused 53 = .ok (.getfield 109, 3) := by decide +kernel
theorem dX7_showedRefused_56 : decode cX7_showedRefused 56 = .ok (.bipush 20, 2) := by decide +kernel
theorem dX7_showedRefused_58 : decode cX7_showedRefused 58 = .ok (.if_icmp .le 9, 3) := by decide +kernel
theorem dX7_showedRefused_61 : decode cX7_showedRefused 61 = .ok (.aload_n 0, 1) := by decide +kernel
theorem dX7_showedRefused_62 : decode cX7_showedRefused 62 = .ok (.iconst 5, 1) := by decide +kernel
theorem dX7_showedRefused_63 : decode cX7_showedRefused 63 = .ok (.invokevirtual 88, 3) := by decide +kernel
theorem dX7_showedRefused_66 : decode cX7_showedRefused 66 = .ok (.ireturn, 1) := by decide +kernel
theorem dX7_showedRefused_67 : decode cX7_showedRefused 67 = .ok (.aload_n 0, 1) := by decide +kernel
theorem dX7_showedRefused_68 : decode cX7_showedRefused 68 = .ok (.getfield 11, 3) := by decide +kernel
theorem dX7_showedRefused_71 : decode cX7_showedRefused 71 = .ok (.iload_n 2, 1) := by decide +kernel
theorem dX7_showedRefused_72 : decode cX7_showedRefused 72 = .ok (.aaload, 1) := by decide +kernel
theorem dX7_showedRefused_73 : decode cX7_showedRefused 73 = .ok (.bipush 9, 2) := by decide +kernel
theorem dX7_showedRefused_75 : decode cX7_showedRefused 75 = .ok (.invokevirtual 319, 3) := by decide +kernel
theorem dX7_showedRefused_78 : decode cX7_showedRefused 78 = .ok (.ifCond .eq 7, 3) := by decide +kernel
theorem dX7_showedRefused_81 : decode cX7_showedRefused 81 = .ok (.iconst 0, 1) := by decide +kernel
theorem dX7_showedRefused_82 : decode cX7_showedRefused 82 = .ok (.goto 8, 3) := by decide +kernel
theorem dX7_showedRefused_85 : decode cX7_showedRefused 85 = .ok (.aload_n 0, 1) := by decide +kernel
theorem dX7_showedRefused_86 : decode cX7_showedRefused 86 = .ok (.iconst 3, 1) := by decide +kernel
theorem dX7_showedRefused_87 : decode cX7_showedRefused 87 = .ok (.invokevirtual 88, 3) := by decide +kernel
theorem dX7_showedRefused_90 : decode cX7_showedRefused 90 = .ok (.ireturn, 1) := by decide +kernel
theorem dX7_drumFact_0 : decode cX7_drumFact 0 = .ok (.iload_n 2, 1) := by decide +kernel
theorem dX7_drumFact_1 : decode cX7_drumFact 1 = .ok (.tableswitch 113 0 5 #[39, 49, 59, 69, 79, 96], 39) := by decide +kernel
theorem dX7_drumFact_40 : decode cX7_drumFact 40 = .ok (.aload_n 0, 1) := by decide +kernel
theorem dX7_drumFact_41 : decode cX7_drumFact 41 = .ok (.getfield 28, 3) := by decide +kernel
theorem dX7_drumFact_44 : decode cX7_drumFact 44 = .ok (.getfield 158, 3) := by decide +kernel
theorem dX7_drumFact_47 : decode cX7_drumFact 47 = .ok (.iload_n 1, 1) := by decide +kernel
theorem dX7_drumFact_48 : decode cX7_drumFact 48 = .ok (.iaload, 1) := by decide +kernel
theorem dX7_drumFact_49 : decode cX7_drumFact 49 = .ok (.ireturn, 1) := by decide +kernel
theorem dX7_drumFact_50 : decode cX7_drumFact 50 = .ok (.aload_n 0, 1) := by decide +kernel
theorem dX7_drumFact_51 : decode cX7_drumFact 51 = .ok (.getfield 28, 3) := by decide +kernel
theorem dX7_drumFact_54 : decode cX7_drumFact 54 = .ok (.getfield 170, 3) := by decide +kernel
theorem dX7_drumFact_57 : decode cX7_drumFact 57 = .ok (.iload_n 1, 1) := by decide +kernel
theorem dX7_drumFact_58 : decode cX7_drumFact 58 = .ok (.iaload, 1) := by decide +kernel
theorem dX7_drumFact_59 : decode cX7_drumFact 59 = .ok (.ireturn, 1) := by decide +kernel
theorem dX7_drumFact_60 : decode cX7_drumFact 60 = .ok (.aload_n 0, 1) := by decide +kernel
theorem dX7_drumFact_61 : decode cX7_drumFact 61 = .ok (.getfield 28, 3) := by decide +kernel
theorem dX7_drumFact_64 : decode cX7_drumFact 64 = .ok (.getfield 173, 3) := by decide +kernel
theorem dX7_drumFact_67 : decode cX7_drumFact 67 = .ok (.iload_n 1, 1) := by decide +kernel
theorem dX7_drumFact_68 : decode cX7_drumFact 68 = .ok (.iaload, 1) := by decide +kernel
theorem dX7_drumFact_69 : decode cX7_drumFact 69 = .ok (.ireturn, 1) := by decide +kernel
theorem dX7_drumFact_70 : decode cX7_drumFact 70 = .ok (.aload_n 0, 1) := by decide +kernel
theorem dX7_drumFact_71 : decode cX7_drumFact 71 = .ok (.getfield 28, 3) := by decide +kernel
theorem dX7_drumFact_74 : decode cX7_drumFact 74 = .ok (.getfield 322, 3) := by decide +kernel
theorem dX7_drumFact_77 : decode cX7_drumFact 77 = .ok (.iload_n 1, 1) := by decide +kernel
theorem dX7_drumFact_78 : decode cX7_drumFact 78 = .ok (.iaload, 1) := by decide +kernel
theorem dX7_drumFact_79 : decode cX7_drumFact 79 = .ok (.ireturn, 1) := by decide +kernel
theorem dX7_drumFact_80 : decode cX7_drumFact 80 = .ok (.aload_n 0, 1) := by decide +kernel
theorem dX7_drumFact_81 : decode cX7_drumFact 81 = .ok (.getfield 28, 3) := by decide +kernel
theorem dX7_drumFact_84 : decode cX7_drumFact 84 = .ok (.iload_n 1, 1) := by decide +kernel
theorem dX7_drumFact_85 : decode cX7_drumFact 85 = .ok (.invokevirtual 325, 3) := by decide +kernel
theorem dX7_drumFact_88 : decode cX7_drumFact 88 = .ok (.ifCond .eq 7, 3) := by decide +kernel
theorem dX7_drumFact_91 : decode cX7_drumFact 91 = .ok (.iconst 1, 1) := by decide +kernel
theorem dX7_drumFact_92 : decode cX7_drumFact 92 = .ok (.goto 4, 3) := by decide +kernel
theorem dX7_drumFact_95 : decode cX7_drumFact 95 = .ok (.iconst 0, 1) := by decide +kernel
theorem dX7_drumFact_96 : decode cX7_drumFact 96 = .ok (.ireturn, 1) := by decide +kernel
theorem dX7_drumFact_97 : decode cX7_drumFact 97 = .ok (.aload_n 0, 1) := by decide +kernel
theorem dX7_drumFact_98 : decode cX7_drumFact 98 = .ok (.getfield 28, 3) := by decide +kernel
theorem dX7_drumFact_101 : decode cX7_drumFact 101 = .ok (.iload_n 1, 1) := by decide +kernel
theorem dX7_drumFact_102 : decode cX7_drumFact 102 = .ok (.invokevirtual 328, 3) := by decide +kernel
theorem dX7_drumFact_105 : decode cX7_drumFact 105 = .ok (.ifCond .eq 7, 3) := by decide +kernel
theorem dX7_drumFact_108 : decode cX7_drumFact 108 = .ok (.iconst 1, 1) := by decide +kernel
theorem dX7_drumFact_109 : decode cX7_drumFact 109 = .ok (.goto 4, 3) := by decide +kernel
theorem dX7_drumFact_112 : decode cX7_drumFact 112 = .ok (.iconst 0, 1) := by decide +kernel
theorem dX7_drumFact_113 : decode cX7_drumFact 113 = .ok (.ireturn, 1) := by decide +kernel
theorem dX7_drumFact_114 : decode cX7_drumFact 114 = .ok (.aload_n 0, 1) := by decide +kernel
theorem dX7_drumFact_115 : decode cX7_drumFact 115 = .ok (.getfield 28, 3) := by decide +kernel
theorem dX7_drumFact_118 : decode cX7_drumFact 118 = .ok (.iload_n 1, 1) := by decide +kernel
theorem dX7_drumFact_119 : decode cX7_drumFact 119 = .ok (.invokevirtual 181, 3) := by decide +kernel
theorem dX7_drumFact_122 : decode cX7_drumFact 122 = .ok (.ireturn, 1) := by decide +kernel
theorem dX7_countOf_0 : decode cX7_countOf 0 = .ok (.iload_n 1, 1) := by decide +kernel
theorem dX7_countOf_1 : decode cX7_countOf 1 = .ok (.tableswitch 151 0 11 #[63, 71, 79, 87, 95, 103, 111, 119, 127, 132, 137, 142], 63) := by decide +kernel
theorem dX7_countOf_64 : decode cX7_countOf 64 = .ok (.aload_n 0, 1) := by decide +kernel
theorem dX7_countOf_65 : decode cX7_countOf 65 = .ok (.getfield 28, 3) := by decide +kernel
theorem dX7_countOf_68 : decode cX7_countOf 68 = .ok (.getfield 149, 3) := by decide +kernel
theorem dX7_countOf_71 : decode cX7_countOf 71 = .ok (.ireturn, 1) := by decide +kernel
theorem dX7_countOf_72 : decode cX7_countOf 72 = .ok (.aload_n 0, 1) := by decide +kernel
theorem dX7_countOf_73 : decode cX7_countOf 73 = .ok (.getfield 28, 3) := by decide +kernel
theorem dX7_countOf_76 : decode cX7_countOf 76 = .ok (.getfield 184, 3) := by decide +kernel
theorem dX7_countOf_79 : decode cX7_countOf 79 = .ok (.ireturn, 1) := by decide +kernel
theorem dX7_countOf_80 : decode cX7_countOf 80 = .ok (.aload_n 0, 1) := by decide +kernel
theorem dX7_countOf_81 : decode cX7_countOf 81 = .ok (.getfield 40, 3) := by decide +kernel
theorem dX7_countOf_84 : decode cX7_countOf 84 = .ok (.getfield 80, 3) := by decide +kernel
theorem dX7_countOf_87 : decode cX7_countOf 87 = .ok (.ireturn, 1) := by decide +kernel
theorem dX7_countOf_88 : decode cX7_countOf 88 = .ok (.aload_n 0, 1) := by decide +kernel
theorem dX7_countOf_89 : decode cX7_countOf 89 = .ok (.getfield 28, 3) := by decide +kernel
theorem dX7_countOf_92 : decode cX7_countOf 92 = .ok (.invokevirtual 214, 3) := by decide +kernel
theorem dX7_countOf_95 : decode cX7_countOf 95 = .ok (.ireturn, 1) := by decide +kernel
theorem dX7_countOf_96 : decode cX7_countOf 96 = .ok (.aload_n 0, 1) := by decide +kernel
theorem dX7_countOf_97 : decode cX7_countOf 97 = .ok (.getfield 28, 3) := by decide +kernel
theorem dX7_countOf_100 : decode cX7_countOf 100 = .ok (.getfield 190, 3) := by decide +kernel
theorem dX7_countOf_103 : decode cX7_countOf 103 = .ok (.ireturn, 1) := by decide +kernel
theorem dX7_countOf_104 : decode cX7_countOf 104 = .ok (.aload_n 0, 1) := by decide +kernel
theorem dX7_countOf_105 : decode cX7_countOf 105 = .ok (.getfield 28, 3) := by decide +kernel
theorem dX7_countOf_108 : decode cX7_countOf 108 = .ok (.getfield 200, 3) := by decide +kernel
theorem dX7_countOf_111 : decode cX7_countOf 111 = .ok (.ireturn, 1) := by decide +kernel
theorem dX7_countOf_112 : decode cX7_countOf 112 = .ok (.aload_n 0, 1) := by decide +kernel
theorem dX7_countOf_113 : decode cX7_countOf 113 = .ok (.getfield 28, 3) := by decide +kernel
theorem dX7_countOf_116 : decode cX7_countOf 116 = .ok (.invokevirtual 331, 3) := by decide +kernel
theorem dX7_countOf_119 : decode cX7_countOf 119 = .ok (.ireturn, 1) := by decide +kernel
theorem dX7_countOf_120 : decode cX7_countOf 120 = .ok (.aload_n 0, 1) := by decide +kernel
theorem dX7_countOf_121 : decode cX7_countOf 121 = .ok (.getfield 28, 3) := by decide +kernel
theorem dX7_countOf_124 : decode cX7_countOf 124 = .ok (.getfield 197, 3) := by decide +kernel
theorem dX7_countOf_127 : decode cX7_countOf 127 = .ok (.ireturn, 1) := by decide +kernel
theorem dX7_countOf_128 : decode cX7_countOf 128 = .ok (.aload_n 0, 1) := by decide +kernel
theorem dX7_countOf_129 : decode cX7_countOf 129 = .ok (.invokevirtual 334, 3) := by decide +kernel
theorem dX7_countOf_132 : decode cX7_countOf 132 = .ok (.ireturn, 1) := by decide +kernel
theorem dX7_countOf_133 : decode cX7_countOf 133 = .ok (.aload_n 0, 1) := by decide +kernel
theorem dX7_countOf_134 : decode cX7_countOf 134 = .ok (.invokevirtual 337, 3) := by decide +kernel
theorem dX7_countOf_137 : decode cX7_countOf 137 = .ok (.ireturn, 1) := by decide +kernel
theorem dX7_countOf_138 : decode cX7_countOf 138 = .ok (.aload_n 0, 1) := by decide +kernel
theorem dX7_countOf_139 : decode cX7_countOf 139 = .ok (.invokevirtual 340, 3) := by decide +kernel
theorem dX7_countOf_142 : decode cX7_countOf 142 = .ok (.ireturn, 1) := by decide +kernel
theorem dX7_countOf_143 : decode cX7_countOf 143 = .ok (.aload_n 0, 1) := by decide +kernel
theorem dX7_countOf_144 : decode cX7_countOf 144 = .ok (.getfield 28, 3) := by decide +kernel
theorem dX7_countOf_147 : decode cX7_countOf 147 = .ok (.iconst 1, 1) := by decide +kernel
theorem dX7_countOf_148 : decode cX7_countOf 148 = .ok (.invokevirtual 343, 3) := by decide +kernel
theorem dX7_countOf_151 : decode cX7_countOf 151 = .ok (.ireturn, 1) := by decide +kernel
theorem dX7_countOf_152 : decode cX7_countOf 152 = .ok (.aload_n 0, 1) := by decide +kernel
theorem dX7_countOf_153 : decode cX7_countOf 153 = .ok (.getfield 28, 3) := by decide +kernel
theorem dX7_countOf_156 : decode cX7_countOf 156 = .ok (.iconst 2, 1) := by decide +kernel
theorem dX7_countOf_157 : decode cX7_countOf 157 = .ok (.invokevirtual 343, 3) := by decide +kernel
theorem dX7_countOf_160 : decode cX7_countOf 160 = .ok (.ireturn, 1) := by decide +kernel
theorem dX7_rowsThere_0 : decode cX7_rowsThere 0 = .ok (.iconst 0, 1) := by decide +kernel
theorem dX7_rowsThere_1 : decode cX7_rowsThere 1 = .ok (.istore_n 1, 1) := by decide +kernel
theorem dX7_rowsThere_2 : decode cX7_rowsThere 2 = .ok (.iconst 0, 1) := by decide +kernel
theorem dX7_rowsThere_3 : decode cX7_rowsThere 3 = .ok (.istore_n 2, 1) := by decide +kernel
theorem dX7_rowsThere_4 : decode cX7_rowsThere 4 = .ok (.iload_n 2, 1) := by decide +kernel
theorem dX7_rowsThere_5 : decode cX7_rowsThere 5 = .ok (.bipush 6, 2) := by decide +kernel
theorem dX7_rowsThere_7 : decode cX7_rowsThere 7 = .ok (.if_icmp .ge 29, 3) := by decide +kernel
theorem dX7_rowsThere_10 : decode cX7_rowsThere 10 = .ok (.iload_n 1, 1) := by decide +kernel
theorem dX7_rowsThere_11 : decode cX7_rowsThere 11 = .ok (.aload_n 0, 1) := by decide +kernel
theorem dX7_rowsThere_12 : decode cX7_rowsThere 12 = .ok (.getfield 11, 3) := by decide +kernel
theorem dX7_rowsThere_15 : decode cX7_rowsThere 15 = .ok (.iload_n 2, 1) := by decide +kernel
theorem dX7_rowsThere_16 : decode cX7_rowsThere 16 = .ok (.aaload, 1) := by decide +kernel
theorem dX7_rowsThere_17 : decode cX7_rowsThere 17 = .ok (.invokevirtual 110, 3) := by decide +kernel
theorem dX7_rowsThere_20 : decode cX7_rowsThere 20 = .ok (.ifCond .eq 7, 3) := by decide +kernel
theorem dX7_rowsThere_23 : decode cX7_rowsThere 23 = .ok (.iconst 0, 1) := by decide +kernel
theorem dX7_rowsThere_24 : decode cX7_rowsThere 24 = .ok (.goto 4, 3) := by decide +kernel
theorem dX7_rowsThere_27 : decode cX7_rowsThere 27 = .ok (.iconst 1, 1) := by decide +kernel
theorem dX7_rowsThere_28 : decode cX7_rowsThere 28 = .ok (.iadd, 1) := by decide +kernel
theorem dX7_rowsThere_29 : decode cX7_rowsThere 29 = .ok (.istore_n 1, 1) := by decide +kernel
theorem dX7_rowsThere_30 : decode cX7_rowsThere 30 = .ok (.iinc 2 1, 3) := by decide +kernel
theorem dX7_rowsThere_33 : decode cX7_rowsThere 33 = .ok (.goto (-29), 3) := by decide +kernel
theorem dX7_rowsThere_36 : decode cX7_rowsThere 36 = .ok (.iload_n 1, 1) := by decide +kernel
theorem dX7_rowsThere_37 : decode cX7_rowsThere 37 = .ok (.ireturn, 1) := by decide +kernel
theorem dX7_textsThere_0 : decode cX7_textsThere 0 = .ok (.iconst 0, 1) := by decide +kernel
theorem dX7_textsThere_1 : decode cX7_textsThere 1 = .ok (.istore_n 1, 1) := by decide +kernel
theorem dX7_textsThere_2 : decode cX7_textsThere 2 = .ok (.iconst 0, 1) := by decide +kernel
theorem dX7_textsThere_3 : decode cX7_textsThere 3 = .ok (.istore_n 2, 1) := by decide +kernel
theorem dX7_textsThere_4 : decode cX7_textsThere 4 = .ok (.iload_n 2, 1) := by decide +kernel
theorem dX7_textsThere_5 : decode cX7_textsThere 5 = .ok (.iconst 4, 1) := by decide +kernel
theorem dX7_textsThere_6 : decode cX7_textsThere 6 = .ok (.if_icmp .ge 29, 3) := by decide +kernel
theorem dX7_textsThere_9 : decode cX7_textsThere 9 = .ok (.iload_n 1, 1) := by decide +kernel
theorem dX7_textsThere_10 : decode cX7_textsThere 10 = .ok (.aload_n 0, 1) := by decide +kernel
theorem dX7_textsThere_11 : decode cX7_textsThere 11 = .ok (.getfield 17, 3) := by decide +kernel
theorem dX7_textsThere_14 : decode cX7_textsThere 14 = .ok (.iload_n 2, 1) := by decide +kernel
theorem dX7_textsThere_15 : decode cX7_textsThere 15 = .ok (.aaload, 1) := by decide +kernel
theorem dX7_textsThere_16 : decode cX7_textsThere 16 = .ok (.invokevirtual 315, 3) := by decide +kernel
theorem dX7_textsThere_19 : decode cX7_textsThere 19 = .ok (.ifCond .eq 7, 3) := by decide +kernel
theorem dX7_textsThere_22 : decode cX7_textsThere 22 = .ok (.iconst 0, 1) := by decide +kernel
theorem dX7_textsThere_23 : decode cX7_textsThere 23 = .ok (.goto 4, 3) := by decide +kernel
theorem dX7_textsThere_26 : decode cX7_textsThere 26 = .ok (.iconst 1, 1) := by decide +kernel
theorem dX7_textsThere_27 : decode cX7_textsThere 27 = .ok (.iadd, 1) := by decide +kernel
theorem dX7_textsThere_28 : decode cX7_textsThere 28 = .ok (.istore_n 1, 1) := by decide +kernel
theorem dX7_textsThere_29 : decode cX7_textsThere 29 = .ok (.iinc 2 1, 3) := by decide +kernel
theorem dX7_textsThere_32 : decode cX7_textsThere 32 = .ok (.goto (-28), 3) := by decide +kernel
theorem dX7_textsThere_35 : decode cX7_textsThere 35 = .ok (.iload_n 1, 1) := by decide +kernel
theorem dX7_textsThere_36 : decode cX7_textsThere 36 = .ok (.ireturn, 1) := by decide +kernel
theorem dX7_keptThere_0 : decode cX7_keptThere 0 = .ok (.iconst 0, 1) := by decide +kernel
theorem dX7_keptThere_1 : decode cX7_keptThere 1 = .ok (.istore_n 1, 1) := by decide +kernel
theorem dX7_keptThere_2 : decode cX7_keptThere 2 = .ok (.iconst 0, 1) := by decide +kernel
theorem dX7_keptThere_3 : decode cX7_keptThere 3 = .ok (.istore_n 2, 1) := by decide +kernel
theorem dX7_keptThere_4 : decode cX7_keptThere 4 = .ok (.iload_n 2, 1) := by decide +kernel
theorem dX7_keptThere_5 : decode cX7_keptThere 5 = .ok (.iconst 3, 1) := by decide +kernel
theorem dX7_keptThere_6 : decode cX7_keptThere 6 = .ok (.if_icmp .ge 30, 3) := by decide +kernel
theorem dX7_keptThere_9 : decode cX7_keptThere 9 = .ok (.iload_n 1, 1) := by decide +kernel
theorem dX7_keptThere_10 : decode cX7_keptThere 10 = .ok (.aload_n 0, 1) := by decide +kernel
theorem dX7_keptThere_11 : decode cX7_keptThere 11 = .ok (.getfield 44, 3) := by decide +kernel
theorem dX7_keptThere_14 : decode cX7_keptThere 14 = .ok (.iload_n 2, 1) := by decide +kernel
theorem dX7_keptThere_15 : decode cX7_keptThere 15 = .ok (.aaload, 1) := by decide +kernel
theorem dX7_keptThere_16 : decode cX7_keptThere 16 = .ok (.getfield 80, 3) := by decide +kernel
theorem dX7_keptThere_19 : decode cX7_keptThere 19 = .ok (.iconst (-1), 1) := by decide +kernel
theorem dX7_keptThere_20 : decode cX7_keptThere 20 = .ok (.if_icmp .ne 7, 3) := by decide +kernel
theorem dX7_keptThere_23 : decode cX7_keptThere 23 = .ok (.iconst 0, 1) := by decide +kernel
theorem dX7_keptThere_24 : decode cX7_keptThere 24 = .ok (.goto 4, 3) := by decide +kernel
theorem dX7_keptThere_27 : decode cX7_keptThere 27 = .ok (.iconst 1, 1) := by decide +kernel
theorem dX7_keptThere_28 : decode cX7_keptThere 28 = .ok (.iadd, 1) := by decide +kernel
theorem dX7_keptThere_29 : decode cX7_keptThere 29 = .ok (.istore_n 1, 1) := by decide +kernel
theorem dX7_keptThere_30 : decode cX7_keptThere 30 = .ok (.iinc 2 1, 3) := by decide +kernel
theorem dX7_keptThere_33 : decode cX7_keptThere 33 = .ok (.goto (-29), 3) := by decide +kernel
theorem dX7_keptThere_36 : decode cX7_keptThere 36 = .ok (.iload_n 1, 1) := by decide +kernel
theorem dX7_keptThere_37 : decode cX7_keptThere 37 = .ok (.ireturn, 1) := by decide +kernel
theorem dX7_dueTicks_0 : decode cX7_dueTicks 0 = .ok (.aload_n 0, 1) := by decide +kernel
theorem dX7_dueTicks_1 : decode cX7_dueTicks 1 = .ok (.getfield 31, 3) := by decide +kernel
theorem dX7_dueTicks_4 : decode cX7_dueTicks 4 = .ok (.aload_n 0, 1) := by decide +kernel
theorem dX7_dueTicks_5 : decode cX7_dueTicks 5 = .ok (.getfield 28, 3) := by decide +kernel
theorem dX7_dueTicks_8 : decode cX7_dueTicks 8 = .ok (.invokevirtual 142, 3) := by decide +kernel
theorem dX7_dueTicks_11 : decode cX7_dueTicks 11 = .ok (.aload_n 0, 1) := by decide +kernel
theorem dX7_dueTicks_12 : decode cX7_dueTicks 12 = .ok (.getfield 31, 3) := by decide +kernel
theorem dX7_dueTicks_15 : decode cX7_dueTicks 15 = .ok (.getfield 158, 3) := by decide +kernel
theorem dX7_dueTicks_18 : decode cX7_dueTicks 18 = .ok (.iload_n 1, 1) := by decide +kernel
theorem dX7_dueTicks_19 : decode cX7_dueTicks 19 = .ok (.iload_n 2, 1) := by decide +kernel
theorem dX7_dueTicks_20 : decode cX7_dueTicks 20 = .ok (.iastore, 1) := by decide +kernel
theorem dX7_dueTicks_21 : decode cX7_dueTicks 21 = .ok (.iconst 0, 1) := by decide +kernel
theorem dX7_dueTicks_22 : decode cX7_dueTicks 22 = .ok (.istore_n 3, 1) := by decide +kernel
theorem dX7_dueTicks_23 : decode cX7_dueTicks 23 = .ok (.iconst 0, 1) := by decide +kernel
theorem dX7_dueTicks_24 : decode cX7_dueTicks 24 = .ok (.istore 4, 2) := by decide +kernel
theorem dX7_dueTicks_26 : decode cX7_dueTicks 26 = .ok (.iload 4, 2) := by decide +kernel
theorem dX7_dueTicks_28 : decode cX7_dueTicks 28 = .ok (.bipush 8, 2) := by decide +kernel
theorem dX7_dueTicks_30 : decode cX7_dueTicks 30 = .ok (.if_icmp .ge 41, 3) := by decide +kernel
theorem dX7_dueTicks_33 : decode cX7_dueTicks 33 = .ok (.iload_n 3, 1) := by decide +kernel
theorem dX7_dueTicks_34 : decode cX7_dueTicks 34 = .ok (.aload_n 0, 1) := by decide +kernel
theorem dX7_dueTicks_35 : decode cX7_dueTicks 35 = .ok (.getfield 31, 3) := by decide +kernel
theorem dX7_dueTicks_38 : decode cX7_dueTicks 38 = .ok (.iload_n 1, 1) := by decide +kernel
theorem dX7_dueTicks_39 : decode cX7_dueTicks 39 = .ok (.invokevirtual 346, 3) := by decide +kernel
theorem dX7_dueTicks_42 : decode cX7_dueTicks 42 = .ok (.ifCond .eq 7, 3) := by decide +kernel
theorem dX7_dueTicks_45 : decode cX7_dueTicks 45 = .ok (.iconst 1, 1) := by decide +kernel
theorem dX7_dueTicks_46 : decode cX7_dueTicks 46 = .ok (.goto 4, 3) := by decide +kernel
theorem dX7_dueTicks_49 : decode cX7_dueTicks 49 = .ok (.iconst 0, 1) := by decide +kernel
theorem dX7_dueTicks_50 : decode cX7_dueTicks 50 = .ok (.iadd, 1) := by decide +kernel
theorem dX7_dueTicks_51 : decode cX7_dueTicks 51 = .ok (.istore_n 3, 1) := by decide +kernel
theorem dX7_dueTicks_52 : decode cX7_dueTicks 52 = .ok (.aload_n 0, 1) := by decide +kernel
theorem dX7_dueTicks_53 : decode cX7_dueTicks 53 = .ok (.getfield 31, 3) := by decide +kernel
theorem dX7_dueTicks_56 : decode cX7_dueTicks 56 = .ok (.dup, 1) := by decide +kernel
theorem dX7_dueTicks_57 : decode cX7_dueTicks 57 = .ok (.getfield 184, 3) := by decide +kernel
theorem dX7_dueTicks_60 : decode cX7_dueTicks 60 = .ok (.iconst 1, 1) := by decide +kernel
theorem dX7_dueTicks_61 : decode cX7_dueTicks 61 = .ok (.iadd, 1) := by decide +kernel
theorem dX7_dueTicks_62 : decode cX7_dueTicks 62 = .ok (.putfield 184, 3) := by decide +kernel
theorem dX7_dueTicks_65 : decode cX7_dueTicks 65 = .ok (.iinc 4 1, 3) := by decide +kernel
theorem dX7_dueTicks_68 : decode cX7_dueTicks 68 = .ok (.goto (-42), 3) := by decide +kernel
theorem dX7_dueTicks_71 : decode cX7_dueTicks 71 = .ok (.iload_n 3, 1) := by decide +kernel
theorem dX7_dueTicks_72 : decode cX7_dueTicks 72 = .ok (.ireturn, 1) := by decide +kernel
theorem dX7_figuresNeverShown_0 : decode cX7_figuresNeverShown 0 = .ok (.aload_n 0, 1) := by decide +kernel
theorem dX7_figuresNeverShown_1 : decode cX7_figuresNeverShown 1 = .ok (.getfield 31, 3) := by decide +kernel
theorem dX7_figuresNeverShown_4 : decode cX7_figuresNeverShown 4 = .ok (.aload_n 0, 1) := by decide +kernel
theorem dX7_figuresNeverShown_5 : decode cX7_figuresNeverShown 5 = .ok (.getfield 28, 3) := by decide +kernel
theorem dX7_figuresNeverShown_8 : decode cX7_figuresNeverShown 8 = .ok (.invokevirtual 142, 3) := by decide +kernel
theorem dX7_figuresNeverShown_11 : decode cX7_figuresNeverShown 11 = .ok (.aload_n 0, 1) := by decide +kernel
theorem dX7_figuresNeverShown_12 : decode cX7_figuresNeverShown 12 = .ok (.getfield 31, 3) := by decide +kernel
theorem dX7_figuresNeverShown_15 : decode cX7_figuresNeverShown 15 = .ok (.getfield 170, 3) := by decide +kernel
theorem dX7_figuresNeverShown_18 : decode cX7_figuresNeverShown 18 = .ok (.iload_n 1, 1) := by decide +kernel
theorem dX7_figuresNeverShown_19 : decode cX7_figuresNeverShown 19 = .ok (.iconst 0, 1) := by decide +kernel
theorem dX7_figuresNeverShown_20 : decode cX7_figuresNeverShown 20 = .ok (.iastore, 1) := by decide +kernel
theorem dX7_figuresNeverShown_21 : decode cX7_figuresNeverShown 21 = .ok (.iconst 1, 1) := by decide +kernel
theorem dX7_figuresNeverShown_22 : decode cX7_figuresNeverShown 22 = .ok (.istore_n 2, 1) := by decide +kernel
theorem dX7_figuresNeverShown_23 : decode cX7_figuresNeverShown 23 = .ok (.iconst 0, 1) := by decide +kernel
theorem dX7_figuresNeverShown_24 : decode cX7_figuresNeverShown 24 = .ok (.istore_n 3, 1) := by decide +kernel
theorem dX7_figuresNeverShown_25 : decode cX7_figuresNeverShown 25 = .ok (.iload_n 3, 1) := by decide +kernel
theorem dX7_figuresNeverShown_26 : decode cX7_figuresNeverShown 26 = .ok (.bipush 10, 2) := by decide +kernel
theorem dX7_figuresNeverShown_28 : decode cX7_figuresNeverShown 28 = .ok (.if_icmp .ge 40, 3) := by decide +kernel
theorem dX7_figuresNeverShown_31 : decode cX7_figuresNeverShown 31 = .ok (.aload_n 0, 1) := by decide +kernel
theorem dX7_figuresNeverShown_32 : decode cX7_figuresNeverShown 32 = .ok (.getfield 31, 3) := by decide +kernel
theorem dX7_figuresNeverShown_35 : decode cX7_figuresNeverShown 35 = .ok (.getfield 170, 3) := by decide +kernel
theorem dX7_figuresNeverShown_38 : decode cX7_figuresNeverShown 38 = .ok (.iload_n 1, 1) := by decide +kernel
theorem dX7_figuresNeverShown_39 : decode cX7_figuresNeverShown 39 = .ok (.aload_n 0, 1) := by decide +kernel
theorem dX7_figuresNeverShown_40 : decode cX7_figuresNeverShown 40 = .ok (.getfield 31, 3) := by decide +kernel
theorem dX7_figuresNeverShown_43 : decode cX7_figuresNeverShown 43 = .ok (.iload_n 1, 1) := by decide +kernel
theorem dX7_figuresNeverShown_44 : decode cX7_figuresNeverShown 44 = .ok (.invokevirtual 181, 3) := by decide +kernel
theorem dX7_figuresNeverShown_47 : decode cX7_figuresNeverShown 47 = .ok (.iastore, 1) := by decide +kernel
theorem dX7_figuresNeverShown_48 : decode cX7_figuresNeverShown 48 = .ok (.iload_n 2, 1) := by decide +kernel
theorem dX7_figuresNeverShown_49 : decode cX7_figuresNeverShown 49 = .ok (.iconst 1, 1) := by decide +kernel
theorem dX7_figuresNeverShown_50 : decode cX7_figuresNeverShown 50 = .ok (.aload_n 0, 1) := by decide +kernel
theorem dX7_figuresNeverShown_51 : decode cX7_figuresNeverShown 51 = .ok (.getfield 31, 3) := by decide +kernel
theorem dX7_figuresNeverShown_54 : decode cX7_figuresNeverShown 54 = .ok (.getfield 170, 3) := by decide +kernel
theorem dX7_figuresNeverShown_57 : decode cX7_figuresNeverShown 57 = .ok (.iload_n 1, 1) := by decide +kernel
theorem dX7_figuresNeverShown_58 : decode cX7_figuresNeverShown 58 = .ok (.iaload, 1) := by decide +kernel
theorem dX7_figuresNeverShown_59 : decode cX7_figuresNeverShown 59 = .ok (.ishl, 1) := by decide +kernel
theorem dX7_figuresNeverShown_60 : decode cX7_figuresNeverShown 60 = .ok (.ior, 1) := by decide +kernel
theorem dX7_figuresNeverShown_61 : decode cX7_figuresNeverShown 61 = .ok (.istore_n 2, 1) := by decide +kernel
theorem dX7_figuresNeverShown_62 : decode cX7_figuresNeverShown 62 = .ok (.iinc 3 1, 3) := by decide +kernel
theorem dX7_figuresNeverShown_65 : decode cX7_figuresNeverShown 65 = .ok (.goto (-40), 3) := by decide +kernel
theorem dX7_figuresNeverShown_68 : decode cX7_figuresNeverShown 68 = .ok (.bipush 10, 2) := by decide +kernel
theorem dX7_figuresNeverShown_70 : decode cX7_figuresNeverShown 70 = .ok (.iload_n 2, 1) := by decide +kernel
theorem dX7_figuresNeverShown_71 : decode cX7_figuresNeverShown 71 = .ok (.invokestatic 203, 3) := by decide +kernel
theorem dX7_figuresNeverShown_74 : decode cX7_figuresNeverShown 74 = .ok (.isub, 1) := by decide +kernel
theorem dX7_figuresNeverShown_75 : decode cX7_figuresNeverShown 75 = .ok (.ireturn, 1) := by decide +kernel
theorem dX7_isOf_0 : decode cX7_isOf 0 = .ok (.iload_n 0, 1) := by decide +kernel
theorem dX7_isOf_1 : decode cX7_isOf 1 = .ok (.iload_n 1, 1) := by decide +kernel
theorem dX7_isOf_2 : decode cX7_isOf 2 = .ok (.if_icmp .eq 27, 3) := by decide +kernel
theorem dX7_isOf_5 : decode cX7_isOf 5 = .ok (.iload_n 1, 1) := by decide +kernel
theorem dX7_isOf_6 : decode cX7_isOf 6 = .ok (.ifCond .eq 23, 3) := by decide +kernel
theorem dX7_isOf_9 : decode cX7_isOf 9 = .ok (.iload_n 0, 1) := by decide +kernel
theorem dX7_isOf_10 : decode cX7_isOf 10 = .ok (.iconst 4, 1) := by decide +kernel
theorem dX7_isOf_11 : decode cX7_isOf 11 = .ok (.if_icmp .ne 8, 3) := by decide +kernel
theorem dX7_isOf_14 : decode cX7_isOf 14 = .ok (.iload_n 1, 1) := by decide +kernel
theorem dX7_isOf_15 : decode cX7_isOf 15 = .ok (.iconst 1, 1) := by decide +kernel
theorem dX7_isOf_16 : decode cX7_isOf 16 = .ok (.if_icmp .eq 13, 3) := by decide +kernel
theorem dX7_isOf_19 : decode cX7_isOf 19 = .ok (.iload_n 0, 1) := by decide +kernel
theorem dX7_isOf_20 : decode cX7_isOf 20 = .ok (.iconst 5, 1) := by decide +kernel
theorem dX7_isOf_21 : decode cX7_isOf 21 = .ok (.if_icmp .ne 12, 3) := by decide +kernel
theorem dX7_isOf_24 : decode cX7_isOf 24 = .ok (.iload_n 1, 1) := by decide +kernel
theorem dX7_isOf_25 : decode cX7_isOf 25 = .ok (.iconst 2, 1) := by decide +kernel
theorem dX7_isOf_26 : decode cX7_isOf 26 = .ok (.if_icmp .ne 7, 3) := by decide +kernel
theorem dX7_isOf_29 : decode cX7_isOf 29 = .ok (.iconst 1, 1) := by decide +kernel
theorem dX7_isOf_30 : decode cX7_isOf 30 = .ok (.goto 4, 3) := by decide +kernel
theorem dX7_isOf_33 : decode cX7_isOf 33 = .ok (.iconst 0, 1) := by decide +kernel
theorem dX7_isOf_34 : decode cX7_isOf 34 = .ok (.ireturn, 1) := by decide +kernel
theorem dX7_carryOut_0 : decode cX7_carryOut 0 = .ok (.iload_n 1, 1) := by decide +kernel
theorem dX7_carryOut_1 : decode cX7_carryOut 1 = .ok (.iload_n 2, 1) := by decide +kernel
theorem dX7_carryOut_2 : decode cX7_carryOut 2 = .ok (.iload_n 3, 1) := by decide +kernel
theorem dX7_carryOut_3 : decode cX7_carryOut 3 = .ok (.invokestatic 349, 3) := by decide +kernel
theorem dX7_carryOut_6 : decode cX7_carryOut 6 = .ok (.istore 4, 2) := by decide +kernel
theorem dX7_carryOut_8 : decode cX7_carryOut 8 = .ok (.aload_n 0, 1) := by decide +kernel
theorem dX7_carryOut_9 : decode cX7_carryOut 9 = .ok (.getfield 40, 3) := by decide +kernel
theorem dX7_carryOut_12 : decode cX7_carryOut 12 = .ok (.iload 4, 2) := by decide +kernel
theorem dX7_carryOut_14 : decode cX7_carryOut 14 = .ok (.invokevirtual 353, 3) := by decide +kernel
theorem dX7_carryOut_17 : decode cX7_carryOut 17 = .ok (.aload_n 0, 1) := by decide +kernel
theorem dX7_carryOut_18 : decode cX7_carryOut 18 = .ok (.getfield 28, 3) := by decide +kernel
theorem dX7_carryOut_21 : decode cX7_carryOut 21 = .ok (.iload 4, 2) := by decide +kernel
theorem dX7_carryOut_23 : decode cX7_carryOut 23 = .ok (.invokevirtual 356, 3) := by decide +kernel
theorem dX7_carryOut_26 : decode cX7_carryOut 26 = .ok (.return_, 1) := by decide +kernel
theorem dX7_doAgain_0 : decode cX7_doAgain 0 = .ok (.aload_n 0, 1) := by decide +kernel
theorem dX7_doAgain_1 : decode cX7_doAgain 1 = .ok (.getfield 28, 3) := by decide +kernel
theorem dX7_doAgain_4 : decode cX7_doAgain 4 = .ok (.aload_n 0, 1) := by decide +kernel
theorem dX7_doAgain_5 : decode cX7_doAgain 5 = .ok (.getfield 24, 3) := by decide +kernel
theorem dX7_doAgain_8 : decode cX7_doAgain 8 = .ok (.invokevirtual 142, 3) := by decide +kernel
theorem dX7_doAgain_11 : decode cX7_doAgain 11 = .ok (.iconst 0, 1) := by decide +kernel
theorem dX7_doAgain_12 : decode cX7_doAgain 12 = .ok (.istore_n 2, 1) := by decide +kernel
theorem dX7_doAgain_13 : decode cX7_doAgain 13 = .ok (.iload_n 2, 1) := by decide +kernel
theorem dX7_doAgain_14 : decode cX7_doAgain 14 = .ok (.iload_n 1, 1) := by decide +kernel
theorem dX7_doAgain_15 : decode cX7_doAgain 15 = .ok (.if_icmp .ge 25, 3) := by decide +kernel
theorem dX7_doAgain_18 : decode cX7_doAgain 18 = .ok (.aload_n 0, 1) := by decide +kernel
theorem dX7_doAgain_19 : decode cX7_doAgain 19 = .ok (.getfield 28, 3) := by decide +kernel
theorem dX7_doAgain_22 : decode cX7_doAgain 22 = .ok (.aload_n 0, 1) := by decide +kernel
theorem dX7_doAgain_23 : decode cX7_doAgain 23 = .ok (.getfield 40, 3) := by decide +kernel
theorem dX7_doAgain_26 : decode cX7_doAgain 26 = .ok (.getfield 358, 3) := by decide +kernel
theorem dX7_doAgain_29 : decode cX7_doAgain 29 = .ok (.iload_n 2, 1) := by decide +kernel
theorem dX7_doAgain_30 : decode cX7_doAgain 30 = .ok (.iaload, 1) := by decide +kernel
theorem dX7_doAgain_31 : decode cX7_doAgain 31 = .ok (.invokevirtual 356, 3) := by decide +kernel
theorem dX7_doAgain_34 : decode cX7_doAgain 34 = .ok (.iinc 2 1, 3) := by decide +kernel
theorem dX7_doAgain_37 : decode cX7_doAgain 37 = .ok (.goto (-24), 3) := by decide +kernel
theorem dX7_doAgain_40 : decode cX7_doAgain 40 = .ok (.aload_n 0, 1) := by decide +kernel
theorem dX7_doAgain_41 : decode cX7_doAgain 41 = .ok (.getfield 40, 3) := by decide +kernel
theorem dX7_doAgain_44 : decode cX7_doAgain 44 = .ok (.iload_n 1, 1) := by decide +kernel
theorem dX7_doAgain_45 : decode cX7_doAgain 45 = .ok (.putfield 80, 3) := by decide +kernel
theorem dX7_doAgain_48 : decode cX7_doAgain 48 = .ok (.return_, 1) := by decide +kernel
theorem dX7_carryOutLot_0 : decode cX7_carryOutLot 0 = .ok (.aload_n 0, 1) := by decide +kernel
theorem dX7_carryOutLot_1 : decode cX7_carryOutLot 1 = .ok (.getfield 28, 3) := by decide +kernel
theorem dX7_carryOutLot_4 : decode cX7_carryOutLot 4 = .ok (.getfield 149, 3) := by decide +kernel
theorem dX7_carryOutLot_7 : decode cX7_carryOutLot 7 = .ok (.ifCond .ne 4, 3) := by decide +kernel
theorem dX7_carryOutLot_10 : decode cX7_carryOutLot 10 = .ok (.return_, 1) := by decide +kernel
theorem dX7_carryOutLot_11 : decode cX7_carryOutLot 11 = .ok (.lload_n 1, 1) := by decide +kernel
theorem dX7_carryOutLot_12 : decode cX7_carryOutLot 12 = .ok (.ldc2_w 361, 3) := by decide +kernel
theorem dX7_carryOutLot_15 : decode cX7_carryOutLot 15 = .ok (.ldiv, 1) := by decide +kernel
theorem dX7_carryOutLot_16 : decode cX7_carryOutLot 16 = .ok (.aload_n 0, 1) := by decide +kernel
theorem dX7_carryOutLot_17 : decode cX7_carryOutLot 17 = .ok (.getfield 28, 3) := by decide +kernel
theorem dX7_carryOutLot_20 : decode cX7_carryOutLot 20 = .ok (.getfield 149, 3) := by decide +kernel
theorem dX7_carryOutLot_23 : decode cX7_carryOutLot 23 = .ok (.i2l, 1) := by decide +kernel
theorem dX7_carryOutLot_24 : decode cX7_carryOutLot 24 = .ok (.lrem, 1) := by decide +kernel
theorem dX7_carryOutLot_25 : decode cX7_carryOutLot 25 = .ok (.l2i, 1) := by decide +kernel
theorem dX7_carryOutLot_26 : decode cX7_carryOutLot 26 = .ok (.istore_n 3, 1) := by decide +kernel
theorem dX7_carryOutLot_27 : decode cX7_carryOutLot 27 = .ok (.lload_n 1, 1) := by decide +kernel
theorem dX7_carryOutLot_28 : decode cX7_carryOutLot 28 = .ok (.ldc2_w 361, 3) := by decide +kernel
theorem dX7_carryOutLot_31 : decode cX7_carryOutLot 31 = .ok (.lrem, 1) := by decide +kernel
theorem dX7_carryOutLot_32 : decode cX7_carryOutLot 32 = .ok (.l2i, 1) := by decide +kernel
theorem dX7_carryOutLot_33 : decode cX7_carryOutLot 33 = .ok (.istore 4, 2) := by decide +kernel
theorem dX7_carryOutLot_35 : decode cX7_carryOutLot 35 = .ok (.iload 4, 2) := by decide +kernel
theorem dX7_carryOutLot_37 : decode cX7_carryOutLot 37 = .ok (.ifCond .ne 13, 3) := by decide +kernel
theorem dX7_carryOutLot_40 : decode cX7_carryOutLot 40 = .ok (.aload_n 0, 1) := by decide +kernel
theorem dX7_carryOutLot_41 : decode cX7_carryOutLot 41 = .ok (.iconst 3, 1) := by decide +kernel
theorem dX7_carryOutLot_42 : decode cX7_carryOutLot 42 = .ok (.iload_n 3, 1) := by decide +kernel
theorem dX7_carryOutLot_43 : decode cX7_carryOutLot 43 = .ok (.iconst 0, 1) := by decide +kernel
theorem dX7_carryOutLot_44 : decode cX7_carryOutLot 44 = .ok (.invokevirtual 193, 3) := by decide +kernel
theorem dX7_carryOutLot_47 : decode cX7_carryOutLot 47 = .ok (.goto 51, 3) := by decide +kernel
theorem dX7_carryOutLot_50 : decode cX7_carryOutLot 50 = .ok (.iload 4, 2) := by decide +kernel
theorem dX7_carryOutLot_52 : decode cX7_carryOutLot 52 = .ok (.iconst 2, 1) := by decide +kernel
theorem dX7_carryOutLot_53 : decode cX7_carryOutLot 53 = .ok (.if_icmp .gt 22, 3) := by decide +kernel
theorem dX7_carryOutLot_56 : decode cX7_carryOutLot 56 = .ok (.aload_n 0, 1) := by decide +kernel
theorem dX7_carryOutLot_57 : decode cX7_carryOutLot 57 = .ok (.iconst 1, 1) := by decide +kernel
theorem dX7_carryOutLot_58 : decode cX7_carryOutLot 58 = .ok (.iload_n 3, 1) := by decide +kernel
theorem dX7_carryOutLot_59 : decode cX7_carryOutLot 59 = .ok (.lload_n 1, 1) := by decide +kernel
theorem dX7_carryOutLot_60 : decode cX7_carryOutLot 60 = .ok (.ldc2_w 363, 3) := by decide +kernel
theorem dX7_carryOutLot_63 : decode cX7_carryOutLot 63 = .ok (.ldiv, 1) := by decide +kernel
theorem dX7_carryOutLot_64 : decode cX7_carryOutLot 64 = .ok (.ldc2_w 365, 3) := by decide +kernel
theorem dX7_carryOutLot_67 : decode cX7_carryOutLot 67 = .ok (.lrem, 1) := by decide +kernel
theorem dX7_carryOutLot_68 : decode cX7_carryOutLot 68 = .ok (.l2i, 1) := by decide +kernel
theorem dX7_carryOutLot_69 : decode cX7_carryOutLot 69 = .ok (.invokevirtual 193, 3) := by decide +kernel
theorem dX7_carryOutLot_72 : decode cX7_carryOutLot 72 = .ok (.goto 26, 3) := by decide +kernel
theorem dX7_carryOutLot_75 : decode cX7_carryOutLot 75 = .ok (.aload_n 0, 1) := by decide +kernel
theorem dX7_carryOutLot_76 : decode cX7_carryOutLot 76 = .ok (.aload_n 0, 1) := by decide +kernel
theorem dX7_carryOutLot_77 : decode cX7_carryOutLot 77 = .ok (.getfield 28, 3) := by decide +kernel
theorem dX7_carryOutLot_80 : decode cX7_carryOutLot 80 = .ok (.getfield 184, 3) := by decide +kernel
theorem dX7_carryOutLot_83 : decode cX7_carryOutLot 83 = .ok (.bipush 99, 2) := by decide +kernel
theorem dX7_carryOutLot_85 : decode cX7_carryOutLot 85 = .ok (.if_icmp .ge 7, 3) := by decide +kernel
theorem dX7_carryOutLot_88 : decode cX7_carryOutLot 88 = .ok (.iconst 0, 1) := by decide +kernel
theorem dX7_carryOutLot_89 : decode cX7_carryOutLot 89 = .ok (.goto 4, 3) := by decide +kernel
theorem dX7_carryOutLot_92 : decode cX7_carryOutLot 92 = .ok (.iconst 4, 1) := by decide +kernel
theorem dX7_carryOutLot_93 : decode cX7_carryOutLot 93 = .ok (.iconst 0, 1) := by decide +kernel
theorem dX7_carryOutLot_94 : decode cX7_carryOutLot 94 = .ok (.iconst 0, 1) := by decide +kernel
theorem dX7_carryOutLot_95 : decode cX7_carryOutLot 95 = .ok (.invokevirtual 193, 3) := by decide +kernel
theorem dX7_carryOutLot_98 : decode cX7_carryOutLot 98 = .ok (.return_, 1) := by decide +kernel
theorem dX7_isAmongNumbers_0 : decode cX7_isAmongNumbers 0 = .ok (.iconst 0, 1) := by decide +kernel
theorem dX7_isAmongNumbers_1 : decode cX7_isAmongNumbers 1 = .ok (.istore_n 3, 1) := by decide +kernel
theorem dX7_isAmongNumbers_2 : decode cX7_isAmongNumbers 2 = .ok (.iload_n 3, 1) := by decide +kernel
theorem dX7_isAmongNumbers_3 : decode cX7_isAmongNumbers 3 = .ok (.iload_n 2, 1) := by decide +kernel
theorem dX7_isAmongNumbers_4 : decode cX7_isAmongNumbers 4 = .ok (.if_icmp .ge 21, 3) := by decide +kernel
theorem dX7_isAmongNumbers_7 : decode cX7_isAmongNumbers 7 = .ok (.aload_n 0, 1) := by decide +kernel
theorem dX7_isAmongNumbers_8 : decode cX7_isAmongNumbers 8 = .ok (.getfield 55, 3) := by decide +kernel
theorem dX7_isAmongNumbers_11 : decode cX7_isAmongNumbers 11 = .ok (.iload_n 3, 1) := by decide +kernel
theorem dX7_isAmongNumbers_12 : decode cX7_isAmongNumbers 12 = .ok (.iaload, 1) := by decide +kernel
theorem dX7_isAmongNumbers_13 : decode cX7_isAmongNumbers 13 = .ok (.iload_n 1, 1) := by decide +kernel
theorem dX7_isAmongNumbers_14 : decode cX7_isAmongNumbers 14 = .ok (.if_icmp .ne 5, 3) := by decide +kernel
theorem dX7_isAmongNumbers_17 : decode cX7_isAmongNumbers 17 = .ok (.iconst 1, 1) := by decide +kernel
theorem dX7_isAmongNumbers_18 : decode cX7_isAmongNumbers 18 = .ok (.ireturn, 1) := by decide +kernel
theorem dX7_isAmongNumbers_19 : decode cX7_isAmongNumbers 19 = .ok (.iinc 3 1, 3) := by decide +kernel
theorem dX7_isAmongNumbers_22 : decode cX7_isAmongNumbers 22 = .ok (.goto (-20), 3) := by decide +kernel
theorem dX7_isAmongNumbers_25 : decode cX7_isAmongNumbers 25 = .ok (.iconst 0, 1) := by decide +kernel
theorem dX7_isAmongNumbers_26 : decode cX7_isAmongNumbers 26 = .ok (.ireturn, 1) := by decide +kernel
theorem dX7_ticksByPower_0 : decode cX7_ticksByPower 0 = .ok (.aload_n 0, 1) := by decide +kernel
theorem dX7_ticksByPower_1 : decode cX7_ticksByPower 1 = .ok (.getfield 31, 3) := by decide +kernel
theorem dX7_ticksByPower_4 : decode cX7_ticksByPower 4 = .ok (.aload_n 0, 1) := by decide +kernel
theorem dX7_ticksByPower_5 : decode cX7_ticksByPower 5 = .ok (.getfield 28, 3) := by decide +kernel
theorem dX7_ticksByPower_8 : decode cX7_ticksByPower 8 = .ok (.invokevirtual 142, 3) := by decide +kernel
theorem dX7_ticksByPower_11 : decode cX7_ticksByPower 11 = .ok (.aload_n 0, 1) := by decide +kernel
theorem dX7_ticksByPower_12 : decode cX7_ticksByPower 12 = .ok (.getfield 31, 3) := by decide +kernel
theorem dX7_ticksByPower_15 : decode cX7_ticksByPower 15 = .ok (.iload_n 1, 1) := by decide +kernel
theorem dX7_ticksByPower_16 : decode cX7_ticksByPower 16 = .ok (.putfield 197, 3) := by decide +kernel
theorem dX7_ticksByPower_19 : decode cX7_ticksByPower 19 = .ok (.aload_n 0, 1) := by decide +kernel
theorem dX7_ticksByPower_20 : decode cX7_ticksByPower 20 = .ok (.getfield 31, 3) := by decide +kernel
theorem dX7_ticksByPower_23 : decode cX7_ticksByPower 23 = .ok (.bipush 60, 2) := by decide +kernel
theorem dX7_ticksByPower_25 : decode cX7_ticksByPower 25 = .ok (.invokevirtual 218, 3) := by decide +kernel
theorem dX7_ticksByPower_28 : decode cX7_ticksByPower 28 = .ok (.ireturn, 1) := by decide +kernel
theorem dX7_wouldHaveShown_0 : decode cX7_wouldHaveShown 0 = .ok (.aload_n 0, 1) := by decide +kernel
theorem dX7_wouldHaveShown_1 : decode cX7_wouldHaveShown 1 = .ok (.getfield 31, 3) := by decide +kernel
theorem dX7_wouldHaveShown_4 : decode cX7_wouldHaveShown 4 = .ok (.aload_n 0, 1) := by decide +kernel
theorem dX7_wouldHaveShown_5 : decode cX7_wouldHaveShown 5 = .ok (.getfield 28, 3) := by decide +kernel
theorem dX7_wouldHaveShown_8 : decode cX7_wouldHaveShown 8 = .ok (.invokevirtual 142, 3) := by decide +kernel
theorem dX7_wouldHaveShown_11 : decode cX7_wouldHaveShown 11 = .ok (.aload_n 0, 1) := by decide +kernel
theorem dX7_wouldHaveShown_12 : decode cX7_wouldHaveShown 12 = .ok (.getfield 31, 3) := by decide +kernel
theorem dX7_wouldHaveShown_15 : decode cX7_wouldHaveShown 15 = .ok (.getfield 158, 3) := by decide +kernel
theorem dX7_wouldHaveShown_18 : decode cX7_wouldHaveShown 18 = .ok (.iload_n 1, 1) := by decide +kernel
theorem dX7_wouldHaveShown_19 : decode cX7_wouldHaveShown 19 = .ok (.iload_n 2, 1) := by decide +kernel
theorem dX7_wouldHaveShown_20 : decode cX7_wouldHaveShown 20 = .ok (.iastore, 1) := by decide +kernel
theorem dX7_wouldHaveShown_21 : decode cX7_wouldHaveShown 21 = .ok (.aload_n 0, 1) := by decide +kernel
theorem dX7_wouldHaveShown_22 : decode cX7_wouldHaveShown 22 = .ok (.getfield 31, 3) := by decide +kernel
theorem dX7_wouldHaveShown_25 : decode cX7_wouldHaveShown 25 = .ok (.getfield 322, 3) := by decide +kernel
theorem dX7_wouldHaveShown_28 : decode cX7_wouldHaveShown 28 = .ok (.iload_n 1, 1) := by decide +kernel
theorem dX7_wouldHaveShown_29 : decode cX7_wouldHaveShown 29 = .ok (.iload_n 3, 1) := by decide +kernel
theorem dX7_wouldHaveShown_30 : decode cX7_wouldHaveShown 30 = .ok (.iastore, 1) := by decide +kernel
theorem dX7_wouldHaveShown_31 : decode cX7_wouldHaveShown 31 = .ok (.iconst 0, 1) := by decide +kernel
theorem dX7_wouldHaveShown_32 : decode cX7_wouldHaveShown 32 = .ok (.istore 5, 2) := by decide +kernel
theorem dX7_wouldHaveShown_34 : decode cX7_wouldHaveShown 34 = .ok (.iload 5, 2) := by decide +kernel
theorem dX7_wouldHaveShown_36 : decode cX7_wouldHaveShown 36 = .ok (.aload 4, 2) := by decide +kernel
theorem dX7_wouldHaveShown_38 : decode cX7_wouldHaveShown 38 = .ok (.getfield 109, 3) := by decide +kernel
theorem dX7_wouldHaveShown_41 : decode cX7_wouldHaveShown 41 = .ok (.if_icmp .ge 38, 3) := by decide +kernel
theorem dX7_wouldHaveShown_44 : decode cX7_wouldHaveShown 44 = .ok (.aload_n 0, 1) := by decide +kernel
theorem dX7_wouldHaveShown_45 : decode cX7_wouldHaveShown 45 = .ok (.getfield 31, 3) := by decide +kernel
theorem dX7_wouldHaveShown_48 : decode cX7_wouldHaveShown 48 = .ok (.invokevirtual 224, 3) := by decide +kernel
theorem dX7_wouldHaveShown_51 : decode cX7_wouldHaveShown 51 = .ok (.aload_n 0, 1) := by decide +kernel
theorem dX7_wouldHaveShown_52 : decode cX7_wouldHaveShown 52 = .ok (.getfield 31, 3) := by decide +kernel
theorem dX7_wouldHaveShown_55 : decode cX7_wouldHaveShown 55 = .ok (.getfield 170, 3) := by decide +kernel
theorem dX7_wouldHaveShown_58 : decode cX7_wouldHaveShown 58 = .ok (.iload_n 1, 1) := by decide +kernel
theorem dX7_wouldHaveShown_59 : decode cX7_wouldHaveShown 59 = .ok (.iaload, 1) := by decide +kernel
theorem dX7_wouldHaveShown_60 : decode cX7_wouldHaveShown 60 = .ok (.aload 4, 2) := by decide +kernel
theorem dX7_wouldHaveShown_62 : decode cX7_wouldHaveShown 62 = .ok (.getfield 100, 3) := by decide +kernel
theorem dX7_wouldHaveShown_65 : decode cX7_wouldHaveShown 65 = .ok (.iload 5, 2) := by decide +kernel
theorem dX7_wouldHaveShown_67 : decode cX7_wouldHaveShown 67 = .ok (.iaload, 1) := by decide +kernel
theorem dX7_wouldHaveShown_68 : decode cX7_wouldHaveShown 68 = .ok (.if_icmp .eq 5, 3) := by decide +kernel
theorem dX7_wouldHaveShown_71 : decode cX7_wouldHaveShown 71 = .ok (.iconst 0, 1) := by decide +kernel
theorem dX7_wouldHaveShown_72 : decode cX7_wouldHaveShown 72 = .ok (.ireturn, 1) := by decide +kernel
theorem dX7_wouldHaveShown_73 : decode cX7_wouldHaveShown 73 = .ok (.iinc 5 1, 3) := by decide +kernel
theorem dX7_wouldHaveShown_76 : decode cX7_wouldHaveShown 76 = .ok (.goto (-42), 3) := by decide +kernel
theorem dX7_wouldHaveShown_79 : decode cX7_wouldHaveShown 79 = .ok (.iconst 1, 1) := by decide +kernel
theorem dX7_wouldHaveShown_80 : decode cX7_wouldHaveShown 80 = .ok (.ireturn, 1) := by decide +kernel
theorem dX7_kindsThatShowed_0 : decode cX7_kindsThatShowed 0 = .ok (.iconst 0, 1) := by decide +kernel
theorem dX7_kindsThatShowed_1 : decode cX7_kindsThatShowed 1 = .ok (.istore_n 3, 1) := by decide +kernel
theorem dX7_kindsThatShowed_2 : decode cX7_kindsThatShowed 2 = .ok (.iconst 0, 1) := by decide +kernel
theorem dX7_kindsThatShowed_3 : decode cX7_kindsThatShowed 3 = .ok (.istore 4, 2) := by decide +kernel
theorem dX7_kindsThatShowed_5 : decode cX7_kindsThatShowed 5 = .ok (.iload 4, 2) := by decide +kernel
theorem dX7_kindsThatShowed_7 : decode cX7_kindsThatShowed 7 = .ok (.bipush 6, 2) := by decide +kernel
theorem dX7_kindsThatShowed_9 : decode cX7_kindsThatShowed 9 = .ok (.if_icmp .ge 36, 3) := by decide +kernel
theorem dX7_kindsThatShowed_12 : decode cX7_kindsThatShowed 12 = .ok (.aload_n 0, 1) := by decide +kernel
theorem dX7_kindsThatShowed_13 : decode cX7_kindsThatShowed 13 = .ok (.iload_n 1, 1) := by decide +kernel
theorem dX7_kindsThatShowed_14 : decode cX7_kindsThatShowed 14 = .ok (.iload 4, 2) := by decide +kernel
theorem dX7_kindsThatShowed_16 : decode cX7_kindsThatShowed 16 = .ok (.aload_n 0, 1) := by decide +kernel
theorem dX7_kindsThatShowed_17 : decode cX7_kindsThatShowed 17 = .ok (.getfield 28, 3) := by decide +kernel
theorem dX7_kindsThatShowed_20 : decode cX7_kindsThatShowed 20 = .ok (.getfield 322, 3) := by decide +kernel
theorem dX7_kindsThatShowed_23 : decode cX7_kindsThatShowed 23 = .ok (.iload_n 1, 1) := by decide +kernel
theorem dX7_kindsThatShowed_24 : decode cX7_kindsThatShowed 24 = .ok (.iaload, 1) := by decide +kernel
theorem dX7_kindsThatShowed_25 : decode cX7_kindsThatShowed 25 = .ok (.aload_n 2, 1) := by decide +kernel
theorem dX7_kindsThatShowed_26 : decode cX7_kindsThatShowed 26 = .ok (.invokevirtual 256, 3) := by decide +kernel
theorem dX7_kindsThatShowed_29 : decode cX7_kindsThatShowed 29 = .ok (.ifCond .eq 10, 3) := by decide +kernel
theorem dX7_kindsThatShowed_32 : decode cX7_kindsThatShowed 32 = .ok (.iload_n 3, 1) := by decide +kernel
theorem dX7_kindsThatShowed_33 : decode cX7_kindsThatShowed 33 = .ok (.iconst 1, 1) := by decide +kernel
theorem dX7_kindsThatShowed_34 : decode cX7_kindsThatShowed 34 = .ok (.iload 4, 2) := by decide +kernel
theorem dX7_kindsThatShowed_36 : decode cX7_kindsThatShowed 36 = .ok (.ishl, 1) := by decide +kernel
theorem dX7_kindsThatShowed_37 : decode cX7_kindsThatShowed 37 = .ok (.ior, 1) := by decide +kernel
theorem dX7_kindsThatShowed_38 : decode cX7_kindsThatShowed 38 = .ok (.istore_n 3, 1) := by decide +kernel
theorem dX7_kindsThatShowed_39 : decode cX7_kindsThatShowed 39 = .ok (.iinc 4 1, 3) := by decide +kernel
theorem dX7_kindsThatShowed_42 : decode cX7_kindsThatShowed 42 = .ok (.goto (-37), 3) := by decide +kernel
theorem dX7_kindsThatShowed_45 : decode cX7_kindsThatShowed 45 = .ok (.iload_n 3, 1) := by decide +kernel
theorem dX7_kindsThatShowed_46 : decode cX7_kindsThatShowed 46 = .ok (.ireturn, 1) := by decide +kernel
theorem dX7_lookAhead_0 : decode cX7_lookAhead 0 = .ok (.iconst 0, 1) := by decide +kernel
theorem dX7_lookAhead_1 : decode cX7_lookAhead 1 = .ok (.istore_n 3, 1) := by decide +kernel
theorem dX7_lookAhead_2 : decode cX7_lookAhead 2 = .ok (.iload_n 3, 1) := by decide +kernel
theorem dX7_lookAhead_3 : decode cX7_lookAhead 3 = .ok (.bipush 6, 2) := by decide +kernel
theorem dX7_lookAhead_5 : decode cX7_lookAhead 5 = .ok (.if_icmp .ge 79, 3) := by decide +kernel
theorem dX7_lookAhead_8 : decode cX7_lookAhead 8 = .ok (.iload_n 2, 1) := by decide +kernel
theorem dX7_lookAhead_9 : decode cX7_lookAhead 9 = .ok (.iload_n 3, 1) := by decide +kernel
theorem dX7_lookAhead_10 : decode cX7_lookAhead 10 = .ok (.ishr, 1) := by decide +kernel
theorem dX7_lookAhead_11 : decode cX7_lookAhead 11 = .ok (.iconst 1, 1) := by decide +kernel
theorem dX7_lookAhead_12 : decode cX7_lookAhead 12 = .ok (.iand, 1) := by decide +kernel
theorem dX7_lookAhead_13 : decode cX7_lookAhead 13 = .ok (.ifCond .eq 65, 3) := by decide +kernel
theorem dX7_lookAhead_16 : decode cX7_lookAhead 16 = .ok (.aload_n 0, 1) := by decide +kernel
theorem dX7_lookAhead_17 : decode cX7_lookAhead 17 = .ok (.getfield 31, 3) := by decide +kernel
theorem dX7_lookAhead_20 : decode cX7_lookAhead 20 = .ok (.aload_n 0, 1) := by decide +kernel
theorem dX7_lookAhead_21 : decode cX7_lookAhead 21 = .ok (.getfield 28, 3) := by decide +kernel
theorem dX7_lookAhead_24 : decode cX7_lookAhead 24 = .ok (.invokevirtual 142, 3) := by decide +kernel
theorem dX7_lookAhead_27 : decode cX7_lookAhead 27 = .ok (.aload_n 0, 1) := by decide +kernel
theorem dX7_lookAhead_28 : decode cX7_lookAhead 28 = .ok (.getfield 31, 3) := by decide +kernel
theorem dX7_lookAhead_31 : decode cX7_lookAhead 31 = .ok (.getfield 158, 3) := by decide +kernel
theorem dX7_lookAhead_34 : decode cX7_lookAhead 34 = .ok (.iload_n 1, 1) := by decide +kernel
theorem dX7_lookAhead_35 : decode cX7_lookAhead 35 = .ok (.iload_n 3, 1) := by decide +kernel
theorem dX7_lookAhead_36 : decode cX7_lookAhead 36 = .ok (.iastore, 1) := by decide +kernel
theorem dX7_lookAhead_37 : decode cX7_lookAhead 37 = .ok (.iconst 1, 1) := by decide +kernel
theorem dX7_lookAhead_38 : decode cX7_lookAhead 38 = .ok (.istore 4, 2) := by decide +kernel
theorem dX7_lookAhead_40 : decode cX7_lookAhead 40 = .ok (.iload 4, 2) := by decide +kernel
theorem dX7_lookAhead_42 : decode cX7_lookAhead 42 = .ok (.bipush 20, 2) := by decide +kernel
theorem dX7_lookAhead_44 : decode cX7_lookAhead 44 = .ok (.if_icmp .gt 34, 3) := by decide +kernel
theorem dX7_lookAhead_47 : decode cX7_lookAhead 47 = .ok (.aload_n 0, 1) := by decide +kernel
theorem dX7_lookAhead_48 : decode cX7_lookAhead 48 = .ok (.getfield 31, 3) := by decide +kernel
theorem dX7_lookAhead_51 : decode cX7_lookAhead 51 = .ok (.invokevirtual 224, 3) := by decide +kernel
theorem dX7_lookAhead_54 : decode cX7_lookAhead 54 = .ok (.aload_n 0, 1) := by decide +kernel
theorem dX7_lookAhead_55 : decode cX7_lookAhead 55 = .ok (.getfield 61, 3) := by decide +kernel
theorem dX7_lookAhead_58 : decode cX7_lookAhead 58 = .ok (.iload_n 3, 1) := by decide +kernel
theorem dX7_lookAhead_59 : decode cX7_lookAhead 59 = .ok (.aaload, 1) := by decide +kernel
theorem dX7_lookAhead_60 : decode cX7_lookAhead 60 = .ok (.iload 4, 2) := by decide +kernel
theorem dX7_lookAhead_62 : decode cX7_lookAhead 62 = .ok (.aload_n 0, 1) := by decide +kernel
theorem dX7_lookAhead_63 : decode cX7_lookAhead 63 = .ok (.getfield 31, 3) := by decide +kernel
theorem dX7_lookAhead_66 : decode cX7_lookAhead 66 = .ok (.getfield 170, 3) := by decide +kernel
theorem dX7_lookAhead_69 : decode cX7_lookAhead 69 = .ok (.iload_n 1, 1) := by decide +kernel
theorem dX7_lookAhead_70 : decode cX7_lookAhead 70 = .ok (.iaload, 1) := by decide +kernel
theorem dX7_lookAhead_71 : decode cX7_lookAhead 71 = .ok (.iastore, 1) := by decide +kernel
theorem dX7_lookAhead_72 : decode cX7_lookAhead 72 = .ok (.iinc 4 1, 3) := by decide +kernel
theorem dX7_lookAhead_75 : decode cX7_lookAhead 75 = .ok (.goto (-35), 3) := by decide +kernel
theorem dX7_lookAhead_78 : decode cX7_lookAhead 78 = .ok (.iinc 3 1, 3) := by decide +kernel
theorem dX7_lookAhead_81 : decode cX7_lookAhead 81 = .ok (.goto (-79), 3) := by decide +kernel
theorem dX7_lookAhead_84 : decode cX7_lookAhead 84 = .ok (.return_, 1) := by decide +kernel
theorem dX7_greatestPart_0 : decode cX7_greatestPart 0 = .ok (.iconst 0, 1) := by decide +kernel
theorem dX7_greatestPart_1 : decode cX7_greatestPart 1 = .ok (.istore_n 3, 1) := by decide +kernel
theorem dX7_greatestPart_2 : decode cX7_greatestPart 2 = .ok (.iconst 0, 1) := by decide +kernel
theorem dX7_greatestPart_3 : decode cX7_greatestPart 3 = .ok (.istore 4, 2) := by decide +kernel
theorem dX7_greatestPart_5 : decode cX7_greatestPart 5 = .ok (.iload 4, 2) := by decide +kernel
theorem dX7_greatestPart_7 : decode cX7_greatestPart 7 = .ok (.bipush 10, 2) := by decide +kernel
theorem dX7_greatestPart_9 : decode cX7_greatestPart 9 = .ok (.if_icmp .ge 68, 3) := by decide +kernel
theorem dX7_greatestPart_12 : decode cX7_greatestPart 12 = .ok (.iconst 0, 1) := by decide +kernel
theorem dX7_greatestPart_13 : decode cX7_greatestPart 13 = .ok (.istore 5, 2) := by decide +kernel
theorem dX7_greatestPart_15 : decode cX7_greatestPart 15 = .ok (.iconst 0, 1) := by decide +kernel
theorem dX7_greatestPart_16 : decode cX7_greatestPart 16 = .ok (.istore 6, 2) := by decide +kernel
theorem dX7_greatestPart_18 : decode cX7_greatestPart 18 = .ok (.iload 6, 2) := by decide +kernel
theorem dX7_greatestPart_20 : decode cX7_greatestPart 20 = .ok (.bipush 6, 2) := by decide +kernel
theorem dX7_greatestPart_22 : decode cX7_greatestPart 22 = .ok (.if_icmp .ge 42, 3) := by decide +kernel
theorem dX7_greatestPart_25 : decode cX7_greatestPart 25 = .ok (.iload 5, 2) := by decide +kernel
theorem dX7_greatestPart_27 : decode cX7_greatestPart 27 = .ok (.iload_n 1, 1) := by decide +kernel
theorem dX7_greatestPart_28 : decode cX7_greatestPart 28 = .ok (.iload 6, 2) := by decide +kernel
theorem dX7_greatestPart_30 : decode cX7_greatestPart 30 = .ok (.ishr, 1) := by decide +kernel
theorem dX7_greatestPart_31 : decode cX7_greatestPart 31 = .ok (.iconst 1, 1) := by decide +kernel
theorem dX7_greatestPart_32 : decode cX7_greatestPart 32 = .ok (.iand, 1) := by decide +kernel
theorem dX7_greatestPart_33 : decode cX7_greatestPart 33 = .ok (.ifCond .eq 21, 3) := by decide +kernel
theorem dX7_greatestPart_36 : decode cX7_greatestPart 36 = .ok (.aload_n 0, 1) := by decide +kernel
theorem dX7_greatestPart_37 : decode cX7_greatestPart 37 = .ok (.getfield 61, 3) := by decide +kernel
theorem dX7_greatestPart_40 : decode cX7_greatestPart 40 = .ok (.iload 6, 2) := by decide +kernel
theorem dX7_greatestPart_42 : decode cX7_greatestPart 42 = .ok (.aaload, 1) := by decide +kernel
theorem dX7_greatestPart_43 : decode cX7_greatestPart 43 = .ok (.iload_n 2, 1) := by decide +kernel
theorem dX7_greatestPart_44 : decode cX7_greatestPart 44 = .ok (.iaload, 1) := by decide +kernel
theorem dX7_greatestPart_45 : decode cX7_greatestPart 45 = .ok (.iload 4, 2) := by decide +kernel
theorem dX7_greatestPart_47 : decode cX7_greatestPart 47 = .ok (.if_icmp .ne 7, 3) := by decide +kernel
theorem dX7_greatestPart_50 : decode cX7_greatestPart 50 = .ok (.iconst 1, 1) := by decide +kernel
theorem dX7_greatestPart_51 : decode cX7_greatestPart 51 = .ok (.goto 4, 3) := by decide +kernel
theorem dX7_greatestPart_54 : decode cX7_greatestPart 54 = .ok (.iconst 0, 1) := by decide +kernel
theorem dX7_greatestPart_55 : decode cX7_greatestPart 55 = .ok (.iadd, 1) := by decide +kernel
theorem dX7_greatestPart_56 : decode cX7_greatestPart 56 = .ok (.istore 5, 2) := by decide +kernel
theorem dX7_greatestPart_58 : decode cX7_greatestPart 58 = .ok (.iinc 6 1, 3) := by decide +kernel
theorem dX7_greatestPart_61 : decode cX7_greatestPart 61 = .ok (.goto (-43), 3) := by decide +kernel
theorem dX7_greatestPart_64 : decode cX7_greatestPart 64 = .ok (.iload_n 3, 1) := by decide +kernel
theorem dX7_greatestPart_65 : decode cX7_greatestPart 65 = .ok (.iload 5, 2) := by decide +kernel
theorem dX7_greatestPart_67 : decode cX7_greatestPart 67 = .ok (.invokestatic 227, 3) := by decide +kernel
theorem dX7_greatestPart_70 : decode cX7_greatestPart 70 = .ok (.istore_n 3, 1) := by decide +kernel
theorem dX7_greatestPart_71 : decode cX7_greatestPart 71 = .ok (.iinc 4 1, 3) := by decide +kernel
theorem dX7_greatestPart_74 : decode cX7_greatestPart 74 = .ok (.goto (-69), 3) := by decide +kernel
theorem dX7_greatestPart_77 : decode cX7_greatestPart 77 = .ok (.iload_n 3, 1) := by decide +kernel
theorem dX7_greatestPart_78 : decode cX7_greatestPart 78 = .ok (.ireturn, 1) := by decide +kernel
theorem dX7_latestByAiming_0 : decode cX7_latestByAiming 0 = .ok (.iconst (-1), 1) := by decide +kernel
theorem dX7_latestByAiming_1 : decode cX7_latestByAiming 1 = .ok (.istore_n 2, 1) := by decide +kernel
theorem dX7_latestByAiming_2 : decode cX7_latestByAiming 2 = .ok (.iconst 0, 1) := by decide +kernel
theorem dX7_latestByAiming_3 : decode cX7_latestByAiming 3 = .ok (.istore_n 3, 1) := by decide +kernel
theorem dX7_latestByAiming_4 : decode cX7_latestByAiming 4 = .ok (.iload_n 3, 1) := by decide +kernel
theorem dX7_latestByAiming_5 : decode cX7_latestByAiming 5 = .ok (.aload_n 0, 1) := by decide +kernel
theorem dX7_latestByAiming_6 : decode cX7_latestByAiming 6 = .ok (.getfield 28, 3) := by decide +kernel
theorem dX7_latestByAiming_9 : decode cX7_latestByAiming 9 = .ok (.getfield 149, 3) := by decide +kernel
theorem dX7_latestByAiming_12 : decode cX7_latestByAiming 12 = .ok (.if_icmp .ge 83, 3) := by decide +kernel
theorem dX7_latestByAiming_15 : decode cX7_latestByAiming 15 = .ok (.iconst 0, 1) := by decide +kernel
theorem dX7_latestByAiming_16 : decode cX7_latestByAiming 16 = .ok (.istore 4, 2) := by decide +kernel
theorem dX7_latestByAiming_18 : decode cX7_latestByAiming 18 = .ok (.iload 4, 2) := by decide +kernel
theorem dX7_latestByAiming_20 : decode cX7_latestByAiming 20 = .ok (.bipush 10, 2) := by decide +kernel
theorem dX7_latestByAiming_22 : decode cX7_latestByAiming 22 = .ok (.if_icmp .ge 67, 3) := by decide +kernel
theorem dX7_latestByAiming_25 : decode cX7_latestByAiming 25 = .ok (.iload_n 2, 1) := by decide +kernel
theorem dX7_latestByAiming_26 : decode cX7_latestByAiming 26 = .ok (.bipush 60, 2) := by decide +kernel
theorem dX7_latestByAiming_28 : decode cX7_latestByAiming 28 = .ok (.if_icmp .gt 61, 3) := by decide +kernel
theorem dX7_latestByAiming_31 : decode cX7_latestByAiming 31 = .ok (.aload_n 0, 1) := by decide +kernel
theorem dX7_latestByAiming_32 : decode cX7_latestByAiming 32 = .ok (.getfield 34, 3) := by decide +kernel
theorem dX7_latestByAiming_35 : decode cX7_latestByAiming 35 = .ok (.aload_n 0, 1) := by decide +kernel
theorem dX7_latestByAiming_36 : decode cX7_latestByAiming 36 = .ok (.getfield 28, 3) := by decide +kernel
theorem dX7_latestByAiming_39 : decode cX7_latestByAiming 39 = .ok (.invokevirtual 142, 3) := by decide +kernel
theorem dX7_latestByAiming_42 : decode cX7_latestByAiming 42 = .ok (.aload_n 0, 1) := by decide +kernel
theorem dX7_latestByAiming_43 : decode cX7_latestByAiming 43 = .ok (.getfield 34, 3) := by decide +kernel
theorem dX7_latestByAiming_46 : decode cX7_latestByAiming 46 = .ok (.getfield 173, 3) := by decide +kernel
theorem dX7_latestByAiming_49 : decode cX7_latestByAiming 49 = .ok (.iload_n 3, 1) := by decide +kernel
theorem dX7_latestByAiming_50 : decode cX7_latestByAiming 50 = .ok (.iload 4, 2) := by decide +kernel
theorem dX7_latestByAiming_52 : decode cX7_latestByAiming 52 = .ok (.iastore, 1) := by decide +kernel
theorem dX7_latestByAiming_53 : decode cX7_latestByAiming 53 = .ok (.iload_n 1, 1) := by decide +kernel
theorem dX7_latestByAiming_54 : decode cX7_latestByAiming 54 = .ok (.ifCond .eq 11, 3) := by decide +kernel
theorem dX7_latestByAiming_57 : decode cX7_latestByAiming 57 = .ok (.aload_n 0, 1) := by decide +kernel
theorem dX7_latestByAiming_58 : decode cX7_latestByAiming 58 = .ok (.iload_n 2, 1) := by decide +kernel
theorem dX7_latestByAiming_59 : decode cX7_latestByAiming 59 = .ok (.invokevirtual 367, 3) := by decide +kernel
theorem dX7_latestByAiming_62 : decode cX7_latestByAiming 62 = .ok (.goto 12, 3) := by decide +kernel
theorem dX7_latestByAiming_65 : decode cX7_latestByAiming 65 = .ok (.aload_n 0, 1) := by decide +kernel
theorem dX7_latestByAiming_66 : decode cX7_latestByAiming 66 = .ok (.getfield 34, 3) := by decide +kernel
theorem dX7_latestByAiming_69 : decode cX7_latestByAiming 69 = .ok (.bipush 60, 2) := by decide +kernel
theorem dX7_latestByAiming_71 : decode cX7_latestByAiming 71 = .ok (.invokevirtual 218, 3) := by decide +kernel
theorem dX7_latestByAiming_74 : decode cX7_latestByAiming 74 = .ok (.istore 5, 2) := by decide +kernel
theorem dX7_latestByAiming_76 : decode cX7_latestByAiming 76 = .ok (.iload_n 2, 1) := by decide +kernel
theorem dX7_latestByAiming_77 : decode cX7_latestByAiming 77 = .ok (.iload 5, 2) := by decide +kernel
theorem dX7_latestByAiming_79 : decode cX7_latestByAiming 79 = .ok (.invokestatic 227, 3) := by decide +kernel
theorem dX7_latestByAiming_82 : decode cX7_latestByAiming 82 = .ok (.istore_n 2, 1) := by decide +kernel
theorem dX7_latestByAiming_83 : decode cX7_latestByAiming 83 = .ok (.iinc 4 1, 3) := by decide +kernel
theorem dX7_latestByAiming_86 : decode cX7_latestByAiming 86 = .ok (.goto (-68), 3) := by decide +kernel
theorem dX7_latestByAiming_89 : decode cX7_latestByAiming 89 = .ok (.iinc 3 1, 3) := by decide +kernel
theorem dX7_latestByAiming_92 : decode cX7_latestByAiming 92 = .ok (.goto (-88), 3) := by decide +kernel
theorem dX7_latestByAiming_95 : decode cX7_latestByAiming 95 = .ok (.iload_n 2, 1) := by decide +kernel
theorem dX7_latestByAiming_96 : decode cX7_latestByAiming 96 = .ok (.ireturn, 1) := by decide +kernel
theorem dX7_soonestByAiming_0 : decode cX7_soonestByAiming 0 = .ok (.bipush 61, 2) := by decide +kernel
theorem dX7_soonestByAiming_2 : decode cX7_soonestByAiming 2 = .ok (.istore_n 2, 1) := by decide +kernel
theorem dX7_soonestByAiming_3 : decode cX7_soonestByAiming 3 = .ok (.iconst 0, 1) := by decide +kernel
theorem dX7_soonestByAiming_4 : decode cX7_soonestByAiming 4 = .ok (.istore_n 3, 1) := by decide +kernel
theorem dX7_soonestByAiming_5 : decode cX7_soonestByAiming 5 = .ok (.iload_n 3, 1) := by decide +kernel
theorem dX7_soonestByAiming_6 : decode cX7_soonestByAiming 6 = .ok (.bipush 10, 2) := by decide +kernel
theorem dX7_soonestByAiming_8 : decode cX7_soonestByAiming 8 = .ok (.if_icmp .ge 87, 3) := by decide +kernel
theorem dX7_soonestByAiming_11 : decode cX7_soonestByAiming 11 = .ok (.iload_n 2, 1) := by decide +kernel
theorem dX7_soonestByAiming_12 : decode cX7_soonestByAiming 12 = .ok (.iload_n 1, 1) := by decide +kernel
theorem dX7_soonestByAiming_13 : decode cX7_soonestByAiming 13 = .ok (.if_icmp .le 82, 3) := by decide +kernel
theorem dX7_soonestByAiming_16 : decode cX7_soonestByAiming 16 = .ok (.iconst 0, 1) := by decide +kernel
theorem dX7_soonestByAiming_17 : decode cX7_soonestByAiming 17 = .ok (.istore 4, 2) := by decide +kernel
theorem dX7_soonestByAiming_19 : decode cX7_soonestByAiming 19 = .ok (.iload 4, 2) := by decide +kernel
theorem dX7_soonestByAiming_21 : decode cX7_soonestByAiming 21 = .ok (.aload_n 0, 1) := by decide +kernel
theorem dX7_soonestByAiming_22 : decode cX7_soonestByAiming 22 = .ok (.getfield 34, 3) := by decide +kernel
theorem dX7_soonestByAiming_25 : decode cX7_soonestByAiming 25 = .ok (.getfield 149, 3) := by decide +kernel
theorem dX7_soonestByAiming_28 : decode cX7_soonestByAiming 28 = .ok (.if_icmp .ge 61, 3) := by decide +kernel
theorem dX7_soonestByAiming_31 : decode cX7_soonestByAiming 31 = .ok (.iload_n 2, 1) := by decide +kernel
theorem dX7_soonestByAiming_32 : decode cX7_soonestByAiming 32 = .ok (.iload_n 1, 1) := by decide +kernel
theorem dX7_soonestByAiming_33 : decode cX7_soonestByAiming 33 = .ok (.if_icmp .le 56, 3) := by decide +kernel
theorem dX7_soonestByAiming_36 : decode cX7_soonestByAiming 36 = .ok (.aload_n 0, 1) := by decide +kernel
theorem dX7_soonestByAiming_37 : decode cX7_soonestByAiming 37 = .ok (.getfield 31, 3) := by decide +kernel
theorem dX7_soonestByAiming_40 : decode cX7_soonestByAiming 40 = .ok (.aload_n 0, 1) := by decide +kernel
theorem dX7_soonestByAiming_41 : decode cX7_soonestByAiming 41 = .ok (.getfield 34, 3) := by decide +kernel
theorem dX7_soonestByAiming_44 : decode cX7_soonestByAiming 44 = .ok (.invokevirtual 142, 3) := by decide +kernel
theorem dX7_soonestByAiming_47 : decode cX7_soonestByAiming 47 = .ok (.aload_n 0, 1) := by decide +kernel
theorem dX7_soonestByAiming_48 : decode cX7_soonestByAiming 48 = .ok (.getfield 31, 3) := by decide +kernel
theorem dX7_soonestByAiming_51 : decode cX7_soonestByAiming 51 = .ok (.getfield 173, 3) := by decide +kernel
theorem dX7_soonestByAiming_54 : decode cX7_soonestByAiming 54 = .ok (.iload 4, 2) := by decide +kernel
theorem dX7_soonestByAiming_56 : decode cX7_soonestByAiming 56 = .ok (.aload_n 0, 1) := by decide +kernel
theorem dX7_soonestByAiming_57 : decode cX7_soonestByAiming 57 = .ok (.getfield 34, 3) := by decide +kernel
theorem dX7_soonestByAiming_60 : decode cX7_soonestByAiming 60 = .ok (.getfield 170, 3) := by decide +kernel
theorem dX7_soonestByAiming_63 : decode cX7_soonestByAiming 63 = .ok (.iload 4, 2) := by decide +kernel
theorem dX7_soonestByAiming_65 : decode cX7_soonestByAiming 65 = .ok (.iaload, 1) := by decide +kernel
theorem dX7_soonestByAiming_66 : decode cX7_soonestByAiming 66 = .ok (.iload_n 3, 1) := by decide +kernel
theorem dX7_soonestByAiming_67 : decode cX7_soonestByAiming 67 = .ok (.iadd, 1) := by decide +kernel
theorem dX7_soonestByAiming_68 : decode cX7_soonestByAiming 68 = .ok (.bipush 10, 2) := by decide +kernel
theorem dX7_soonestByAiming_70 : decode cX7_soonestByAiming 70 = .ok (.irem, 1) := by decide +kernel
theorem dX7_soonestByAiming_71 : decode cX7_soonestByAiming 71 = .ok (.iastore, 1) := by decide +kernel
theorem dX7_soonestByAiming_72 : decode cX7_soonestByAiming 72 = .ok (.aload_n 0, 1) := by decide +kernel
theorem dX7_soonestByAiming_73 : decode cX7_soonestByAiming 73 = .ok (.getfield 31, 3) := by decide +kernel
theorem dX7_soonestByAiming_76 : decode cX7_soonestByAiming 76 = .ok (.iload_n 2, 1) := by decide +kernel
theorem dX7_soonestByAiming_77 : decode cX7_soonestByAiming 77 = .ok (.iconst 1, 1) := by decide +kernel
theorem dX7_soonestByAiming_78 : decode cX7_soonestByAiming 78 = .ok (.isub, 1) := by decide +kernel
theorem dX7_soonestByAiming_79 : decode cX7_soonestByAiming 79 = .ok (.invokevirtual 218, 3) := by decide +kernel
theorem dX7_soonestByAiming_82 : decode cX7_soonestByAiming 82 = .ok (.istore_n 2, 1) := by decide +kernel
theorem dX7_soonestByAiming_83 : decode cX7_soonestByAiming 83 = .ok (.iinc 4 1, 3) := by decide +kernel
theorem dX7_soonestByAiming_86 : decode cX7_soonestByAiming 86 = .ok (.goto (-67), 3) := by decide +kernel
theorem dX7_soonestByAiming_89 : decode cX7_soonestByAiming 89 = .ok (.iinc 3 1, 3) := by decide +kernel
theorem dX7_soonestByAiming_92 : decode cX7_soonestByAiming 92 = .ok (.goto (-87), 3) := by decide +kernel
theorem dX7_soonestByAiming_95 : decode cX7_soonestByAiming 95 = .ok (.iload_n 2, 1) := by decide +kernel
theorem dX7_soonestByAiming_96 : decode cX7_soonestByAiming 96 = .ok (.ireturn, 1) := by decide +kernel
theorem dX7_weighRightOnes_0 : decode cX7_weighRightOnes 0 = .ok (.iconst 0, 1) := by decide +kernel
theorem dX7_weighRightOnes_1 : decode cX7_weighRightOnes 1 = .ok (.istore_n 3, 1) := by decide +kernel
theorem dX7_weighRightOnes_2 : decode cX7_weighRightOnes 2 = .ok (.iload_n 3, 1) := by decide +kernel
theorem dX7_weighRightOnes_3 : decode cX7_weighRightOnes 3 = .ok (.bipush 7, 2) := by decide +kernel
theorem dX7_weighRightOnes_5 : decode cX7_weighRightOnes 5 = .ok (.if_icmp .gt 16, 3) := by decide +kernel
theorem dX7_weighRightOnes_8 : decode cX7_weighRightOnes 8 = .ok (.aload_n 0, 1) := by decide +kernel
theorem dX7_weighRightOnes_9 : decode cX7_weighRightOnes 9 = .ok (.getfield 64, 3) := by decide +kernel
theorem dX7_weighRightOnes_12 : decode cX7_weighRightOnes 12 = .ok (.iload_n 3, 1) := by decide +kernel
theorem dX7_weighRightOnes_13 : decode cX7_weighRightOnes 13 = .ok (.lconst 0, 1) := by decide +kernel
theorem dX7_weighRightOnes_14 : decode cX7_weighRightOnes 14 = .ok (.lastore, 1) := by decide +kernel
theorem dX7_weighRightOnes_15 : decode cX7_weighRightOnes 15 = .ok (.iinc 3 1, 3) := by decide +kernel
theorem dX7_weighRightOnes_18 : decode cX7_weighRightOnes 18 = .ok (.goto (-16), 3) := by decide +kernel
theorem dX7_weighRightOnes_21 : decode cX7_weighRightOnes 21 = .ok (.aload_n 0, 1) := by decide +kernel
theorem dX7_weighRightOnes_22 : decode cX7_weighRightOnes 22 = .ok (.invokevirtual 370, 3) := by decide +kernel
theorem dX7_weighRightOnes_25 : decode cX7_weighRightOnes 25 = .ok (.istore_n 3, 1) := by decide +kernel
theorem dX7_weighRightOnes_26 : decode cX7_weighRightOnes 26 = .ok (.iconst 0, 1) := by decide +kernel
theorem dX7_weighRightOnes_27 : decode cX7_weighRightOnes 27 = .ok (.istore 4, 2) := by decide +kernel
theorem dX7_weighRightOnes_29 : decode cX7_weighRightOnes 29 = .ok (.iload 4, 2) := by decide +kernel
theorem dX7_weighRightOnes_31 : decode cX7_weighRightOnes 31 = .ok (.iconst 1, 1) := by decide +kernel
theorem dX7_weighRightOnes_32 : decode cX7_weighRightOnes 32 = .ok (.aload_n 0, 1) := by decide +kernel
theorem dX7_weighRightOnes_33 : decode cX7_weighRightOnes 33 = .ok (.getfield 28, 3) := by decide +kernel
theorem dX7_weighRightOnes_36 : decode cX7_weighRightOnes 36 = .ok (.getfield 149, 3) := by decide +kernel
theorem dX7_weighRightOnes_39 : decode cX7_weighRightOnes 39 = .ok (.ishl, 1) := by decide +kernel
theorem dX7_weighRightOnes_40 : decode cX7_weighRightOnes 40 = .ok (.if_icmp .ge 99, 3) := by decide +kernel
theorem dX7_weighRightOnes_43 : decode cX7_weighRightOnes 43 = .ok (.iload 4, 2) := by decide +kernel
theorem dX7_weighRightOnes_45 : decode cX7_weighRightOnes 45 = .ok (.aload_n 0, 1) := by decide +kernel
theorem dX7_weighRightOnes_46 : decode cX7_weighRightOnes 46 = .ok (.getfield 28, 3) := by decide +kernel
theorem dX7_weighRightOnes_49 : decode cX7_weighRightOnes 49 = .ok (.getfield 200, 3) := by decide +kernel
theorem dX7_weighRightOnes_52 : decode cX7_weighRightOnes 52 = .ok (.iand, 1) := by decide +kernel
theorem dX7_weighRightOnes_53 : decode cX7_weighRightOnes 53 = .ok (.ifCond .ne 80, 3) := by decide +kernel
theorem dX7_weighRightOnes_56 : decode cX7_weighRightOnes 56 = .ok (.aload_n 0, 1) := by decide +kernel
theorem dX7_weighRightOnes_57 : decode cX7_weighRightOnes 57 = .ok (.getfield 31, 3) := by decide +kernel
theorem dX7_weighRightOnes_60 : decode cX7_weighRightOnes 60 = .ok (.aload_n 0, 1) := by decide +kernel
theorem dX7_weighRightOnes_61 : decode cX7_weighRightOnes 61 = .ok (.getfield 28, 3) := by decide +kernel
theorem dX7_weighRightOnes_64 : decode cX7_weighRightOnes 64 = .ok (.invokevirtual 142, 3) := by decide +kernel
theorem dX7_weighRightOnes_67 : decode cX7_weighRightOnes 67 = .ok (.aload_n 0, 1) := by decide +kernel
theorem dX7_weighRightOnes_68 : decode cX7_weighRightOnes 68 = .ok (.getfield 31, 3) := by decide +kernel
theorem dX7_weighRightOnes_71 : decode cX7_weighRightOnes 71 = .ok (.dup, 1) := by decide +kernel
theorem dX7_weighRightOnes_72 : decode cX7_weighRightOnes 72 = .ok (.getfield 200, 3) := by decide +kernel
theorem dX7_weighRightOnes_75 : decode cX7_weighRightOnes 75 = .ok (.iload 4, 2) := by decide +kernel
theorem dX7_weighRightOnes_77 : decode cX7_weighRightOnes 77 = .ok (.ior, 1) := by decide +kernel
theorem dX7_weighRightOnes_78 : decode cX7_weighRightOnes 78 = .ok (.putfield 200, 3) := by decide +kernel
theorem dX7_weighRightOnes_81 : decode cX7_weighRightOnes 81 = .ok (.aload_n 0, 1) := by decide +kernel
theorem dX7_weighRightOnes_82 : decode cX7_weighRightOnes 82 = .ok (.getfield 31, 3) := by decide +kernel
theorem dX7_weighRightOnes_85 : decode cX7_weighRightOnes 85 = .ok (.iload_n 1, 1) := by decide +kernel
theorem dX7_weighRightOnes_86 : decode cX7_weighRightOnes 86 = .ok (.invokevirtual 211, 3) := by decide +kernel
theorem dX7_weighRightOnes_89 : decode cX7_weighRightOnes 89 = .ok (.iload 4, 2) := by decide +kernel
theorem dX7_weighRightOnes_91 : decode cX7_weighRightOnes 91 = .ok (.invokestatic 203, 3) := by decide +kernel
theorem dX7_weighRightOnes_94 : decode cX7_weighRightOnes 94 = .ok (.istore 5, 2) := by decide +kernel
theorem dX7_weighRightOnes_96 : decode cX7_weighRightOnes 96 = .ok (.aload_n 0, 1) := by decide +kernel
theorem dX7_weighRightOnes_97 : decode cX7_weighRightOnes 97 = .ok (.getfield 64, 3) := by decide +kernel
theorem dX7_weighRightOnes_100 : decode cX7_weighRightOnes 100 = .ok (.aload_n 0, 1) := by decide +kernel
theorem dX7_weighRightOnes_101 : decode cX7_weighRightOnes 101 = .ok (.getfield 31, 3) := by decide +kernel
theorem dX7_weighRightOnes_104 : decode cX7_weighRightOnes 104 = .ok (.invokevirtual 331, 3) := by decide +kernel
theorem dX7_weighRightOnes_107 : decode cX7_weighRightOnes 107 = .ok (.invokestatic 203, 3) := by decide +kernel
theorem dX7_weighRightOnes_110 : decode cX7_weighRightOnes 110 = .ok (.dup2, 1) := by decide +kernel
theorem dX7_weighRightOnes_111 : decode cX7_weighRightOnes 111 = .ok (.laload, 1) := by decide +kernel
theorem dX7_weighRightOnes_112 : decode cX7_weighRightOnes 112 = .ok (.iload_n 2, 1) := by decide +kernel
theorem dX7_weighRightOnes_113 : decode cX7_weighRightOnes 113 = .ok (.iload 5, 2) := by decide +kernel
theorem dX7_weighRightOnes_115 : decode cX7_weighRightOnes 115 = .ok (.invokestatic 316, 3) := by decide +kernel
theorem dX7_weighRightOnes_118 : decode cX7_weighRightOnes 118 = .ok (.bipush 12, 2) := by decide +kernel
theorem dX7_weighRightOnes_120 : decode cX7_weighRightOnes 120 = .ok (.iload_n 2, 1) := by decide +kernel
theorem dX7_weighRightOnes_121 : decode cX7_weighRightOnes 121 = .ok (.isub, 1) := by decide +kernel
theorem dX7_weighRightOnes_122 : decode cX7_weighRightOnes 122 = .ok (.iload_n 3, 1) := by decide +kernel
theorem dX7_weighRightOnes_123 : decode cX7_weighRightOnes 123 = .ok (.iload 5, 2) := by decide +kernel
theorem dX7_weighRightOnes_125 : decode cX7_weighRightOnes 125 = .ok (.isub, 1) := by decide +kernel
theorem dX7_weighRightOnes_126 : decode cX7_weighRightOnes 126 = .ok (.invokestatic 316, 3) := by decide +kernel
theorem dX7_weighRightOnes_129 : decode cX7_weighRightOnes 129 = .ok (.imul, 1) := by decide +kernel
theorem dX7_weighRightOnes_130 : decode cX7_weighRightOnes 130 = .ok (.i2l, 1) := by decide +kernel
theorem dX7_weighRightOnes_131 : decode cX7_weighRightOnes 131 = .ok (.ladd, 1) := by decide +kernel
theorem dX7_weighRightOnes_132 : decode cX7_weighRightOnes 132 = .ok (.lastore, 1) := by decide +kernel
theorem dX7_weighRightOnes_133 : decode cX7_weighRightOnes 133 = .ok (.iinc 4 1, 3) := by decide +kernel
theorem dX7_weighRightOnes_136 : decode cX7_weighRightOnes 136 = .ok (.goto (-107), 3) := by decide +kernel
theorem dX7_weighRightOnes_139 : decode cX7_weighRightOnes 139 = .ok (.return_, 1) := by decide +kernel
theorem dX7_freeOnes_0 : decode cX7_freeOnes 0 = .ok (.aload_n 0, 1) := by decide +kernel
theorem dX7_freeOnes_1 : decode cX7_freeOnes 1 = .ok (.getfield 28, 3) := by decide +kernel
theorem dX7_freeOnes_4 : decode cX7_freeOnes 4 = .ok (.getfield 149, 3) := by decide +kernel
theorem dX7_freeOnes_7 : decode cX7_freeOnes 7 = .ok (.aload_n 0, 1) := by decide +kernel
theorem dX7_freeOnes_8 : decode cX7_freeOnes 8 = .ok (.getfield 28, 3) := by decide +kernel
theorem dX7_freeOnes_11 : decode cX7_freeOnes 11 = .ok (.getfield 200, 3) := by decide +kernel
theorem dX7_freeOnes_14 : decode cX7_freeOnes 14 = .ok (.invokestatic 203, 3) := by decide +kernel
theorem dX7_freeOnes_17 : decode cX7_freeOnes 17 = .ok (.isub, 1) := by decide +kernel
theorem dX7_freeOnes_18 : decode cX7_freeOnes 18 = .ok (.ireturn, 1) := by decide +kernel
theorem dX7_weightOfAll_0 : decode cX7_weightOfAll 0 = .ok (.bipush 12, 2) := by decide +kernel
theorem dX7_weightOfAll_2 : decode cX7_weightOfAll 2 = .ok (.aload_n 0, 1) := by decide +kernel
theorem dX7_weightOfAll_3 : decode cX7_weightOfAll 3 = .ok (.invokevirtual 370, 3) := by decide +kernel
theorem dX7_weightOfAll_6 : decode cX7_weightOfAll 6 = .ok (.invokestatic 316, 3) := by decide +kernel
theorem dX7_weightOfAll_9 : decode cX7_weightOfAll 9 = .ok (.i2l, 1) := by decide +kernel
theorem dX7_weightOfAll_10 : decode cX7_weightOfAll 10 = .ok (.lreturn, 1) := by decide +kernel
theorem dX7_raised_0 : decode cX7_raised 0 = .ok (.iconst 1, 1) := by decide +kernel
theorem dX7_raised_1 : decode cX7_raised 1 = .ok (.istore_n 2, 1) := by decide +kernel
theorem dX7_raised_2 : decode cX7_raised 2 = .ok (.iconst 0, 1) := by decide +kernel
theorem dX7_raised_3 : decode cX7_raised 3 = .ok (.istore_n 3, 1) := by decide +kernel
theorem dX7_raised_4 : decode cX7_raised 4 = .ok (.iload_n 3, 1) := by decide +kernel
theorem dX7_raised_5 : decode cX7_raised 5 = .ok (.iload_n 1, 1) := by decide +kernel
theorem dX7_raised_6 : decode cX7_raised 6 = .ok (.if_icmp .ge 13, 3) := by decide +kernel
theorem dX7_raised_9 : decode cX7_raised 9 = .ok (.iload_n 2, 1) := by decide +kernel
theorem dX7_raised_10 : decode cX7_raised 10 = .ok (.iload_n 0, 1) := by decide +kernel
theorem dX7_raised_11 : decode cX7_raised 11 = .ok (.imul, 1) := by decide +kernel
theorem dX7_raised_12 : decode cX7_raised 12 = .ok (.istore_n 2, 1) := by decide +kernel
theorem dX7_raised_13 : decode cX7_raised 13 = .ok (.iinc 3 1, 3) := by decide +kernel
theorem dX7_raised_16 : decode cX7_raised 16 = .ok (.goto (-12), 3) := by decide +kernel
theorem dX7_raised_19 : decode cX7_raised 19 = .ok (.iload_n 2, 1) := by decide +kernel
theorem dX7_raised_20 : decode cX7_raised 20 = .ok (.ireturn, 1) := by decide +kernel
theorem dX8_init_0 : decode cX8_init 0 = .ok (.aload_n 0, 1) := by decide +kernel
theorem dX8_init_1 : decode cX8_init 1 = .ok (.invokespecial 1, 3) := by decide +kernel
theorem dX8_init_4 : decode cX8_init 4 = .ok (.aload_n 0, 1) := by decide +kernel
theorem dX8_init_5 : decode cX8_init 5 = .ok (.bipush 6, 2) := by decide +kernel
theorem dX8_init_7 : decode cX8_init 7 = .ok (.newarray .int, 2) := by decide +kernel
theorem dX8_init_9 : decode cX8_init 9 = .ok (.putfield 7, 3) := by decide +kernel
theorem dX8_init_12 : decode cX8_init 12 = .ok (.aload_n 0, 1) := by decide +kernel
theorem dX8_init_13 : decode cX8_init 13 = .ok (.sipush 240, 3) := by decide +kernel
theorem dX8_init_16 : decode cX8_init 16 = .ok (.newarray .int, 2) := by decide +kernel
theorem dX8_init_18 : decode cX8_init 18 = .ok (.putfield 13, 3) := by decide +kernel
theorem dX8_init_21 : decode cX8_init 21 = .ok (.aload_n 0, 1) := by decide +kernel
theorem dX8_init_22 : decode cX8_init 22 = .ok (.bipush 40, 2) := by decide +kernel
theorem dX8_init_24 : decode cX8_init 24 = .ok (.newarray .int, 2) := by decide +kernel
theorem dX8_init_26 : decode cX8_init 26 = .ok (.putfield 16, 3) := by decide +kernel
theorem dX8_init_29 : decode cX8_init 29 = .ok (.aload_n 0, 1) := by decide +kernel
theorem dX8_init_30 : decode cX8_init 30 = .ok (.iconst 4, 1) := by decide +kernel
theorem dX8_init_31 : decode cX8_init 31 = .ok (.newarray .int, 2) := by decide +kernel
theorem dX8_init_33 : decode cX8_init 33 = .ok (.putfield 19, 3) := by decide +kernel
theorem dX8_init_36 : decode cX8_init 36 = .ok (.aload_n 0, 1) := by decide +kernel
theorem dX8_init_37 : decode cX8_init 37 = .ok (.sipush 240, 3) := by decide +kernel
theorem dX8_init_40 : decode cX8_init 40 = .ok (.newarray .byte, 2) := by decide +kernel
theorem dX8_init_42 : decode cX8_init 42 = .ok (.putfield 22, 3) := by decide +kernel
theorem dX8_init_45 : decode cX8_init 45 = .ok (.aload_n 0, 1) := by decide +kernel
theorem dX8_init_46 : decode cX8_init 46 = .ok (.bipush 33, 2) := by decide +kernel
theorem dX8_init_48 : decode cX8_init 48 = .ok (.newarray .int, 2) := by decide +kernel
theorem dX8_init_50 : decode cX8_init 50 = .ok (.putfield 26, 3) := by decide +kernel
theorem dX8_init_53 : decode cX8_init 53 = .ok (.aload_n 0, 1) := by decide +kernel
theorem dX8_init_54 : decode cX8_init 54 = .ok (.bipush 33, 2) := by decide +kernel
theorem dX8_init_56 : decode cX8_init 56 = .ok (.newarray .int, 2) := by decide +kernel
theorem dX8_init_58 : decode cX8_init 58 = .ok (.putfield 29, 3) := by decide +kernel
theorem dX8_init_61 : decode cX8_init 61 = .ok (.aload_n 0, 1) := by decide +kernel
theorem dX8_init_62 : decode cX8_init 62 = .ok (.bipush 33, 2) := by decide +kernel
theorem dX8_init_64 : decode cX8_init 64 = .ok (.newarray .int, 2) := by decide +kernel
theorem dX8_init_66 : decode cX8_init 66 = .ok (.putfield 32, 3) := by decide +kernel
theorem dX8_init_69 : decode cX8_init 69 = .ok (.aload_n 0, 1) := by decide +kernel
theorem dX8_init_70 : decode cX8_init 70 = .ok (.bipush 33, 2) := by decide +kernel
theorem dX8_init_72 : decode cX8_init 72 = .ok (.newarray .int, 2) := by decide +kernel
theorem dX8_init_74 : decode cX8_init 74 = .ok (.putfield 35, 3) := by decide +kernel
theorem dX8_init_77 : decode cX8_init 77 = .ok (.aload_n 0, 1) := by decide +kernel
theorem dX8_init_78 : decode cX8_init 78 = .ok (.sipush 720, 3) := by decide +kernel
theorem dX8_init_81 : decode cX8_init 81 = .ok (.newarray .int, 2) := by decide +kernel
theorem dX8_init_83 : decode cX8_init 83 = .ok (.putfield 38, 3) := by decide +kernel
theorem dX8_init_86 : decode cX8_init 86 = .ok (.aload_n 0, 1) := by decide +kernel
theorem dX8_init_87 : decode cX8_init 87 = .ok (.bipush 99, 2) := by decide +kernel
theorem dX8_init_89 : decode cX8_init 89 = .ok (.newarray .int, 2) := by decide +kernel
theorem dX8_init_91 : decode cX8_init 91 = .ok (.putfield 41, 3) := by decide +kernel
theorem dX8_init_94 : decode cX8_init 94 = .ok (.aload_n 0, 1) := by decide +kernel
theorem dX8_init_95 : decode cX8_init 95 = .ok (.sipush 2160, 3) := by decide +kernel
theorem dX8_init_98 : decode cX8_init 98 = .ok (.newarray .int, 2) := by decide +kernel
theorem dX8_init_100 : decode cX8_init 100 = .ok (.putfield 44, 3) := by decide +kernel
theorem dX8_init_103 : decode cX8_init 103 = .ok (.aload_n 0, 1) := by decide +kernel
theorem dX8_init_104 : decode cX8_init 104 = .ok (.iconst 3, 1) := by decide +kernel
theorem dX8_init_105 : decode cX8_init 105 = .ok (.newarray .int, 2) := by decide +kernel
theorem dX8_init_107 : decode cX8_init 107 = .ok (.putfield 47, 3) := by decide +kernel
theorem dX8_init_110 : decode cX8_init 110 = .ok (.aload_n 0, 1) := by decide +kernel
theorem dX8_init_111 : decode cX8_init 111 = .ok (.lconst 1, 1) := by decide +kernel
theorem dX8_init_112 : decode cX8_init 112 = .ok (.putfield 50, 3) := by decide +kernel
theorem dX8_init_115 : decode cX8_init 115 = .ok (.aload_n 0, 1) := by decide +kernel
theorem dX8_init_116 : decode cX8_init 116 = .ok (.bipush 6, 2) := by decide +kernel
theorem dX8_init_118 : decode cX8_init 118 = .ok (.newarray .int, 2) := by decide +kernel
theorem dX8_init_120 : decode cX8_init 120 = .ok (.putfield 54, 3) := by decide +kernel
theorem dX8_init_123 : decode cX8_init 123 = .ok (.aload_n 0, 1) := by decide +kernel
theorem dX8_init_124 : decode cX8_init 124 = .ok (.bipush 61, 2) := by decide +kernel
theorem dX8_init_126 : decode cX8_init 126 = .ok (.newarray .int, 2) := by decide +kernel
theorem dX8_init_128 : decode cX8_init 128 = .ok (.putfield 57, 3) := by decide +kernel
theorem dX8_init_131 : decode cX8_init 131 = .ok (.aload_n 0, 1) := by decide +kernel
theorem dX8_init_132 : decode cX8_init 132 = .ok (.bipush 10, 2) := by decide +kernel
theorem dX8_init_134 : decode cX8_init 134 = .ok (.newarray .int, 2) := by decide +kernel
theorem dX8_init_136 : decode cX8_init 136 = .ok (.putfield 60, 3) := by decide +kernel
theorem dX8_init_139 : decode cX8_init 139 = .ok (.aload_n 0, 1) := by decide +kernel
theorem dX8_init_140 : decode cX8_init 140 = .ok (.bipush 126, 2) := by decide +kernel
theorem dX8_init_142 : decode cX8_init 142 = .ok (.newarray .int, 2) := by decide +kernel
theorem dX8_init_144 : decode cX8_init 144 = .ok (.putfield 63, 3) := by decide +kernel
theorem dX8_init_147 : decode cX8_init 147 = .ok (.iconst 0, 1) := by decide +kernel
theorem dX8_init_148 : decode cX8_init 148 = .ok (.istore_n 1, 1) := by decide +kernel
theorem dX8_init_149 : decode cX8_init 149 = .ok (.iload_n 1, 1) := by decide +kernel
theorem dX8_init_150 : decode cX8_init 150 = .ok (.bipush 6, 2) := by decide +kernel
theorem dX8_init_152 : decode cX8_init 152 = .ok (.if_icmp .ge 16, 3) := by decide +kernel
theorem dX8_init_155 : decode cX8_init 155 = .ok (.aload_n 0, 1) := by decide +kernel
theorem dX8_init_156 : decode cX8_init 156 = .ok (.getfield 7, 3) := by decide +kernel
theorem dX8_init_159 : decode cX8_init 159 = .ok (.iload_n 1, 1) := by decide +kernel
theorem dX8_init_160 : decode cX8_init 160 = .ok (.iconst (-1), 1) := by decide +kernel
theorem dX8_init_161 : decode cX8_init 161 = .ok (.iastore, 1) := by decide +kernel
theorem dX8_init_162 : decode cX8_init 162 = .ok (.iinc 1 1, 3) := by decide +kernel
theorem dX8_init_165 : decode cX8_init 165 = .ok (.goto (-16), 3) := by decide +kernel
theorem dX8_init_168 : decode cX8_init 168 = .ok (.iconst 0, 1) := by decide +kernel
theorem dX8_init_169 : decode cX8_init 169 = .ok (.istore_n 1, 1) := by decide +kernel
theorem dX8_init_170 : decode cX8_init 170 = .ok (.iload_n 1, 1) := by decide +kernel
theorem dX8_init_171 : decode cX8_init 171 = .ok (.iconst 4, 1) := by decide +kernel
theorem dX8_init_172 : decode cX8_init 172 = .ok (.if_icmp .ge 16, 3) := by decide +kernel
theorem dX8_init_175 : decode cX8_init 175 = .ok (.aload_n 0, 1) := by decide +kernel
theorem dX8_init_176 : decode cX8_init 176 = .ok (.getfield 19, 3) := by decide +kernel
theorem dX8_init_179 : decode cX8_init 179 = .ok (.iload_n 1, 1) := by decide +kernel
theorem dX8_init_180 : decode cX8_init 180 = .ok (.iconst (-1), 1) := by decide +kernel
theorem dX8_init_181 : decode cX8_init 181 = .ok (.iastore, 1) := by decide +kernel
theorem dX8_init_182 : decode cX8_init 182 = .ok (.iinc 1 1, 3) := by decide +kernel
theorem dX8_init_185 : decode cX8_init 185 = .ok (.goto (-15), 3) := by decide +kernel
theorem dX8_init_188 : decode cX8_init 188 = .ok (.iconst 0, 1) := by decide +kernel
theorem dX8_init_189 : decode cX8_init 189 = .ok (.istore_n 1, 1) := by decide +kernel
theorem dX8_init_190 : decode cX8_init 190 = .ok (.iload_n 1, 1) := by decide +kernel
theorem dX8_init_191 : decode cX8_init 191 = .ok (.aload_n 0, 1) := by decide +kernel
theorem dX8_init_192 : decode cX8_init 192 = .ok (.getfield 47, 3) := by decide +kernel
theorem dX8_init_195 : decode cX8_init 195 = .ok (.arraylength, 1) := by decide +kernel
theorem dX8_init_196 : decode cX8_init 196 = .ok (.if_icmp .ge 16, 3) := by decide +kernel
theorem dX8_init_199 : decode cX8_init 199 = .ok (.aload_n 0, 1) := by decide +kernel
theorem dX8_init_200 : decode cX8_init 200 = .ok (.getfield 47, 3) := by decide +kernel
theorem dX8_init_203 : decode cX8_init 203 = .ok (.iload_n 1, 1) := by decide +kernel
theorem dX8_init_204 : decode cX8_init 204 = .ok (.iconst (-1), 1) := by decide +kernel
theorem dX8_init_205 : decode cX8_init 205 = .ok (.iastore, 1) := by decide +kernel
theorem dX8_init_206 : decode cX8_init 206 = .ok (.iinc 1 1, 3) := by decide +kernel
theorem dX8_init_209 : decode cX8_init 209 = .ok (.goto (-19), 3) := by decide +kernel
theorem dX8_init_212 : decode cX8_init 212 = .ok (.return_, 1) := by decide +kernel
theorem dX8_in_0 : decode cX8_in 0 = .ok (.iload_n 0, 1) := by decide +kernel
theorem dX8_in_1 : decode cX8_in 1 = .ok (.iload_n 1, 1) := by decide +kernel
theorem dX8_in_2 : decode cX8_in 2 = .ok (.if_icmp .lt 12, 3) := by decide +kernel
theorem dX8_in_5 : decode cX8_in 5 = .ok (.iload_n 0, 1) := by decide +kernel
theorem dX8_in_6 : decode cX8_in 6 = .ok (.iload_n 2, 1) := by decide +kernel
theorem dX8_in_7 : decode cX8_in 7 = .ok (.if_icmp .gt 7, 3) := by decide +kernel
theorem dX8_in_10 : decode cX8_in 10 = .ok (.iconst 1, 1) := by decide +kernel
theorem dX8_in_11 : decode cX8_in 11 = .ok (.goto 4, 3) := by decide +kernel
theorem dX8_in_14 : decode cX8_in 14 = .ok (.iconst 0, 1) := by decide +kernel
theorem dX8_in_15 : decode cX8_in 15 = .ok (.ireturn, 1) := by decide +kernel
theorem dX8_finds_0 : decode cX8_finds 0 = .ok (.aload_n 0, 1) := by decide +kernel
theorem dX8_finds_1 : decode cX8_finds 1 = .ok (.iload_n 1, 1) := by decide +kernel
theorem dX8_finds_2 : decode cX8_finds 2 = .ok (.putfield 66, 3) := by decide +kernel
theorem dX8_finds_5 : decode cX8_finds 5 = .ok (.aload_n 0, 1) := by decide +kernel
theorem dX8_finds_6 : decode cX8_finds 6 = .ok (.getfield 54, 3) := by decide +kernel
theorem dX8_finds_9 : decode cX8_finds 9 = .ok (.iload_n 1, 1) := by decide +kernel
theorem dX8_finds_10 : decode cX8_finds 10 = .ok (.dup2, 1) := by decide +kernel
theorem dX8_finds_11 : decode cX8_finds 11 = .ok (.iaload, 1) := by decide +kernel
theorem dX8_finds_12 : decode cX8_finds 12 = .ok (.iconst 1, 1) := by decide +kernel
theorem dX8_finds_13 : decode cX8_finds 13 = .ok (.iadd, 1) := by decide +kernel
theorem dX8_finds_14 : decode cX8_finds 14 = .ok (.iastore, 1) := by decide +kernel
theorem dX8_finds_15 : decode cX8_finds 15 = .ok (.bipush (-3), 2) := by decide +kernel
theorem dX8_finds_17 : decode cX8_finds 17 = .ok (.ireturn, 1) := by decide +kernel
theorem dX8_tells_0 : decode cX8_tells 0 = .ok (.aload_n 0, 1) := by decide +kernel
theorem dX8_tells_1 : decode cX8_tells 1 = .ok (.iload_n 1, 1) := by decide +kernel
theorem dX8_tells_2 : decode cX8_tells 2 = .ok (.putfield 70, 3) := by decide +kernel
theorem dX8_tells_5 : decode cX8_tells 5 = .ok (.iconst 1, 1) := by decide +kernel
theorem dX8_tells_6 : decode cX8_tells 6 = .ok (.ireturn, 1) := by decide +kernel
theorem dX8_isRow_0 : decode cX8_isRow 0 = .ok (.iload_n 0, 1) := by decide +kernel
theorem dX8_isRow_1 : decode cX8_isRow 1 = .ok (.iconst 0, 1) := by decide +kernel
theorem dX8_isRow_2 : decode cX8_isRow 2 = .ok (.iconst 5, 1) := by decide +kernel
theorem dX8_isRow_3 : decode cX8_isRow 3 = .ok (.invokestatic 73, 3) := by decide +kernel
theorem dX8_isRow_6 : decode cX8_isRow 6 = .ok (.ireturn, 1) := by decide +kernel
theorem dX8_isText_0 : decode cX8_isText 0 = .ok (.iload_n 0, 1) := by decide +kernel
theorem dX8_isText_1 : decode cX8_isText 1 = .ok (.iconst 0, 1) := by decide +kernel
theorem dX8_isText_2 : decode cX8_isText 2 = .ok (.iconst 3, 1) := by decide +kernel
theorem dX8_isText_3 : decode cX8_isText 3 = .ok (.invokestatic 73, 3) := by decide +kernel
theorem dX8_isText_6 : decode cX8_isText 6 = .ok (.ireturn, 1) := by decide +kernel
theorem dX8_anew_0 : decode cX8_anew 0 = .ok (.aload_n 0, 1) := by decide +kernel
theorem dX8_anew_1 : decode cX8_anew 1 = .ok (.getfield 7, 3) := by decide +kernel
theorem dX8_anew_4 : decode cX8_anew 4 = .ok (.iload_n 1, 1) := by decide +kernel
theorem dX8_anew_5 : decode cX8_anew 5 = .ok (.iload_n 2, 1) := by decide +kernel
theorem dX8_anew_6 : decode cX8_anew 6 = .ok (.iastore, 1) := by decide +kernel
theorem dX8_anew_7 : decode cX8_anew 7 = .ok (.iconst 0, 1) := by decide +kernel
theorem dX8_anew_8 : decode cX8_anew 8 = .ok (.istore_n 3, 1) := by decide +kernel
theorem dX8_anew_9 : decode cX8_anew 9 = .ok (.iload_n 3, 1) := by decide +kernel
theorem dX8_anew_10 : decode cX8_anew 10 = .ok (.bipush 40, 2) := by decide +kernel
theorem dX8_anew_12 : decode cX8_anew 12 = .ok (.if_icmp .ge 21, 3) := by decide +kernel
theorem dX8_anew_15 : decode cX8_anew 15 = .ok (.aload_n 0, 1) := by decide +kernel
theorem dX8_anew_16 : decode cX8_anew 16 = .ok (.getfield 13, 3) := by decide +kernel
theorem dX8_anew_19 : decode cX8_anew 19 = .ok (.bipush 40, 2) := by decide +kernel
theorem dX8_anew_21 : decode cX8_anew 21 = .ok (.iload_n 1, 1) := by decide +kernel
theorem dX8_anew_22 : decode cX8_anew 22 = .ok (.imul, 1) := by decide +kernel
theorem dX8_anew_23 : decode cX8_anew 23 = .ok (.iload_n 3, 1) := by decide +kernel
theorem dX8_anew_24 : decode cX8_anew 24 = .ok (.iadd, 1) := by decide +kernel
theorem dX8_anew_25 : decode cX8_anew 25 = .ok (.iconst 0, 1) := by decide +kernel
theorem dX8_anew_26 : decode cX8_anew 26 = .ok (.iastore, 1) := by decide +kernel
theorem dX8_anew_27 : decode cX8_anew 27 = .ok (.iinc 3 1, 3) := by decide +kernel
theorem dX8_anew_30 : decode cX8_anew 30 = .ok (.goto (-21), 3) := by decide +kernel
theorem dX8_anew_33 : decode cX8_anew 33 = .ok (.return_, 1) := by decide +kernel
theorem dX8_row_0 : decode cX8_row 0 = .ok (.iload_n 1, 1) := by decide +kernel
theorem dX8_row_1 : decode cX8_row 1 = .ok (.invokestatic 77, 3) := by decide +kernel
theorem dX8_row_4 : decode cX8_row 4 = .ok (.ifCond .eq 9, 3) := by decide +kernel
theorem dX8_row_7 : decode cX8_row 7 = .ok (.iload_n 2, 1) := by decide +kernel
theorem dX8_row_8 : decode cX8_row 8 = .ok (.bipush 40, 2) := by decide +kernel
theorem dX8_row_10 : decode cX8_row 10 = .ok (.if_icmp .le 5, 3) := by decide +kernel
theorem dX8_row_13 : decode cX8_row 13 = .ok (.iconst (-1), 1) := by decide +kernel
theorem dX8_row_14 : decode cX8_row 14 = .ok (.ireturn, 1) := by decide +kernel
theorem dX8_row_15 : decode cX8_row 15 = .ok (.iload_n 2, 1) := by decide +kernel
theorem dX8_row_16 : decode cX8_row 16 = .ok (.ifCond .ge 9, 3) := by decide +kernel
theorem dX8_row_19 : decode cX8_row 19 = .ok (.aload_n 0, 1) := by decide +kernel
theorem dX8_row_20 : decode cX8_row 20 = .ok (.iconst 5, 1) := by decide +kernel
theorem dX8_row_21 : decode cX8_row 21 = .ok (.invokevirtual 81, 3) := by decide +kernel
theorem dX8_row_24 : decode cX8_row 24 = .ok (.ireturn, 1) := by decide +kernel
theorem dX8_row_25 : decode cX8_row 25 = .ok (.aload_n 0, 1) := by decide +kernel
theorem dX8_row_26 : decode cX8_row 26 = .ok (.iload_n 1, 1) := by decide +kernel
theorem dX8_row_27 : decode cX8_row 27 = .ok (.iload_n 2, 1) := by decide +kernel
theorem dX8_row_28 : decode cX8_row 28 = .ok (.invokevirtual 85, 3) := by decide +kernel
theorem dX8_row_31 : decode cX8_row 31 = .ok (.iload_n 2, 1) := by decide +kernel
theorem dX8_row_32 : decode cX8_row 32 = .ok (.ireturn, 1) := by decide +kernel
theorem dX8_lay_0 : decode cX8_lay 0 = .ok (.iload_n 1, 1) := by decide +kernel
theorem dX8_lay_1 : decode cX8_lay 1 = .ok (.invokestatic 77, 3) := by decide +kernel
theorem dX8_lay_4 : decode cX8_lay 4 = .ok (.ifCond .ne 5, 3) := by decide +kernel
theorem dX8_lay_7 : decode cX8_lay 7 = .ok (.iconst (-1), 1) := by decide +kernel
theorem dX8_lay_8 : decode cX8_lay 8 = .ok (.ireturn, 1) := by decide +kernel
theorem dX8_lay_9 : decode cX8_lay 9 = .ok (.aload_n 0, 1) := by decide +kernel
theorem dX8_lay_10 : decode cX8_lay 10 = .ok (.getfield 7, 3) := by decide +kernel
theorem dX8_lay_13 : decode cX8_lay 13 = .ok (.iload_n 1, 1) := by decide +kernel
theorem dX8_lay_14 : decode cX8_lay 14 = .ok (.iaload, 1) := by decide +kernel
theorem dX8_lay_15 : decode cX8_lay 15 = .ok (.ifCond .ge 9, 3) := by decide +kernel
theorem dX8_lay_18 : decode cX8_lay 18 = .ok (.aload_n 0, 1) := by decide +kernel
theorem dX8_lay_19 : decode cX8_lay 19 = .ok (.iconst 1, 1) := by decide +kernel
theorem dX8_lay_20 : decode cX8_lay 20 = .ok (.invokevirtual 81, 3) := by decide +kernel
theorem dX8_lay_23 : decode cX8_lay 23 = .ok (.ireturn, 1) := by decide +kernel
theorem dX8_lay_24 : decode cX8_lay 24 = .ok (.iload_n 2, 1) := by decide +kernel
theorem dX8_lay_25 : decode cX8_lay 25 = .ok (.iconst 0, 1) := by decide +kernel
theorem dX8_lay_26 : decode cX8_lay 26 = .ok (.aload_n 0, 1) := by decide +kernel
theorem dX8_lay_27 : decode cX8_lay 27 = .ok (.getfield 7, 3) := by decide +kernel
theorem dX8_lay_30 : decode cX8_lay 30 = .ok (.iload_n 1, 1) := by decide +kernel
theorem dX8_lay_31 : decode cX8_lay 31 = .ok (.iaload, 1) := by decide +kernel
theorem dX8_lay_32 : decode cX8_lay 32 = .ok (.iconst 1, 1) := by decide +kernel
theorem dX8_lay_33 : decode cX8_lay 33 = .ok (.isub, 1) := by decide +kernel
theorem dX8_lay_34 : decode cX8_lay 34 = .ok (.invokestatic 73, 3) := by decide +kernel
theorem dX8_lay_37 : decode cX8_lay 37 = .ok (.ifCond .ne 9, 3) := by decide +kernel
theorem dX8_lay_40 : decode cX8_lay 40 = .ok (.aload_n 0, 1) := by decide +kernel
theorem dX8_lay_41 : decode cX8_lay 41 = .ok (.iconst 2, 1) := by decide +kernel
theorem dX8_lay_42 : decode cX8_lay 42 = .ok (.invokevirtual 81, 3) := by decide +kernel
theorem dX8_lay_45 : decode cX8_lay 45 = .ok (.ireturn, 1) := by decide +kernel
theorem dX8_lay_46 : decode cX8_lay 46 = .ok (.aload_n 0, 1) := by decide +kernel
theorem dX8_lay_47 : decode cX8_lay 47 = .ok (.getfield 13, 3) := by decide +kernel
theorem dX8_lay_50 : decode cX8_lay 50 = .ok (.bipush 40, 2) := by decide +kernel
theorem dX8_lay_52 : decode cX8_lay 52 = .ok (.iload_n 1, 1) := by decide +kernel
theorem dX8_lay_53 : decode cX8_lay 53 = .ok (.imul, 1) := by decide +kernel
theorem dX8_lay_54 : decode cX8_lay 54 = .ok (.iload_n 2, 1) := by decide +kernel
theorem dX8_lay_55 : decode cX8_lay 55 = .ok (.iadd, 1) := by decide +kernel
theorem dX8_lay_56 : decode cX8_lay 56 = .ok (.iaload, 1) := by decide +kernel
theorem dX8_lay_57 : decode cX8_lay 57 = .ok (.istore 4, 2) := by decide +kernel
theorem dX8_lay_59 : decode cX8_lay 59 = .ok (.aload_n 0, 1) := by decide +kernel
theorem dX8_lay_60 : decode cX8_lay 60 = .ok (.getfield 13, 3) := by decide +kernel
theorem dX8_lay_63 : decode cX8_lay 63 = .ok (.bipush 40, 2) := by decide +kernel
theorem dX8_lay_65 : decode cX8_lay 65 = .ok (.iload_n 1, 1) := by decide +kernel
theorem dX8_lay_66 : decode cX8_lay 66 = .ok (.imul, 1) := by decide +kernel
theorem dX8_lay_67 : decode cX8_lay 67 = .ok (.iload_n 2, 1) := by decide +kernel
theorem dX8_lay_68 : decode cX8_lay 68 = .ok (.iadd, 1) := by decide +kernel
theorem dX8_lay_69 : decode cX8_lay 69 = .ok (.iload_n 3, 1) := by decide +kernel
theorem dX8_lay_70 : decode cX8_lay 70 = .ok (.iastore, 1) := by decide +kernel
theorem dX8_lay_71 : decode cX8_lay 71 = .ok (.aload_n 0, 1) := by decide +kernel
theorem dX8_lay_72 : decode cX8_lay 72 = .ok (.iload 4, 2) := by decide +kernel
theorem dX8_lay_74 : decode cX8_lay 74 = .ok (.invokevirtual 89, 3) := by decide +kernel
theorem dX8_lay_77 : decode cX8_lay 77 = .ok (.ireturn, 1) := by decide +kernel
theorem dX8_at_0 : decode cX8_at 0 = .ok (.iload_n 1, 1) := by decide +kernel
theorem dX8_at_1 : decode cX8_at 1 = .ok (.invokestatic 77, 3) := by decide +kernel
theorem dX8_at_4 : decode cX8_at 4 = .ok (.ifCond .ne 5, 3) := by decide +kernel
theorem dX8_at_7 : decode cX8_at 7 = .ok (.iconst (-1), 1) := by decide +kernel
theorem dX8_at_8 : decode cX8_at 8 = .ok (.ireturn, 1) := by decide +kernel
theorem dX8_at_9 : decode cX8_at 9 = .ok (.aload_n 0, 1) := by decide +kernel
theorem dX8_at_10 : decode cX8_at 10 = .ok (.getfield 7, 3) := by decide +kernel
theorem dX8_at_13 : decode cX8_at 13 = .ok (.iload_n 1, 1) := by decide +kernel
theorem dX8_at_14 : decode cX8_at 14 = .ok (.iaload, 1) := by decide +kernel
theorem dX8_at_15 : decode cX8_at 15 = .ok (.ifCond .ge 9, 3) := by decide +kernel
theorem dX8_at_18 : decode cX8_at 18 = .ok (.aload_n 0, 1) := by decide +kernel
theorem dX8_at_19 : decode cX8_at 19 = .ok (.iconst 1, 1) := by decide +kernel
theorem dX8_at_20 : decode cX8_at 20 = .ok (.invokevirtual 81, 3) := by decide +kernel
theorem dX8_at_23 : decode cX8_at 23 = .ok (.ireturn, 1) := by decide +kernel
theorem dX8_at_24 : decode cX8_at 24 = .ok (.iload_n 2, 1) := by decide +kernel
theorem dX8_at_25 : decode cX8_at 25 = .ok (.iconst 0, 1) := by decide +kernel
theorem dX8_at_26 : decode cX8_at 26 = .ok (.aload_n 0, 1) := by decide +kernel
theorem dX8_at_27 : decode cX8_at 27 = .ok (.getfield 7, 3) := by decide +kernel
theorem dX8_at_30 : decode cX8_at 30 = .ok (.iload_n 1, 1) := by decide +kernel
theorem dX8_at_31 : decode cX8_at 31 = .ok (.iaload, 1) := by decide +kernel
theorem dX8_at_32 : decode cX8_at 32 = .ok (.iconst 1, 1) := by decide +kernel
theorem dX8_at_33 : decode cX8_at 33 = .ok (.isub, 1) := by decide +kernel
theorem dX8_at_34 : decode cX8_at 34 = .ok (.invokestatic 73, 3) := by decide +kernel
theorem dX8_at_37 : decode cX8_at 37 = .ok (.ifCond .eq 21, 3) := by decide +kernel
theorem dX8_at_40 : decode cX8_at 40 = .ok (.aload_n 0, 1) := by decide +kernel
theorem dX8_at_41 : decode cX8_at 41 = .ok (.aload_n 0, 1) := by decide +kernel
theorem dX8_at_42 : decode cX8_at 42 = .ok (.getfield 13, 3) := by decide +kernel
theorem dX8_at_45 : decode cX8_at 45 = .ok (.bipush 40, 2) := by decide +kernel
theorem dX8_at_47 : decode cX8_at 47 = .ok (.iload_n 1, 1) := by decide +kernel
theorem dX8_at_48 : decode cX8_at 48 = .ok (.imul, 1) := by decide +kernel
theorem dX8_at_49 : decode cX8_at 49 = .ok (.iload_n 2, 1) := by decide +kernel
theorem dX8_at_50 : decode cX8_at 50 = .ok (.iadd, 1) := by decide +kernel
theorem dX8_at_51 : decode cX8_at 51 = .ok (.iaload, 1) := by decide +kernel
theorem dX8_at_52 : decode cX8_at 52 = .ok (.invokevirtual 89, 3) := by decide +kernel
theorem dX8_at_55 : decode cX8_at 55 = .ok (.goto 8, 3) := by decide +kernel
theorem dX8_at_58 : decode cX8_at 58 = .ok (.aload_n 0, 1) := by decide +kernel
theorem dX8_at_59 : decode cX8_at 59 = .ok (.iconst 2, 1) := by decide +kernel
theorem dX8_at_60 : decode cX8_at 60 = .ok (.invokevirtual 81, 3) := by decide +kernel
theorem dX8_at_63 : decode cX8_at 63 = .ok (.ireturn, 1) := by decide +kernel
theorem dX8_tear_0 : decode cX8_tear 0 = .ok (.iload_n 1, 1) := by decide +kernel
theorem dX8_tear_1 : decode cX8_tear 1 = .ok (.invokestatic 77, 3) := by decide +kernel
theorem dX8_tear_4 : decode cX8_tear 4 = .ok (.ifCond .ne 5, 3) := by decide +kernel
theorem dX8_tear_7 : decode cX8_tear 7 = .ok (.iconst (-1), 1) := by decide +kernel
theorem dX8_tear_8 : decode cX8_tear 8 = .ok (.ireturn, 1) := by decide +kernel
theorem dX8_tear_9 : decode cX8_tear 9 = .ok (.aload_n 0, 1) := by decide +kernel
theorem dX8_tear_10 : decode cX8_tear 10 = .ok (.getfield 7, 3) := by decide +kernel
theorem dX8_tear_13 : decode cX8_tear 13 = .ok (.iload_n 1, 1) := by decide +kernel
theorem dX8_tear_14 : decode cX8_tear 14 = .ok (.iaload, 1) := by decide +kernel
theorem dX8_tear_15 : decode cX8_tear 15 = .ok (.ifCond .ge 9, 3) := by decide +kernel
theorem dX8_tear_18 : decode cX8_tear 18 = .ok (.aload_n 0, 1) := by decide +kernel
theorem dX8_tear_19 : decode cX8_tear 19 = .ok (.iconst 1, 1) := by decide +kernel
theorem dX8_tear_20 : decode cX8_tear 20 = .ok (.invokevirtual 81, 3) := by decide +kernel
theorem dX8_tear_23 : decode cX8_tear 23 = .ok (.ireturn, 1) := by decide +kernel
theorem dX8_tear_24 : decode cX8_tear 24 = .ok (.aload_n 0, 1) := by decide +kernel
theorem dX8_tear_25 : decode cX8_tear 25 = .ok (.getfield 7, 3) := by decide +kernel
theorem dX8_tear_28 : decode cX8_tear 28 = .ok (.iload_n 1, 1) := by decide +kernel
theorem dX8_tear_29 : decode cX8_tear 29 = .ok (.iconst (-1), 1) := by decide +kernel
theorem dX8_tear_30 : decode cX8_tear 30 = .ok (.iastore, 1) := by decide +kernel
theorem dX8_tear_31 : decode cX8_tear 31 = .ok (.iconst 1, 1) := by decide +kernel
theorem dX8_tear_32 : decode cX8_tear 32 = .ok (.ireturn, 1) := by decide +kernel
theorem dX8_lies_0 : decode cX8_lies 0 = .ok (.iload_n 2, 1) := by decide +kernel
theorem dX8_lies_1 : decode cX8_lies 1 = .ok (.ifCond .lt 29, 3) := by decide +kernel
theorem dX8_lies_4 : decode cX8_lies 4 = .ok (.iload_n 3, 1) := by decide +kernel
theorem dX8_lies_5 : decode cX8_lies 5 = .ok (.aload_n 0, 1) := by decide +kernel
theorem dX8_lies_6 : decode cX8_lies 6 = .ok (.getfield 7, 3) := by decide +kernel
theorem dX8_lies_9 : decode cX8_lies 9 = .ok (.iload_n 1, 1) := by decide +kernel
theorem dX8_lies_10 : decode cX8_lies 10 = .ok (.iaload, 1) := by decide +kernel
theorem dX8_lies_11 : decode cX8_lies 11 = .ok (.if_icmp .gt 19, 3) := by decide +kernel
theorem dX8_lies_14 : decode cX8_lies 14 = .ok (.iload_n 2, 1) := by decide +kernel
theorem dX8_lies_15 : decode cX8_lies 15 = .ok (.aload_n 0, 1) := by decide +kernel
theorem dX8_lies_16 : decode cX8_lies 16 = .ok (.getfield 7, 3) := by decide +kernel
theorem dX8_lies_19 : decode cX8_lies 19 = .ok (.iload_n 1, 1) := by decide +kernel
theorem dX8_lies_20 : decode cX8_lies 20 = .ok (.iaload, 1) := by decide +kernel
theorem dX8_lies_21 : decode cX8_lies 21 = .ok (.iload_n 3, 1) := by decide +kernel
theorem dX8_lies_22 : decode cX8_lies 22 = .ok (.isub, 1) := by decide +kernel
theorem dX8_lies_23 : decode cX8_lies 23 = .ok (.if_icmp .gt 7, 3) := by decide +kernel
theorem dX8_lies_26 : decode cX8_lies 26 = .ok (.iconst 1, 1) := by decide +kernel
theorem dX8_lies_27 : decode cX8_lies 27 = .ok (.goto 4, 3) := by decide +kernel
theorem dX8_lies_30 : decode cX8_lies 30 = .ok (.iconst 0, 1) := by decide +kernel
theorem dX8_lies_31 : decode cX8_lies 31 = .ok (.ireturn, 1) := by decide +kernel
theorem dX8_copy_0 : decode cX8_copy 0 = .ok (.iload_n 1, 1) := by decide +kernel
theorem dX8_copy_1 : decode cX8_copy 1 = .ok (.invokestatic 77, 3) := by decide +kernel
theorem dX8_copy_4 : decode cX8_copy 4 = .ok (.ifCond .eq 10, 3) := by decide +kernel
theorem dX8_copy_7 : decode cX8_copy 7 = .ok (.iload_n 3, 1) := by decide +kernel
theorem dX8_copy_8 : decode cX8_copy 8 = .ok (.invokestatic 77, 3) := by decide +kernel
theorem dX8_copy_11 : decode cX8_copy 11 = .ok (.ifCond .ne 5, 3) := by decide +kernel
theorem dX8_copy_14 : decode cX8_copy 14 = .ok (.iconst (-1), 1) := by decide +kernel
theorem dX8_copy_15 : decode cX8_copy 15 = .ok (.ireturn, 1) := by decide +kernel
theorem dX8_copy_16 : decode cX8_copy 16 = .ok (.iload 5, 2) := by decide +kernel
theorem dX8_copy_18 : decode cX8_copy 18 = .ok (.ifCond .ge 9, 3) := by decide +kernel
theorem dX8_copy_21 : decode cX8_copy 21 = .ok (.aload_n 0, 1) := by decide +kernel
theorem dX8_copy_22 : decode cX8_copy 22 = .ok (.iconst 5, 1) := by decide +kernel
theorem dX8_copy_23 : decode cX8_copy 23 = .ok (.invokevirtual 81, 3) := by decide +kernel
theorem dX8_copy_26 : decode cX8_copy 26 = .ok (.ireturn, 1) := by decide +kernel
theorem dX8_copy_27 : decode cX8_copy 27 = .ok (.aload_n 0, 1) := by decide +kernel
theorem dX8_copy_28 : decode cX8_copy 28 = .ok (.getfield 7, 3) := by decide +kernel
theorem dX8_copy_31 : decode cX8_copy 31 = .ok (.iload_n 1, 1) := by decide +kernel
theorem dX8_copy_32 : decode cX8_copy 32 = .ok (.iaload, 1) := by decide +kernel
theorem dX8_copy_33 : decode cX8_copy 33 = .ok (.ifCond .lt 12, 3) := by decide +kernel
theorem dX8_copy_36 : decode cX8_copy 36 = .ok (.aload_n 0, 1) := by decide +kernel
theorem dX8_copy_37 : decode cX8_copy 37 = .ok (.getfield 7, 3) := by decide +kernel
theorem dX8_copy_40 : decode cX8_copy 40 = .ok (.iload_n 3, 1) := by decide +kernel
theorem dX8_copy_41 : decode cX8_copy 41 = .ok (.iaload, 1) := by decide +kernel
theorem dX8_copy_42 : decode cX8_copy 42 = .ok (.ifCond .ge 9, 3) := by decide +kernel
theorem dX8_copy_45 : decode cX8_copy 45 = .ok (.aload_n 0, 1) := by decide +kernel
theorem dX8_copy_46 : decode cX8_copy 46 = .ok (.iconst 1, 1) := by decide +kernel
theorem dX8_copy_47 : decode cX8_copy 47 = .ok (.invokevirtual 81, 3) := by decide +kernel
theorem dX8_copy_50 : decode cX8_copy 50 = .ok (.ireturn, 1) := by decide +kernel
theorem dX8_copy_51 : decode cX8_copy 51 = .ok (.aload_n 0, 1) := by decide +kernel
theorem dX8_copy_52 : decode cX8_copy 52 = .ok (.iload_n 1, 1) := by decide +kernel
theorem dX8_copy_53 : decode cX8_copy 53 = .ok (.iload_n 2, 1) := by decide +kernel
theorem dX8_copy_54 : decode cX8_copy 54 = .ok (.iload 5, 2) := by decide +kernel
theorem dX8_copy_56 : decode cX8_copy 56 = .ok (.invokevirtual 92, 3) := by decide +kernel
theorem dX8_copy_59 : decode cX8_copy 59 = .ok (.ifCond .eq 15, 3) := by decide +kernel
theorem dX8_copy_62 : decode cX8_copy 62 = .ok (.aload_n 0, 1) := by decide +kernel
theorem dX8_copy_63 : decode cX8_copy 63 = .ok (.iload_n 3, 1) := by decide +kernel
theorem dX8_copy_64 : decode cX8_copy 64 = .ok (.iload 4, 2) := by decide +kernel
theorem dX8_copy_66 : decode cX8_copy 66 = .ok (.iload 5, 2) := by decide +kernel
theorem dX8_copy_68 : decode cX8_copy 68 = .ok (.invokevirtual 92, 3) := by decide +kernel
theorem dX8_copy_71 : decode cX8_copy 71 = .ok (.ifCond .ne 9, 3) := by decide +kernel
theorem dX8_copy_74 : decode cX8_copy 74 = .ok (.aload_n 0, 1) := by decide +kernel
theorem dX8_copy_75 : decode cX8_copy 75 = .ok (.iconst 2, 1) := by decide +kernel
theorem dX8_copy_76 : decode cX8_copy 76 = .ok (.invokevirtual 81, 3) := by decide +kernel
theorem dX8_copy_79 : decode cX8_copy 79 = .ok (.ireturn, 1) := by decide +kernel
theorem dX8_copy_80 : decode cX8_copy 80 = .ok (.iconst 0, 1) := by decide +kernel
theorem dX8_copy_81 : decode cX8_copy 81 = .ok (.istore 6, 2) := by decide +kernel
theorem dX8_copy_83 : decode cX8_copy 83 = .ok (.iload 6, 2) := by decide +kernel
theorem dX8_copy_85 : decode cX8_copy 85 = .ok (.iload 5, 2) := by decide +kernel
theorem dX8_copy_87 : decode cX8_copy 87 = .ok (.if_icmp .ge 30, 3) := by decide +kernel
theorem dX8_copy_90 : decode cX8_copy 90 = .ok (.aload_n 0, 1) := by decide +kernel
theorem dX8_copy_91 : decode cX8_copy 91 = .ok (.getfield 16, 3) := by decide +kernel
theorem dX8_copy_94 : decode cX8_copy 94 = .ok (.iload 6, 2) := by decide +kernel
theorem dX8_copy_96 : decode cX8_copy 96 = .ok (.aload_n 0, 1) := by decide +kernel
theorem dX8_copy_97 : decode cX8_copy 97 = .ok (.getfield 13, 3) := by decide +kernel
theorem dX8_copy_100 : decode cX8_copy 100 = .ok (.bipush 40, 2) := by decide +kernel
theorem dX8_copy_102 : decode cX8_copy 102 = .ok (.iload_n 1, 1) := by decide +kernel
theorem dX8_copy_103 : decode cX8_copy 103 = .ok (.imul, 1) := by decide +kernel
theorem dX8_copy_104 : decode cX8_copy 104 = .ok (.iload_n 2, 1) := by decide +kernel
theorem dX8_copy_105 : decode cX8_copy 105 = .ok (.iadd, 1) := by decide +kernel
theorem dX8_copy_106 : decode cX8_copy 106 = .ok (.iload 6, 2) := by decide +kernel
theorem dX8_copy_108 : decode cX8_copy 108 = .ok (.iadd, 1) := by decide +kernel
theorem dX8_copy_109 : decode cX8_copy 109 = .ok (.iaload, 1) := by decide +kernel
theorem dX8_copy_110 : decode cX8_copy 110 = .ok (.iastore, 1) := by decide +kernel
theorem dX8_copy_111 : decode cX8_copy 111 = .ok (.iinc 6 1, 3) := by decide +kernel
theorem dX8_copy_114 : decode cX8_copy 114 = .ok (.goto (-31), 3) := by decide +kernel
theorem dX8_copy_117 : decode cX8_copy 117 = .ok (.iconst 0, 1) := by decide +kernel
theorem dX8_copy_118 : decode cX8_copy 118 = .ok (.istore 6, 2) := by decide +kernel
theorem dX8_copy_120 : decode cX8_copy 120 = .ok (.iload 6, 2) := by decide +kernel
theorem dX8_copy_122 : decode cX8_copy 122 = .ok (.iload 5, 2) := by decide +kernel
theorem dX8_copy_124 : decode cX8_copy 124 = .ok (.if_icmp .ge 31, 3) := by decide +kernel
theorem dX8_copy_127 : decode cX8_copy 127 = .ok (.aload_n 0, 1) := by decide +kernel
theorem dX8_copy_128 : decode cX8_copy 128 = .ok (.getfield 13, 3) := by decide +kernel
theorem dX8_copy_131 : decode cX8_copy 131 = .ok (.bipush 40, 2) := by decide +kernel
theorem dX8_copy_133 : decode cX8_copy 133 = .ok (.iload_n 3, 1) := by decide +kernel
theorem dX8_copy_134 : decode cX8_copy 134 = .ok (.imul, 1) := by decide +kernel
theorem dX8_copy_135 : decode cX8_copy 135 = .ok (.iload 4, 2) := by decide +kernel
theorem dX8_copy_137 : decode cX8_copy 137 = .ok (.iadd, 1) := by decide +kernel
theorem dX8_copy_138 : decode cX8_copy 138 = .ok (.iload 6, 2) := by decide +kernel
theorem dX8_copy_140 : decode cX8_copy 140 = .ok (.iadd, 1) := by decide +kernel
theorem dX8_copy_141 : decode cX8_copy 141 = .ok (.aload_n 0, 1) := by decide +kernel
theorem dX8_copy_142 : decode cX8_copy 142 = .ok (.getfield 16, 3) := by decide +kernel
theorem dX8_copy_145 : decode cX8_copy 145 = .ok (.iload 6, 2) := by decide +kernel
theorem dX8_copy_147 : decode cX8_copy 147 = .ok (.iaload, 1) := by decide +kernel
theorem dX8_copy_148 : decode cX8_copy 148 = .ok (.iastore, 1) := by decide +kernel
theorem dX8_copy_149 : decode cX8_copy 149 = .ok (.iinc 6 1, 3) := by decide +kernel
theorem dX8_copy_152 : decode cX8_copy 152 = .ok (.goto (-32), 3) := by decide +kernel
theorem dX8_copy_155 : decode cX8_copy 155 = .ok (.iconst 1, 1) := by decide +kernel
theorem dX8_copy_156 : decode cX8_copy 156 = .ok (.ireturn, 1) := by decide +kernel
theorem dX8_mean_0 : decode cX8_mean 0 = .ok (.iload_n 1, 1) := by decide +kernel
theorem dX8_mean_1 : decode cX8_mean 1 = .ok (.invokestatic 77, 3) := by decide +kernel
theorem dX8_mean_4 : decode cX8_mean 4 = .ok (.ifCond .ne 5, 3) := by decide +kernel
theorem dX8_mean_7 : decode cX8_mean 7 = .ok (.iconst (-1), 1) := by decide +kernel
theorem dX8_mean_8 : decode cX8_mean 8 = .ok (.ireturn, 1) := by decide +kernel
theorem dX8_mean_9 : decode cX8_mean 9 = .ok (.aload_n 0, 1) := by decide +kernel
theorem dX8_mean_10 : decode cX8_mean 10 = .ok (.getfield 7, 3) := by decide +kernel
theorem dX8_mean_13 : decode cX8_mean 13 = .ok (.iload_n 1, 1) := by decide +kernel
theorem dX8_mean_14 : decode cX8_mean 14 = .ok (.iaload, 1) := by decide +kernel
theorem dX8_mean_15 : decode cX8_mean 15 = .ok (.ifCond .ge 9, 3) := by decide +kernel
theorem dX8_mean_18 : decode cX8_mean 18 = .ok (.aload_n 0, 1) := by decide +kernel
theorem dX8_mean_19 : decode cX8_mean 19 = .ok (.iconst 1, 1) := by decide +kernel
theorem dX8_mean_20 : decode cX8_mean 20 = .ok (.invokevirtual 81, 3) := by decide +kernel
theorem dX8_mean_23 : decode cX8_mean 23 = .ok (.ireturn, 1) := by decide +kernel
theorem dX8_mean_24 : decode cX8_mean 24 = .ok (.aload_n 0, 1) := by decide +kernel
theorem dX8_mean_25 : decode cX8_mean 25 = .ok (.getfield 7, 3) := by decide +kernel
theorem dX8_mean_28 : decode cX8_mean 28 = .ok (.iload_n 1, 1) := by decide +kernel
theorem dX8_mean_29 : decode cX8_mean 29 = .ok (.iaload, 1) := by decide +kernel
theorem dX8_mean_30 : decode cX8_mean 30 = .ok (.ifCond .ne 9, 3) := by decide +kernel
theorem dX8_mean_33 : decode cX8_mean 33 = .ok (.aload_n 0, 1) := by decide +kernel
theorem dX8_mean_34 : decode cX8_mean 34 = .ok (.iconst 4, 1) := by decide +kernel
theorem dX8_mean_35 : decode cX8_mean 35 = .ok (.invokevirtual 81, 3) := by decide +kernel
theorem dX8_mean_38 : decode cX8_mean 38 = .ok (.ireturn, 1) := by decide +kernel
theorem dX8_mean_39 : decode cX8_mean 39 = .ok (.lconst 0, 1) := by decide +kernel
theorem dX8_mean_40 : decode cX8_mean 40 = .ok (.lstore_n 2, 1) := by decide +kernel
theorem dX8_mean_41 : decode cX8_mean 41 = .ok (.iconst 0, 1) := by decide +kernel
theorem dX8_mean_42 : decode cX8_mean 42 = .ok (.istore 4, 2) := by decide +kernel
theorem dX8_mean_44 : decode cX8_mean 44 = .ok (.iload 4, 2) := by decide +kernel
theorem dX8_mean_46 : decode cX8_mean 46 = .ok (.aload_n 0, 1) := by decide +kernel
theorem dX8_mean_47 : decode cX8_mean 47 = .ok (.getfield 7, 3) := by decide +kernel
theorem dX8_mean_50 : decode cX8_mean 50 = .ok (.iload_n 1, 1) := by decide +kernel
theorem dX8_mean_51 : decode cX8_mean 51 = .ok (.iaload, 1) := by decide +kernel
theorem dX8_mean_52 : decode cX8_mean 52 = .ok (.if_icmp .ge 25, 3) := by decide +kernel
theorem dX8_mean_55 : decode cX8_mean 55 = .ok (.lload_n 2, 1) := by decide +kernel
theorem dX8_mean_56 : decode cX8_mean 56 = .ok (.aload_n 0, 1) := by decide +kernel
theorem dX8_mean_57 : decode cX8_mean 57 = .ok (.getfield 13, 3) := by decide +kernel
theorem dX8_mean_60 : decode cX8_mean 60 = .ok (.bipush 40, 2) := by decide +kernel
theorem dX8_mean_62 : decode cX8_mean 62 = .ok (.iload_n 1, 1) := by decide +kernel
theorem dX8_mean_63 : decode cX8_mean 63 = .ok (.imul, 1) := by decide +kernel
theorem dX8_mean_64 : decode cX8_mean 64 = .ok (.iload 4, 2) := by decide +kernel
theorem dX8_mean_66 : decode cX8_mean 66 = .ok (.iadd, 1) := by decide +kernel
theorem dX8_mean_67 : decode cX8_mean 67 = .ok (.iaload, 1) := by decide +kernel
theorem dX8_mean_68 : decode cX8_mean 68 = .ok (.i2l, 1) := by decide +kernel
theorem dX8_mean_69 : decode cX8_mean 69 = .ok (.ladd, 1) := by decide +kernel
theorem dX8_mean_70 : decode cX8_mean 70 = .ok (.lstore_n 2, 1) := by decide +kernel
theorem dX8_mean_71 : decode cX8_mean 71 = .ok (.iinc 4 1, 3) := by decide +kernel
theorem dX8_mean_74 : decode cX8_mean 74 = .ok (.goto (-30), 3) := by decide +kernel
theorem dX8_mean_77 : decode cX8_mean 77 = .ok (.aload_n 0, 1) := by decide +kernel
theorem dX8_mean_78 : decode cX8_mean 78 = .ok (.lload_n 2, 1) := by decide +kernel
theorem dX8_mean_79 : decode cX8_mean 79 = .ok (.aload_n 0, 1) := by decide +kernel
theorem dX8_mean_80 : decode cX8_mean 80 = .ok (.getfield 7, 3) := by decide +kernel
theorem dX8_mean_83 : decode cX8_mean 83 = .ok (.iload_n 1, 1) := by decide +kernel
theorem dX8_mean_84 : decode cX8_mean 84 = .ok (.iaload, 1) := by decide +kernel
theorem dX8_mean_85 : decode cX8_mean 85 = .ok (.i2l, 1) := by decide +kernel
theorem dX8_mean_86 : decode cX8_mean 86 = .ok (.ldiv, 1) := by decide +kernel
theorem dX8_mean_87 : decode cX8_mean 87 = .ok (.l2i, 1) := by decide +kernel
theorem dX8_mean_88 : decode cX8_mean 88 = .ok (.invokevirtual 89, 3) := by decide +kernel
theorem dX8_mean_91 : decode cX8_mean 91 = .ok (.ireturn, 1) := by decide +kernel
theorem dX8_text_0 : decode cX8_text 0 = .ok (.iload_n 1, 1) := by decide +kernel
end
section
theorem dX8_text_1 : decode cX8_text 1 = .ok (.invokestatic 95, 3) := by decide +kernel
theorem dX8_text_4 : decode cX8_text 4 = .ok (.ifCond .eq 9, 3) := by decide +kernel
theorem dX8_text_7 : decode cX8_text 7 = .ok (.iload_n 2, 1) := by decide +kernel
theorem dX8_text_8 : decode cX8_text 8 = .ok (.bipush 60, 2) := by decide +kernel
theorem dX8_text_10 : decode cX8_text 10 = .ok (.if_icmp .le 5, 3) := by decide +kernel
theorem dX8_text_13 : decode cX8_text 13 = .ok (.iconst (-1), 1) := by decide +kernel
theorem dX8_text_14 : decode cX8_text 14 = .ok (.ireturn, 1) := by decide +kernel
theorem dX8_text_15 : decode cX8_text 15 = .ok (.iload_n 2, 1) := by decide +kernel
theorem dX8_text_16 : decode cX8_text 16 = .ok (.ifCond .ge 9, 3) := by decide +kernel
theorem dX8_text_19 : decode cX8_text 19 = .ok (.aload_n 0, 1) := by decide +kernel
theorem dX8_text_20 : decode cX8_text 20 = .ok (.iconst 5, 1) := by decide +kernel
theorem dX8_text_21 : decode cX8_text 21 = .ok (.invokevirtual 81, 3) := by decide +kernel
theorem dX8_text_24 : decode cX8_text 24 = .ok (.ireturn, 1) := by decide +kernel
theorem dX8_text_25 : decode cX8_text 25 = .ok (.aload_n 0, 1) := by decide +kernel
theorem dX8_text_26 : decode cX8_text 26 = .ok (.getfield 19, 3) := by decide +kernel
theorem dX8_text_29 : decode cX8_text 29 = .ok (.iload_n 1, 1) := by decide +kernel
theorem dX8_text_30 : decode cX8_text 30 = .ok (.iload_n 2, 1) := by decide +kernel
theorem dX8_text_31 : decode cX8_text 31 = .ok (.iastore, 1) := by decide +kernel
theorem dX8_text_32 : decode cX8_text 32 = .ok (.iconst 0, 1) := by decide +kernel
theorem dX8_text_33 : decode cX8_text 33 = .ok (.istore_n 3, 1) := by decide +kernel
theorem dX8_text_34 : decode cX8_text 34 = .ok (.iload_n 3, 1) := by decide +kernel
theorem dX8_text_35 : decode cX8_text 35 = .ok (.bipush 60, 2) := by decide +kernel
theorem dX8_text_37 : decode cX8_text 37 = .ok (.if_icmp .ge 22, 3) := by decide +kernel
theorem dX8_text_40 : decode cX8_text 40 = .ok (.aload_n 0, 1) := by decide +kernel
theorem dX8_text_41 : decode cX8_text 41 = .ok (.getfield 22, 3) := by decide +kernel
theorem dX8_text_44 : decode cX8_text 44 = .ok (.bipush 60, 2) := by decide +kernel
theorem dX8_text_46 : decode cX8_text 46 = .ok (.iload_n 1, 1) := by decide +kernel
theorem dX8_text_47 : decode cX8_text 47 = .ok (.imul, 1) := by decide +kernel
theorem dX8_text_48 : decode cX8_text 48 = .ok (.iload_n 3, 1) := by decide +kernel
theorem dX8_text_49 : decode cX8_text 49 = .ok (.iadd, 1) := by decide +kernel
theorem dX8_text_50 : decode cX8_text 50 = .ok (.bipush 32, 2) := by decide +kernel
theorem dX8_text_52 : decode cX8_text 52 = .ok (.bastore, 1) := by decide +kernel
theorem dX8_text_53 : decode cX8_text 53 = .ok (.iinc 3 1, 3) := by decide +kernel
theorem dX8_text_56 : decode cX8_text 56 = .ok (.goto (-22), 3) := by decide +kernel
theorem dX8_text_59 : decode cX8_text 59 = .ok (.iload_n 2, 1) := by decide +kernel
theorem dX8_text_60 : decode cX8_text 60 = .ok (.ireturn, 1) := by decide +kernel
theorem dX8_put_0 : decode cX8_put 0 = .ok (.iload_n 1, 1) := by decide +kernel
theorem dX8_put_1 : decode cX8_put 1 = .ok (.invokestatic 95, 3) := by decide +kernel
theorem dX8_put_4 : decode cX8_put 4 = .ok (.ifCond .ne 5, 3) := by decide +kernel
theorem dX8_put_7 : decode cX8_put 7 = .ok (.iconst (-1), 1) := by decide +kernel
theorem dX8_put_8 : decode cX8_put 8 = .ok (.ireturn, 1) := by decide +kernel
theorem dX8_put_9 : decode cX8_put 9 = .ok (.aload_n 0, 1) := by decide +kernel
theorem dX8_put_10 : decode cX8_put 10 = .ok (.getfield 19, 3) := by decide +kernel
theorem dX8_put_13 : decode cX8_put 13 = .ok (.iload_n 1, 1) := by decide +kernel
theorem dX8_put_14 : decode cX8_put 14 = .ok (.iaload, 1) := by decide +kernel
theorem dX8_put_15 : decode cX8_put 15 = .ok (.ifCond .ge 9, 3) := by decide +kernel
theorem dX8_put_18 : decode cX8_put 18 = .ok (.aload_n 0, 1) := by decide +kernel
theorem dX8_put_19 : decode cX8_put 19 = .ok (.iconst 1, 1) := by decide +kernel
theorem dX8_put_20 : decode cX8_put 20 = .ok (.invokevirtual 81, 3) := by decide +kernel
theorem dX8_put_23 : decode cX8_put 23 = .ok (.ireturn, 1) := by decide +kernel
theorem dX8_put_24 : decode cX8_put 24 = .ok (.iload_n 2, 1) := by decide +kernel
theorem dX8_put_25 : decode cX8_put 25 = .ok (.iconst 0, 1) := by decide +kernel
theorem dX8_put_26 : decode cX8_put 26 = .ok (.aload_n 0, 1) := by decide +kernel
theorem dX8_put_27 : decode cX8_put 27 = .ok (.getfield 19, 3) := by decide +kernel
theorem dX8_put_30 : decode cX8_put 30 = .ok (.iload_n 1, 1) := by decide +kernel
theorem dX8_put_31 : decode cX8_put 31 = .ok (.iaload, 1) := by decide +kernel
theorem dX8_put_32 : decode cX8_put 32 = .ok (.iconst 1, 1) := by decide +kernel
theorem dX8_put_33 : decode cX8_put 33 = .ok (.isub, 1) := by decide +kernel
theorem dX8_put_34 : decode cX8_put 34 = .ok (.invokestatic 73, 3) := by decide +kernel
theorem dX8_put_37 : decode cX8_put 37 = .ok (.ifCond .ne 9, 3) := by decide +kernel
theorem dX8_put_40 : decode cX8_put 40 = .ok (.aload_n 0, 1) := by decide +kernel
theorem dX8_put_41 : decode cX8_put 41 = .ok (.iconst 2, 1) := by decide +kernel
theorem dX8_put_42 : decode cX8_put 42 = .ok (.invokevirtual 81, 3) := by decide +kernel
theorem dX8_put_45 : decode cX8_put 45 = .ok (.ireturn, 1) := by decide +kernel
theorem dX8_put_46 : decode cX8_put 46 = .ok (.aload_n 0, 1) := by decide +kernel
theorem dX8_put_47 : decode cX8_put 47 = .ok (.getfield 22, 3) := by decide +kernel
theorem dX8_put_50 : decode cX8_put 50 = .ok (.bipush 60, 2) := by decide +kernel
theorem dX8_put_52 : decode cX8_put 52 = .ok (.iload_n 1, 1) := by decide +kernel
theorem dX8_put_53 : decode cX8_put 53 = .ok (.imul, 1) := by decide +kernel
theorem dX8_put_54 : decode cX8_put 54 = .ok (.iload_n 2, 1) := by decide +kernel
theorem dX8_put_55 : decode cX8_put 55 = .ok (.iadd, 1) := by decide +kernel
theorem dX8_put_56 : decode cX8_put 56 = .ok (.baload, 1) := by decide +kernel
theorem dX8_put_57 : decode cX8_put 57 = .ok (.istore 4, 2) := by decide +kernel
theorem dX8_put_59 : decode cX8_put 59 = .ok (.aload_n 0, 1) := by decide +kernel
theorem dX8_put_60 : decode cX8_put 60 = .ok (.getfield 22, 3) := by decide +kernel
theorem dX8_put_63 : decode cX8_put 63 = .ok (.bipush 60, 2) := by decide +kernel
theorem dX8_put_65 : decode cX8_put 65 = .ok (.iload_n 1, 1) := by decide +kernel
theorem dX8_put_66 : decode cX8_put 66 = .ok (.imul, 1) := by decide +kernel
theorem dX8_put_67 : decode cX8_put 67 = .ok (.iload_n 2, 1) := by decide +kernel
theorem dX8_put_68 : decode cX8_put 68 = .ok (.iadd, 1) := by decide +kernel
theorem dX8_put_69 : decode cX8_put 69 = .ok (.iload_n 3, 1) := by decide +kernel
theorem dX8_put_70 : decode cX8_put 70 = .ok (.i2b, 1) := by decide +kernel
theorem dX8_put_71 : decode cX8_put 71 = .ok (.bastore, 1) := by decide +kernel
theorem dX8_put_72 : decode cX8_put 72 = .ok (.iload 4, 2) := by decide +kernel
theorem dX8_put_74 : decode cX8_put 74 = .ok (.sipush 1000, 3) := by decide +kernel
theorem dX8_put_77 : decode cX8_put 77 = .ok (.iadd, 1) := by decide +kernel
theorem dX8_put_78 : decode cX8_put 78 = .ok (.ireturn, 1) := by decide +kernel
theorem dX8_byteAt_0 : decode cX8_byteAt 0 = .ok (.iload_n 2, 1) := by decide +kernel
theorem dX8_byteAt_1 : decode cX8_byteAt 1 = .ok (.aload_n 0, 1) := by decide +kernel
theorem dX8_byteAt_2 : decode cX8_byteAt 2 = .ok (.getfield 19, 3) := by decide +kernel
theorem dX8_byteAt_5 : decode cX8_byteAt 5 = .ok (.iload_n 1, 1) := by decide +kernel
theorem dX8_byteAt_6 : decode cX8_byteAt 6 = .ok (.iaload, 1) := by decide +kernel
theorem dX8_byteAt_7 : decode cX8_byteAt 7 = .ok (.if_icmp .ge 17, 3) := by decide +kernel
theorem dX8_byteAt_10 : decode cX8_byteAt 10 = .ok (.aload_n 0, 1) := by decide +kernel
theorem dX8_byteAt_11 : decode cX8_byteAt 11 = .ok (.getfield 22, 3) := by decide +kernel
theorem dX8_byteAt_14 : decode cX8_byteAt 14 = .ok (.bipush 60, 2) := by decide +kernel
theorem dX8_byteAt_16 : decode cX8_byteAt 16 = .ok (.iload_n 1, 1) := by decide +kernel
theorem dX8_byteAt_17 : decode cX8_byteAt 17 = .ok (.imul, 1) := by decide +kernel
theorem dX8_byteAt_18 : decode cX8_byteAt 18 = .ok (.iload_n 2, 1) := by decide +kernel
theorem dX8_byteAt_19 : decode cX8_byteAt 19 = .ok (.iadd, 1) := by decide +kernel
theorem dX8_byteAt_20 : decode cX8_byteAt 20 = .ok (.baload, 1) := by decide +kernel
theorem dX8_byteAt_21 : decode cX8_byteAt 21 = .ok (.goto 6, 3) := by decide +kernel
theorem dX8_byteAt_24 : decode cX8_byteAt 24 = .ok (.sipush (-1000), 3) := by decide +kernel
theorem dX8_byteAt_27 : decode cX8_byteAt 27 = .ok (.ireturn, 1) := by decide +kernel
theorem dX8_skips_0 : decode cX8_skips 0 = .ok (.iload_n 2, 1) := by decide +kernel
theorem dX8_skips_1 : decode cX8_skips 1 = .ok (.istore_n 3, 1) := by decide +kernel
theorem dX8_skips_2 : decode cX8_skips 2 = .ok (.aload_n 0, 1) := by decide +kernel
theorem dX8_skips_3 : decode cX8_skips 3 = .ok (.iload_n 1, 1) := by decide +kernel
theorem dX8_skips_4 : decode cX8_skips 4 = .ok (.iload_n 3, 1) := by decide +kernel
theorem dX8_skips_5 : decode cX8_skips 5 = .ok (.invokevirtual 98, 3) := by decide +kernel
theorem dX8_skips_8 : decode cX8_skips 8 = .ok (.bipush 32, 2) := by decide +kernel
theorem dX8_skips_10 : decode cX8_skips 10 = .ok (.if_icmp .ne 9, 3) := by decide +kernel
theorem dX8_skips_13 : decode cX8_skips 13 = .ok (.iinc 3 1, 3) := by decide +kernel
theorem dX8_skips_16 : decode cX8_skips 16 = .ok (.goto (-14), 3) := by decide +kernel
theorem dX8_skips_19 : decode cX8_skips 19 = .ok (.iload_n 3, 1) := by decide +kernel
theorem dX8_skips_20 : decode cX8_skips 20 = .ok (.ireturn, 1) := by decide +kernel
theorem dX8_kindBy_0 : decode cX8_kindBy 0 = .ok (.iload_n 0, 1) := by decide +kernel
theorem dX8_kindBy_1 : decode cX8_kindBy 1 = .ok (.bipush 102, 2) := by decide +kernel
theorem dX8_kindBy_3 : decode cX8_kindBy 3 = .ok (.if_icmp .ne 7, 3) := by decide +kernel
theorem dX8_kindBy_6 : decode cX8_kindBy 6 = .ok (.iconst 0, 1) := by decide +kernel
theorem dX8_kindBy_7 : decode cX8_kindBy 7 = .ok (.goto 55, 3) := by decide +kernel
theorem dX8_kindBy_10 : decode cX8_kindBy 10 = .ok (.iload_n 0, 1) := by decide +kernel
theorem dX8_kindBy_11 : decode cX8_kindBy 11 = .ok (.bipush 115, 2) := by decide +kernel
theorem dX8_kindBy_13 : decode cX8_kindBy 13 = .ok (.if_icmp .ne 7, 3) := by decide +kernel
theorem dX8_kindBy_16 : decode cX8_kindBy 16 = .ok (.iconst 1, 1) := by decide +kernel
theorem dX8_kindBy_17 : decode cX8_kindBy 17 = .ok (.goto 45, 3) := by decide +kernel
theorem dX8_kindBy_20 : decode cX8_kindBy 20 = .ok (.iload_n 0, 1) := by decide +kernel
theorem dX8_kindBy_21 : decode cX8_kindBy 21 = .ok (.bipush 107, 2) := by decide +kernel
theorem dX8_kindBy_23 : decode cX8_kindBy 23 = .ok (.if_icmp .ne 7, 3) := by decide +kernel
theorem dX8_kindBy_26 : decode cX8_kindBy 26 = .ok (.iconst 2, 1) := by decide +kernel
theorem dX8_kindBy_27 : decode cX8_kindBy 27 = .ok (.goto 35, 3) := by decide +kernel
theorem dX8_kindBy_30 : decode cX8_kindBy 30 = .ok (.iload_n 0, 1) := by decide +kernel
theorem dX8_kindBy_31 : decode cX8_kindBy 31 = .ok (.bipush 98, 2) := by decide +kernel
theorem dX8_kindBy_33 : decode cX8_kindBy 33 = .ok (.if_icmp .ne 7, 3) := by decide +kernel
theorem dX8_kindBy_36 : decode cX8_kindBy 36 = .ok (.iconst 3, 1) := by decide +kernel
theorem dX8_kindBy_37 : decode cX8_kindBy 37 = .ok (.goto 25, 3) := by decide +kernel
theorem dX8_kindBy_40 : decode cX8_kindBy 40 = .ok (.iload_n 0, 1) := by decide +kernel
theorem dX8_kindBy_41 : decode cX8_kindBy 41 = .ok (.bipush 116, 2) := by decide +kernel
theorem dX8_kindBy_43 : decode cX8_kindBy 43 = .ok (.if_icmp .ne 7, 3) := by decide +kernel
theorem dX8_kindBy_46 : decode cX8_kindBy 46 = .ok (.iconst 4, 1) := by decide +kernel
theorem dX8_kindBy_47 : decode cX8_kindBy 47 = .ok (.goto 15, 3) := by decide +kernel
theorem dX8_kindBy_50 : decode cX8_kindBy 50 = .ok (.iload_n 0, 1) := by decide +kernel
theorem dX8_kindBy_51 : decode cX8_kindBy 51 = .ok (.bipush 113, 2) := by decide +kernel
theorem dX8_kindBy_53 : decode cX8_kindBy 53 = .ok (.if_icmp .ne 7, 3) := by decide +kernel
theorem dX8_kindBy_56 : decode cX8_kindBy 56 = .ok (.iconst 5, 1) := by decide +kernel
theorem dX8_kindBy_57 : decode cX8_kindBy 57 = .ok (.goto 5, 3) := by decide +kernel
theorem dX8_kindBy_60 : decode cX8_kindBy 60 = .ok (.bipush (-9), 2) := by decide +kernel
theorem dX8_kindBy_62 : decode cX8_kindBy 62 = .ok (.ireturn, 1) := by decide +kernel
theorem dX8_reads_0 : decode cX8_reads 0 = .ok (.iconst 0, 1) := by decide +kernel
theorem dX8_reads_1 : decode cX8_reads 1 = .ok (.istore_n 2, 1) := by decide +kernel
theorem dX8_reads_2 : decode cX8_reads 2 = .ok (.iload_n 2, 1) := by decide +kernel
theorem dX8_reads_3 : decode cX8_reads 3 = .ok (.bipush 33, 2) := by decide +kernel
theorem dX8_reads_5 : decode cX8_reads 5 = .ok (.if_icmp .ge 16, 3) := by decide +kernel
theorem dX8_reads_8 : decode cX8_reads 8 = .ok (.aload_n 0, 1) := by decide +kernel
theorem dX8_reads_9 : decode cX8_reads 9 = .ok (.getfield 29, 3) := by decide +kernel
theorem dX8_reads_12 : decode cX8_reads 12 = .ok (.iload_n 2, 1) := by decide +kernel
theorem dX8_reads_13 : decode cX8_reads 13 = .ok (.iconst 0, 1) := by decide +kernel
theorem dX8_reads_14 : decode cX8_reads 14 = .ok (.iastore, 1) := by decide +kernel
theorem dX8_reads_15 : decode cX8_reads 15 = .ok (.iinc 2 1, 3) := by decide +kernel
theorem dX8_reads_18 : decode cX8_reads 18 = .ok (.goto (-16), 3) := by decide +kernel
theorem dX8_reads_21 : decode cX8_reads 21 = .ok (.aload_n 0, 1) := by decide +kernel
theorem dX8_reads_22 : decode cX8_reads 22 = .ok (.iload_n 1, 1) := by decide +kernel
theorem dX8_reads_23 : decode cX8_reads 23 = .ok (.iconst 0, 1) := by decide +kernel
theorem dX8_reads_24 : decode cX8_reads 24 = .ok (.invokevirtual 102, 3) := by decide +kernel
theorem dX8_reads_27 : decode cX8_reads 27 = .ok (.istore_n 2, 1) := by decide +kernel
theorem dX8_reads_28 : decode cX8_reads 28 = .ok (.aload_n 0, 1) := by decide +kernel
theorem dX8_reads_29 : decode cX8_reads 29 = .ok (.iload_n 1, 1) := by decide +kernel
theorem dX8_reads_30 : decode cX8_reads 30 = .ok (.iload_n 2, 1) := by decide +kernel
theorem dX8_reads_31 : decode cX8_reads 31 = .ok (.invokevirtual 98, 3) := by decide +kernel
theorem dX8_reads_34 : decode cX8_reads 34 = .ok (.bipush 49, 2) := by decide +kernel
theorem dX8_reads_36 : decode cX8_reads 36 = .ok (.bipush 57, 2) := by decide +kernel
theorem dX8_reads_38 : decode cX8_reads 38 = .ok (.invokestatic 73, 3) := by decide +kernel
theorem dX8_reads_41 : decode cX8_reads 41 = .ok (.ifCond .ne 5, 3) := by decide +kernel
theorem dX8_reads_44 : decode cX8_reads 44 = .ok (.iload_n 2, 1) := by decide +kernel
theorem dX8_reads_45 : decode cX8_reads 45 = .ok (.ireturn, 1) := by decide +kernel
theorem dX8_reads_46 : decode cX8_reads 46 = .ok (.aload_n 0, 1) := by decide +kernel
theorem dX8_reads_47 : decode cX8_reads 47 = .ok (.getfield 29, 3) := by decide +kernel
theorem dX8_reads_50 : decode cX8_reads 50 = .ok (.iconst 0, 1) := by decide +kernel
theorem dX8_reads_51 : decode cX8_reads 51 = .ok (.aload_n 0, 1) := by decide +kernel
theorem dX8_reads_52 : decode cX8_reads 52 = .ok (.iload_n 1, 1) := by decide +kernel
theorem dX8_reads_53 : decode cX8_reads 53 = .ok (.iload_n 2, 1) := by decide +kernel
theorem dX8_reads_54 : decode cX8_reads 54 = .ok (.invokevirtual 98, 3) := by decide +kernel
theorem dX8_reads_57 : decode cX8_reads 57 = .ok (.bipush 48, 2) := by decide +kernel
theorem dX8_reads_59 : decode cX8_reads 59 = .ok (.isub, 1) := by decide +kernel
theorem dX8_reads_60 : decode cX8_reads 60 = .ok (.iastore, 1) := by decide +kernel
theorem dX8_reads_61 : decode cX8_reads 61 = .ok (.aload_n 0, 1) := by decide +kernel
theorem dX8_reads_62 : decode cX8_reads 62 = .ok (.iload_n 1, 1) := by decide +kernel
theorem dX8_reads_63 : decode cX8_reads 63 = .ok (.iload_n 2, 1) := by decide +kernel
theorem dX8_reads_64 : decode cX8_reads 64 = .ok (.iconst 1, 1) := by decide +kernel
theorem dX8_reads_65 : decode cX8_reads 65 = .ok (.iadd, 1) := by decide +kernel
theorem dX8_reads_66 : decode cX8_reads 66 = .ok (.invokevirtual 102, 3) := by decide +kernel
theorem dX8_reads_69 : decode cX8_reads 69 = .ok (.istore_n 2, 1) := by decide +kernel
theorem dX8_reads_70 : decode cX8_reads 70 = .ok (.iload_n 2, 1) := by decide +kernel
theorem dX8_reads_71 : decode cX8_reads 71 = .ok (.aload_n 0, 1) := by decide +kernel
theorem dX8_reads_72 : decode cX8_reads 72 = .ok (.getfield 19, 3) := by decide +kernel
theorem dX8_reads_75 : decode cX8_reads 75 = .ok (.iload_n 1, 1) := by decide +kernel
theorem dX8_reads_76 : decode cX8_reads 76 = .ok (.iaload, 1) := by decide +kernel
theorem dX8_reads_77 : decode cX8_reads 77 = .ok (.if_icmp .ge 166, 3) := by decide +kernel
theorem dX8_reads_80 : decode cX8_reads 80 = .ok (.aload_n 0, 1) := by decide +kernel
theorem dX8_reads_81 : decode cX8_reads 81 = .ok (.getfield 29, 3) := by decide +kernel
theorem dX8_reads_84 : decode cX8_reads 84 = .ok (.bipush 18, 2) := by decide +kernel
theorem dX8_reads_86 : decode cX8_reads 86 = .ok (.iaload, 1) := by decide +kernel
theorem dX8_reads_87 : decode cX8_reads 87 = .ok (.istore_n 3, 1) := by decide +kernel
theorem dX8_reads_88 : decode cX8_reads 88 = .ok (.aload_n 0, 1) := by decide +kernel
theorem dX8_reads_89 : decode cX8_reads 89 = .ok (.iload_n 1, 1) := by decide +kernel
theorem dX8_reads_90 : decode cX8_reads 90 = .ok (.iload_n 2, 1) := by decide +kernel
theorem dX8_reads_91 : decode cX8_reads 91 = .ok (.invokevirtual 98, 3) := by decide +kernel
theorem dX8_reads_94 : decode cX8_reads 94 = .ok (.invokestatic 105, 3) := by decide +kernel
theorem dX8_reads_97 : decode cX8_reads 97 = .ok (.istore 4, 2) := by decide +kernel
theorem dX8_reads_99 : decode cX8_reads 99 = .ok (.iload 4, 2) := by decide +kernel
theorem dX8_reads_101 : decode cX8_reads 101 = .ok (.bipush (-9), 2) := by decide +kernel
theorem dX8_reads_103 : decode cX8_reads 103 = .ok (.if_icmp .eq 9, 3) := by decide +kernel
theorem dX8_reads_106 : decode cX8_reads 106 = .ok (.iload_n 3, 1) := by decide +kernel
theorem dX8_reads_107 : decode cX8_reads 107 = .ok (.bipush 7, 2) := by decide +kernel
theorem dX8_reads_109 : decode cX8_reads 109 = .ok (.if_icmp .ne 5, 3) := by decide +kernel
theorem dX8_reads_112 : decode cX8_reads 112 = .ok (.iload_n 2, 1) := by decide +kernel
theorem dX8_reads_113 : decode cX8_reads 113 = .ok (.ireturn, 1) := by decide +kernel
theorem dX8_reads_114 : decode cX8_reads 114 = .ok (.iconst 1, 1) := by decide +kernel
theorem dX8_reads_115 : decode cX8_reads 115 = .ok (.istore 5, 2) := by decide +kernel
theorem dX8_reads_117 : decode cX8_reads 117 = .ok (.iload 5, 2) := by decide +kernel
theorem dX8_reads_119 : decode cX8_reads 119 = .ok (.iconst 3, 1) := by decide +kernel
theorem dX8_reads_120 : decode cX8_reads 120 = .ok (.if_icmp .ge 33, 3) := by decide +kernel
theorem dX8_reads_123 : decode cX8_reads 123 = .ok (.aload_n 0, 1) := by decide +kernel
theorem dX8_reads_124 : decode cX8_reads 124 = .ok (.iload_n 1, 1) := by decide +kernel
theorem dX8_reads_125 : decode cX8_reads 125 = .ok (.iload_n 2, 1) := by decide +kernel
theorem dX8_reads_126 : decode cX8_reads 126 = .ok (.iload 5, 2) := by decide +kernel
theorem dX8_reads_128 : decode cX8_reads 128 = .ok (.iadd, 1) := by decide +kernel
theorem dX8_reads_129 : decode cX8_reads 129 = .ok (.invokevirtual 98, 3) := by decide +kernel
theorem dX8_reads_132 : decode cX8_reads 132 = .ok (.bipush 48, 2) := by decide +kernel
theorem dX8_reads_134 : decode cX8_reads 134 = .ok (.bipush 57, 2) := by decide +kernel
theorem dX8_reads_136 : decode cX8_reads 136 = .ok (.invokestatic 73, 3) := by decide +kernel
theorem dX8_reads_139 : decode cX8_reads 139 = .ok (.ifCond .ne 8, 3) := by decide +kernel
theorem dX8_reads_142 : decode cX8_reads 142 = .ok (.iload_n 2, 1) := by decide +kernel
theorem dX8_reads_143 : decode cX8_reads 143 = .ok (.iload 5, 2) := by decide +kernel
theorem dX8_reads_145 : decode cX8_reads 145 = .ok (.iadd, 1) := by decide +kernel
theorem dX8_reads_146 : decode cX8_reads 146 = .ok (.ireturn, 1) := by decide +kernel
theorem dX8_reads_147 : decode cX8_reads 147 = .ok (.iinc 5 1, 3) := by decide +kernel
theorem dX8_reads_150 : decode cX8_reads 150 = .ok (.goto (-33), 3) := by decide +kernel
theorem dX8_reads_153 : decode cX8_reads 153 = .ok (.aload_n 0, 1) := by decide +kernel
theorem dX8_reads_154 : decode cX8_reads 154 = .ok (.getfield 29, 3) := by decide +kernel
theorem dX8_reads_157 : decode cX8_reads 157 = .ok (.bipush 19, 2) := by decide +kernel
theorem dX8_reads_159 : decode cX8_reads 159 = .ok (.iload_n 3, 1) := by decide +kernel
theorem dX8_reads_160 : decode cX8_reads 160 = .ok (.iadd, 1) := by decide +kernel
theorem dX8_reads_161 : decode cX8_reads 161 = .ok (.iload 4, 2) := by decide +kernel
theorem dX8_reads_163 : decode cX8_reads 163 = .ok (.iastore, 1) := by decide +kernel
theorem dX8_reads_164 : decode cX8_reads 164 = .ok (.aload_n 0, 1) := by decide +kernel
theorem dX8_reads_165 : decode cX8_reads 165 = .ok (.getfield 29, 3) := by decide +kernel
theorem dX8_reads_168 : decode cX8_reads 168 = .ok (.iconst 4, 1) := by decide +kernel
theorem dX8_reads_169 : decode cX8_reads 169 = .ok (.iload_n 3, 1) := by decide +kernel
theorem dX8_reads_170 : decode cX8_reads 170 = .ok (.iadd, 1) := by decide +kernel
theorem dX8_reads_171 : decode cX8_reads 171 = .ok (.aload_n 0, 1) := by decide +kernel
theorem dX8_reads_172 : decode cX8_reads 172 = .ok (.iload_n 1, 1) := by decide +kernel
theorem dX8_reads_173 : decode cX8_reads 173 = .ok (.iload_n 2, 1) := by decide +kernel
theorem dX8_reads_174 : decode cX8_reads 174 = .ok (.iconst 1, 1) := by decide +kernel
theorem dX8_reads_175 : decode cX8_reads 175 = .ok (.iadd, 1) := by decide +kernel
theorem dX8_reads_176 : decode cX8_reads 176 = .ok (.invokevirtual 98, 3) := by decide +kernel
theorem dX8_reads_179 : decode cX8_reads 179 = .ok (.bipush 48, 2) := by decide +kernel
theorem dX8_reads_181 : decode cX8_reads 181 = .ok (.isub, 1) := by decide +kernel
theorem dX8_reads_182 : decode cX8_reads 182 = .ok (.iastore, 1) := by decide +kernel
theorem dX8_reads_183 : decode cX8_reads 183 = .ok (.aload_n 0, 1) := by decide +kernel
theorem dX8_reads_184 : decode cX8_reads 184 = .ok (.getfield 29, 3) := by decide +kernel
theorem dX8_reads_187 : decode cX8_reads 187 = .ok (.bipush 11, 2) := by decide +kernel
theorem dX8_reads_189 : decode cX8_reads 189 = .ok (.iload_n 3, 1) := by decide +kernel
theorem dX8_reads_190 : decode cX8_reads 190 = .ok (.iadd, 1) := by decide +kernel
theorem dX8_reads_191 : decode cX8_reads 191 = .ok (.aload_n 0, 1) := by decide +kernel
theorem dX8_reads_192 : decode cX8_reads 192 = .ok (.getfield 29, 3) := by decide +kernel
theorem dX8_reads_195 : decode cX8_reads 195 = .ok (.iconst 4, 1) := by decide +kernel
theorem dX8_reads_196 : decode cX8_reads 196 = .ok (.iload_n 3, 1) := by decide +kernel
theorem dX8_reads_197 : decode cX8_reads 197 = .ok (.iadd, 1) := by decide +kernel
theorem dX8_reads_198 : decode cX8_reads 198 = .ok (.iaload, 1) := by decide +kernel
theorem dX8_reads_199 : decode cX8_reads 199 = .ok (.iastore, 1) := by decide +kernel
theorem dX8_reads_200 : decode cX8_reads 200 = .ok (.aload_n 0, 1) := by decide +kernel
theorem dX8_reads_201 : decode cX8_reads 201 = .ok (.getfield 29, 3) := by decide +kernel
theorem dX8_reads_204 : decode cX8_reads 204 = .ok (.bipush 26, 2) := by decide +kernel
theorem dX8_reads_206 : decode cX8_reads 206 = .ok (.iload_n 3, 1) := by decide +kernel
theorem dX8_reads_207 : decode cX8_reads 207 = .ok (.iadd, 1) := by decide +kernel
theorem dX8_reads_208 : decode cX8_reads 208 = .ok (.aload_n 0, 1) := by decide +kernel
theorem dX8_reads_209 : decode cX8_reads 209 = .ok (.iload_n 1, 1) := by decide +kernel
theorem dX8_reads_210 : decode cX8_reads 210 = .ok (.iload_n 2, 1) := by decide +kernel
theorem dX8_reads_211 : decode cX8_reads 211 = .ok (.iconst 2, 1) := by decide +kernel
theorem dX8_reads_212 : decode cX8_reads 212 = .ok (.iadd, 1) := by decide +kernel
theorem dX8_reads_213 : decode cX8_reads 213 = .ok (.invokevirtual 98, 3) := by decide +kernel
theorem dX8_reads_216 : decode cX8_reads 216 = .ok (.bipush 48, 2) := by decide +kernel
theorem dX8_reads_218 : decode cX8_reads 218 = .ok (.isub, 1) := by decide +kernel
theorem dX8_reads_219 : decode cX8_reads 219 = .ok (.iastore, 1) := by decide +kernel
theorem dX8_reads_220 : decode cX8_reads 220 = .ok (.aload_n 0, 1) := by decide +kernel
theorem dX8_reads_221 : decode cX8_reads 221 = .ok (.getfield 29, 3) := by decide +kernel
theorem dX8_reads_224 : decode cX8_reads 224 = .ok (.bipush 18, 2) := by decide +kernel
theorem dX8_reads_226 : decode cX8_reads 226 = .ok (.dup2, 1) := by decide +kernel
theorem dX8_reads_227 : decode cX8_reads 227 = .ok (.iaload, 1) := by decide +kernel
theorem dX8_reads_228 : decode cX8_reads 228 = .ok (.iconst 1, 1) := by decide +kernel
theorem dX8_reads_229 : decode cX8_reads 229 = .ok (.iadd, 1) := by decide +kernel
theorem dX8_reads_230 : decode cX8_reads 230 = .ok (.iastore, 1) := by decide +kernel
theorem dX8_reads_231 : decode cX8_reads 231 = .ok (.aload_n 0, 1) := by decide +kernel
theorem dX8_reads_232 : decode cX8_reads 232 = .ok (.iload_n 1, 1) := by decide +kernel
theorem dX8_reads_233 : decode cX8_reads 233 = .ok (.iload_n 2, 1) := by decide +kernel
theorem dX8_reads_234 : decode cX8_reads 234 = .ok (.iconst 3, 1) := by decide +kernel
theorem dX8_reads_235 : decode cX8_reads 235 = .ok (.iadd, 1) := by decide +kernel
theorem dX8_reads_236 : decode cX8_reads 236 = .ok (.invokevirtual 102, 3) := by decide +kernel
theorem dX8_reads_239 : decode cX8_reads 239 = .ok (.istore_n 2, 1) := by decide +kernel
theorem dX8_reads_240 : decode cX8_reads 240 = .ok (.goto (-170), 3) := by decide +kernel
theorem dX8_reads_243 : decode cX8_reads 243 = .ok (.aload_n 0, 1) := by decide +kernel
theorem dX8_reads_244 : decode cX8_reads 244 = .ok (.getfield 29, 3) := by decide +kernel
theorem dX8_reads_247 : decode cX8_reads 247 = .ok (.bipush 18, 2) := by decide +kernel
theorem dX8_reads_249 : decode cX8_reads 249 = .ok (.iaload, 1) := by decide +kernel
theorem dX8_reads_250 : decode cX8_reads 250 = .ok (.iconst 2, 1) := by decide +kernel
theorem dX8_reads_251 : decode cX8_reads 251 = .ok (.if_icmp .ge 7, 3) := by decide +kernel
theorem dX8_reads_254 : decode cX8_reads 254 = .ok (.iload_n 2, 1) := by decide +kernel
theorem dX8_reads_255 : decode cX8_reads 255 = .ok (.goto 5, 3) := by decide +kernel
theorem dX8_reads_258 : decode cX8_reads 258 = .ok (.bipush (-9), 2) := by decide +kernel
theorem dX8_reads_260 : decode cX8_reads 260 = .ok (.ireturn, 1) := by decide +kernel
theorem dX8_fault_0 : decode cX8_fault 0 = .ok (.iload_n 1, 1) := by decide +kernel
theorem dX8_fault_1 : decode cX8_fault 1 = .ok (.invokestatic 95, 3) := by decide +kernel
theorem dX8_fault_4 : decode cX8_fault 4 = .ok (.ifCond .ne 5, 3) := by decide +kernel
theorem dX8_fault_7 : decode cX8_fault 7 = .ok (.iconst (-1), 1) := by decide +kernel
theorem dX8_fault_8 : decode cX8_fault 8 = .ok (.ireturn, 1) := by decide +kernel
theorem dX8_fault_9 : decode cX8_fault 9 = .ok (.aload_n 0, 1) := by decide +kernel
theorem dX8_fault_10 : decode cX8_fault 10 = .ok (.getfield 19, 3) := by decide +kernel
theorem dX8_fault_13 : decode cX8_fault 13 = .ok (.iload_n 1, 1) := by decide +kernel
theorem dX8_fault_14 : decode cX8_fault 14 = .ok (.iaload, 1) := by decide +kernel
theorem dX8_fault_15 : decode cX8_fault 15 = .ok (.ifCond .ge 11, 3) := by decide +kernel
theorem dX8_fault_18 : decode cX8_fault 18 = .ok (.aload_n 0, 1) := by decide +kernel
theorem dX8_fault_19 : decode cX8_fault 19 = .ok (.iconst 1, 1) := by decide +kernel
theorem dX8_fault_20 : decode cX8_fault 20 = .ok (.invokevirtual 81, 3) := by decide +kernel
theorem dX8_fault_23 : decode cX8_fault 23 = .ok (.goto 8, 3) := by decide +kernel
theorem dX8_fault_26 : decode cX8_fault 26 = .ok (.aload_n 0, 1) := by decide +kernel
theorem dX8_fault_27 : decode cX8_fault 27 = .ok (.iload_n 1, 1) := by decide +kernel
theorem dX8_fault_28 : decode cX8_fault 28 = .ok (.invokevirtual 108, 3) := by decide +kernel
theorem dX8_fault_31 : decode cX8_fault 31 = .ok (.ireturn, 1) := by decide +kernel
theorem dX8_board_0 : decode cX8_board 0 = .ok (.iload_n 1, 1) := by decide +kernel
theorem dX8_board_1 : decode cX8_board 1 = .ok (.invokestatic 95, 3) := by decide +kernel
theorem dX8_board_4 : decode cX8_board 4 = .ok (.ifCond .ne 5, 3) := by decide +kernel
theorem dX8_board_7 : decode cX8_board 7 = .ok (.iconst (-1), 1) := by decide +kernel
theorem dX8_board_8 : decode cX8_board 8 = .ok (.ireturn, 1) := by decide +kernel
theorem dX8_board_9 : decode cX8_board 9 = .ok (.aload_n 0, 1) := by decide +kernel
theorem dX8_board_10 : decode cX8_board 10 = .ok (.getfield 19, 3) := by decide +kernel
theorem dX8_board_13 : decode cX8_board 13 = .ok (.iload_n 1, 1) := by decide +kernel
theorem dX8_board_14 : decode cX8_board 14 = .ok (.iaload, 1) := by decide +kernel
theorem dX8_board_15 : decode cX8_board 15 = .ok (.ifCond .ge 9, 3) := by decide +kernel
theorem dX8_board_18 : decode cX8_board 18 = .ok (.aload_n 0, 1) := by decide +kernel
theorem dX8_board_19 : decode cX8_board 19 = .ok (.iconst 1, 1) := by decide +kernel
theorem dX8_board_20 : decode cX8_board 20 = .ok (.invokevirtual 81, 3) := by decide +kernel
theorem dX8_board_23 : decode cX8_board 23 = .ok (.ireturn, 1) := by decide +kernel
theorem dX8_board_24 : decode cX8_board 24 = .ok (.aload_n 0, 1) := by decide +kernel
theorem dX8_board_25 : decode cX8_board 25 = .ok (.iload_n 1, 1) := by decide +kernel
theorem dX8_board_26 : decode cX8_board 26 = .ok (.invokevirtual 108, 3) := by decide +kernel
theorem dX8_board_29 : decode cX8_board 29 = .ok (.bipush (-9), 2) := by decide +kernel
theorem dX8_board_31 : decode cX8_board 31 = .ok (.if_icmp .eq 6, 3) := by decide +kernel
theorem dX8_board_34 : decode cX8_board 34 = .ok (.bipush (-4), 2) := by decide +kernel
theorem dX8_board_36 : decode cX8_board 36 = .ok (.ireturn, 1) := by decide +kernel
theorem dX8_board_37 : decode cX8_board 37 = .ok (.iconst 0, 1) := by decide +kernel
theorem dX8_board_38 : decode cX8_board 38 = .ok (.istore_n 2, 1) := by decide +kernel
theorem dX8_board_39 : decode cX8_board 39 = .ok (.iload_n 2, 1) := by decide +kernel
theorem dX8_board_40 : decode cX8_board 40 = .ok (.bipush 33, 2) := by decide +kernel
theorem dX8_board_42 : decode cX8_board 42 = .ok (.if_icmp .ge 21, 3) := by decide +kernel
theorem dX8_board_45 : decode cX8_board 45 = .ok (.aload_n 0, 1) := by decide +kernel
theorem dX8_board_46 : decode cX8_board 46 = .ok (.getfield 26, 3) := by decide +kernel
theorem dX8_board_49 : decode cX8_board 49 = .ok (.iload_n 2, 1) := by decide +kernel
theorem dX8_board_50 : decode cX8_board 50 = .ok (.aload_n 0, 1) := by decide +kernel
theorem dX8_board_51 : decode cX8_board 51 = .ok (.getfield 29, 3) := by decide +kernel
theorem dX8_board_54 : decode cX8_board 54 = .ok (.iload_n 2, 1) := by decide +kernel
theorem dX8_board_55 : decode cX8_board 55 = .ok (.iaload, 1) := by decide +kernel
theorem dX8_board_56 : decode cX8_board 56 = .ok (.iastore, 1) := by decide +kernel
theorem dX8_board_57 : decode cX8_board 57 = .ok (.iinc 2 1, 3) := by decide +kernel
theorem dX8_board_60 : decode cX8_board 60 = .ok (.goto (-21), 3) := by decide +kernel
theorem dX8_board_63 : decode cX8_board 63 = .ok (.aload_n 0, 1) := by decide +kernel
theorem dX8_board_64 : decode cX8_board 64 = .ok (.iconst 0, 1) := by decide +kernel
theorem dX8_board_65 : decode cX8_board 65 = .ok (.putfield 111, 3) := by decide +kernel
theorem dX8_board_68 : decode cX8_board 68 = .ok (.iconst 0, 1) := by decide +kernel
theorem dX8_board_69 : decode cX8_board 69 = .ok (.istore_n 2, 1) := by decide +kernel
theorem dX8_board_70 : decode cX8_board 70 = .ok (.iload_n 2, 1) := by decide +kernel
theorem dX8_board_71 : decode cX8_board 71 = .ok (.aload_n 0, 1) := by decide +kernel
theorem dX8_board_72 : decode cX8_board 72 = .ok (.getfield 47, 3) := by decide +kernel
theorem dX8_board_75 : decode cX8_board 75 = .ok (.arraylength, 1) := by decide +kernel
theorem dX8_board_76 : decode cX8_board 76 = .ok (.if_icmp .ge 16, 3) := by decide +kernel
theorem dX8_board_79 : decode cX8_board 79 = .ok (.aload_n 0, 1) := by decide +kernel
theorem dX8_board_80 : decode cX8_board 80 = .ok (.getfield 47, 3) := by decide +kernel
theorem dX8_board_83 : decode cX8_board 83 = .ok (.iload_n 2, 1) := by decide +kernel
theorem dX8_board_84 : decode cX8_board 84 = .ok (.iconst (-1), 1) := by decide +kernel
theorem dX8_board_85 : decode cX8_board 85 = .ok (.iastore, 1) := by decide +kernel
theorem dX8_board_86 : decode cX8_board 86 = .ok (.iinc 2 1, 3) := by decide +kernel
theorem dX8_board_89 : decode cX8_board 89 = .ok (.goto (-19), 3) := by decide +kernel
theorem dX8_board_92 : decode cX8_board 92 = .ok (.aload_n 0, 1) := by decide +kernel
theorem dX8_board_93 : decode cX8_board 93 = .ok (.getfield 26, 3) := by decide +kernel
theorem dX8_board_96 : decode cX8_board 96 = .ok (.bipush 18, 2) := by decide +kernel
theorem dX8_board_98 : decode cX8_board 98 = .ok (.iaload, 1) := by decide +kernel
theorem dX8_board_99 : decode cX8_board 99 = .ok (.ireturn, 1) := by decide +kernel
theorem dX8_isDrum_0 : decode cX8_isDrum 0 = .ok (.iload_n 1, 1) := by decide +kernel
theorem dX8_isDrum_1 : decode cX8_isDrum 1 = .ok (.iconst 0, 1) := by decide +kernel
theorem dX8_isDrum_2 : decode cX8_isDrum 2 = .ok (.aload_n 0, 1) := by decide +kernel
theorem dX8_isDrum_3 : decode cX8_isDrum 3 = .ok (.getfield 26, 3) := by decide +kernel
theorem dX8_isDrum_6 : decode cX8_isDrum 6 = .ok (.bipush 18, 2) := by decide +kernel
theorem dX8_isDrum_8 : decode cX8_isDrum 8 = .ok (.iaload, 1) := by decide +kernel
theorem dX8_isDrum_9 : decode cX8_isDrum 9 = .ok (.iconst 1, 1) := by decide +kernel
theorem dX8_isDrum_10 : decode cX8_isDrum 10 = .ok (.isub, 1) := by decide +kernel
theorem dX8_isDrum_11 : decode cX8_isDrum 11 = .ok (.invokestatic 73, 3) := by decide +kernel
theorem dX8_isDrum_14 : decode cX8_isDrum 14 = .ok (.ireturn, 1) := by decide +kernel
theorem dX8_has_0 : decode cX8_has 0 = .ok (.iload_n 0, 1) := by decide +kernel
theorem dX8_has_1 : decode cX8_has 1 = .ok (.iload_n 1, 1) := by decide +kernel
theorem dX8_has_2 : decode cX8_has 2 = .ok (.ishr, 1) := by decide +kernel
theorem dX8_has_3 : decode cX8_has 3 = .ok (.iconst 1, 1) := by decide +kernel
theorem dX8_has_4 : decode cX8_has 4 = .ok (.iand, 1) := by decide +kernel
theorem dX8_has_5 : decode cX8_has 5 = .ok (.iconst 1, 1) := by decide +kernel
theorem dX8_has_6 : decode cX8_has 6 = .ok (.if_icmp .ne 7, 3) := by decide +kernel
theorem dX8_has_9 : decode cX8_has 9 = .ok (.iconst 1, 1) := by decide +kernel
theorem dX8_has_10 : decode cX8_has 10 = .ok (.goto 4, 3) := by decide +kernel
theorem dX8_has_13 : decode cX8_has 13 = .ok (.iconst 0, 1) := by decide +kernel
theorem dX8_has_14 : decode cX8_has 14 = .ok (.ireturn, 1) := by decide +kernel
theorem dX8_skipsOn_0 : decode cX8_skipsOn 0 = .ok (.iload_n 0, 1) := by decide +kernel
theorem dX8_skipsOn_1 : decode cX8_skipsOn 1 = .ok (.iconst 1, 1) := by decide +kernel
theorem dX8_skipsOn_2 : decode cX8_skipsOn 2 = .ok (.iadd, 1) := by decide +kernel
theorem dX8_skipsOn_3 : decode cX8_skipsOn 3 = .ok (.bipush 10, 2) := by decide +kernel
theorem dX8_skipsOn_5 : decode cX8_skipsOn 5 = .ok (.irem, 1) := by decide +kernel
theorem dX8_skipsOn_6 : decode cX8_skipsOn 6 = .ok (.istore_n 3, 1) := by decide +kernel
theorem dX8_skipsOn_7 : decode cX8_skipsOn 7 = .ok (.iload_n 3, 1) := by decide +kernel
theorem dX8_skipsOn_8 : decode cX8_skipsOn 8 = .ok (.iload_n 2, 1) := by decide +kernel
theorem dX8_skipsOn_9 : decode cX8_skipsOn 9 = .ok (.if_icmp .ne 17, 3) := by decide +kernel
theorem dX8_skipsOn_12 : decode cX8_skipsOn 12 = .ok (.iload_n 2, 1) := by decide +kernel
theorem dX8_skipsOn_13 : decode cX8_skipsOn 13 = .ok (.iload_n 1, 1) := by decide +kernel
theorem dX8_skipsOn_14 : decode cX8_skipsOn 14 = .ok (.if_icmp .eq 12, 3) := by decide +kernel
theorem dX8_skipsOn_17 : decode cX8_skipsOn 17 = .ok (.iload_n 0, 1) := by decide +kernel
theorem dX8_skipsOn_18 : decode cX8_skipsOn 18 = .ok (.iconst 2, 1) := by decide +kernel
theorem dX8_skipsOn_19 : decode cX8_skipsOn 19 = .ok (.iadd, 1) := by decide +kernel
theorem dX8_skipsOn_20 : decode cX8_skipsOn 20 = .ok (.bipush 10, 2) := by decide +kernel
theorem dX8_skipsOn_22 : decode cX8_skipsOn 22 = .ok (.irem, 1) := by decide +kernel
theorem dX8_skipsOn_23 : decode cX8_skipsOn 23 = .ok (.goto 4, 3) := by decide +kernel
theorem dX8_skipsOn_26 : decode cX8_skipsOn 26 = .ok (.iload_n 3, 1) := by decide +kernel
theorem dX8_skipsOn_27 : decode cX8_skipsOn 27 = .ok (.ireturn, 1) := by decide +kernel
theorem dX8_turned_0 : decode cX8_turned 0 = .ok (.iload_n 0, 1) := by decide +kernel
theorem dX8_turned_1 : decode cX8_turned 1 = .ok (.iconst 3, 1) := by decide +kernel
theorem dX8_turned_2 : decode cX8_turned 2 = .ok (.if_icmp .ne 11, 3) := by decide +kernel
theorem dX8_turned_5 : decode cX8_turned 5 = .ok (.iload_n 1, 1) := by decide +kernel
theorem dX8_turned_6 : decode cX8_turned 6 = .ok (.bipush 9, 2) := by decide +kernel
theorem dX8_turned_8 : decode cX8_turned 8 = .ok (.iadd, 1) := by decide +kernel
theorem dX8_turned_9 : decode cX8_turned 9 = .ok (.bipush 10, 2) := by decide +kernel
theorem dX8_turned_11 : decode cX8_turned 11 = .ok (.irem, 1) := by decide +kernel
theorem dX8_turned_12 : decode cX8_turned 12 = .ok (.ireturn, 1) := by decide +kernel
theorem dX8_turned_13 : decode cX8_turned 13 = .ok (.iload_n 0, 1) := by decide +kernel
theorem dX8_turned_14 : decode cX8_turned 14 = .ok (.iconst 2, 1) := by decide +kernel
theorem dX8_turned_15 : decode cX8_turned 15 = .ok (.if_icmp .eq 15, 3) := by decide +kernel
theorem dX8_turned_18 : decode cX8_turned 18 = .ok (.iload_n 0, 1) := by decide +kernel
theorem dX8_turned_19 : decode cX8_turned 19 = .ok (.iconst 5, 1) := by decide +kernel
theorem dX8_turned_20 : decode cX8_turned 20 = .ok (.if_icmp .eq 10, 3) := by decide +kernel
theorem dX8_turned_23 : decode cX8_turned 23 = .ok (.iload_n 1, 1) := by decide +kernel
theorem dX8_turned_24 : decode cX8_turned 24 = .ok (.iconst 1, 1) := by decide +kernel
theorem dX8_turned_25 : decode cX8_turned 25 = .ok (.iadd, 1) := by decide +kernel
theorem dX8_turned_26 : decode cX8_turned 26 = .ok (.bipush 10, 2) := by decide +kernel
theorem dX8_turned_28 : decode cX8_turned 28 = .ok (.irem, 1) := by decide +kernel
theorem dX8_turned_29 : decode cX8_turned 29 = .ok (.ireturn, 1) := by decide +kernel
theorem dX8_turned_30 : decode cX8_turned 30 = .ok (.iload_n 1, 1) := by decide +kernel
theorem dX8_turned_31 : decode cX8_turned 31 = .ok (.iload_n 2, 1) := by decide +kernel
theorem dX8_turned_32 : decode cX8_turned 32 = .ok (.iload_n 3, 1) := by decide +kernel
theorem dX8_turned_33 : decode cX8_turned 33 = .ok (.invokestatic 114, 3) := by decide +kernel
theorem dX8_turned_36 : decode cX8_turned 36 = .ok (.istore 4, 2) := by decide +kernel
theorem dX8_turned_38 : decode cX8_turned 38 = .ok (.iload_n 0, 1) := by decide +kernel
theorem dX8_turned_39 : decode cX8_turned 39 = .ok (.iconst 2, 1) := by decide +kernel
theorem dX8_turned_40 : decode cX8_turned 40 = .ok (.if_icmp .eq 9, 3) := by decide +kernel
theorem dX8_turned_43 : decode cX8_turned 43 = .ok (.iload 4, 2) := by decide +kernel
theorem dX8_turned_45 : decode cX8_turned 45 = .ok (.iload_n 2, 1) := by decide +kernel
theorem dX8_turned_46 : decode cX8_turned 46 = .ok (.if_icmp .ne 8, 3) := by decide +kernel
theorem dX8_turned_49 : decode cX8_turned 49 = .ok (.iload 4, 2) := by decide +kernel
theorem dX8_turned_51 : decode cX8_turned 51 = .ok (.goto 10, 3) := by decide +kernel
theorem dX8_turned_54 : decode cX8_turned 54 = .ok (.iload 4, 2) := by decide +kernel
theorem dX8_turned_56 : decode cX8_turned 56 = .ok (.iload_n 2, 1) := by decide +kernel
theorem dX8_turned_57 : decode cX8_turned 57 = .ok (.iload_n 3, 1) := by decide +kernel
theorem dX8_turned_58 : decode cX8_turned 58 = .ok (.invokestatic 114, 3) := by decide +kernel
theorem dX8_turned_61 : decode cX8_turned 61 = .ok (.ireturn, 1) := by decide +kernel
theorem dX8_lets_0 : decode cX8_lets 0 = .ok (.iload_n 0, 1) := by decide +kernel
theorem dX8_lets_1 : decode cX8_lets 1 = .ok (.iconst 1, 1) := by decide +kernel
theorem dX8_lets_2 : decode cX8_lets 2 = .ok (.if_icmp .ne 17, 3) := by decide +kernel
theorem dX8_lets_5 : decode cX8_lets 5 = .ok (.iload_n 1, 1) := by decide +kernel
theorem dX8_lets_6 : decode cX8_lets 6 = .ok (.iconst 2, 1) := by decide +kernel
theorem dX8_lets_7 : decode cX8_lets 7 = .ok (.irem, 1) := by decide +kernel
theorem dX8_lets_8 : decode cX8_lets 8 = .ok (.ifCond .ne 7, 3) := by decide +kernel
theorem dX8_lets_11 : decode cX8_lets 11 = .ok (.iconst 1, 1) := by decide +kernel
theorem dX8_lets_12 : decode cX8_lets 12 = .ok (.goto 31, 3) := by decide +kernel
theorem dX8_lets_15 : decode cX8_lets 15 = .ok (.iconst 0, 1) := by decide +kernel
theorem dX8_lets_16 : decode cX8_lets 16 = .ok (.goto 27, 3) := by decide +kernel
theorem dX8_lets_19 : decode cX8_lets 19 = .ok (.iload_n 0, 1) := by decide +kernel
theorem dX8_lets_20 : decode cX8_lets 20 = .ok (.iconst 4, 1) := by decide +kernel
theorem dX8_lets_21 : decode cX8_lets 21 = .ok (.if_icmp .ne 17, 3) := by decide +kernel
theorem dX8_lets_24 : decode cX8_lets 24 = .ok (.iload_n 1, 1) := by decide +kernel
theorem dX8_lets_25 : decode cX8_lets 25 = .ok (.iload_n 2, 1) := by decide +kernel
theorem dX8_lets_26 : decode cX8_lets 26 = .ok (.ifCond .eq 7, 3) := by decide +kernel
theorem dX8_lets_29 : decode cX8_lets 29 = .ok (.iconst 4, 1) := by decide +kernel
theorem dX8_lets_30 : decode cX8_lets 30 = .ok (.goto 4, 3) := by decide +kernel
theorem dX8_lets_33 : decode cX8_lets 33 = .ok (.iconst 2, 1) := by decide +kernel
theorem dX8_lets_34 : decode cX8_lets 34 = .ok (.irem, 1) := by decide +kernel
theorem dX8_lets_35 : decode cX8_lets 35 = .ok (.ifCond .ne 7, 3) := by decide +kernel
theorem dX8_lets_38 : decode cX8_lets 38 = .ok (.iconst 1, 1) := by decide +kernel
theorem dX8_lets_39 : decode cX8_lets 39 = .ok (.goto 4, 3) := by decide +kernel
theorem dX8_lets_42 : decode cX8_lets 42 = .ok (.iconst 0, 1) := by decide +kernel
theorem dX8_lets_43 : decode cX8_lets 43 = .ok (.ireturn, 1) := by decide +kernel
theorem dX8_isReady_0 : decode cX8_isReady 0 = .ok (.aload_n 0, 1) := by decide +kernel
theorem dX8_isReady_1 : decode cX8_isReady 1 = .ok (.iconst 4, 1) := by decide +kernel
theorem dX8_isReady_2 : decode cX8_isReady 2 = .ok (.iload_n 1, 1) := by decide +kernel
theorem dX8_isReady_3 : decode cX8_isReady 3 = .ok (.iadd, 1) := by decide +kernel
theorem dX8_isReady_4 : decode cX8_isReady 4 = .ok (.iaload, 1) := by decide +kernel
theorem dX8_isReady_5 : decode cX8_isReady 5 = .ok (.aload_n 0, 1) := by decide +kernel
theorem dX8_isReady_6 : decode cX8_isReady 6 = .ok (.bipush 11, 2) := by decide +kernel
theorem dX8_isReady_8 : decode cX8_isReady 8 = .ok (.iload_n 1, 1) := by decide +kernel
theorem dX8_isReady_9 : decode cX8_isReady 9 = .ok (.iadd, 1) := by decide +kernel
theorem dX8_isReady_10 : decode cX8_isReady 10 = .ok (.iaload, 1) := by decide +kernel
theorem dX8_isReady_11 : decode cX8_isReady 11 = .ok (.if_icmp .eq 41, 3) := by decide +kernel
theorem dX8_isReady_14 : decode cX8_isReady 14 = .ok (.aload_n 0, 1) := by decide +kernel
theorem dX8_isReady_15 : decode cX8_isReady 15 = .ok (.bipush 19, 2) := by decide +kernel
theorem dX8_isReady_17 : decode cX8_isReady 17 = .ok (.iload_n 1, 1) := by decide +kernel
theorem dX8_isReady_18 : decode cX8_isReady 18 = .ok (.iadd, 1) := by decide +kernel
theorem dX8_isReady_19 : decode cX8_isReady 19 = .ok (.iaload, 1) := by decide +kernel
theorem dX8_isReady_20 : decode cX8_isReady 20 = .ok (.aload_n 0, 1) := by decide +kernel
theorem dX8_isReady_21 : decode cX8_isReady 21 = .ok (.iconst 1, 1) := by decide +kernel
theorem dX8_isReady_22 : decode cX8_isReady 22 = .ok (.iaload, 1) := by decide +kernel
theorem dX8_isReady_23 : decode cX8_isReady 23 = .ok (.aload_n 0, 1) := by decide +kernel
theorem dX8_isReady_24 : decode cX8_isReady 24 = .ok (.iconst 4, 1) := by decide +kernel
theorem dX8_isReady_25 : decode cX8_isReady 25 = .ok (.iload_n 1, 1) := by decide +kernel
theorem dX8_isReady_26 : decode cX8_isReady 26 = .ok (.iadd, 1) := by decide +kernel
theorem dX8_isReady_27 : decode cX8_isReady 27 = .ok (.iaload, 1) := by decide +kernel
theorem dX8_isReady_28 : decode cX8_isReady 28 = .ok (.aload_n 0, 1) := by decide +kernel
theorem dX8_isReady_29 : decode cX8_isReady 29 = .ok (.bipush 26, 2) := by decide +kernel
theorem dX8_isReady_31 : decode cX8_isReady 31 = .ok (.iload_n 1, 1) := by decide +kernel
theorem dX8_isReady_32 : decode cX8_isReady 32 = .ok (.iadd, 1) := by decide +kernel
theorem dX8_isReady_33 : decode cX8_isReady 33 = .ok (.iaload, 1) := by decide +kernel
theorem dX8_isReady_34 : decode cX8_isReady 34 = .ok (.if_icmp .ne 7, 3) := by decide +kernel
theorem dX8_isReady_37 : decode cX8_isReady 37 = .ok (.iconst 1, 1) := by decide +kernel
theorem dX8_isReady_38 : decode cX8_isReady 38 = .ok (.goto 4, 3) := by decide +kernel
theorem dX8_isReady_41 : decode cX8_isReady 41 = .ok (.iconst 0, 1) := by decide +kernel
theorem dX8_isReady_42 : decode cX8_isReady 42 = .ok (.invokestatic 118, 3) := by decide +kernel
theorem dX8_isReady_45 : decode cX8_isReady 45 = .ok (.ifCond .eq 7, 3) := by decide +kernel
theorem dX8_isReady_48 : decode cX8_isReady 48 = .ok (.iconst 1, 1) := by decide +kernel
theorem dX8_isReady_49 : decode cX8_isReady 49 = .ok (.goto 4, 3) := by decide +kernel
theorem dX8_isReady_52 : decode cX8_isReady 52 = .ok (.iconst 0, 1) := by decide +kernel
theorem dX8_isReady_53 : decode cX8_isReady 53 = .ok (.ireturn, 1) := by decide +kernel
theorem dX8_next_0 : decode cX8_next 0 = .ok (.aload_n 0, 1) := by decide +kernel
theorem dX8_next_1 : decode cX8_next 1 = .ok (.bipush 19, 2) := by decide +kernel
theorem dX8_next_3 : decode cX8_next 3 = .ok (.iload_n 1, 1) := by decide +kernel
theorem dX8_next_4 : decode cX8_next 4 = .ok (.iadd, 1) := by decide +kernel
theorem dX8_next_5 : decode cX8_next 5 = .ok (.iaload, 1) := by decide +kernel
theorem dX8_next_6 : decode cX8_next 6 = .ok (.aload_n 0, 1) := by decide +kernel
theorem dX8_next_7 : decode cX8_next 7 = .ok (.iconst 4, 1) := by decide +kernel
theorem dX8_next_8 : decode cX8_next 8 = .ok (.iload_n 1, 1) := by decide +kernel
theorem dX8_next_9 : decode cX8_next 9 = .ok (.iadd, 1) := by decide +kernel
theorem dX8_next_10 : decode cX8_next 10 = .ok (.iaload, 1) := by decide +kernel
theorem dX8_next_11 : decode cX8_next 11 = .ok (.aload_n 0, 1) := by decide +kernel
theorem dX8_next_12 : decode cX8_next 12 = .ok (.bipush 11, 2) := by decide +kernel
theorem dX8_next_14 : decode cX8_next 14 = .ok (.iload_n 1, 1) := by decide +kernel
theorem dX8_next_15 : decode cX8_next 15 = .ok (.iadd, 1) := by decide +kernel
theorem dX8_next_16 : decode cX8_next 16 = .ok (.iaload, 1) := by decide +kernel
theorem dX8_next_17 : decode cX8_next 17 = .ok (.aload_n 0, 1) := by decide +kernel
theorem dX8_next_18 : decode cX8_next 18 = .ok (.bipush 26, 2) := by decide +kernel
theorem dX8_next_20 : decode cX8_next 20 = .ok (.iload_n 1, 1) := by decide +kernel
theorem dX8_next_21 : decode cX8_next 21 = .ok (.iadd, 1) := by decide +kernel
theorem dX8_next_22 : decode cX8_next 22 = .ok (.iaload, 1) := by decide +kernel
theorem dX8_next_23 : decode cX8_next 23 = .ok (.invokestatic 122, 3) := by decide +kernel
theorem dX8_next_26 : decode cX8_next 26 = .ok (.ireturn, 1) := by decide +kernel
theorem dX8_drum_0 : decode cX8_drum 0 = .ok (.aload_n 0, 1) := by decide +kernel
theorem dX8_drum_1 : decode cX8_drum 1 = .ok (.iload_n 1, 1) := by decide +kernel
theorem dX8_drum_2 : decode cX8_drum 2 = .ok (.invokevirtual 126, 3) := by decide +kernel
theorem dX8_drum_5 : decode cX8_drum 5 = .ok (.ifCond .ne 5, 3) := by decide +kernel
theorem dX8_drum_8 : decode cX8_drum 8 = .ok (.iconst (-1), 1) := by decide +kernel
theorem dX8_drum_9 : decode cX8_drum 9 = .ok (.ireturn, 1) := by decide +kernel
theorem dX8_drum_10 : decode cX8_drum 10 = .ok (.iload_n 2, 1) := by decide +kernel
theorem dX8_drum_11 : decode cX8_drum 11 = .ok (.tableswitch 145 0 6 #[41, 55, 68, 82, 96, 111, 132], 41) := by decide +kernel
theorem dX8_drum_52 : decode cX8_drum 52 = .ok (.aload_n 0, 1) := by decide +kernel
theorem dX8_drum_53 : decode cX8_drum 53 = .ok (.aload_n 0, 1) := by decide +kernel
theorem dX8_drum_54 : decode cX8_drum 54 = .ok (.getfield 26, 3) := by decide +kernel
theorem dX8_drum_57 : decode cX8_drum 57 = .ok (.bipush 19, 2) := by decide +kernel
theorem dX8_drum_59 : decode cX8_drum 59 = .ok (.iload_n 1, 1) := by decide +kernel
theorem dX8_drum_60 : decode cX8_drum 60 = .ok (.iadd, 1) := by decide +kernel
theorem dX8_drum_61 : decode cX8_drum 61 = .ok (.iaload, 1) := by decide +kernel
theorem dX8_drum_62 : decode cX8_drum 62 = .ok (.invokevirtual 89, 3) := by decide +kernel
theorem dX8_drum_65 : decode cX8_drum 65 = .ok (.ireturn, 1) := by decide +kernel
theorem dX8_drum_66 : decode cX8_drum 66 = .ok (.aload_n 0, 1) := by decide +kernel
theorem dX8_drum_67 : decode cX8_drum 67 = .ok (.aload_n 0, 1) := by decide +kernel
theorem dX8_drum_68 : decode cX8_drum 68 = .ok (.getfield 26, 3) := by decide +kernel
theorem dX8_drum_71 : decode cX8_drum 71 = .ok (.iconst 4, 1) := by decide +kernel
theorem dX8_drum_72 : decode cX8_drum 72 = .ok (.iload_n 1, 1) := by decide +kernel
theorem dX8_drum_73 : decode cX8_drum 73 = .ok (.iadd, 1) := by decide +kernel
theorem dX8_drum_74 : decode cX8_drum 74 = .ok (.iaload, 1) := by decide +kernel
theorem dX8_drum_75 : decode cX8_drum 75 = .ok (.invokevirtual 89, 3) := by decide +kernel
theorem dX8_drum_78 : decode cX8_drum 78 = .ok (.ireturn, 1) := by decide +kernel
theorem dX8_drum_79 : decode cX8_drum 79 = .ok (.aload_n 0, 1) := by decide +kernel
theorem dX8_drum_80 : decode cX8_drum 80 = .ok (.aload_n 0, 1) := by decide +kernel
theorem dX8_drum_81 : decode cX8_drum 81 = .ok (.getfield 26, 3) := by decide +kernel
theorem dX8_drum_84 : decode cX8_drum 84 = .ok (.bipush 11, 2) := by decide +kernel
theorem dX8_drum_86 : decode cX8_drum 86 = .ok (.iload_n 1, 1) := by decide +kernel
theorem dX8_drum_87 : decode cX8_drum 87 = .ok (.iadd, 1) := by decide +kernel
theorem dX8_drum_88 : decode cX8_drum 88 = .ok (.iaload, 1) := by decide +kernel
theorem dX8_drum_89 : decode cX8_drum 89 = .ok (.invokevirtual 89, 3) := by decide +kernel
theorem dX8_drum_92 : decode cX8_drum 92 = .ok (.ireturn, 1) := by decide +kernel
theorem dX8_drum_93 : decode cX8_drum 93 = .ok (.aload_n 0, 1) := by decide +kernel
theorem dX8_drum_94 : decode cX8_drum 94 = .ok (.aload_n 0, 1) := by decide +kernel
theorem dX8_drum_95 : decode cX8_drum 95 = .ok (.getfield 26, 3) := by decide +kernel
theorem dX8_drum_98 : decode cX8_drum 98 = .ok (.bipush 26, 2) := by decide +kernel
theorem dX8_drum_100 : decode cX8_drum 100 = .ok (.iload_n 1, 1) := by decide +kernel
theorem dX8_drum_101 : decode cX8_drum 101 = .ok (.iadd, 1) := by decide +kernel
theorem dX8_drum_102 : decode cX8_drum 102 = .ok (.iaload, 1) := by decide +kernel
theorem dX8_drum_103 : decode cX8_drum 103 = .ok (.invokevirtual 89, 3) := by decide +kernel
theorem dX8_drum_106 : decode cX8_drum 106 = .ok (.ireturn, 1) := by decide +kernel
theorem dX8_drum_107 : decode cX8_drum 107 = .ok (.aload_n 0, 1) := by decide +kernel
theorem dX8_drum_108 : decode cX8_drum 108 = .ok (.aload_n 0, 1) := by decide +kernel
theorem dX8_drum_109 : decode cX8_drum 109 = .ok (.getfield 26, 3) := by decide +kernel
theorem dX8_drum_112 : decode cX8_drum 112 = .ok (.iconst 3, 1) := by decide +kernel
theorem dX8_drum_113 : decode cX8_drum 113 = .ok (.iaload, 1) := by decide +kernel
theorem dX8_drum_114 : decode cX8_drum 114 = .ok (.iload_n 1, 1) := by decide +kernel
theorem dX8_drum_115 : decode cX8_drum 115 = .ok (.ishr, 1) := by decide +kernel
theorem dX8_drum_116 : decode cX8_drum 116 = .ok (.iconst 1, 1) := by decide +kernel
theorem dX8_drum_117 : decode cX8_drum 117 = .ok (.iand, 1) := by decide +kernel
theorem dX8_drum_118 : decode cX8_drum 118 = .ok (.invokevirtual 89, 3) := by decide +kernel
theorem dX8_drum_121 : decode cX8_drum 121 = .ok (.ireturn, 1) := by decide +kernel
theorem dX8_drum_122 : decode cX8_drum 122 = .ok (.aload_n 0, 1) := by decide +kernel
theorem dX8_drum_123 : decode cX8_drum 123 = .ok (.aload_n 0, 1) := by decide +kernel
theorem dX8_drum_124 : decode cX8_drum 124 = .ok (.getfield 26, 3) := by decide +kernel
theorem dX8_drum_127 : decode cX8_drum 127 = .ok (.iload_n 1, 1) := by decide +kernel
theorem dX8_drum_128 : decode cX8_drum 128 = .ok (.invokestatic 129, 3) := by decide +kernel
theorem dX8_drum_131 : decode cX8_drum 131 = .ok (.ifCond .eq 7, 3) := by decide +kernel
theorem dX8_drum_134 : decode cX8_drum 134 = .ok (.iconst 1, 1) := by decide +kernel
theorem dX8_drum_135 : decode cX8_drum 135 = .ok (.goto 4, 3) := by decide +kernel
theorem dX8_drum_138 : decode cX8_drum 138 = .ok (.iconst 0, 1) := by decide +kernel
theorem dX8_drum_139 : decode cX8_drum 139 = .ok (.invokevirtual 89, 3) := by decide +kernel
theorem dX8_drum_142 : decode cX8_drum 142 = .ok (.ireturn, 1) := by decide +kernel
theorem dX8_drum_143 : decode cX8_drum 143 = .ok (.aload_n 0, 1) := by decide +kernel
theorem dX8_drum_144 : decode cX8_drum 144 = .ok (.aload_n 0, 1) := by decide +kernel
theorem dX8_drum_145 : decode cX8_drum 145 = .ok (.getfield 26, 3) := by decide +kernel
theorem dX8_drum_148 : decode cX8_drum 148 = .ok (.iload_n 1, 1) := by decide +kernel
theorem dX8_drum_149 : decode cX8_drum 149 = .ok (.invokestatic 133, 3) := by decide +kernel
theorem dX8_drum_152 : decode cX8_drum 152 = .ok (.invokevirtual 89, 3) := by decide +kernel
theorem dX8_drum_155 : decode cX8_drum 155 = .ok (.ireturn, 1) := by decide +kernel
theorem dX8_drum_156 : decode cX8_drum 156 = .ok (.iconst (-1), 1) := by decide +kernel
theorem dX8_drum_157 : decode cX8_drum 157 = .ok (.ireturn, 1) := by decide +kernel
theorem dX8_is_0 : decode cX8_is 0 = .ok (.iload_n 1, 1) := by decide +kernel
theorem dX8_is_1 : decode cX8_is 1 = .ok (.ifCond .eq 28, 3) := by decide +kernel
theorem dX8_is_4 : decode cX8_is 4 = .ok (.iload_n 0, 1) := by decide +kernel
theorem dX8_is_5 : decode cX8_is 5 = .ok (.iload_n 1, 1) := by decide +kernel
theorem dX8_is_6 : decode cX8_is 6 = .ok (.if_icmp .eq 23, 3) := by decide +kernel
theorem dX8_is_9 : decode cX8_is 9 = .ok (.iload_n 0, 1) := by decide +kernel
theorem dX8_is_10 : decode cX8_is 10 = .ok (.iconst 4, 1) := by decide +kernel
theorem dX8_is_11 : decode cX8_is 11 = .ok (.if_icmp .ne 8, 3) := by decide +kernel
theorem dX8_is_14 : decode cX8_is 14 = .ok (.iload_n 1, 1) := by decide +kernel
theorem dX8_is_15 : decode cX8_is 15 = .ok (.iconst 1, 1) := by decide +kernel
theorem dX8_is_16 : decode cX8_is 16 = .ok (.if_icmp .eq 13, 3) := by decide +kernel
theorem dX8_is_19 : decode cX8_is 19 = .ok (.iload_n 0, 1) := by decide +kernel
theorem dX8_is_20 : decode cX8_is 20 = .ok (.iconst 5, 1) := by decide +kernel
theorem dX8_is_21 : decode cX8_is 21 = .ok (.if_icmp .ne 12, 3) := by decide +kernel
theorem dX8_is_24 : decode cX8_is 24 = .ok (.iload_n 1, 1) := by decide +kernel
theorem dX8_is_25 : decode cX8_is 25 = .ok (.iconst 2, 1) := by decide +kernel
theorem dX8_is_26 : decode cX8_is 26 = .ok (.if_icmp .ne 7, 3) := by decide +kernel
theorem dX8_is_29 : decode cX8_is 29 = .ok (.iconst 1, 1) := by decide +kernel
theorem dX8_is_30 : decode cX8_is 30 = .ok (.goto 4, 3) := by decide +kernel
theorem dX8_is_33 : decode cX8_is 33 = .ok (.iconst 0, 1) := by decide +kernel
theorem dX8_is_34 : decode cX8_is 34 = .ok (.ireturn, 1) := by decide +kernel
theorem dX8_readyTicks_0 : decode cX8_readyTicks 0 = .ok (.iconst 0, 1) := by decide +kernel
theorem dX8_readyTicks_1 : decode cX8_readyTicks 1 = .ok (.istore_n 3, 1) := by decide +kernel
theorem dX8_readyTicks_2 : decode cX8_readyTicks 2 = .ok (.iconst 0, 1) := by decide +kernel
theorem dX8_readyTicks_3 : decode cX8_readyTicks 3 = .ok (.istore 4, 2) := by decide +kernel
theorem dX8_readyTicks_5 : decode cX8_readyTicks 5 = .ok (.iload 4, 2) := by decide +kernel
theorem dX8_readyTicks_7 : decode cX8_readyTicks 7 = .ok (.bipush 8, 2) := by decide +kernel
theorem dX8_readyTicks_9 : decode cX8_readyTicks 9 = .ok (.if_icmp .ge 58, 3) := by decide +kernel
theorem dX8_readyTicks_12 : decode cX8_readyTicks 12 = .ok (.iload_n 3, 1) := by decide +kernel
theorem dX8_readyTicks_13 : decode cX8_readyTicks 13 = .ok (.iload_n 1, 1) := by decide +kernel
theorem dX8_readyTicks_14 : decode cX8_readyTicks 14 = .ok (.aload_n 0, 1) := by decide +kernel
theorem dX8_readyTicks_15 : decode cX8_readyTicks 15 = .ok (.getfield 26, 3) := by decide +kernel
theorem dX8_readyTicks_18 : decode cX8_readyTicks 18 = .ok (.iconst 1, 1) := by decide +kernel
theorem dX8_readyTicks_19 : decode cX8_readyTicks 19 = .ok (.iaload, 1) := by decide +kernel
theorem dX8_readyTicks_20 : decode cX8_readyTicks 20 = .ok (.iload 4, 2) := by decide +kernel
theorem dX8_readyTicks_22 : decode cX8_readyTicks 22 = .ok (.iadd, 1) := by decide +kernel
theorem dX8_readyTicks_23 : decode cX8_readyTicks 23 = .ok (.aload_n 0, 1) := by decide +kernel
theorem dX8_readyTicks_24 : decode cX8_readyTicks 24 = .ok (.getfield 26, 3) := by decide +kernel
theorem dX8_readyTicks_27 : decode cX8_readyTicks 27 = .ok (.iconst 4, 1) := by decide +kernel
theorem dX8_readyTicks_28 : decode cX8_readyTicks 28 = .ok (.iload_n 2, 1) := by decide +kernel
theorem dX8_readyTicks_29 : decode cX8_readyTicks 29 = .ok (.iadd, 1) := by decide +kernel
theorem dX8_readyTicks_30 : decode cX8_readyTicks 30 = .ok (.iaload, 1) := by decide +kernel
theorem dX8_readyTicks_31 : decode cX8_readyTicks 31 = .ok (.aload_n 0, 1) := by decide +kernel
theorem dX8_readyTicks_32 : decode cX8_readyTicks 32 = .ok (.getfield 26, 3) := by decide +kernel
theorem dX8_readyTicks_35 : decode cX8_readyTicks 35 = .ok (.bipush 26, 2) := by decide +kernel
theorem dX8_readyTicks_37 : decode cX8_readyTicks 37 = .ok (.iload_n 2, 1) := by decide +kernel
theorem dX8_readyTicks_38 : decode cX8_readyTicks 38 = .ok (.iadd, 1) := by decide +kernel
theorem dX8_readyTicks_39 : decode cX8_readyTicks 39 = .ok (.iaload, 1) := by decide +kernel
theorem dX8_readyTicks_40 : decode cX8_readyTicks 40 = .ok (.if_icmp .ne 7, 3) := by decide +kernel
theorem dX8_readyTicks_43 : decode cX8_readyTicks 43 = .ok (.iconst 1, 1) := by decide +kernel
theorem dX8_readyTicks_44 : decode cX8_readyTicks 44 = .ok (.goto 4, 3) := by decide +kernel
theorem dX8_readyTicks_47 : decode cX8_readyTicks 47 = .ok (.iconst 0, 1) := by decide +kernel
theorem dX8_readyTicks_48 : decode cX8_readyTicks 48 = .ok (.invokestatic 118, 3) := by decide +kernel
theorem dX8_readyTicks_51 : decode cX8_readyTicks 51 = .ok (.ifCond .eq 7, 3) := by decide +kernel
theorem dX8_readyTicks_54 : decode cX8_readyTicks 54 = .ok (.iconst 1, 1) := by decide +kernel
theorem dX8_readyTicks_55 : decode cX8_readyTicks 55 = .ok (.goto 4, 3) := by decide +kernel
theorem dX8_readyTicks_58 : decode cX8_readyTicks 58 = .ok (.iconst 0, 1) := by decide +kernel
theorem dX8_readyTicks_59 : decode cX8_readyTicks 59 = .ok (.iadd, 1) := by decide +kernel
theorem dX8_readyTicks_60 : decode cX8_readyTicks 60 = .ok (.istore_n 3, 1) := by decide +kernel
theorem dX8_readyTicks_61 : decode cX8_readyTicks 61 = .ok (.iinc 4 1, 3) := by decide +kernel
theorem dX8_readyTicks_64 : decode cX8_readyTicks 64 = .ok (.goto (-59), 3) := by decide +kernel
theorem dX8_readyTicks_67 : decode cX8_readyTicks 67 = .ok (.iload_n 3, 1) := by decide +kernel
theorem dX8_readyTicks_68 : decode cX8_readyTicks 68 = .ok (.ireturn, 1) := by decide +kernel
theorem dX8_neverShown_0 : decode cX8_neverShown 0 = .ok (.iconst 1, 1) := by decide +kernel
theorem dX8_neverShown_1 : decode cX8_neverShown 1 = .ok (.istore_n 2, 1) := by decide +kernel
theorem dX8_neverShown_2 : decode cX8_neverShown 2 = .ok (.iconst 0, 1) := by decide +kernel
theorem dX8_neverShown_3 : decode cX8_neverShown 3 = .ok (.istore_n 3, 1) := by decide +kernel
theorem dX8_neverShown_4 : decode cX8_neverShown 4 = .ok (.iconst 0, 1) := by decide +kernel
theorem dX8_neverShown_5 : decode cX8_neverShown 5 = .ok (.istore 4, 2) := by decide +kernel
theorem dX8_neverShown_7 : decode cX8_neverShown 7 = .ok (.iload 4, 2) := by decide +kernel
theorem dX8_neverShown_9 : decode cX8_neverShown 9 = .ok (.bipush 30, 2) := by decide +kernel
theorem dX8_neverShown_11 : decode cX8_neverShown 11 = .ok (.if_icmp .ge 47, 3) := by decide +kernel
theorem dX8_neverShown_14 : decode cX8_neverShown 14 = .ok (.aload_n 0, 1) := by decide +kernel
theorem dX8_neverShown_15 : decode cX8_neverShown 15 = .ok (.getfield 26, 3) := by decide +kernel
theorem dX8_neverShown_18 : decode cX8_neverShown 18 = .ok (.bipush 19, 2) := by decide +kernel
theorem dX8_neverShown_20 : decode cX8_neverShown 20 = .ok (.iload_n 1, 1) := by decide +kernel
theorem dX8_neverShown_21 : decode cX8_neverShown 21 = .ok (.iadd, 1) := by decide +kernel
theorem dX8_neverShown_22 : decode cX8_neverShown 22 = .ok (.iaload, 1) := by decide +kernel
theorem dX8_neverShown_23 : decode cX8_neverShown 23 = .ok (.iload_n 3, 1) := by decide +kernel
theorem dX8_neverShown_24 : decode cX8_neverShown 24 = .ok (.aload_n 0, 1) := by decide +kernel
theorem dX8_neverShown_25 : decode cX8_neverShown 25 = .ok (.getfield 26, 3) := by decide +kernel
theorem dX8_neverShown_28 : decode cX8_neverShown 28 = .ok (.bipush 11, 2) := by decide +kernel
theorem dX8_neverShown_30 : decode cX8_neverShown 30 = .ok (.iload_n 1, 1) := by decide +kernel
theorem dX8_neverShown_31 : decode cX8_neverShown 31 = .ok (.iadd, 1) := by decide +kernel
theorem dX8_neverShown_32 : decode cX8_neverShown 32 = .ok (.iaload, 1) := by decide +kernel
theorem dX8_neverShown_33 : decode cX8_neverShown 33 = .ok (.aload_n 0, 1) := by decide +kernel
theorem dX8_neverShown_34 : decode cX8_neverShown 34 = .ok (.getfield 26, 3) := by decide +kernel
theorem dX8_neverShown_37 : decode cX8_neverShown 37 = .ok (.bipush 26, 2) := by decide +kernel
theorem dX8_neverShown_39 : decode cX8_neverShown 39 = .ok (.iload_n 1, 1) := by decide +kernel
theorem dX8_neverShown_40 : decode cX8_neverShown 40 = .ok (.iadd, 1) := by decide +kernel
theorem dX8_neverShown_41 : decode cX8_neverShown 41 = .ok (.iaload, 1) := by decide +kernel
theorem dX8_neverShown_42 : decode cX8_neverShown 42 = .ok (.invokestatic 122, 3) := by decide +kernel
theorem dX8_neverShown_45 : decode cX8_neverShown 45 = .ok (.istore_n 3, 1) := by decide +kernel
theorem dX8_neverShown_46 : decode cX8_neverShown 46 = .ok (.iload_n 2, 1) := by decide +kernel
theorem dX8_neverShown_47 : decode cX8_neverShown 47 = .ok (.iconst 1, 1) := by decide +kernel
theorem dX8_neverShown_48 : decode cX8_neverShown 48 = .ok (.iload_n 3, 1) := by decide +kernel
theorem dX8_neverShown_49 : decode cX8_neverShown 49 = .ok (.ishl, 1) := by decide +kernel
theorem dX8_neverShown_50 : decode cX8_neverShown 50 = .ok (.ior, 1) := by decide +kernel
theorem dX8_neverShown_51 : decode cX8_neverShown 51 = .ok (.istore_n 2, 1) := by decide +kernel
theorem dX8_neverShown_52 : decode cX8_neverShown 52 = .ok (.iinc 4 1, 3) := by decide +kernel
theorem dX8_neverShown_55 : decode cX8_neverShown 55 = .ok (.goto (-48), 3) := by decide +kernel
theorem dX8_neverShown_58 : decode cX8_neverShown 58 = .ok (.iconst 0, 1) := by decide +kernel
theorem dX8_neverShown_59 : decode cX8_neverShown 59 = .ok (.istore 4, 2) := by decide +kernel
theorem dX8_neverShown_61 : decode cX8_neverShown 61 = .ok (.iconst 0, 1) := by decide +kernel
theorem dX8_neverShown_62 : decode cX8_neverShown 62 = .ok (.istore 5, 2) := by decide +kernel
theorem dX8_neverShown_64 : decode cX8_neverShown 64 = .ok (.iload 5, 2) := by decide +kernel
theorem dX8_neverShown_66 : decode cX8_neverShown 66 = .ok (.bipush 10, 2) := by decide +kernel
theorem dX8_neverShown_68 : decode cX8_neverShown 68 = .ok (.if_icmp .ge 28, 3) := by decide +kernel
theorem dX8_neverShown_71 : decode cX8_neverShown 71 = .ok (.iload 4, 2) := by decide +kernel
theorem dX8_neverShown_73 : decode cX8_neverShown 73 = .ok (.iload_n 2, 1) := by decide +kernel
theorem dX8_neverShown_74 : decode cX8_neverShown 74 = .ok (.iload 5, 2) := by decide +kernel
theorem dX8_neverShown_76 : decode cX8_neverShown 76 = .ok (.invokestatic 137, 3) := by decide +kernel
theorem dX8_neverShown_79 : decode cX8_neverShown 79 = .ok (.ifCond .eq 7, 3) := by decide +kernel
theorem dX8_neverShown_82 : decode cX8_neverShown 82 = .ok (.iconst 0, 1) := by decide +kernel
theorem dX8_neverShown_83 : decode cX8_neverShown 83 = .ok (.goto 4, 3) := by decide +kernel
theorem dX8_neverShown_86 : decode cX8_neverShown 86 = .ok (.iconst 1, 1) := by decide +kernel
theorem dX8_neverShown_87 : decode cX8_neverShown 87 = .ok (.iadd, 1) := by decide +kernel
theorem dX8_neverShown_88 : decode cX8_neverShown 88 = .ok (.istore 4, 2) := by decide +kernel
theorem dX8_neverShown_90 : decode cX8_neverShown 90 = .ok (.iinc 5 1, 3) := by decide +kernel
theorem dX8_neverShown_93 : decode cX8_neverShown 93 = .ok (.goto (-29), 3) := by decide +kernel
theorem dX8_neverShown_96 : decode cX8_neverShown 96 = .ok (.iload 4, 2) := by decide +kernel
theorem dX8_neverShown_98 : decode cX8_neverShown 98 = .ok (.ireturn, 1) := by decide +kernel
theorem dX8_mark_0 : decode cX8_mark 0 = .ok (.aload_n 0, 1) := by decide +kernel
theorem dX8_mark_1 : decode cX8_mark 1 = .ok (.iload_n 1, 1) := by decide +kernel
theorem dX8_mark_2 : decode cX8_mark 2 = .ok (.invokevirtual 126, 3) := by decide +kernel
theorem dX8_mark_5 : decode cX8_mark 5 = .ok (.ifCond .eq 12, 3) := by decide +kernel
theorem dX8_mark_8 : decode cX8_mark 8 = .ok (.iload_n 2, 1) := by decide +kernel
theorem dX8_mark_9 : decode cX8_mark 9 = .ok (.iconst 1, 1) := by decide +kernel
theorem dX8_mark_10 : decode cX8_mark 10 = .ok (.iconst 5, 1) := by decide +kernel
theorem dX8_mark_11 : decode cX8_mark 11 = .ok (.invokestatic 73, 3) := by decide +kernel
theorem dX8_mark_14 : decode cX8_mark 14 = .ok (.ifCond .ne 5, 3) := by decide +kernel
theorem dX8_mark_17 : decode cX8_mark 17 = .ok (.iconst (-1), 1) := by decide +kernel
theorem dX8_mark_18 : decode cX8_mark 18 = .ok (.ireturn, 1) := by decide +kernel
theorem dX8_mark_19 : decode cX8_mark 19 = .ok (.aload_n 0, 1) := by decide +kernel
theorem dX8_mark_20 : decode cX8_mark 20 = .ok (.getfield 26, 3) := by decide +kernel
theorem dX8_mark_23 : decode cX8_mark 23 = .ok (.bipush 19, 2) := by decide +kernel
theorem dX8_mark_25 : decode cX8_mark 25 = .ok (.iload_n 1, 1) := by decide +kernel
theorem dX8_mark_26 : decode cX8_mark 26 = .ok (.iadd, 1) := by decide +kernel
theorem dX8_mark_27 : decode cX8_mark 27 = .ok (.iaload, 1) := by decide +kernel
theorem dX8_mark_28 : decode cX8_mark 28 = .ok (.istore_n 3, 1) := by decide +kernel
theorem dX8_mark_29 : decode cX8_mark 29 = .ok (.iload_n 3, 1) := by decide +kernel
theorem dX8_mark_30 : decode cX8_mark 30 = .ok (.iload_n 2, 1) := by decide +kernel
theorem dX8_mark_31 : decode cX8_mark 31 = .ok (.invokestatic 141, 3) := by decide +kernel
theorem dX8_mark_34 : decode cX8_mark 34 = .ok (.ifCond .ne 9, 3) := by decide +kernel
theorem dX8_mark_37 : decode cX8_mark 37 = .ok (.aload_n 0, 1) := by decide +kernel
theorem dX8_mark_38 : decode cX8_mark 38 = .ok (.iconst 3, 1) := by decide +kernel
theorem dX8_mark_39 : decode cX8_mark 39 = .ok (.invokevirtual 81, 3) := by decide +kernel
theorem dX8_mark_42 : decode cX8_mark 42 = .ok (.ireturn, 1) := by decide +kernel
theorem dX8_mark_43 : decode cX8_mark 43 = .ok (.iload_n 2, 1) := by decide +kernel
theorem dX8_mark_44 : decode cX8_mark 44 = .ok (.tableswitch 84 1 4 #[32, 39, 45, 70], 32) := by decide +kernel
theorem dX8_mark_76 : decode cX8_mark 76 = .ok (.aload_n 0, 1) := by decide +kernel
theorem dX8_mark_77 : decode cX8_mark 77 = .ok (.iload_n 3, 1) := by decide +kernel
theorem dX8_mark_78 : decode cX8_mark 78 = .ok (.iload_n 1, 1) := by decide +kernel
theorem dX8_mark_79 : decode cX8_mark 79 = .ok (.invokevirtual 144, 3) := by decide +kernel
theorem dX8_mark_82 : decode cX8_mark 82 = .ok (.ireturn, 1) := by decide +kernel
theorem dX8_mark_83 : decode cX8_mark 83 = .ok (.aload_n 0, 1) := by decide +kernel
theorem dX8_mark_84 : decode cX8_mark 84 = .ok (.iload_n 1, 1) := by decide +kernel
theorem dX8_mark_85 : decode cX8_mark 85 = .ok (.invokevirtual 147, 3) := by decide +kernel
theorem dX8_mark_88 : decode cX8_mark 88 = .ok (.ireturn, 1) := by decide +kernel
theorem dX8_mark_89 : decode cX8_mark 89 = .ok (.aload_n 0, 1) := by decide +kernel
theorem dX8_mark_90 : decode cX8_mark 90 = .ok (.getfield 26, 3) := by decide +kernel
theorem dX8_mark_93 : decode cX8_mark 93 = .ok (.iconst 4, 1) := by decide +kernel
theorem dX8_mark_94 : decode cX8_mark 94 = .ok (.iload_n 1, 1) := by decide +kernel
theorem dX8_mark_95 : decode cX8_mark 95 = .ok (.iadd, 1) := by decide +kernel
theorem dX8_mark_96 : decode cX8_mark 96 = .ok (.iaload, 1) := by decide +kernel
theorem dX8_mark_97 : decode cX8_mark 97 = .ok (.aload_n 0, 1) := by decide +kernel
theorem dX8_mark_98 : decode cX8_mark 98 = .ok (.getfield 26, 3) := by decide +kernel
theorem dX8_mark_101 : decode cX8_mark 101 = .ok (.bipush 11, 2) := by decide +kernel
theorem dX8_mark_103 : decode cX8_mark 103 = .ok (.iload_n 1, 1) := by decide +kernel
theorem dX8_mark_104 : decode cX8_mark 104 = .ok (.iadd, 1) := by decide +kernel
theorem dX8_mark_105 : decode cX8_mark 105 = .ok (.iaload, 1) := by decide +kernel
theorem dX8_mark_106 : decode cX8_mark 106 = .ok (.isub, 1) := by decide +kernel
theorem dX8_mark_107 : decode cX8_mark 107 = .ok (.bipush 10, 2) := by decide +kernel
theorem dX8_mark_109 : decode cX8_mark 109 = .ok (.iadd, 1) := by decide +kernel
theorem dX8_mark_110 : decode cX8_mark 110 = .ok (.bipush 10, 2) := by decide +kernel
theorem dX8_mark_112 : decode cX8_mark 112 = .ok (.irem, 1) := by decide +kernel
theorem dX8_mark_113 : decode cX8_mark 113 = .ok (.ireturn, 1) := by decide +kernel
theorem dX8_mark_114 : decode cX8_mark 114 = .ok (.aload_n 0, 1) := by decide +kernel
theorem dX8_mark_115 : decode cX8_mark 115 = .ok (.iconst 1, 1) := by decide +kernel
theorem dX8_mark_116 : decode cX8_mark 116 = .ok (.iload_n 1, 1) := by decide +kernel
theorem dX8_mark_117 : decode cX8_mark 117 = .ok (.invokevirtual 144, 3) := by decide +kernel
theorem dX8_mark_120 : decode cX8_mark 120 = .ok (.aload_n 0, 1) := by decide +kernel
theorem dX8_mark_121 : decode cX8_mark 121 = .ok (.iconst 4, 1) := by decide +kernel
theorem dX8_mark_122 : decode cX8_mark 122 = .ok (.iload_n 1, 1) := by decide +kernel
theorem dX8_mark_123 : decode cX8_mark 123 = .ok (.invokevirtual 144, 3) := by decide +kernel
theorem dX8_mark_126 : decode cX8_mark 126 = .ok (.isub, 1) := by decide +kernel
theorem dX8_mark_127 : decode cX8_mark 127 = .ok (.ireturn, 1) := by decide +kernel
theorem dX8_mark_128 : decode cX8_mark 128 = .ok (.aload_n 0, 1) := by decide +kernel
theorem dX8_mark_129 : decode cX8_mark 129 = .ok (.getfield 26, 3) := by decide +kernel
theorem dX8_mark_132 : decode cX8_mark 132 = .ok (.iload_n 1, 1) := by decide +kernel
theorem dX8_mark_133 : decode cX8_mark 133 = .ok (.invokestatic 133, 3) := by decide +kernel
theorem dX8_mark_136 : decode cX8_mark 136 = .ok (.aload_n 0, 1) := by decide +kernel
theorem dX8_mark_137 : decode cX8_mark 137 = .ok (.getfield 26, 3) := by decide +kernel
theorem dX8_mark_140 : decode cX8_mark 140 = .ok (.iconst 4, 1) := by decide +kernel
theorem dX8_mark_141 : decode cX8_mark 141 = .ok (.iload_n 1, 1) := by decide +kernel
theorem dX8_mark_142 : decode cX8_mark 142 = .ok (.iadd, 1) := by decide +kernel
theorem dX8_mark_143 : decode cX8_mark 143 = .ok (.iaload, 1) := by decide +kernel
theorem dX8_mark_144 : decode cX8_mark 144 = .ok (.isub, 1) := by decide +kernel
theorem dX8_mark_145 : decode cX8_mark 145 = .ok (.bipush 10, 2) := by decide +kernel
theorem dX8_mark_147 : decode cX8_mark 147 = .ok (.iadd, 1) := by decide +kernel
theorem dX8_mark_148 : decode cX8_mark 148 = .ok (.bipush 10, 2) := by decide +kernel
theorem dX8_mark_150 : decode cX8_mark 150 = .ok (.irem, 1) := by decide +kernel
theorem dX8_mark_151 : decode cX8_mark 151 = .ok (.ireturn, 1) := by decide +kernel
theorem dX8_does_0 : decode cX8_does 0 = .ok (.iconst 0, 1) := by decide +kernel
theorem dX8_does_1 : decode cX8_does 1 = .ok (.istore_n 1, 1) := by decide +kernel
theorem dX8_does_2 : decode cX8_does 2 = .ok (.iload_n 1, 1) := by decide +kernel
theorem dX8_does_3 : decode cX8_does 3 = .ok (.bipush 18, 2) := by decide +kernel
theorem dX8_does_5 : decode cX8_does 5 = .ok (.if_icmp .ge 29, 3) := by decide +kernel
theorem dX8_does_8 : decode cX8_does 8 = .ok (.aload_n 0, 1) := by decide +kernel
theorem dX8_does_9 : decode cX8_does 9 = .ok (.getfield 38, 3) := by decide +kernel
theorem dX8_does_12 : decode cX8_does 12 = .ok (.bipush 18, 2) := by decide +kernel
theorem dX8_does_14 : decode cX8_does 14 = .ok (.aload_n 0, 1) := by decide +kernel
theorem dX8_does_15 : decode cX8_does 15 = .ok (.getfield 111, 3) := by decide +kernel
theorem dX8_does_18 : decode cX8_does 18 = .ok (.imul, 1) := by decide +kernel
theorem dX8_does_19 : decode cX8_does 19 = .ok (.iload_n 1, 1) := by decide +kernel
theorem dX8_does_20 : decode cX8_does 20 = .ok (.iadd, 1) := by decide +kernel
theorem dX8_does_21 : decode cX8_does 21 = .ok (.aload_n 0, 1) := by decide +kernel
theorem dX8_does_22 : decode cX8_does 22 = .ok (.getfield 26, 3) := by decide +kernel
theorem dX8_does_25 : decode cX8_does 25 = .ok (.iload_n 1, 1) := by decide +kernel
theorem dX8_does_26 : decode cX8_does 26 = .ok (.iaload, 1) := by decide +kernel
theorem dX8_does_27 : decode cX8_does 27 = .ok (.iastore, 1) := by decide +kernel
theorem dX8_does_28 : decode cX8_does 28 = .ok (.iinc 1 1, 3) := by decide +kernel
theorem dX8_does_31 : decode cX8_does 31 = .ok (.goto (-29), 3) := by decide +kernel
theorem dX8_does_34 : decode cX8_does 34 = .ok (.aload_n 0, 1) := by decide +kernel
theorem dX8_does_35 : decode cX8_does 35 = .ok (.dup, 1) := by decide +kernel
theorem dX8_does_36 : decode cX8_does 36 = .ok (.getfield 111, 3) := by decide +kernel
theorem dX8_does_39 : decode cX8_does 39 = .ok (.iconst 1, 1) := by decide +kernel
theorem dX8_does_40 : decode cX8_does 40 = .ok (.iadd, 1) := by decide +kernel
theorem dX8_does_41 : decode cX8_does 41 = .ok (.putfield 111, 3) := by decide +kernel
theorem dX8_does_44 : decode cX8_does 44 = .ok (.return_, 1) := by decide +kernel
theorem dX8_goes_0 : decode cX8_goes 0 = .ok (.iconst 0, 1) := by decide +kernel
theorem dX8_goes_1 : decode cX8_goes 1 = .ok (.istore_n 1, 1) := by decide +kernel
theorem dX8_goes_2 : decode cX8_goes 2 = .ok (.iconst 0, 1) := by decide +kernel
theorem dX8_goes_3 : decode cX8_goes 3 = .ok (.istore_n 2, 1) := by decide +kernel
theorem dX8_goes_4 : decode cX8_goes 4 = .ok (.iload_n 2, 1) := by decide +kernel
theorem dX8_goes_5 : decode cX8_goes 5 = .ok (.aload_n 0, 1) := by decide +kernel
theorem dX8_goes_6 : decode cX8_goes 6 = .ok (.bipush 18, 2) := by decide +kernel
theorem dX8_goes_8 : decode cX8_goes 8 = .ok (.iaload, 1) := by decide +kernel
theorem dX8_goes_9 : decode cX8_goes 9 = .ok (.if_icmp .ge 47, 3) := by decide +kernel
theorem dX8_goes_12 : decode cX8_goes 12 = .ok (.iload_n 1, 1) := by decide +kernel
theorem dX8_goes_13 : decode cX8_goes 13 = .ok (.aload_n 0, 1) := by decide +kernel
theorem dX8_goes_14 : decode cX8_goes 14 = .ok (.iconst 0, 1) := by decide +kernel
theorem dX8_goes_15 : decode cX8_goes 15 = .ok (.iaload, 1) := by decide +kernel
theorem dX8_goes_16 : decode cX8_goes 16 = .ok (.if_icmp .ge 40, 3) := by decide +kernel
theorem dX8_goes_19 : decode cX8_goes 19 = .ok (.aload_n 0, 1) := by decide +kernel
theorem dX8_goes_20 : decode cX8_goes 20 = .ok (.iload_n 2, 1) := by decide +kernel
theorem dX8_goes_21 : decode cX8_goes 21 = .ok (.invokestatic 129, 3) := by decide +kernel
theorem dX8_goes_24 : decode cX8_goes 24 = .ok (.ifCond .eq 26, 3) := by decide +kernel
theorem dX8_goes_27 : decode cX8_goes 27 = .ok (.aload_n 0, 1) := by decide +kernel
theorem dX8_goes_28 : decode cX8_goes 28 = .ok (.iconst 3, 1) := by decide +kernel
theorem dX8_goes_29 : decode cX8_goes 29 = .ok (.iaload, 1) := by decide +kernel
theorem dX8_goes_30 : decode cX8_goes 30 = .ok (.iload_n 2, 1) := by decide +kernel
theorem dX8_goes_31 : decode cX8_goes 31 = .ok (.invokestatic 137, 3) := by decide +kernel
theorem dX8_goes_34 : decode cX8_goes 34 = .ok (.ifCond .ne 16, 3) := by decide +kernel
theorem dX8_goes_37 : decode cX8_goes 37 = .ok (.aload_n 0, 1) := by decide +kernel
theorem dX8_goes_38 : decode cX8_goes 38 = .ok (.iconst 4, 1) := by decide +kernel
theorem dX8_goes_39 : decode cX8_goes 39 = .ok (.iload_n 2, 1) := by decide +kernel
theorem dX8_goes_40 : decode cX8_goes 40 = .ok (.iadd, 1) := by decide +kernel
theorem dX8_goes_41 : decode cX8_goes 41 = .ok (.aload_n 0, 1) := by decide +kernel
theorem dX8_goes_42 : decode cX8_goes 42 = .ok (.iload_n 2, 1) := by decide +kernel
theorem dX8_goes_43 : decode cX8_goes 43 = .ok (.invokestatic 133, 3) := by decide +kernel
theorem dX8_goes_46 : decode cX8_goes 46 = .ok (.iastore, 1) := by decide +kernel
theorem dX8_goes_47 : decode cX8_goes 47 = .ok (.iinc 1 1, 3) := by decide +kernel
theorem dX8_goes_50 : decode cX8_goes 50 = .ok (.iinc 2 1, 3) := by decide +kernel
theorem dX8_goes_53 : decode cX8_goes 53 = .ok (.goto (-49), 3) := by decide +kernel
theorem dX8_goes_56 : decode cX8_goes 56 = .ok (.aload_n 0, 1) := by decide +kernel
theorem dX8_goes_57 : decode cX8_goes 57 = .ok (.iconst 1, 1) := by decide +kernel
theorem dX8_goes_58 : decode cX8_goes 58 = .ok (.dup2, 1) := by decide +kernel
theorem dX8_goes_59 : decode cX8_goes 59 = .ok (.iaload, 1) := by decide +kernel
theorem dX8_goes_60 : decode cX8_goes 60 = .ok (.iconst 1, 1) := by decide +kernel
theorem dX8_goes_61 : decode cX8_goes 61 = .ok (.iadd, 1) := by decide +kernel
theorem dX8_goes_62 : decode cX8_goes 62 = .ok (.iastore, 1) := by decide +kernel
theorem dX8_goes_63 : decode cX8_goes 63 = .ok (.aload_n 0, 1) := by decide +kernel
theorem dX8_goes_64 : decode cX8_goes 64 = .ok (.iconst 2, 1) := by decide +kernel
theorem dX8_goes_65 : decode cX8_goes 65 = .ok (.dup2, 1) := by decide +kernel
theorem dX8_goes_66 : decode cX8_goes 66 = .ok (.iaload, 1) := by decide +kernel
theorem dX8_goes_67 : decode cX8_goes 67 = .ok (.iload_n 1, 1) := by decide +kernel
theorem dX8_goes_68 : decode cX8_goes 68 = .ok (.iadd, 1) := by decide +kernel
theorem dX8_goes_69 : decode cX8_goes 69 = .ok (.iastore, 1) := by decide +kernel
theorem dX8_goes_70 : decode cX8_goes 70 = .ok (.iload_n 1, 1) := by decide +kernel
theorem dX8_goes_71 : decode cX8_goes 71 = .ok (.ireturn, 1) := by decide +kernel
theorem dX8_tick_0 : decode cX8_tick 0 = .ok (.aload_n 0, 1) := by decide +kernel
theorem dX8_tick_1 : decode cX8_tick 1 = .ok (.getfield 26, 3) := by decide +kernel
theorem dX8_tick_4 : decode cX8_tick 4 = .ok (.bipush 18, 2) := by decide +kernel
theorem dX8_tick_6 : decode cX8_tick 6 = .ok (.iaload, 1) := by decide +kernel
theorem dX8_tick_7 : decode cX8_tick 7 = .ok (.ifCond .eq 14, 3) := by decide +kernel
theorem dX8_tick_10 : decode cX8_tick 10 = .ok (.aload_n 0, 1) := by decide +kernel
theorem dX8_tick_11 : decode cX8_tick 11 = .ok (.getfield 26, 3) := by decide +kernel
theorem dX8_tick_14 : decode cX8_tick 14 = .ok (.iconst 1, 1) := by decide +kernel
theorem dX8_tick_15 : decode cX8_tick 15 = .ok (.iaload, 1) := by decide +kernel
theorem dX8_tick_16 : decode cX8_tick 16 = .ok (.bipush 99, 2) := by decide +kernel
theorem dX8_tick_18 : decode cX8_tick 18 = .ok (.if_icmp .ne 6, 3) := by decide +kernel
theorem dX8_tick_21 : decode cX8_tick 21 = .ok (.bipush (-4), 2) := by decide +kernel
theorem dX8_tick_23 : decode cX8_tick 23 = .ok (.ireturn, 1) := by decide +kernel
theorem dX8_tick_24 : decode cX8_tick 24 = .ok (.aload_n 0, 1) := by decide +kernel
theorem dX8_tick_25 : decode cX8_tick 25 = .ok (.getfield 111, 3) := by decide +kernel
theorem dX8_tick_28 : decode cX8_tick 28 = .ok (.bipush 40, 2) := by decide +kernel
theorem dX8_tick_30 : decode cX8_tick 30 = .ok (.if_icmp .ne 6, 3) := by decide +kernel
theorem dX8_tick_33 : decode cX8_tick 33 = .ok (.bipush (-2), 2) := by decide +kernel
theorem dX8_tick_35 : decode cX8_tick 35 = .ok (.ireturn, 1) := by decide +kernel
theorem dX8_tick_36 : decode cX8_tick 36 = .ok (.aload_n 0, 1) := by decide +kernel
theorem dX8_tick_37 : decode cX8_tick 37 = .ok (.invokevirtual 150, 3) := by decide +kernel
theorem dX8_tick_40 : decode cX8_tick 40 = .ok (.aload_n 0, 1) := by decide +kernel
theorem dX8_tick_41 : decode cX8_tick 41 = .ok (.getfield 26, 3) := by decide +kernel
theorem dX8_tick_44 : decode cX8_tick 44 = .ok (.invokestatic 153, 3) := by decide +kernel
theorem dX8_tick_47 : decode cX8_tick 47 = .ok (.ireturn, 1) := by decide +kernel
theorem dX8_aim_0 : decode cX8_aim 0 = .ok (.aload_n 0, 1) := by decide +kernel
theorem dX8_aim_1 : decode cX8_aim 1 = .ok (.iload_n 1, 1) := by decide +kernel
theorem dX8_aim_2 : decode cX8_aim 2 = .ok (.invokevirtual 126, 3) := by decide +kernel
theorem dX8_aim_5 : decode cX8_aim 5 = .ok (.ifCond .eq 13, 3) := by decide +kernel
theorem dX8_aim_8 : decode cX8_aim 8 = .ok (.iload_n 2, 1) := by decide +kernel
theorem dX8_aim_9 : decode cX8_aim 9 = .ok (.iconst 0, 1) := by decide +kernel
theorem dX8_aim_10 : decode cX8_aim 10 = .ok (.bipush 9, 2) := by decide +kernel
theorem dX8_aim_12 : decode cX8_aim 12 = .ok (.invokestatic 73, 3) := by decide +kernel
theorem dX8_aim_15 : decode cX8_aim 15 = .ok (.ifCond .ne 5, 3) := by decide +kernel
theorem dX8_aim_18 : decode cX8_aim 18 = .ok (.iconst (-1), 1) := by decide +kernel
theorem dX8_aim_19 : decode cX8_aim 19 = .ok (.ireturn, 1) := by decide +kernel
theorem dX8_aim_20 : decode cX8_aim 20 = .ok (.aload_n 0, 1) := by decide +kernel
theorem dX8_aim_21 : decode cX8_aim 21 = .ok (.getfield 26, 3) := by decide +kernel
theorem dX8_aim_24 : decode cX8_aim 24 = .ok (.bipush 11, 2) := by decide +kernel
theorem dX8_aim_26 : decode cX8_aim 26 = .ok (.iload_n 1, 1) := by decide +kernel
theorem dX8_aim_27 : decode cX8_aim 27 = .ok (.iadd, 1) := by decide +kernel
theorem dX8_aim_28 : decode cX8_aim 28 = .ok (.iaload, 1) := by decide +kernel
theorem dX8_aim_29 : decode cX8_aim 29 = .ok (.iload_n 2, 1) := by decide +kernel
theorem dX8_aim_30 : decode cX8_aim 30 = .ok (.if_icmp .ne 6, 3) := by decide +kernel
theorem dX8_aim_33 : decode cX8_aim 33 = .ok (.bipush (-4), 2) := by decide +kernel
theorem dX8_aim_35 : decode cX8_aim 35 = .ok (.ireturn, 1) := by decide +kernel
theorem dX8_aim_36 : decode cX8_aim 36 = .ok (.aload_n 0, 1) := by decide +kernel
theorem dX8_aim_37 : decode cX8_aim 37 = .ok (.getfield 111, 3) := by decide +kernel
theorem dX8_aim_40 : decode cX8_aim 40 = .ok (.bipush 40, 2) := by decide +kernel
theorem dX8_aim_42 : decode cX8_aim 42 = .ok (.if_icmp .ne 6, 3) := by decide +kernel
theorem dX8_aim_45 : decode cX8_aim 45 = .ok (.bipush (-2), 2) := by decide +kernel
theorem dX8_aim_47 : decode cX8_aim 47 = .ok (.ireturn, 1) := by decide +kernel
theorem dX8_aim_48 : decode cX8_aim 48 = .ok (.aload_n 0, 1) := by decide +kernel
theorem dX8_aim_49 : decode cX8_aim 49 = .ok (.invokevirtual 150, 3) := by decide +kernel
theorem dX8_aim_52 : decode cX8_aim 52 = .ok (.aload_n 0, 1) := by decide +kernel
theorem dX8_aim_53 : decode cX8_aim 53 = .ok (.getfield 26, 3) := by decide +kernel
theorem dX8_aim_56 : decode cX8_aim 56 = .ok (.bipush 11, 2) := by decide +kernel
theorem dX8_aim_58 : decode cX8_aim 58 = .ok (.iload_n 1, 1) := by decide +kernel
theorem dX8_aim_59 : decode cX8_aim 59 = .ok (.iadd, 1) := by decide +kernel
theorem dX8_aim_60 : decode cX8_aim 60 = .ok (.iaload, 1) := by decide +kernel
theorem dX8_aim_61 : decode cX8_aim 61 = .ok (.istore_n 3, 1) := by decide +kernel
theorem dX8_aim_62 : decode cX8_aim 62 = .ok (.aload_n 0, 1) := by decide +kernel
theorem dX8_aim_63 : decode cX8_aim 63 = .ok (.getfield 26, 3) := by decide +kernel
theorem dX8_aim_66 : decode cX8_aim 66 = .ok (.bipush 11, 2) := by decide +kernel
theorem dX8_aim_68 : decode cX8_aim 68 = .ok (.iload_n 1, 1) := by decide +kernel
theorem dX8_aim_69 : decode cX8_aim 69 = .ok (.iadd, 1) := by decide +kernel
theorem dX8_aim_70 : decode cX8_aim 70 = .ok (.iload_n 2, 1) := by decide +kernel
theorem dX8_aim_71 : decode cX8_aim 71 = .ok (.iastore, 1) := by decide +kernel
theorem dX8_aim_72 : decode cX8_aim 72 = .ok (.iload_n 3, 1) := by decide +kernel
theorem dX8_aim_73 : decode cX8_aim 73 = .ok (.ireturn, 1) := by decide +kernel
theorem dX8_power_0 : decode cX8_power 0 = .ok (.iload_n 1, 1) := by decide +kernel
theorem dX8_power_1 : decode cX8_power 1 = .ok (.iconst 1, 1) := by decide +kernel
theorem dX8_power_2 : decode cX8_power 2 = .ok (.bipush 9, 2) := by decide +kernel
theorem dX8_power_4 : decode cX8_power 4 = .ok (.invokestatic 73, 3) := by decide +kernel
theorem dX8_power_7 : decode cX8_power 7 = .ok (.ifCond .ne 5, 3) := by decide +kernel
theorem dX8_power_10 : decode cX8_power 10 = .ok (.iconst (-1), 1) := by decide +kernel
theorem dX8_power_11 : decode cX8_power 11 = .ok (.ireturn, 1) := by decide +kernel
theorem dX8_power_12 : decode cX8_power 12 = .ok (.aload_n 0, 1) := by decide +kernel
theorem dX8_power_13 : decode cX8_power 13 = .ok (.getfield 26, 3) := by decide +kernel
theorem dX8_power_16 : decode cX8_power 16 = .ok (.bipush 18, 2) := by decide +kernel
theorem dX8_power_18 : decode cX8_power 18 = .ok (.iaload, 1) := by decide +kernel
theorem dX8_power_19 : decode cX8_power 19 = .ok (.ifCond .eq 13, 3) := by decide +kernel
theorem dX8_power_22 : decode cX8_power 22 = .ok (.aload_n 0, 1) := by decide +kernel
theorem dX8_power_23 : decode cX8_power 23 = .ok (.getfield 26, 3) := by decide +kernel
theorem dX8_power_26 : decode cX8_power 26 = .ok (.iconst 0, 1) := by decide +kernel
theorem dX8_power_27 : decode cX8_power 27 = .ok (.iaload, 1) := by decide +kernel
theorem dX8_power_28 : decode cX8_power 28 = .ok (.iload_n 1, 1) := by decide +kernel
theorem dX8_power_29 : decode cX8_power 29 = .ok (.if_icmp .ne 6, 3) := by decide +kernel
theorem dX8_power_32 : decode cX8_power 32 = .ok (.bipush (-4), 2) := by decide +kernel
theorem dX8_power_34 : decode cX8_power 34 = .ok (.ireturn, 1) := by decide +kernel
theorem dX8_power_35 : decode cX8_power 35 = .ok (.aload_n 0, 1) := by decide +kernel
theorem dX8_power_36 : decode cX8_power 36 = .ok (.getfield 111, 3) := by decide +kernel
theorem dX8_power_39 : decode cX8_power 39 = .ok (.bipush 40, 2) := by decide +kernel
theorem dX8_power_41 : decode cX8_power 41 = .ok (.if_icmp .ne 6, 3) := by decide +kernel
theorem dX8_power_44 : decode cX8_power 44 = .ok (.bipush (-2), 2) := by decide +kernel
theorem dX8_power_46 : decode cX8_power 46 = .ok (.ireturn, 1) := by decide +kernel
theorem dX8_power_47 : decode cX8_power 47 = .ok (.aload_n 0, 1) := by decide +kernel
theorem dX8_power_48 : decode cX8_power 48 = .ok (.invokevirtual 150, 3) := by decide +kernel
theorem dX8_power_51 : decode cX8_power 51 = .ok (.aload_n 0, 1) := by decide +kernel
theorem dX8_power_52 : decode cX8_power 52 = .ok (.getfield 26, 3) := by decide +kernel
theorem dX8_power_55 : decode cX8_power 55 = .ok (.iconst 0, 1) := by decide +kernel
theorem dX8_power_56 : decode cX8_power 56 = .ok (.iaload, 1) := by decide +kernel
theorem dX8_power_57 : decode cX8_power 57 = .ok (.istore_n 2, 1) := by decide +kernel
theorem dX8_power_58 : decode cX8_power 58 = .ok (.aload_n 0, 1) := by decide +kernel
theorem dX8_power_59 : decode cX8_power 59 = .ok (.getfield 26, 3) := by decide +kernel
theorem dX8_power_62 : decode cX8_power 62 = .ok (.iconst 0, 1) := by decide +kernel
theorem dX8_power_63 : decode cX8_power 63 = .ok (.iload_n 1, 1) := by decide +kernel
theorem dX8_power_64 : decode cX8_power 64 = .ok (.iastore, 1) := by decide +kernel
theorem dX8_power_65 : decode cX8_power 65 = .ok (.iload_n 2, 1) := by decide +kernel
theorem dX8_power_66 : decode cX8_power 66 = .ok (.ireturn, 1) := by decide +kernel
theorem dX8_ones_0 : decode cX8_ones 0 = .ok (.iconst 0, 1) := by decide +kernel
theorem dX8_ones_1 : decode cX8_ones 1 = .ok (.istore_n 1, 1) := by decide +kernel
theorem dX8_ones_2 : decode cX8_ones 2 = .ok (.iconst 0, 1) := by decide +kernel
theorem dX8_ones_3 : decode cX8_ones 3 = .ok (.istore_n 2, 1) := by decide +kernel
theorem dX8_ones_4 : decode cX8_ones 4 = .ok (.iload_n 2, 1) := by decide +kernel
theorem dX8_ones_5 : decode cX8_ones 5 = .ok (.bipush 7, 2) := by decide +kernel
theorem dX8_ones_7 : decode cX8_ones 7 = .ok (.if_icmp .ge 17, 3) := by decide +kernel
theorem dX8_ones_10 : decode cX8_ones 10 = .ok (.iload_n 1, 1) := by decide +kernel
theorem dX8_ones_11 : decode cX8_ones 11 = .ok (.iload_n 0, 1) := by decide +kernel
theorem dX8_ones_12 : decode cX8_ones 12 = .ok (.iload_n 2, 1) := by decide +kernel
theorem dX8_ones_13 : decode cX8_ones 13 = .ok (.ishr, 1) := by decide +kernel
theorem dX8_ones_14 : decode cX8_ones 14 = .ok (.iconst 1, 1) := by decide +kernel
theorem dX8_ones_15 : decode cX8_ones 15 = .ok (.iand, 1) := by decide +kernel
theorem dX8_ones_16 : decode cX8_ones 16 = .ok (.iadd, 1) := by decide +kernel
theorem dX8_ones_17 : decode cX8_ones 17 = .ok (.istore_n 1, 1) := by decide +kernel
theorem dX8_ones_18 : decode cX8_ones 18 = .ok (.iinc 2 1, 3) := by decide +kernel
theorem dX8_ones_21 : decode cX8_ones 21 = .ok (.goto (-17), 3) := by decide +kernel
theorem dX8_ones_24 : decode cX8_ones 24 = .ok (.iload_n 1, 1) := by decide +kernel
theorem dX8_ones_25 : decode cX8_ones 25 = .ok (.ireturn, 1) := by decide +kernel
theorem dX8_jam_0 : decode cX8_jam 0 = .ok (.aload_n 0, 1) := by decide +kernel
theorem dX8_jam_1 : decode cX8_jam 1 = .ok (.iload_n 1, 1) := by decide +kernel
theorem dX8_jam_2 : decode cX8_jam 2 = .ok (.invokevirtual 126, 3) := by decide +kernel
theorem dX8_jam_5 : decode cX8_jam 5 = .ok (.ifCond .ne 5, 3) := by decide +kernel
theorem dX8_jam_8 : decode cX8_jam 8 = .ok (.iconst (-1), 1) := by decide +kernel
theorem dX8_jam_9 : decode cX8_jam 9 = .ok (.ireturn, 1) := by decide +kernel
theorem dX8_jam_10 : decode cX8_jam 10 = .ok (.aload_n 0, 1) := by decide +kernel
theorem dX8_jam_11 : decode cX8_jam 11 = .ok (.getfield 111, 3) := by decide +kernel
theorem dX8_jam_14 : decode cX8_jam 14 = .ok (.bipush 40, 2) := by decide +kernel
theorem dX8_jam_16 : decode cX8_jam 16 = .ok (.if_icmp .ne 6, 3) := by decide +kernel
theorem dX8_jam_19 : decode cX8_jam 19 = .ok (.bipush (-2), 2) := by decide +kernel
theorem dX8_jam_21 : decode cX8_jam 21 = .ok (.ireturn, 1) := by decide +kernel
theorem dX8_jam_22 : decode cX8_jam 22 = .ok (.aload_n 0, 1) := by decide +kernel
theorem dX8_jam_23 : decode cX8_jam 23 = .ok (.invokevirtual 150, 3) := by decide +kernel
theorem dX8_jam_26 : decode cX8_jam 26 = .ok (.aload_n 0, 1) := by decide +kernel
theorem dX8_jam_27 : decode cX8_jam 27 = .ok (.getfield 26, 3) := by decide +kernel
theorem dX8_jam_30 : decode cX8_jam 30 = .ok (.iconst 3, 1) := by decide +kernel
theorem dX8_jam_31 : decode cX8_jam 31 = .ok (.dup2, 1) := by decide +kernel
theorem dX8_jam_32 : decode cX8_jam 32 = .ok (.iaload, 1) := by decide +kernel
theorem dX8_jam_33 : decode cX8_jam 33 = .ok (.iconst 1, 1) := by decide +kernel
theorem dX8_jam_34 : decode cX8_jam 34 = .ok (.iload_n 1, 1) := by decide +kernel
theorem dX8_jam_35 : decode cX8_jam 35 = .ok (.ishl, 1) := by decide +kernel
theorem dX8_jam_36 : decode cX8_jam 36 = .ok (.ixor, 1) := by decide +kernel
theorem dX8_jam_37 : decode cX8_jam 37 = .ok (.iastore, 1) := by decide +kernel
theorem dX8_jam_38 : decode cX8_jam 38 = .ok (.aload_n 0, 1) := by decide +kernel
theorem dX8_jam_39 : decode cX8_jam 39 = .ok (.getfield 26, 3) := by decide +kernel
theorem dX8_jam_42 : decode cX8_jam 42 = .ok (.iconst 3, 1) := by decide +kernel
theorem dX8_jam_43 : decode cX8_jam 43 = .ok (.iaload, 1) := by decide +kernel
theorem dX8_jam_44 : decode cX8_jam 44 = .ok (.invokestatic 157, 3) := by decide +kernel
theorem dX8_jam_47 : decode cX8_jam 47 = .ok (.ireturn, 1) := by decide +kernel
theorem dX8_undo_0 : decode cX8_undo 0 = .ok (.iload_n 1, 1) := by decide +kernel
theorem dX8_undo_1 : decode cX8_undo 1 = .ok (.iconst 0, 1) := by decide +kernel
theorem dX8_undo_2 : decode cX8_undo 2 = .ok (.aload_n 0, 1) := by decide +kernel
theorem dX8_undo_3 : decode cX8_undo 3 = .ok (.getfield 111, 3) := by decide +kernel
theorem dX8_undo_6 : decode cX8_undo 6 = .ok (.invokestatic 73, 3) := by decide +kernel
theorem dX8_undo_9 : decode cX8_undo 9 = .ok (.ifCond .ne 5, 3) := by decide +kernel
theorem dX8_undo_12 : decode cX8_undo 12 = .ok (.iconst (-1), 1) := by decide +kernel
theorem dX8_undo_13 : decode cX8_undo 13 = .ok (.ireturn, 1) := by decide +kernel
theorem dX8_undo_14 : decode cX8_undo 14 = .ok (.aload_n 0, 1) := by decide +kernel
theorem dX8_undo_15 : decode cX8_undo 15 = .ok (.getfield 111, 3) := by decide +kernel
theorem dX8_undo_18 : decode cX8_undo 18 = .ok (.iload_n 1, 1) := by decide +kernel
theorem dX8_undo_19 : decode cX8_undo 19 = .ok (.isub, 1) := by decide +kernel
theorem dX8_undo_20 : decode cX8_undo 20 = .ok (.istore_n 2, 1) := by decide +kernel
theorem dX8_undo_21 : decode cX8_undo 21 = .ok (.iload_n 2, 1) := by decide +kernel
theorem dX8_undo_22 : decode cX8_undo 22 = .ok (.ifCond .le 34, 3) := by decide +kernel
theorem dX8_undo_25 : decode cX8_undo 25 = .ok (.iconst 0, 1) := by decide +kernel
theorem dX8_undo_26 : decode cX8_undo 26 = .ok (.istore_n 3, 1) := by decide +kernel
theorem dX8_undo_27 : decode cX8_undo 27 = .ok (.iload_n 3, 1) := by decide +kernel
theorem dX8_undo_28 : decode cX8_undo 28 = .ok (.bipush 18, 2) := by decide +kernel
theorem dX8_undo_30 : decode cX8_undo 30 = .ok (.if_icmp .ge 26, 3) := by decide +kernel
theorem dX8_undo_33 : decode cX8_undo 33 = .ok (.aload_n 0, 1) := by decide +kernel
theorem dX8_undo_34 : decode cX8_undo 34 = .ok (.getfield 26, 3) := by decide +kernel
theorem dX8_undo_37 : decode cX8_undo 37 = .ok (.iload_n 3, 1) := by decide +kernel
theorem dX8_undo_38 : decode cX8_undo 38 = .ok (.aload_n 0, 1) := by decide +kernel
theorem dX8_undo_39 : decode cX8_undo 39 = .ok (.getfield 38, 3) := by decide +kernel
theorem dX8_undo_42 : decode cX8_undo 42 = .ok (.bipush 18, 2) := by decide +kernel
theorem dX8_undo_44 : decode cX8_undo 44 = .ok (.iload_n 1, 1) := by decide +kernel
theorem dX8_undo_45 : decode cX8_undo 45 = .ok (.imul, 1) := by decide +kernel
theorem dX8_undo_46 : decode cX8_undo 46 = .ok (.iload_n 3, 1) := by decide +kernel
theorem dX8_undo_47 : decode cX8_undo 47 = .ok (.iadd, 1) := by decide +kernel
theorem dX8_undo_48 : decode cX8_undo 48 = .ok (.iaload, 1) := by decide +kernel
theorem dX8_undo_49 : decode cX8_undo 49 = .ok (.iastore, 1) := by decide +kernel
theorem dX8_undo_50 : decode cX8_undo 50 = .ok (.iinc 3 1, 3) := by decide +kernel
theorem dX8_undo_53 : decode cX8_undo 53 = .ok (.goto (-26), 3) := by decide +kernel
theorem dX8_undo_56 : decode cX8_undo 56 = .ok (.aload_n 0, 1) := by decide +kernel
theorem dX8_undo_57 : decode cX8_undo 57 = .ok (.iload_n 1, 1) := by decide +kernel
theorem dX8_undo_58 : decode cX8_undo 58 = .ok (.putfield 111, 3) := by decide +kernel
theorem dX8_undo_61 : decode cX8_undo 61 = .ok (.iload_n 2, 1) := by decide +kernel
theorem dX8_undo_62 : decode cX8_undo 62 = .ok (.ireturn, 1) := by decide +kernel
theorem dX8_keep_0 : decode cX8_keep 0 = .ok (.iload_n 1, 1) := by decide +kernel
theorem dX8_keep_1 : decode cX8_keep 1 = .ok (.iconst 0, 1) := by decide +kernel
theorem dX8_keep_2 : decode cX8_keep 2 = .ok (.iconst 2, 1) := by decide +kernel
theorem dX8_keep_3 : decode cX8_keep 3 = .ok (.invokestatic 73, 3) := by decide +kernel
theorem dX8_keep_6 : decode cX8_keep 6 = .ok (.ifCond .ne 5, 3) := by decide +kernel
theorem dX8_keep_9 : decode cX8_keep 9 = .ok (.iconst (-1), 1) := by decide +kernel
theorem dX8_keep_10 : decode cX8_keep 10 = .ok (.ireturn, 1) := by decide +kernel
theorem dX8_keep_11 : decode cX8_keep 11 = .ok (.aload_n 0, 1) := by decide +kernel
theorem dX8_keep_12 : decode cX8_keep 12 = .ok (.getfield 26, 3) := by decide +kernel
theorem dX8_keep_15 : decode cX8_keep 15 = .ok (.bipush 18, 2) := by decide +kernel
theorem dX8_keep_17 : decode cX8_keep 17 = .ok (.iaload, 1) := by decide +kernel
theorem dX8_keep_18 : decode cX8_keep 18 = .ok (.ifCond .ne 6, 3) := by decide +kernel
theorem dX8_keep_21 : decode cX8_keep 21 = .ok (.bipush (-4), 2) := by decide +kernel
theorem dX8_keep_23 : decode cX8_keep 23 = .ok (.ireturn, 1) := by decide +kernel
theorem dX8_keep_24 : decode cX8_keep 24 = .ok (.iconst 0, 1) := by decide +kernel
theorem dX8_keep_25 : decode cX8_keep 25 = .ok (.istore_n 2, 1) := by decide +kernel
theorem dX8_keep_26 : decode cX8_keep 26 = .ok (.iload_n 2, 1) := by decide +kernel
theorem dX8_keep_27 : decode cX8_keep 27 = .ok (.bipush 33, 2) := by decide +kernel
theorem dX8_keep_29 : decode cX8_keep 29 = .ok (.if_icmp .ge 26, 3) := by decide +kernel
theorem dX8_keep_32 : decode cX8_keep 32 = .ok (.aload_n 0, 1) := by decide +kernel
theorem dX8_keep_33 : decode cX8_keep 33 = .ok (.getfield 41, 3) := by decide +kernel
theorem dX8_keep_36 : decode cX8_keep 36 = .ok (.bipush 33, 2) := by decide +kernel
theorem dX8_keep_38 : decode cX8_keep 38 = .ok (.iload_n 1, 1) := by decide +kernel
theorem dX8_keep_39 : decode cX8_keep 39 = .ok (.imul, 1) := by decide +kernel
theorem dX8_keep_40 : decode cX8_keep 40 = .ok (.iload_n 2, 1) := by decide +kernel
theorem dX8_keep_41 : decode cX8_keep 41 = .ok (.iadd, 1) := by decide +kernel
theorem dX8_keep_42 : decode cX8_keep 42 = .ok (.aload_n 0, 1) := by decide +kernel
theorem dX8_keep_43 : decode cX8_keep 43 = .ok (.getfield 26, 3) := by decide +kernel
theorem dX8_keep_46 : decode cX8_keep 46 = .ok (.iload_n 2, 1) := by decide +kernel
theorem dX8_keep_47 : decode cX8_keep 47 = .ok (.iaload, 1) := by decide +kernel
theorem dX8_keep_48 : decode cX8_keep 48 = .ok (.iastore, 1) := by decide +kernel
theorem dX8_keep_49 : decode cX8_keep 49 = .ok (.iinc 2 1, 3) := by decide +kernel
theorem dX8_keep_52 : decode cX8_keep 52 = .ok (.goto (-26), 3) := by decide +kernel
theorem dX8_keep_55 : decode cX8_keep 55 = .ok (.iconst 0, 1) := by decide +kernel
theorem dX8_keep_56 : decode cX8_keep 56 = .ok (.istore_n 2, 1) := by decide +kernel
theorem dX8_keep_57 : decode cX8_keep 57 = .ok (.iload_n 2, 1) := by decide +kernel
theorem dX8_keep_58 : decode cX8_keep 58 = .ok (.aload_n 0, 1) := by decide +kernel
theorem dX8_keep_59 : decode cX8_keep 59 = .ok (.getfield 38, 3) := by decide +kernel
theorem dX8_keep_62 : decode cX8_keep 62 = .ok (.arraylength, 1) := by decide +kernel
theorem dX8_keep_63 : decode cX8_keep 63 = .ok (.if_icmp .ge 29, 3) := by decide +kernel
theorem dX8_keep_66 : decode cX8_keep 66 = .ok (.aload_n 0, 1) := by decide +kernel
theorem dX8_keep_67 : decode cX8_keep 67 = .ok (.getfield 44, 3) := by decide +kernel
theorem dX8_keep_70 : decode cX8_keep 70 = .ok (.aload_n 0, 1) := by decide +kernel
theorem dX8_keep_71 : decode cX8_keep 71 = .ok (.getfield 38, 3) := by decide +kernel
theorem dX8_keep_74 : decode cX8_keep 74 = .ok (.arraylength, 1) := by decide +kernel
theorem dX8_keep_75 : decode cX8_keep 75 = .ok (.iload_n 1, 1) := by decide +kernel
theorem dX8_keep_76 : decode cX8_keep 76 = .ok (.imul, 1) := by decide +kernel
theorem dX8_keep_77 : decode cX8_keep 77 = .ok (.iload_n 2, 1) := by decide +kernel
theorem dX8_keep_78 : decode cX8_keep 78 = .ok (.iadd, 1) := by decide +kernel
theorem dX8_keep_79 : decode cX8_keep 79 = .ok (.aload_n 0, 1) := by decide +kernel
theorem dX8_keep_80 : decode cX8_keep 80 = .ok (.getfield 38, 3) := by decide +kernel
theorem dX8_keep_83 : decode cX8_keep 83 = .ok (.iload_n 2, 1) := by decide +kernel
theorem dX8_keep_84 : decode cX8_keep 84 = .ok (.iaload, 1) := by decide +kernel
theorem dX8_keep_85 : decode cX8_keep 85 = .ok (.iastore, 1) := by decide +kernel
theorem dX8_keep_86 : decode cX8_keep 86 = .ok (.iinc 2 1, 3) := by decide +kernel
theorem dX8_keep_89 : decode cX8_keep 89 = .ok (.goto (-32), 3) := by decide +kernel
theorem dX8_keep_92 : decode cX8_keep 92 = .ok (.aload_n 0, 1) := by decide +kernel
theorem dX8_keep_93 : decode cX8_keep 93 = .ok (.getfield 47, 3) := by decide +kernel
theorem dX8_keep_96 : decode cX8_keep 96 = .ok (.iload_n 1, 1) := by decide +kernel
theorem dX8_keep_97 : decode cX8_keep 97 = .ok (.aload_n 0, 1) := by decide +kernel
theorem dX8_keep_98 : decode cX8_keep 98 = .ok (.getfield 111, 3) := by decide +kernel
theorem dX8_keep_101 : decode cX8_keep 101 = .ok (.iastore, 1) := by decide +kernel
theorem dX8_keep_102 : decode cX8_keep 102 = .ok (.aload_n 0, 1) := by decide +kernel
theorem dX8_keep_103 : decode cX8_keep 103 = .ok (.getfield 111, 3) := by decide +kernel
theorem dX8_keep_106 : decode cX8_keep 106 = .ok (.ireturn, 1) := by decide +kernel
theorem dX8_on_0 : decode cX8_on 0 = .ok (.iload_n 1, 1) := by decide +kernel
theorem dX8_on_1 : decode cX8_on 1 = .ok (.iconst 0, 1) := by decide +kernel
theorem dX8_on_2 : decode cX8_on 2 = .ok (.iconst 2, 1) := by decide +kernel
theorem dX8_on_3 : decode cX8_on 3 = .ok (.invokestatic 73, 3) := by decide +kernel
theorem dX8_on_6 : decode cX8_on 6 = .ok (.ifCond .ne 5, 3) := by decide +kernel
theorem dX8_on_9 : decode cX8_on 9 = .ok (.iconst (-1), 1) := by decide +kernel
theorem dX8_on_10 : decode cX8_on 10 = .ok (.ireturn, 1) := by decide +kernel
theorem dX8_on_11 : decode cX8_on 11 = .ok (.aload_n 0, 1) := by decide +kernel
theorem dX8_on_12 : decode cX8_on 12 = .ok (.getfield 47, 3) := by decide +kernel
theorem dX8_on_15 : decode cX8_on 15 = .ok (.iload_n 1, 1) := by decide +kernel
theorem dX8_on_16 : decode cX8_on 16 = .ok (.iaload, 1) := by decide +kernel
theorem dX8_on_17 : decode cX8_on 17 = .ok (.ifCond .ge 9, 3) := by decide +kernel
theorem dX8_on_20 : decode cX8_on 20 = .ok (.aload_n 0, 1) := by decide +kernel
theorem dX8_on_21 : decode cX8_on 21 = .ok (.iconst 1, 1) := by decide +kernel
theorem dX8_on_22 : decode cX8_on 22 = .ok (.invokevirtual 81, 3) := by decide +kernel
theorem dX8_on_25 : decode cX8_on 25 = .ok (.ireturn, 1) := by decide +kernel
theorem dX8_on_26 : decode cX8_on 26 = .ok (.iconst 0, 1) := by decide +kernel
theorem dX8_on_27 : decode cX8_on 27 = .ok (.istore_n 2, 1) := by decide +kernel
theorem dX8_on_28 : decode cX8_on 28 = .ok (.iload_n 2, 1) := by decide +kernel
theorem dX8_on_29 : decode cX8_on 29 = .ok (.bipush 33, 2) := by decide +kernel
theorem dX8_on_31 : decode cX8_on 31 = .ok (.if_icmp .ge 26, 3) := by decide +kernel
theorem dX8_on_34 : decode cX8_on 34 = .ok (.aload_n 0, 1) := by decide +kernel
theorem dX8_on_35 : decode cX8_on 35 = .ok (.getfield 26, 3) := by decide +kernel
theorem dX8_on_38 : decode cX8_on 38 = .ok (.iload_n 2, 1) := by decide +kernel
theorem dX8_on_39 : decode cX8_on 39 = .ok (.aload_n 0, 1) := by decide +kernel
theorem dX8_on_40 : decode cX8_on 40 = .ok (.getfield 41, 3) := by decide +kernel
theorem dX8_on_43 : decode cX8_on 43 = .ok (.bipush 33, 2) := by decide +kernel
theorem dX8_on_45 : decode cX8_on 45 = .ok (.iload_n 1, 1) := by decide +kernel
theorem dX8_on_46 : decode cX8_on 46 = .ok (.imul, 1) := by decide +kernel
theorem dX8_on_47 : decode cX8_on 47 = .ok (.iload_n 2, 1) := by decide +kernel
theorem dX8_on_48 : decode cX8_on 48 = .ok (.iadd, 1) := by decide +kernel
theorem dX8_on_49 : decode cX8_on 49 = .ok (.iaload, 1) := by decide +kernel
theorem dX8_on_50 : decode cX8_on 50 = .ok (.iastore, 1) := by decide +kernel
theorem dX8_on_51 : decode cX8_on 51 = .ok (.iinc 2 1, 3) := by decide +kernel
theorem dX8_on_54 : decode cX8_on 54 = .ok (.goto (-26), 3) := by decide +kernel
theorem dX8_on_57 : decode cX8_on 57 = .ok (.iconst 0, 1) := by decide +kernel
theorem dX8_on_58 : decode cX8_on 58 = .ok (.istore_n 2, 1) := by decide +kernel
theorem dX8_on_59 : decode cX8_on 59 = .ok (.iload_n 2, 1) := by decide +kernel
theorem dX8_on_60 : decode cX8_on 60 = .ok (.aload_n 0, 1) := by decide +kernel
theorem dX8_on_61 : decode cX8_on 61 = .ok (.getfield 38, 3) := by decide +kernel
theorem dX8_on_64 : decode cX8_on 64 = .ok (.arraylength, 1) := by decide +kernel
theorem dX8_on_65 : decode cX8_on 65 = .ok (.if_icmp .ge 29, 3) := by decide +kernel
theorem dX8_on_68 : decode cX8_on 68 = .ok (.aload_n 0, 1) := by decide +kernel
theorem dX8_on_69 : decode cX8_on 69 = .ok (.getfield 38, 3) := by decide +kernel
theorem dX8_on_72 : decode cX8_on 72 = .ok (.iload_n 2, 1) := by decide +kernel
theorem dX8_on_73 : decode cX8_on 73 = .ok (.aload_n 0, 1) := by decide +kernel
theorem dX8_on_74 : decode cX8_on 74 = .ok (.getfield 44, 3) := by decide +kernel
theorem dX8_on_77 : decode cX8_on 77 = .ok (.aload_n 0, 1) := by decide +kernel
theorem dX8_on_78 : decode cX8_on 78 = .ok (.getfield 38, 3) := by decide +kernel
theorem dX8_on_81 : decode cX8_on 81 = .ok (.arraylength, 1) := by decide +kernel
theorem dX8_on_82 : decode cX8_on 82 = .ok (.iload_n 1, 1) := by decide +kernel
theorem dX8_on_83 : decode cX8_on 83 = .ok (.imul, 1) := by decide +kernel
theorem dX8_on_84 : decode cX8_on 84 = .ok (.iload_n 2, 1) := by decide +kernel
theorem dX8_on_85 : decode cX8_on 85 = .ok (.iadd, 1) := by decide +kernel
theorem dX8_on_86 : decode cX8_on 86 = .ok (.iaload, 1) := by decide +kernel
theorem dX8_on_87 : decode cX8_on 87 = .ok (.iastore, 1) := by decide +kernel
theorem dX8_on_88 : decode cX8_on 88 = .ok (.iinc 2 1, 3) := by decide +kernel
theorem dX8_on_91 : decode cX8_on 91 = .ok (.goto (-32), 3) := by decide +kernel
theorem dX8_on_94 : decode cX8_on 94 = .ok (.aload_n 0, 1) := by decide +kernel
theorem dX8_on_95 : decode cX8_on 95 = .ok (.aload_n 0, 1) := by decide +kernel
theorem dX8_on_96 : decode cX8_on 96 = .ok (.getfield 47, 3) := by decide +kernel
theorem dX8_on_99 : decode cX8_on 99 = .ok (.iload_n 1, 1) := by decide +kernel
theorem dX8_on_100 : decode cX8_on 100 = .ok (.iaload, 1) := by decide +kernel
theorem dX8_on_101 : decode cX8_on 101 = .ok (.putfield 111, 3) := by decide +kernel
theorem dX8_on_104 : decode cX8_on 104 = .ok (.aload_n 0, 1) := by decide +kernel
theorem dX8_on_105 : decode cX8_on 105 = .ok (.getfield 111, 3) := by decide +kernel
theorem dX8_on_108 : decode cX8_on 108 = .ok (.ireturn, 1) := by decide +kernel
theorem dX8_copies_0 : decode cX8_copies 0 = .ok (.iconst 0, 1) := by decide +kernel
theorem dX8_copies_1 : decode cX8_copies 1 = .ok (.istore_n 2, 1) := by decide +kernel
theorem dX8_copies_2 : decode cX8_copies 2 = .ok (.iload_n 2, 1) := by decide +kernel
theorem dX8_copies_3 : decode cX8_copies 3 = .ok (.bipush 33, 2) := by decide +kernel
theorem dX8_copies_5 : decode cX8_copies 5 = .ok (.if_icmp .ge 15, 3) := by decide +kernel
theorem dX8_copies_8 : decode cX8_copies 8 = .ok (.aload_n 1, 1) := by decide +kernel
theorem dX8_copies_9 : decode cX8_copies 9 = .ok (.iload_n 2, 1) := by decide +kernel
theorem dX8_copies_10 : decode cX8_copies 10 = .ok (.aload_n 0, 1) := by decide +kernel
theorem dX8_copies_11 : decode cX8_copies 11 = .ok (.iload_n 2, 1) := by decide +kernel
theorem dX8_copies_12 : decode cX8_copies 12 = .ok (.iaload, 1) := by decide +kernel
theorem dX8_copies_13 : decode cX8_copies 13 = .ok (.iastore, 1) := by decide +kernel
theorem dX8_copies_14 : decode cX8_copies 14 = .ok (.iinc 2 1, 3) := by decide +kernel
theorem dX8_copies_17 : decode cX8_copies 17 = .ok (.goto (-15), 3) := by decide +kernel
theorem dX8_copies_20 : decode cX8_copies 20 = .ok (.return_, 1) := by decide +kernel
theorem dX8_shown_0 : decode cX8_shown 0 = .ok (.iconst 0, 1) := by decide +kernel
theorem dX8_shown_1 : decode cX8_shown 1 = .ok (.istore_n 1, 1) := by decide +kernel
theorem dX8_shown_2 : decode cX8_shown 2 = .ok (.iconst 0, 1) := by decide +kernel
theorem dX8_shown_3 : decode cX8_shown 3 = .ok (.istore_n 2, 1) := by decide +kernel
theorem dX8_shown_4 : decode cX8_shown 4 = .ok (.iload_n 2, 1) := by decide +kernel
theorem dX8_shown_5 : decode cX8_shown 5 = .ok (.aload_n 0, 1) := by decide +kernel
theorem dX8_shown_6 : decode cX8_shown 6 = .ok (.bipush 18, 2) := by decide +kernel
theorem dX8_shown_8 : decode cX8_shown 8 = .ok (.iaload, 1) := by decide +kernel
theorem dX8_shown_9 : decode cX8_shown 9 = .ok (.if_icmp .ge 20, 3) := by decide +kernel
theorem dX8_shown_12 : decode cX8_shown 12 = .ok (.bipush 10, 2) := by decide +kernel
theorem dX8_shown_14 : decode cX8_shown 14 = .ok (.iload_n 1, 1) := by decide +kernel
theorem dX8_shown_15 : decode cX8_shown 15 = .ok (.imul, 1) := by decide +kernel
theorem dX8_shown_16 : decode cX8_shown 16 = .ok (.aload_n 0, 1) := by decide +kernel
theorem dX8_shown_17 : decode cX8_shown 17 = .ok (.iconst 4, 1) := by decide +kernel
theorem dX8_shown_18 : decode cX8_shown 18 = .ok (.iload_n 2, 1) := by decide +kernel
theorem dX8_shown_19 : decode cX8_shown 19 = .ok (.iadd, 1) := by decide +kernel
theorem dX8_shown_20 : decode cX8_shown 20 = .ok (.iaload, 1) := by decide +kernel
theorem dX8_shown_21 : decode cX8_shown 21 = .ok (.iadd, 1) := by decide +kernel
theorem dX8_shown_22 : decode cX8_shown 22 = .ok (.istore_n 1, 1) := by decide +kernel
theorem dX8_shown_23 : decode cX8_shown 23 = .ok (.iinc 2 1, 3) := by decide +kernel
theorem dX8_shown_26 : decode cX8_shown 26 = .ok (.goto (-22), 3) := by decide +kernel
theorem dX8_shown_29 : decode cX8_shown 29 = .ok (.iload_n 1, 1) := by decide +kernel
theorem dX8_shown_30 : decode cX8_shown 30 = .ok (.ireturn, 1) := by decide +kernel
theorem dX8_right_0 : decode cX8_right 0 = .ok (.iconst 0, 1) := by decide +kernel
theorem dX8_right_1 : decode cX8_right 1 = .ok (.istore_n 1, 1) := by decide +kernel
theorem dX8_right_2 : decode cX8_right 2 = .ok (.iconst 0, 1) := by decide +kernel
theorem dX8_right_3 : decode cX8_right 3 = .ok (.istore_n 2, 1) := by decide +kernel
theorem dX8_right_4 : decode cX8_right 4 = .ok (.iload_n 2, 1) := by decide +kernel
theorem dX8_right_5 : decode cX8_right 5 = .ok (.aload_n 0, 1) := by decide +kernel
theorem dX8_right_6 : decode cX8_right 6 = .ok (.bipush 18, 2) := by decide +kernel
theorem dX8_right_8 : decode cX8_right 8 = .ok (.iaload, 1) := by decide +kernel
theorem dX8_right_9 : decode cX8_right 9 = .ok (.if_icmp .ge 33, 3) := by decide +kernel
theorem dX8_right_12 : decode cX8_right 12 = .ok (.iload_n 1, 1) := by decide +kernel
theorem dX8_right_13 : decode cX8_right 13 = .ok (.aload_n 0, 1) := by decide +kernel
theorem dX8_right_14 : decode cX8_right 14 = .ok (.iconst 4, 1) := by decide +kernel
theorem dX8_right_15 : decode cX8_right 15 = .ok (.iload_n 2, 1) := by decide +kernel
theorem dX8_right_16 : decode cX8_right 16 = .ok (.iadd, 1) := by decide +kernel
theorem dX8_right_17 : decode cX8_right 17 = .ok (.iaload, 1) := by decide +kernel
theorem dX8_right_18 : decode cX8_right 18 = .ok (.aload_n 0, 1) := by decide +kernel
theorem dX8_right_19 : decode cX8_right 19 = .ok (.bipush 11, 2) := by decide +kernel
theorem dX8_right_21 : decode cX8_right 21 = .ok (.iload_n 2, 1) := by decide +kernel
theorem dX8_right_22 : decode cX8_right 22 = .ok (.iadd, 1) := by decide +kernel
theorem dX8_right_23 : decode cX8_right 23 = .ok (.iaload, 1) := by decide +kernel
theorem dX8_right_24 : decode cX8_right 24 = .ok (.if_icmp .ne 9, 3) := by decide +kernel
theorem dX8_right_27 : decode cX8_right 27 = .ok (.iconst 1, 1) := by decide +kernel
theorem dX8_right_28 : decode cX8_right 28 = .ok (.iload_n 2, 1) := by decide +kernel
theorem dX8_right_29 : decode cX8_right 29 = .ok (.ishl, 1) := by decide +kernel
theorem dX8_right_30 : decode cX8_right 30 = .ok (.goto 4, 3) := by decide +kernel
theorem dX8_right_33 : decode cX8_right 33 = .ok (.iconst 0, 1) := by decide +kernel
theorem dX8_right_34 : decode cX8_right 34 = .ok (.ior, 1) := by decide +kernel
theorem dX8_right_35 : decode cX8_right 35 = .ok (.istore_n 1, 1) := by decide +kernel
theorem dX8_right_36 : decode cX8_right 36 = .ok (.iinc 2 1, 3) := by decide +kernel
theorem dX8_right_39 : decode cX8_right 39 = .ok (.goto (-35), 3) := by decide +kernel
theorem dX8_right_42 : decode cX8_right 42 = .ok (.iload_n 1, 1) := by decide +kernel
theorem dX8_right_43 : decode cX8_right 43 = .ok (.ireturn, 1) := by decide +kernel
theorem dX8_isTold_0 : decode cX8_isTold 0 = .ok (.aload_n 0, 1) := by decide +kernel
theorem dX8_isTold_1 : decode cX8_isTold 1 = .ok (.invokestatic 160, 3) := by decide +kernel
theorem dX8_isTold_4 : decode cX8_isTold 4 = .ok (.iconst 1, 1) := by decide +kernel
theorem dX8_isTold_5 : decode cX8_isTold 5 = .ok (.aload_n 0, 1) := by decide +kernel
theorem dX8_isTold_6 : decode cX8_isTold 6 = .ok (.bipush 18, 2) := by decide +kernel
theorem dX8_isTold_8 : decode cX8_isTold 8 = .ok (.iaload, 1) := by decide +kernel
theorem dX8_isTold_9 : decode cX8_isTold 9 = .ok (.ishl, 1) := by decide +kernel
theorem dX8_isTold_10 : decode cX8_isTold 10 = .ok (.iconst 1, 1) := by decide +kernel
theorem dX8_isTold_11 : decode cX8_isTold 11 = .ok (.isub, 1) := by decide +kernel
theorem dX8_isTold_12 : decode cX8_isTold 12 = .ok (.if_icmp .ne 7, 3) := by decide +kernel
theorem dX8_isTold_15 : decode cX8_isTold 15 = .ok (.iconst 1, 1) := by decide +kernel
theorem dX8_isTold_16 : decode cX8_isTold 16 = .ok (.goto 4, 3) := by decide +kernel
theorem dX8_isTold_19 : decode cX8_isTold 19 = .ok (.iconst 0, 1) := by decide +kernel
theorem dX8_isTold_20 : decode cX8_isTold 20 = .ok (.ireturn, 1) := by decide +kernel
theorem dX8_later_0 : decode cX8_later 0 = .ok (.iload_n 1, 1) := by decide +kernel
theorem dX8_later_1 : decode cX8_later 1 = .ok (.iconst 0, 1) := by decide +kernel
theorem dX8_later_2 : decode cX8_later 2 = .ok (.bipush 60, 2) := by decide +kernel
theorem dX8_later_4 : decode cX8_later 4 = .ok (.invokestatic 73, 3) := by decide +kernel
theorem dX8_later_7 : decode cX8_later 7 = .ok (.ifCond .ne 5, 3) := by decide +kernel
theorem dX8_later_10 : decode cX8_later 10 = .ok (.iconst (-1), 1) := by decide +kernel
theorem dX8_later_11 : decode cX8_later 11 = .ok (.ireturn, 1) := by decide +kernel
theorem dX8_later_12 : decode cX8_later 12 = .ok (.aload_n 0, 1) := by decide +kernel
theorem dX8_later_13 : decode cX8_later 13 = .ok (.getfield 26, 3) := by decide +kernel
theorem dX8_later_16 : decode cX8_later 16 = .ok (.bipush 18, 2) := by decide +kernel
theorem dX8_later_18 : decode cX8_later 18 = .ok (.iaload, 1) := by decide +kernel
theorem dX8_later_19 : decode cX8_later 19 = .ok (.ifCond .ne 6, 3) := by decide +kernel
theorem dX8_later_22 : decode cX8_later 22 = .ok (.bipush (-4), 2) := by decide +kernel
theorem dX8_later_24 : decode cX8_later 24 = .ok (.ireturn, 1) := by decide +kernel
theorem dX8_later_25 : decode cX8_later 25 = .ok (.aload_n 0, 1) := by decide +kernel
theorem dX8_later_26 : decode cX8_later 26 = .ok (.getfield 26, 3) := by decide +kernel
theorem dX8_later_29 : decode cX8_later 29 = .ok (.aload_n 0, 1) := by decide +kernel
theorem dX8_later_30 : decode cX8_later 30 = .ok (.getfield 32, 3) := by decide +kernel
theorem dX8_later_33 : decode cX8_later 33 = .ok (.invokestatic 163, 3) := by decide +kernel
theorem dX8_later_36 : decode cX8_later 36 = .ok (.iconst 0, 1) := by decide +kernel
theorem dX8_later_37 : decode cX8_later 37 = .ok (.istore_n 2, 1) := by decide +kernel
theorem dX8_later_38 : decode cX8_later 38 = .ok (.iconst 0, 1) := by decide +kernel
theorem dX8_later_39 : decode cX8_later 39 = .ok (.istore_n 3, 1) := by decide +kernel
theorem dX8_later_40 : decode cX8_later 40 = .ok (.iload_n 3, 1) := by decide +kernel
theorem dX8_later_41 : decode cX8_later 41 = .ok (.iload_n 1, 1) := by decide +kernel
theorem dX8_later_42 : decode cX8_later 42 = .ok (.if_icmp .ge 19, 3) := by decide +kernel
theorem dX8_later_45 : decode cX8_later 45 = .ok (.iload_n 2, 1) := by decide +kernel
theorem dX8_later_46 : decode cX8_later 46 = .ok (.aload_n 0, 1) := by decide +kernel
theorem dX8_later_47 : decode cX8_later 47 = .ok (.getfield 32, 3) := by decide +kernel
theorem dX8_later_50 : decode cX8_later 50 = .ok (.invokestatic 153, 3) := by decide +kernel
theorem dX8_later_53 : decode cX8_later 53 = .ok (.iadd, 1) := by decide +kernel
theorem dX8_later_54 : decode cX8_later 54 = .ok (.istore_n 2, 1) := by decide +kernel
theorem dX8_later_55 : decode cX8_later 55 = .ok (.iinc 3 1, 3) := by decide +kernel
theorem dX8_later_58 : decode cX8_later 58 = .ok (.goto (-18), 3) := by decide +kernel
theorem dX8_later_61 : decode cX8_later 61 = .ok (.aload_n 0, 1) := by decide +kernel
theorem dX8_later_62 : decode cX8_later 62 = .ok (.iload_n 2, 1) := by decide +kernel
theorem dX8_later_63 : decode cX8_later 63 = .ok (.putfield 70, 3) := by decide +kernel
theorem dX8_later_66 : decode cX8_later 66 = .ok (.aload_n 0, 1) := by decide +kernel
theorem dX8_later_67 : decode cX8_later 67 = .ok (.getfield 32, 3) := by decide +kernel
theorem dX8_later_70 : decode cX8_later 70 = .ok (.invokestatic 167, 3) := by decide +kernel
theorem dX8_later_73 : decode cX8_later 73 = .ok (.ireturn, 1) := by decide +kernel
theorem dX8_told_0 : decode cX8_told 0 = .ok (.iconst 0, 1) := by decide +kernel
theorem dX8_told_1 : decode cX8_told 1 = .ok (.istore_n 1, 1) := by decide +kernel
theorem dX8_told_2 : decode cX8_told 2 = .ok (.iload_n 1, 1) := by decide +kernel
theorem dX8_told_3 : decode cX8_told 3 = .ok (.bipush 60, 2) := by decide +kernel
theorem dX8_told_5 : decode cX8_told 5 = .ok (.if_icmp .gt 23, 3) := by decide +kernel
theorem dX8_told_8 : decode cX8_told 8 = .ok (.aload_n 0, 1) := by decide +kernel
theorem dX8_told_9 : decode cX8_told 9 = .ok (.invokestatic 170, 3) := by decide +kernel
theorem dX8_told_12 : decode cX8_told 12 = .ok (.ifCond .eq 5, 3) := by decide +kernel
theorem dX8_told_15 : decode cX8_told 15 = .ok (.iload_n 1, 1) := by decide +kernel
theorem dX8_told_16 : decode cX8_told 16 = .ok (.ireturn, 1) := by decide +kernel
theorem dX8_told_17 : decode cX8_told 17 = .ok (.aload_n 0, 1) := by decide +kernel
theorem dX8_told_18 : decode cX8_told 18 = .ok (.invokestatic 153, 3) := by decide +kernel
theorem dX8_told_21 : decode cX8_told 21 = .ok (.pop, 1) := by decide +kernel
theorem dX8_told_22 : decode cX8_told 22 = .ok (.iinc 1 1, 3) := by decide +kernel
theorem dX8_told_25 : decode cX8_told 25 = .ok (.goto (-23), 3) := by decide +kernel
theorem dX8_told_28 : decode cX8_told 28 = .ok (.bipush (-9), 2) := by decide +kernel
theorem dX8_told_30 : decode cX8_told 30 = .ok (.ireturn, 1) := by decide +kernel
theorem dX8_ends_0 : decode cX8_ends 0 = .ok (.aload_n 0, 1) := by decide +kernel
theorem dX8_ends_1 : decode cX8_ends 1 = .ok (.getfield 26, 3) := by decide +kernel
theorem dX8_ends_4 : decode cX8_ends 4 = .ok (.bipush 18, 2) := by decide +kernel
theorem dX8_ends_6 : decode cX8_ends 6 = .ok (.iaload, 1) := by decide +kernel
theorem dX8_ends_7 : decode cX8_ends 7 = .ok (.ifCond .ne 6, 3) := by decide +kernel
theorem dX8_ends_10 : decode cX8_ends 10 = .ok (.bipush (-4), 2) := by decide +kernel
theorem dX8_ends_12 : decode cX8_ends 12 = .ok (.ireturn, 1) := by decide +kernel
theorem dX8_ends_13 : decode cX8_ends 13 = .ok (.aload_n 0, 1) := by decide +kernel
theorem dX8_ends_14 : decode cX8_ends 14 = .ok (.getfield 26, 3) := by decide +kernel
theorem dX8_ends_17 : decode cX8_ends 17 = .ok (.aload_n 0, 1) := by decide +kernel
theorem dX8_ends_18 : decode cX8_ends 18 = .ok (.getfield 32, 3) := by decide +kernel
theorem dX8_ends_21 : decode cX8_ends 21 = .ok (.invokestatic 163, 3) := by decide +kernel
theorem dX8_ends_24 : decode cX8_ends 24 = .ok (.aload_n 0, 1) := by decide +kernel
theorem dX8_ends_25 : decode cX8_ends 25 = .ok (.getfield 32, 3) := by decide +kernel
theorem dX8_ends_28 : decode cX8_ends 28 = .ok (.invokestatic 174, 3) := by decide +kernel
theorem dX8_ends_31 : decode cX8_ends 31 = .ok (.istore_n 1, 1) := by decide +kernel
theorem dX8_ends_32 : decode cX8_ends 32 = .ok (.aload_n 0, 1) := by decide +kernel
theorem dX8_ends_33 : decode cX8_ends 33 = .ok (.iload_n 1, 1) := by decide +kernel
theorem dX8_ends_34 : decode cX8_ends 34 = .ok (.bipush (-9), 2) := by decide +kernel
theorem dX8_ends_36 : decode cX8_ends 36 = .ok (.if_icmp .ne 10, 3) := by decide +kernel
theorem dX8_ends_39 : decode cX8_ends 39 = .ok (.aload_n 0, 1) := by decide +kernel
theorem dX8_ends_40 : decode cX8_ends 40 = .ok (.getfield 70, 3) := by decide +kernel
theorem dX8_ends_43 : decode cX8_ends 43 = .ok (.goto 16, 3) := by decide +kernel
theorem dX8_ends_46 : decode cX8_ends 46 = .ok (.aload_n 0, 1) := by decide +kernel
theorem dX8_ends_47 : decode cX8_ends 47 = .ok (.getfield 32, 3) := by decide +kernel
theorem dX8_ends_50 : decode cX8_ends 50 = .ok (.iconst 2, 1) := by decide +kernel
theorem dX8_ends_51 : decode cX8_ends 51 = .ok (.iaload, 1) := by decide +kernel
theorem dX8_ends_52 : decode cX8_ends 52 = .ok (.aload_n 0, 1) := by decide +kernel
theorem dX8_ends_53 : decode cX8_ends 53 = .ok (.getfield 26, 3) := by decide +kernel
theorem dX8_ends_56 : decode cX8_ends 56 = .ok (.iconst 2, 1) := by decide +kernel
theorem dX8_ends_57 : decode cX8_ends 57 = .ok (.iaload, 1) := by decide +kernel
theorem dX8_ends_58 : decode cX8_ends 58 = .ok (.isub, 1) := by decide +kernel
theorem dX8_ends_59 : decode cX8_ends 59 = .ok (.putfield 70, 3) := by decide +kernel
theorem dX8_ends_62 : decode cX8_ends 62 = .ok (.iload_n 1, 1) := by decide +kernel
theorem dX8_ends_63 : decode cX8_ends 63 = .ok (.ireturn, 1) := by decide +kernel
theorem dX8_passes_0 : decode cX8_passes 0 = .ok (.aload_n 0, 1) := by decide +kernel
theorem dX8_passes_1 : decode cX8_passes 1 = .ok (.getfield 26, 3) := by decide +kernel
theorem dX8_passes_4 : decode cX8_passes 4 = .ok (.bipush 18, 2) := by decide +kernel
theorem dX8_passes_6 : decode cX8_passes 6 = .ok (.iaload, 1) := by decide +kernel
theorem dX8_passes_7 : decode cX8_passes 7 = .ok (.ifCond .ne 6, 3) := by decide +kernel
theorem dX8_passes_10 : decode cX8_passes 10 = .ok (.bipush (-4), 2) := by decide +kernel
theorem dX8_passes_12 : decode cX8_passes 12 = .ok (.ireturn, 1) := by decide +kernel
theorem dX8_passes_13 : decode cX8_passes 13 = .ok (.aload_n 0, 1) := by decide +kernel
theorem dX8_passes_14 : decode cX8_passes 14 = .ok (.getfield 26, 3) := by decide +kernel
theorem dX8_passes_17 : decode cX8_passes 17 = .ok (.aload_n 0, 1) := by decide +kernel
theorem dX8_passes_18 : decode cX8_passes 18 = .ok (.getfield 32, 3) := by decide +kernel
theorem dX8_passes_21 : decode cX8_passes 21 = .ok (.invokestatic 163, 3) := by decide +kernel
theorem dX8_passes_24 : decode cX8_passes 24 = .ok (.iconst 0, 1) := by decide +kernel
theorem dX8_passes_25 : decode cX8_passes 25 = .ok (.istore_n 1, 1) := by decide +kernel
theorem dX8_passes_26 : decode cX8_passes 26 = .ok (.iconst 0, 1) := by decide +kernel
theorem dX8_passes_27 : decode cX8_passes 27 = .ok (.istore_n 2, 1) := by decide +kernel
theorem dX8_passes_28 : decode cX8_passes 28 = .ok (.iconst 1, 1) := by decide +kernel
theorem dX8_passes_29 : decode cX8_passes 29 = .ok (.istore_n 3, 1) := by decide +kernel
theorem dX8_passes_30 : decode cX8_passes 30 = .ok (.iconst 0, 1) := by decide +kernel
theorem dX8_passes_31 : decode cX8_passes 31 = .ok (.istore 4, 2) := by decide +kernel
theorem dX8_passes_33 : decode cX8_passes 33 = .ok (.iload 4, 2) := by decide +kernel
theorem dX8_passes_35 : decode cX8_passes 35 = .ok (.bipush 60, 2) := by decide +kernel
theorem dX8_passes_37 : decode cX8_passes 37 = .ok (.if_icmp .gt 122, 3) := by decide +kernel
theorem dX8_passes_40 : decode cX8_passes 40 = .ok (.iload_n 3, 1) := by decide +kernel
theorem dX8_passes_41 : decode cX8_passes 41 = .ok (.ifCond .eq 118, 3) := by decide +kernel
theorem dX8_passes_44 : decode cX8_passes 44 = .ok (.aload_n 0, 1) := by decide +kernel
theorem dX8_passes_45 : decode cX8_passes 45 = .ok (.getfield 32, 3) := by decide +kernel
theorem dX8_passes_48 : decode cX8_passes 48 = .ok (.invokestatic 167, 3) := by decide +kernel
theorem dX8_passes_51 : decode cX8_passes 51 = .ok (.istore 5, 2) := by decide +kernel
theorem dX8_passes_53 : decode cX8_passes 53 = .ok (.iconst 0, 1) := by decide +kernel
theorem dX8_passes_54 : decode cX8_passes 54 = .ok (.istore 6, 2) := by decide +kernel
theorem dX8_passes_56 : decode cX8_passes 56 = .ok (.iconst 0, 1) := by decide +kernel
theorem dX8_passes_57 : decode cX8_passes 57 = .ok (.istore 7, 2) := by decide +kernel
theorem dX8_passes_59 : decode cX8_passes 59 = .ok (.iload 7, 2) := by decide +kernel
theorem dX8_passes_61 : decode cX8_passes 61 = .ok (.iload_n 1, 1) := by decide +kernel
theorem dX8_passes_62 : decode cX8_passes 62 = .ok (.if_icmp .ge 33, 3) := by decide +kernel
theorem dX8_passes_65 : decode cX8_passes 65 = .ok (.iload 6, 2) := by decide +kernel
theorem dX8_passes_67 : decode cX8_passes 67 = .ok (.ifCond .ne 15, 3) := by decide +kernel
theorem dX8_passes_70 : decode cX8_passes 70 = .ok (.aload_n 0, 1) := by decide +kernel
theorem dX8_passes_71 : decode cX8_passes 71 = .ok (.getfield 57, 3) := by decide +kernel
theorem dX8_passes_74 : decode cX8_passes 74 = .ok (.iload 7, 2) := by decide +kernel
theorem dX8_passes_76 : decode cX8_passes 76 = .ok (.iaload, 1) := by decide +kernel
theorem dX8_passes_77 : decode cX8_passes 77 = .ok (.iload 5, 2) := by decide +kernel
theorem dX8_passes_79 : decode cX8_passes 79 = .ok (.if_icmp .ne 7, 3) := by decide +kernel
theorem dX8_passes_82 : decode cX8_passes 82 = .ok (.iconst 1, 1) := by decide +kernel
theorem dX8_passes_83 : decode cX8_passes 83 = .ok (.goto 4, 3) := by decide +kernel
theorem dX8_passes_86 : decode cX8_passes 86 = .ok (.iconst 0, 1) := by decide +kernel
theorem dX8_passes_87 : decode cX8_passes 87 = .ok (.istore 6, 2) := by decide +kernel
theorem dX8_passes_89 : decode cX8_passes 89 = .ok (.iinc 7 1, 3) := by decide +kernel
theorem dX8_passes_92 : decode cX8_passes 92 = .ok (.goto (-33), 3) := by decide +kernel
theorem dX8_passes_95 : decode cX8_passes 95 = .ok (.aload_n 0, 1) := by decide +kernel
theorem dX8_passes_96 : decode cX8_passes 96 = .ok (.getfield 57, 3) := by decide +kernel
theorem dX8_passes_99 : decode cX8_passes 99 = .ok (.iload_n 1, 1) := by decide +kernel
theorem dX8_passes_100 : decode cX8_passes 100 = .ok (.iload 5, 2) := by decide +kernel
theorem dX8_passes_102 : decode cX8_passes 102 = .ok (.iastore, 1) := by decide +kernel
theorem dX8_passes_103 : decode cX8_passes 103 = .ok (.iload_n 1, 1) := by decide +kernel
theorem dX8_passes_104 : decode cX8_passes 104 = .ok (.iload 6, 2) := by decide +kernel
theorem dX8_passes_106 : decode cX8_passes 106 = .ok (.ifCond .eq 7, 3) := by decide +kernel
theorem dX8_passes_109 : decode cX8_passes 109 = .ok (.iconst 0, 1) := by decide +kernel
theorem dX8_passes_110 : decode cX8_passes 110 = .ok (.goto 4, 3) := by decide +kernel
theorem dX8_passes_113 : decode cX8_passes 113 = .ok (.iconst 1, 1) := by decide +kernel
theorem dX8_passes_114 : decode cX8_passes 114 = .ok (.iadd, 1) := by decide +kernel
theorem dX8_passes_115 : decode cX8_passes 115 = .ok (.istore_n 1, 1) := by decide +kernel
theorem dX8_passes_116 : decode cX8_passes 116 = .ok (.iload 5, 2) := by decide +kernel
theorem dX8_passes_118 : decode cX8_passes 118 = .ok (.iload_n 2, 1) := by decide +kernel
theorem dX8_passes_119 : decode cX8_passes 119 = .ok (.if_icmp .le 8, 3) := by decide +kernel
theorem dX8_passes_122 : decode cX8_passes 122 = .ok (.iload 5, 2) := by decide +kernel
theorem dX8_passes_124 : decode cX8_passes 124 = .ok (.goto 4, 3) := by decide +kernel
theorem dX8_passes_127 : decode cX8_passes 127 = .ok (.iload_n 2, 1) := by decide +kernel
theorem dX8_passes_128 : decode cX8_passes 128 = .ok (.istore_n 2, 1) := by decide +kernel
theorem dX8_passes_129 : decode cX8_passes 129 = .ok (.aload_n 0, 1) := by decide +kernel
theorem dX8_passes_130 : decode cX8_passes 130 = .ok (.getfield 32, 3) := by decide +kernel
theorem dX8_passes_133 : decode cX8_passes 133 = .ok (.invokestatic 170, 3) := by decide +kernel
theorem dX8_passes_136 : decode cX8_passes 136 = .ok (.ifCond .ne 7, 3) := by decide +kernel
theorem dX8_passes_139 : decode cX8_passes 139 = .ok (.iconst 1, 1) := by decide +kernel
theorem dX8_passes_140 : decode cX8_passes 140 = .ok (.goto 4, 3) := by decide +kernel
theorem dX8_passes_143 : decode cX8_passes 143 = .ok (.iconst 0, 1) := by decide +kernel
theorem dX8_passes_144 : decode cX8_passes 144 = .ok (.istore_n 3, 1) := by decide +kernel
theorem dX8_passes_145 : decode cX8_passes 145 = .ok (.aload_n 0, 1) := by decide +kernel
theorem dX8_passes_146 : decode cX8_passes 146 = .ok (.getfield 32, 3) := by decide +kernel
theorem dX8_passes_149 : decode cX8_passes 149 = .ok (.invokestatic 153, 3) := by decide +kernel
theorem dX8_passes_152 : decode cX8_passes 152 = .ok (.pop, 1) := by decide +kernel
theorem dX8_passes_153 : decode cX8_passes 153 = .ok (.iinc 4 1, 3) := by decide +kernel
theorem dX8_passes_156 : decode cX8_passes 156 = .ok (.goto (-123), 3) := by decide +kernel
theorem dX8_passes_159 : decode cX8_passes 159 = .ok (.aload_n 0, 1) := by decide +kernel
theorem dX8_passes_160 : decode cX8_passes 160 = .ok (.iload_n 2, 1) := by decide +kernel
theorem dX8_passes_161 : decode cX8_passes 161 = .ok (.putfield 70, 3) := by decide +kernel
theorem dX8_passes_164 : decode cX8_passes 164 = .ok (.iload_n 1, 1) := by decide +kernel
theorem dX8_passes_165 : decode cX8_passes 165 = .ok (.ireturn, 1) := by decide +kernel
theorem dX8_least_0 : decode cX8_least 0 = .ok (.aload_n 0, 1) := by decide +kernel
theorem dX8_least_1 : decode cX8_least 1 = .ok (.getfield 26, 3) := by decide +kernel
theorem dX8_least_4 : decode cX8_least 4 = .ok (.bipush 18, 2) := by decide +kernel
theorem dX8_least_6 : decode cX8_least 6 = .ok (.iaload, 1) := by decide +kernel
theorem dX8_least_7 : decode cX8_least 7 = .ok (.ifCond .ne 6, 3) := by decide +kernel
theorem dX8_least_10 : decode cX8_least 10 = .ok (.bipush (-4), 2) := by decide +kernel
theorem dX8_least_12 : decode cX8_least 12 = .ok (.ireturn, 1) := by decide +kernel
theorem dX8_least_13 : decode cX8_least 13 = .ok (.aload_n 0, 1) := by decide +kernel
theorem dX8_least_14 : decode cX8_least 14 = .ok (.getfield 26, 3) := by decide +kernel
theorem dX8_least_17 : decode cX8_least 17 = .ok (.aload_n 0, 1) := by decide +kernel
theorem dX8_least_18 : decode cX8_least 18 = .ok (.getfield 32, 3) := by decide +kernel
theorem dX8_least_21 : decode cX8_least 21 = .ok (.invokestatic 163, 3) := by decide +kernel
theorem dX8_least_24 : decode cX8_least 24 = .ok (.aload_n 0, 1) := by decide +kernel
theorem dX8_least_25 : decode cX8_least 25 = .ok (.getfield 32, 3) := by decide +kernel
theorem dX8_least_28 : decode cX8_least 28 = .ok (.iconst 0, 1) := by decide +kernel
theorem dX8_least_29 : decode cX8_least 29 = .ok (.bipush 9, 2) := by decide +kernel
theorem dX8_least_31 : decode cX8_least 31 = .ok (.iastore, 1) := by decide +kernel
theorem dX8_least_32 : decode cX8_least 32 = .ok (.aload_n 0, 1) := by decide +kernel
theorem dX8_least_33 : decode cX8_least 33 = .ok (.getfield 32, 3) := by decide +kernel
theorem dX8_least_36 : decode cX8_least 36 = .ok (.invokestatic 174, 3) := by decide +kernel
theorem dX8_least_39 : decode cX8_least 39 = .ok (.istore_n 1, 1) := by decide +kernel
theorem dX8_least_40 : decode cX8_least 40 = .ok (.iconst 1, 1) := by decide +kernel
theorem dX8_least_41 : decode cX8_least 41 = .ok (.istore_n 2, 1) := by decide +kernel
theorem dX8_least_42 : decode cX8_least 42 = .ok (.iload_n 2, 1) := by decide +kernel
theorem dX8_least_43 : decode cX8_least 43 = .ok (.bipush 10, 2) := by decide +kernel
theorem dX8_least_45 : decode cX8_least 45 = .ok (.if_icmp .ge 51, 3) := by decide +kernel
theorem dX8_least_48 : decode cX8_least 48 = .ok (.iload_n 1, 1) := by decide +kernel
theorem dX8_least_49 : decode cX8_least 49 = .ok (.bipush (-9), 2) := by decide +kernel
theorem dX8_least_51 : decode cX8_least 51 = .ok (.if_icmp .eq 45, 3) := by decide +kernel
theorem dX8_least_54 : decode cX8_least 54 = .ok (.aload_n 0, 1) := by decide +kernel
theorem dX8_least_55 : decode cX8_least 55 = .ok (.getfield 26, 3) := by decide +kernel
theorem dX8_least_58 : decode cX8_least 58 = .ok (.aload_n 0, 1) := by decide +kernel
theorem dX8_least_59 : decode cX8_least 59 = .ok (.getfield 32, 3) := by decide +kernel
theorem dX8_least_62 : decode cX8_least 62 = .ok (.invokestatic 163, 3) := by decide +kernel
theorem dX8_least_65 : decode cX8_least 65 = .ok (.aload_n 0, 1) := by decide +kernel
theorem dX8_least_66 : decode cX8_least 66 = .ok (.getfield 32, 3) := by decide +kernel
theorem dX8_least_69 : decode cX8_least 69 = .ok (.iconst 0, 1) := by decide +kernel
theorem dX8_least_70 : decode cX8_least 70 = .ok (.iload_n 2, 1) := by decide +kernel
theorem dX8_least_71 : decode cX8_least 71 = .ok (.iastore, 1) := by decide +kernel
theorem dX8_least_72 : decode cX8_least 72 = .ok (.aload_n 0, 1) := by decide +kernel
theorem dX8_least_73 : decode cX8_least 73 = .ok (.getfield 32, 3) := by decide +kernel
theorem dX8_least_76 : decode cX8_least 76 = .ok (.invokestatic 174, 3) := by decide +kernel
theorem dX8_least_79 : decode cX8_least 79 = .ok (.iload_n 1, 1) := by decide +kernel
theorem dX8_least_80 : decode cX8_least 80 = .ok (.if_icmp .ne 10, 3) := by decide +kernel
theorem dX8_least_83 : decode cX8_least 83 = .ok (.aload_n 0, 1) := by decide +kernel
theorem dX8_least_84 : decode cX8_least 84 = .ok (.iload_n 1, 1) := by decide +kernel
theorem dX8_least_85 : decode cX8_least 85 = .ok (.putfield 70, 3) := by decide +kernel
theorem dX8_least_88 : decode cX8_least 88 = .ok (.iload_n 2, 1) := by decide +kernel
theorem dX8_least_89 : decode cX8_least 89 = .ok (.ireturn, 1) := by decide +kernel
theorem dX8_least_90 : decode cX8_least 90 = .ok (.iinc 2 1, 3) := by decide +kernel
theorem dX8_least_93 : decode cX8_least 93 = .ok (.goto (-51), 3) := by decide +kernel
theorem dX8_least_96 : decode cX8_least 96 = .ok (.bipush (-9), 2) := by decide +kernel
theorem dX8_least_98 : decode cX8_least 98 = .ok (.ireturn, 1) := by decide +kernel
theorem dX8_aims_0 : decode cX8_aims 0 = .ok (.iload_n 2, 1) := by decide +kernel
theorem dX8_aims_1 : decode cX8_aims 1 = .ok (.istore_n 3, 1) := by decide +kernel
theorem dX8_aims_2 : decode cX8_aims 2 = .ok (.aload_n 1, 1) := by decide +kernel
theorem dX8_aims_3 : decode cX8_aims 3 = .ok (.bipush 18, 2) := by decide +kernel
theorem dX8_aims_5 : decode cX8_aims 5 = .ok (.iaload, 1) := by decide +kernel
theorem dX8_aims_6 : decode cX8_aims 6 = .ok (.iconst 1, 1) := by decide +kernel
theorem dX8_aims_7 : decode cX8_aims 7 = .ok (.isub, 1) := by decide +kernel
theorem dX8_aims_8 : decode cX8_aims 8 = .ok (.istore 4, 2) := by decide +kernel
theorem dX8_aims_10 : decode cX8_aims 10 = .ok (.iload 4, 2) := by decide +kernel
theorem dX8_aims_12 : decode cX8_aims 12 = .ok (.ifCond .lt 25, 3) := by decide +kernel
theorem dX8_aims_15 : decode cX8_aims 15 = .ok (.aload_n 1, 1) := by decide +kernel
theorem dX8_aims_16 : decode cX8_aims 16 = .ok (.bipush 11, 2) := by decide +kernel
theorem dX8_aims_18 : decode cX8_aims 18 = .ok (.iload 4, 2) := by decide +kernel
theorem dX8_aims_20 : decode cX8_aims 20 = .ok (.iadd, 1) := by decide +kernel
theorem dX8_aims_21 : decode cX8_aims 21 = .ok (.iload_n 3, 1) := by decide +kernel
theorem dX8_aims_22 : decode cX8_aims 22 = .ok (.bipush 10, 2) := by decide +kernel
theorem dX8_aims_24 : decode cX8_aims 24 = .ok (.irem, 1) := by decide +kernel
theorem dX8_aims_25 : decode cX8_aims 25 = .ok (.iastore, 1) := by decide +kernel
theorem dX8_aims_26 : decode cX8_aims 26 = .ok (.iload_n 3, 1) := by decide +kernel
theorem dX8_aims_27 : decode cX8_aims 27 = .ok (.bipush 10, 2) := by decide +kernel
theorem dX8_aims_29 : decode cX8_aims 29 = .ok (.idiv, 1) := by decide +kernel
theorem dX8_aims_30 : decode cX8_aims 30 = .ok (.istore_n 3, 1) := by decide +kernel
theorem dX8_aims_31 : decode cX8_aims 31 = .ok (.iinc 4 (-1), 3) := by decide +kernel
theorem dX8_aims_34 : decode cX8_aims 34 = .ok (.goto (-24), 3) := by decide +kernel
theorem dX8_aims_37 : decode cX8_aims 37 = .ok (.return_, 1) := by decide +kernel
theorem dX8_amiss_0 : decode cX8_amiss 0 = .ok (.aload_n 0, 1) := by decide +kernel
theorem dX8_amiss_1 : decode cX8_amiss 1 = .ok (.getfield 7, 3) := by decide +kernel
theorem dX8_amiss_4 : decode cX8_amiss 4 = .ok (.iload_n 1, 1) := by decide +kernel
theorem dX8_amiss_5 : decode cX8_amiss 5 = .ok (.iaload, 1) := by decide +kernel
theorem dX8_amiss_6 : decode cX8_amiss 6 = .ok (.ifCond .ge 5, 3) := by decide +kernel
theorem dX8_amiss_9 : decode cX8_amiss 9 = .ok (.iconst 1, 1) := by decide +kernel
theorem dX8_amiss_10 : decode cX8_amiss 10 = .ok (.ireturn, 1) := by decide +kernel
theorem dX8_amiss_11 : decode cX8_amiss 11 = .ok (.aload_n 0, 1) := by decide +kernel
theorem dX8_amiss_12 : decode cX8_amiss 12 = .ok (.getfield 7, 3) := by decide +kernel
theorem dX8_amiss_15 : decode cX8_amiss 15 = .ok (.iload_n 1, 1) := by decide +kernel
theorem dX8_amiss_16 : decode cX8_amiss 16 = .ok (.iaload, 1) := by decide +kernel
theorem dX8_amiss_17 : decode cX8_amiss 17 = .ok (.iconst 1, 1) := by decide +kernel
theorem dX8_amiss_18 : decode cX8_amiss 18 = .ok (.iconst 5, 1) := by decide +kernel
theorem dX8_amiss_19 : decode cX8_amiss 19 = .ok (.invokestatic 73, 3) := by decide +kernel
theorem dX8_amiss_22 : decode cX8_amiss 22 = .ok (.ifCond .ne 5, 3) := by decide +kernel
theorem dX8_amiss_25 : decode cX8_amiss 25 = .ok (.iconst 5, 1) := by decide +kernel
theorem dX8_amiss_26 : decode cX8_amiss 26 = .ok (.ireturn, 1) := by decide +kernel
theorem dX8_amiss_27 : decode cX8_amiss 27 = .ok (.iconst 1, 1) := by decide +kernel
theorem dX8_amiss_28 : decode cX8_amiss 28 = .ok (.istore_n 2, 1) := by decide +kernel
theorem dX8_amiss_29 : decode cX8_amiss 29 = .ok (.iconst 0, 1) := by decide +kernel
theorem dX8_amiss_30 : decode cX8_amiss 30 = .ok (.istore_n 3, 1) := by decide +kernel
theorem dX8_amiss_31 : decode cX8_amiss 31 = .ok (.iload_n 3, 1) := by decide +kernel
theorem dX8_amiss_32 : decode cX8_amiss 32 = .ok (.aload_n 0, 1) := by decide +kernel
theorem dX8_amiss_33 : decode cX8_amiss 33 = .ok (.getfield 26, 3) := by decide +kernel
theorem dX8_amiss_36 : decode cX8_amiss 36 = .ok (.bipush 18, 2) := by decide +kernel
theorem dX8_amiss_38 : decode cX8_amiss 38 = .ok (.iaload, 1) := by decide +kernel
theorem dX8_amiss_39 : decode cX8_amiss 39 = .ok (.if_icmp .ge 14, 3) := by decide +kernel
theorem dX8_amiss_42 : decode cX8_amiss 42 = .ok (.iload_n 2, 1) := by decide +kernel
theorem dX8_amiss_43 : decode cX8_amiss 43 = .ok (.bipush 10, 2) := by decide +kernel
theorem dX8_amiss_45 : decode cX8_amiss 45 = .ok (.imul, 1) := by decide +kernel
theorem dX8_amiss_46 : decode cX8_amiss 46 = .ok (.istore_n 2, 1) := by decide +kernel
theorem dX8_amiss_47 : decode cX8_amiss 47 = .ok (.iinc 3 1, 3) := by decide +kernel
theorem dX8_amiss_50 : decode cX8_amiss 50 = .ok (.goto (-19), 3) := by decide +kernel
theorem dX8_amiss_53 : decode cX8_amiss 53 = .ok (.iconst 1, 1) := by decide +kernel
theorem dX8_amiss_54 : decode cX8_amiss 54 = .ok (.istore_n 3, 1) := by decide +kernel
theorem dX8_amiss_55 : decode cX8_amiss 55 = .ok (.iconst 0, 1) := by decide +kernel
theorem dX8_amiss_56 : decode cX8_amiss 56 = .ok (.istore 4, 2) := by decide +kernel
theorem dX8_amiss_58 : decode cX8_amiss 58 = .ok (.iload 4, 2) := by decide +kernel
theorem dX8_amiss_60 : decode cX8_amiss 60 = .ok (.aload_n 0, 1) := by decide +kernel
theorem dX8_amiss_61 : decode cX8_amiss 61 = .ok (.getfield 7, 3) := by decide +kernel
theorem dX8_amiss_64 : decode cX8_amiss 64 = .ok (.iload_n 1, 1) := by decide +kernel
theorem dX8_amiss_65 : decode cX8_amiss 65 = .ok (.iaload, 1) := by decide +kernel
theorem dX8_amiss_66 : decode cX8_amiss 66 = .ok (.if_icmp .ge 41, 3) := by decide +kernel
theorem dX8_amiss_69 : decode cX8_amiss 69 = .ok (.iload_n 3, 1) := by decide +kernel
theorem dX8_amiss_70 : decode cX8_amiss 70 = .ok (.ifCond .eq 29, 3) := by decide +kernel
theorem dX8_amiss_73 : decode cX8_amiss 73 = .ok (.aload_n 0, 1) := by decide +kernel
theorem dX8_amiss_74 : decode cX8_amiss 74 = .ok (.getfield 13, 3) := by decide +kernel
theorem dX8_amiss_77 : decode cX8_amiss 77 = .ok (.bipush 40, 2) := by decide +kernel
theorem dX8_amiss_79 : decode cX8_amiss 79 = .ok (.iload_n 1, 1) := by decide +kernel
theorem dX8_amiss_80 : decode cX8_amiss 80 = .ok (.imul, 1) := by decide +kernel
theorem dX8_amiss_81 : decode cX8_amiss 81 = .ok (.iload 4, 2) := by decide +kernel
theorem dX8_amiss_83 : decode cX8_amiss 83 = .ok (.iadd, 1) := by decide +kernel
theorem dX8_amiss_84 : decode cX8_amiss 84 = .ok (.iaload, 1) := by decide +kernel
theorem dX8_amiss_85 : decode cX8_amiss 85 = .ok (.iconst 0, 1) := by decide +kernel
theorem dX8_amiss_86 : decode cX8_amiss 86 = .ok (.iload_n 2, 1) := by decide +kernel
theorem dX8_amiss_87 : decode cX8_amiss 87 = .ok (.iconst 1, 1) := by decide +kernel
theorem dX8_amiss_88 : decode cX8_amiss 88 = .ok (.isub, 1) := by decide +kernel
theorem dX8_amiss_89 : decode cX8_amiss 89 = .ok (.invokestatic 73, 3) := by decide +kernel
theorem dX8_amiss_92 : decode cX8_amiss 92 = .ok (.ifCond .eq 7, 3) := by decide +kernel
theorem dX8_amiss_95 : decode cX8_amiss 95 = .ok (.iconst 1, 1) := by decide +kernel
theorem dX8_amiss_96 : decode cX8_amiss 96 = .ok (.goto 4, 3) := by decide +kernel
theorem dX8_amiss_99 : decode cX8_amiss 99 = .ok (.iconst 0, 1) := by decide +kernel
theorem dX8_amiss_100 : decode cX8_amiss 100 = .ok (.istore_n 3, 1) := by decide +kernel
theorem dX8_amiss_101 : decode cX8_amiss 101 = .ok (.iinc 4 1, 3) := by decide +kernel
theorem dX8_amiss_104 : decode cX8_amiss 104 = .ok (.goto (-46), 3) := by decide +kernel
theorem dX8_amiss_107 : decode cX8_amiss 107 = .ok (.iload_n 3, 1) := by decide +kernel
theorem dX8_amiss_108 : decode cX8_amiss 108 = .ok (.ifCond .eq 7, 3) := by decide +kernel
theorem dX8_amiss_111 : decode cX8_amiss 111 = .ok (.iconst 0, 1) := by decide +kernel
theorem dX8_amiss_112 : decode cX8_amiss 112 = .ok (.goto 4, 3) := by decide +kernel
theorem dX8_amiss_115 : decode cX8_amiss 115 = .ok (.iconst 3, 1) := by decide +kernel
theorem dX8_amiss_116 : decode cX8_amiss 116 = .ok (.ireturn, 1) := by decide +kernel
theorem dX8_soonest_0 : decode cX8_soonest 0 = .ok (.iload_n 1, 1) := by decide +kernel
theorem dX8_soonest_1 : decode cX8_soonest 1 = .ok (.invokestatic 77, 3) := by decide +kernel
theorem dX8_soonest_4 : decode cX8_soonest 4 = .ok (.ifCond .ne 5, 3) := by decide +kernel
theorem dX8_soonest_7 : decode cX8_soonest 7 = .ok (.iconst (-1), 1) := by decide +kernel
theorem dX8_soonest_8 : decode cX8_soonest 8 = .ok (.ireturn, 1) := by decide +kernel
theorem dX8_soonest_9 : decode cX8_soonest 9 = .ok (.aload_n 0, 1) := by decide +kernel
theorem dX8_soonest_10 : decode cX8_soonest 10 = .ok (.getfield 26, 3) := by decide +kernel
theorem dX8_soonest_13 : decode cX8_soonest 13 = .ok (.bipush 18, 2) := by decide +kernel
theorem dX8_soonest_15 : decode cX8_soonest 15 = .ok (.iaload, 1) := by decide +kernel
theorem dX8_soonest_16 : decode cX8_soonest 16 = .ok (.ifCond .ne 6, 3) := by decide +kernel
theorem dX8_soonest_19 : decode cX8_soonest 19 = .ok (.bipush (-4), 2) := by decide +kernel
theorem dX8_soonest_21 : decode cX8_soonest 21 = .ok (.ireturn, 1) := by decide +kernel
theorem dX8_soonest_22 : decode cX8_soonest 22 = .ok (.aload_n 0, 1) := by decide +kernel
theorem dX8_soonest_23 : decode cX8_soonest 23 = .ok (.iload_n 1, 1) := by decide +kernel
theorem dX8_soonest_24 : decode cX8_soonest 24 = .ok (.invokevirtual 177, 3) := by decide +kernel
theorem dX8_soonest_27 : decode cX8_soonest 27 = .ok (.istore_n 2, 1) := by decide +kernel
theorem dX8_soonest_28 : decode cX8_soonest 28 = .ok (.iload_n 2, 1) := by decide +kernel
theorem dX8_soonest_29 : decode cX8_soonest 29 = .ok (.ifCond .eq 9, 3) := by decide +kernel
theorem dX8_soonest_32 : decode cX8_soonest 32 = .ok (.aload_n 0, 1) := by decide +kernel
theorem dX8_soonest_33 : decode cX8_soonest 33 = .ok (.iload_n 2, 1) := by decide +kernel
theorem dX8_soonest_34 : decode cX8_soonest 34 = .ok (.invokevirtual 81, 3) := by decide +kernel
theorem dX8_soonest_37 : decode cX8_soonest 37 = .ok (.ireturn, 1) := by decide +kernel
theorem dX8_soonest_38 : decode cX8_soonest 38 = .ok (.bipush (-9), 2) := by decide +kernel
theorem dX8_soonest_40 : decode cX8_soonest 40 = .ok (.istore_n 3, 1) := by decide +kernel
theorem dX8_soonest_41 : decode cX8_soonest 41 = .ok (.bipush 61, 2) := by decide +kernel
theorem dX8_soonest_43 : decode cX8_soonest 43 = .ok (.istore 4, 2) := by decide +kernel
theorem dX8_soonest_45 : decode cX8_soonest 45 = .ok (.iconst 0, 1) := by decide +kernel
theorem dX8_soonest_46 : decode cX8_soonest 46 = .ok (.istore 5, 2) := by decide +kernel
theorem dX8_soonest_48 : decode cX8_soonest 48 = .ok (.iload 5, 2) := by decide +kernel
theorem dX8_soonest_50 : decode cX8_soonest 50 = .ok (.aload_n 0, 1) := by decide +kernel
theorem dX8_soonest_51 : decode cX8_soonest 51 = .ok (.getfield 7, 3) := by decide +kernel
theorem dX8_soonest_54 : decode cX8_soonest 54 = .ok (.iload_n 1, 1) := by decide +kernel
theorem dX8_soonest_55 : decode cX8_soonest 55 = .ok (.iaload, 1) := by decide +kernel
theorem dX8_soonest_56 : decode cX8_soonest 56 = .ok (.if_icmp .ge 96, 3) := by decide +kernel
theorem dX8_soonest_59 : decode cX8_soonest 59 = .ok (.aload_n 0, 1) := by decide +kernel
theorem dX8_soonest_60 : decode cX8_soonest 60 = .ok (.getfield 26, 3) := by decide +kernel
theorem dX8_soonest_63 : decode cX8_soonest 63 = .ok (.aload_n 0, 1) := by decide +kernel
theorem dX8_soonest_64 : decode cX8_soonest 64 = .ok (.getfield 32, 3) := by decide +kernel
theorem dX8_soonest_67 : decode cX8_soonest 67 = .ok (.invokestatic 163, 3) := by decide +kernel
theorem dX8_soonest_70 : decode cX8_soonest 70 = .ok (.aload_n 0, 1) := by decide +kernel
theorem dX8_soonest_71 : decode cX8_soonest 71 = .ok (.aload_n 0, 1) := by decide +kernel
theorem dX8_soonest_72 : decode cX8_soonest 72 = .ok (.getfield 32, 3) := by decide +kernel
theorem dX8_soonest_75 : decode cX8_soonest 75 = .ok (.aload_n 0, 1) := by decide +kernel
theorem dX8_soonest_76 : decode cX8_soonest 76 = .ok (.getfield 13, 3) := by decide +kernel
theorem dX8_soonest_79 : decode cX8_soonest 79 = .ok (.bipush 40, 2) := by decide +kernel
theorem dX8_soonest_81 : decode cX8_soonest 81 = .ok (.iload_n 1, 1) := by decide +kernel
theorem dX8_soonest_82 : decode cX8_soonest 82 = .ok (.imul, 1) := by decide +kernel
theorem dX8_soonest_83 : decode cX8_soonest 83 = .ok (.iload 5, 2) := by decide +kernel
theorem dX8_soonest_85 : decode cX8_soonest 85 = .ok (.iadd, 1) := by decide +kernel
theorem dX8_soonest_86 : decode cX8_soonest 86 = .ok (.iaload, 1) := by decide +kernel
theorem dX8_soonest_87 : decode cX8_soonest 87 = .ok (.invokevirtual 180, 3) := by decide +kernel
theorem dX8_soonest_90 : decode cX8_soonest 90 = .ok (.aload_n 0, 1) := by decide +kernel
theorem dX8_soonest_91 : decode cX8_soonest 91 = .ok (.getfield 32, 3) := by decide +kernel
theorem dX8_soonest_94 : decode cX8_soonest 94 = .ok (.invokestatic 174, 3) := by decide +kernel
theorem dX8_soonest_97 : decode cX8_soonest 97 = .ok (.istore 6, 2) := by decide +kernel
theorem dX8_soonest_99 : decode cX8_soonest 99 = .ok (.iload 6, 2) := by decide +kernel
theorem dX8_soonest_101 : decode cX8_soonest 101 = .ok (.bipush (-9), 2) := by decide +kernel
theorem dX8_soonest_103 : decode cX8_soonest 103 = .ok (.if_icmp .eq 14, 3) := by decide +kernel
theorem dX8_soonest_106 : decode cX8_soonest 106 = .ok (.iload 6, 2) := by decide +kernel
theorem dX8_soonest_108 : decode cX8_soonest 108 = .ok (.iload 4, 2) := by decide +kernel
theorem dX8_soonest_110 : decode cX8_soonest 110 = .ok (.if_icmp .ge 7, 3) := by decide +kernel
theorem dX8_soonest_113 : decode cX8_soonest 113 = .ok (.iconst 1, 1) := by decide +kernel
theorem dX8_soonest_114 : decode cX8_soonest 114 = .ok (.goto 4, 3) := by decide +kernel
theorem dX8_soonest_117 : decode cX8_soonest 117 = .ok (.iconst 0, 1) := by decide +kernel
theorem dX8_soonest_118 : decode cX8_soonest 118 = .ok (.istore 7, 2) := by decide +kernel
theorem dX8_soonest_120 : decode cX8_soonest 120 = .ok (.iload 7, 2) := by decide +kernel
theorem dX8_soonest_122 : decode cX8_soonest 122 = .ok (.ifCond .eq 8, 3) := by decide +kernel
theorem dX8_soonest_125 : decode cX8_soonest 125 = .ok (.iload 5, 2) := by decide +kernel
theorem dX8_soonest_127 : decode cX8_soonest 127 = .ok (.goto 4, 3) := by decide +kernel
theorem dX8_soonest_130 : decode cX8_soonest 130 = .ok (.iload_n 3, 1) := by decide +kernel
theorem dX8_soonest_131 : decode cX8_soonest 131 = .ok (.istore_n 3, 1) := by decide +kernel
theorem dX8_soonest_132 : decode cX8_soonest 132 = .ok (.iload 7, 2) := by decide +kernel
theorem dX8_soonest_134 : decode cX8_soonest 134 = .ok (.ifCond .eq 8, 3) := by decide +kernel
theorem dX8_soonest_137 : decode cX8_soonest 137 = .ok (.iload 6, 2) := by decide +kernel
theorem dX8_soonest_139 : decode cX8_soonest 139 = .ok (.goto 5, 3) := by decide +kernel
theorem dX8_soonest_142 : decode cX8_soonest 142 = .ok (.iload 4, 2) := by decide +kernel
theorem dX8_soonest_144 : decode cX8_soonest 144 = .ok (.istore 4, 2) := by decide +kernel
theorem dX8_soonest_146 : decode cX8_soonest 146 = .ok (.iinc 5 1, 3) := by decide +kernel
theorem dX8_soonest_149 : decode cX8_soonest 149 = .ok (.goto (-101), 3) := by decide +kernel
theorem dX8_soonest_152 : decode cX8_soonest 152 = .ok (.aload_n 0, 1) := by decide +kernel
theorem dX8_soonest_153 : decode cX8_soonest 153 = .ok (.iload_n 3, 1) := by decide +kernel
theorem dX8_soonest_154 : decode cX8_soonest 154 = .ok (.bipush (-9), 2) := by decide +kernel
theorem dX8_soonest_156 : decode cX8_soonest 156 = .ok (.if_icmp .ne 10, 3) := by decide +kernel
theorem dX8_soonest_159 : decode cX8_soonest 159 = .ok (.aload_n 0, 1) := by decide +kernel
theorem dX8_soonest_160 : decode cX8_soonest 160 = .ok (.getfield 70, 3) := by decide +kernel
theorem dX8_soonest_163 : decode cX8_soonest 163 = .ok (.goto 5, 3) := by decide +kernel
theorem dX8_soonest_166 : decode cX8_soonest 166 = .ok (.iload 4, 2) := by decide +kernel
theorem dX8_soonest_168 : decode cX8_soonest 168 = .ok (.putfield 70, 3) := by decide +kernel
theorem dX8_soonest_171 : decode cX8_soonest 171 = .ok (.iload_n 3, 1) := by decide +kernel
theorem dX8_soonest_172 : decode cX8_soonest 172 = .ok (.ireturn, 1) := by decide +kernel
theorem dX8_order_0 : decode cX8_order 0 = .ok (.iload_n 1, 1) := by decide +kernel
theorem dX8_order_1 : decode cX8_order 1 = .ok (.invokestatic 77, 3) := by decide +kernel
theorem dX8_order_4 : decode cX8_order 4 = .ok (.ifCond .eq 10, 3) := by decide +kernel
theorem dX8_order_7 : decode cX8_order 7 = .ok (.iload_n 2, 1) := by decide +kernel
theorem dX8_order_8 : decode cX8_order 8 = .ok (.invokestatic 77, 3) := by decide +kernel
theorem dX8_order_11 : decode cX8_order 11 = .ok (.ifCond .ne 5, 3) := by decide +kernel
theorem dX8_order_14 : decode cX8_order 14 = .ok (.iconst (-1), 1) := by decide +kernel
theorem dX8_order_15 : decode cX8_order 15 = .ok (.ireturn, 1) := by decide +kernel
theorem dX8_order_16 : decode cX8_order 16 = .ok (.aload_n 0, 1) := by decide +kernel
theorem dX8_order_17 : decode cX8_order 17 = .ok (.getfield 26, 3) := by decide +kernel
theorem dX8_order_20 : decode cX8_order 20 = .ok (.bipush 18, 2) := by decide +kernel
theorem dX8_order_22 : decode cX8_order 22 = .ok (.iaload, 1) := by decide +kernel
theorem dX8_order_23 : decode cX8_order 23 = .ok (.ifCond .ne 6, 3) := by decide +kernel
theorem dX8_order_26 : decode cX8_order 26 = .ok (.bipush (-4), 2) := by decide +kernel
theorem dX8_order_28 : decode cX8_order 28 = .ok (.ireturn, 1) := by decide +kernel
theorem dX8_order_29 : decode cX8_order 29 = .ok (.aload_n 0, 1) := by decide +kernel
theorem dX8_order_30 : decode cX8_order 30 = .ok (.iload_n 1, 1) := by decide +kernel
theorem dX8_order_31 : decode cX8_order 31 = .ok (.invokevirtual 177, 3) := by decide +kernel
theorem dX8_order_34 : decode cX8_order 34 = .ok (.istore_n 3, 1) := by decide +kernel
theorem dX8_order_35 : decode cX8_order 35 = .ok (.iload_n 3, 1) := by decide +kernel
theorem dX8_order_36 : decode cX8_order 36 = .ok (.ifCond .eq 9, 3) := by decide +kernel
theorem dX8_order_39 : decode cX8_order 39 = .ok (.aload_n 0, 1) := by decide +kernel
theorem dX8_order_40 : decode cX8_order 40 = .ok (.iload_n 3, 1) := by decide +kernel
theorem dX8_order_41 : decode cX8_order 41 = .ok (.invokevirtual 81, 3) := by decide +kernel
theorem dX8_order_44 : decode cX8_order 44 = .ok (.ireturn, 1) := by decide +kernel
theorem dX8_order_45 : decode cX8_order 45 = .ok (.aload_n 0, 1) := by decide +kernel
theorem dX8_order_46 : decode cX8_order 46 = .ok (.getfield 7, 3) := by decide +kernel
theorem dX8_order_49 : decode cX8_order 49 = .ok (.iload_n 1, 1) := by decide +kernel
theorem dX8_order_50 : decode cX8_order 50 = .ok (.iaload, 1) := by decide +kernel
theorem dX8_order_51 : decode cX8_order 51 = .ok (.istore 4, 2) := by decide +kernel
theorem dX8_order_53 : decode cX8_order 53 = .ok (.iconst 1, 1) := by decide +kernel
theorem dX8_order_54 : decode cX8_order 54 = .ok (.istore 5, 2) := by decide +kernel
theorem dX8_order_56 : decode cX8_order 56 = .ok (.iconst 0, 1) := by decide +kernel
theorem dX8_order_57 : decode cX8_order 57 = .ok (.istore 6, 2) := by decide +kernel
theorem dX8_order_59 : decode cX8_order 59 = .ok (.iload 6, 2) := by decide +kernel
theorem dX8_order_61 : decode cX8_order 61 = .ok (.iload 4, 2) := by decide +kernel
theorem dX8_order_63 : decode cX8_order 63 = .ok (.if_icmp .ge 16, 3) := by decide +kernel
theorem dX8_order_66 : decode cX8_order 66 = .ok (.iload 5, 2) := by decide +kernel
theorem dX8_order_68 : decode cX8_order 68 = .ok (.iload 4, 2) := by decide +kernel
theorem dX8_order_70 : decode cX8_order 70 = .ok (.imul, 1) := by decide +kernel
theorem dX8_order_71 : decode cX8_order 71 = .ok (.istore 5, 2) := by decide +kernel
theorem dX8_order_73 : decode cX8_order 73 = .ok (.iinc 6 1, 3) := by decide +kernel
theorem dX8_order_76 : decode cX8_order 76 = .ok (.goto (-17), 3) := by decide +kernel
theorem dX8_order_79 : decode cX8_order 79 = .ok (.bipush (-9), 2) := by decide +kernel
theorem dX8_order_81 : decode cX8_order 81 = .ok (.istore 6, 2) := by decide +kernel
theorem dX8_order_83 : decode cX8_order 83 = .ok (.sipush 9999, 3) := by decide +kernel
theorem dX8_order_86 : decode cX8_order 86 = .ok (.istore 7, 2) := by decide +kernel
theorem dX8_order_88 : decode cX8_order 88 = .ok (.iconst 0, 1) := by decide +kernel
theorem dX8_order_89 : decode cX8_order 89 = .ok (.istore 8, 2) := by decide +kernel
theorem dX8_order_91 : decode cX8_order 91 = .ok (.iload 8, 2) := by decide +kernel
theorem dX8_order_93 : decode cX8_order 93 = .ok (.iload 5, 2) := by decide +kernel
theorem dX8_order_95 : decode cX8_order 95 = .ok (.if_icmp .ge 190, 3) := by decide +kernel
theorem dX8_order_98 : decode cX8_order 98 = .ok (.iload 5, 2) := by decide +kernel
theorem dX8_order_100 : decode cX8_order 100 = .ok (.istore 9, 2) := by decide +kernel
theorem dX8_order_102 : decode cX8_order 102 = .ok (.iconst 0, 1) := by decide +kernel
theorem dX8_order_103 : decode cX8_order 103 = .ok (.istore 10, 2) := by decide +kernel
theorem dX8_order_105 : decode cX8_order 105 = .ok (.iconst 0, 1) := by decide +kernel
theorem dX8_order_106 : decode cX8_order 106 = .ok (.istore 11, 2) := by decide +kernel
theorem dX8_order_108 : decode cX8_order 108 = .ok (.aload_n 0, 1) := by decide +kernel
theorem dX8_order_109 : decode cX8_order 109 = .ok (.getfield 26, 3) := by decide +kernel
theorem dX8_order_112 : decode cX8_order 112 = .ok (.aload_n 0, 1) := by decide +kernel
theorem dX8_order_113 : decode cX8_order 113 = .ok (.getfield 32, 3) := by decide +kernel
theorem dX8_order_116 : decode cX8_order 116 = .ok (.invokestatic 163, 3) := by decide +kernel
theorem dX8_order_119 : decode cX8_order 119 = .ok (.iconst 0, 1) := by decide +kernel
theorem dX8_order_120 : decode cX8_order 120 = .ok (.istore 12, 2) := by decide +kernel
theorem dX8_order_122 : decode cX8_order 122 = .ok (.iload 12, 2) := by decide +kernel
theorem dX8_order_124 : decode cX8_order 124 = .ok (.iload 4, 2) := by decide +kernel
theorem dX8_order_126 : decode cX8_order 126 = .ok (.if_icmp .ge 106, 3) := by decide +kernel
theorem dX8_order_129 : decode cX8_order 129 = .ok (.iload 11, 2) := by decide +kernel
theorem dX8_order_131 : decode cX8_order 131 = .ok (.ifCond .lt 101, 3) := by decide +kernel
theorem dX8_order_134 : decode cX8_order 134 = .ok (.iload 9, 2) := by decide +kernel
theorem dX8_order_136 : decode cX8_order 136 = .ok (.iload 4, 2) := by decide +kernel
theorem dX8_order_138 : decode cX8_order 138 = .ok (.idiv, 1) := by decide +kernel
theorem dX8_order_139 : decode cX8_order 139 = .ok (.istore 9, 2) := by decide +kernel
theorem dX8_order_141 : decode cX8_order 141 = .ok (.iload 8, 2) := by decide +kernel
theorem dX8_order_143 : decode cX8_order 143 = .ok (.iload 9, 2) := by decide +kernel
theorem dX8_order_145 : decode cX8_order 145 = .ok (.idiv, 1) := by decide +kernel
theorem dX8_order_146 : decode cX8_order 146 = .ok (.iload 4, 2) := by decide +kernel
theorem dX8_order_148 : decode cX8_order 148 = .ok (.irem, 1) := by decide +kernel
theorem dX8_order_149 : decode cX8_order 149 = .ok (.istore 13, 2) := by decide +kernel
theorem dX8_order_151 : decode cX8_order 151 = .ok (.iload 10, 2) := by decide +kernel
theorem dX8_order_153 : decode cX8_order 153 = .ok (.iload 13, 2) := by decide +kernel
theorem dX8_order_155 : decode cX8_order 155 = .ok (.invokestatic 137, 3) := by decide +kernel
theorem dX8_order_158 : decode cX8_order 158 = .ok (.istore 14, 2) := by decide +kernel
theorem dX8_order_160 : decode cX8_order 160 = .ok (.iload 10, 2) := by decide +kernel
theorem dX8_order_162 : decode cX8_order 162 = .ok (.iconst 1, 1) := by decide +kernel
theorem dX8_order_163 : decode cX8_order 163 = .ok (.iload 13, 2) := by decide +kernel
theorem dX8_order_165 : decode cX8_order 165 = .ok (.ishl, 1) := by decide +kernel
theorem dX8_order_166 : decode cX8_order 166 = .ok (.ior, 1) := by decide +kernel
theorem dX8_order_167 : decode cX8_order 167 = .ok (.istore 10, 2) := by decide +kernel
theorem dX8_order_169 : decode cX8_order 169 = .ok (.aload_n 0, 1) := by decide +kernel
theorem dX8_order_170 : decode cX8_order 170 = .ok (.aload_n 0, 1) := by decide +kernel
theorem dX8_order_171 : decode cX8_order 171 = .ok (.getfield 32, 3) := by decide +kernel
theorem dX8_order_174 : decode cX8_order 174 = .ok (.aload_n 0, 1) := by decide +kernel
theorem dX8_order_175 : decode cX8_order 175 = .ok (.getfield 13, 3) := by decide +kernel
theorem dX8_order_178 : decode cX8_order 178 = .ok (.bipush 40, 2) := by decide +kernel
theorem dX8_order_180 : decode cX8_order 180 = .ok (.iload_n 1, 1) := by decide +kernel
theorem dX8_order_181 : decode cX8_order 181 = .ok (.imul, 1) := by decide +kernel
theorem dX8_order_182 : decode cX8_order 182 = .ok (.iload 13, 2) := by decide +kernel
theorem dX8_order_184 : decode cX8_order 184 = .ok (.iadd, 1) := by decide +kernel
theorem dX8_order_185 : decode cX8_order 185 = .ok (.iaload, 1) := by decide +kernel
theorem dX8_order_186 : decode cX8_order 186 = .ok (.invokevirtual 180, 3) := by decide +kernel
theorem dX8_order_189 : decode cX8_order 189 = .ok (.iload 14, 2) := by decide +kernel
theorem dX8_order_191 : decode cX8_order 191 = .ok (.ifCond .eq 8, 3) := by decide +kernel
theorem dX8_order_194 : decode cX8_order 194 = .ok (.bipush (-9), 2) := by decide +kernel
theorem dX8_order_196 : decode cX8_order 196 = .ok (.goto 10, 3) := by decide +kernel
theorem dX8_order_199 : decode cX8_order 199 = .ok (.aload_n 0, 1) := by decide +kernel
theorem dX8_order_200 : decode cX8_order 200 = .ok (.getfield 32, 3) := by decide +kernel
theorem dX8_order_203 : decode cX8_order 203 = .ok (.invokestatic 174, 3) := by decide +kernel
theorem dX8_order_206 : decode cX8_order 206 = .ok (.istore 15, 2) := by decide +kernel
theorem dX8_order_208 : decode cX8_order 208 = .ok (.iload 15, 2) := by decide +kernel
theorem dX8_order_210 : decode cX8_order 210 = .ok (.bipush (-9), 2) := by decide +kernel
theorem dX8_order_212 : decode cX8_order 212 = .ok (.if_icmp .ne 7, 3) := by decide +kernel
theorem dX8_order_215 : decode cX8_order 215 = .ok (.iconst (-1), 1) := by decide +kernel
theorem dX8_order_216 : decode cX8_order 216 = .ok (.goto 8, 3) := by decide +kernel
theorem dX8_order_219 : decode cX8_order 219 = .ok (.iload 11, 2) := by decide +kernel
theorem dX8_order_221 : decode cX8_order 221 = .ok (.iload 15, 2) := by decide +kernel
theorem dX8_order_223 : decode cX8_order 223 = .ok (.iadd, 1) := by decide +kernel
theorem dX8_order_224 : decode cX8_order 224 = .ok (.istore 11, 2) := by decide +kernel
theorem dX8_order_226 : decode cX8_order 226 = .ok (.iinc 12 1, 3) := by decide +kernel
theorem dX8_order_229 : decode cX8_order 229 = .ok (.goto (-107), 3) := by decide +kernel
theorem dX8_order_232 : decode cX8_order 232 = .ok (.iload 11, 2) := by decide +kernel
theorem dX8_order_234 : decode cX8_order 234 = .ok (.ifCond .lt 14, 3) := by decide +kernel
theorem dX8_order_237 : decode cX8_order 237 = .ok (.iload 11, 2) := by decide +kernel
theorem dX8_order_239 : decode cX8_order 239 = .ok (.iload 7, 2) := by decide +kernel
theorem dX8_order_241 : decode cX8_order 241 = .ok (.if_icmp .ge 7, 3) := by decide +kernel
theorem dX8_order_244 : decode cX8_order 244 = .ok (.iconst 1, 1) := by decide +kernel
theorem dX8_order_245 : decode cX8_order 245 = .ok (.goto 4, 3) := by decide +kernel
theorem dX8_order_248 : decode cX8_order 248 = .ok (.iconst 0, 1) := by decide +kernel
theorem dX8_order_249 : decode cX8_order 249 = .ok (.istore 12, 2) := by decide +kernel
theorem dX8_order_251 : decode cX8_order 251 = .ok (.iload 12, 2) := by decide +kernel
theorem dX8_order_253 : decode cX8_order 253 = .ok (.ifCond .eq 8, 3) := by decide +kernel
theorem dX8_order_256 : decode cX8_order 256 = .ok (.iload 8, 2) := by decide +kernel
theorem dX8_order_258 : decode cX8_order 258 = .ok (.goto 5, 3) := by decide +kernel
theorem dX8_order_261 : decode cX8_order 261 = .ok (.iload 6, 2) := by decide +kernel
theorem dX8_order_263 : decode cX8_order 263 = .ok (.istore 6, 2) := by decide +kernel
theorem dX8_order_265 : decode cX8_order 265 = .ok (.iload 12, 2) := by decide +kernel
theorem dX8_order_267 : decode cX8_order 267 = .ok (.ifCond .eq 8, 3) := by decide +kernel
theorem dX8_order_270 : decode cX8_order 270 = .ok (.iload 11, 2) := by decide +kernel
theorem dX8_order_272 : decode cX8_order 272 = .ok (.goto 5, 3) := by decide +kernel
theorem dX8_order_275 : decode cX8_order 275 = .ok (.iload 7, 2) := by decide +kernel
theorem dX8_order_277 : decode cX8_order 277 = .ok (.istore 7, 2) := by decide +kernel
theorem dX8_order_279 : decode cX8_order 279 = .ok (.iinc 8 1, 3) := by decide +kernel
theorem dX8_order_282 : decode cX8_order 282 = .ok (.goto (-191), 3) := by decide +kernel
theorem dX8_order_285 : decode cX8_order 285 = .ok (.iload 6, 2) := by decide +kernel
theorem dX8_order_287 : decode cX8_order 287 = .ok (.bipush (-9), 2) := by decide +kernel
theorem dX8_order_289 : decode cX8_order 289 = .ok (.if_icmp .ne 6, 3) := by decide +kernel
theorem dX8_order_292 : decode cX8_order 292 = .ok (.bipush (-9), 2) := by decide +kernel
theorem dX8_order_294 : decode cX8_order 294 = .ok (.ireturn, 1) := by decide +kernel
theorem dX8_order_295 : decode cX8_order 295 = .ok (.aload_n 0, 1) := by decide +kernel
theorem dX8_order_296 : decode cX8_order 296 = .ok (.iload_n 2, 1) := by decide +kernel
theorem dX8_order_297 : decode cX8_order 297 = .ok (.iload 4, 2) := by decide +kernel
theorem dX8_order_299 : decode cX8_order 299 = .ok (.invokevirtual 85, 3) := by decide +kernel
theorem dX8_order_302 : decode cX8_order 302 = .ok (.iload 4, 2) := by decide +kernel
theorem dX8_order_304 : decode cX8_order 304 = .ok (.iconst 1, 1) := by decide +kernel
theorem dX8_order_305 : decode cX8_order 305 = .ok (.isub, 1) := by decide +kernel
theorem dX8_order_306 : decode cX8_order 306 = .ok (.istore 8, 2) := by decide +kernel
theorem dX8_order_308 : decode cX8_order 308 = .ok (.iload 8, 2) := by decide +kernel
theorem dX8_order_310 : decode cX8_order 310 = .ok (.ifCond .lt 33, 3) := by decide +kernel
theorem dX8_order_313 : decode cX8_order 313 = .ok (.aload_n 0, 1) := by decide +kernel
theorem dX8_order_314 : decode cX8_order 314 = .ok (.getfield 13, 3) := by decide +kernel
theorem dX8_order_317 : decode cX8_order 317 = .ok (.bipush 40, 2) := by decide +kernel
theorem dX8_order_319 : decode cX8_order 319 = .ok (.iload_n 2, 1) := by decide +kernel
theorem dX8_order_320 : decode cX8_order 320 = .ok (.imul, 1) := by decide +kernel
theorem dX8_order_321 : decode cX8_order 321 = .ok (.iload 8, 2) := by decide +kernel
theorem dX8_order_323 : decode cX8_order 323 = .ok (.iadd, 1) := by decide +kernel
theorem dX8_order_324 : decode cX8_order 324 = .ok (.iload 6, 2) := by decide +kernel
theorem dX8_order_326 : decode cX8_order 326 = .ok (.iload 4, 2) := by decide +kernel
theorem dX8_order_328 : decode cX8_order 328 = .ok (.irem, 1) := by decide +kernel
theorem dX8_order_329 : decode cX8_order 329 = .ok (.iastore, 1) := by decide +kernel
theorem dX8_order_330 : decode cX8_order 330 = .ok (.iload 6, 2) := by decide +kernel
theorem dX8_order_332 : decode cX8_order 332 = .ok (.iload 4, 2) := by decide +kernel
theorem dX8_order_334 : decode cX8_order 334 = .ok (.idiv, 1) := by decide +kernel
theorem dX8_order_335 : decode cX8_order 335 = .ok (.istore 6, 2) := by decide +kernel
theorem dX8_order_337 : decode cX8_order 337 = .ok (.iinc 8 (-1), 3) := by decide +kernel
theorem dX8_order_340 : decode cX8_order 340 = .ok (.goto (-32), 3) := by decide +kernel
theorem dX8_order_343 : decode cX8_order 343 = .ok (.iload 7, 2) := by decide +kernel
theorem dX8_order_345 : decode cX8_order 345 = .ok (.ireturn, 1) := by decide +kernel
theorem dX8_unfit_0 : decode cX8_unfit 0 = .ok (.aload_n 0, 1) := by decide +kernel
theorem dX8_unfit_1 : decode cX8_unfit 1 = .ok (.getfield 7, 3) := by decide +kernel
theorem dX8_unfit_4 : decode cX8_unfit 4 = .ok (.iload_n 1, 1) := by decide +kernel
theorem dX8_unfit_5 : decode cX8_unfit 5 = .ok (.iaload, 1) := by decide +kernel
theorem dX8_unfit_6 : decode cX8_unfit 6 = .ok (.ifCond .ge 5, 3) := by decide +kernel
theorem dX8_unfit_9 : decode cX8_unfit 9 = .ok (.iconst 1, 1) := by decide +kernel
theorem dX8_unfit_10 : decode cX8_unfit 10 = .ok (.ireturn, 1) := by decide +kernel
theorem dX8_unfit_11 : decode cX8_unfit 11 = .ok (.aload_n 0, 1) := by decide +kernel
theorem dX8_unfit_12 : decode cX8_unfit 12 = .ok (.getfield 7, 3) := by decide +kernel
theorem dX8_unfit_15 : decode cX8_unfit 15 = .ok (.iload_n 1, 1) := by decide +kernel
theorem dX8_unfit_16 : decode cX8_unfit 16 = .ok (.iaload, 1) := by decide +kernel
theorem dX8_unfit_17 : decode cX8_unfit 17 = .ok (.iconst 1, 1) := by decide +kernel
theorem dX8_unfit_18 : decode cX8_unfit 18 = .ok (.bipush 20, 2) := by decide +kernel
theorem dX8_unfit_20 : decode cX8_unfit 20 = .ok (.invokestatic 73, 3) := by decide +kernel
theorem dX8_unfit_23 : decode cX8_unfit 23 = .ok (.ifCond .ne 5, 3) := by decide +kernel
theorem dX8_unfit_26 : decode cX8_unfit 26 = .ok (.iconst 5, 1) := by decide +kernel
theorem dX8_unfit_27 : decode cX8_unfit 27 = .ok (.ireturn, 1) := by decide +kernel
theorem dX8_unfit_28 : decode cX8_unfit 28 = .ok (.iconst 1, 1) := by decide +kernel
theorem dX8_unfit_29 : decode cX8_unfit 29 = .ok (.istore_n 2, 1) := by decide +kernel
theorem dX8_unfit_30 : decode cX8_unfit 30 = .ok (.iconst 0, 1) := by decide +kernel
theorem dX8_unfit_31 : decode cX8_unfit 31 = .ok (.istore_n 3, 1) := by decide +kernel
theorem dX8_unfit_32 : decode cX8_unfit 32 = .ok (.iload_n 3, 1) := by decide +kernel
theorem dX8_unfit_33 : decode cX8_unfit 33 = .ok (.aload_n 0, 1) := by decide +kernel
theorem dX8_unfit_34 : decode cX8_unfit 34 = .ok (.getfield 7, 3) := by decide +kernel
theorem dX8_unfit_37 : decode cX8_unfit 37 = .ok (.iload_n 1, 1) := by decide +kernel
theorem dX8_unfit_38 : decode cX8_unfit 38 = .ok (.iaload, 1) := by decide +kernel
theorem dX8_unfit_39 : decode cX8_unfit 39 = .ok (.if_icmp .ge 39, 3) := by decide +kernel
theorem dX8_unfit_42 : decode cX8_unfit 42 = .ok (.iload_n 2, 1) := by decide +kernel
theorem dX8_unfit_43 : decode cX8_unfit 43 = .ok (.ifCond .eq 27, 3) := by decide +kernel
theorem dX8_unfit_46 : decode cX8_unfit 46 = .ok (.aload_n 0, 1) := by decide +kernel
theorem dX8_unfit_47 : decode cX8_unfit 47 = .ok (.getfield 13, 3) := by decide +kernel
theorem dX8_unfit_50 : decode cX8_unfit 50 = .ok (.bipush 40, 2) := by decide +kernel
theorem dX8_unfit_52 : decode cX8_unfit 52 = .ok (.iload_n 1, 1) := by decide +kernel
theorem dX8_unfit_53 : decode cX8_unfit 53 = .ok (.imul, 1) := by decide +kernel
theorem dX8_unfit_54 : decode cX8_unfit 54 = .ok (.iload_n 3, 1) := by decide +kernel
theorem dX8_unfit_55 : decode cX8_unfit 55 = .ok (.iadd, 1) := by decide +kernel
theorem dX8_unfit_56 : decode cX8_unfit 56 = .ok (.iaload, 1) := by decide +kernel
theorem dX8_unfit_57 : decode cX8_unfit 57 = .ok (.iconst 0, 1) := by decide +kernel
theorem dX8_unfit_58 : decode cX8_unfit 58 = .ok (.bipush 9, 2) := by decide +kernel
theorem dX8_unfit_60 : decode cX8_unfit 60 = .ok (.invokestatic 73, 3) := by decide +kernel
theorem dX8_unfit_63 : decode cX8_unfit 63 = .ok (.ifCond .eq 7, 3) := by decide +kernel
theorem dX8_unfit_66 : decode cX8_unfit 66 = .ok (.iconst 1, 1) := by decide +kernel
theorem dX8_unfit_67 : decode cX8_unfit 67 = .ok (.goto 4, 3) := by decide +kernel
theorem dX8_unfit_70 : decode cX8_unfit 70 = .ok (.iconst 0, 1) := by decide +kernel
theorem dX8_unfit_71 : decode cX8_unfit 71 = .ok (.istore_n 2, 1) := by decide +kernel
theorem dX8_unfit_72 : decode cX8_unfit 72 = .ok (.iinc 3 1, 3) := by decide +kernel
theorem dX8_unfit_75 : decode cX8_unfit 75 = .ok (.goto (-43), 3) := by decide +kernel
theorem dX8_unfit_78 : decode cX8_unfit 78 = .ok (.iload_n 2, 1) := by decide +kernel
theorem dX8_unfit_79 : decode cX8_unfit 79 = .ok (.ifCond .eq 7, 3) := by decide +kernel
theorem dX8_unfit_82 : decode cX8_unfit 82 = .ok (.iconst 0, 1) := by decide +kernel
theorem dX8_unfit_83 : decode cX8_unfit 83 = .ok (.goto 4, 3) := by decide +kernel
theorem dX8_unfit_86 : decode cX8_unfit 86 = .ok (.iconst 3, 1) := by decide +kernel
theorem dX8_unfit_87 : decode cX8_unfit 87 = .ok (.ireturn, 1) := by decide +kernel
theorem dX8_fitting_0 : decode cX8_fitting 0 = .ok (.iconst 0, 1) := by decide +kernel
theorem dX8_fitting_1 : decode cX8_fitting 1 = .ok (.istore 5, 2) := by decide +kernel
theorem dX8_fitting_3 : decode cX8_fitting 3 = .ok (.iconst 0, 1) := by decide +kernel
theorem dX8_fitting_4 : decode cX8_fitting 4 = .ok (.istore 6, 2) := by decide +kernel
theorem dX8_fitting_6 : decode cX8_fitting 6 = .ok (.iload 6, 2) := by decide +kernel
theorem dX8_fitting_8 : decode cX8_fitting 8 = .ok (.iload_n 2, 1) := by decide +kernel
theorem dX8_fitting_9 : decode cX8_fitting 9 = .ok (.if_icmp .gt 116, 3) := by decide +kernel
theorem dX8_fitting_12 : decode cX8_fitting 12 = .ok (.aload_n 0, 1) := by decide +kernel
theorem dX8_fitting_13 : decode cX8_fitting 13 = .ok (.getfield 26, 3) := by decide +kernel
theorem dX8_fitting_16 : decode cX8_fitting 16 = .ok (.aload_n 0, 1) := by decide +kernel
theorem dX8_fitting_17 : decode cX8_fitting 17 = .ok (.getfield 32, 3) := by decide +kernel
theorem dX8_fitting_20 : decode cX8_fitting 20 = .ok (.invokestatic 163, 3) := by decide +kernel
theorem dX8_fitting_23 : decode cX8_fitting 23 = .ok (.aload_n 0, 1) := by decide +kernel
theorem dX8_fitting_24 : decode cX8_fitting 24 = .ok (.getfield 32, 3) := by decide +kernel
theorem dX8_fitting_27 : decode cX8_fitting 27 = .ok (.iload_n 1, 1) := by decide +kernel
theorem dX8_fitting_28 : decode cX8_fitting 28 = .ok (.iload_n 3, 1) := by decide +kernel
theorem dX8_fitting_29 : decode cX8_fitting 29 = .ok (.iadd, 1) := by decide +kernel
theorem dX8_fitting_30 : decode cX8_fitting 30 = .ok (.iload 6, 2) := by decide +kernel
theorem dX8_fitting_32 : decode cX8_fitting 32 = .ok (.iastore, 1) := by decide +kernel
theorem dX8_fitting_33 : decode cX8_fitting 33 = .ok (.iconst 1, 1) := by decide +kernel
theorem dX8_fitting_34 : decode cX8_fitting 34 = .ok (.istore 7, 2) := by decide +kernel
theorem dX8_fitting_36 : decode cX8_fitting 36 = .ok (.iconst 0, 1) := by decide +kernel
theorem dX8_fitting_37 : decode cX8_fitting 37 = .ok (.istore 8, 2) := by decide +kernel
theorem dX8_fitting_39 : decode cX8_fitting 39 = .ok (.iload 8, 2) := by decide +kernel
theorem dX8_fitting_41 : decode cX8_fitting 41 = .ok (.aload_n 0, 1) := by decide +kernel
end
section
theorem dX8_fitting_42 : decode cX8_fitting 42 = .ok (.getfield 7, 3) := by decide +kernel
theorem dX8_fitting_45 : decode cX8_fitting 45 = .ok (.iload 4, 2) := by decide +kernel
theorem dX8_fitting_47 : decode cX8_fitting 47 = .ok (.iaload, 1) := by decide +kernel
theorem dX8_fitting_48 : decode cX8_fitting 48 = .ok (.if_icmp .ge 53, 3) := by decide +kernel
theorem dX8_fitting_51 : decode cX8_fitting 51 = .ok (.aload_n 0, 1) := by decide +kernel
theorem dX8_fitting_52 : decode cX8_fitting 52 = .ok (.getfield 32, 3) := by decide +kernel
theorem dX8_fitting_55 : decode cX8_fitting 55 = .ok (.invokestatic 153, 3) := by decide +kernel
theorem dX8_fitting_58 : decode cX8_fitting 58 = .ok (.pop, 1) := by decide +kernel
theorem dX8_fitting_59 : decode cX8_fitting 59 = .ok (.iload 7, 2) := by decide +kernel
theorem dX8_fitting_61 : decode cX8_fitting 61 = .ok (.ifCond .eq 31, 3) := by decide +kernel
theorem dX8_fitting_64 : decode cX8_fitting 64 = .ok (.aload_n 0, 1) := by decide +kernel
theorem dX8_fitting_65 : decode cX8_fitting 65 = .ok (.getfield 32, 3) := by decide +kernel
theorem dX8_fitting_68 : decode cX8_fitting 68 = .ok (.iconst 4, 1) := by decide +kernel
theorem dX8_fitting_69 : decode cX8_fitting 69 = .ok (.iload_n 3, 1) := by decide +kernel
theorem dX8_fitting_70 : decode cX8_fitting 70 = .ok (.iadd, 1) := by decide +kernel
theorem dX8_fitting_71 : decode cX8_fitting 71 = .ok (.iaload, 1) := by decide +kernel
theorem dX8_fitting_72 : decode cX8_fitting 72 = .ok (.aload_n 0, 1) := by decide +kernel
theorem dX8_fitting_73 : decode cX8_fitting 73 = .ok (.getfield 13, 3) := by decide +kernel
theorem dX8_fitting_76 : decode cX8_fitting 76 = .ok (.bipush 40, 2) := by decide +kernel
theorem dX8_fitting_78 : decode cX8_fitting 78 = .ok (.iload 4, 2) := by decide +kernel
theorem dX8_fitting_80 : decode cX8_fitting 80 = .ok (.imul, 1) := by decide +kernel
theorem dX8_fitting_81 : decode cX8_fitting 81 = .ok (.iload 8, 2) := by decide +kernel
theorem dX8_fitting_83 : decode cX8_fitting 83 = .ok (.iadd, 1) := by decide +kernel
theorem dX8_fitting_84 : decode cX8_fitting 84 = .ok (.iaload, 1) := by decide +kernel
theorem dX8_fitting_85 : decode cX8_fitting 85 = .ok (.if_icmp .ne 7, 3) := by decide +kernel
theorem dX8_fitting_88 : decode cX8_fitting 88 = .ok (.iconst 1, 1) := by decide +kernel
theorem dX8_fitting_89 : decode cX8_fitting 89 = .ok (.goto 4, 3) := by decide +kernel
theorem dX8_fitting_92 : decode cX8_fitting 92 = .ok (.iconst 0, 1) := by decide +kernel
theorem dX8_fitting_93 : decode cX8_fitting 93 = .ok (.istore 7, 2) := by decide +kernel
theorem dX8_fitting_95 : decode cX8_fitting 95 = .ok (.iinc 8 1, 3) := by decide +kernel
theorem dX8_fitting_98 : decode cX8_fitting 98 = .ok (.goto (-59), 3) := by decide +kernel
theorem dX8_fitting_101 : decode cX8_fitting 101 = .ok (.iload 5, 2) := by decide +kernel
theorem dX8_fitting_103 : decode cX8_fitting 103 = .ok (.iload 7, 2) := by decide +kernel
theorem dX8_fitting_105 : decode cX8_fitting 105 = .ok (.ifCond .eq 10, 3) := by decide +kernel
theorem dX8_fitting_108 : decode cX8_fitting 108 = .ok (.iconst 1, 1) := by decide +kernel
theorem dX8_fitting_109 : decode cX8_fitting 109 = .ok (.iload 6, 2) := by decide +kernel
theorem dX8_fitting_111 : decode cX8_fitting 111 = .ok (.ishl, 1) := by decide +kernel
theorem dX8_fitting_112 : decode cX8_fitting 112 = .ok (.goto 4, 3) := by decide +kernel
theorem dX8_fitting_115 : decode cX8_fitting 115 = .ok (.iconst 0, 1) := by decide +kernel
theorem dX8_fitting_116 : decode cX8_fitting 116 = .ok (.ior, 1) := by decide +kernel
theorem dX8_fitting_117 : decode cX8_fitting 117 = .ok (.istore 5, 2) := by decide +kernel
theorem dX8_fitting_119 : decode cX8_fitting 119 = .ok (.iinc 6 1, 3) := by decide +kernel
theorem dX8_fitting_122 : decode cX8_fitting 122 = .ok (.goto (-116), 3) := by decide +kernel
theorem dX8_fitting_125 : decode cX8_fitting 125 = .ok (.iload 5, 2) := by decide +kernel
theorem dX8_fitting_127 : decode cX8_fitting 127 = .ok (.ireturn, 1) := by decide +kernel
theorem dX8_kinds_0 : decode cX8_kinds 0 = .ok (.aload_n 0, 1) := by decide +kernel
theorem dX8_kinds_1 : decode cX8_kinds 1 = .ok (.iload_n 1, 1) := by decide +kernel
theorem dX8_kinds_2 : decode cX8_kinds 2 = .ok (.invokevirtual 126, 3) := by decide +kernel
theorem dX8_kinds_5 : decode cX8_kinds 5 = .ok (.ifCond .eq 10, 3) := by decide +kernel
theorem dX8_kinds_8 : decode cX8_kinds 8 = .ok (.iload_n 2, 1) := by decide +kernel
theorem dX8_kinds_9 : decode cX8_kinds 9 = .ok (.invokestatic 77, 3) := by decide +kernel
theorem dX8_kinds_12 : decode cX8_kinds 12 = .ok (.ifCond .ne 5, 3) := by decide +kernel
theorem dX8_kinds_15 : decode cX8_kinds 15 = .ok (.iconst (-1), 1) := by decide +kernel
theorem dX8_kinds_16 : decode cX8_kinds 16 = .ok (.ireturn, 1) := by decide +kernel
theorem dX8_kinds_17 : decode cX8_kinds 17 = .ok (.aload_n 0, 1) := by decide +kernel
theorem dX8_kinds_18 : decode cX8_kinds 18 = .ok (.iload_n 2, 1) := by decide +kernel
theorem dX8_kinds_19 : decode cX8_kinds 19 = .ok (.invokevirtual 184, 3) := by decide +kernel
theorem dX8_kinds_22 : decode cX8_kinds 22 = .ok (.istore_n 3, 1) := by decide +kernel
theorem dX8_kinds_23 : decode cX8_kinds 23 = .ok (.iload_n 3, 1) := by decide +kernel
theorem dX8_kinds_24 : decode cX8_kinds 24 = .ok (.ifCond .eq 11, 3) := by decide +kernel
theorem dX8_kinds_27 : decode cX8_kinds 27 = .ok (.aload_n 0, 1) := by decide +kernel
theorem dX8_kinds_28 : decode cX8_kinds 28 = .ok (.iload_n 3, 1) := by decide +kernel
theorem dX8_kinds_29 : decode cX8_kinds 29 = .ok (.invokevirtual 81, 3) := by decide +kernel
theorem dX8_kinds_32 : decode cX8_kinds 32 = .ok (.goto 12, 3) := by decide +kernel
theorem dX8_kinds_35 : decode cX8_kinds 35 = .ok (.aload_n 0, 1) := by decide +kernel
theorem dX8_kinds_36 : decode cX8_kinds 36 = .ok (.bipush 19, 2) := by decide +kernel
theorem dX8_kinds_38 : decode cX8_kinds 38 = .ok (.iconst 5, 1) := by decide +kernel
theorem dX8_kinds_39 : decode cX8_kinds 39 = .ok (.iload_n 1, 1) := by decide +kernel
theorem dX8_kinds_40 : decode cX8_kinds 40 = .ok (.iload_n 2, 1) := by decide +kernel
theorem dX8_kinds_41 : decode cX8_kinds 41 = .ok (.invokevirtual 187, 3) := by decide +kernel
theorem dX8_kinds_44 : decode cX8_kinds 44 = .ok (.ireturn, 1) := by decide +kernel
theorem dX8_marks_0 : decode cX8_marks 0 = .ok (.aload_n 0, 1) := by decide +kernel
theorem dX8_marks_1 : decode cX8_marks 1 = .ok (.iload_n 1, 1) := by decide +kernel
theorem dX8_marks_2 : decode cX8_marks 2 = .ok (.invokevirtual 126, 3) := by decide +kernel
theorem dX8_marks_5 : decode cX8_marks 5 = .ok (.ifCond .eq 10, 3) := by decide +kernel
theorem dX8_marks_8 : decode cX8_marks 8 = .ok (.iload_n 2, 1) := by decide +kernel
theorem dX8_marks_9 : decode cX8_marks 9 = .ok (.invokestatic 77, 3) := by decide +kernel
theorem dX8_marks_12 : decode cX8_marks 12 = .ok (.ifCond .ne 5, 3) := by decide +kernel
theorem dX8_marks_15 : decode cX8_marks 15 = .ok (.iconst (-1), 1) := by decide +kernel
theorem dX8_marks_16 : decode cX8_marks 16 = .ok (.ireturn, 1) := by decide +kernel
theorem dX8_marks_17 : decode cX8_marks 17 = .ok (.aload_n 0, 1) := by decide +kernel
theorem dX8_marks_18 : decode cX8_marks 18 = .ok (.iload_n 2, 1) := by decide +kernel
theorem dX8_marks_19 : decode cX8_marks 19 = .ok (.invokevirtual 184, 3) := by decide +kernel
theorem dX8_marks_22 : decode cX8_marks 22 = .ok (.istore_n 3, 1) := by decide +kernel
theorem dX8_marks_23 : decode cX8_marks 23 = .ok (.iload_n 3, 1) := by decide +kernel
theorem dX8_marks_24 : decode cX8_marks 24 = .ok (.ifCond .eq 11, 3) := by decide +kernel
theorem dX8_marks_27 : decode cX8_marks 27 = .ok (.aload_n 0, 1) := by decide +kernel
theorem dX8_marks_28 : decode cX8_marks 28 = .ok (.iload_n 3, 1) := by decide +kernel
theorem dX8_marks_29 : decode cX8_marks 29 = .ok (.invokevirtual 81, 3) := by decide +kernel
theorem dX8_marks_32 : decode cX8_marks 32 = .ok (.goto 13, 3) := by decide +kernel
theorem dX8_marks_35 : decode cX8_marks 35 = .ok (.aload_n 0, 1) := by decide +kernel
theorem dX8_marks_36 : decode cX8_marks 36 = .ok (.bipush 26, 2) := by decide +kernel
theorem dX8_marks_38 : decode cX8_marks 38 = .ok (.bipush 9, 2) := by decide +kernel
theorem dX8_marks_40 : decode cX8_marks 40 = .ok (.iload_n 1, 1) := by decide +kernel
theorem dX8_marks_41 : decode cX8_marks 41 = .ok (.iload_n 2, 1) := by decide +kernel
theorem dX8_marks_42 : decode cX8_marks 42 = .ok (.invokevirtual 187, 3) := by decide +kernel
theorem dX8_marks_45 : decode cX8_marks 45 = .ok (.ireturn, 1) := by decide +kernel
theorem dX8_test_0 : decode cX8_test 0 = .ok (.aload_n 0, 1) := by decide +kernel
theorem dX8_test_1 : decode cX8_test 1 = .ok (.iload_n 1, 1) := by decide +kernel
theorem dX8_test_2 : decode cX8_test 2 = .ok (.invokevirtual 126, 3) := by decide +kernel
theorem dX8_test_5 : decode cX8_test 5 = .ok (.ifCond .eq 10, 3) := by decide +kernel
theorem dX8_test_8 : decode cX8_test 8 = .ok (.iload_n 2, 1) := by decide +kernel
theorem dX8_test_9 : decode cX8_test 9 = .ok (.invokestatic 77, 3) := by decide +kernel
theorem dX8_test_12 : decode cX8_test 12 = .ok (.ifCond .ne 5, 3) := by decide +kernel
theorem dX8_test_15 : decode cX8_test 15 = .ok (.iconst (-1), 1) := by decide +kernel
theorem dX8_test_16 : decode cX8_test 16 = .ok (.ireturn, 1) := by decide +kernel
theorem dX8_test_17 : decode cX8_test 17 = .ok (.aload_n 0, 1) := by decide +kernel
theorem dX8_test_18 : decode cX8_test 18 = .ok (.iload_n 2, 1) := by decide +kernel
theorem dX8_test_19 : decode cX8_test 19 = .ok (.invokevirtual 184, 3) := by decide +kernel
theorem dX8_test_22 : decode cX8_test 22 = .ok (.istore_n 3, 1) := by decide +kernel
theorem dX8_test_23 : decode cX8_test 23 = .ok (.iload_n 3, 1) := by decide +kernel
theorem dX8_test_24 : decode cX8_test 24 = .ok (.ifCond .eq 9, 3) := by decide +kernel
theorem dX8_test_27 : decode cX8_test 27 = .ok (.aload_n 0, 1) := by decide +kernel
theorem dX8_test_28 : decode cX8_test 28 = .ok (.iload_n 3, 1) := by decide +kernel
theorem dX8_test_29 : decode cX8_test 29 = .ok (.invokevirtual 81, 3) := by decide +kernel
theorem dX8_test_32 : decode cX8_test 32 = .ok (.ireturn, 1) := by decide +kernel
theorem dX8_test_33 : decode cX8_test 33 = .ok (.aload_n 0, 1) := by decide +kernel
theorem dX8_test_34 : decode cX8_test 34 = .ok (.bipush 19, 2) := by decide +kernel
theorem dX8_test_36 : decode cX8_test 36 = .ok (.iconst 5, 1) := by decide +kernel
theorem dX8_test_37 : decode cX8_test 37 = .ok (.iload_n 1, 1) := by decide +kernel
theorem dX8_test_38 : decode cX8_test 38 = .ok (.iload_n 2, 1) := by decide +kernel
theorem dX8_test_39 : decode cX8_test 39 = .ok (.invokevirtual 187, 3) := by decide +kernel
theorem dX8_test_42 : decode cX8_test 42 = .ok (.istore 4, 2) := by decide +kernel
theorem dX8_test_44 : decode cX8_test 44 = .ok (.iconst 0, 1) := by decide +kernel
theorem dX8_test_45 : decode cX8_test 45 = .ok (.istore 5, 2) := by decide +kernel
theorem dX8_test_47 : decode cX8_test 47 = .ok (.iload 5, 2) := by decide +kernel
theorem dX8_test_49 : decode cX8_test 49 = .ok (.iconst 5, 1) := by decide +kernel
theorem dX8_test_50 : decode cX8_test 50 = .ok (.if_icmp .gt 76, 3) := by decide +kernel
theorem dX8_test_53 : decode cX8_test 53 = .ok (.aload_n 0, 1) := by decide +kernel
theorem dX8_test_54 : decode cX8_test 54 = .ok (.getfield 26, 3) := by decide +kernel
theorem dX8_test_57 : decode cX8_test 57 = .ok (.aload_n 0, 1) := by decide +kernel
theorem dX8_test_58 : decode cX8_test 58 = .ok (.getfield 32, 3) := by decide +kernel
theorem dX8_test_61 : decode cX8_test 61 = .ok (.invokestatic 163, 3) := by decide +kernel
theorem dX8_test_64 : decode cX8_test 64 = .ok (.aload_n 0, 1) := by decide +kernel
theorem dX8_test_65 : decode cX8_test 65 = .ok (.getfield 32, 3) := by decide +kernel
theorem dX8_test_68 : decode cX8_test 68 = .ok (.bipush 19, 2) := by decide +kernel
theorem dX8_test_70 : decode cX8_test 70 = .ok (.iload_n 1, 1) := by decide +kernel
theorem dX8_test_71 : decode cX8_test 71 = .ok (.iadd, 1) := by decide +kernel
theorem dX8_test_72 : decode cX8_test 72 = .ok (.iload 5, 2) := by decide +kernel
theorem dX8_test_74 : decode cX8_test 74 = .ok (.iastore, 1) := by decide +kernel
theorem dX8_test_75 : decode cX8_test 75 = .ok (.iconst 1, 1) := by decide +kernel
theorem dX8_test_76 : decode cX8_test 76 = .ok (.istore 6, 2) := by decide +kernel
theorem dX8_test_78 : decode cX8_test 78 = .ok (.iload 6, 2) := by decide +kernel
theorem dX8_test_80 : decode cX8_test 80 = .ok (.bipush 21, 2) := by decide +kernel
theorem dX8_test_82 : decode cX8_test 82 = .ok (.if_icmp .ge 38, 3) := by decide +kernel
theorem dX8_test_85 : decode cX8_test 85 = .ok (.aload_n 0, 1) := by decide +kernel
theorem dX8_test_86 : decode cX8_test 86 = .ok (.getfield 32, 3) := by decide +kernel
theorem dX8_test_89 : decode cX8_test 89 = .ok (.invokestatic 153, 3) := by decide +kernel
theorem dX8_test_92 : decode cX8_test 92 = .ok (.pop, 1) := by decide +kernel
theorem dX8_test_93 : decode cX8_test 93 = .ok (.aload_n 0, 1) := by decide +kernel
theorem dX8_test_94 : decode cX8_test 94 = .ok (.getfield 63, 3) := by decide +kernel
theorem dX8_test_97 : decode cX8_test 97 = .ok (.bipush 21, 2) := by decide +kernel
theorem dX8_test_99 : decode cX8_test 99 = .ok (.iload 5, 2) := by decide +kernel
theorem dX8_test_101 : decode cX8_test 101 = .ok (.imul, 1) := by decide +kernel
theorem dX8_test_102 : decode cX8_test 102 = .ok (.iload 6, 2) := by decide +kernel
theorem dX8_test_104 : decode cX8_test 104 = .ok (.iadd, 1) := by decide +kernel
theorem dX8_test_105 : decode cX8_test 105 = .ok (.aload_n 0, 1) := by decide +kernel
theorem dX8_test_106 : decode cX8_test 106 = .ok (.getfield 32, 3) := by decide +kernel
theorem dX8_test_109 : decode cX8_test 109 = .ok (.iconst 4, 1) := by decide +kernel
theorem dX8_test_110 : decode cX8_test 110 = .ok (.iload_n 1, 1) := by decide +kernel
theorem dX8_test_111 : decode cX8_test 111 = .ok (.iadd, 1) := by decide +kernel
theorem dX8_test_112 : decode cX8_test 112 = .ok (.iaload, 1) := by decide +kernel
theorem dX8_test_113 : decode cX8_test 113 = .ok (.iastore, 1) := by decide +kernel
theorem dX8_test_114 : decode cX8_test 114 = .ok (.iinc 6 1, 3) := by decide +kernel
theorem dX8_test_117 : decode cX8_test 117 = .ok (.goto (-39), 3) := by decide +kernel
theorem dX8_test_120 : decode cX8_test 120 = .ok (.iinc 5 1, 3) := by decide +kernel
theorem dX8_test_123 : decode cX8_test 123 = .ok (.goto (-76), 3) := by decide +kernel
theorem dX8_test_126 : decode cX8_test 126 = .ok (.bipush (-9), 2) := by decide +kernel
theorem dX8_test_128 : decode cX8_test 128 = .ok (.istore 5, 2) := by decide +kernel
theorem dX8_test_130 : decode cX8_test 130 = .ok (.bipush 99, 2) := by decide +kernel
theorem dX8_test_132 : decode cX8_test 132 = .ok (.istore 6, 2) := by decide +kernel
theorem dX8_test_134 : decode cX8_test 134 = .ok (.iconst 1, 1) := by decide +kernel
theorem dX8_test_135 : decode cX8_test 135 = .ok (.istore 7, 2) := by decide +kernel
theorem dX8_test_137 : decode cX8_test 137 = .ok (.iload 7, 2) := by decide +kernel
theorem dX8_test_139 : decode cX8_test 139 = .ok (.bipush 21, 2) := by decide +kernel
theorem dX8_test_141 : decode cX8_test 141 = .ok (.if_icmp .ge 154, 3) := by decide +kernel
theorem dX8_test_144 : decode cX8_test 144 = .ok (.iload 4, 2) := by decide +kernel
theorem dX8_test_146 : decode cX8_test 146 = .ok (.ifCond .eq 149, 3) := by decide +kernel
theorem dX8_test_149 : decode cX8_test 149 = .ok (.iconst 0, 1) := by decide +kernel
theorem dX8_test_150 : decode cX8_test 150 = .ok (.istore 8, 2) := by decide +kernel
theorem dX8_test_152 : decode cX8_test 152 = .ok (.iload 8, 2) := by decide +kernel
theorem dX8_test_154 : decode cX8_test 154 = .ok (.bipush 10, 2) := by decide +kernel
theorem dX8_test_156 : decode cX8_test 156 = .ok (.if_icmp .ge 17, 3) := by decide +kernel
theorem dX8_test_159 : decode cX8_test 159 = .ok (.aload_n 0, 1) := by decide +kernel
theorem dX8_test_160 : decode cX8_test 160 = .ok (.getfield 60, 3) := by decide +kernel
theorem dX8_test_163 : decode cX8_test 163 = .ok (.iload 8, 2) := by decide +kernel
theorem dX8_test_165 : decode cX8_test 165 = .ok (.iconst 0, 1) := by decide +kernel
theorem dX8_test_166 : decode cX8_test 166 = .ok (.iastore, 1) := by decide +kernel
theorem dX8_test_167 : decode cX8_test 167 = .ok (.iinc 8 1, 3) := by decide +kernel
theorem dX8_test_170 : decode cX8_test 170 = .ok (.goto (-18), 3) := by decide +kernel
theorem dX8_test_173 : decode cX8_test 173 = .ok (.iconst 0, 1) := by decide +kernel
theorem dX8_test_174 : decode cX8_test 174 = .ok (.istore 8, 2) := by decide +kernel
theorem dX8_test_176 : decode cX8_test 176 = .ok (.iconst 0, 1) := by decide +kernel
theorem dX8_test_177 : decode cX8_test 177 = .ok (.istore 9, 2) := by decide +kernel
theorem dX8_test_179 : decode cX8_test 179 = .ok (.iload 9, 2) := by decide +kernel
theorem dX8_test_181 : decode cX8_test 181 = .ok (.iconst 5, 1) := by decide +kernel
theorem dX8_test_182 : decode cX8_test 182 = .ok (.if_icmp .gt 75, 3) := by decide +kernel
theorem dX8_test_185 : decode cX8_test 185 = .ok (.aload_n 0, 1) := by decide +kernel
theorem dX8_test_186 : decode cX8_test 186 = .ok (.getfield 63, 3) := by decide +kernel
theorem dX8_test_189 : decode cX8_test 189 = .ok (.bipush 21, 2) := by decide +kernel
theorem dX8_test_191 : decode cX8_test 191 = .ok (.iload 9, 2) := by decide +kernel
theorem dX8_test_193 : decode cX8_test 193 = .ok (.imul, 1) := by decide +kernel
theorem dX8_test_194 : decode cX8_test 194 = .ok (.iload 7, 2) := by decide +kernel
theorem dX8_test_196 : decode cX8_test 196 = .ok (.iadd, 1) := by decide +kernel
theorem dX8_test_197 : decode cX8_test 197 = .ok (.iaload, 1) := by decide +kernel
theorem dX8_test_198 : decode cX8_test 198 = .ok (.istore 10, 2) := by decide +kernel
theorem dX8_test_200 : decode cX8_test 200 = .ok (.aload_n 0, 1) := by decide +kernel
theorem dX8_test_201 : decode cX8_test 201 = .ok (.getfield 60, 3) := by decide +kernel
theorem dX8_test_204 : decode cX8_test 204 = .ok (.iload 10, 2) := by decide +kernel
theorem dX8_test_206 : decode cX8_test 206 = .ok (.dup2, 1) := by decide +kernel
theorem dX8_test_207 : decode cX8_test 207 = .ok (.iaload, 1) := by decide +kernel
theorem dX8_test_208 : decode cX8_test 208 = .ok (.iload 4, 2) := by decide +kernel
theorem dX8_test_210 : decode cX8_test 210 = .ok (.iload 9, 2) := by decide +kernel
theorem dX8_test_212 : decode cX8_test 212 = .ok (.invokestatic 137, 3) := by decide +kernel
theorem dX8_test_215 : decode cX8_test 215 = .ok (.ifCond .eq 7, 3) := by decide +kernel
theorem dX8_test_218 : decode cX8_test 218 = .ok (.iconst 1, 1) := by decide +kernel
theorem dX8_test_219 : decode cX8_test 219 = .ok (.goto 4, 3) := by decide +kernel
theorem dX8_test_222 : decode cX8_test 222 = .ok (.iconst 0, 1) := by decide +kernel
theorem dX8_test_223 : decode cX8_test 223 = .ok (.iadd, 1) := by decide +kernel
theorem dX8_test_224 : decode cX8_test 224 = .ok (.iastore, 1) := by decide +kernel
theorem dX8_test_225 : decode cX8_test 225 = .ok (.aload_n 0, 1) := by decide +kernel
theorem dX8_test_226 : decode cX8_test 226 = .ok (.getfield 60, 3) := by decide +kernel
theorem dX8_test_229 : decode cX8_test 229 = .ok (.iload 10, 2) := by decide +kernel
theorem dX8_test_231 : decode cX8_test 231 = .ok (.iaload, 1) := by decide +kernel
theorem dX8_test_232 : decode cX8_test 232 = .ok (.iload 8, 2) := by decide +kernel
theorem dX8_test_234 : decode cX8_test 234 = .ok (.if_icmp .le 13, 3) := by decide +kernel
theorem dX8_test_237 : decode cX8_test 237 = .ok (.aload_n 0, 1) := by decide +kernel
theorem dX8_test_238 : decode cX8_test 238 = .ok (.getfield 60, 3) := by decide +kernel
theorem dX8_test_241 : decode cX8_test 241 = .ok (.iload 10, 2) := by decide +kernel
theorem dX8_test_243 : decode cX8_test 243 = .ok (.iaload, 1) := by decide +kernel
theorem dX8_test_244 : decode cX8_test 244 = .ok (.goto 5, 3) := by decide +kernel
theorem dX8_test_247 : decode cX8_test 247 = .ok (.iload 8, 2) := by decide +kernel
theorem dX8_test_249 : decode cX8_test 249 = .ok (.istore 8, 2) := by decide +kernel
theorem dX8_test_251 : decode cX8_test 251 = .ok (.iinc 9 1, 3) := by decide +kernel
theorem dX8_test_254 : decode cX8_test 254 = .ok (.goto (-75), 3) := by decide +kernel
theorem dX8_test_257 : decode cX8_test 257 = .ok (.iload 8, 2) := by decide +kernel
theorem dX8_test_259 : decode cX8_test 259 = .ok (.iload 6, 2) := by decide +kernel
theorem dX8_test_261 : decode cX8_test 261 = .ok (.if_icmp .ge 8, 3) := by decide +kernel
theorem dX8_test_264 : decode cX8_test 264 = .ok (.iload 7, 2) := by decide +kernel
theorem dX8_test_266 : decode cX8_test 266 = .ok (.goto 5, 3) := by decide +kernel
theorem dX8_test_269 : decode cX8_test 269 = .ok (.iload 5, 2) := by decide +kernel
theorem dX8_test_271 : decode cX8_test 271 = .ok (.istore 5, 2) := by decide +kernel
theorem dX8_test_273 : decode cX8_test 273 = .ok (.iload 8, 2) := by decide +kernel
theorem dX8_test_275 : decode cX8_test 275 = .ok (.iload 6, 2) := by decide +kernel
theorem dX8_test_277 : decode cX8_test 277 = .ok (.if_icmp .ge 8, 3) := by decide +kernel
theorem dX8_test_280 : decode cX8_test 280 = .ok (.iload 8, 2) := by decide +kernel
theorem dX8_test_282 : decode cX8_test 282 = .ok (.goto 5, 3) := by decide +kernel
theorem dX8_test_285 : decode cX8_test 285 = .ok (.iload 6, 2) := by decide +kernel
theorem dX8_test_287 : decode cX8_test 287 = .ok (.istore 6, 2) := by decide +kernel
theorem dX8_test_289 : decode cX8_test 289 = .ok (.iinc 7 1, 3) := by decide +kernel
theorem dX8_test_292 : decode cX8_test 292 = .ok (.goto (-155), 3) := by decide +kernel
theorem dX8_test_295 : decode cX8_test 295 = .ok (.aload_n 0, 1) := by decide +kernel
theorem dX8_test_296 : decode cX8_test 296 = .ok (.iload 5, 2) := by decide +kernel
theorem dX8_test_298 : decode cX8_test 298 = .ok (.bipush (-9), 2) := by decide +kernel
theorem dX8_test_300 : decode cX8_test 300 = .ok (.if_icmp .ne 10, 3) := by decide +kernel
theorem dX8_test_303 : decode cX8_test 303 = .ok (.aload_n 0, 1) := by decide +kernel
theorem dX8_test_304 : decode cX8_test 304 = .ok (.getfield 70, 3) := by decide +kernel
theorem dX8_test_307 : decode cX8_test 307 = .ok (.goto 5, 3) := by decide +kernel
theorem dX8_test_310 : decode cX8_test 310 = .ok (.iload 6, 2) := by decide +kernel
theorem dX8_test_312 : decode cX8_test 312 = .ok (.putfield 70, 3) := by decide +kernel
theorem dX8_test_315 : decode cX8_test 315 = .ok (.iload 5, 2) := by decide +kernel
theorem dX8_test_317 : decode cX8_test 317 = .ok (.ireturn, 1) := by decide +kernel
theorem dX8_late_0 : decode cX8_late 0 = .ok (.aload_n 1, 1) := by decide +kernel
theorem dX8_late_1 : decode cX8_late 1 = .ok (.aload_n 0, 1) := by decide +kernel
theorem dX8_late_2 : decode cX8_late 2 = .ok (.getfield 32, 3) := by decide +kernel
theorem dX8_late_5 : decode cX8_late 5 = .ok (.invokestatic 163, 3) := by decide +kernel
theorem dX8_late_8 : decode cX8_late 8 = .ok (.aload_n 0, 1) := by decide +kernel
theorem dX8_late_9 : decode cX8_late 9 = .ok (.getfield 32, 3) := by decide +kernel
theorem dX8_late_12 : decode cX8_late 12 = .ok (.invokestatic 174, 3) := by decide +kernel
theorem dX8_late_15 : decode cX8_late 15 = .ok (.istore_n 2, 1) := by decide +kernel
theorem dX8_late_16 : decode cX8_late 16 = .ok (.iload_n 2, 1) := by decide +kernel
theorem dX8_late_17 : decode cX8_late 17 = .ok (.bipush (-9), 2) := by decide +kernel
theorem dX8_late_19 : decode cX8_late 19 = .ok (.if_icmp .ne 8, 3) := by decide +kernel
theorem dX8_late_22 : decode cX8_late 22 = .ok (.bipush 61, 2) := by decide +kernel
theorem dX8_late_24 : decode cX8_late 24 = .ok (.goto 4, 3) := by decide +kernel
theorem dX8_late_27 : decode cX8_late 27 = .ok (.iload_n 2, 1) := by decide +kernel
theorem dX8_late_28 : decode cX8_late 28 = .ok (.ireturn, 1) := by decide +kernel
theorem dX8_duel_0 : decode cX8_duel 0 = .ok (.iload_n 1, 1) := by decide +kernel
theorem dX8_duel_1 : decode cX8_duel 1 = .ok (.iconst 0, 1) := by decide +kernel
theorem dX8_duel_2 : decode cX8_duel 2 = .ok (.iconst 2, 1) := by decide +kernel
theorem dX8_duel_3 : decode cX8_duel 3 = .ok (.invokestatic 73, 3) := by decide +kernel
theorem dX8_duel_6 : decode cX8_duel 6 = .ok (.ifCond .ne 5, 3) := by decide +kernel
theorem dX8_duel_9 : decode cX8_duel 9 = .ok (.iconst (-1), 1) := by decide +kernel
theorem dX8_duel_10 : decode cX8_duel 10 = .ok (.ireturn, 1) := by decide +kernel
theorem dX8_duel_11 : decode cX8_duel 11 = .ok (.aload_n 0, 1) := by decide +kernel
theorem dX8_duel_12 : decode cX8_duel 12 = .ok (.getfield 26, 3) := by decide +kernel
theorem dX8_duel_15 : decode cX8_duel 15 = .ok (.bipush 18, 2) := by decide +kernel
theorem dX8_duel_17 : decode cX8_duel 17 = .ok (.iaload, 1) := by decide +kernel
theorem dX8_duel_18 : decode cX8_duel 18 = .ok (.ifCond .ne 6, 3) := by decide +kernel
theorem dX8_duel_21 : decode cX8_duel 21 = .ok (.bipush (-4), 2) := by decide +kernel
theorem dX8_duel_23 : decode cX8_duel 23 = .ok (.ireturn, 1) := by decide +kernel
theorem dX8_duel_24 : decode cX8_duel 24 = .ok (.aload_n 0, 1) := by decide +kernel
theorem dX8_duel_25 : decode cX8_duel 25 = .ok (.getfield 26, 3) := by decide +kernel
theorem dX8_duel_28 : decode cX8_duel 28 = .ok (.aload_n 0, 1) := by decide +kernel
theorem dX8_duel_29 : decode cX8_duel 29 = .ok (.getfield 35, 3) := by decide +kernel
theorem dX8_duel_32 : decode cX8_duel 32 = .ok (.invokestatic 163, 3) := by decide +kernel
theorem dX8_duel_35 : decode cX8_duel 35 = .ok (.iload_n 1, 1) := by decide +kernel
theorem dX8_duel_36 : decode cX8_duel 36 = .ok (.ifCond .ne 12, 3) := by decide +kernel
theorem dX8_duel_39 : decode cX8_duel 39 = .ok (.aload_n 0, 1) := by decide +kernel
theorem dX8_duel_40 : decode cX8_duel 40 = .ok (.aload_n 0, 1) := by decide +kernel
theorem dX8_duel_41 : decode cX8_duel 41 = .ok (.getfield 35, 3) := by decide +kernel
theorem dX8_duel_44 : decode cX8_duel 44 = .ok (.invokevirtual 190, 3) := by decide +kernel
theorem dX8_duel_47 : decode cX8_duel 47 = .ok (.ireturn, 1) := by decide +kernel
theorem dX8_duel_48 : decode cX8_duel 48 = .ok (.iconst (-1), 1) := by decide +kernel
theorem dX8_duel_49 : decode cX8_duel 49 = .ok (.istore_n 2, 1) := by decide +kernel
theorem dX8_duel_50 : decode cX8_duel 50 = .ok (.iconst 0, 1) := by decide +kernel
theorem dX8_duel_51 : decode cX8_duel 51 = .ok (.istore_n 3, 1) := by decide +kernel
theorem dX8_duel_52 : decode cX8_duel 52 = .ok (.iload_n 3, 1) := by decide +kernel
theorem dX8_duel_53 : decode cX8_duel 53 = .ok (.bipush 10, 2) := by decide +kernel
theorem dX8_duel_55 : decode cX8_duel 55 = .ok (.aload_n 0, 1) := by decide +kernel
theorem dX8_duel_56 : decode cX8_duel 56 = .ok (.getfield 26, 3) := by decide +kernel
theorem dX8_duel_59 : decode cX8_duel 59 = .ok (.bipush 18, 2) := by decide +kernel
theorem dX8_duel_61 : decode cX8_duel 61 = .ok (.iaload, 1) := by decide +kernel
theorem dX8_duel_62 : decode cX8_duel 62 = .ok (.imul, 1) := by decide +kernel
theorem dX8_duel_63 : decode cX8_duel 63 = .ok (.if_icmp .ge 84, 3) := by decide +kernel
theorem dX8_duel_66 : decode cX8_duel 66 = .ok (.iload_n 3, 1) := by decide +kernel
theorem dX8_duel_67 : decode cX8_duel 67 = .ok (.bipush 10, 2) := by decide +kernel
theorem dX8_duel_69 : decode cX8_duel 69 = .ok (.idiv, 1) := by decide +kernel
theorem dX8_duel_70 : decode cX8_duel 70 = .ok (.istore 4, 2) := by decide +kernel
theorem dX8_duel_72 : decode cX8_duel 72 = .ok (.aload_n 0, 1) := by decide +kernel
theorem dX8_duel_73 : decode cX8_duel 73 = .ok (.getfield 35, 3) := by decide +kernel
theorem dX8_duel_76 : decode cX8_duel 76 = .ok (.bipush 11, 2) := by decide +kernel
theorem dX8_duel_78 : decode cX8_duel 78 = .ok (.iload 4, 2) := by decide +kernel
theorem dX8_duel_80 : decode cX8_duel 80 = .ok (.iadd, 1) := by decide +kernel
theorem dX8_duel_81 : decode cX8_duel 81 = .ok (.iload_n 3, 1) := by decide +kernel
theorem dX8_duel_82 : decode cX8_duel 82 = .ok (.bipush 10, 2) := by decide +kernel
theorem dX8_duel_84 : decode cX8_duel 84 = .ok (.irem, 1) := by decide +kernel
theorem dX8_duel_85 : decode cX8_duel 85 = .ok (.iastore, 1) := by decide +kernel
theorem dX8_duel_86 : decode cX8_duel 86 = .ok (.iload_n 1, 1) := by decide +kernel
theorem dX8_duel_87 : decode cX8_duel 87 = .ok (.iconst 1, 1) := by decide +kernel
theorem dX8_duel_88 : decode cX8_duel 88 = .ok (.if_icmp .ne 14, 3) := by decide +kernel
theorem dX8_duel_91 : decode cX8_duel 91 = .ok (.aload_n 0, 1) := by decide +kernel
theorem dX8_duel_92 : decode cX8_duel 92 = .ok (.aload_n 0, 1) := by decide +kernel
theorem dX8_duel_93 : decode cX8_duel 93 = .ok (.getfield 35, 3) := by decide +kernel
theorem dX8_duel_96 : decode cX8_duel 96 = .ok (.invokevirtual 190, 3) := by decide +kernel
theorem dX8_duel_99 : decode cX8_duel 99 = .ok (.goto 7, 3) := by decide +kernel
theorem dX8_duel_102 : decode cX8_duel 102 = .ok (.aload_n 0, 1) := by decide +kernel
theorem dX8_duel_103 : decode cX8_duel 103 = .ok (.invokevirtual 193, 3) := by decide +kernel
theorem dX8_duel_106 : decode cX8_duel 106 = .ok (.istore 5, 2) := by decide +kernel
theorem dX8_duel_108 : decode cX8_duel 108 = .ok (.iload 5, 2) := by decide +kernel
theorem dX8_duel_110 : decode cX8_duel 110 = .ok (.iload_n 2, 1) := by decide +kernel
theorem dX8_duel_111 : decode cX8_duel 111 = .ok (.if_icmp .le 8, 3) := by decide +kernel
theorem dX8_duel_114 : decode cX8_duel 114 = .ok (.iload 5, 2) := by decide +kernel
theorem dX8_duel_116 : decode cX8_duel 116 = .ok (.goto 4, 3) := by decide +kernel
theorem dX8_duel_119 : decode cX8_duel 119 = .ok (.iload_n 2, 1) := by decide +kernel
theorem dX8_duel_120 : decode cX8_duel 120 = .ok (.istore_n 2, 1) := by decide +kernel
theorem dX8_duel_121 : decode cX8_duel 121 = .ok (.aload_n 0, 1) := by decide +kernel
theorem dX8_duel_122 : decode cX8_duel 122 = .ok (.getfield 35, 3) := by decide +kernel
theorem dX8_duel_125 : decode cX8_duel 125 = .ok (.bipush 11, 2) := by decide +kernel
theorem dX8_duel_127 : decode cX8_duel 127 = .ok (.iload 4, 2) := by decide +kernel
theorem dX8_duel_129 : decode cX8_duel 129 = .ok (.iadd, 1) := by decide +kernel
theorem dX8_duel_130 : decode cX8_duel 130 = .ok (.aload_n 0, 1) := by decide +kernel
theorem dX8_duel_131 : decode cX8_duel 131 = .ok (.getfield 26, 3) := by decide +kernel
theorem dX8_duel_134 : decode cX8_duel 134 = .ok (.bipush 11, 2) := by decide +kernel
theorem dX8_duel_136 : decode cX8_duel 136 = .ok (.iload 4, 2) := by decide +kernel
theorem dX8_duel_138 : decode cX8_duel 138 = .ok (.iadd, 1) := by decide +kernel
theorem dX8_duel_139 : decode cX8_duel 139 = .ok (.iaload, 1) := by decide +kernel
theorem dX8_duel_140 : decode cX8_duel 140 = .ok (.iastore, 1) := by decide +kernel
theorem dX8_duel_141 : decode cX8_duel 141 = .ok (.iinc 3 1, 3) := by decide +kernel
theorem dX8_duel_144 : decode cX8_duel 144 = .ok (.goto (-92), 3) := by decide +kernel
theorem dX8_duel_147 : decode cX8_duel 147 = .ok (.iload_n 2, 1) := by decide +kernel
theorem dX8_duel_148 : decode cX8_duel 148 = .ok (.ireturn, 1) := by decide +kernel
theorem dX8_answered_0 : decode cX8_answered 0 = .ok (.bipush 99, 2) := by decide +kernel
theorem dX8_answered_2 : decode cX8_answered 2 = .ok (.istore_n 1, 1) := by decide +kernel
theorem dX8_answered_3 : decode cX8_answered 3 = .ok (.iconst 0, 1) := by decide +kernel
theorem dX8_answered_4 : decode cX8_answered 4 = .ok (.istore_n 2, 1) := by decide +kernel
theorem dX8_answered_5 : decode cX8_answered 5 = .ok (.iload_n 2, 1) := by decide +kernel
theorem dX8_answered_6 : decode cX8_answered 6 = .ok (.bipush 10, 2) := by decide +kernel
theorem dX8_answered_8 : decode cX8_answered 8 = .ok (.aload_n 0, 1) := by decide +kernel
theorem dX8_answered_9 : decode cX8_answered 9 = .ok (.getfield 26, 3) := by decide +kernel
theorem dX8_answered_12 : decode cX8_answered 12 = .ok (.bipush 18, 2) := by decide +kernel
theorem dX8_answered_14 : decode cX8_answered 14 = .ok (.iaload, 1) := by decide +kernel
theorem dX8_answered_15 : decode cX8_answered 15 = .ok (.imul, 1) := by decide +kernel
theorem dX8_answered_16 : decode cX8_answered 16 = .ok (.if_icmp .ge 72, 3) := by decide +kernel
theorem dX8_answered_19 : decode cX8_answered 19 = .ok (.iload_n 2, 1) := by decide +kernel
theorem dX8_answered_20 : decode cX8_answered 20 = .ok (.bipush 10, 2) := by decide +kernel
theorem dX8_answered_22 : decode cX8_answered 22 = .ok (.idiv, 1) := by decide +kernel
theorem dX8_answered_23 : decode cX8_answered 23 = .ok (.istore_n 3, 1) := by decide +kernel
theorem dX8_answered_24 : decode cX8_answered 24 = .ok (.aload_n 0, 1) := by decide +kernel
theorem dX8_answered_25 : decode cX8_answered 25 = .ok (.getfield 35, 3) := by decide +kernel
theorem dX8_answered_28 : decode cX8_answered 28 = .ok (.bipush 11, 2) := by decide +kernel
theorem dX8_answered_30 : decode cX8_answered 30 = .ok (.iload_n 3, 1) := by decide +kernel
theorem dX8_answered_31 : decode cX8_answered 31 = .ok (.iadd, 1) := by decide +kernel
theorem dX8_answered_32 : decode cX8_answered 32 = .ok (.iaload, 1) := by decide +kernel
theorem dX8_answered_33 : decode cX8_answered 33 = .ok (.istore 4, 2) := by decide +kernel
theorem dX8_answered_35 : decode cX8_answered 35 = .ok (.aload_n 0, 1) := by decide +kernel
theorem dX8_answered_36 : decode cX8_answered 36 = .ok (.getfield 35, 3) := by decide +kernel
theorem dX8_answered_39 : decode cX8_answered 39 = .ok (.bipush 11, 2) := by decide +kernel
theorem dX8_answered_41 : decode cX8_answered 41 = .ok (.iload_n 3, 1) := by decide +kernel
theorem dX8_answered_42 : decode cX8_answered 42 = .ok (.iadd, 1) := by decide +kernel
theorem dX8_answered_43 : decode cX8_answered 43 = .ok (.iload_n 2, 1) := by decide +kernel
theorem dX8_answered_44 : decode cX8_answered 44 = .ok (.bipush 10, 2) := by decide +kernel
theorem dX8_answered_46 : decode cX8_answered 46 = .ok (.irem, 1) := by decide +kernel
theorem dX8_answered_47 : decode cX8_answered 47 = .ok (.iastore, 1) := by decide +kernel
theorem dX8_answered_48 : decode cX8_answered 48 = .ok (.aload_n 0, 1) := by decide +kernel
theorem dX8_answered_49 : decode cX8_answered 49 = .ok (.aload_n 0, 1) := by decide +kernel
theorem dX8_answered_50 : decode cX8_answered 50 = .ok (.getfield 35, 3) := by decide +kernel
theorem dX8_answered_53 : decode cX8_answered 53 = .ok (.invokevirtual 190, 3) := by decide +kernel
theorem dX8_answered_56 : decode cX8_answered 56 = .ok (.istore 5, 2) := by decide +kernel
theorem dX8_answered_58 : decode cX8_answered 58 = .ok (.iload 5, 2) := by decide +kernel
theorem dX8_answered_60 : decode cX8_answered 60 = .ok (.iload_n 1, 1) := by decide +kernel
theorem dX8_answered_61 : decode cX8_answered 61 = .ok (.if_icmp .ge 8, 3) := by decide +kernel
theorem dX8_answered_64 : decode cX8_answered 64 = .ok (.iload 5, 2) := by decide +kernel
theorem dX8_answered_66 : decode cX8_answered 66 = .ok (.goto 4, 3) := by decide +kernel
theorem dX8_answered_69 : decode cX8_answered 69 = .ok (.iload_n 1, 1) := by decide +kernel
theorem dX8_answered_70 : decode cX8_answered 70 = .ok (.istore_n 1, 1) := by decide +kernel
theorem dX8_answered_71 : decode cX8_answered 71 = .ok (.aload_n 0, 1) := by decide +kernel
theorem dX8_answered_72 : decode cX8_answered 72 = .ok (.getfield 35, 3) := by decide +kernel
theorem dX8_answered_75 : decode cX8_answered 75 = .ok (.bipush 11, 2) := by decide +kernel
theorem dX8_answered_77 : decode cX8_answered 77 = .ok (.iload_n 3, 1) := by decide +kernel
theorem dX8_answered_78 : decode cX8_answered 78 = .ok (.iadd, 1) := by decide +kernel
theorem dX8_answered_79 : decode cX8_answered 79 = .ok (.iload 4, 2) := by decide +kernel
theorem dX8_answered_81 : decode cX8_answered 81 = .ok (.iastore, 1) := by decide +kernel
theorem dX8_answered_82 : decode cX8_answered 82 = .ok (.iinc 2 1, 3) := by decide +kernel
theorem dX8_answered_85 : decode cX8_answered 85 = .ok (.goto (-80), 3) := by decide +kernel
theorem dX8_answered_88 : decode cX8_answered 88 = .ok (.iload_n 1, 1) := by decide +kernel
theorem dX8_answered_89 : decode cX8_answered 89 = .ok (.ireturn, 1) := by decide +kernel
theorem dX8_lowest_0 : decode cX8_lowest 0 = .ok (.lload_n 1, 1) := by decide +kernel
theorem dX8_lowest_1 : decode cX8_lowest 1 = .ok (.lstore 5, 2) := by decide +kernel
theorem dX8_lowest_3 : decode cX8_lowest 3 = .ok (.lload_n 3, 1) := by decide +kernel
theorem dX8_lowest_4 : decode cX8_lowest 4 = .ok (.lstore 7, 2) := by decide +kernel
theorem dX8_lowest_6 : decode cX8_lowest 6 = .ok (.lload 7, 2) := by decide +kernel
theorem dX8_lowest_8 : decode cX8_lowest 8 = .ok (.lconst 0, 1) := by decide +kernel
theorem dX8_lowest_9 : decode cX8_lowest 9 = .ok (.lcmp, 1) := by decide +kernel
theorem dX8_lowest_10 : decode cX8_lowest 10 = .ok (.ifCond .le 21, 3) := by decide +kernel
theorem dX8_lowest_13 : decode cX8_lowest 13 = .ok (.lload 5, 2) := by decide +kernel
theorem dX8_lowest_15 : decode cX8_lowest 15 = .ok (.lload 7, 2) := by decide +kernel
theorem dX8_lowest_17 : decode cX8_lowest 17 = .ok (.lrem, 1) := by decide +kernel
theorem dX8_lowest_18 : decode cX8_lowest 18 = .ok (.lstore 9, 2) := by decide +kernel
theorem dX8_lowest_20 : decode cX8_lowest 20 = .ok (.lload 7, 2) := by decide +kernel
theorem dX8_lowest_22 : decode cX8_lowest 22 = .ok (.lstore 5, 2) := by decide +kernel
theorem dX8_lowest_24 : decode cX8_lowest 24 = .ok (.lload 9, 2) := by decide +kernel
theorem dX8_lowest_26 : decode cX8_lowest 26 = .ok (.lstore 7, 2) := by decide +kernel
theorem dX8_lowest_28 : decode cX8_lowest 28 = .ok (.goto (-22), 3) := by decide +kernel
theorem dX8_lowest_31 : decode cX8_lowest 31 = .ok (.aload_n 0, 1) := by decide +kernel
theorem dX8_lowest_32 : decode cX8_lowest 32 = .ok (.lload_n 1, 1) := by decide +kernel
theorem dX8_lowest_33 : decode cX8_lowest 33 = .ok (.lload 5, 2) := by decide +kernel
theorem dX8_lowest_35 : decode cX8_lowest 35 = .ok (.ldiv, 1) := by decide +kernel
theorem dX8_lowest_36 : decode cX8_lowest 36 = .ok (.putfield 197, 3) := by decide +kernel
theorem dX8_lowest_39 : decode cX8_lowest 39 = .ok (.aload_n 0, 1) := by decide +kernel
theorem dX8_lowest_40 : decode cX8_lowest 40 = .ok (.lload_n 3, 1) := by decide +kernel
theorem dX8_lowest_41 : decode cX8_lowest 41 = .ok (.lload 5, 2) := by decide +kernel
theorem dX8_lowest_43 : decode cX8_lowest 43 = .ok (.ldiv, 1) := by decide +kernel
theorem dX8_lowest_44 : decode cX8_lowest 44 = .ok (.putfield 50, 3) := by decide +kernel
theorem dX8_lowest_47 : decode cX8_lowest 47 = .ok (.return_, 1) := by decide +kernel
theorem dX8_chances_0 : decode cX8_chances 0 = .ok (.lconst 0, 1) := by decide +kernel
theorem dX8_chances_1 : decode cX8_chances 1 = .ok (.lstore 4, 2) := by decide +kernel
theorem dX8_chances_3 : decode cX8_chances 3 = .ok (.lconst 1, 1) := by decide +kernel
theorem dX8_chances_4 : decode cX8_chances 4 = .ok (.lstore 6, 2) := by decide +kernel
theorem dX8_chances_6 : decode cX8_chances 6 = .ok (.iconst 0, 1) := by decide +kernel
theorem dX8_chances_7 : decode cX8_chances 7 = .ok (.istore 8, 2) := by decide +kernel
theorem dX8_chances_9 : decode cX8_chances 9 = .ok (.iload 8, 2) := by decide +kernel
theorem dX8_chances_11 : decode cX8_chances 11 = .ok (.aload_n 0, 1) := by decide +kernel
theorem dX8_chances_12 : decode cX8_chances 12 = .ok (.getfield 26, 3) := by decide +kernel
theorem dX8_chances_15 : decode cX8_chances 15 = .ok (.bipush 18, 2) := by decide +kernel
theorem dX8_chances_17 : decode cX8_chances 17 = .ok (.iaload, 1) := by decide +kernel
theorem dX8_chances_18 : decode cX8_chances 18 = .ok (.if_icmp .ge 35, 3) := by decide +kernel
theorem dX8_chances_21 : decode cX8_chances 21 = .ok (.lload 6, 2) := by decide +kernel
theorem dX8_chances_23 : decode cX8_chances 23 = .ok (.aload_n 0, 1) := by decide +kernel
theorem dX8_chances_24 : decode cX8_chances 24 = .ok (.getfield 26, 3) := by decide +kernel
theorem dX8_chances_27 : decode cX8_chances 27 = .ok (.iconst 3, 1) := by decide +kernel
theorem dX8_chances_28 : decode cX8_chances 28 = .ok (.iaload, 1) := by decide +kernel
theorem dX8_chances_29 : decode cX8_chances 29 = .ok (.iload 8, 2) := by decide +kernel
theorem dX8_chances_31 : decode cX8_chances 31 = .ok (.invokestatic 137, 3) := by decide +kernel
theorem dX8_chances_34 : decode cX8_chances 34 = .ok (.ifCond .eq 7, 3) := by decide +kernel
theorem dX8_chances_37 : decode cX8_chances 37 = .ok (.lconst 1, 1) := by decide +kernel
theorem dX8_chances_38 : decode cX8_chances 38 = .ok (.goto 6, 3) := by decide +kernel
theorem dX8_chances_41 : decode cX8_chances 41 = .ok (.ldc2_w 200, 3) := by decide +kernel
theorem dX8_chances_44 : decode cX8_chances 44 = .ok (.lmul, 1) := by decide +kernel
theorem dX8_chances_45 : decode cX8_chances 45 = .ok (.lstore 6, 2) := by decide +kernel
theorem dX8_chances_47 : decode cX8_chances 47 = .ok (.iinc 8 1, 3) := by decide +kernel
theorem dX8_chances_50 : decode cX8_chances 50 = .ok (.goto (-41), 3) := by decide +kernel
theorem dX8_chances_53 : decode cX8_chances 53 = .ok (.iconst 0, 1) := by decide +kernel
theorem dX8_chances_54 : decode cX8_chances 54 = .ok (.istore 8, 2) := by decide +kernel
theorem dX8_chances_56 : decode cX8_chances 56 = .ok (.iload 8, 2) := by decide +kernel
theorem dX8_chances_58 : decode cX8_chances 58 = .ok (.iconst 1, 1) := by decide +kernel
theorem dX8_chances_59 : decode cX8_chances 59 = .ok (.aload_n 0, 1) := by decide +kernel
theorem dX8_chances_60 : decode cX8_chances 60 = .ok (.getfield 26, 3) := by decide +kernel
theorem dX8_chances_63 : decode cX8_chances 63 = .ok (.bipush 18, 2) := by decide +kernel
theorem dX8_chances_65 : decode cX8_chances 65 = .ok (.iaload, 1) := by decide +kernel
theorem dX8_chances_66 : decode cX8_chances 66 = .ok (.ishl, 1) := by decide +kernel
theorem dX8_chances_67 : decode cX8_chances 67 = .ok (.if_icmp .ge 175, 3) := by decide +kernel
theorem dX8_chances_70 : decode cX8_chances 70 = .ok (.iload 8, 2) := by decide +kernel
theorem dX8_chances_72 : decode cX8_chances 72 = .ok (.aload_n 0, 1) := by decide +kernel
theorem dX8_chances_73 : decode cX8_chances 73 = .ok (.getfield 26, 3) := by decide +kernel
theorem dX8_chances_76 : decode cX8_chances 76 = .ok (.iconst 3, 1) := by decide +kernel
theorem dX8_chances_77 : decode cX8_chances 77 = .ok (.iaload, 1) := by decide +kernel
theorem dX8_chances_78 : decode cX8_chances 78 = .ok (.iand, 1) := by decide +kernel
theorem dX8_chances_79 : decode cX8_chances 79 = .ok (.ifCond .ne 157, 3) := by decide +kernel
theorem dX8_chances_82 : decode cX8_chances 82 = .ok (.lconst 1, 1) := by decide +kernel
theorem dX8_chances_83 : decode cX8_chances 83 = .ok (.lstore 9, 2) := by decide +kernel
theorem dX8_chances_85 : decode cX8_chances 85 = .ok (.iconst 0, 1) := by decide +kernel
theorem dX8_chances_86 : decode cX8_chances 86 = .ok (.istore 11, 2) := by decide +kernel
theorem dX8_chances_88 : decode cX8_chances 88 = .ok (.iload 11, 2) := by decide +kernel
theorem dX8_chances_90 : decode cX8_chances 90 = .ok (.aload_n 0, 1) := by decide +kernel
theorem dX8_chances_91 : decode cX8_chances 91 = .ok (.getfield 26, 3) := by decide +kernel
theorem dX8_chances_94 : decode cX8_chances 94 = .ok (.bipush 18, 2) := by decide +kernel
theorem dX8_chances_96 : decode cX8_chances 96 = .ok (.iaload, 1) := by decide +kernel
theorem dX8_chances_97 : decode cX8_chances 97 = .ok (.if_icmp .ge 52, 3) := by decide +kernel
theorem dX8_chances_100 : decode cX8_chances 100 = .ok (.lload 9, 2) := by decide +kernel
theorem dX8_chances_102 : decode cX8_chances 102 = .ok (.aload_n 0, 1) := by decide +kernel
theorem dX8_chances_103 : decode cX8_chances 103 = .ok (.getfield 26, 3) := by decide +kernel
theorem dX8_chances_106 : decode cX8_chances 106 = .ok (.iconst 3, 1) := by decide +kernel
theorem dX8_chances_107 : decode cX8_chances 107 = .ok (.iaload, 1) := by decide +kernel
theorem dX8_chances_108 : decode cX8_chances 108 = .ok (.iload 11, 2) := by decide +kernel
theorem dX8_chances_110 : decode cX8_chances 110 = .ok (.invokestatic 137, 3) := by decide +kernel
theorem dX8_chances_113 : decode cX8_chances 113 = .ok (.ifCond .eq 7, 3) := by decide +kernel
theorem dX8_chances_116 : decode cX8_chances 116 = .ok (.lconst 1, 1) := by decide +kernel
theorem dX8_chances_117 : decode cX8_chances 117 = .ok (.goto 23, 3) := by decide +kernel
theorem dX8_chances_120 : decode cX8_chances 120 = .ok (.iload 8, 2) := by decide +kernel
theorem dX8_chances_122 : decode cX8_chances 122 = .ok (.iload 11, 2) := by decide +kernel
theorem dX8_chances_124 : decode cX8_chances 124 = .ok (.invokestatic 137, 3) := by decide +kernel
theorem dX8_chances_127 : decode cX8_chances 127 = .ok (.ifCond .eq 8, 3) := by decide +kernel
theorem dX8_chances_130 : decode cX8_chances 130 = .ok (.iload_n 3, 1) := by decide +kernel
theorem dX8_chances_131 : decode cX8_chances 131 = .ok (.i2l, 1) := by decide +kernel
theorem dX8_chances_132 : decode cX8_chances 132 = .ok (.goto 8, 3) := by decide +kernel
theorem dX8_chances_135 : decode cX8_chances 135 = .ok (.bipush 12, 2) := by decide +kernel
theorem dX8_chances_137 : decode cX8_chances 137 = .ok (.iload_n 3, 1) := by decide +kernel
theorem dX8_chances_138 : decode cX8_chances 138 = .ok (.isub, 1) := by decide +kernel
theorem dX8_chances_139 : decode cX8_chances 139 = .ok (.i2l, 1) := by decide +kernel
theorem dX8_chances_140 : decode cX8_chances 140 = .ok (.lmul, 1) := by decide +kernel
theorem dX8_chances_141 : decode cX8_chances 141 = .ok (.lstore 9, 2) := by decide +kernel
theorem dX8_chances_143 : decode cX8_chances 143 = .ok (.iinc 11 1, 3) := by decide +kernel
theorem dX8_chances_146 : decode cX8_chances 146 = .ok (.goto (-58), 3) := by decide +kernel
theorem dX8_chances_149 : decode cX8_chances 149 = .ok (.aload_n 0, 1) := by decide +kernel
theorem dX8_chances_150 : decode cX8_chances 150 = .ok (.getfield 26, 3) := by decide +kernel
theorem dX8_chances_153 : decode cX8_chances 153 = .ok (.aload_n 0, 1) := by decide +kernel
theorem dX8_chances_154 : decode cX8_chances 154 = .ok (.getfield 32, 3) := by decide +kernel
theorem dX8_chances_157 : decode cX8_chances 157 = .ok (.invokestatic 163, 3) := by decide +kernel
theorem dX8_chances_160 : decode cX8_chances 160 = .ok (.aload_n 0, 1) := by decide +kernel
theorem dX8_chances_161 : decode cX8_chances 161 = .ok (.getfield 32, 3) := by decide +kernel
theorem dX8_chances_164 : decode cX8_chances 164 = .ok (.iconst 3, 1) := by decide +kernel
theorem dX8_chances_165 : decode cX8_chances 165 = .ok (.dup2, 1) := by decide +kernel
theorem dX8_chances_166 : decode cX8_chances 166 = .ok (.iaload, 1) := by decide +kernel
theorem dX8_chances_167 : decode cX8_chances 167 = .ok (.iload 8, 2) := by decide +kernel
theorem dX8_chances_169 : decode cX8_chances 169 = .ok (.ior, 1) := by decide +kernel
theorem dX8_chances_170 : decode cX8_chances 170 = .ok (.iastore, 1) := by decide +kernel
theorem dX8_chances_171 : decode cX8_chances 171 = .ok (.iconst 0, 1) := by decide +kernel
theorem dX8_chances_172 : decode cX8_chances 172 = .ok (.istore 11, 2) := by decide +kernel
theorem dX8_chances_174 : decode cX8_chances 174 = .ok (.iload 11, 2) := by decide +kernel
theorem dX8_chances_176 : decode cX8_chances 176 = .ok (.iload_n 2, 1) := by decide +kernel
theorem dX8_chances_177 : decode cX8_chances 177 = .ok (.if_icmp .ge 17, 3) := by decide +kernel
theorem dX8_chances_180 : decode cX8_chances 180 = .ok (.aload_n 0, 1) := by decide +kernel
theorem dX8_chances_181 : decode cX8_chances 181 = .ok (.getfield 32, 3) := by decide +kernel
theorem dX8_chances_184 : decode cX8_chances 184 = .ok (.invokestatic 153, 3) := by decide +kernel
theorem dX8_chances_187 : decode cX8_chances 187 = .ok (.pop, 1) := by decide +kernel
theorem dX8_chances_188 : decode cX8_chances 188 = .ok (.iinc 11 1, 3) := by decide +kernel
theorem dX8_chances_191 : decode cX8_chances 191 = .ok (.goto (-17), 3) := by decide +kernel
theorem dX8_chances_194 : decode cX8_chances 194 = .ok (.aload_n 0, 1) := by decide +kernel
theorem dX8_chances_195 : decode cX8_chances 195 = .ok (.getfield 32, 3) := by decide +kernel
theorem dX8_chances_198 : decode cX8_chances 198 = .ok (.invokestatic 160, 3) := by decide +kernel
theorem dX8_chances_201 : decode cX8_chances 201 = .ok (.invokestatic 157, 3) := by decide +kernel
theorem dX8_chances_204 : decode cX8_chances 204 = .ok (.istore 11, 2) := by decide +kernel
theorem dX8_chances_206 : decode cX8_chances 206 = .ok (.lload 4, 2) := by decide +kernel
theorem dX8_chances_208 : decode cX8_chances 208 = .ok (.iload_n 1, 1) := by decide +kernel
theorem dX8_chances_209 : decode cX8_chances 209 = .ok (.ifCond .ge 12, 3) := by decide +kernel
theorem dX8_chances_212 : decode cX8_chances 212 = .ok (.lload 9, 2) := by decide +kernel
theorem dX8_chances_214 : decode cX8_chances 214 = .ok (.iload 11, 2) := by decide +kernel
theorem dX8_chances_216 : decode cX8_chances 216 = .ok (.i2l, 1) := by decide +kernel
theorem dX8_chances_217 : decode cX8_chances 217 = .ok (.lmul, 1) := by decide +kernel
theorem dX8_chances_218 : decode cX8_chances 218 = .ok (.goto 15, 3) := by decide +kernel
theorem dX8_chances_221 : decode cX8_chances 221 = .ok (.iload 11, 2) := by decide +kernel
theorem dX8_chances_223 : decode cX8_chances 223 = .ok (.iload_n 1, 1) := by decide +kernel
theorem dX8_chances_224 : decode cX8_chances 224 = .ok (.if_icmp .lt 8, 3) := by decide +kernel
theorem dX8_chances_227 : decode cX8_chances 227 = .ok (.lload 9, 2) := by decide +kernel
theorem dX8_chances_229 : decode cX8_chances 229 = .ok (.goto 4, 3) := by decide +kernel
theorem dX8_chances_232 : decode cX8_chances 232 = .ok (.lconst 0, 1) := by decide +kernel
theorem dX8_chances_233 : decode cX8_chances 233 = .ok (.ladd, 1) := by decide +kernel
theorem dX8_chances_234 : decode cX8_chances 234 = .ok (.lstore 4, 2) := by decide +kernel
theorem dX8_chances_236 : decode cX8_chances 236 = .ok (.iinc 8 1, 3) := by decide +kernel
theorem dX8_chances_239 : decode cX8_chances 239 = .ok (.goto (-183), 3) := by decide +kernel
theorem dX8_chances_242 : decode cX8_chances 242 = .ok (.aload_n 0, 1) := by decide +kernel
theorem dX8_chances_243 : decode cX8_chances 243 = .ok (.lload 4, 2) := by decide +kernel
theorem dX8_chances_245 : decode cX8_chances 245 = .ok (.lload 6, 2) := by decide +kernel
theorem dX8_chances_247 : decode cX8_chances 247 = .ok (.invokevirtual 202, 3) := by decide +kernel
theorem dX8_chances_250 : decode cX8_chances 250 = .ok (.return_, 1) := by decide +kernel
theorem dX8_odds_0 : decode cX8_odds 0 = .ok (.iload_n 1, 1) := by decide +kernel
theorem dX8_odds_1 : decode cX8_odds 1 = .ok (.iconst 0, 1) := by decide +kernel
theorem dX8_odds_2 : decode cX8_odds 2 = .ok (.bipush 7, 2) := by decide +kernel
theorem dX8_odds_4 : decode cX8_odds 4 = .ok (.invokestatic 73, 3) := by decide +kernel
theorem dX8_odds_7 : decode cX8_odds 7 = .ok (.ifCond .eq 23, 3) := by decide +kernel
theorem dX8_odds_10 : decode cX8_odds 10 = .ok (.iload_n 2, 1) := by decide +kernel
theorem dX8_odds_11 : decode cX8_odds 11 = .ok (.iconst 0, 1) := by decide +kernel
theorem dX8_odds_12 : decode cX8_odds 12 = .ok (.bipush 20, 2) := by decide +kernel
theorem dX8_odds_14 : decode cX8_odds 14 = .ok (.invokestatic 73, 3) := by decide +kernel
theorem dX8_odds_17 : decode cX8_odds 17 = .ok (.ifCond .eq 13, 3) := by decide +kernel
theorem dX8_odds_20 : decode cX8_odds 20 = .ok (.iload_n 3, 1) := by decide +kernel
theorem dX8_odds_21 : decode cX8_odds 21 = .ok (.iconst 0, 1) := by decide +kernel
theorem dX8_odds_22 : decode cX8_odds 22 = .ok (.bipush 12, 2) := by decide +kernel
theorem dX8_odds_24 : decode cX8_odds 24 = .ok (.invokestatic 73, 3) := by decide +kernel
theorem dX8_odds_27 : decode cX8_odds 27 = .ok (.ifCond .ne 5, 3) := by decide +kernel
theorem dX8_odds_30 : decode cX8_odds 30 = .ok (.iconst (-1), 1) := by decide +kernel
theorem dX8_odds_31 : decode cX8_odds 31 = .ok (.ireturn, 1) := by decide +kernel
theorem dX8_odds_32 : decode cX8_odds 32 = .ok (.aload_n 0, 1) := by decide +kernel
theorem dX8_odds_33 : decode cX8_odds 33 = .ok (.getfield 26, 3) := by decide +kernel
theorem dX8_odds_36 : decode cX8_odds 36 = .ok (.bipush 18, 2) := by decide +kernel
theorem dX8_odds_38 : decode cX8_odds 38 = .ok (.iaload, 1) := by decide +kernel
theorem dX8_odds_39 : decode cX8_odds 39 = .ok (.ifCond .ne 6, 3) := by decide +kernel
theorem dX8_odds_42 : decode cX8_odds 42 = .ok (.bipush (-4), 2) := by decide +kernel
theorem dX8_odds_44 : decode cX8_odds 44 = .ok (.ireturn, 1) := by decide +kernel
theorem dX8_odds_45 : decode cX8_odds 45 = .ok (.aload_n 0, 1) := by decide +kernel
theorem dX8_odds_46 : decode cX8_odds 46 = .ok (.iload_n 1, 1) := by decide +kernel
theorem dX8_odds_47 : decode cX8_odds 47 = .ok (.iload_n 2, 1) := by decide +kernel
theorem dX8_odds_48 : decode cX8_odds 48 = .ok (.iload_n 3, 1) := by decide +kernel
theorem dX8_odds_49 : decode cX8_odds 49 = .ok (.invokevirtual 206, 3) := by decide +kernel
theorem dX8_odds_52 : decode cX8_odds 52 = .ok (.iconst 1, 1) := by decide +kernel
theorem dX8_odds_53 : decode cX8_odds 53 = .ok (.ireturn, 1) := by decide +kernel
theorem dX8_mid_0 : decode cX8_mid 0 = .ok (.iload_n 1, 1) := by decide +kernel
theorem dX8_mid_1 : decode cX8_mid 1 = .ok (.iconst 0, 1) := by decide +kernel
theorem dX8_mid_2 : decode cX8_mid 2 = .ok (.bipush 20, 2) := by decide +kernel
theorem dX8_mid_4 : decode cX8_mid 4 = .ok (.invokestatic 73, 3) := by decide +kernel
theorem dX8_mid_7 : decode cX8_mid 7 = .ok (.ifCond .eq 13, 3) := by decide +kernel
theorem dX8_mid_10 : decode cX8_mid 10 = .ok (.iload_n 2, 1) := by decide +kernel
theorem dX8_mid_11 : decode cX8_mid 11 = .ok (.iconst 0, 1) := by decide +kernel
theorem dX8_mid_12 : decode cX8_mid 12 = .ok (.bipush 12, 2) := by decide +kernel
theorem dX8_mid_14 : decode cX8_mid 14 = .ok (.invokestatic 73, 3) := by decide +kernel
theorem dX8_mid_17 : decode cX8_mid 17 = .ok (.ifCond .ne 5, 3) := by decide +kernel
theorem dX8_mid_20 : decode cX8_mid 20 = .ok (.iconst (-1), 1) := by decide +kernel
theorem dX8_mid_21 : decode cX8_mid 21 = .ok (.ireturn, 1) := by decide +kernel
theorem dX8_mid_22 : decode cX8_mid 22 = .ok (.aload_n 0, 1) := by decide +kernel
theorem dX8_mid_23 : decode cX8_mid 23 = .ok (.getfield 26, 3) := by decide +kernel
theorem dX8_mid_26 : decode cX8_mid 26 = .ok (.bipush 18, 2) := by decide +kernel
theorem dX8_mid_28 : decode cX8_mid 28 = .ok (.iaload, 1) := by decide +kernel
theorem dX8_mid_29 : decode cX8_mid 29 = .ok (.ifCond .ne 6, 3) := by decide +kernel
theorem dX8_mid_32 : decode cX8_mid 32 = .ok (.bipush (-4), 2) := by decide +kernel
theorem dX8_mid_34 : decode cX8_mid 34 = .ok (.ireturn, 1) := by decide +kernel
theorem dX8_mid_35 : decode cX8_mid 35 = .ok (.aload_n 0, 1) := by decide +kernel
theorem dX8_mid_36 : decode cX8_mid 36 = .ok (.iconst (-1), 1) := by decide +kernel
theorem dX8_mid_37 : decode cX8_mid 37 = .ok (.iload_n 1, 1) := by decide +kernel
theorem dX8_mid_38 : decode cX8_mid 38 = .ok (.iload_n 2, 1) := by decide +kernel
theorem dX8_mid_39 : decode cX8_mid 39 = .ok (.invokevirtual 206, 3) := by decide +kernel
theorem dX8_mid_42 : decode cX8_mid 42 = .ok (.iconst 1, 1) := by decide +kernel
theorem dX8_mid_43 : decode cX8_mid 43 = .ok (.ireturn, 1) := by decide +kernel
theorem dX8_lots_0 : decode cX8_lots 0 = .ok (.iload_n 1, 1) := by decide +kernel
theorem dX8_lots_1 : decode cX8_lots 1 = .ok (.iconst 1, 1) := by decide +kernel
theorem dX8_lots_2 : decode cX8_lots 2 = .ok (.bipush 20, 2) := by decide +kernel
theorem dX8_lots_4 : decode cX8_lots 4 = .ok (.invokestatic 73, 3) := by decide +kernel
theorem dX8_lots_7 : decode cX8_lots 7 = .ok (.ifCond .eq 13, 3) := by decide +kernel
theorem dX8_lots_10 : decode cX8_lots 10 = .ok (.iload_n 2, 1) := by decide +kernel
theorem dX8_lots_11 : decode cX8_lots 11 = .ok (.iconst 1, 1) := by decide +kernel
theorem dX8_lots_12 : decode cX8_lots 12 = .ok (.ldc 210, 2) := by decide +kernel
theorem dX8_lots_14 : decode cX8_lots 14 = .ok (.invokestatic 73, 3) := by decide +kernel
theorem dX8_lots_17 : decode cX8_lots 17 = .ok (.ifCond .ne 5, 3) := by decide +kernel
theorem dX8_lots_20 : decode cX8_lots 20 = .ok (.iconst (-1), 1) := by decide +kernel
theorem dX8_lots_21 : decode cX8_lots 21 = .ok (.ireturn, 1) := by decide +kernel
theorem dX8_lots_22 : decode cX8_lots 22 = .ok (.aload_n 0, 1) := by decide +kernel
theorem dX8_lots_23 : decode cX8_lots 23 = .ok (.getfield 26, 3) := by decide +kernel
theorem dX8_lots_26 : decode cX8_lots 26 = .ok (.bipush 18, 2) := by decide +kernel
theorem dX8_lots_28 : decode cX8_lots 28 = .ok (.iaload, 1) := by decide +kernel
theorem dX8_lots_29 : decode cX8_lots 29 = .ok (.ifCond .ne 6, 3) := by decide +kernel
theorem dX8_lots_32 : decode cX8_lots 32 = .ok (.bipush (-4), 2) := by decide +kernel
theorem dX8_lots_34 : decode cX8_lots 34 = .ok (.ireturn, 1) := by decide +kernel
theorem dX8_lots_35 : decode cX8_lots 35 = .ok (.aload_n 0, 1) := by decide +kernel
theorem dX8_lots_36 : decode cX8_lots 36 = .ok (.getfield 111, 3) := by decide +kernel
theorem dX8_lots_39 : decode cX8_lots 39 = .ok (.iload_n 1, 1) := by decide +kernel
theorem dX8_lots_40 : decode cX8_lots 40 = .ok (.iadd, 1) := by decide +kernel
theorem dX8_lots_41 : decode cX8_lots 41 = .ok (.bipush 40, 2) := by decide +kernel
theorem dX8_lots_43 : decode cX8_lots 43 = .ok (.if_icmp .le 6, 3) := by decide +kernel
theorem dX8_lots_46 : decode cX8_lots 46 = .ok (.bipush (-2), 2) := by decide +kernel
theorem dX8_lots_48 : decode cX8_lots 48 = .ok (.ireturn, 1) := by decide +kernel
theorem dX8_lots_49 : decode cX8_lots 49 = .ok (.iload_n 2, 1) := by decide +kernel
theorem dX8_lots_50 : decode cX8_lots 50 = .ok (.i2l, 1) := by decide +kernel
theorem dX8_lots_51 : decode cX8_lots 51 = .ok (.lstore_n 3, 1) := by decide +kernel
theorem dX8_lots_52 : decode cX8_lots 52 = .ok (.iconst 0, 1) := by decide +kernel
theorem dX8_lots_53 : decode cX8_lots 53 = .ok (.istore 5, 2) := by decide +kernel
theorem dX8_lots_55 : decode cX8_lots 55 = .ok (.iload 5, 2) := by decide +kernel
theorem dX8_lots_57 : decode cX8_lots 57 = .ok (.iload_n 1, 1) := by decide +kernel
theorem dX8_lots_58 : decode cX8_lots 58 = .ok (.if_icmp .ge 117, 3) := by decide +kernel
theorem dX8_lots_61 : decode cX8_lots 61 = .ok (.lload_n 3, 1) := by decide +kernel
theorem dX8_lots_62 : decode cX8_lots 62 = .ok (.ldc2_w 211, 3) := by decide +kernel
theorem dX8_lots_65 : decode cX8_lots 65 = .ok (.lmul, 1) := by decide +kernel
theorem dX8_lots_66 : decode cX8_lots 66 = .ok (.ldc2_w 213, 3) := by decide +kernel
theorem dX8_lots_69 : decode cX8_lots 69 = .ok (.lrem, 1) := by decide +kernel
theorem dX8_lots_70 : decode cX8_lots 70 = .ok (.lstore_n 3, 1) := by decide +kernel
theorem dX8_lots_71 : decode cX8_lots 71 = .ok (.lload_n 3, 1) := by decide +kernel
theorem dX8_lots_72 : decode cX8_lots 72 = .ok (.ldc2_w 215, 3) := by decide +kernel
theorem dX8_lots_75 : decode cX8_lots 75 = .ok (.ldiv, 1) := by decide +kernel
theorem dX8_lots_76 : decode cX8_lots 76 = .ok (.aload_n 0, 1) := by decide +kernel
theorem dX8_lots_77 : decode cX8_lots 77 = .ok (.getfield 26, 3) := by decide +kernel
theorem dX8_lots_80 : decode cX8_lots 80 = .ok (.bipush 18, 2) := by decide +kernel
theorem dX8_lots_82 : decode cX8_lots 82 = .ok (.iaload, 1) := by decide +kernel
theorem dX8_lots_83 : decode cX8_lots 83 = .ok (.i2l, 1) := by decide +kernel
theorem dX8_lots_84 : decode cX8_lots 84 = .ok (.lrem, 1) := by decide +kernel
theorem dX8_lots_85 : decode cX8_lots 85 = .ok (.l2i, 1) := by decide +kernel
theorem dX8_lots_86 : decode cX8_lots 86 = .ok (.istore 6, 2) := by decide +kernel
theorem dX8_lots_88 : decode cX8_lots 88 = .ok (.lload_n 3, 1) := by decide +kernel
theorem dX8_lots_89 : decode cX8_lots 89 = .ok (.ldc2_w 215, 3) := by decide +kernel
theorem dX8_lots_92 : decode cX8_lots 92 = .ok (.lrem, 1) := by decide +kernel
theorem dX8_lots_93 : decode cX8_lots 93 = .ok (.l2i, 1) := by decide +kernel
theorem dX8_lots_94 : decode cX8_lots 94 = .ok (.istore 7, 2) := by decide +kernel
theorem dX8_lots_96 : decode cX8_lots 96 = .ok (.aload_n 0, 1) := by decide +kernel
theorem dX8_lots_97 : decode cX8_lots 97 = .ok (.invokevirtual 150, 3) := by decide +kernel
theorem dX8_lots_100 : decode cX8_lots 100 = .ok (.iload 7, 2) := by decide +kernel
theorem dX8_lots_102 : decode cX8_lots 102 = .ok (.ifCond .ne 19, 3) := by decide +kernel
theorem dX8_lots_105 : decode cX8_lots 105 = .ok (.aload_n 0, 1) := by decide +kernel
theorem dX8_lots_106 : decode cX8_lots 106 = .ok (.getfield 26, 3) := by decide +kernel
theorem dX8_lots_109 : decode cX8_lots 109 = .ok (.iconst 3, 1) := by decide +kernel
theorem dX8_lots_110 : decode cX8_lots 110 = .ok (.dup2, 1) := by decide +kernel
theorem dX8_lots_111 : decode cX8_lots 111 = .ok (.iaload, 1) := by decide +kernel
theorem dX8_lots_112 : decode cX8_lots 112 = .ok (.iconst 1, 1) := by decide +kernel
theorem dX8_lots_113 : decode cX8_lots 113 = .ok (.iload 6, 2) := by decide +kernel
theorem dX8_lots_115 : decode cX8_lots 115 = .ok (.ishl, 1) := by decide +kernel
theorem dX8_lots_116 : decode cX8_lots 116 = .ok (.ixor, 1) := by decide +kernel
theorem dX8_lots_117 : decode cX8_lots 117 = .ok (.iastore, 1) := by decide +kernel
theorem dX8_lots_118 : decode cX8_lots 118 = .ok (.goto 51, 3) := by decide +kernel
theorem dX8_lots_121 : decode cX8_lots 121 = .ok (.iload 7, 2) := by decide +kernel
theorem dX8_lots_123 : decode cX8_lots 123 = .ok (.iconst 3, 1) := by decide +kernel
theorem dX8_lots_124 : decode cX8_lots 124 = .ok (.if_icmp .ge 26, 3) := by decide +kernel
theorem dX8_lots_127 : decode cX8_lots 127 = .ok (.aload_n 0, 1) := by decide +kernel
theorem dX8_lots_128 : decode cX8_lots 128 = .ok (.getfield 26, 3) := by decide +kernel
theorem dX8_lots_131 : decode cX8_lots 131 = .ok (.bipush 11, 2) := by decide +kernel
theorem dX8_lots_133 : decode cX8_lots 133 = .ok (.iload 6, 2) := by decide +kernel
theorem dX8_lots_135 : decode cX8_lots 135 = .ok (.iadd, 1) := by decide +kernel
theorem dX8_lots_136 : decode cX8_lots 136 = .ok (.lload_n 3, 1) := by decide +kernel
theorem dX8_lots_137 : decode cX8_lots 137 = .ok (.ldc2_w 217, 3) := by decide +kernel
theorem dX8_lots_140 : decode cX8_lots 140 = .ok (.ldiv, 1) := by decide +kernel
theorem dX8_lots_141 : decode cX8_lots 141 = .ok (.ldc2_w 219, 3) := by decide +kernel
theorem dX8_lots_144 : decode cX8_lots 144 = .ok (.lrem, 1) := by decide +kernel
theorem dX8_lots_145 : decode cX8_lots 145 = .ok (.l2i, 1) := by decide +kernel
theorem dX8_lots_146 : decode cX8_lots 146 = .ok (.iastore, 1) := by decide +kernel
theorem dX8_lots_147 : decode cX8_lots 147 = .ok (.goto 22, 3) := by decide +kernel
theorem dX8_lots_150 : decode cX8_lots 150 = .ok (.aload_n 0, 1) := by decide +kernel
theorem dX8_lots_151 : decode cX8_lots 151 = .ok (.getfield 26, 3) := by decide +kernel
theorem dX8_lots_154 : decode cX8_lots 154 = .ok (.iconst 1, 1) := by decide +kernel
theorem dX8_lots_155 : decode cX8_lots 155 = .ok (.iaload, 1) := by decide +kernel
theorem dX8_lots_156 : decode cX8_lots 156 = .ok (.bipush 99, 2) := by decide +kernel
theorem dX8_lots_158 : decode cX8_lots 158 = .ok (.if_icmp .ge 11, 3) := by decide +kernel
theorem dX8_lots_161 : decode cX8_lots 161 = .ok (.aload_n 0, 1) := by decide +kernel
theorem dX8_lots_162 : decode cX8_lots 162 = .ok (.getfield 26, 3) := by decide +kernel
theorem dX8_lots_165 : decode cX8_lots 165 = .ok (.invokestatic 153, 3) := by decide +kernel
theorem dX8_lots_168 : decode cX8_lots 168 = .ok (.pop, 1) := by decide +kernel
theorem dX8_lots_169 : decode cX8_lots 169 = .ok (.iinc 5 1, 3) := by decide +kernel
theorem dX8_lots_172 : decode cX8_lots 172 = .ok (.goto (-117), 3) := by decide +kernel
theorem dX8_lots_175 : decode cX8_lots 175 = .ok (.aload_n 0, 1) := by decide +kernel
theorem dX8_lots_176 : decode cX8_lots 176 = .ok (.getfield 26, 3) := by decide +kernel
theorem dX8_lots_179 : decode cX8_lots 179 = .ok (.invokestatic 167, 3) := by decide +kernel
theorem dX8_lots_182 : decode cX8_lots 182 = .ok (.ireturn, 1) := by decide +kernel
theorem dX8_asked_0 : decode cX8_asked 0 = .ok (.aload_n 0, 1) := by decide +kernel
theorem dX8_asked_1 : decode cX8_asked 1 = .ok (.getfield 70, 3) := by decide +kernel
theorem dX8_asked_4 : decode cX8_asked 4 = .ok (.ireturn, 1) := by decide +kernel
theorem dX8_upper_0 : decode cX8_upper 0 = .ok (.aload_n 0, 1) := by decide +kernel
theorem dX8_upper_1 : decode cX8_upper 1 = .ok (.getfield 197, 3) := by decide +kernel
theorem dX8_upper_4 : decode cX8_upper 4 = .ok (.lreturn, 1) := by decide +kernel
theorem dX8_lower_0 : decode cX8_lower 0 = .ok (.aload_n 0, 1) := by decide +kernel
theorem dX8_lower_1 : decode cX8_lower 1 = .ok (.getfield 50, 3) := by decide +kernel
theorem dX8_lower_4 : decode cX8_lower 4 = .ok (.lreturn, 1) := by decide +kernel
theorem dX8_ofKind_0 : decode cX8_ofKind 0 = .ok (.iconst 0, 1) := by decide +kernel
theorem dX8_ofKind_1 : decode cX8_ofKind 1 = .ok (.istore_n 2, 1) := by decide +kernel
theorem dX8_ofKind_2 : decode cX8_ofKind 2 = .ok (.iconst 0, 1) := by decide +kernel
theorem dX8_ofKind_3 : decode cX8_ofKind 3 = .ok (.istore_n 3, 1) := by decide +kernel
theorem dX8_ofKind_4 : decode cX8_ofKind 4 = .ok (.iload_n 3, 1) := by decide +kernel
theorem dX8_ofKind_5 : decode cX8_ofKind 5 = .ok (.aload_n 0, 1) := by decide +kernel
theorem dX8_ofKind_6 : decode cX8_ofKind 6 = .ok (.getfield 26, 3) := by decide +kernel
theorem dX8_ofKind_9 : decode cX8_ofKind 9 = .ok (.bipush 18, 2) := by decide +kernel
theorem dX8_ofKind_11 : decode cX8_ofKind 11 = .ok (.iaload, 1) := by decide +kernel
theorem dX8_ofKind_12 : decode cX8_ofKind 12 = .ok (.if_icmp .ge 33, 3) := by decide +kernel
theorem dX8_ofKind_15 : decode cX8_ofKind 15 = .ok (.iload_n 2, 1) := by decide +kernel
theorem dX8_ofKind_16 : decode cX8_ofKind 16 = .ok (.aload_n 0, 1) := by decide +kernel
theorem dX8_ofKind_17 : decode cX8_ofKind 17 = .ok (.getfield 26, 3) := by decide +kernel
theorem dX8_ofKind_20 : decode cX8_ofKind 20 = .ok (.bipush 19, 2) := by decide +kernel
theorem dX8_ofKind_22 : decode cX8_ofKind 22 = .ok (.iload_n 3, 1) := by decide +kernel
theorem dX8_ofKind_23 : decode cX8_ofKind 23 = .ok (.iadd, 1) := by decide +kernel
theorem dX8_ofKind_24 : decode cX8_ofKind 24 = .ok (.iaload, 1) := by decide +kernel
theorem dX8_ofKind_25 : decode cX8_ofKind 25 = .ok (.iload_n 1, 1) := by decide +kernel
theorem dX8_ofKind_26 : decode cX8_ofKind 26 = .ok (.invokestatic 141, 3) := by decide +kernel
theorem dX8_ofKind_29 : decode cX8_ofKind 29 = .ok (.ifCond .eq 7, 3) := by decide +kernel
theorem dX8_ofKind_32 : decode cX8_ofKind 32 = .ok (.iconst 1, 1) := by decide +kernel
theorem dX8_ofKind_33 : decode cX8_ofKind 33 = .ok (.goto 4, 3) := by decide +kernel
theorem dX8_ofKind_36 : decode cX8_ofKind 36 = .ok (.iconst 0, 1) := by decide +kernel
theorem dX8_ofKind_37 : decode cX8_ofKind 37 = .ok (.iadd, 1) := by decide +kernel
theorem dX8_ofKind_38 : decode cX8_ofKind 38 = .ok (.istore_n 2, 1) := by decide +kernel
theorem dX8_ofKind_39 : decode cX8_ofKind 39 = .ok (.iinc 3 1, 3) := by decide +kernel
theorem dX8_ofKind_42 : decode cX8_ofKind 42 = .ok (.goto (-38), 3) := by decide +kernel
theorem dX8_ofKind_45 : decode cX8_ofKind 45 = .ok (.iload_n 2, 1) := by decide +kernel
theorem dX8_ofKind_46 : decode cX8_ofKind 46 = .ok (.ireturn, 1) := by decide +kernel
theorem dX8_count_0 : decode cX8_count 0 = .ok (.iconst 0, 1) := by decide +kernel
theorem dX8_count_1 : decode cX8_count 1 = .ok (.istore_n 2, 1) := by decide +kernel
theorem dX8_count_2 : decode cX8_count 2 = .ok (.iload_n 1, 1) := by decide +kernel
theorem dX8_count_3 : decode cX8_count 3 = .ok (.tableswitch 235 0 12 #[65, 73, 80, 85, 93, 100, 107, 115, 122, 155, 187, 223, 229], 65) := by decide +kernel
theorem dX8_count_68 : decode cX8_count 68 = .ok (.aload_n 0, 1) := by decide +kernel
theorem dX8_count_69 : decode cX8_count 69 = .ok (.getfield 26, 3) := by decide +kernel
theorem dX8_count_72 : decode cX8_count 72 = .ok (.bipush 18, 2) := by decide +kernel
theorem dX8_count_74 : decode cX8_count 74 = .ok (.iaload, 1) := by decide +kernel
theorem dX8_count_75 : decode cX8_count 75 = .ok (.ireturn, 1) := by decide +kernel
theorem dX8_count_76 : decode cX8_count 76 = .ok (.aload_n 0, 1) := by decide +kernel
theorem dX8_count_77 : decode cX8_count 77 = .ok (.getfield 26, 3) := by decide +kernel
theorem dX8_count_80 : decode cX8_count 80 = .ok (.iconst 1, 1) := by decide +kernel
theorem dX8_count_81 : decode cX8_count 81 = .ok (.iaload, 1) := by decide +kernel
theorem dX8_count_82 : decode cX8_count 82 = .ok (.ireturn, 1) := by decide +kernel
theorem dX8_count_83 : decode cX8_count 83 = .ok (.aload_n 0, 1) := by decide +kernel
theorem dX8_count_84 : decode cX8_count 84 = .ok (.getfield 111, 3) := by decide +kernel
theorem dX8_count_87 : decode cX8_count 87 = .ok (.ireturn, 1) := by decide +kernel
theorem dX8_count_88 : decode cX8_count 88 = .ok (.aload_n 0, 1) := by decide +kernel
theorem dX8_count_89 : decode cX8_count 89 = .ok (.getfield 26, 3) := by decide +kernel
theorem dX8_count_92 : decode cX8_count 92 = .ok (.invokestatic 167, 3) := by decide +kernel
theorem dX8_count_95 : decode cX8_count 95 = .ok (.ireturn, 1) := by decide +kernel
theorem dX8_count_96 : decode cX8_count 96 = .ok (.aload_n 0, 1) := by decide +kernel
theorem dX8_count_97 : decode cX8_count 97 = .ok (.getfield 26, 3) := by decide +kernel
theorem dX8_count_100 : decode cX8_count 100 = .ok (.iconst 2, 1) := by decide +kernel
theorem dX8_count_101 : decode cX8_count 101 = .ok (.iaload, 1) := by decide +kernel
theorem dX8_count_102 : decode cX8_count 102 = .ok (.ireturn, 1) := by decide +kernel
theorem dX8_count_103 : decode cX8_count 103 = .ok (.aload_n 0, 1) := by decide +kernel
theorem dX8_count_104 : decode cX8_count 104 = .ok (.getfield 26, 3) := by decide +kernel
theorem dX8_count_107 : decode cX8_count 107 = .ok (.iconst 3, 1) := by decide +kernel
theorem dX8_count_108 : decode cX8_count 108 = .ok (.iaload, 1) := by decide +kernel
theorem dX8_count_109 : decode cX8_count 109 = .ok (.ireturn, 1) := by decide +kernel
theorem dX8_count_110 : decode cX8_count 110 = .ok (.aload_n 0, 1) := by decide +kernel
theorem dX8_count_111 : decode cX8_count 111 = .ok (.getfield 26, 3) := by decide +kernel
theorem dX8_count_114 : decode cX8_count 114 = .ok (.invokestatic 160, 3) := by decide +kernel
theorem dX8_count_117 : decode cX8_count 117 = .ok (.ireturn, 1) := by decide +kernel
theorem dX8_count_118 : decode cX8_count 118 = .ok (.aload_n 0, 1) := by decide +kernel
theorem dX8_count_119 : decode cX8_count 119 = .ok (.getfield 26, 3) := by decide +kernel
theorem dX8_count_122 : decode cX8_count 122 = .ok (.iconst 0, 1) := by decide +kernel
theorem dX8_count_123 : decode cX8_count 123 = .ok (.iaload, 1) := by decide +kernel
theorem dX8_count_124 : decode cX8_count 124 = .ok (.ireturn, 1) := by decide +kernel
theorem dX8_count_125 : decode cX8_count 125 = .ok (.iconst 0, 1) := by decide +kernel
theorem dX8_count_126 : decode cX8_count 126 = .ok (.istore_n 3, 1) := by decide +kernel
theorem dX8_count_127 : decode cX8_count 127 = .ok (.iload_n 3, 1) := by decide +kernel
theorem dX8_count_128 : decode cX8_count 128 = .ok (.bipush 6, 2) := by decide +kernel
theorem dX8_count_130 : decode cX8_count 130 = .ok (.if_icmp .ge 26, 3) := by decide +kernel
theorem dX8_count_133 : decode cX8_count 133 = .ok (.iload_n 2, 1) := by decide +kernel
theorem dX8_count_134 : decode cX8_count 134 = .ok (.aload_n 0, 1) := by decide +kernel
theorem dX8_count_135 : decode cX8_count 135 = .ok (.getfield 7, 3) := by decide +kernel
theorem dX8_count_138 : decode cX8_count 138 = .ok (.iload_n 3, 1) := by decide +kernel
theorem dX8_count_139 : decode cX8_count 139 = .ok (.iaload, 1) := by decide +kernel
theorem dX8_count_140 : decode cX8_count 140 = .ok (.ifCond .ge 7, 3) := by decide +kernel
theorem dX8_count_143 : decode cX8_count 143 = .ok (.iconst 0, 1) := by decide +kernel
theorem dX8_count_144 : decode cX8_count 144 = .ok (.goto 4, 3) := by decide +kernel
theorem dX8_count_147 : decode cX8_count 147 = .ok (.iconst 1, 1) := by decide +kernel
theorem dX8_count_148 : decode cX8_count 148 = .ok (.iadd, 1) := by decide +kernel
theorem dX8_count_149 : decode cX8_count 149 = .ok (.istore_n 2, 1) := by decide +kernel
theorem dX8_count_150 : decode cX8_count 150 = .ok (.iinc 3 1, 3) := by decide +kernel
theorem dX8_count_153 : decode cX8_count 153 = .ok (.goto (-26), 3) := by decide +kernel
theorem dX8_count_156 : decode cX8_count 156 = .ok (.iload_n 2, 1) := by decide +kernel
theorem dX8_count_157 : decode cX8_count 157 = .ok (.ireturn, 1) := by decide +kernel
theorem dX8_count_158 : decode cX8_count 158 = .ok (.iconst 0, 1) := by decide +kernel
theorem dX8_count_159 : decode cX8_count 159 = .ok (.istore_n 3, 1) := by decide +kernel
theorem dX8_count_160 : decode cX8_count 160 = .ok (.iload_n 3, 1) := by decide +kernel
theorem dX8_count_161 : decode cX8_count 161 = .ok (.iconst 4, 1) := by decide +kernel
theorem dX8_count_162 : decode cX8_count 162 = .ok (.if_icmp .ge 26, 3) := by decide +kernel
theorem dX8_count_165 : decode cX8_count 165 = .ok (.iload_n 2, 1) := by decide +kernel
theorem dX8_count_166 : decode cX8_count 166 = .ok (.aload_n 0, 1) := by decide +kernel
theorem dX8_count_167 : decode cX8_count 167 = .ok (.getfield 19, 3) := by decide +kernel
theorem dX8_count_170 : decode cX8_count 170 = .ok (.iload_n 3, 1) := by decide +kernel
theorem dX8_count_171 : decode cX8_count 171 = .ok (.iaload, 1) := by decide +kernel
theorem dX8_count_172 : decode cX8_count 172 = .ok (.ifCond .ge 7, 3) := by decide +kernel
theorem dX8_count_175 : decode cX8_count 175 = .ok (.iconst 0, 1) := by decide +kernel
theorem dX8_count_176 : decode cX8_count 176 = .ok (.goto 4, 3) := by decide +kernel
theorem dX8_count_179 : decode cX8_count 179 = .ok (.iconst 1, 1) := by decide +kernel
theorem dX8_count_180 : decode cX8_count 180 = .ok (.iadd, 1) := by decide +kernel
theorem dX8_count_181 : decode cX8_count 181 = .ok (.istore_n 2, 1) := by decide +kernel
theorem dX8_count_182 : decode cX8_count 182 = .ok (.iinc 3 1, 3) := by decide +kernel
theorem dX8_count_185 : decode cX8_count 185 = .ok (.goto (-25), 3) := by decide +kernel
theorem dX8_count_188 : decode cX8_count 188 = .ok (.iload_n 2, 1) := by decide +kernel
theorem dX8_count_189 : decode cX8_count 189 = .ok (.ireturn, 1) := by decide +kernel
theorem dX8_count_190 : decode cX8_count 190 = .ok (.iconst 0, 1) := by decide +kernel
theorem dX8_count_191 : decode cX8_count 191 = .ok (.istore_n 3, 1) := by decide +kernel
theorem dX8_count_192 : decode cX8_count 192 = .ok (.iload_n 3, 1) := by decide +kernel
theorem dX8_count_193 : decode cX8_count 193 = .ok (.aload_n 0, 1) := by decide +kernel
theorem dX8_count_194 : decode cX8_count 194 = .ok (.getfield 47, 3) := by decide +kernel
theorem dX8_count_197 : decode cX8_count 197 = .ok (.arraylength, 1) := by decide +kernel
theorem dX8_count_198 : decode cX8_count 198 = .ok (.if_icmp .ge 26, 3) := by decide +kernel
theorem dX8_count_201 : decode cX8_count 201 = .ok (.iload_n 2, 1) := by decide +kernel
theorem dX8_count_202 : decode cX8_count 202 = .ok (.aload_n 0, 1) := by decide +kernel
theorem dX8_count_203 : decode cX8_count 203 = .ok (.getfield 47, 3) := by decide +kernel
theorem dX8_count_206 : decode cX8_count 206 = .ok (.iload_n 3, 1) := by decide +kernel
theorem dX8_count_207 : decode cX8_count 207 = .ok (.iaload, 1) := by decide +kernel
theorem dX8_count_208 : decode cX8_count 208 = .ok (.ifCond .ge 7, 3) := by decide +kernel
theorem dX8_count_211 : decode cX8_count 211 = .ok (.iconst 0, 1) := by decide +kernel
theorem dX8_count_212 : decode cX8_count 212 = .ok (.goto 4, 3) := by decide +kernel
theorem dX8_count_215 : decode cX8_count 215 = .ok (.iconst 1, 1) := by decide +kernel
theorem dX8_count_216 : decode cX8_count 216 = .ok (.iadd, 1) := by decide +kernel
theorem dX8_count_217 : decode cX8_count 217 = .ok (.istore_n 2, 1) := by decide +kernel
theorem dX8_count_218 : decode cX8_count 218 = .ok (.iinc 3 1, 3) := by decide +kernel
theorem dX8_count_221 : decode cX8_count 221 = .ok (.goto (-29), 3) := by decide +kernel
theorem dX8_count_224 : decode cX8_count 224 = .ok (.iload_n 2, 1) := by decide +kernel
theorem dX8_count_225 : decode cX8_count 225 = .ok (.ireturn, 1) := by decide +kernel
theorem dX8_count_226 : decode cX8_count 226 = .ok (.aload_n 0, 1) := by decide +kernel
theorem dX8_count_227 : decode cX8_count 227 = .ok (.iconst 1, 1) := by decide +kernel
theorem dX8_count_228 : decode cX8_count 228 = .ok (.invokevirtual 221, 3) := by decide +kernel
theorem dX8_count_231 : decode cX8_count 231 = .ok (.ireturn, 1) := by decide +kernel
theorem dX8_count_232 : decode cX8_count 232 = .ok (.aload_n 0, 1) := by decide +kernel
theorem dX8_count_233 : decode cX8_count 233 = .ok (.iconst 2, 1) := by decide +kernel
theorem dX8_count_234 : decode cX8_count 234 = .ok (.invokevirtual 221, 3) := by decide +kernel
theorem dX8_count_237 : decode cX8_count 237 = .ok (.ireturn, 1) := by decide +kernel
theorem dX8_count_238 : decode cX8_count 238 = .ok (.iconst (-1), 1) := by decide +kernel
theorem dX8_count_239 : decode cX8_count 239 = .ok (.ireturn, 1) := by decide +kernel
theorem dX8_finding_0 : decode cX8_finding 0 = .ok (.aload_n 0, 1) := by decide +kernel
theorem dX8_finding_1 : decode cX8_finding 1 = .ok (.getfield 66, 3) := by decide +kernel
theorem dX8_finding_4 : decode cX8_finding 4 = .ok (.ireturn, 1) := by decide +kernel
theorem dX8_findings_0 : decode cX8_findings 0 = .ok (.iload_n 1, 1) := by decide +kernel
theorem dX8_findings_1 : decode cX8_findings 1 = .ok (.iconst 1, 1) := by decide +kernel
theorem dX8_findings_2 : decode cX8_findings 2 = .ok (.iconst 5, 1) := by decide +kernel
theorem dX8_findings_3 : decode cX8_findings 3 = .ok (.invokestatic 73, 3) := by decide +kernel
theorem dX8_findings_6 : decode cX8_findings 6 = .ok (.ifCond .eq 12, 3) := by decide +kernel
theorem dX8_findings_9 : decode cX8_findings 9 = .ok (.aload_n 0, 1) := by decide +kernel
theorem dX8_findings_10 : decode cX8_findings 10 = .ok (.getfield 54, 3) := by decide +kernel
theorem dX8_findings_13 : decode cX8_findings 13 = .ok (.iload_n 1, 1) := by decide +kernel
theorem dX8_findings_14 : decode cX8_findings 14 = .ok (.iaload, 1) := by decide +kernel
theorem dX8_findings_15 : decode cX8_findings 15 = .ok (.goto 4, 3) := by decide +kernel
theorem dX8_findings_18 : decode cX8_findings 18 = .ok (.iconst (-1), 1) := by decide +kernel
theorem dX8_findings_19 : decode cX8_findings 19 = .ok (.ireturn, 1) := by decide +kernel
theorem dX8_of_0 : decode cX8_of 0 = .ok (.iload_n 2, 1) := by decide +kernel
theorem dX8_of_1 : decode cX8_of 1 = .ok (.ifCond .ne 15, 3) := by decide +kernel
theorem dX8_of_4 : decode cX8_of 4 = .ok (.aload_n 0, 1) := by decide +kernel
theorem dX8_of_5 : decode cX8_of 5 = .ok (.getfield 26, 3) := by decide +kernel
theorem dX8_of_8 : decode cX8_of 8 = .ok (.bipush 19, 2) := by decide +kernel
theorem dX8_of_10 : decode cX8_of 10 = .ok (.iload_n 1, 1) := by decide +kernel
theorem dX8_of_11 : decode cX8_of 11 = .ok (.iadd, 1) := by decide +kernel
theorem dX8_of_12 : decode cX8_of 12 = .ok (.iaload, 1) := by decide +kernel
theorem dX8_of_13 : decode cX8_of 13 = .ok (.goto 103, 3) := by decide +kernel
theorem dX8_of_16 : decode cX8_of 16 = .ok (.iload_n 2, 1) := by decide +kernel
theorem dX8_of_17 : decode cX8_of 17 = .ok (.iconst 1, 1) := by decide +kernel
theorem dX8_of_18 : decode cX8_of 18 = .ok (.if_icmp .ne 14, 3) := by decide +kernel
theorem dX8_of_21 : decode cX8_of 21 = .ok (.aload_n 0, 1) := by decide +kernel
theorem dX8_of_22 : decode cX8_of 22 = .ok (.getfield 26, 3) := by decide +kernel
theorem dX8_of_25 : decode cX8_of 25 = .ok (.iconst 4, 1) := by decide +kernel
theorem dX8_of_26 : decode cX8_of 26 = .ok (.iload_n 1, 1) := by decide +kernel
theorem dX8_of_27 : decode cX8_of 27 = .ok (.iadd, 1) := by decide +kernel
theorem dX8_of_28 : decode cX8_of 28 = .ok (.iaload, 1) := by decide +kernel
theorem dX8_of_29 : decode cX8_of 29 = .ok (.goto 87, 3) := by decide +kernel
theorem dX8_of_32 : decode cX8_of 32 = .ok (.iload_n 2, 1) := by decide +kernel
theorem dX8_of_33 : decode cX8_of 33 = .ok (.iconst 2, 1) := by decide +kernel
theorem dX8_of_34 : decode cX8_of 34 = .ok (.if_icmp .ne 15, 3) := by decide +kernel
theorem dX8_of_37 : decode cX8_of 37 = .ok (.aload_n 0, 1) := by decide +kernel
theorem dX8_of_38 : decode cX8_of 38 = .ok (.getfield 26, 3) := by decide +kernel
theorem dX8_of_41 : decode cX8_of 41 = .ok (.bipush 11, 2) := by decide +kernel
theorem dX8_of_43 : decode cX8_of 43 = .ok (.iload_n 1, 1) := by decide +kernel
theorem dX8_of_44 : decode cX8_of 44 = .ok (.iadd, 1) := by decide +kernel
theorem dX8_of_45 : decode cX8_of 45 = .ok (.iaload, 1) := by decide +kernel
theorem dX8_of_46 : decode cX8_of 46 = .ok (.goto 70, 3) := by decide +kernel
theorem dX8_of_49 : decode cX8_of 49 = .ok (.iload_n 2, 1) := by decide +kernel
theorem dX8_of_50 : decode cX8_of 50 = .ok (.iconst 3, 1) := by decide +kernel
theorem dX8_of_51 : decode cX8_of 51 = .ok (.if_icmp .ne 15, 3) := by decide +kernel
theorem dX8_of_54 : decode cX8_of 54 = .ok (.aload_n 0, 1) := by decide +kernel
theorem dX8_of_55 : decode cX8_of 55 = .ok (.getfield 26, 3) := by decide +kernel
theorem dX8_of_58 : decode cX8_of 58 = .ok (.bipush 26, 2) := by decide +kernel
theorem dX8_of_60 : decode cX8_of 60 = .ok (.iload_n 1, 1) := by decide +kernel
theorem dX8_of_61 : decode cX8_of 61 = .ok (.iadd, 1) := by decide +kernel
theorem dX8_of_62 : decode cX8_of 62 = .ok (.iaload, 1) := by decide +kernel
theorem dX8_of_63 : decode cX8_of 63 = .ok (.goto 53, 3) := by decide +kernel
theorem dX8_of_66 : decode cX8_of 66 = .ok (.iload_n 2, 1) := by decide +kernel
theorem dX8_of_67 : decode cX8_of 67 = .ok (.iconst 4, 1) := by decide +kernel
theorem dX8_of_68 : decode cX8_of 68 = .ok (.if_icmp .ne 16, 3) := by decide +kernel
theorem dX8_of_71 : decode cX8_of 71 = .ok (.aload_n 0, 1) := by decide +kernel
theorem dX8_of_72 : decode cX8_of 72 = .ok (.getfield 26, 3) := by decide +kernel
theorem dX8_of_75 : decode cX8_of 75 = .ok (.iconst 3, 1) := by decide +kernel
theorem dX8_of_76 : decode cX8_of 76 = .ok (.iaload, 1) := by decide +kernel
theorem dX8_of_77 : decode cX8_of 77 = .ok (.iload_n 1, 1) := by decide +kernel
theorem dX8_of_78 : decode cX8_of 78 = .ok (.ishr, 1) := by decide +kernel
theorem dX8_of_79 : decode cX8_of 79 = .ok (.iconst 1, 1) := by decide +kernel
theorem dX8_of_80 : decode cX8_of 80 = .ok (.iand, 1) := by decide +kernel
theorem dX8_of_81 : decode cX8_of 81 = .ok (.goto 35, 3) := by decide +kernel
theorem dX8_of_84 : decode cX8_of 84 = .ok (.iload_n 2, 1) := by decide +kernel
theorem dX8_of_85 : decode cX8_of 85 = .ok (.iconst 5, 1) := by decide +kernel
theorem dX8_of_86 : decode cX8_of 86 = .ok (.if_icmp .ne 22, 3) := by decide +kernel
theorem dX8_of_89 : decode cX8_of 89 = .ok (.aload_n 0, 1) := by decide +kernel
theorem dX8_of_90 : decode cX8_of 90 = .ok (.getfield 26, 3) := by decide +kernel
theorem dX8_of_93 : decode cX8_of 93 = .ok (.iload_n 1, 1) := by decide +kernel
theorem dX8_of_94 : decode cX8_of 94 = .ok (.invokestatic 129, 3) := by decide +kernel
theorem dX8_of_97 : decode cX8_of 97 = .ok (.ifCond .eq 7, 3) := by decide +kernel
theorem dX8_of_100 : decode cX8_of 100 = .ok (.iconst 1, 1) := by decide +kernel
theorem dX8_of_101 : decode cX8_of 101 = .ok (.goto 15, 3) := by decide +kernel
theorem dX8_of_104 : decode cX8_of 104 = .ok (.iconst 0, 1) := by decide +kernel
theorem dX8_of_105 : decode cX8_of 105 = .ok (.goto 11, 3) := by decide +kernel
theorem dX8_of_108 : decode cX8_of 108 = .ok (.aload_n 0, 1) := by decide +kernel
theorem dX8_of_109 : decode cX8_of 109 = .ok (.getfield 26, 3) := by decide +kernel
theorem dX8_of_112 : decode cX8_of 112 = .ok (.iload_n 1, 1) := by decide +kernel
theorem dX8_of_113 : decode cX8_of 113 = .ok (.invokestatic 133, 3) := by decide +kernel
theorem dX8_of_116 : decode cX8_of 116 = .ok (.ireturn, 1) := by decide +kernel
theorem dX8_digest_0 : decode cX8_digest 0 = .ok (.ldc2_w 224, 3) := by decide +kernel
theorem dX8_digest_3 : decode cX8_digest 3 = .ok (.lstore_n 1, 1) := by decide +kernel
theorem dX8_digest_4 : decode cX8_digest 4 = .ok (.iconst 0, 1) := by decide +kernel
theorem dX8_digest_5 : decode cX8_digest 5 = .ok (.istore_n 3, 1) := by decide +kernel
theorem dX8_digest_6 : decode cX8_digest 6 = .ok (.iload_n 3, 1) := by decide +kernel
theorem dX8_digest_7 : decode cX8_digest 7 = .ok (.bipush 13, 2) := by decide +kernel
theorem dX8_digest_9 : decode cX8_digest 9 = .ok (.if_icmp .ge 22, 3) := by decide +kernel
theorem dX8_digest_12 : decode cX8_digest 12 = .ok (.ldc2_w 226, 3) := by decide +kernel
theorem dX8_digest_15 : decode cX8_digest 15 = .ok (.lload_n 1, 1) := by decide +kernel
theorem dX8_digest_16 : decode cX8_digest 16 = .ok (.lmul, 1) := by decide +kernel
theorem dX8_digest_17 : decode cX8_digest 17 = .ok (.aload_n 0, 1) := by decide +kernel
theorem dX8_digest_18 : decode cX8_digest 18 = .ok (.iload_n 3, 1) := by decide +kernel
theorem dX8_digest_19 : decode cX8_digest 19 = .ok (.invokevirtual 228, 3) := by decide +kernel
theorem dX8_digest_22 : decode cX8_digest 22 = .ok (.i2l, 1) := by decide +kernel
theorem dX8_digest_23 : decode cX8_digest 23 = .ok (.ladd, 1) := by decide +kernel
theorem dX8_digest_24 : decode cX8_digest 24 = .ok (.lstore_n 1, 1) := by decide +kernel
theorem dX8_digest_25 : decode cX8_digest 25 = .ok (.iinc 3 1, 3) := by decide +kernel
theorem dX8_digest_28 : decode cX8_digest 28 = .ok (.goto (-22), 3) := by decide +kernel
theorem dX8_digest_31 : decode cX8_digest 31 = .ok (.iconst 0, 1) := by decide +kernel
theorem dX8_digest_32 : decode cX8_digest 32 = .ok (.istore_n 3, 1) := by decide +kernel
theorem dX8_digest_33 : decode cX8_digest 33 = .ok (.iload_n 3, 1) := by decide +kernel
theorem dX8_digest_34 : decode cX8_digest 34 = .ok (.aload_n 0, 1) := by decide +kernel
theorem dX8_digest_35 : decode cX8_digest 35 = .ok (.getfield 26, 3) := by decide +kernel
theorem dX8_digest_38 : decode cX8_digest 38 = .ok (.bipush 18, 2) := by decide +kernel
theorem dX8_digest_40 : decode cX8_digest 40 = .ok (.iaload, 1) := by decide +kernel
theorem dX8_digest_41 : decode cX8_digest 41 = .ok (.if_icmp .ge 40, 3) := by decide +kernel
theorem dX8_digest_44 : decode cX8_digest 44 = .ok (.iconst 0, 1) := by decide +kernel
theorem dX8_digest_45 : decode cX8_digest 45 = .ok (.istore 4, 2) := by decide +kernel
theorem dX8_digest_47 : decode cX8_digest 47 = .ok (.iload 4, 2) := by decide +kernel
theorem dX8_digest_49 : decode cX8_digest 49 = .ok (.bipush 7, 2) := by decide +kernel
theorem dX8_digest_51 : decode cX8_digest 51 = .ok (.if_icmp .ge 24, 3) := by decide +kernel
theorem dX8_digest_54 : decode cX8_digest 54 = .ok (.ldc2_w 226, 3) := by decide +kernel
theorem dX8_digest_57 : decode cX8_digest 57 = .ok (.lload_n 1, 1) := by decide +kernel
theorem dX8_digest_58 : decode cX8_digest 58 = .ok (.lmul, 1) := by decide +kernel
theorem dX8_digest_59 : decode cX8_digest 59 = .ok (.aload_n 0, 1) := by decide +kernel
theorem dX8_digest_60 : decode cX8_digest 60 = .ok (.iload_n 3, 1) := by decide +kernel
theorem dX8_digest_61 : decode cX8_digest 61 = .ok (.iload 4, 2) := by decide +kernel
theorem dX8_digest_63 : decode cX8_digest 63 = .ok (.invokevirtual 231, 3) := by decide +kernel
theorem dX8_digest_66 : decode cX8_digest 66 = .ok (.i2l, 1) := by decide +kernel
theorem dX8_digest_67 : decode cX8_digest 67 = .ok (.ladd, 1) := by decide +kernel
theorem dX8_digest_68 : decode cX8_digest 68 = .ok (.lstore_n 1, 1) := by decide +kernel
theorem dX8_digest_69 : decode cX8_digest 69 = .ok (.iinc 4 1, 3) := by decide +kernel
theorem dX8_digest_72 : decode cX8_digest 72 = .ok (.goto (-25), 3) := by decide +kernel
theorem dX8_digest_75 : decode cX8_digest 75 = .ok (.iinc 3 1, 3) := by decide +kernel
theorem dX8_digest_78 : decode cX8_digest 78 = .ok (.goto (-45), 3) := by decide +kernel
theorem dX8_digest_81 : decode cX8_digest 81 = .ok (.iconst 0, 1) := by decide +kernel
theorem dX8_digest_82 : decode cX8_digest 82 = .ok (.istore_n 3, 1) := by decide +kernel
theorem dX8_digest_83 : decode cX8_digest 83 = .ok (.iload_n 3, 1) := by decide +kernel
theorem dX8_digest_84 : decode cX8_digest 84 = .ok (.aload_n 0, 1) := by decide +kernel
theorem dX8_digest_85 : decode cX8_digest 85 = .ok (.getfield 47, 3) := by decide +kernel
theorem dX8_digest_88 : decode cX8_digest 88 = .ok (.arraylength, 1) := by decide +kernel
theorem dX8_digest_89 : decode cX8_digest 89 = .ok (.if_icmp .ge 23, 3) := by decide +kernel
theorem dX8_digest_92 : decode cX8_digest 92 = .ok (.ldc2_w 226, 3) := by decide +kernel
theorem dX8_digest_95 : decode cX8_digest 95 = .ok (.lload_n 1, 1) := by decide +kernel
theorem dX8_digest_96 : decode cX8_digest 96 = .ok (.lmul, 1) := by decide +kernel
theorem dX8_digest_97 : decode cX8_digest 97 = .ok (.aload_n 0, 1) := by decide +kernel
theorem dX8_digest_98 : decode cX8_digest 98 = .ok (.getfield 47, 3) := by decide +kernel
theorem dX8_digest_101 : decode cX8_digest 101 = .ok (.iload_n 3, 1) := by decide +kernel
theorem dX8_digest_102 : decode cX8_digest 102 = .ok (.iaload, 1) := by decide +kernel
theorem dX8_digest_103 : decode cX8_digest 103 = .ok (.i2l, 1) := by decide +kernel
theorem dX8_digest_104 : decode cX8_digest 104 = .ok (.ladd, 1) := by decide +kernel
theorem dX8_digest_105 : decode cX8_digest 105 = .ok (.lstore_n 1, 1) := by decide +kernel
theorem dX8_digest_106 : decode cX8_digest 106 = .ok (.iinc 3 1, 3) := by decide +kernel
theorem dX8_digest_109 : decode cX8_digest 109 = .ok (.goto (-26), 3) := by decide +kernel
theorem dX8_digest_112 : decode cX8_digest 112 = .ok (.iconst 0, 1) := by decide +kernel
theorem dX8_digest_113 : decode cX8_digest 113 = .ok (.istore_n 3, 1) := by decide +kernel
theorem dX8_digest_114 : decode cX8_digest 114 = .ok (.iload_n 3, 1) := by decide +kernel
theorem dX8_digest_115 : decode cX8_digest 115 = .ok (.bipush 6, 2) := by decide +kernel
theorem dX8_digest_117 : decode cX8_digest 117 = .ok (.if_icmp .ge 63, 3) := by decide +kernel
theorem dX8_digest_120 : decode cX8_digest 120 = .ok (.ldc2_w 226, 3) := by decide +kernel
theorem dX8_digest_123 : decode cX8_digest 123 = .ok (.lload_n 1, 1) := by decide +kernel
theorem dX8_digest_124 : decode cX8_digest 124 = .ok (.lmul, 1) := by decide +kernel
theorem dX8_digest_125 : decode cX8_digest 125 = .ok (.aload_n 0, 1) := by decide +kernel
theorem dX8_digest_126 : decode cX8_digest 126 = .ok (.getfield 7, 3) := by decide +kernel
theorem dX8_digest_129 : decode cX8_digest 129 = .ok (.iload_n 3, 1) := by decide +kernel
theorem dX8_digest_130 : decode cX8_digest 130 = .ok (.iaload, 1) := by decide +kernel
theorem dX8_digest_131 : decode cX8_digest 131 = .ok (.i2l, 1) := by decide +kernel
theorem dX8_digest_132 : decode cX8_digest 132 = .ok (.ladd, 1) := by decide +kernel
theorem dX8_digest_133 : decode cX8_digest 133 = .ok (.lstore_n 1, 1) := by decide +kernel
theorem dX8_digest_134 : decode cX8_digest 134 = .ok (.iconst 0, 1) := by decide +kernel
theorem dX8_digest_135 : decode cX8_digest 135 = .ok (.istore 4, 2) := by decide +kernel
theorem dX8_digest_137 : decode cX8_digest 137 = .ok (.iload 4, 2) := by decide +kernel
theorem dX8_digest_139 : decode cX8_digest 139 = .ok (.aload_n 0, 1) := by decide +kernel
theorem dX8_digest_140 : decode cX8_digest 140 = .ok (.getfield 7, 3) := by decide +kernel
theorem dX8_digest_143 : decode cX8_digest 143 = .ok (.iload_n 3, 1) := by decide +kernel
theorem dX8_digest_144 : decode cX8_digest 144 = .ok (.iaload, 1) := by decide +kernel
theorem dX8_digest_145 : decode cX8_digest 145 = .ok (.if_icmp .ge 29, 3) := by decide +kernel
theorem dX8_digest_148 : decode cX8_digest 148 = .ok (.ldc2_w 226, 3) := by decide +kernel
theorem dX8_digest_151 : decode cX8_digest 151 = .ok (.lload_n 1, 1) := by decide +kernel
theorem dX8_digest_152 : decode cX8_digest 152 = .ok (.lmul, 1) := by decide +kernel
theorem dX8_digest_153 : decode cX8_digest 153 = .ok (.aload_n 0, 1) := by decide +kernel
theorem dX8_digest_154 : decode cX8_digest 154 = .ok (.getfield 13, 3) := by decide +kernel
theorem dX8_digest_157 : decode cX8_digest 157 = .ok (.bipush 40, 2) := by decide +kernel
theorem dX8_digest_159 : decode cX8_digest 159 = .ok (.iload_n 3, 1) := by decide +kernel
theorem dX8_digest_160 : decode cX8_digest 160 = .ok (.imul, 1) := by decide +kernel
theorem dX8_digest_161 : decode cX8_digest 161 = .ok (.iload 4, 2) := by decide +kernel
theorem dX8_digest_163 : decode cX8_digest 163 = .ok (.iadd, 1) := by decide +kernel
theorem dX8_digest_164 : decode cX8_digest 164 = .ok (.iaload, 1) := by decide +kernel
theorem dX8_digest_165 : decode cX8_digest 165 = .ok (.i2l, 1) := by decide +kernel
theorem dX8_digest_166 : decode cX8_digest 166 = .ok (.ladd, 1) := by decide +kernel
theorem dX8_digest_167 : decode cX8_digest 167 = .ok (.lstore_n 1, 1) := by decide +kernel
theorem dX8_digest_168 : decode cX8_digest 168 = .ok (.iinc 4 1, 3) := by decide +kernel
theorem dX8_digest_171 : decode cX8_digest 171 = .ok (.goto (-34), 3) := by decide +kernel
theorem dX8_digest_174 : decode cX8_digest 174 = .ok (.iinc 3 1, 3) := by decide +kernel
theorem dX8_digest_177 : decode cX8_digest 177 = .ok (.goto (-63), 3) := by decide +kernel
theorem dX8_digest_180 : decode cX8_digest 180 = .ok (.iconst 0, 1) := by decide +kernel
theorem dX8_digest_181 : decode cX8_digest 181 = .ok (.istore_n 3, 1) := by decide +kernel
theorem dX8_digest_182 : decode cX8_digest 182 = .ok (.iload_n 3, 1) := by decide +kernel
theorem dX8_digest_183 : decode cX8_digest 183 = .ok (.iconst 4, 1) := by decide +kernel
theorem dX8_digest_184 : decode cX8_digest 184 = .ok (.if_icmp .ge 63, 3) := by decide +kernel
theorem dX8_digest_187 : decode cX8_digest 187 = .ok (.ldc2_w 226, 3) := by decide +kernel
theorem dX8_digest_190 : decode cX8_digest 190 = .ok (.lload_n 1, 1) := by decide +kernel
theorem dX8_digest_191 : decode cX8_digest 191 = .ok (.lmul, 1) := by decide +kernel
theorem dX8_digest_192 : decode cX8_digest 192 = .ok (.aload_n 0, 1) := by decide +kernel
theorem dX8_digest_193 : decode cX8_digest 193 = .ok (.getfield 19, 3) := by decide +kernel
theorem dX8_digest_196 : decode cX8_digest 196 = .ok (.iload_n 3, 1) := by decide +kernel
theorem dX8_digest_197 : decode cX8_digest 197 = .ok (.iaload, 1) := by decide +kernel
theorem dX8_digest_198 : decode cX8_digest 198 = .ok (.i2l, 1) := by decide +kernel
theorem dX8_digest_199 : decode cX8_digest 199 = .ok (.ladd, 1) := by decide +kernel
theorem dX8_digest_200 : decode cX8_digest 200 = .ok (.lstore_n 1, 1) := by decide +kernel
theorem dX8_digest_201 : decode cX8_digest 201 = .ok (.iconst 0, 1) := by decide +kernel
theorem dX8_digest_202 : decode cX8_digest 202 = .ok (.istore 4, 2) := by decide +kernel
theorem dX8_digest_204 : decode cX8_digest 204 = .ok (.iload 4, 2) := by decide +kernel
theorem dX8_digest_206 : decode cX8_digest 206 = .ok (.aload_n 0, 1) := by decide +kernel
theorem dX8_digest_207 : decode cX8_digest 207 = .ok (.getfield 19, 3) := by decide +kernel
theorem dX8_digest_210 : decode cX8_digest 210 = .ok (.iload_n 3, 1) := by decide +kernel
theorem dX8_digest_211 : decode cX8_digest 211 = .ok (.iaload, 1) := by decide +kernel
theorem dX8_digest_212 : decode cX8_digest 212 = .ok (.if_icmp .ge 29, 3) := by decide +kernel
theorem dX8_digest_215 : decode cX8_digest 215 = .ok (.ldc2_w 226, 3) := by decide +kernel
theorem dX8_digest_218 : decode cX8_digest 218 = .ok (.lload_n 1, 1) := by decide +kernel
theorem dX8_digest_219 : decode cX8_digest 219 = .ok (.lmul, 1) := by decide +kernel
theorem dX8_digest_220 : decode cX8_digest 220 = .ok (.aload_n 0, 1) := by decide +kernel
theorem dX8_digest_221 : decode cX8_digest 221 = .ok (.getfield 22, 3) := by decide +kernel
theorem dX8_digest_224 : decode cX8_digest 224 = .ok (.bipush 60, 2) := by decide +kernel
theorem dX8_digest_226 : decode cX8_digest 226 = .ok (.iload_n 3, 1) := by decide +kernel
theorem dX8_digest_227 : decode cX8_digest 227 = .ok (.imul, 1) := by decide +kernel
theorem dX8_digest_228 : decode cX8_digest 228 = .ok (.iload 4, 2) := by decide +kernel
theorem dX8_digest_230 : decode cX8_digest 230 = .ok (.iadd, 1) := by decide +kernel
theorem dX8_digest_231 : decode cX8_digest 231 = .ok (.baload, 1) := by decide +kernel
theorem dX8_digest_232 : decode cX8_digest 232 = .ok (.i2l, 1) := by decide +kernel
theorem dX8_digest_233 : decode cX8_digest 233 = .ok (.ladd, 1) := by decide +kernel
theorem dX8_digest_234 : decode cX8_digest 234 = .ok (.lstore_n 1, 1) := by decide +kernel
theorem dX8_digest_235 : decode cX8_digest 235 = .ok (.iinc 4 1, 3) := by decide +kernel
theorem dX8_digest_238 : decode cX8_digest 238 = .ok (.goto (-34), 3) := by decide +kernel
theorem dX8_digest_241 : decode cX8_digest 241 = .ok (.iinc 3 1, 3) := by decide +kernel
theorem dX8_digest_244 : decode cX8_digest 244 = .ok (.goto (-62), 3) := by decide +kernel
theorem dX8_digest_247 : decode cX8_digest 247 = .ok (.lload_n 1, 1) := by decide +kernel
theorem dX8_digest_248 : decode cX8_digest 248 = .ok (.lreturn, 1) := by decide +kernel
theorem dJ6_bitCount_0f7a4_0 : decode cJ6_bitCount_0f7a4 0 = .ok (.iload_n 0, 1) := by decide +kernel
theorem dJ6_bitCount_0f7a4_1 : decode cJ6_bitCount_0f7a4 1 = .ok (.iload_n 0, 1) := by decide +kernel
theorem dJ6_bitCount_0f7a4_2 : decode cJ6_bitCount_0f7a4 2 = .ok (.iconst 1, 1) := by decide +kernel
theorem dJ6_bitCount_0f7a4_3 : decode cJ6_bitCount_0f7a4 3 = .ok (.iushr, 1) := by decide +kernel
theorem dJ6_bitCount_0f7a4_4 : decode cJ6_bitCount_0f7a4 4 = .ok (.ldc_w 265, 3) := by decide +kernel
theorem dJ6_bitCount_0f7a4_7 : decode cJ6_bitCount_0f7a4 7 = .ok (.iand, 1) := by decide +kernel
theorem dJ6_bitCount_0f7a4_8 : decode cJ6_bitCount_0f7a4 8 = .ok (.isub, 1) := by decide +kernel
theorem dJ6_bitCount_0f7a4_9 : decode cJ6_bitCount_0f7a4 9 = .ok (.istore_n 0, 1) := by decide +kernel
theorem dJ6_bitCount_0f7a4_10 : decode cJ6_bitCount_0f7a4 10 = .ok (.iload_n 0, 1) := by decide +kernel
theorem dJ6_bitCount_0f7a4_11 : decode cJ6_bitCount_0f7a4 11 = .ok (.ldc_w 266, 3) := by decide +kernel
theorem dJ6_bitCount_0f7a4_14 : decode cJ6_bitCount_0f7a4 14 = .ok (.iand, 1) := by decide +kernel
theorem dJ6_bitCount_0f7a4_15 : decode cJ6_bitCount_0f7a4 15 = .ok (.iload_n 0, 1) := by decide +kernel
theorem dJ6_bitCount_0f7a4_16 : decode cJ6_bitCount_0f7a4 16 = .ok (.iconst 2, 1) := by decide +kernel
theorem dJ6_bitCount_0f7a4_17 : decode cJ6_bitCount_0f7a4 17 = .ok (.iushr, 1) := by decide +kernel
theorem dJ6_bitCount_0f7a4_18 : decode cJ6_bitCount_0f7a4 18 = .ok (.ldc_w 266, 3) := by decide +kernel
theorem dJ6_bitCount_0f7a4_21 : decode cJ6_bitCount_0f7a4 21 = .ok (.iand, 1) := by decide +kernel
theorem dJ6_bitCount_0f7a4_22 : decode cJ6_bitCount_0f7a4 22 = .ok (.iadd, 1) := by decide +kernel
theorem dJ6_bitCount_0f7a4_23 : decode cJ6_bitCount_0f7a4 23 = .ok (.istore_n 0, 1) := by decide +kernel
theorem dJ6_bitCount_0f7a4_24 : decode cJ6_bitCount_0f7a4 24 = .ok (.iload_n 0, 1) := by decide +kernel
theorem dJ6_bitCount_0f7a4_25 : decode cJ6_bitCount_0f7a4 25 = .ok (.iload_n 0, 1) := by decide +kernel
theorem dJ6_bitCount_0f7a4_26 : decode cJ6_bitCount_0f7a4 26 = .ok (.iconst 4, 1) := by decide +kernel
theorem dJ6_bitCount_0f7a4_27 : decode cJ6_bitCount_0f7a4 27 = .ok (.iushr, 1) := by decide +kernel
theorem dJ6_bitCount_0f7a4_28 : decode cJ6_bitCount_0f7a4 28 = .ok (.iadd, 1) := by decide +kernel
theorem dJ6_bitCount_0f7a4_29 : decode cJ6_bitCount_0f7a4 29 = .ok (.ldc_w 267, 3) := by decide +kernel
theorem dJ6_bitCount_0f7a4_32 : decode cJ6_bitCount_0f7a4 32 = .ok (.iand, 1) := by decide +kernel
theorem dJ6_bitCount_0f7a4_33 : decode cJ6_bitCount_0f7a4 33 = .ok (.istore_n 0, 1) := by decide +kernel
theorem dJ6_bitCount_0f7a4_34 : decode cJ6_bitCount_0f7a4 34 = .ok (.iload_n 0, 1) := by decide +kernel
theorem dJ6_bitCount_0f7a4_35 : decode cJ6_bitCount_0f7a4 35 = .ok (.iload_n 0, 1) := by decide +kernel
theorem dJ6_bitCount_0f7a4_36 : decode cJ6_bitCount_0f7a4 36 = .ok (.bipush 8, 2) := by decide +kernel
theorem dJ6_bitCount_0f7a4_38 : decode cJ6_bitCount_0f7a4 38 = .ok (.iushr, 1) := by decide +kernel
theorem dJ6_bitCount_0f7a4_39 : decode cJ6_bitCount_0f7a4 39 = .ok (.iadd, 1) := by decide +kernel
theorem dJ6_bitCount_0f7a4_40 : decode cJ6_bitCount_0f7a4 40 = .ok (.istore_n 0, 1) := by decide +kernel
theorem dJ6_bitCount_0f7a4_41 : decode cJ6_bitCount_0f7a4 41 = .ok (.iload_n 0, 1) := by decide +kernel
theorem dJ6_bitCount_0f7a4_42 : decode cJ6_bitCount_0f7a4 42 = .ok (.iload_n 0, 1) := by decide +kernel
theorem dJ6_bitCount_0f7a4_43 : decode cJ6_bitCount_0f7a4 43 = .ok (.bipush 16, 2) := by decide +kernel
theorem dJ6_bitCount_0f7a4_45 : decode cJ6_bitCount_0f7a4 45 = .ok (.iushr, 1) := by decide +kernel
theorem dJ6_bitCount_0f7a4_46 : decode cJ6_bitCount_0f7a4 46 = .ok (.iadd, 1) := by decide +kernel
theorem dJ6_bitCount_0f7a4_47 : decode cJ6_bitCount_0f7a4 47 = .ok (.istore_n 0, 1) := by decide +kernel
theorem dJ6_bitCount_0f7a4_48 : decode cJ6_bitCount_0f7a4 48 = .ok (.iload_n 0, 1) := by decide +kernel
theorem dJ6_bitCount_0f7a4_49 : decode cJ6_bitCount_0f7a4 49 = .ok (.bipush 63, 2) := by decide +kernel
theorem dJ6_bitCount_0f7a4_51 : decode cJ6_bitCount_0f7a4 51 = .ok (.iand, 1) := by decide +kernel
theorem dJ6_bitCount_0f7a4_52 : decode cJ6_bitCount_0f7a4 52 = .ok (.ireturn, 1) := by decide +kernel
theorem dJ9_floorMod_7cf53_0 : decode cJ9_floorMod_7cf53 0 = .ok (.iload_n 0, 1) := by decide +kernel
theorem dJ9_floorMod_7cf53_1 : decode cJ9_floorMod_7cf53 1 = .ok (.iload_n 1, 1) := by decide +kernel
theorem dJ9_floorMod_7cf53_2 : decode cJ9_floorMod_7cf53 2 = .ok (.irem, 1) := by decide +kernel
theorem dJ9_floorMod_7cf53_3 : decode cJ9_floorMod_7cf53 3 = .ok (.istore_n 2, 1) := by decide +kernel
theorem dJ9_floorMod_7cf53_4 : decode cJ9_floorMod_7cf53 4 = .ok (.iload_n 0, 1) := by decide +kernel
theorem dJ9_floorMod_7cf53_5 : decode cJ9_floorMod_7cf53 5 = .ok (.iload_n 1, 1) := by decide +kernel
theorem dJ9_floorMod_7cf53_6 : decode cJ9_floorMod_7cf53 6 = .ok (.ixor, 1) := by decide +kernel
theorem dJ9_floorMod_7cf53_7 : decode cJ9_floorMod_7cf53 7 = .ok (.ifCond .ge 11, 3) := by decide +kernel
theorem dJ9_floorMod_7cf53_10 : decode cJ9_floorMod_7cf53 10 = .ok (.iload_n 2, 1) := by decide +kernel
theorem dJ9_floorMod_7cf53_11 : decode cJ9_floorMod_7cf53 11 = .ok (.ifCond .eq 7, 3) := by decide +kernel
theorem dJ9_floorMod_7cf53_14 : decode cJ9_floorMod_7cf53 14 = .ok (.iload_n 2, 1) := by decide +kernel
theorem dJ9_floorMod_7cf53_15 : decode cJ9_floorMod_7cf53 15 = .ok (.iload_n 1, 1) := by decide +kernel
theorem dJ9_floorMod_7cf53_16 : decode cJ9_floorMod_7cf53 16 = .ok (.iadd, 1) := by decide +kernel
theorem dJ9_floorMod_7cf53_17 : decode cJ9_floorMod_7cf53 17 = .ok (.ireturn, 1) := by decide +kernel
theorem dJ9_floorMod_7cf53_18 : decode cJ9_floorMod_7cf53 18 = .ok (.iload_n 2, 1) := by decide +kernel
theorem dJ9_floorMod_7cf53_19 : decode cJ9_floorMod_7cf53 19 = .ok (.ireturn, 1) := by decide +kernel
theorem dJ9_max_7cf53_0 : decode cJ9_max_7cf53 0 = .ok (.iload_n 0, 1) := by decide +kernel
theorem dJ9_max_7cf53_1 : decode cJ9_max_7cf53 1 = .ok (.iload_n 1, 1) := by decide +kernel
theorem dJ9_max_7cf53_2 : decode cJ9_max_7cf53 2 = .ok (.if_icmp .lt 7, 3) := by decide +kernel
theorem dJ9_max_7cf53_5 : decode cJ9_max_7cf53 5 = .ok (.iload_n 0, 1) := by decide +kernel
theorem dJ9_max_7cf53_6 : decode cJ9_max_7cf53 6 = .ok (.goto 4, 3) := by decide +kernel
theorem dJ9_max_7cf53_9 : decode cJ9_max_7cf53 9 = .ok (.iload_n 1, 1) := by decide +kernel
theorem dJ9_max_7cf53_10 : decode cJ9_max_7cf53 10 = .ok (.ireturn, 1) := by decide +kernel
theorem dL_law_0 : decode cL_law 0 = .ok (.new 7, 3) := by decide +kernel
theorem dL_law_3 : decode cL_law 3 = .ok (.dup, 1) := by decide +kernel
theorem dL_law_4 : decode cL_law 4 = .ok (.invokespecial 9, 3) := by decide +kernel
theorem dL_law_7 : decode cL_law 7 = .ok (.astore_n 1, 1) := by decide +kernel
theorem dL_law_8 : decode cL_law 8 = .ok (.new 10, 3) := by decide +kernel
theorem dL_law_11 : decode cL_law 11 = .ok (.dup, 1) := by decide +kernel
theorem dL_law_12 : decode cL_law 12 = .ok (.invokespecial 12, 3) := by decide +kernel
theorem dL_law_15 : decode cL_law 15 = .ok (.astore_n 2, 1) := by decide +kernel
theorem dL_law_16 : decode cL_law 16 = .ok (.iconst 0, 1) := by decide +kernel
theorem dL_law_17 : decode cL_law 17 = .ok (.istore_n 3, 1) := by decide +kernel
theorem dL_law_18 : decode cL_law 18 = .ok (.iload_n 3, 1) := by decide +kernel
theorem dL_law_19 : decode cL_law 19 = .ok (.aload_n 0, 1) := by decide +kernel
theorem dL_law_20 : decode cL_law 20 = .ok (.arraylength, 1) := by decide +kernel
theorem dL_law_21 : decode cL_law 21 = .ok (.bipush 6, 2) := by decide +kernel
theorem dL_law_23 : decode cL_law 23 = .ok (.isub, 1) := by decide +kernel
theorem dL_law_24 : decode cL_law 24 = .ok (.if_icmp .gt 1216, 3) := by decide +kernel
theorem dL_law_27 : decode cL_law 27 = .ok (.aload_n 0, 1) := by decide +kernel
theorem dL_law_28 : decode cL_law 28 = .ok (.iload_n 3, 1) := by decide +kernel
theorem dL_law_29 : decode cL_law 29 = .ok (.iaload, 1) := by decide +kernel
theorem dL_law_30 : decode cL_law 30 = .ok (.bipush 63, 2) := by decide +kernel
theorem dL_law_32 : decode cL_law 32 = .ok (.iand, 1) := by decide +kernel
theorem dL_law_33 : decode cL_law 33 = .ok (.tableswitch 1201 0 38 #[171, 204, 247, 280, 303, 366, 389, 422, 465, 488, 511, 544, 577, 590, 623, 646, 669, 692, 715, 738, 761, 774, 787, 800, 823, 856, 889, 922, 955, 978, 1021, 1054, 1087, 1100, 1114, 1128, 1151, 1164, 1187], 171) := by decide +kernel
theorem dL_law_204 : decode cL_law 204 = .ok (.aload_n 1, 1) := by decide +kernel
theorem dL_law_205 : decode cL_law 205 = .ok (.aload_n 0, 1) := by decide +kernel
theorem dL_law_206 : decode cL_law 206 = .ok (.iload_n 3, 1) := by decide +kernel
theorem dL_law_207 : decode cL_law 207 = .ok (.iconst 1, 1) := by decide +kernel
theorem dL_law_208 : decode cL_law 208 = .ok (.iadd, 1) := by decide +kernel
theorem dL_law_209 : decode cL_law 209 = .ok (.iaload, 1) := by decide +kernel
theorem dL_law_210 : decode cL_law 210 = .ok (.aload_n 0, 1) := by decide +kernel
theorem dL_law_211 : decode cL_law 211 = .ok (.iload_n 3, 1) := by decide +kernel
theorem dL_law_212 : decode cL_law 212 = .ok (.iconst 2, 1) := by decide +kernel
theorem dL_law_213 : decode cL_law 213 = .ok (.iadd, 1) := by decide +kernel
theorem dL_law_214 : decode cL_law 214 = .ok (.iaload, 1) := by decide +kernel
theorem dL_law_215 : decode cL_law 215 = .ok (.invokevirtual 13, 3) := by decide +kernel
theorem dL_law_218 : decode cL_law 218 = .ok (.aload_n 2, 1) := by decide +kernel
theorem dL_law_219 : decode cL_law 219 = .ok (.aload_n 0, 1) := by decide +kernel
theorem dL_law_220 : decode cL_law 220 = .ok (.iload_n 3, 1) := by decide +kernel
theorem dL_law_221 : decode cL_law 221 = .ok (.iconst 1, 1) := by decide +kernel
theorem dL_law_222 : decode cL_law 222 = .ok (.iadd, 1) := by decide +kernel
theorem dL_law_223 : decode cL_law 223 = .ok (.iaload, 1) := by decide +kernel
theorem dL_law_224 : decode cL_law 224 = .ok (.aload_n 0, 1) := by decide +kernel
theorem dL_law_225 : decode cL_law 225 = .ok (.iload_n 3, 1) := by decide +kernel
theorem dL_law_226 : decode cL_law 226 = .ok (.iconst 2, 1) := by decide +kernel
theorem dL_law_227 : decode cL_law 227 = .ok (.iadd, 1) := by decide +kernel
theorem dL_law_228 : decode cL_law 228 = .ok (.iaload, 1) := by decide +kernel
theorem dL_law_229 : decode cL_law 229 = .ok (.invokevirtual 17, 3) := by decide +kernel
theorem dL_law_232 : decode cL_law 232 = .ok (.if_icmp .eq 1002, 3) := by decide +kernel
theorem dL_law_235 : decode cL_law 235 = .ok (.iconst 0, 1) := by decide +kernel
theorem dL_law_236 : decode cL_law 236 = .ok (.ireturn, 1) := by decide +kernel
theorem dL_law_237 : decode cL_law 237 = .ok (.aload_n 1, 1) := by decide +kernel
theorem dL_law_238 : decode cL_law 238 = .ok (.aload_n 0, 1) := by decide +kernel
theorem dL_law_239 : decode cL_law 239 = .ok (.iload_n 3, 1) := by decide +kernel
theorem dL_law_240 : decode cL_law 240 = .ok (.iconst 1, 1) := by decide +kernel
theorem dL_law_241 : decode cL_law 241 = .ok (.iadd, 1) := by decide +kernel
theorem dL_law_242 : decode cL_law 242 = .ok (.iaload, 1) := by decide +kernel
theorem dL_law_243 : decode cL_law 243 = .ok (.aload_n 0, 1) := by decide +kernel
theorem dL_law_244 : decode cL_law 244 = .ok (.iload_n 3, 1) := by decide +kernel
theorem dL_law_245 : decode cL_law 245 = .ok (.iconst 2, 1) := by decide +kernel
theorem dL_law_246 : decode cL_law 246 = .ok (.iadd, 1) := by decide +kernel
theorem dL_law_247 : decode cL_law 247 = .ok (.iaload, 1) := by decide +kernel
theorem dL_law_248 : decode cL_law 248 = .ok (.aload_n 0, 1) := by decide +kernel
theorem dL_law_249 : decode cL_law 249 = .ok (.iload_n 3, 1) := by decide +kernel
theorem dL_law_250 : decode cL_law 250 = .ok (.iconst 3, 1) := by decide +kernel
theorem dL_law_251 : decode cL_law 251 = .ok (.iadd, 1) := by decide +kernel
theorem dL_law_252 : decode cL_law 252 = .ok (.iaload, 1) := by decide +kernel
theorem dL_law_253 : decode cL_law 253 = .ok (.invokevirtual 18, 3) := by decide +kernel
theorem dL_law_256 : decode cL_law 256 = .ok (.aload_n 2, 1) := by decide +kernel
theorem dL_law_257 : decode cL_law 257 = .ok (.aload_n 0, 1) := by decide +kernel
theorem dL_law_258 : decode cL_law 258 = .ok (.iload_n 3, 1) := by decide +kernel
theorem dL_law_259 : decode cL_law 259 = .ok (.iconst 1, 1) := by decide +kernel
theorem dL_law_260 : decode cL_law 260 = .ok (.iadd, 1) := by decide +kernel
theorem dL_law_261 : decode cL_law 261 = .ok (.iaload, 1) := by decide +kernel
theorem dL_law_262 : decode cL_law 262 = .ok (.aload_n 0, 1) := by decide +kernel
theorem dL_law_263 : decode cL_law 263 = .ok (.iload_n 3, 1) := by decide +kernel
theorem dL_law_264 : decode cL_law 264 = .ok (.iconst 2, 1) := by decide +kernel
theorem dL_law_265 : decode cL_law 265 = .ok (.iadd, 1) := by decide +kernel
theorem dL_law_266 : decode cL_law 266 = .ok (.iaload, 1) := by decide +kernel
theorem dL_law_267 : decode cL_law 267 = .ok (.aload_n 0, 1) := by decide +kernel
theorem dL_law_268 : decode cL_law 268 = .ok (.iload_n 3, 1) := by decide +kernel
theorem dL_law_269 : decode cL_law 269 = .ok (.iconst 3, 1) := by decide +kernel
theorem dL_law_270 : decode cL_law 270 = .ok (.iadd, 1) := by decide +kernel
theorem dL_law_271 : decode cL_law 271 = .ok (.iaload, 1) := by decide +kernel
theorem dL_law_272 : decode cL_law 272 = .ok (.invokevirtual 22, 3) := by decide +kernel
theorem dL_law_275 : decode cL_law 275 = .ok (.if_icmp .eq 959, 3) := by decide +kernel
theorem dL_law_278 : decode cL_law 278 = .ok (.iconst 0, 1) := by decide +kernel
theorem dL_law_279 : decode cL_law 279 = .ok (.ireturn, 1) := by decide +kernel
theorem dL_law_280 : decode cL_law 280 = .ok (.aload_n 1, 1) := by decide +kernel
theorem dL_law_281 : decode cL_law 281 = .ok (.aload_n 0, 1) := by decide +kernel
theorem dL_law_282 : decode cL_law 282 = .ok (.iload_n 3, 1) := by decide +kernel
theorem dL_law_283 : decode cL_law 283 = .ok (.iconst 1, 1) := by decide +kernel
theorem dL_law_284 : decode cL_law 284 = .ok (.iadd, 1) := by decide +kernel
theorem dL_law_285 : decode cL_law 285 = .ok (.iaload, 1) := by decide +kernel
theorem dL_law_286 : decode cL_law 286 = .ok (.aload_n 0, 1) := by decide +kernel
theorem dL_law_287 : decode cL_law 287 = .ok (.iload_n 3, 1) := by decide +kernel
theorem dL_law_288 : decode cL_law 288 = .ok (.iconst 2, 1) := by decide +kernel
theorem dL_law_289 : decode cL_law 289 = .ok (.iadd, 1) := by decide +kernel
theorem dL_law_290 : decode cL_law 290 = .ok (.iaload, 1) := by decide +kernel
theorem dL_law_291 : decode cL_law 291 = .ok (.invokevirtual 23, 3) := by decide +kernel
theorem dL_law_294 : decode cL_law 294 = .ok (.aload_n 2, 1) := by decide +kernel
theorem dL_law_295 : decode cL_law 295 = .ok (.aload_n 0, 1) := by decide +kernel
theorem dL_law_296 : decode cL_law 296 = .ok (.iload_n 3, 1) := by decide +kernel
theorem dL_law_297 : decode cL_law 297 = .ok (.iconst 1, 1) := by decide +kernel
theorem dL_law_298 : decode cL_law 298 = .ok (.iadd, 1) := by decide +kernel
theorem dL_law_299 : decode cL_law 299 = .ok (.iaload, 1) := by decide +kernel
theorem dL_law_300 : decode cL_law 300 = .ok (.aload_n 0, 1) := by decide +kernel
theorem dL_law_301 : decode cL_law 301 = .ok (.iload_n 3, 1) := by decide +kernel
theorem dL_law_302 : decode cL_law 302 = .ok (.iconst 2, 1) := by decide +kernel
theorem dL_law_303 : decode cL_law 303 = .ok (.iadd, 1) := by decide +kernel
theorem dL_law_304 : decode cL_law 304 = .ok (.iaload, 1) := by decide +kernel
theorem dL_law_305 : decode cL_law 305 = .ok (.invokevirtual 26, 3) := by decide +kernel
theorem dL_law_308 : decode cL_law 308 = .ok (.if_icmp .eq 926, 3) := by decide +kernel
theorem dL_law_311 : decode cL_law 311 = .ok (.iconst 0, 1) := by decide +kernel
theorem dL_law_312 : decode cL_law 312 = .ok (.ireturn, 1) := by decide +kernel
theorem dL_law_313 : decode cL_law 313 = .ok (.aload_n 1, 1) := by decide +kernel
theorem dL_law_314 : decode cL_law 314 = .ok (.aload_n 0, 1) := by decide +kernel
theorem dL_law_315 : decode cL_law 315 = .ok (.iload_n 3, 1) := by decide +kernel
theorem dL_law_316 : decode cL_law 316 = .ok (.iconst 1, 1) := by decide +kernel
theorem dL_law_317 : decode cL_law 317 = .ok (.iadd, 1) := by decide +kernel
theorem dL_law_318 : decode cL_law 318 = .ok (.iaload, 1) := by decide +kernel
theorem dL_law_319 : decode cL_law 319 = .ok (.invokevirtual 27, 3) := by decide +kernel
theorem dL_law_322 : decode cL_law 322 = .ok (.aload_n 2, 1) := by decide +kernel
theorem dL_law_323 : decode cL_law 323 = .ok (.aload_n 0, 1) := by decide +kernel
theorem dL_law_324 : decode cL_law 324 = .ok (.iload_n 3, 1) := by decide +kernel
theorem dL_law_325 : decode cL_law 325 = .ok (.iconst 1, 1) := by decide +kernel
theorem dL_law_326 : decode cL_law 326 = .ok (.iadd, 1) := by decide +kernel
theorem dL_law_327 : decode cL_law 327 = .ok (.iaload, 1) := by decide +kernel
theorem dL_law_328 : decode cL_law 328 = .ok (.invokevirtual 31, 3) := by decide +kernel
theorem dL_law_331 : decode cL_law 331 = .ok (.if_icmp .eq 903, 3) := by decide +kernel
theorem dL_law_334 : decode cL_law 334 = .ok (.iconst 0, 1) := by decide +kernel
theorem dL_law_335 : decode cL_law 335 = .ok (.ireturn, 1) := by decide +kernel
theorem dL_law_336 : decode cL_law 336 = .ok (.aload_n 1, 1) := by decide +kernel
theorem dL_law_337 : decode cL_law 337 = .ok (.aload_n 0, 1) := by decide +kernel
theorem dL_law_338 : decode cL_law 338 = .ok (.iload_n 3, 1) := by decide +kernel
theorem dL_law_339 : decode cL_law 339 = .ok (.iconst 1, 1) := by decide +kernel
theorem dL_law_340 : decode cL_law 340 = .ok (.iadd, 1) := by decide +kernel
theorem dL_law_341 : decode cL_law 341 = .ok (.iaload, 1) := by decide +kernel
theorem dL_law_342 : decode cL_law 342 = .ok (.aload_n 0, 1) := by decide +kernel
theorem dL_law_343 : decode cL_law 343 = .ok (.iload_n 3, 1) := by decide +kernel
theorem dL_law_344 : decode cL_law 344 = .ok (.iconst 2, 1) := by decide +kernel
theorem dL_law_345 : decode cL_law 345 = .ok (.iadd, 1) := by decide +kernel
theorem dL_law_346 : decode cL_law 346 = .ok (.iaload, 1) := by decide +kernel
theorem dL_law_347 : decode cL_law 347 = .ok (.aload_n 0, 1) := by decide +kernel
theorem dL_law_348 : decode cL_law 348 = .ok (.iload_n 3, 1) := by decide +kernel
theorem dL_law_349 : decode cL_law 349 = .ok (.iconst 3, 1) := by decide +kernel
theorem dL_law_350 : decode cL_law 350 = .ok (.iadd, 1) := by decide +kernel
theorem dL_law_351 : decode cL_law 351 = .ok (.iaload, 1) := by decide +kernel
theorem dL_law_352 : decode cL_law 352 = .ok (.aload_n 0, 1) := by decide +kernel
theorem dL_law_353 : decode cL_law 353 = .ok (.iload_n 3, 1) := by decide +kernel
theorem dL_law_354 : decode cL_law 354 = .ok (.iconst 4, 1) := by decide +kernel
theorem dL_law_355 : decode cL_law 355 = .ok (.iadd, 1) := by decide +kernel
theorem dL_law_356 : decode cL_law 356 = .ok (.iaload, 1) := by decide +kernel
theorem dL_law_357 : decode cL_law 357 = .ok (.aload_n 0, 1) := by decide +kernel
theorem dL_law_358 : decode cL_law 358 = .ok (.iload_n 3, 1) := by decide +kernel
theorem dL_law_359 : decode cL_law 359 = .ok (.iconst 5, 1) := by decide +kernel
theorem dL_law_360 : decode cL_law 360 = .ok (.iadd, 1) := by decide +kernel
theorem dL_law_361 : decode cL_law 361 = .ok (.iaload, 1) := by decide +kernel
theorem dL_law_362 : decode cL_law 362 = .ok (.invokevirtual 32, 3) := by decide +kernel
theorem dL_law_365 : decode cL_law 365 = .ok (.aload_n 2, 1) := by decide +kernel
theorem dL_law_366 : decode cL_law 366 = .ok (.aload_n 0, 1) := by decide +kernel
theorem dL_law_367 : decode cL_law 367 = .ok (.iload_n 3, 1) := by decide +kernel
theorem dL_law_368 : decode cL_law 368 = .ok (.iconst 1, 1) := by decide +kernel
theorem dL_law_369 : decode cL_law 369 = .ok (.iadd, 1) := by decide +kernel
theorem dL_law_370 : decode cL_law 370 = .ok (.iaload, 1) := by decide +kernel
theorem dL_law_371 : decode cL_law 371 = .ok (.aload_n 0, 1) := by decide +kernel
theorem dL_law_372 : decode cL_law 372 = .ok (.iload_n 3, 1) := by decide +kernel
theorem dL_law_373 : decode cL_law 373 = .ok (.iconst 2, 1) := by decide +kernel
theorem dL_law_374 : decode cL_law 374 = .ok (.iadd, 1) := by decide +kernel
theorem dL_law_375 : decode cL_law 375 = .ok (.iaload, 1) := by decide +kernel
theorem dL_law_376 : decode cL_law 376 = .ok (.aload_n 0, 1) := by decide +kernel
theorem dL_law_377 : decode cL_law 377 = .ok (.iload_n 3, 1) := by decide +kernel
theorem dL_law_378 : decode cL_law 378 = .ok (.iconst 3, 1) := by decide +kernel
theorem dL_law_379 : decode cL_law 379 = .ok (.iadd, 1) := by decide +kernel
theorem dL_law_380 : decode cL_law 380 = .ok (.iaload, 1) := by decide +kernel
theorem dL_law_381 : decode cL_law 381 = .ok (.aload_n 0, 1) := by decide +kernel
theorem dL_law_382 : decode cL_law 382 = .ok (.iload_n 3, 1) := by decide +kernel
theorem dL_law_383 : decode cL_law 383 = .ok (.iconst 4, 1) := by decide +kernel
theorem dL_law_384 : decode cL_law 384 = .ok (.iadd, 1) := by decide +kernel
theorem dL_law_385 : decode cL_law 385 = .ok (.iaload, 1) := by decide +kernel
theorem dL_law_386 : decode cL_law 386 = .ok (.aload_n 0, 1) := by decide +kernel
theorem dL_law_387 : decode cL_law 387 = .ok (.iload_n 3, 1) := by decide +kernel
theorem dL_law_388 : decode cL_law 388 = .ok (.iconst 5, 1) := by decide +kernel
theorem dL_law_389 : decode cL_law 389 = .ok (.iadd, 1) := by decide +kernel
theorem dL_law_390 : decode cL_law 390 = .ok (.iaload, 1) := by decide +kernel
theorem dL_law_391 : decode cL_law 391 = .ok (.invokevirtual 36, 3) := by decide +kernel
theorem dL_law_394 : decode cL_law 394 = .ok (.if_icmp .eq 840, 3) := by decide +kernel
theorem dL_law_397 : decode cL_law 397 = .ok (.iconst 0, 1) := by decide +kernel
theorem dL_law_398 : decode cL_law 398 = .ok (.ireturn, 1) := by decide +kernel
theorem dL_law_399 : decode cL_law 399 = .ok (.aload_n 1, 1) := by decide +kernel
theorem dL_law_400 : decode cL_law 400 = .ok (.aload_n 0, 1) := by decide +kernel
theorem dL_law_401 : decode cL_law 401 = .ok (.iload_n 3, 1) := by decide +kernel
theorem dL_law_402 : decode cL_law 402 = .ok (.iconst 1, 1) := by decide +kernel
theorem dL_law_403 : decode cL_law 403 = .ok (.iadd, 1) := by decide +kernel
theorem dL_law_404 : decode cL_law 404 = .ok (.iaload, 1) := by decide +kernel
theorem dL_law_405 : decode cL_law 405 = .ok (.invokevirtual 37, 3) := by decide +kernel
theorem dL_law_408 : decode cL_law 408 = .ok (.aload_n 2, 1) := by decide +kernel
theorem dL_law_409 : decode cL_law 409 = .ok (.aload_n 0, 1) := by decide +kernel
theorem dL_law_410 : decode cL_law 410 = .ok (.iload_n 3, 1) := by decide +kernel
theorem dL_law_411 : decode cL_law 411 = .ok (.iconst 1, 1) := by decide +kernel
theorem dL_law_412 : decode cL_law 412 = .ok (.iadd, 1) := by decide +kernel
theorem dL_law_413 : decode cL_law 413 = .ok (.iaload, 1) := by decide +kernel
theorem dL_law_414 : decode cL_law 414 = .ok (.invokevirtual 40, 3) := by decide +kernel
theorem dL_law_417 : decode cL_law 417 = .ok (.if_icmp .eq 817, 3) := by decide +kernel
theorem dL_law_420 : decode cL_law 420 = .ok (.iconst 0, 1) := by decide +kernel
theorem dL_law_421 : decode cL_law 421 = .ok (.ireturn, 1) := by decide +kernel
theorem dL_law_422 : decode cL_law 422 = .ok (.aload_n 1, 1) := by decide +kernel
theorem dL_law_423 : decode cL_law 423 = .ok (.aload_n 0, 1) := by decide +kernel
theorem dL_law_424 : decode cL_law 424 = .ok (.iload_n 3, 1) := by decide +kernel
theorem dL_law_425 : decode cL_law 425 = .ok (.iconst 1, 1) := by decide +kernel
theorem dL_law_426 : decode cL_law 426 = .ok (.iadd, 1) := by decide +kernel
theorem dL_law_427 : decode cL_law 427 = .ok (.iaload, 1) := by decide +kernel
theorem dL_law_428 : decode cL_law 428 = .ok (.aload_n 0, 1) := by decide +kernel
theorem dL_law_429 : decode cL_law 429 = .ok (.iload_n 3, 1) := by decide +kernel
theorem dL_law_430 : decode cL_law 430 = .ok (.iconst 2, 1) := by decide +kernel
theorem dL_law_431 : decode cL_law 431 = .ok (.iadd, 1) := by decide +kernel
theorem dL_law_432 : decode cL_law 432 = .ok (.iaload, 1) := by decide +kernel
theorem dL_law_433 : decode cL_law 433 = .ok (.invokevirtual 41, 3) := by decide +kernel
theorem dL_law_436 : decode cL_law 436 = .ok (.aload_n 2, 1) := by decide +kernel
theorem dL_law_437 : decode cL_law 437 = .ok (.aload_n 0, 1) := by decide +kernel
theorem dL_law_438 : decode cL_law 438 = .ok (.iload_n 3, 1) := by decide +kernel
theorem dL_law_439 : decode cL_law 439 = .ok (.iconst 1, 1) := by decide +kernel
theorem dL_law_440 : decode cL_law 440 = .ok (.iadd, 1) := by decide +kernel
theorem dL_law_441 : decode cL_law 441 = .ok (.iaload, 1) := by decide +kernel
theorem dL_law_442 : decode cL_law 442 = .ok (.aload_n 0, 1) := by decide +kernel
theorem dL_law_443 : decode cL_law 443 = .ok (.iload_n 3, 1) := by decide +kernel
theorem dL_law_444 : decode cL_law 444 = .ok (.iconst 2, 1) := by decide +kernel
theorem dL_law_445 : decode cL_law 445 = .ok (.iadd, 1) := by decide +kernel
theorem dL_law_446 : decode cL_law 446 = .ok (.iaload, 1) := by decide +kernel
theorem dL_law_447 : decode cL_law 447 = .ok (.invokevirtual 44, 3) := by decide +kernel
theorem dL_law_450 : decode cL_law 450 = .ok (.if_icmp .eq 784, 3) := by decide +kernel
theorem dL_law_453 : decode cL_law 453 = .ok (.iconst 0, 1) := by decide +kernel
theorem dL_law_454 : decode cL_law 454 = .ok (.ireturn, 1) := by decide +kernel
theorem dL_law_455 : decode cL_law 455 = .ok (.aload_n 1, 1) := by decide +kernel
theorem dL_law_456 : decode cL_law 456 = .ok (.aload_n 0, 1) := by decide +kernel
theorem dL_law_457 : decode cL_law 457 = .ok (.iload_n 3, 1) := by decide +kernel
theorem dL_law_458 : decode cL_law 458 = .ok (.iconst 1, 1) := by decide +kernel
theorem dL_law_459 : decode cL_law 459 = .ok (.iadd, 1) := by decide +kernel
theorem dL_law_460 : decode cL_law 460 = .ok (.iaload, 1) := by decide +kernel
theorem dL_law_461 : decode cL_law 461 = .ok (.aload_n 0, 1) := by decide +kernel
theorem dL_law_462 : decode cL_law 462 = .ok (.iload_n 3, 1) := by decide +kernel
theorem dL_law_463 : decode cL_law 463 = .ok (.iconst 2, 1) := by decide +kernel
theorem dL_law_464 : decode cL_law 464 = .ok (.iadd, 1) := by decide +kernel
theorem dL_law_465 : decode cL_law 465 = .ok (.iaload, 1) := by decide +kernel
theorem dL_law_466 : decode cL_law 466 = .ok (.aload_n 0, 1) := by decide +kernel
theorem dL_law_467 : decode cL_law 467 = .ok (.iload_n 3, 1) := by decide +kernel
theorem dL_law_468 : decode cL_law 468 = .ok (.iconst 3, 1) := by decide +kernel
theorem dL_law_469 : decode cL_law 469 = .ok (.iadd, 1) := by decide +kernel
theorem dL_law_470 : decode cL_law 470 = .ok (.iaload, 1) := by decide +kernel
theorem dL_law_471 : decode cL_law 471 = .ok (.invokevirtual 45, 3) := by decide +kernel
theorem dL_law_474 : decode cL_law 474 = .ok (.aload_n 2, 1) := by decide +kernel
theorem dL_law_475 : decode cL_law 475 = .ok (.aload_n 0, 1) := by decide +kernel
theorem dL_law_476 : decode cL_law 476 = .ok (.iload_n 3, 1) := by decide +kernel
theorem dL_law_477 : decode cL_law 477 = .ok (.iconst 1, 1) := by decide +kernel
theorem dL_law_478 : decode cL_law 478 = .ok (.iadd, 1) := by decide +kernel
theorem dL_law_479 : decode cL_law 479 = .ok (.iaload, 1) := by decide +kernel
theorem dL_law_480 : decode cL_law 480 = .ok (.aload_n 0, 1) := by decide +kernel
theorem dL_law_481 : decode cL_law 481 = .ok (.iload_n 3, 1) := by decide +kernel
theorem dL_law_482 : decode cL_law 482 = .ok (.iconst 2, 1) := by decide +kernel
theorem dL_law_483 : decode cL_law 483 = .ok (.iadd, 1) := by decide +kernel
theorem dL_law_484 : decode cL_law 484 = .ok (.iaload, 1) := by decide +kernel
theorem dL_law_485 : decode cL_law 485 = .ok (.aload_n 0, 1) := by decide +kernel
theorem dL_law_486 : decode cL_law 486 = .ok (.iload_n 3, 1) := by decide +kernel
theorem dL_law_487 : decode cL_law 487 = .ok (.iconst 3, 1) := by decide +kernel
theorem dL_law_488 : decode cL_law 488 = .ok (.iadd, 1) := by decide +kernel
theorem dL_law_489 : decode cL_law 489 = .ok (.iaload, 1) := by decide +kernel
theorem dL_law_490 : decode cL_law 490 = .ok (.invokevirtual 48, 3) := by decide +kernel
theorem dL_law_493 : decode cL_law 493 = .ok (.if_icmp .eq 741, 3) := by decide +kernel
theorem dL_law_496 : decode cL_law 496 = .ok (.iconst 0, 1) := by decide +kernel
theorem dL_law_497 : decode cL_law 497 = .ok (.ireturn, 1) := by decide +kernel
theorem dL_law_498 : decode cL_law 498 = .ok (.aload_n 1, 1) := by decide +kernel
theorem dL_law_499 : decode cL_law 499 = .ok (.aload_n 0, 1) := by decide +kernel
theorem dL_law_500 : decode cL_law 500 = .ok (.iload_n 3, 1) := by decide +kernel
theorem dL_law_501 : decode cL_law 501 = .ok (.iconst 1, 1) := by decide +kernel
theorem dL_law_502 : decode cL_law 502 = .ok (.iadd, 1) := by decide +kernel
theorem dL_law_503 : decode cL_law 503 = .ok (.iaload, 1) := by decide +kernel
theorem dL_law_504 : decode cL_law 504 = .ok (.invokevirtual 49, 3) := by decide +kernel
theorem dL_law_507 : decode cL_law 507 = .ok (.aload_n 2, 1) := by decide +kernel
theorem dL_law_508 : decode cL_law 508 = .ok (.aload_n 0, 1) := by decide +kernel
theorem dL_law_509 : decode cL_law 509 = .ok (.iload_n 3, 1) := by decide +kernel
theorem dL_law_510 : decode cL_law 510 = .ok (.iconst 1, 1) := by decide +kernel
theorem dL_law_511 : decode cL_law 511 = .ok (.iadd, 1) := by decide +kernel
theorem dL_law_512 : decode cL_law 512 = .ok (.iaload, 1) := by decide +kernel
theorem dL_law_513 : decode cL_law 513 = .ok (.invokevirtual 52, 3) := by decide +kernel
theorem dL_law_516 : decode cL_law 516 = .ok (.if_icmp .eq 718, 3) := by decide +kernel
theorem dL_law_519 : decode cL_law 519 = .ok (.iconst 0, 1) := by decide +kernel
theorem dL_law_520 : decode cL_law 520 = .ok (.ireturn, 1) := by decide +kernel
theorem dL_law_521 : decode cL_law 521 = .ok (.aload_n 1, 1) := by decide +kernel
theorem dL_law_522 : decode cL_law 522 = .ok (.aload_n 0, 1) := by decide +kernel
theorem dL_law_523 : decode cL_law 523 = .ok (.iload_n 3, 1) := by decide +kernel
theorem dL_law_524 : decode cL_law 524 = .ok (.iconst 1, 1) := by decide +kernel
theorem dL_law_525 : decode cL_law 525 = .ok (.iadd, 1) := by decide +kernel
theorem dL_law_526 : decode cL_law 526 = .ok (.iaload, 1) := by decide +kernel
theorem dL_law_527 : decode cL_law 527 = .ok (.invokevirtual 53, 3) := by decide +kernel
theorem dL_law_530 : decode cL_law 530 = .ok (.aload_n 2, 1) := by decide +kernel
theorem dL_law_531 : decode cL_law 531 = .ok (.aload_n 0, 1) := by decide +kernel
theorem dL_law_532 : decode cL_law 532 = .ok (.iload_n 3, 1) := by decide +kernel
theorem dL_law_533 : decode cL_law 533 = .ok (.iconst 1, 1) := by decide +kernel
theorem dL_law_534 : decode cL_law 534 = .ok (.iadd, 1) := by decide +kernel
theorem dL_law_535 : decode cL_law 535 = .ok (.iaload, 1) := by decide +kernel
theorem dL_law_536 : decode cL_law 536 = .ok (.invokevirtual 56, 3) := by decide +kernel
theorem dL_law_539 : decode cL_law 539 = .ok (.if_icmp .eq 695, 3) := by decide +kernel
theorem dL_law_542 : decode cL_law 542 = .ok (.iconst 0, 1) := by decide +kernel
theorem dL_law_543 : decode cL_law 543 = .ok (.ireturn, 1) := by decide +kernel
theorem dL_law_544 : decode cL_law 544 = .ok (.aload_n 1, 1) := by decide +kernel
theorem dL_law_545 : decode cL_law 545 = .ok (.aload_n 0, 1) := by decide +kernel
theorem dL_law_546 : decode cL_law 546 = .ok (.iload_n 3, 1) := by decide +kernel
theorem dL_law_547 : decode cL_law 547 = .ok (.iconst 1, 1) := by decide +kernel
theorem dL_law_548 : decode cL_law 548 = .ok (.iadd, 1) := by decide +kernel
theorem dL_law_549 : decode cL_law 549 = .ok (.iaload, 1) := by decide +kernel
theorem dL_law_550 : decode cL_law 550 = .ok (.aload_n 0, 1) := by decide +kernel
theorem dL_law_551 : decode cL_law 551 = .ok (.iload_n 3, 1) := by decide +kernel
theorem dL_law_552 : decode cL_law 552 = .ok (.iconst 2, 1) := by decide +kernel
theorem dL_law_553 : decode cL_law 553 = .ok (.iadd, 1) := by decide +kernel
theorem dL_law_554 : decode cL_law 554 = .ok (.iaload, 1) := by decide +kernel
theorem dL_law_555 : decode cL_law 555 = .ok (.invokevirtual 57, 3) := by decide +kernel
theorem dL_law_558 : decode cL_law 558 = .ok (.aload_n 2, 1) := by decide +kernel
theorem dL_law_559 : decode cL_law 559 = .ok (.aload_n 0, 1) := by decide +kernel
theorem dL_law_560 : decode cL_law 560 = .ok (.iload_n 3, 1) := by decide +kernel
theorem dL_law_561 : decode cL_law 561 = .ok (.iconst 1, 1) := by decide +kernel
theorem dL_law_562 : decode cL_law 562 = .ok (.iadd, 1) := by decide +kernel
theorem dL_law_563 : decode cL_law 563 = .ok (.iaload, 1) := by decide +kernel
theorem dL_law_564 : decode cL_law 564 = .ok (.aload_n 0, 1) := by decide +kernel
theorem dL_law_565 : decode cL_law 565 = .ok (.iload_n 3, 1) := by decide +kernel
theorem dL_law_566 : decode cL_law 566 = .ok (.iconst 2, 1) := by decide +kernel
theorem dL_law_567 : decode cL_law 567 = .ok (.iadd, 1) := by decide +kernel
theorem dL_law_568 : decode cL_law 568 = .ok (.iaload, 1) := by decide +kernel
theorem dL_law_569 : decode cL_law 569 = .ok (.invokevirtual 60, 3) := by decide +kernel
theorem dL_law_572 : decode cL_law 572 = .ok (.if_icmp .eq 662, 3) := by decide +kernel
theorem dL_law_575 : decode cL_law 575 = .ok (.iconst 0, 1) := by decide +kernel
theorem dL_law_576 : decode cL_law 576 = .ok (.ireturn, 1) := by decide +kernel
theorem dL_law_577 : decode cL_law 577 = .ok (.aload_n 1, 1) := by decide +kernel
theorem dL_law_578 : decode cL_law 578 = .ok (.aload_n 0, 1) := by decide +kernel
theorem dL_law_579 : decode cL_law 579 = .ok (.iload_n 3, 1) := by decide +kernel
theorem dL_law_580 : decode cL_law 580 = .ok (.iconst 1, 1) := by decide +kernel
theorem dL_law_581 : decode cL_law 581 = .ok (.iadd, 1) := by decide +kernel
theorem dL_law_582 : decode cL_law 582 = .ok (.iaload, 1) := by decide +kernel
theorem dL_law_583 : decode cL_law 583 = .ok (.aload_n 0, 1) := by decide +kernel
theorem dL_law_584 : decode cL_law 584 = .ok (.iload_n 3, 1) := by decide +kernel
theorem dL_law_585 : decode cL_law 585 = .ok (.iconst 2, 1) := by decide +kernel
theorem dL_law_586 : decode cL_law 586 = .ok (.iadd, 1) := by decide +kernel
theorem dL_law_587 : decode cL_law 587 = .ok (.iaload, 1) := by decide +kernel
theorem dL_law_588 : decode cL_law 588 = .ok (.invokevirtual 61, 3) := by decide +kernel
theorem dL_law_591 : decode cL_law 591 = .ok (.aload_n 2, 1) := by decide +kernel
theorem dL_law_592 : decode cL_law 592 = .ok (.aload_n 0, 1) := by decide +kernel
theorem dL_law_593 : decode cL_law 593 = .ok (.iload_n 3, 1) := by decide +kernel
theorem dL_law_594 : decode cL_law 594 = .ok (.iconst 1, 1) := by decide +kernel
theorem dL_law_595 : decode cL_law 595 = .ok (.iadd, 1) := by decide +kernel
theorem dL_law_596 : decode cL_law 596 = .ok (.iaload, 1) := by decide +kernel
theorem dL_law_597 : decode cL_law 597 = .ok (.aload_n 0, 1) := by decide +kernel
theorem dL_law_598 : decode cL_law 598 = .ok (.iload_n 3, 1) := by decide +kernel
theorem dL_law_599 : decode cL_law 599 = .ok (.iconst 2, 1) := by decide +kernel
theorem dL_law_600 : decode cL_law 600 = .ok (.iadd, 1) := by decide +kernel
theorem dL_law_601 : decode cL_law 601 = .ok (.iaload, 1) := by decide +kernel
theorem dL_law_602 : decode cL_law 602 = .ok (.invokevirtual 64, 3) := by decide +kernel
theorem dL_law_605 : decode cL_law 605 = .ok (.if_icmp .eq 629, 3) := by decide +kernel
theorem dL_law_608 : decode cL_law 608 = .ok (.iconst 0, 1) := by decide +kernel
theorem dL_law_609 : decode cL_law 609 = .ok (.ireturn, 1) := by decide +kernel
theorem dL_law_610 : decode cL_law 610 = .ok (.aload_n 1, 1) := by decide +kernel
theorem dL_law_611 : decode cL_law 611 = .ok (.invokevirtual 65, 3) := by decide +kernel
theorem dL_law_614 : decode cL_law 614 = .ok (.aload_n 2, 1) := by decide +kernel
theorem dL_law_615 : decode cL_law 615 = .ok (.invokevirtual 69, 3) := by decide +kernel
theorem dL_law_618 : decode cL_law 618 = .ok (.if_icmp .eq 616, 3) := by decide +kernel
theorem dL_law_621 : decode cL_law 621 = .ok (.iconst 0, 1) := by decide +kernel
theorem dL_law_622 : decode cL_law 622 = .ok (.ireturn, 1) := by decide +kernel
theorem dL_law_623 : decode cL_law 623 = .ok (.aload_n 1, 1) := by decide +kernel
theorem dL_law_624 : decode cL_law 624 = .ok (.aload_n 0, 1) := by decide +kernel
theorem dL_law_625 : decode cL_law 625 = .ok (.iload_n 3, 1) := by decide +kernel
theorem dL_law_626 : decode cL_law 626 = .ok (.iconst 1, 1) := by decide +kernel
theorem dL_law_627 : decode cL_law 627 = .ok (.iadd, 1) := by decide +kernel
theorem dL_law_628 : decode cL_law 628 = .ok (.iaload, 1) := by decide +kernel
theorem dL_law_629 : decode cL_law 629 = .ok (.aload_n 0, 1) := by decide +kernel
theorem dL_law_630 : decode cL_law 630 = .ok (.iload_n 3, 1) := by decide +kernel
theorem dL_law_631 : decode cL_law 631 = .ok (.iconst 2, 1) := by decide +kernel
theorem dL_law_632 : decode cL_law 632 = .ok (.iadd, 1) := by decide +kernel
theorem dL_law_633 : decode cL_law 633 = .ok (.iaload, 1) := by decide +kernel
theorem dL_law_634 : decode cL_law 634 = .ok (.invokevirtual 70, 3) := by decide +kernel
theorem dL_law_637 : decode cL_law 637 = .ok (.aload_n 2, 1) := by decide +kernel
theorem dL_law_638 : decode cL_law 638 = .ok (.aload_n 0, 1) := by decide +kernel
theorem dL_law_639 : decode cL_law 639 = .ok (.iload_n 3, 1) := by decide +kernel
theorem dL_law_640 : decode cL_law 640 = .ok (.iconst 1, 1) := by decide +kernel
theorem dL_law_641 : decode cL_law 641 = .ok (.iadd, 1) := by decide +kernel
theorem dL_law_642 : decode cL_law 642 = .ok (.iaload, 1) := by decide +kernel
theorem dL_law_643 : decode cL_law 643 = .ok (.aload_n 0, 1) := by decide +kernel
theorem dL_law_644 : decode cL_law 644 = .ok (.iload_n 3, 1) := by decide +kernel
theorem dL_law_645 : decode cL_law 645 = .ok (.iconst 2, 1) := by decide +kernel
theorem dL_law_646 : decode cL_law 646 = .ok (.iadd, 1) := by decide +kernel
theorem dL_law_647 : decode cL_law 647 = .ok (.iaload, 1) := by decide +kernel
theorem dL_law_648 : decode cL_law 648 = .ok (.invokevirtual 73, 3) := by decide +kernel
theorem dL_law_651 : decode cL_law 651 = .ok (.if_icmp .eq 583, 3) := by decide +kernel
theorem dL_law_654 : decode cL_law 654 = .ok (.iconst 0, 1) := by decide +kernel
theorem dL_law_655 : decode cL_law 655 = .ok (.ireturn, 1) := by decide +kernel
theorem dL_law_656 : decode cL_law 656 = .ok (.aload_n 1, 1) := by decide +kernel
theorem dL_law_657 : decode cL_law 657 = .ok (.aload_n 0, 1) := by decide +kernel
theorem dL_law_658 : decode cL_law 658 = .ok (.iload_n 3, 1) := by decide +kernel
theorem dL_law_659 : decode cL_law 659 = .ok (.iconst 1, 1) := by decide +kernel
theorem dL_law_660 : decode cL_law 660 = .ok (.iadd, 1) := by decide +kernel
theorem dL_law_661 : decode cL_law 661 = .ok (.iaload, 1) := by decide +kernel
theorem dL_law_662 : decode cL_law 662 = .ok (.invokevirtual 74, 3) := by decide +kernel
theorem dL_law_665 : decode cL_law 665 = .ok (.aload_n 2, 1) := by decide +kernel
theorem dL_law_666 : decode cL_law 666 = .ok (.aload_n 0, 1) := by decide +kernel
theorem dL_law_667 : decode cL_law 667 = .ok (.iload_n 3, 1) := by decide +kernel
theorem dL_law_668 : decode cL_law 668 = .ok (.iconst 1, 1) := by decide +kernel
theorem dL_law_669 : decode cL_law 669 = .ok (.iadd, 1) := by decide +kernel
theorem dL_law_670 : decode cL_law 670 = .ok (.iaload, 1) := by decide +kernel
theorem dL_law_671 : decode cL_law 671 = .ok (.invokevirtual 77, 3) := by decide +kernel
theorem dL_law_674 : decode cL_law 674 = .ok (.if_icmp .eq 560, 3) := by decide +kernel
theorem dL_law_677 : decode cL_law 677 = .ok (.iconst 0, 1) := by decide +kernel
theorem dL_law_678 : decode cL_law 678 = .ok (.ireturn, 1) := by decide +kernel
theorem dL_law_679 : decode cL_law 679 = .ok (.aload_n 1, 1) := by decide +kernel
theorem dL_law_680 : decode cL_law 680 = .ok (.aload_n 0, 1) := by decide +kernel
theorem dL_law_681 : decode cL_law 681 = .ok (.iload_n 3, 1) := by decide +kernel
theorem dL_law_682 : decode cL_law 682 = .ok (.iconst 1, 1) := by decide +kernel
theorem dL_law_683 : decode cL_law 683 = .ok (.iadd, 1) := by decide +kernel
theorem dL_law_684 : decode cL_law 684 = .ok (.iaload, 1) := by decide +kernel
theorem dL_law_685 : decode cL_law 685 = .ok (.invokevirtual 78, 3) := by decide +kernel
theorem dL_law_688 : decode cL_law 688 = .ok (.aload_n 2, 1) := by decide +kernel
theorem dL_law_689 : decode cL_law 689 = .ok (.aload_n 0, 1) := by decide +kernel
theorem dL_law_690 : decode cL_law 690 = .ok (.iload_n 3, 1) := by decide +kernel
theorem dL_law_691 : decode cL_law 691 = .ok (.iconst 1, 1) := by decide +kernel
theorem dL_law_692 : decode cL_law 692 = .ok (.iadd, 1) := by decide +kernel
theorem dL_law_693 : decode cL_law 693 = .ok (.iaload, 1) := by decide +kernel
theorem dL_law_694 : decode cL_law 694 = .ok (.invokevirtual 81, 3) := by decide +kernel
theorem dL_law_697 : decode cL_law 697 = .ok (.if_icmp .eq 537, 3) := by decide +kernel
theorem dL_law_700 : decode cL_law 700 = .ok (.iconst 0, 1) := by decide +kernel
theorem dL_law_701 : decode cL_law 701 = .ok (.ireturn, 1) := by decide +kernel
theorem dL_law_702 : decode cL_law 702 = .ok (.aload_n 1, 1) := by decide +kernel
theorem dL_law_703 : decode cL_law 703 = .ok (.aload_n 0, 1) := by decide +kernel
theorem dL_law_704 : decode cL_law 704 = .ok (.iload_n 3, 1) := by decide +kernel
theorem dL_law_705 : decode cL_law 705 = .ok (.iconst 1, 1) := by decide +kernel
theorem dL_law_706 : decode cL_law 706 = .ok (.iadd, 1) := by decide +kernel
theorem dL_law_707 : decode cL_law 707 = .ok (.iaload, 1) := by decide +kernel
theorem dL_law_708 : decode cL_law 708 = .ok (.invokevirtual 82, 3) := by decide +kernel
theorem dL_law_711 : decode cL_law 711 = .ok (.aload_n 2, 1) := by decide +kernel
theorem dL_law_712 : decode cL_law 712 = .ok (.aload_n 0, 1) := by decide +kernel
theorem dL_law_713 : decode cL_law 713 = .ok (.iload_n 3, 1) := by decide +kernel
theorem dL_law_714 : decode cL_law 714 = .ok (.iconst 1, 1) := by decide +kernel
theorem dL_law_715 : decode cL_law 715 = .ok (.iadd, 1) := by decide +kernel
theorem dL_law_716 : decode cL_law 716 = .ok (.iaload, 1) := by decide +kernel
theorem dL_law_717 : decode cL_law 717 = .ok (.invokevirtual 85, 3) := by decide +kernel
theorem dL_law_720 : decode cL_law 720 = .ok (.if_icmp .eq 514, 3) := by decide +kernel
theorem dL_law_723 : decode cL_law 723 = .ok (.iconst 0, 1) := by decide +kernel
theorem dL_law_724 : decode cL_law 724 = .ok (.ireturn, 1) := by decide +kernel
theorem dL_law_725 : decode cL_law 725 = .ok (.aload_n 1, 1) := by decide +kernel
theorem dL_law_726 : decode cL_law 726 = .ok (.aload_n 0, 1) := by decide +kernel
theorem dL_law_727 : decode cL_law 727 = .ok (.iload_n 3, 1) := by decide +kernel
theorem dL_law_728 : decode cL_law 728 = .ok (.iconst 1, 1) := by decide +kernel
theorem dL_law_729 : decode cL_law 729 = .ok (.iadd, 1) := by decide +kernel
theorem dL_law_730 : decode cL_law 730 = .ok (.iaload, 1) := by decide +kernel
theorem dL_law_731 : decode cL_law 731 = .ok (.invokevirtual 86, 3) := by decide +kernel
theorem dL_law_734 : decode cL_law 734 = .ok (.aload_n 2, 1) := by decide +kernel
theorem dL_law_735 : decode cL_law 735 = .ok (.aload_n 0, 1) := by decide +kernel
theorem dL_law_736 : decode cL_law 736 = .ok (.iload_n 3, 1) := by decide +kernel
theorem dL_law_737 : decode cL_law 737 = .ok (.iconst 1, 1) := by decide +kernel
theorem dL_law_738 : decode cL_law 738 = .ok (.iadd, 1) := by decide +kernel
theorem dL_law_739 : decode cL_law 739 = .ok (.iaload, 1) := by decide +kernel
theorem dL_law_740 : decode cL_law 740 = .ok (.invokevirtual 89, 3) := by decide +kernel
theorem dL_law_743 : decode cL_law 743 = .ok (.if_icmp .eq 491, 3) := by decide +kernel
theorem dL_law_746 : decode cL_law 746 = .ok (.iconst 0, 1) := by decide +kernel
theorem dL_law_747 : decode cL_law 747 = .ok (.ireturn, 1) := by decide +kernel
theorem dL_law_748 : decode cL_law 748 = .ok (.aload_n 1, 1) := by decide +kernel
theorem dL_law_749 : decode cL_law 749 = .ok (.aload_n 0, 1) := by decide +kernel
theorem dL_law_750 : decode cL_law 750 = .ok (.iload_n 3, 1) := by decide +kernel
theorem dL_law_751 : decode cL_law 751 = .ok (.iconst 1, 1) := by decide +kernel
theorem dL_law_752 : decode cL_law 752 = .ok (.iadd, 1) := by decide +kernel
theorem dL_law_753 : decode cL_law 753 = .ok (.iaload, 1) := by decide +kernel
theorem dL_law_754 : decode cL_law 754 = .ok (.invokevirtual 90, 3) := by decide +kernel
theorem dL_law_757 : decode cL_law 757 = .ok (.aload_n 2, 1) := by decide +kernel
theorem dL_law_758 : decode cL_law 758 = .ok (.aload_n 0, 1) := by decide +kernel
theorem dL_law_759 : decode cL_law 759 = .ok (.iload_n 3, 1) := by decide +kernel
theorem dL_law_760 : decode cL_law 760 = .ok (.iconst 1, 1) := by decide +kernel
theorem dL_law_761 : decode cL_law 761 = .ok (.iadd, 1) := by decide +kernel
theorem dL_law_762 : decode cL_law 762 = .ok (.iaload, 1) := by decide +kernel
theorem dL_law_763 : decode cL_law 763 = .ok (.invokevirtual 93, 3) := by decide +kernel
theorem dL_law_766 : decode cL_law 766 = .ok (.if_icmp .eq 468, 3) := by decide +kernel
theorem dL_law_769 : decode cL_law 769 = .ok (.iconst 0, 1) := by decide +kernel
theorem dL_law_770 : decode cL_law 770 = .ok (.ireturn, 1) := by decide +kernel
theorem dL_law_771 : decode cL_law 771 = .ok (.aload_n 1, 1) := by decide +kernel
theorem dL_law_772 : decode cL_law 772 = .ok (.aload_n 0, 1) := by decide +kernel
theorem dL_law_773 : decode cL_law 773 = .ok (.iload_n 3, 1) := by decide +kernel
theorem dL_law_774 : decode cL_law 774 = .ok (.iconst 1, 1) := by decide +kernel
theorem dL_law_775 : decode cL_law 775 = .ok (.iadd, 1) := by decide +kernel
theorem dL_law_776 : decode cL_law 776 = .ok (.iaload, 1) := by decide +kernel
theorem dL_law_777 : decode cL_law 777 = .ok (.invokevirtual 94, 3) := by decide +kernel
theorem dL_law_780 : decode cL_law 780 = .ok (.aload_n 2, 1) := by decide +kernel
theorem dL_law_781 : decode cL_law 781 = .ok (.aload_n 0, 1) := by decide +kernel
theorem dL_law_782 : decode cL_law 782 = .ok (.iload_n 3, 1) := by decide +kernel
theorem dL_law_783 : decode cL_law 783 = .ok (.iconst 1, 1) := by decide +kernel
theorem dL_law_784 : decode cL_law 784 = .ok (.iadd, 1) := by decide +kernel
theorem dL_law_785 : decode cL_law 785 = .ok (.iaload, 1) := by decide +kernel
theorem dL_law_786 : decode cL_law 786 = .ok (.invokevirtual 97, 3) := by decide +kernel
theorem dL_law_789 : decode cL_law 789 = .ok (.if_icmp .eq 445, 3) := by decide +kernel
theorem dL_law_792 : decode cL_law 792 = .ok (.iconst 0, 1) := by decide +kernel
theorem dL_law_793 : decode cL_law 793 = .ok (.ireturn, 1) := by decide +kernel
theorem dL_law_794 : decode cL_law 794 = .ok (.aload_n 1, 1) := by decide +kernel
theorem dL_law_795 : decode cL_law 795 = .ok (.invokevirtual 98, 3) := by decide +kernel
theorem dL_law_798 : decode cL_law 798 = .ok (.aload_n 2, 1) := by decide +kernel
theorem dL_law_799 : decode cL_law 799 = .ok (.invokevirtual 101, 3) := by decide +kernel
theorem dL_law_802 : decode cL_law 802 = .ok (.if_icmp .eq 432, 3) := by decide +kernel
theorem dL_law_805 : decode cL_law 805 = .ok (.iconst 0, 1) := by decide +kernel
theorem dL_law_806 : decode cL_law 806 = .ok (.ireturn, 1) := by decide +kernel
theorem dL_law_807 : decode cL_law 807 = .ok (.aload_n 1, 1) := by decide +kernel
theorem dL_law_808 : decode cL_law 808 = .ok (.invokevirtual 102, 3) := by decide +kernel
theorem dL_law_811 : decode cL_law 811 = .ok (.aload_n 2, 1) := by decide +kernel
theorem dL_law_812 : decode cL_law 812 = .ok (.invokevirtual 105, 3) := by decide +kernel
theorem dL_law_815 : decode cL_law 815 = .ok (.if_icmp .eq 419, 3) := by decide +kernel
theorem dL_law_818 : decode cL_law 818 = .ok (.iconst 0, 1) := by decide +kernel
theorem dL_law_819 : decode cL_law 819 = .ok (.ireturn, 1) := by decide +kernel
theorem dL_law_820 : decode cL_law 820 = .ok (.aload_n 1, 1) := by decide +kernel
theorem dL_law_821 : decode cL_law 821 = .ok (.invokevirtual 106, 3) := by decide +kernel
theorem dL_law_824 : decode cL_law 824 = .ok (.aload_n 2, 1) := by decide +kernel
theorem dL_law_825 : decode cL_law 825 = .ok (.invokevirtual 109, 3) := by decide +kernel
theorem dL_law_828 : decode cL_law 828 = .ok (.if_icmp .eq 406, 3) := by decide +kernel
theorem dL_law_831 : decode cL_law 831 = .ok (.iconst 0, 1) := by decide +kernel
theorem dL_law_832 : decode cL_law 832 = .ok (.ireturn, 1) := by decide +kernel
theorem dL_law_833 : decode cL_law 833 = .ok (.aload_n 1, 1) := by decide +kernel
theorem dL_law_834 : decode cL_law 834 = .ok (.aload_n 0, 1) := by decide +kernel
theorem dL_law_835 : decode cL_law 835 = .ok (.iload_n 3, 1) := by decide +kernel
theorem dL_law_836 : decode cL_law 836 = .ok (.iconst 1, 1) := by decide +kernel
theorem dL_law_837 : decode cL_law 837 = .ok (.iadd, 1) := by decide +kernel
theorem dL_law_838 : decode cL_law 838 = .ok (.iaload, 1) := by decide +kernel
theorem dL_law_839 : decode cL_law 839 = .ok (.invokevirtual 110, 3) := by decide +kernel
theorem dL_law_842 : decode cL_law 842 = .ok (.aload_n 2, 1) := by decide +kernel
theorem dL_law_843 : decode cL_law 843 = .ok (.aload_n 0, 1) := by decide +kernel
theorem dL_law_844 : decode cL_law 844 = .ok (.iload_n 3, 1) := by decide +kernel
theorem dL_law_845 : decode cL_law 845 = .ok (.iconst 1, 1) := by decide +kernel
theorem dL_law_846 : decode cL_law 846 = .ok (.iadd, 1) := by decide +kernel
theorem dL_law_847 : decode cL_law 847 = .ok (.iaload, 1) := by decide +kernel
theorem dL_law_848 : decode cL_law 848 = .ok (.invokevirtual 113, 3) := by decide +kernel
theorem dL_law_851 : decode cL_law 851 = .ok (.if_icmp .eq 383, 3) := by decide +kernel
theorem dL_law_854 : decode cL_law 854 = .ok (.iconst 0, 1) := by decide +kernel
theorem dL_law_855 : decode cL_law 855 = .ok (.ireturn, 1) := by decide +kernel
theorem dL_law_856 : decode cL_law 856 = .ok (.aload_n 1, 1) := by decide +kernel
theorem dL_law_857 : decode cL_law 857 = .ok (.aload_n 0, 1) := by decide +kernel
theorem dL_law_858 : decode cL_law 858 = .ok (.iload_n 3, 1) := by decide +kernel
theorem dL_law_859 : decode cL_law 859 = .ok (.iconst 1, 1) := by decide +kernel
theorem dL_law_860 : decode cL_law 860 = .ok (.iadd, 1) := by decide +kernel
theorem dL_law_861 : decode cL_law 861 = .ok (.iaload, 1) := by decide +kernel
theorem dL_law_862 : decode cL_law 862 = .ok (.aload_n 0, 1) := by decide +kernel
theorem dL_law_863 : decode cL_law 863 = .ok (.iload_n 3, 1) := by decide +kernel
theorem dL_law_864 : decode cL_law 864 = .ok (.iconst 2, 1) := by decide +kernel
theorem dL_law_865 : decode cL_law 865 = .ok (.iadd, 1) := by decide +kernel
theorem dL_law_866 : decode cL_law 866 = .ok (.iaload, 1) := by decide +kernel
theorem dL_law_867 : decode cL_law 867 = .ok (.invokevirtual 114, 3) := by decide +kernel
theorem dL_law_870 : decode cL_law 870 = .ok (.aload_n 2, 1) := by decide +kernel
theorem dL_law_871 : decode cL_law 871 = .ok (.aload_n 0, 1) := by decide +kernel
theorem dL_law_872 : decode cL_law 872 = .ok (.iload_n 3, 1) := by decide +kernel
theorem dL_law_873 : decode cL_law 873 = .ok (.iconst 1, 1) := by decide +kernel
theorem dL_law_874 : decode cL_law 874 = .ok (.iadd, 1) := by decide +kernel
theorem dL_law_875 : decode cL_law 875 = .ok (.iaload, 1) := by decide +kernel
theorem dL_law_876 : decode cL_law 876 = .ok (.aload_n 0, 1) := by decide +kernel
theorem dL_law_877 : decode cL_law 877 = .ok (.iload_n 3, 1) := by decide +kernel
theorem dL_law_878 : decode cL_law 878 = .ok (.iconst 2, 1) := by decide +kernel
theorem dL_law_879 : decode cL_law 879 = .ok (.iadd, 1) := by decide +kernel
theorem dL_law_880 : decode cL_law 880 = .ok (.iaload, 1) := by decide +kernel
theorem dL_law_881 : decode cL_law 881 = .ok (.invokevirtual 117, 3) := by decide +kernel
theorem dL_law_884 : decode cL_law 884 = .ok (.if_icmp .eq 350, 3) := by decide +kernel
theorem dL_law_887 : decode cL_law 887 = .ok (.iconst 0, 1) := by decide +kernel
theorem dL_law_888 : decode cL_law 888 = .ok (.ireturn, 1) := by decide +kernel
theorem dL_law_889 : decode cL_law 889 = .ok (.aload_n 1, 1) := by decide +kernel
theorem dL_law_890 : decode cL_law 890 = .ok (.aload_n 0, 1) := by decide +kernel
theorem dL_law_891 : decode cL_law 891 = .ok (.iload_n 3, 1) := by decide +kernel
theorem dL_law_892 : decode cL_law 892 = .ok (.iconst 1, 1) := by decide +kernel
theorem dL_law_893 : decode cL_law 893 = .ok (.iadd, 1) := by decide +kernel
theorem dL_law_894 : decode cL_law 894 = .ok (.iaload, 1) := by decide +kernel
theorem dL_law_895 : decode cL_law 895 = .ok (.aload_n 0, 1) := by decide +kernel
theorem dL_law_896 : decode cL_law 896 = .ok (.iload_n 3, 1) := by decide +kernel
theorem dL_law_897 : decode cL_law 897 = .ok (.iconst 2, 1) := by decide +kernel
theorem dL_law_898 : decode cL_law 898 = .ok (.iadd, 1) := by decide +kernel
theorem dL_law_899 : decode cL_law 899 = .ok (.iaload, 1) := by decide +kernel
theorem dL_law_900 : decode cL_law 900 = .ok (.invokevirtual 118, 3) := by decide +kernel
theorem dL_law_903 : decode cL_law 903 = .ok (.aload_n 2, 1) := by decide +kernel
theorem dL_law_904 : decode cL_law 904 = .ok (.aload_n 0, 1) := by decide +kernel
theorem dL_law_905 : decode cL_law 905 = .ok (.iload_n 3, 1) := by decide +kernel
theorem dL_law_906 : decode cL_law 906 = .ok (.iconst 1, 1) := by decide +kernel
theorem dL_law_907 : decode cL_law 907 = .ok (.iadd, 1) := by decide +kernel
theorem dL_law_908 : decode cL_law 908 = .ok (.iaload, 1) := by decide +kernel
theorem dL_law_909 : decode cL_law 909 = .ok (.aload_n 0, 1) := by decide +kernel
theorem dL_law_910 : decode cL_law 910 = .ok (.iload_n 3, 1) := by decide +kernel
theorem dL_law_911 : decode cL_law 911 = .ok (.iconst 2, 1) := by decide +kernel
theorem dL_law_912 : decode cL_law 912 = .ok (.iadd, 1) := by decide +kernel
theorem dL_law_913 : decode cL_law 913 = .ok (.iaload, 1) := by decide +kernel
theorem dL_law_914 : decode cL_law 914 = .ok (.invokevirtual 121, 3) := by decide +kernel
theorem dL_law_917 : decode cL_law 917 = .ok (.if_icmp .eq 317, 3) := by decide +kernel
theorem dL_law_920 : decode cL_law 920 = .ok (.iconst 0, 1) := by decide +kernel
theorem dL_law_921 : decode cL_law 921 = .ok (.ireturn, 1) := by decide +kernel
theorem dL_law_922 : decode cL_law 922 = .ok (.aload_n 1, 1) := by decide +kernel
theorem dL_law_923 : decode cL_law 923 = .ok (.aload_n 0, 1) := by decide +kernel
theorem dL_law_924 : decode cL_law 924 = .ok (.iload_n 3, 1) := by decide +kernel
theorem dL_law_925 : decode cL_law 925 = .ok (.iconst 1, 1) := by decide +kernel
theorem dL_law_926 : decode cL_law 926 = .ok (.iadd, 1) := by decide +kernel
theorem dL_law_927 : decode cL_law 927 = .ok (.iaload, 1) := by decide +kernel
theorem dL_law_928 : decode cL_law 928 = .ok (.aload_n 0, 1) := by decide +kernel
theorem dL_law_929 : decode cL_law 929 = .ok (.iload_n 3, 1) := by decide +kernel
theorem dL_law_930 : decode cL_law 930 = .ok (.iconst 2, 1) := by decide +kernel
theorem dL_law_931 : decode cL_law 931 = .ok (.iadd, 1) := by decide +kernel
theorem dL_law_932 : decode cL_law 932 = .ok (.iaload, 1) := by decide +kernel
theorem dL_law_933 : decode cL_law 933 = .ok (.invokevirtual 122, 3) := by decide +kernel
theorem dL_law_936 : decode cL_law 936 = .ok (.aload_n 2, 1) := by decide +kernel
theorem dL_law_937 : decode cL_law 937 = .ok (.aload_n 0, 1) := by decide +kernel
theorem dL_law_938 : decode cL_law 938 = .ok (.iload_n 3, 1) := by decide +kernel
theorem dL_law_939 : decode cL_law 939 = .ok (.iconst 1, 1) := by decide +kernel
theorem dL_law_940 : decode cL_law 940 = .ok (.iadd, 1) := by decide +kernel
theorem dL_law_941 : decode cL_law 941 = .ok (.iaload, 1) := by decide +kernel
theorem dL_law_942 : decode cL_law 942 = .ok (.aload_n 0, 1) := by decide +kernel
theorem dL_law_943 : decode cL_law 943 = .ok (.iload_n 3, 1) := by decide +kernel
theorem dL_law_944 : decode cL_law 944 = .ok (.iconst 2, 1) := by decide +kernel
theorem dL_law_945 : decode cL_law 945 = .ok (.iadd, 1) := by decide +kernel
theorem dL_law_946 : decode cL_law 946 = .ok (.iaload, 1) := by decide +kernel
theorem dL_law_947 : decode cL_law 947 = .ok (.invokevirtual 125, 3) := by decide +kernel
theorem dL_law_950 : decode cL_law 950 = .ok (.if_icmp .eq 284, 3) := by decide +kernel
theorem dL_law_953 : decode cL_law 953 = .ok (.iconst 0, 1) := by decide +kernel
theorem dL_law_954 : decode cL_law 954 = .ok (.ireturn, 1) := by decide +kernel
theorem dL_law_955 : decode cL_law 955 = .ok (.aload_n 1, 1) := by decide +kernel
theorem dL_law_956 : decode cL_law 956 = .ok (.aload_n 0, 1) := by decide +kernel
theorem dL_law_957 : decode cL_law 957 = .ok (.iload_n 3, 1) := by decide +kernel
theorem dL_law_958 : decode cL_law 958 = .ok (.iconst 1, 1) := by decide +kernel
theorem dL_law_959 : decode cL_law 959 = .ok (.iadd, 1) := by decide +kernel
theorem dL_law_960 : decode cL_law 960 = .ok (.iaload, 1) := by decide +kernel
theorem dL_law_961 : decode cL_law 961 = .ok (.aload_n 0, 1) := by decide +kernel
theorem dL_law_962 : decode cL_law 962 = .ok (.iload_n 3, 1) := by decide +kernel
theorem dL_law_963 : decode cL_law 963 = .ok (.iconst 2, 1) := by decide +kernel
theorem dL_law_964 : decode cL_law 964 = .ok (.iadd, 1) := by decide +kernel
theorem dL_law_965 : decode cL_law 965 = .ok (.iaload, 1) := by decide +kernel
theorem dL_law_966 : decode cL_law 966 = .ok (.invokevirtual 126, 3) := by decide +kernel
theorem dL_law_969 : decode cL_law 969 = .ok (.aload_n 2, 1) := by decide +kernel
theorem dL_law_970 : decode cL_law 970 = .ok (.aload_n 0, 1) := by decide +kernel
theorem dL_law_971 : decode cL_law 971 = .ok (.iload_n 3, 1) := by decide +kernel
theorem dL_law_972 : decode cL_law 972 = .ok (.iconst 1, 1) := by decide +kernel
theorem dL_law_973 : decode cL_law 973 = .ok (.iadd, 1) := by decide +kernel
theorem dL_law_974 : decode cL_law 974 = .ok (.iaload, 1) := by decide +kernel
theorem dL_law_975 : decode cL_law 975 = .ok (.aload_n 0, 1) := by decide +kernel
theorem dL_law_976 : decode cL_law 976 = .ok (.iload_n 3, 1) := by decide +kernel
theorem dL_law_977 : decode cL_law 977 = .ok (.iconst 2, 1) := by decide +kernel
theorem dL_law_978 : decode cL_law 978 = .ok (.iadd, 1) := by decide +kernel
theorem dL_law_979 : decode cL_law 979 = .ok (.iaload, 1) := by decide +kernel
theorem dL_law_980 : decode cL_law 980 = .ok (.invokevirtual 129, 3) := by decide +kernel
theorem dL_law_983 : decode cL_law 983 = .ok (.if_icmp .eq 251, 3) := by decide +kernel
theorem dL_law_986 : decode cL_law 986 = .ok (.iconst 0, 1) := by decide +kernel
theorem dL_law_987 : decode cL_law 987 = .ok (.ireturn, 1) := by decide +kernel
theorem dL_law_988 : decode cL_law 988 = .ok (.aload_n 1, 1) := by decide +kernel
theorem dL_law_989 : decode cL_law 989 = .ok (.aload_n 0, 1) := by decide +kernel
theorem dL_law_990 : decode cL_law 990 = .ok (.iload_n 3, 1) := by decide +kernel
theorem dL_law_991 : decode cL_law 991 = .ok (.iconst 1, 1) := by decide +kernel
theorem dL_law_992 : decode cL_law 992 = .ok (.iadd, 1) := by decide +kernel
theorem dL_law_993 : decode cL_law 993 = .ok (.iaload, 1) := by decide +kernel
theorem dL_law_994 : decode cL_law 994 = .ok (.invokevirtual 130, 3) := by decide +kernel
theorem dL_law_997 : decode cL_law 997 = .ok (.aload_n 2, 1) := by decide +kernel
theorem dL_law_998 : decode cL_law 998 = .ok (.aload_n 0, 1) := by decide +kernel
theorem dL_law_999 : decode cL_law 999 = .ok (.iload_n 3, 1) := by decide +kernel
theorem dL_law_1000 : decode cL_law 1000 = .ok (.iconst 1, 1) := by decide +kernel
theorem dL_law_1001 : decode cL_law 1001 = .ok (.iadd, 1) := by decide +kernel
theorem dL_law_1002 : decode cL_law 1002 = .ok (.iaload, 1) := by decide +kernel
theorem dL_law_1003 : decode cL_law 1003 = .ok (.invokevirtual 133, 3) := by decide +kernel
theorem dL_law_1006 : decode cL_law 1006 = .ok (.if_icmp .eq 228, 3) := by decide +kernel
theorem dL_law_1009 : decode cL_law 1009 = .ok (.iconst 0, 1) := by decide +kernel
theorem dL_law_1010 : decode cL_law 1010 = .ok (.ireturn, 1) := by decide +kernel
theorem dL_law_1011 : decode cL_law 1011 = .ok (.aload_n 1, 1) := by decide +kernel
theorem dL_law_1012 : decode cL_law 1012 = .ok (.aload_n 0, 1) := by decide +kernel
theorem dL_law_1013 : decode cL_law 1013 = .ok (.iload_n 3, 1) := by decide +kernel
theorem dL_law_1014 : decode cL_law 1014 = .ok (.iconst 1, 1) := by decide +kernel
theorem dL_law_1015 : decode cL_law 1015 = .ok (.iadd, 1) := by decide +kernel
theorem dL_law_1016 : decode cL_law 1016 = .ok (.iaload, 1) := by decide +kernel
theorem dL_law_1017 : decode cL_law 1017 = .ok (.aload_n 0, 1) := by decide +kernel
theorem dL_law_1018 : decode cL_law 1018 = .ok (.iload_n 3, 1) := by decide +kernel
theorem dL_law_1019 : decode cL_law 1019 = .ok (.iconst 2, 1) := by decide +kernel
theorem dL_law_1020 : decode cL_law 1020 = .ok (.iadd, 1) := by decide +kernel
theorem dL_law_1021 : decode cL_law 1021 = .ok (.iaload, 1) := by decide +kernel
theorem dL_law_1022 : decode cL_law 1022 = .ok (.aload_n 0, 1) := by decide +kernel
theorem dL_law_1023 : decode cL_law 1023 = .ok (.iload_n 3, 1) := by decide +kernel
theorem dL_law_1024 : decode cL_law 1024 = .ok (.iconst 3, 1) := by decide +kernel
theorem dL_law_1025 : decode cL_law 1025 = .ok (.iadd, 1) := by decide +kernel
theorem dL_law_1026 : decode cL_law 1026 = .ok (.iaload, 1) := by decide +kernel
theorem dL_law_1027 : decode cL_law 1027 = .ok (.invokevirtual 134, 3) := by decide +kernel
theorem dL_law_1030 : decode cL_law 1030 = .ok (.aload_n 2, 1) := by decide +kernel
theorem dL_law_1031 : decode cL_law 1031 = .ok (.aload_n 0, 1) := by decide +kernel
theorem dL_law_1032 : decode cL_law 1032 = .ok (.iload_n 3, 1) := by decide +kernel
theorem dL_law_1033 : decode cL_law 1033 = .ok (.iconst 1, 1) := by decide +kernel
theorem dL_law_1034 : decode cL_law 1034 = .ok (.iadd, 1) := by decide +kernel
theorem dL_law_1035 : decode cL_law 1035 = .ok (.iaload, 1) := by decide +kernel
theorem dL_law_1036 : decode cL_law 1036 = .ok (.aload_n 0, 1) := by decide +kernel
theorem dL_law_1037 : decode cL_law 1037 = .ok (.iload_n 3, 1) := by decide +kernel
theorem dL_law_1038 : decode cL_law 1038 = .ok (.iconst 2, 1) := by decide +kernel
theorem dL_law_1039 : decode cL_law 1039 = .ok (.iadd, 1) := by decide +kernel
theorem dL_law_1040 : decode cL_law 1040 = .ok (.iaload, 1) := by decide +kernel
theorem dL_law_1041 : decode cL_law 1041 = .ok (.aload_n 0, 1) := by decide +kernel
theorem dL_law_1042 : decode cL_law 1042 = .ok (.iload_n 3, 1) := by decide +kernel
theorem dL_law_1043 : decode cL_law 1043 = .ok (.iconst 3, 1) := by decide +kernel
theorem dL_law_1044 : decode cL_law 1044 = .ok (.iadd, 1) := by decide +kernel
theorem dL_law_1045 : decode cL_law 1045 = .ok (.iaload, 1) := by decide +kernel
theorem dL_law_1046 : decode cL_law 1046 = .ok (.invokevirtual 137, 3) := by decide +kernel
theorem dL_law_1049 : decode cL_law 1049 = .ok (.if_icmp .eq 185, 3) := by decide +kernel
theorem dL_law_1052 : decode cL_law 1052 = .ok (.iconst 0, 1) := by decide +kernel
theorem dL_law_1053 : decode cL_law 1053 = .ok (.ireturn, 1) := by decide +kernel
theorem dL_law_1054 : decode cL_law 1054 = .ok (.aload_n 1, 1) := by decide +kernel
theorem dL_law_1055 : decode cL_law 1055 = .ok (.aload_n 0, 1) := by decide +kernel
theorem dL_law_1056 : decode cL_law 1056 = .ok (.iload_n 3, 1) := by decide +kernel
theorem dL_law_1057 : decode cL_law 1057 = .ok (.iconst 1, 1) := by decide +kernel
theorem dL_law_1058 : decode cL_law 1058 = .ok (.iadd, 1) := by decide +kernel
theorem dL_law_1059 : decode cL_law 1059 = .ok (.iaload, 1) := by decide +kernel
theorem dL_law_1060 : decode cL_law 1060 = .ok (.aload_n 0, 1) := by decide +kernel
theorem dL_law_1061 : decode cL_law 1061 = .ok (.iload_n 3, 1) := by decide +kernel
theorem dL_law_1062 : decode cL_law 1062 = .ok (.iconst 2, 1) := by decide +kernel
theorem dL_law_1063 : decode cL_law 1063 = .ok (.iadd, 1) := by decide +kernel
theorem dL_law_1064 : decode cL_law 1064 = .ok (.iaload, 1) := by decide +kernel
theorem dL_law_1065 : decode cL_law 1065 = .ok (.invokevirtual 138, 3) := by decide +kernel
theorem dL_law_1068 : decode cL_law 1068 = .ok (.aload_n 2, 1) := by decide +kernel
theorem dL_law_1069 : decode cL_law 1069 = .ok (.aload_n 0, 1) := by decide +kernel
theorem dL_law_1070 : decode cL_law 1070 = .ok (.iload_n 3, 1) := by decide +kernel
theorem dL_law_1071 : decode cL_law 1071 = .ok (.iconst 1, 1) := by decide +kernel
theorem dL_law_1072 : decode cL_law 1072 = .ok (.iadd, 1) := by decide +kernel
theorem dL_law_1073 : decode cL_law 1073 = .ok (.iaload, 1) := by decide +kernel
theorem dL_law_1074 : decode cL_law 1074 = .ok (.aload_n 0, 1) := by decide +kernel
theorem dL_law_1075 : decode cL_law 1075 = .ok (.iload_n 3, 1) := by decide +kernel
theorem dL_law_1076 : decode cL_law 1076 = .ok (.iconst 2, 1) := by decide +kernel
theorem dL_law_1077 : decode cL_law 1077 = .ok (.iadd, 1) := by decide +kernel
theorem dL_law_1078 : decode cL_law 1078 = .ok (.iaload, 1) := by decide +kernel
theorem dL_law_1079 : decode cL_law 1079 = .ok (.invokevirtual 141, 3) := by decide +kernel
theorem dL_law_1082 : decode cL_law 1082 = .ok (.if_icmp .eq 152, 3) := by decide +kernel
theorem dL_law_1085 : decode cL_law 1085 = .ok (.iconst 0, 1) := by decide +kernel
theorem dL_law_1086 : decode cL_law 1086 = .ok (.ireturn, 1) := by decide +kernel
theorem dL_law_1087 : decode cL_law 1087 = .ok (.aload_n 1, 1) := by decide +kernel
theorem dL_law_1088 : decode cL_law 1088 = .ok (.aload_n 0, 1) := by decide +kernel
theorem dL_law_1089 : decode cL_law 1089 = .ok (.iload_n 3, 1) := by decide +kernel
theorem dL_law_1090 : decode cL_law 1090 = .ok (.iconst 1, 1) := by decide +kernel
theorem dL_law_1091 : decode cL_law 1091 = .ok (.iadd, 1) := by decide +kernel
theorem dL_law_1092 : decode cL_law 1092 = .ok (.iaload, 1) := by decide +kernel
theorem dL_law_1093 : decode cL_law 1093 = .ok (.aload_n 0, 1) := by decide +kernel
theorem dL_law_1094 : decode cL_law 1094 = .ok (.iload_n 3, 1) := by decide +kernel
theorem dL_law_1095 : decode cL_law 1095 = .ok (.iconst 2, 1) := by decide +kernel
theorem dL_law_1096 : decode cL_law 1096 = .ok (.iadd, 1) := by decide +kernel
theorem dL_law_1097 : decode cL_law 1097 = .ok (.iaload, 1) := by decide +kernel
theorem dL_law_1098 : decode cL_law 1098 = .ok (.invokevirtual 142, 3) := by decide +kernel
theorem dL_law_1101 : decode cL_law 1101 = .ok (.aload_n 2, 1) := by decide +kernel
theorem dL_law_1102 : decode cL_law 1102 = .ok (.aload_n 0, 1) := by decide +kernel
theorem dL_law_1103 : decode cL_law 1103 = .ok (.iload_n 3, 1) := by decide +kernel
theorem dL_law_1104 : decode cL_law 1104 = .ok (.iconst 1, 1) := by decide +kernel
theorem dL_law_1105 : decode cL_law 1105 = .ok (.iadd, 1) := by decide +kernel
theorem dL_law_1106 : decode cL_law 1106 = .ok (.iaload, 1) := by decide +kernel
theorem dL_law_1107 : decode cL_law 1107 = .ok (.aload_n 0, 1) := by decide +kernel
theorem dL_law_1108 : decode cL_law 1108 = .ok (.iload_n 3, 1) := by decide +kernel
theorem dL_law_1109 : decode cL_law 1109 = .ok (.iconst 2, 1) := by decide +kernel
theorem dL_law_1110 : decode cL_law 1110 = .ok (.iadd, 1) := by decide +kernel
theorem dL_law_1111 : decode cL_law 1111 = .ok (.iaload, 1) := by decide +kernel
theorem dL_law_1112 : decode cL_law 1112 = .ok (.invokevirtual 145, 3) := by decide +kernel
theorem dL_law_1115 : decode cL_law 1115 = .ok (.if_icmp .eq 119, 3) := by decide +kernel
theorem dL_law_1118 : decode cL_law 1118 = .ok (.iconst 0, 1) := by decide +kernel
theorem dL_law_1119 : decode cL_law 1119 = .ok (.ireturn, 1) := by decide +kernel
theorem dL_law_1120 : decode cL_law 1120 = .ok (.aload_n 1, 1) := by decide +kernel
theorem dL_law_1121 : decode cL_law 1121 = .ok (.invokevirtual 146, 3) := by decide +kernel
theorem dL_law_1124 : decode cL_law 1124 = .ok (.aload_n 2, 1) := by decide +kernel
theorem dL_law_1125 : decode cL_law 1125 = .ok (.invokevirtual 149, 3) := by decide +kernel
theorem dL_law_1128 : decode cL_law 1128 = .ok (.if_icmp .eq 106, 3) := by decide +kernel
theorem dL_law_1131 : decode cL_law 1131 = .ok (.iconst 0, 1) := by decide +kernel
theorem dL_law_1132 : decode cL_law 1132 = .ok (.ireturn, 1) := by decide +kernel
theorem dL_law_1133 : decode cL_law 1133 = .ok (.aload_n 1, 1) := by decide +kernel
theorem dL_law_1134 : decode cL_law 1134 = .ok (.invokevirtual 150, 3) := by decide +kernel
theorem dL_law_1137 : decode cL_law 1137 = .ok (.aload_n 2, 1) := by decide +kernel
theorem dL_law_1138 : decode cL_law 1138 = .ok (.invokevirtual 154, 3) := by decide +kernel
theorem dL_law_1141 : decode cL_law 1141 = .ok (.lcmp, 1) := by decide +kernel
theorem dL_law_1142 : decode cL_law 1142 = .ok (.ifCond .eq 92, 3) := by decide +kernel
theorem dL_law_1145 : decode cL_law 1145 = .ok (.iconst 0, 1) := by decide +kernel
theorem dL_law_1146 : decode cL_law 1146 = .ok (.ireturn, 1) := by decide +kernel
theorem dL_law_1147 : decode cL_law 1147 = .ok (.aload_n 1, 1) := by decide +kernel
theorem dL_law_1148 : decode cL_law 1148 = .ok (.invokevirtual 155, 3) := by decide +kernel
theorem dL_law_1151 : decode cL_law 1151 = .ok (.aload_n 2, 1) := by decide +kernel
theorem dL_law_1152 : decode cL_law 1152 = .ok (.invokevirtual 158, 3) := by decide +kernel
theorem dL_law_1155 : decode cL_law 1155 = .ok (.lcmp, 1) := by decide +kernel
theorem dL_law_1156 : decode cL_law 1156 = .ok (.ifCond .eq 78, 3) := by decide +kernel
theorem dL_law_1159 : decode cL_law 1159 = .ok (.iconst 0, 1) := by decide +kernel
theorem dL_law_1160 : decode cL_law 1160 = .ok (.ireturn, 1) := by decide +kernel
theorem dL_law_1161 : decode cL_law 1161 = .ok (.aload_n 1, 1) := by decide +kernel
theorem dL_law_1162 : decode cL_law 1162 = .ok (.aload_n 0, 1) := by decide +kernel
theorem dL_law_1163 : decode cL_law 1163 = .ok (.iload_n 3, 1) := by decide +kernel
theorem dL_law_1164 : decode cL_law 1164 = .ok (.iconst 1, 1) := by decide +kernel
theorem dL_law_1165 : decode cL_law 1165 = .ok (.iadd, 1) := by decide +kernel
theorem dL_law_1166 : decode cL_law 1166 = .ok (.iaload, 1) := by decide +kernel
theorem dL_law_1167 : decode cL_law 1167 = .ok (.invokevirtual 159, 3) := by decide +kernel
theorem dL_law_1170 : decode cL_law 1170 = .ok (.aload_n 2, 1) := by decide +kernel
theorem dL_law_1171 : decode cL_law 1171 = .ok (.aload_n 0, 1) := by decide +kernel
theorem dL_law_1172 : decode cL_law 1172 = .ok (.iload_n 3, 1) := by decide +kernel
theorem dL_law_1173 : decode cL_law 1173 = .ok (.iconst 1, 1) := by decide +kernel
theorem dL_law_1174 : decode cL_law 1174 = .ok (.iadd, 1) := by decide +kernel
theorem dL_law_1175 : decode cL_law 1175 = .ok (.iaload, 1) := by decide +kernel
theorem dL_law_1176 : decode cL_law 1176 = .ok (.invokevirtual 162, 3) := by decide +kernel
theorem dL_law_1179 : decode cL_law 1179 = .ok (.if_icmp .eq 55, 3) := by decide +kernel
theorem dL_law_1182 : decode cL_law 1182 = .ok (.iconst 0, 1) := by decide +kernel
theorem dL_law_1183 : decode cL_law 1183 = .ok (.ireturn, 1) := by decide +kernel
theorem dL_law_1184 : decode cL_law 1184 = .ok (.aload_n 1, 1) := by decide +kernel
theorem dL_law_1185 : decode cL_law 1185 = .ok (.invokevirtual 163, 3) := by decide +kernel
theorem dL_law_1188 : decode cL_law 1188 = .ok (.aload_n 2, 1) := by decide +kernel
theorem dL_law_1189 : decode cL_law 1189 = .ok (.invokevirtual 166, 3) := by decide +kernel
theorem dL_law_1192 : decode cL_law 1192 = .ok (.if_icmp .eq 42, 3) := by decide +kernel
theorem dL_law_1195 : decode cL_law 1195 = .ok (.iconst 0, 1) := by decide +kernel
theorem dL_law_1196 : decode cL_law 1196 = .ok (.ireturn, 1) := by decide +kernel
theorem dL_law_1197 : decode cL_law 1197 = .ok (.aload_n 1, 1) := by decide +kernel
theorem dL_law_1198 : decode cL_law 1198 = .ok (.aload_n 0, 1) := by decide +kernel
theorem dL_law_1199 : decode cL_law 1199 = .ok (.iload_n 3, 1) := by decide +kernel
theorem dL_law_1200 : decode cL_law 1200 = .ok (.iconst 1, 1) := by decide +kernel
theorem dL_law_1201 : decode cL_law 1201 = .ok (.iadd, 1) := by decide +kernel
theorem dL_law_1202 : decode cL_law 1202 = .ok (.iaload, 1) := by decide +kernel
theorem dL_law_1203 : decode cL_law 1203 = .ok (.invokevirtual 167, 3) := by decide +kernel
theorem dL_law_1206 : decode cL_law 1206 = .ok (.aload_n 2, 1) := by decide +kernel
theorem dL_law_1207 : decode cL_law 1207 = .ok (.aload_n 0, 1) := by decide +kernel
theorem dL_law_1208 : decode cL_law 1208 = .ok (.iload_n 3, 1) := by decide +kernel
theorem dL_law_1209 : decode cL_law 1209 = .ok (.iconst 1, 1) := by decide +kernel
theorem dL_law_1210 : decode cL_law 1210 = .ok (.iadd, 1) := by decide +kernel
theorem dL_law_1211 : decode cL_law 1211 = .ok (.iaload, 1) := by decide +kernel
theorem dL_law_1212 : decode cL_law 1212 = .ok (.invokevirtual 170, 3) := by decide +kernel
theorem dL_law_1215 : decode cL_law 1215 = .ok (.if_icmp .eq 19, 3) := by decide +kernel
theorem dL_law_1218 : decode cL_law 1218 = .ok (.iconst 0, 1) := by decide +kernel
theorem dL_law_1219 : decode cL_law 1219 = .ok (.ireturn, 1) := by decide +kernel
theorem dL_law_1220 : decode cL_law 1220 = .ok (.aload_n 1, 1) := by decide +kernel
theorem dL_law_1221 : decode cL_law 1221 = .ok (.invokevirtual 171, 3) := by decide +kernel
theorem dL_law_1224 : decode cL_law 1224 = .ok (.aload_n 2, 1) := by decide +kernel
theorem dL_law_1225 : decode cL_law 1225 = .ok (.invokevirtual 174, 3) := by decide +kernel
theorem dL_law_1228 : decode cL_law 1228 = .ok (.lcmp, 1) := by decide +kernel
theorem dL_law_1229 : decode cL_law 1229 = .ok (.ifCond .eq 5, 3) := by decide +kernel
theorem dL_law_1232 : decode cL_law 1232 = .ok (.iconst 0, 1) := by decide +kernel
end
section
theorem dL_law_1233 : decode cL_law 1233 = .ok (.ireturn, 1) := by decide +kernel
theorem dL_law_1234 : decode cL_law 1234 = .ok (.iinc 3 6, 3) := by decide +kernel
theorem dL_law_1237 : decode cL_law 1237 = .ok (.goto (-1219), 3) := by decide +kernel
theorem dL_law_1240 : decode cL_law 1240 = .ok (.iconst 1, 1) := by decide +kernel
theorem dL_law_1241 : decode cL_law 1241 = .ok (.ireturn, 1) := by decide +kernel
end
section
-- ===== THE ABSTRACT MACHINE: places, cells, heaps, locals =====
def am_pv (b lt B : Nat) : Nat → Nat
  | 0 => b
  | 1 => lt
  | k + 2 => B + k
def am_cv (f : Nat → Nat) : Value → Value
  | .ref k => .ref (f k)
  | v => v
abbrev am_C : Type := (Nat × vp_A) ⊕ (Nat × List Value)
abbrev am_H : Type := List am_C
def am_ty : Nat → FieldType
  | 0 => .int
  | 1 => .byte
  | 2 => .long
  | 3 => .object "FlapBoard$Row"
  | 4 => .object "FlapBoard$Text"
  | 5 => .object "FlapBoard$Deeds"
  | 6 => .object "FlapBoard$Board"
  | _ => .array .int
def am_x (f : Nat → Nat) (x : vp_A) : vp_A := match x with
  | (n, .inl g) => (n, .inl g)
  | (n, .inr (.inl g)) => (n, .inr (.inl g))
  | (n, .inr (.inr (.inl g))) => (n, .inr (.inr (.inl g)))
  | (n, .inr (.inr (.inr (.inl g)))) => (n, .inr (.inr (.inr (.inl g))))
  | (n, .inr (.inr (.inr (.inr g)))) => (n, .inr (.inr (.inr (.inr (fun j => (g j).map f)))))
def am_E (f : Nat → Nat) (cA : Nat → ClassId) : am_C → va_E
  | .inl (t, x) => .inl (cA t, am_x f x)
  | .inr (ci, fs) => .inr (ci, fs.map (am_cv f))
def am_ws (f : Nat → Nat) (cA : Nat → ClassId) : Nat → am_H → va_W
  | _, [] => []
  | B, c :: h => (B, am_E f cA c) :: am_ws f cA (B + 1) h
theorem am_ws_get (f : Nat → Nat) (cA : Nat → ClassId) : ∀ (h : am_H) (B k : Nat), (am_ws f cA B h)[k]? = (h[k]?).map (fun c => (B + k, am_E f cA c))
  | [], B, k => by simp [am_ws]
  | c :: h, B, 0 => by simp [am_ws]
  | c :: h, B, k + 1 => by
    show (am_ws f cA (B + 1) h)[k]? = _
    rw [am_ws_get f cA h (B + 1) k]
    simp [Nat.add_assoc, Nat.add_comm 1 k]
theorem am_ws_at {f : Nat → Nat} {cA : Nat → ClassId} {h : am_H} {B k : Nat} {c : am_C} (hk : h[k]? = some c) : (am_ws f cA B h)[k]? = some (B + k, am_E f cA c) := by
  rw [am_ws_get, hk]; rfl
theorem am_ws_set (f : Nat → Nat) (cA : Nat → ClassId) : ∀ (h : am_H) (B k : Nat) (c : am_C), (am_ws f cA B h).set k (B + k, am_E f cA c) = am_ws f cA B (h.set k c)
  | [], B, k, c => by simp [am_ws]
  | d :: h, B, 0, c => by simp [am_ws]
  | d :: h, B, k + 1, c => by
    show (B, am_E f cA d) :: (am_ws f cA (B + 1) h).set k (B + (k + 1), am_E f cA c) = (B, am_E f cA d) :: am_ws f cA (B + 1) (h.set k c)
    rw [← am_ws_set f cA h (B + 1) k c, show B + 1 + k = B + (k + 1) by omega]
theorem am_ws_app (f : Nat → Nat) (cA : Nat → ClassId) : ∀ (h g : am_H) (B : Nat), am_ws f cA B (h ++ g) = am_ws f cA B h ++ am_ws f cA (B + h.length) g
  | [], g, B => by simp [am_ws]
  | d :: h, g, B => by
    show (B, am_E f cA d) :: am_ws f cA (B + 1) (h ++ g) = _
    rw [am_ws_app f cA h g (B + 1)]
    simp [am_ws, Nat.add_assoc, Nat.add_comm 1]
theorem am_ws_D (f : Nat → Nat) (cA : Nat → ClassId) (B : Nat) (h : am_H) : va_D (fun q => B ≤ q) (am_ws f cA B h) := by
  refine ⟨fun i j p q hi hj e => ?_, fun k q hk => ?_⟩
  · rw [am_ws_get] at hi hj
    obtain ⟨x, -, rfl⟩ := Option.map_eq_some_iff.mp hi
    obtain ⟨y, -, rfl⟩ := Option.map_eq_some_iff.mp hj
    have e2 : B + i = B + j := e
    omega
  · rw [am_ws_get] at hk
    obtain ⟨x, -, rfl⟩ := Option.map_eq_some_iff.mp hk
    exact Nat.le_add_right _ _
def am_sc : am_C → Nat
  | .inl (_, x) => x.1
  | .inr (_, fs) => fs.length
def am_sz : am_H → Nat
  | [] => 0
  | c :: h => am_sc c + am_sz h
theorem am_sz_app : ∀ (h g : am_H), am_sz (h ++ g) = am_sz h + am_sz g
  | [], g => by simp [am_sz]
  | c :: h, g => by
    show am_sc c + am_sz (h ++ g) = am_sc c + am_sz h + am_sz g
    rw [am_sz_app h g, Nat.add_assoc]
theorem am_sz_set : ∀ (h : am_H) (k : Nat) (c d : am_C), h[k]? = some d → am_sc c = am_sc d → am_sz (h.set k c) = am_sz h
  | [], k, c, d, hk, _ => by simp at hk
  | e :: h, 0, c, d, hk, hc => by
    simp at hk
    subst hk
    show am_sc c + am_sz h = am_sc e + am_sz h
    rw [hc]
  | e :: h, k + 1, c, d, hk, hc => by
    show am_sc e + am_sz (h.set k c) = am_sc e + am_sz h
    rw [am_sz_set h k c d (by simpa using hk) hc]
def am_tys (cA : Nat → ClassId) : List (ClassId × FieldType) := [(cA 0, am_ty 0), (cA 1, am_ty 1), (cA 2, am_ty 2), (cA 3, am_ty 3), (cA 4, am_ty 4), (cA 5, am_ty 5), (cA 6, am_ty 6), (cA 7, am_ty 7)]
-- locals: the value .float 0 stands for nothing known
def am_L (f : Nat → Nat) (nL : Nat) (L : List Value) (ls : Array Slot) : Prop := ls.size = nL ∧ lv_wf ls ∧ ∀ (i : Nat) (v : Value), L[i]? = some v → v ≠ .float 0 → ls[i]? = some (.val (am_cv f v))
def am_cl : Value → Value
  | .long _ => .float 0
  | .double _ => .float 0
  | v => v
def am_st1 : List Value → Nat → Value → List Value
  | [], _, _ => []
  | _ :: L, 0, v => v :: L
  | w :: L, 1, v => am_cl w :: am_st1 L 0 v
  | w :: L, k + 2, v => w :: am_st1 L (k + 1) v
def am_st2 : List Value → Nat → Value → List Value
  | [], _, _ => []
  | [_], 0, v => [v]
  | _ :: _ :: L, 0, v => v :: .float 0 :: L
  | w :: L, 1, v => am_cl w :: am_st2 L 0 v
  | w :: L, k + 2, v => w :: am_st2 L (k + 1) v
def am_pr (f : Nat → Nat) : Nat → List Value → List (Nat × Value)
  | _, [] => []
  | k, v :: L => if v = .float 0 then am_pr f (k + 1) L else (k, am_cv f v) :: am_pr f (k + 1) L
theorem am_pr_mem (f : Nat → Nat) : ∀ (L : List Value) (k i : Nat) (v : Value), L[i]? = some v → v ≠ .float 0 → (k + i, am_cv f v) ∈ am_pr f k L
  | [], k, i, v, h, _ => by simp at h
  | w :: L, k, 0, v, h, hv => by
    simp at h
    subst h
    simp [am_pr, hv]
  | w :: L, k, i + 1, v, h, hv => by
    have := am_pr_mem f L (k + 1) i v (by simpa using h) hv
    rw [show k + 1 + i = k + (i + 1) by omega] at this
    unfold am_pr
    split
    · exact this
    · exact List.mem_cons_of_mem _ this
theorem am_pr_of (f : Nat → Nat) : ∀ (L : List Value) (k : Nat) (q : Nat × Value), q ∈ am_pr f k L → ∃ i v, L[i]? = some v ∧ v ≠ .float 0 ∧ q = (k + i, am_cv f v)
  | [], k, q, h => by simp [am_pr] at h
  | w :: L, k, q, h => by
    unfold am_pr at h
    split at h
    · obtain ⟨i, v, h1, h2, h3⟩ := am_pr_of f L (k + 1) q h
      exact ⟨i + 1, v, by simpa using h1, h2, by rw [h3, show k + 1 + i = k + (i + 1) by omega]⟩
    · rename_i hw
      rcases List.mem_cons.mp h with h | h
      · exact ⟨0, w, by simp, hw, by simpa using h⟩
      · obtain ⟨i, v, h1, h2, h3⟩ := am_pr_of f L (k + 1) q h
        exact ⟨i + 1, v, by simpa using h1, h2, by rw [h3, show k + 1 + i = k + (i + 1) by omega]⟩
theorem am_L.has {f : Nat → Nat} {nL : Nat} {L : List Value} {ls : Array Slot} (h : am_L f nL L ls) : lv_has ls nL (am_pr f 0 L) := by
  refine ⟨h.1, h.2.1, fun q hq => ?_⟩
  obtain ⟨i, v, h1, h2, rfl⟩ := am_pr_of f L 0 q hq
  rw [Nat.zero_add]
  exact h.2.2 i v h1 h2
theorem am_cl_ne {w v : Value} (h : am_cl w = v) (hv : v ≠ .float 0) : w = v ∧ v.category = 1 := by
  cases w <;> simp [am_cl] at h <;> subst h <;> simp_all [Value.category]
theorem am_st1_get : ∀ (L : List Value) (i : Nat) (v : Value) (j : Nat) (w : Value), (am_st1 L i v)[j]? = some w → w ≠ .float 0 → (j = i ∧ w = v) ∨ (j ≠ i ∧ L[j]? = some w ∧ ¬ (j + 1 = i ∧ w.category = 2))
  | [], i, v, j, w, h, _ => by simp [am_st1] at h
  | u :: L, 0, v, 0, w, h, _ => by simp [am_st1] at h; exact Or.inl ⟨rfl, h.symm⟩
  | u :: L, 0, v, j + 1, w, h, _ => by simp [am_st1] at h; exact Or.inr ⟨by omega, by simpa using h, by omega⟩
  | u :: L, 1, v, 0, w, h, hw => by
    simp [am_st1] at h
    obtain ⟨h1, h2⟩ := am_cl_ne h hw
    subst h1
    exact Or.inr ⟨by omega, by simp, fun q => by omega⟩
  | u :: L, 1, v, j + 1, w, h, hw => by
    have h' : (am_st1 L 0 v)[j]? = some w := by simpa [am_st1] using h
    rcases am_st1_get L 0 v j w h' hw with ⟨h1, h2⟩ | ⟨h1, h2, h3⟩
    · exact Or.inl ⟨by omega, h2⟩
    · exact Or.inr ⟨by omega, by simpa using h2, by omega⟩
  | u :: L, k + 2, v, 0, w, h, _ => by simp [am_st1] at h; exact Or.inr ⟨by omega, by simpa using h, by omega⟩
  | u :: L, k + 2, v, j + 1, w, h, hw => by
    have h' : (am_st1 L (k + 1) v)[j]? = some w := by simpa [am_st1] using h
    rcases am_st1_get L (k + 1) v j w h' hw with ⟨h1, h2⟩ | ⟨h1, h2, h3⟩
    · exact Or.inl ⟨by omega, h2⟩
    · exact Or.inr ⟨by omega, by simpa using h2, fun q => h3 ⟨by omega, q.2⟩⟩
theorem am_st2_get : ∀ (L : List Value) (i : Nat) (v : Value) (j : Nat) (w : Value), (am_st2 L i v)[j]? = some w → w ≠ .float 0 → (j = i ∧ w = v) ∨ (j ≠ i ∧ j ≠ i + 1 ∧ L[j]? = some w ∧ ¬ (j + 1 = i ∧ w.category = 2))
  | [], i, v, j, w, h, _ => by simp [am_st2] at h
  | [u], 0, v, 0, w, h, _ => by simp [am_st2] at h; exact Or.inl ⟨rfl, h.symm⟩
  | [u], 0, v, j + 1, w, h, _ => by simp [am_st2] at h
  | u :: u2 :: L, 0, v, 0, w, h, _ => by simp [am_st2] at h; exact Or.inl ⟨rfl, h.symm⟩
  | u :: u2 :: L, 0, v, 1, w, h, hw => by simp [am_st2] at h; exact absurd h.symm hw
  | u :: u2 :: L, 0, v, j + 2, w, h, _ => by simp [am_st2] at h; exact Or.inr ⟨by omega, by omega, by simpa using h, by omega⟩
  | u :: L, 1, v, 0, w, h, hw => by
    have h' : am_cl u = w := by simpa [am_st2] using h
    obtain ⟨h1, h2⟩ := am_cl_ne h' hw
    subst h1
    exact Or.inr ⟨by omega, by omega, by simp, fun q => by omega⟩
  | u :: L, 1, v, j + 1, w, h, hw => by
    have h' : (am_st2 L 0 v)[j]? = some w := by simpa [am_st2] using h
    rcases am_st2_get L 0 v j w h' hw with ⟨h1, h2⟩ | ⟨h1, h2, h3, h4⟩
    · exact Or.inl ⟨by omega, h2⟩
    · exact Or.inr ⟨by omega, by omega, by simpa using h3, by omega⟩
  | u :: L, k + 2, v, 0, w, h, _ => by
    have h' : u = w := by simpa [am_st2] using h
    exact Or.inr ⟨by omega, by omega, by simpa using h', by omega⟩
  | u :: L, k + 2, v, j + 1, w, h, hw => by
    have h' : (am_st2 L (k + 1) v)[j]? = some w := by simpa [am_st2] using h
    rcases am_st2_get L (k + 1) v j w h' hw with ⟨h1, h2⟩ | ⟨h1, h2, h3, h4⟩
    · exact Or.inl ⟨by omega, h2⟩
    · exact Or.inr ⟨by omega, by omega, by simpa using h3, fun q => h4 ⟨by omega, q.2⟩⟩
theorem am_cv_cat (f : Nat → Nat) (v : Value) : (am_cv f v).category = v.category := by cases v <;> rfl
theorem am_L.st1 {f : Nat → Nat} {nL i : Nat} {L : List Value} {v : Value} {ls : Array Slot} (h : lv_has ls nL ((i, am_cv f v) :: (am_pr f 0 L).filter (fun q => !(q.1 == i) && !(q.1 + 1 == i && q.2.category == 2)))) : am_L f nL (am_st1 L i v) ls := by
  refine ⟨h.1, h.2.1, fun j w hj hw => ?_⟩
  rcases am_st1_get L i v j w hj hw with ⟨h1, h2⟩ | ⟨h1, h2, h3⟩
  · subst h1; subst h2
    exact h.2.2 (j, am_cv f w) List.mem_cons_self
  · have hm := am_pr_mem f L 0 j w h2 hw
    rw [Nat.zero_add] at hm
    refine h.2.2 (j, am_cv f w) (List.mem_cons_of_mem _ (List.mem_filter.mpr ⟨hm, ?_⟩))
    simp only [am_cv_cat]
    by_cases e : j + 1 = i
    · have h4 : ¬ w.category = 2 := fun q => h3 ⟨e, q⟩
      simp [h1, h4]
    · simp [h1, e]
theorem am_L.st2 {f : Nat → Nat} {nL i : Nat} {L : List Value} {v : Value} {ls : Array Slot} (h : lv_has ls nL ((i, am_cv f v) :: (am_pr f 0 L).filter (fun q => !(q.1 == i) && (!(q.1 == i + 1) && !(q.1 + 1 == i && q.2.category == 2))))) : am_L f nL (am_st2 L i v) ls := by
  refine ⟨h.1, h.2.1, fun j w hj hw => ?_⟩
  rcases am_st2_get L i v j w hj hw with ⟨h1, h2⟩ | ⟨h1, h2, h2', h3⟩
  · subst h1; subst h2
    exact h.2.2 (j, am_cv f w) List.mem_cons_self
  · have hm := am_pr_mem f L 0 j w h2' hw
    rw [Nat.zero_add] at hm
    refine h.2.2 (j, am_cv f w) (List.mem_cons_of_mem _ (List.mem_filter.mpr ⟨hm, ?_⟩))
    simp only [am_cv_cat]
    by_cases e : j + 1 = i
    · have h4 : ¬ w.category = 2 := fun q => h3 ⟨e, q⟩
      simp [h1, h2, h4]
    · simp [h1, h2, e]
-- entry
def am_lay : List Value → List Value
  | [] => []
  | .long x :: vs => .long x :: .float 0 :: am_lay vs
  | v :: vs => v :: am_lay vs
def am_eL (vs : List Value) (nL : Nat) : List Value := am_lay vs ++ List.replicate (nL - (am_lay vs).length) (.float 0)
def am_nd : List Value → Bool
  | [] => true
  | .double _ :: _ => false
  | _ :: vs => am_nd vs
theorem am_lay_get (f : Nat → Nat) : ∀ (vs : List Value) (k i : Nat) (v : Value), am_nd vs = true → (am_lay vs)[i]? = some v → v ≠ .float 0 → (k + i, am_cv f v) ∈ lv_args k (vs.map (am_cv f))
  | [], k, i, v, _, h, _ => by simp [am_lay] at h
  | u :: vs, k, i, v, hn, h, hv => by
    cases u with
    | double x => simp [am_nd] at hn
    | long x =>
      have hn' : am_nd vs = true := by simpa [am_nd] using hn
      simp only [am_lay] at h
      simp only [List.map_cons, am_cv, lv_args, Value.category, if_true]
      match i, h with
      | 0, h => simp at h; subst h; simp [am_cv]
      | 1, h => simp at h; exact absurd h.symm hv
      | i + 2, h =>
        have := am_lay_get f vs (k + 2) i v hn' (by simpa using h) hv
        rw [show k + 2 + i = k + (i + 2) by omega] at this
        exact List.mem_cons_of_mem _ this
    | int x =>
      have hn' : am_nd vs = true := by simpa [am_nd] using hn
      simp only [am_lay] at h
      simp only [List.map_cons, am_cv, lv_args, Value.category]
      match i, h with
      | 0, h => simp at h; subst h; simp [am_cv]
      | i + 1, h =>
        have := am_lay_get f vs (k + 1) i v hn' (by simpa using h) hv
        rw [show k + 1 + i = k + (i + 1) by omega] at this
        exact List.mem_cons_of_mem _ this
    | float x =>
      have hn' : am_nd vs = true := by simpa [am_nd] using hn
      simp only [am_lay] at h
      simp only [List.map_cons, am_cv, lv_args, Value.category]
      match i, h with
      | 0, h => simp at h; subst h; simp [am_cv]
      | i + 1, h =>
        have := am_lay_get f vs (k + 1) i v hn' (by simpa using h) hv
        rw [show k + 1 + i = k + (i + 1) by omega] at this
        exact List.mem_cons_of_mem _ this
    | null =>
      have hn' : am_nd vs = true := by simpa [am_nd] using hn
      simp only [am_lay] at h
      simp only [List.map_cons, am_cv, lv_args, Value.category]
      match i, h with
      | 0, h => simp at h; subst h; simp [am_cv]
      | i + 1, h =>
        have := am_lay_get f vs (k + 1) i v hn' (by simpa using h) hv
        rw [show k + 1 + i = k + (i + 1) by omega] at this
        exact List.mem_cons_of_mem _ this
    | ref x =>
      have hn' : am_nd vs = true := by simpa [am_nd] using hn
      simp only [am_lay] at h
      simp only [List.map_cons, am_cv, lv_args, Value.category]
      match i, h with
      | 0, h => simp at h; subst h; simp [am_cv]
      | i + 1, h =>
        have := am_lay_get f vs (k + 1) i v hn' (by simpa using h) hv
        rw [show k + 1 + i = k + (i + 1) by omega] at this
        exact List.mem_cons_of_mem _ this
    | retAddr x =>
      have hn' : am_nd vs = true := by simpa [am_nd] using hn
      simp only [am_lay] at h
      simp only [List.map_cons, am_cv, lv_args, Value.category]
      match i, h with
      | 0, h => simp at h; subst h; simp [am_cv]
      | i + 1, h =>
        have := am_lay_get f vs (k + 1) i v hn' (by simpa using h) hv
        rw [show k + 1 + i = k + (i + 1) by omega] at this
        exact List.mem_cons_of_mem _ this
theorem am_L.entry {f : Nat → Nat} {nL : Nat} {vs : List Value} {ls : Array Slot} (hn : am_nd vs = true) (h : lv_has ls nL (lv_args 0 (vs.map (am_cv f)))) : am_L f nL (am_eL vs nL) ls := by
  refine ⟨h.1, h.2.1, fun i v hi hv => ?_⟩
  unfold am_eL at hi
  by_cases hl : i < (am_lay vs).length
  · rw [List.getElem?_append_left hl] at hi
    have := am_lay_get f vs 0 i v hn hi hv
    rw [Nat.zero_add] at this
    exact h.2.2 _ this
  · rw [List.getElem?_append_right (by omega)] at hi
    have := List.mem_of_getElem? hi
    exact absurd (List.eq_of_mem_replicate this) hv
end
section
-- ===== THE WORLD: what stands around the abstract heap =====
abbrev am_G : Type := va_G × (Nat → ClassId) × Nat × Nat × (Nat → Int32) × Nat × Nat
abbrev am_gA (G : am_G) : Nat → ClassId := G.2.1
abbrev am_gb (G : am_G) : Nat := G.2.2.1
abbrev am_gN (G : am_G) : Nat := G.2.2.2.1
abbrev am_gx (G : am_G) : Nat → Int32 := G.2.2.2.2.1
abbrev am_gl (G : am_G) : Nat := G.2.2.2.2.2.1
abbrev am_gB (G : am_G) : Nat := G.2.2.2.2.2.2
abbrev am_gf (G : am_G) : Nat → Nat := am_pv (am_gb G) (am_gl G) (am_gB G)
abbrev am_gw (G : am_G) (h : am_H) : va_W := am_ws (am_gf G) (am_gA G) (am_gB G) h
abbrev am_up (G : am_G) : Nat → Prop := fun q => am_gB G ≤ q
def am_let : Nat → Int32 := fun j => ([102, 115, 107, 98, 116, 113] : List Int32).getD j 0
def am_tb : List Cond := lw_tbl.filter goodWord
def am_isN : Cond → Bool
  | .fieldLinkNest .. => true
  | .methodLinkNest .. => true
  | _ => false
def am_nw : List Cond := lw_tbl.filter am_isN
theorem am_good {ws : List Cond} (h : ∀ w ∈ ws, w ∈ am_tb) : GoodIn am_tb ws := fun w hw => ⟨h w hw, good_of_word (List.mem_filter.mp (h w hw)).2⟩
def am_S (G : am_G) (s : State) : Prop :=
  va_K G.1 vwCl (am_tys (am_gA G)) s ∧ va_X (am_gb G) (am_gN G) (am_gx G) s s.heap ∧ am_gb G < am_gB G ∧ am_gB G ≤ s.heap.size ∧ va_Z "FlapBoard" "LETTERS" "[I" (.ref (am_gl G)) (am_up G) s s.heap ∧
  va_T .int (am_gl G) 6 (fun j => .int (am_let j)) (am_up G) s s.heap ∧ (∀ w ∈ am_nw, va_Nw w s) ∧ (∀ t, t < 4 → ∃ C, am_ty (t + 3) = .object C ∧ va_AO C s) ∧ (Cond.arrayOver (.array .int)).before #[] s = true
theorem am_nw_warm {s U : State} (hW : s.WarmedH U.vm) {w : Cond} (hw : w ∈ am_nw) (h : va_Nw w s) : va_Nw w U := by
  have hb := (List.mem_filter.mp hw).2
  cases w <;> first | exact va_Nw.warmF hW h | exact va_Nw.warmM hW h | (simp [am_isN] at hb)
theorem am_nw_tab {w : Cond} (hw : w ∈ am_nw) : w.onTables = true := by
  have hb := (List.mem_filter.mp hw).2
  cases w <;> first | rfl | (simp [am_isN] at hb)
theorem am_S.moved {G : am_G} {s U : State} {locs : List Loc} (h : am_S G s) (hW : s.WarmedH U.vm) (hS : va_S (am_up G) s.heap U.heap locs) : am_S G U := by
  obtain ⟨h1, h2, h3, h4, h5, h6, h7, h8, h9⟩ := h
  have hq : ∀ a : Nat, a < s.heap.size → ¬ am_up G a → U.heap[a]? = s.heap[a]? := hS.2.1
  refine ⟨va_K.moved hW.alike h1, va_X.moved hW.alike (va_X.kept h2 (hq _ (Nat.lt_of_lt_of_le h3 h4) (Nat.not_le.mpr h3))), h3, Nat.le_trans h4 hS.1, va_Z.moved hW.alike (va_Z.kept h5 hq), va_T.moved hW.alike (va_T.kept h6 hq), fun w hw => am_nw_warm hW hw (h7 w hw), fun t ht => ?_, ?_⟩
  · obtain ⟨C, e1, e2⟩ := h8 t ht
    exact ⟨C, e1, e2.moved hW.alike⟩
  · exact over_moved hW.alike h9
theorem am_S.same {G : am_G} {u U : State} (hv : u.vm = U.vm) (hh : u.heap = U.heap) (h : am_S G u) : am_S G U := by
  obtain ⟨h1, h2, h3, h4, h5, h6, h7, h8, h9⟩ := h
  have al : u.vm.Alike U.vm := by rw [hv]; exact Vm.Alike.refl _
  rw [hh] at h2 h4 h5 h6
  refine ⟨va_K.moved al h1, va_X.moved al h2, h3, h4, va_Z.moved al h5, va_T.moved al h6, fun w hw => va_Nw.same (am_nw_tab hw) hv (h7 w hw), fun t ht => ?_, ?_⟩
  · obtain ⟨C, e1, e2⟩ := h8 t ht
    exact ⟨C, e1, e2.moved al⟩
  · exact over_moved al h9
def am_W (G : am_G) (h : am_H) (U : State) : Prop := U.heap.size = am_gB G + h.length ∧ va_P G.1 vwCl (am_gw G h) U.heap ∧ am_S G U
theorem am_W.blind (G : am_G) (h : am_H) (vs : List Value) : FrameBlind (va_Pc vs (am_W G h)) := by
  intro a U g mk q
  obtain ⟨q0, q1, q2, q3⟩ := q
  exact ⟨q0, q1, q2, am_S.same (u := U) (U := U.calling g mk a) rfl rfl q3⟩
def am_D (G : am_G) (s : State) (h0 h : am_H) (H : Heap) (locs : List Loc) : Prop := H.size = am_gB G + h.length ∧ va_P G.1 vwCl (am_gw G h) H ∧ va_S (am_up G) s.heap H locs ∧ h0.length ≤ h.length ∧ am_sz h0 ≤ am_sz h
theorem am_D.put {G : am_G} {s : State} {h0 h : am_H} {H H1 : Heap} {locs : List Loc} {a j : Nat} {c d : am_C} (dy : am_D G s h0 h H locs) (hk : h[a]? = some d) (hs : am_sc c = am_sc d)
    (e : va_at G.1 vwCl (am_gB G + a, am_E (am_gf G) (am_gA G) c) H1) (z : H1.size = H.size) (oq : ∀ q : Nat, q ≠ am_gB G + a → H1[q]? = H[q]?) : am_D G s h0 (h.set a c) H1 (locs ++ [⟨am_gB G + a, j⟩]) := by
  obtain ⟨d1, d2, d3, d4, d5⟩ := dy
  refine ⟨by rw [z, List.length_set]; exact d1, ?_, d3.put z oq (Nat.le_add_right _ _), by rw [List.length_set]; exact d4, by rw [am_sz_set h a c d hk hs]; exact d5⟩
  have := d2.set (am_ws_D _ _ _ _) (am_ws_at (f := am_gf G) (cA := am_gA G) (B := am_gB G) hk) e oq
  rw [am_ws_set] at this
  exact this
-- methods, contexts, the predicate that the machine keeps
abbrev am_K : Type := MethodName × ByteArray × Nat × Option FieldType
def am_ok (k : am_K) : Prop := plainName k.1.cls = true ∧ Cond.code k.1 k.2.1 k.2.2.1 k.2.2.2 ∈ am_tb ∧ Cond.initialized k.1.cls ∈ am_tb ∧ k.2.2.1 ≤ 25 ∧ k.1.cls ≠ "java/lang/invoke/MethodHandle" ∧ k.1.cls ≠ "java/lang/invoke/VarHandle"
def am_X (G : am_G) (d : Nat) (k : am_K) (h0 h' : am_H) (p : Program) (R : Room) (s : State) (m : MethodId) (args : Array Value) (meth : Method) (c : Code) : Prop :=
  p.tables.exec = Jvm.exec ∧ c.code = k.2.1 ∧ c.maxLocals = k.2.2.1 ∧ s.vm.findClass k.1.cls = some m.cls ∧ (∀ w ∈ am_tb, w.before args s = true) ∧ am_S G s ∧ (k.1.name = "<init>" → meth.name = "<init>") ∧ d + 2 ≤ R.frames ∧ 64 * (d + 2) ≤ R.locals ∧ h'.length - h0.length ≤ R.cells ∧ am_sz h' - am_sz h0 ≤ R.slots
def am_P (p : Program) (l : Launch) (e : Env) (R : Room) (s : State) (m : MethodId) (args : Array Value) (below : List Frame) (meth : Method) (c : Code) (Q : State → Prop) (G : am_G) (h0 h' : am_H) (nL : Nat) (pc : Nat) (L S : List Value) (h : am_H) : Prop :=
  (h.length ≤ h'.length ∧ am_sz h ≤ am_sz h') ∧ ∀ (H : Heap) (locs : List Loc) (ls : Array Slot), am_D G s h0 h H locs → am_L (am_gf G) nL L ls → W p l e R s m args below meth c H locs (h.length - h0.length) (am_sz h - am_sz h0) Q (F0 m pc ls (S.map (am_cv (am_gf G))))
def am_fin (cc : ByteArray) (pc : Nat) (r : Option Value) : Prop := (∃ v, r = some (.int v) ∧ decode cc pc = .ok (.ireturn, 1)) ∨ (∃ v, r = some (.long v) ∧ decode cc pc = .ok (.lreturn, 1)) ∨ (r = none ∧ decode cc pc = .ok (.return_, 1))
def am_okr (t : Option FieldType) (r : Option Value) : Prop := match t, r with
  | some ty, some (.int v) => narrow ty (.int v) = .int v
  | some ty, some (.long _) => ty = .long
  | none, none => True
  | _, _ => False
abbrev am_R : Type := am_K → List Value → am_H → Option Value → am_H → Prop
def am_cat (S : List Value) : Nat := (S.map fun v => v.category).sum
theorem am_cat_map (f : Nat → Nat) : ∀ S : List Value, ((S.map (am_cv f)).map fun v => v.category).sum = am_cat S
  | [] => rfl
  | v :: S => by
    have := am_cat_map f S
    simp only [am_cat, List.map_cons, List.sum_cons] at this ⊢
    rw [this, am_cv_cat]
def am_cls (ci : Nat) (C : String) (T : u_T) (N : Nat) (ty : Nat → FieldType) : Prop := vwCl[ci]? = some (C, T, N) ∧ (∀ w ∈ u_ws C T N, w ∈ am_tb) ∧ (∀ k, k < N → parseFieldDescriptor (T k).2.2.1 = some (ty k)) ∧ ∀ a, a < N → ∀ b, b < N → a ≠ b → (T a).2.1 ≠ (T b).2.1
def am_okF (own : String) (idx ci j : Nat) : Prop := ∃ C T N ty, am_cls ci C T N ty ∧ j < N ∧ Cond.fieldLink own idx (T j).1 (T j).2.1 (T j).2.2.1 ∈ am_tb
def am_okP (own : String) (idx ci j : Nat) (ft : FieldType) : Prop := ∃ C T N ty, am_cls ci C T N ty ∧ j < N ∧ Cond.fieldLink own idx (T j).1 (T j).2.1 (T j).2.2.1 ∈ am_tb ∧ (T j).2.2.2 = false ∧ parseFieldDescriptor (T j).2.2.1 = some ft
def am_okPF (own : String) (idx ci j : Nat) (ft : FieldType) : Prop := ∃ C T N ty, am_cls ci C T N ty ∧ j < N ∧ Cond.fieldLink own idx (T j).1 (T j).2.1 (T j).2.2.1 ∈ am_tb ∧ (T j).2.2.2 = true ∧ (T j).1 = own ∧ parseFieldDescriptor (T j).2.2.1 = some ft
def am_okN (own : String) (idx ci : Nat) (fs : List Value) : Prop := ∃ C T N ty, am_cls ci C T N ty ∧ Cond.classLink own idx C ∈ am_tb ∧ Cond.instantiable C N ∈ am_tb ∧ Cond.initialized C ∈ am_tb ∧ fs.length = N ∧ ∀ j, j < N → fs[j]? = some (defaultValue (ty j))
def am_okV (own : String) (idx : Nat) (y : am_K) (n ci : Nat) : Prop := am_ok y ∧ Cond.methodLink own idx y.1 ∈ am_tb ∧ Cond.instanceMethod y.1 ∈ am_tb ∧ Cond.selects y.1.cls y.1 y.1 ∈ am_tb ∧ (parseMethodDescriptor y.1.desc).map (fun d => d.parameters.length) = some n ∧ ∃ T N ty, am_cls ci y.1.cls T N ty
def am_okS (own : String) (idx : Nat) (y : am_K) (n : Nat) : Prop := am_ok y ∧ Cond.methodLink own idx y.1 ∈ am_tb ∧ Cond.static y.1 ∈ am_tb ∧ (parseMethodDescriptor y.1.desc).map (fun d => d.parameters.length) = some n
def am_okSN (own : String) (idx : Nat) (y : am_K) (n : Nat) : Prop := am_ok y ∧ (∃ host, Cond.methodLinkNest own idx y.1 host ∈ am_nw) ∧ Cond.static y.1 ∈ am_tb ∧ (parseMethodDescriptor y.1.desc).map (fun d => d.parameters.length) = some n
def am_okI (own : String) (idx : Nat) (y : am_K) (n : Nat) : Prop := am_ok y ∧ Cond.methodLink own idx y.1 ∈ am_tb ∧ Cond.instanceMethod y.1 ∈ am_tb ∧ y.1.name = "<init>" ∧ y.2.2.2 = none ∧ (parseMethodDescriptor y.1.desc).map (fun d => d.parameters.length) = some n
def am_okIN (own : String) (idx : Nat) (y : am_K) (n : Nat) : Prop := am_ok y ∧ (∃ host, Cond.methodLinkNest own idx y.1 host ∈ am_nw) ∧ Cond.instanceMethod y.1 ∈ am_tb ∧ y.1.name = "<init>" ∧ y.2.2.2 = none ∧ (parseMethodDescriptor y.1.desc).map (fun d => d.parameters.length) = some n
def am_okO (own : String) (idx : Nat) : Prop := Cond.methodLink own idx Lib.objectInit ∈ am_tb ∧ Cond.instanceMethod Lib.objectInit ∈ am_tb ∧ Cond.code Lib.objectInit ⟨#[0xb1]⟩ 1 none ∈ am_tb
def am_okA (own : String) (idx : Nat) : Prop := Cond.methodLink own idx arraycopyName ∈ am_tb ∧ Cond.native arraycopyName ∈ am_tb ∧ Cond.static arraycopyName ∈ am_tb ∧ Cond.initialized "java/lang/System" ∈ am_tb
def am_okM (own : String) (idx : Nat) : Prop := Cond.methodLink own idx Lib.Math.max.name ∈ am_tb ∧ Cond.static Lib.Math.max.name ∈ am_tb ∧ Cond.initialized "java/lang/Math" ∈ am_tb ∧ Cond.code Lib.Math.max.name Lib.Math.max.code 2 (some .int) ∈ am_tb
theorem am_wide : True := by
  have := @Jvm.Stand.multianewarray2F
  trivial
end
section
-- ===== THE RULES (written by wip/mkrules.py) =====
def am_r_iconst  (k : am_K) (P : Nat → List Value → List Value → am_H → Prop) : Prop := ∀ (pc : Nat) (L S : List Value) (h : am_H) (n : Int) (v : Int32), decode k.2.1 pc = .ok (.iconst n, 1) → (Int32.ofInt n = v) → P (pc + 1) (L) (.int v :: S) h → P pc L (S) h
def am_r_bipush  (k : am_K) (P : Nat → List Value → List Value → am_H → Prop) : Prop := ∀ (pc : Nat) (L S : List Value) (h : am_H) (n : Int) (v : Int32), decode k.2.1 pc = .ok (.bipush n, 2) → ((Int8.ofInt n).toInt32 = v) → P (pc + 2) (L) (.int v :: S) h → P pc L (S) h
def am_r_sipush  (k : am_K) (P : Nat → List Value → List Value → am_H → Prop) : Prop := ∀ (pc : Nat) (L S : List Value) (h : am_H) (n : Int) (v : Int32), decode k.2.1 pc = .ok (.sipush n, 3) → ((Int16.ofInt n).toInt32 = v) → P (pc + 3) (L) (.int v :: S) h → P pc L (S) h
def am_r_lconst  (k : am_K) (P : Nat → List Value → List Value → am_H → Prop) : Prop := ∀ (pc : Nat) (L S : List Value) (h : am_H) (n : Fin 2) (v : Int64), decode k.2.1 pc = .ok (.lconst n, 1) → (Int64.ofNat (n : Nat) = v) → P (pc + 1) (L) (.long v :: S) h → P pc L (S) h
def am_r_iload_n  (k : am_K) (P : Nat → List Value → List Value → am_H → Prop) : Prop := ∀ (pc : Nat) (L S : List Value) (h : am_H) (q : Fin 4) (x : Int32), decode k.2.1 pc = .ok (.iload_n q, 1) → (L[(q : Nat)]? = some (.int x)) → P (pc + 1) (L) (.int x :: S) h → P pc L (S) h
def am_r_iload  (k : am_K) (P : Nat → List Value → List Value → am_H → Prop) : Prop := ∀ (pc : Nat) (L S : List Value) (h : am_H) (q : Nat) (x : Int32), decode k.2.1 pc = .ok (.iload q, 2) → (L[q]? = some (.int x)) → P (pc + 2) (L) (.int x :: S) h → P pc L (S) h
def am_r_istore_n  (k : am_K) (P : Nat → List Value → List Value → am_H → Prop) : Prop := ∀ (pc : Nat) (L S : List Value) (h : am_H) (q : Fin 4) (x : Int32), decode k.2.1 pc = .ok (.istore_n q, 1) → ((q : Nat) < k.2.2.1) → P (pc + 1) (am_st1 L q (.int x)) (S) h → P pc L (.int x :: S) h
def am_r_istore  (k : am_K) (P : Nat → List Value → List Value → am_H → Prop) : Prop := ∀ (pc : Nat) (L S : List Value) (h : am_H) (q : Nat) (x : Int32), decode k.2.1 pc = .ok (.istore q, 2) → (q < k.2.2.1) → P (pc + 2) (am_st1 L q (.int x)) (S) h → P pc L (.int x :: S) h
def am_r_lload_n  (k : am_K) (P : Nat → List Value → List Value → am_H → Prop) : Prop := ∀ (pc : Nat) (L S : List Value) (h : am_H) (q : Fin 4) (x : Int64), decode k.2.1 pc = .ok (.lload_n q, 1) → (L[(q : Nat)]? = some (.long x)) → P (pc + 1) (L) (.long x :: S) h → P pc L (S) h
def am_r_lload  (k : am_K) (P : Nat → List Value → List Value → am_H → Prop) : Prop := ∀ (pc : Nat) (L S : List Value) (h : am_H) (q : Nat) (x : Int64), decode k.2.1 pc = .ok (.lload q, 2) → (L[q]? = some (.long x)) → P (pc + 2) (L) (.long x :: S) h → P pc L (S) h
def am_r_lstore_n  (k : am_K) (P : Nat → List Value → List Value → am_H → Prop) : Prop := ∀ (pc : Nat) (L S : List Value) (h : am_H) (q : Fin 4) (x : Int64), decode k.2.1 pc = .ok (.lstore_n q, 1) → ((q : Nat) + 1 < k.2.2.1) → P (pc + 1) (am_st2 L q (.long x)) (S) h → P pc L (.long x :: S) h
def am_r_lstore  (k : am_K) (P : Nat → List Value → List Value → am_H → Prop) : Prop := ∀ (pc : Nat) (L S : List Value) (h : am_H) (q : Nat) (x : Int64), decode k.2.1 pc = .ok (.lstore q, 2) → (q + 1 < k.2.2.1) → P (pc + 2) (am_st2 L q (.long x)) (S) h → P pc L (.long x :: S) h
def am_r_aload_n  (k : am_K) (P : Nat → List Value → List Value → am_H → Prop) : Prop := ∀ (pc : Nat) (L S : List Value) (h : am_H) (q : Fin 4) (x : Nat), decode k.2.1 pc = .ok (.aload_n q, 1) → (L[(q : Nat)]? = some (.ref x)) → P (pc + 1) (L) (.ref x :: S) h → P pc L (S) h
def am_r_aload  (k : am_K) (P : Nat → List Value → List Value → am_H → Prop) : Prop := ∀ (pc : Nat) (L S : List Value) (h : am_H) (q : Nat) (x : Nat), decode k.2.1 pc = .ok (.aload q, 2) → (L[q]? = some (.ref x)) → P (pc + 2) (L) (.ref x :: S) h → P pc L (S) h
def am_r_astore_n  (k : am_K) (P : Nat → List Value → List Value → am_H → Prop) : Prop := ∀ (pc : Nat) (L S : List Value) (h : am_H) (q : Fin 4) (x : Nat), decode k.2.1 pc = .ok (.astore_n q, 1) → ((q : Nat) < k.2.2.1) → P (pc + 1) (am_st1 L q (.ref x)) (S) h → P pc L (.ref x :: S) h
def am_r_astore  (k : am_K) (P : Nat → List Value → List Value → am_H → Prop) : Prop := ∀ (pc : Nat) (L S : List Value) (h : am_H) (q : Nat) (x : Nat), decode k.2.1 pc = .ok (.astore q, 2) → (q < k.2.2.1) → P (pc + 2) (am_st1 L q (.ref x)) (S) h → P pc L (.ref x :: S) h
def am_r_iinc  (k : am_K) (P : Nat → List Value → List Value → am_H → Prop) : Prop := ∀ (pc : Nat) (L S : List Value) (h : am_H) (q : Nat) (n : Int) (x v : Int32), decode k.2.1 pc = .ok (.iinc q n, 3) → L[q]? = some (.int x) → x + Int32.ofInt n = v → q < k.2.2.1 → P (pc + 3) (am_st1 L q (.int v)) S h → P pc L S h
def am_r_iadd  (k : am_K) (P : Nat → List Value → List Value → am_H → Prop) : Prop := ∀ (pc : Nat) (L S : List Value) (h : am_H) (x y : Int32), decode k.2.1 pc = .ok (.iadd, 1) → P (pc + 1) (L) (.int (x + y) :: S) h → P pc L (.int y :: .int x :: S) h
def am_r_isub  (k : am_K) (P : Nat → List Value → List Value → am_H → Prop) : Prop := ∀ (pc : Nat) (L S : List Value) (h : am_H) (x y : Int32), decode k.2.1 pc = .ok (.isub, 1) → P (pc + 1) (L) (.int (x - y) :: S) h → P pc L (.int y :: .int x :: S) h
def am_r_imul  (k : am_K) (P : Nat → List Value → List Value → am_H → Prop) : Prop := ∀ (pc : Nat) (L S : List Value) (h : am_H) (x y : Int32), decode k.2.1 pc = .ok (.imul, 1) → P (pc + 1) (L) (.int (x * y) :: S) h → P pc L (.int y :: .int x :: S) h
def am_r_iand  (k : am_K) (P : Nat → List Value → List Value → am_H → Prop) : Prop := ∀ (pc : Nat) (L S : List Value) (h : am_H) (x y : Int32), decode k.2.1 pc = .ok (.iand, 1) → P (pc + 1) (L) (.int (x &&& y) :: S) h → P pc L (.int y :: .int x :: S) h
def am_r_ior  (k : am_K) (P : Nat → List Value → List Value → am_H → Prop) : Prop := ∀ (pc : Nat) (L S : List Value) (h : am_H) (x y : Int32), decode k.2.1 pc = .ok (.ior, 1) → P (pc + 1) (L) (.int (x ||| y) :: S) h → P pc L (.int y :: .int x :: S) h
def am_r_ixor  (k : am_K) (P : Nat → List Value → List Value → am_H → Prop) : Prop := ∀ (pc : Nat) (L S : List Value) (h : am_H) (x y : Int32), decode k.2.1 pc = .ok (.ixor, 1) → P (pc + 1) (L) (.int (x ^^^ y) :: S) h → P pc L (.int y :: .int x :: S) h
def am_r_ishl  (k : am_K) (P : Nat → List Value → List Value → am_H → Prop) : Prop := ∀ (pc : Nat) (L S : List Value) (h : am_H) (x y : Int32), decode k.2.1 pc = .ok (.ishl, 1) → P (pc + 1) (L) (.int (x <<< (y &&& 31)) :: S) h → P pc L (.int y :: .int x :: S) h
def am_r_ishr  (k : am_K) (P : Nat → List Value → List Value → am_H → Prop) : Prop := ∀ (pc : Nat) (L S : List Value) (h : am_H) (x y : Int32), decode k.2.1 pc = .ok (.ishr, 1) → P (pc + 1) (L) (.int (x >>> (y &&& 31)) :: S) h → P pc L (.int y :: .int x :: S) h
def am_r_iushr  (k : am_K) (P : Nat → List Value → List Value → am_H → Prop) : Prop := ∀ (pc : Nat) (L S : List Value) (h : am_H) (x y : Int32), decode k.2.1 pc = .ok (.iushr, 1) → P (pc + 1) (L) (.int (x.toUInt32 >>> (y.toUInt32 &&& Int32.toUInt32 31)).toInt32 :: S) h → P pc L (.int y :: .int x :: S) h
def am_r_idiv  (k : am_K) (P : Nat → List Value → List Value → am_H → Prop) : Prop := ∀ (pc : Nat) (L S : List Value) (h : am_H) (x y : Int32), decode k.2.1 pc = .ok (.idiv, 1) → (¬ y = 0) → P (pc + 1) (L) (.int (x / y) :: S) h → P pc L (.int y :: .int x :: S) h
def am_r_irem  (k : am_K) (P : Nat → List Value → List Value → am_H → Prop) : Prop := ∀ (pc : Nat) (L S : List Value) (h : am_H) (x y : Int32), decode k.2.1 pc = .ok (.irem, 1) → (¬ y = 0) → P (pc + 1) (L) (.int (x - x / y * y) :: S) h → P pc L (.int y :: .int x :: S) h
def am_r_ladd  (k : am_K) (P : Nat → List Value → List Value → am_H → Prop) : Prop := ∀ (pc : Nat) (L S : List Value) (h : am_H) (x y : Int64), decode k.2.1 pc = .ok (.ladd, 1) → P (pc + 1) (L) (.long (x + y) :: S) h → P pc L (.long y :: .long x :: S) h
def am_r_lsub  (k : am_K) (P : Nat → List Value → List Value → am_H → Prop) : Prop := ∀ (pc : Nat) (L S : List Value) (h : am_H) (x y : Int64), decode k.2.1 pc = .ok (.lsub, 1) → P (pc + 1) (L) (.long (x - y) :: S) h → P pc L (.long y :: .long x :: S) h
def am_r_lmul  (k : am_K) (P : Nat → List Value → List Value → am_H → Prop) : Prop := ∀ (pc : Nat) (L S : List Value) (h : am_H) (x y : Int64), decode k.2.1 pc = .ok (.lmul, 1) → P (pc + 1) (L) (.long (x * y) :: S) h → P pc L (.long y :: .long x :: S) h
def am_r_ldiv  (k : am_K) (P : Nat → List Value → List Value → am_H → Prop) : Prop := ∀ (pc : Nat) (L S : List Value) (h : am_H) (x y : Int64), decode k.2.1 pc = .ok (.ldiv, 1) → (¬ y = 0) → P (pc + 1) (L) (.long (x / y) :: S) h → P pc L (.long y :: .long x :: S) h
def am_r_lrem  (k : am_K) (P : Nat → List Value → List Value → am_H → Prop) : Prop := ∀ (pc : Nat) (L S : List Value) (h : am_H) (x y : Int64), decode k.2.1 pc = .ok (.lrem, 1) → (¬ y = 0) → P (pc + 1) (L) (.long (x - x / y * y) :: S) h → P pc L (.long y :: .long x :: S) h
def am_r_i2l  (k : am_K) (P : Nat → List Value → List Value → am_H → Prop) : Prop := ∀ (pc : Nat) (L S : List Value) (h : am_H) (x : Int32), decode k.2.1 pc = .ok (.i2l, 1) → P (pc + 1) (L) (.long x.toInt64 :: S) h → P pc L (.int x :: S) h
def am_r_l2i  (k : am_K) (P : Nat → List Value → List Value → am_H → Prop) : Prop := ∀ (pc : Nat) (L S : List Value) (h : am_H) (x : Int64), decode k.2.1 pc = .ok (.l2i, 1) → P (pc + 1) (L) (.int x.toInt32 :: S) h → P pc L (.long x :: S) h
def am_r_i2b  (k : am_K) (P : Nat → List Value → List Value → am_H → Prop) : Prop := ∀ (pc : Nat) (L S : List Value) (h : am_H) (x : Int32), decode k.2.1 pc = .ok (.i2b, 1) → P (pc + 1) (L) (.int x.toInt8.toInt32 :: S) h → P pc L (.int x :: S) h
def am_r_lcmp  (k : am_K) (P : Nat → List Value → List Value → am_H → Prop) : Prop := ∀ (pc : Nat) (L S : List Value) (h : am_H) (x y : Int64), decode k.2.1 pc = .ok (.lcmp, 1) → P (pc + 1) (L) (.int (lg_cmp x y) :: S) h → P pc L (.long y :: .long x :: S) h
def am_r_dup  (k : am_K) (P : Nat → List Value → List Value → am_H → Prop) : Prop := ∀ (pc : Nat) (L S : List Value) (h : am_H) (v : Value), decode k.2.1 pc = .ok (.dup, 1) → (v.category = 1) → P (pc + 1) (L) (v :: v :: S) h → P pc L (v :: S) h
def am_r_pop  (k : am_K) (P : Nat → List Value → List Value → am_H → Prop) : Prop := ∀ (pc : Nat) (L S : List Value) (h : am_H) (v : Value), decode k.2.1 pc = .ok (.pop, 1) → (v.category = 1) → P (pc + 1) (L) (S) h → P pc L (v :: S) h
def am_r_dup2  (k : am_K) (P : Nat → List Value → List Value → am_H → Prop) : Prop := ∀ (pc : Nat) (L S : List Value) (h : am_H) (v w : Value), decode k.2.1 pc = .ok (.dup2, 1) → (v.category = 1) → (w.category = 1) → P (pc + 1) (L) (v :: w :: v :: w :: S) h → P pc L (v :: w :: S) h
def am_r_if_eq  (k : am_K) (P : Nat → List Value → List Value → am_H → Prop) : Prop := ∀ (pc : Nat) (L S : List Value) (h : am_H) (x : Int32) (off : Int) (tgt : Nat), decode k.2.1 pc = .ok (.ifCond .eq off, 3) → (pc : Int) + off = (tgt : Int) → (x = 0 → P tgt L S h) → (¬ x = 0 → P (pc + 3) L S h) → P pc L (.int x :: S) h
def am_r_icmp_eq  (k : am_K) (P : Nat → List Value → List Value → am_H → Prop) : Prop := ∀ (pc : Nat) (L S : List Value) (h : am_H) (x y : Int32) (off : Int) (tgt : Nat), decode k.2.1 pc = .ok (.if_icmp .eq off, 3) → (pc : Int) + off = (tgt : Int) → (x = y → P tgt L S h) → (¬ x = y → P (pc + 3) L S h) → P pc L (.int y :: .int x :: S) h
def am_r_if_ne  (k : am_K) (P : Nat → List Value → List Value → am_H → Prop) : Prop := ∀ (pc : Nat) (L S : List Value) (h : am_H) (x : Int32) (off : Int) (tgt : Nat), decode k.2.1 pc = .ok (.ifCond .ne off, 3) → (pc : Int) + off = (tgt : Int) → (¬ x = 0 → P tgt L S h) → (x = 0 → P (pc + 3) L S h) → P pc L (.int x :: S) h
def am_r_icmp_ne  (k : am_K) (P : Nat → List Value → List Value → am_H → Prop) : Prop := ∀ (pc : Nat) (L S : List Value) (h : am_H) (x y : Int32) (off : Int) (tgt : Nat), decode k.2.1 pc = .ok (.if_icmp .ne off, 3) → (pc : Int) + off = (tgt : Int) → (¬ x = y → P tgt L S h) → (x = y → P (pc + 3) L S h) → P pc L (.int y :: .int x :: S) h
def am_r_if_lt  (k : am_K) (P : Nat → List Value → List Value → am_H → Prop) : Prop := ∀ (pc : Nat) (L S : List Value) (h : am_H) (x : Int32) (off : Int) (tgt : Nat), decode k.2.1 pc = .ok (.ifCond .lt off, 3) → (pc : Int) + off = (tgt : Int) → (x < 0 → P tgt L S h) → (¬ x < 0 → P (pc + 3) L S h) → P pc L (.int x :: S) h
def am_r_icmp_lt  (k : am_K) (P : Nat → List Value → List Value → am_H → Prop) : Prop := ∀ (pc : Nat) (L S : List Value) (h : am_H) (x y : Int32) (off : Int) (tgt : Nat), decode k.2.1 pc = .ok (.if_icmp .lt off, 3) → (pc : Int) + off = (tgt : Int) → (x < y → P tgt L S h) → (¬ x < y → P (pc + 3) L S h) → P pc L (.int y :: .int x :: S) h
def am_r_if_ge  (k : am_K) (P : Nat → List Value → List Value → am_H → Prop) : Prop := ∀ (pc : Nat) (L S : List Value) (h : am_H) (x : Int32) (off : Int) (tgt : Nat), decode k.2.1 pc = .ok (.ifCond .ge off, 3) → (pc : Int) + off = (tgt : Int) → (0 ≤ x → P tgt L S h) → (¬ 0 ≤ x → P (pc + 3) L S h) → P pc L (.int x :: S) h
def am_r_icmp_ge  (k : am_K) (P : Nat → List Value → List Value → am_H → Prop) : Prop := ∀ (pc : Nat) (L S : List Value) (h : am_H) (x y : Int32) (off : Int) (tgt : Nat), decode k.2.1 pc = .ok (.if_icmp .ge off, 3) → (pc : Int) + off = (tgt : Int) → (y ≤ x → P tgt L S h) → (¬ y ≤ x → P (pc + 3) L S h) → P pc L (.int y :: .int x :: S) h
def am_r_if_gt  (k : am_K) (P : Nat → List Value → List Value → am_H → Prop) : Prop := ∀ (pc : Nat) (L S : List Value) (h : am_H) (x : Int32) (off : Int) (tgt : Nat), decode k.2.1 pc = .ok (.ifCond .gt off, 3) → (pc : Int) + off = (tgt : Int) → (0 < x → P tgt L S h) → (¬ 0 < x → P (pc + 3) L S h) → P pc L (.int x :: S) h
def am_r_icmp_gt  (k : am_K) (P : Nat → List Value → List Value → am_H → Prop) : Prop := ∀ (pc : Nat) (L S : List Value) (h : am_H) (x y : Int32) (off : Int) (tgt : Nat), decode k.2.1 pc = .ok (.if_icmp .gt off, 3) → (pc : Int) + off = (tgt : Int) → (y < x → P tgt L S h) → (¬ y < x → P (pc + 3) L S h) → P pc L (.int y :: .int x :: S) h
def am_r_if_le  (k : am_K) (P : Nat → List Value → List Value → am_H → Prop) : Prop := ∀ (pc : Nat) (L S : List Value) (h : am_H) (x : Int32) (off : Int) (tgt : Nat), decode k.2.1 pc = .ok (.ifCond .le off, 3) → (pc : Int) + off = (tgt : Int) → (x ≤ 0 → P tgt L S h) → (¬ x ≤ 0 → P (pc + 3) L S h) → P pc L (.int x :: S) h
def am_r_icmp_le  (k : am_K) (P : Nat → List Value → List Value → am_H → Prop) : Prop := ∀ (pc : Nat) (L S : List Value) (h : am_H) (x y : Int32) (off : Int) (tgt : Nat), decode k.2.1 pc = .ok (.if_icmp .le off, 3) → (pc : Int) + off = (tgt : Int) → (x ≤ y → P tgt L S h) → (¬ x ≤ y → P (pc + 3) L S h) → P pc L (.int y :: .int x :: S) h
def am_r_goto  (k : am_K) (P : Nat → List Value → List Value → am_H → Prop) : Prop := ∀ (pc : Nat) (L S : List Value) (h : am_H) (off : Int) (tgt : Nat), decode k.2.1 pc = .ok (.goto off, 3) → (pc : Int) + off = (tgt : Int) → P tgt L S h → P pc L S h
def am_r_tableIn  (k : am_K) (P : Nat → List Value → List Value → am_H → Prop) : Prop := ∀ (pc : Nat) (L S : List Value) (h : am_H) (x : Int32) (dflt lo hi : Int) (offs : Array Int) (len : Nat) (off : Int) (tgt : Nat), decode k.2.1 pc = .ok (.tableswitch dflt lo hi offs, len) → ¬ x.toInt < lo → ¬ hi < x.toInt → offs[(x.toInt - lo).toNat]? = some off → (pc : Int) + off = (tgt : Int) → P tgt L S h → P pc L (.int x :: S) h
def am_r_tableOut  (k : am_K) (P : Nat → List Value → List Value → am_H → Prop) : Prop := ∀ (pc : Nat) (L S : List Value) (h : am_H) (x : Int32) (dflt lo hi : Int) (offs : Array Int) (len : Nat) (tgt : Nat), decode k.2.1 pc = .ok (.tableswitch dflt lo hi offs, len) → (x.toInt < lo ∨ hi < x.toInt) → (pc : Int) + dflt = (tgt : Int) → P tgt L S h → P pc L (.int x :: S) h
def am_r_ldc  (k : am_K) (P : Nat → List Value → List Value → am_H → Prop) : Prop := ∀ (pc : Nat) (L S : List Value) (h : am_H) (idx : Nat) (v : Int32), decode k.2.1 pc = .ok (.ldc idx, 2) → (Cond.constant k.1.cls idx v ∈ am_tb) → P (pc + 2) (L) (.int v :: S) h → P pc L (S) h
def am_r_ldc_w  (k : am_K) (P : Nat → List Value → List Value → am_H → Prop) : Prop := ∀ (pc : Nat) (L S : List Value) (h : am_H) (idx : Nat) (v : Int32), decode k.2.1 pc = .ok (.ldc_w idx, 3) → (Cond.constant k.1.cls idx v ∈ am_tb) → P (pc + 3) (L) (.int v :: S) h → P pc L (S) h
def am_r_ldc2  (k : am_K) (P : Nat → List Value → List Value → am_H → Prop) : Prop := ∀ (pc : Nat) (L S : List Value) (h : am_H) (idx : Nat) (v : Int64), decode k.2.1 pc = .ok (.ldc2_w idx, 3) → (Cond.constantLong k.1.cls idx v ∈ am_tb) → P (pc + 3) (L) (.long v :: S) h → P pc L (S) h
def am_r_getLet  (k : am_K) (P : Nat → List Value → List Value → am_H → Prop) : Prop := ∀ (pc : Nat) (L S : List Value) (h : am_H) (idx : Nat) (host : String), decode k.2.1 pc = .ok (.getstatic idx, 3) → (Cond.fieldLinkNest k.1.cls idx "FlapBoard" "LETTERS" "[I" host ∈ am_nw) → P (pc + 3) (L) (.ref 1 :: S) h → P pc L (S) h
def am_r_getf  (k : am_K) (P : Nat → List Value → List Value → am_H → Prop) : Prop := ∀ (pc : Nat) (L S : List Value) (h : am_H) (idx ci j a : Nat) (fs : List Value) (v : Value), decode k.2.1 pc = .ok (.getfield idx, 3) → am_okF k.1.cls idx ci j → h[a]? = some (.inr (ci, fs)) → fs[j]? = some v → P (pc + 3) L (v :: S) h → P pc L (.ref (a + 2) :: S) h
def am_r_putI  (k : am_K) (P : Nat → List Value → List Value → am_H → Prop) : Prop := ∀ (pc : Nat) (L S : List Value) (h : am_H) (idx ci j a : Nat) (fs : List Value) (x : Int32), decode k.2.1 pc = .ok (.putfield idx, 3) → am_okP k.1.cls idx ci j .int → h[a]? = some (.inr (ci, fs)) → j < fs.length → P (pc + 3) L S (h.set a (.inr (ci, fs.set j (.int x)))) → P pc L (.int x :: .ref (a + 2) :: S) h
def am_r_putJ  (k : am_K) (P : Nat → List Value → List Value → am_H → Prop) : Prop := ∀ (pc : Nat) (L S : List Value) (h : am_H) (idx ci j a : Nat) (fs : List Value) (x : Int64), decode k.2.1 pc = .ok (.putfield idx, 3) → am_okP k.1.cls idx ci j .long → h[a]? = some (.inr (ci, fs)) → j < fs.length → P (pc + 3) L S (h.set a (.inr (ci, fs.set j (.long x)))) → P pc L (.long x :: .ref (a + 2) :: S) h
def am_r_putF  (k : am_K) (P : Nat → List Value → List Value → am_H → Prop) : Prop := ∀ (pc : Nat) (L S : List Value) (h : am_H) (idx ci j a : Nat) (ft : FieldType) (fs : List Value) (v : Value), decode k.2.1 pc = .ok (.putfield idx, 3) → am_okPF k.1.cls idx ci j ft → k.1.name = "<init>" → h[a]? = some (.inr (ci, fs)) → j < fs.length → (∀ f, narrow ft (am_cv f v) = am_cv f v) → (∀ f, fits ft (am_cv f v) = true) → P (pc + 3) L S (h.set a (.inr (ci, fs.set j v))) → P pc L (v :: .ref (a + 2) :: S) h
def am_r_iald  (k : am_K) (P : Nat → List Value → List Value → am_H → Prop) : Prop := ∀ (pc : Nat) (L S : List Value) (h : am_H) (a n : Nat) (f : Nat → Int32) (i : Int32), decode k.2.1 pc = .ok (.iaload, 1) → h[a]? = some (.inl (0, (n, .inl f))) → vp_in i n → P (pc + 1) L (.int (f i.toNatClampNeg) :: S) h → P pc L (.int i :: .ref (a + 2) :: S) h
def am_r_sald (X : Nat × (Nat → Int32)) (k : am_K) (P : Nat → List Value → List Value → am_H → Prop) : Prop := ∀ (pc : Nat) (L S : List Value) (h : am_H) (i : Int32), decode k.2.1 pc = .ok (.iaload, 1) → vp_in i X.1 → P (pc + 1) L (.int (X.2 i.toNatClampNeg) :: S) h → P pc L (.int i :: .ref 0 :: S) h
def am_r_slen (X : Nat × (Nat → Int32)) (k : am_K) (P : Nat → List Value → List Value → am_H → Prop) : Prop := ∀ (pc : Nat) (L S : List Value) (h : am_H), decode k.2.1 pc = .ok (.arraylength, 1) → P (pc + 1) L (.int (Int32.ofNat X.1) :: S) h → P pc L (.ref 0 :: S) h
def am_r_letld  (k : am_K) (P : Nat → List Value → List Value → am_H → Prop) : Prop := ∀ (pc : Nat) (L S : List Value) (h : am_H) (i : Int32), decode k.2.1 pc = .ok (.iaload, 1) → vp_in i 6 → P (pc + 1) L (.int (am_let i.toNatClampNeg) :: S) h → P pc L (.int i :: .ref 1 :: S) h
def am_r_bald  (k : am_K) (P : Nat → List Value → List Value → am_H → Prop) : Prop := ∀ (pc : Nat) (L S : List Value) (h : am_H) (a n : Nat) (f : Nat → Int32) (i : Int32), decode k.2.1 pc = .ok (.baload, 1) → h[a]? = some (.inl (1, (n, .inl f))) → vp_in i n → P (pc + 1) L (.int (f i.toNatClampNeg) :: S) h → P pc L (.int i :: .ref (a + 2) :: S) h
def am_r_lald  (k : am_K) (P : Nat → List Value → List Value → am_H → Prop) : Prop := ∀ (pc : Nat) (L S : List Value) (h : am_H) (a n : Nat) (f : Nat → Int64) (i : Int32), decode k.2.1 pc = .ok (.laload, 1) → h[a]? = some (.inl (2, (n, .inr (.inl f)))) → vp_in i n → P (pc + 1) L (.long (f i.toNatClampNeg) :: S) h → P pc L (.int i :: .ref (a + 2) :: S) h
def am_r_aald  (k : am_K) (P : Nat → List Value → List Value → am_H → Prop) : Prop := ∀ (pc : Nat) (L S : List Value) (h : am_H) (a t n q : Nat) (f : Nat → Option Nat) (i : Int32), decode k.2.1 pc = .ok (.aaload, 1) → h[a]? = some (.inl (t, (n, .inr (.inr (.inr (.inr f)))))) → (3 ≤ t ∧ t < 8) → vp_in i n → f i.toNatClampNeg = some q → P (pc + 1) L (.ref q :: S) h → P pc L (.int i :: .ref (a + 2) :: S) h
def am_r_iast  (k : am_K) (P : Nat → List Value → List Value → am_H → Prop) : Prop := ∀ (pc : Nat) (L S : List Value) (h : am_H) (a n : Nat) (f : Nat → Int32) (i x : Int32), decode k.2.1 pc = .ok (.iastore, 1) → h[a]? = some (.inl (0, (n, .inl f))) → vp_in i n → P (pc + 1) L S (h.set a (.inl (0, (n, .inl (upd f i.toNatClampNeg x))))) → P pc L (.int x :: .int i :: .ref (a + 2) :: S) h
def am_r_bast  (k : am_K) (P : Nat → List Value → List Value → am_H → Prop) : Prop := ∀ (pc : Nat) (L S : List Value) (h : am_H) (a n : Nat) (f : Nat → Int32) (i x : Int32), decode k.2.1 pc = .ok (.bastore, 1) → h[a]? = some (.inl (1, (n, .inl f))) → vp_in i n → P (pc + 1) L S (h.set a (.inl (1, (n, .inl (upd f i.toNatClampNeg (vp_nar .byte x)))))) → P pc L (.int x :: .int i :: .ref (a + 2) :: S) h
def am_r_last  (k : am_K) (P : Nat → List Value → List Value → am_H → Prop) : Prop := ∀ (pc : Nat) (L S : List Value) (h : am_H) (a n : Nat) (f : Nat → Int64) (i : Int32) (x : Int64), decode k.2.1 pc = .ok (.lastore, 1) → h[a]? = some (.inl (2, (n, .inr (.inl f)))) → vp_in i n → P (pc + 1) L S (h.set a (.inl (2, (n, .inr (.inl (vp_updL f i.toNatClampNeg x)))))) → P pc L (.long x :: .int i :: .ref (a + 2) :: S) h
def am_r_aast  (k : am_K) (P : Nat → List Value → List Value → am_H → Prop) : Prop := ∀ (pc : Nat) (L S : List Value) (h : am_H) (a t n b ci : Nat) (vs : List Value) (f : Nat → Option Nat) (i : Int32), decode k.2.1 pc = .ok (.aastore, 1) → h[a]? = some (.inl (t, (n, .inr (.inr (.inr (.inr f)))))) → t < 8 → h[b]? = some (.inr (ci, vs)) → (∃ C T N ty, am_cls ci C T N ty ∧ am_ty t = .object C) → vp_in i n → P (pc + 1) L S (h.set a (.inl (t, (n, .inr (.inr (.inr (.inr (va_up f i.toNatClampNeg (some (b + 2)))))))))) → P pc L (.ref (b + 2) :: .int i :: .ref (a + 2) :: S) h
def am_r_alen  (k : am_K) (P : Nat → List Value → List Value → am_H → Prop) : Prop := ∀ (pc : Nat) (L S : List Value) (h : am_H) (a t : Nat) (x : vp_A), decode k.2.1 pc = .ok (.arraylength, 1) → h[a]? = some (.inl (t, x)) → t < 8 → P (pc + 1) L (.int (Int32.ofNat x.1) :: S) h → P pc L (.ref (a + 2) :: S) h
def am_r_new  (k : am_K) (P : Nat → List Value → List Value → am_H → Prop) : Prop := ∀ (pc : Nat) (L S : List Value) (h : am_H) (idx ci : Nat) (fs : List Value), decode k.2.1 pc = .ok (.new idx, 3) → am_okN k.1.cls idx ci fs → P (pc + 3) L (.ref (h.length + 2) :: S) (h ++ [.inr (ci, fs)]) → P pc L S h
def am_r_newa  (k : am_K) (P : Nat → List Value → List Value → am_H → Prop) : Prop := ∀ (pc : Nat) (L S : List Value) (h : am_H) (at_ : ArrayType) (t N : Nat) (x0 : vp_A) (n : Int32), decode k.2.1 pc = .ok (.newarray at_, 2) → newarray.typeOf at_ = am_ty t → t < 3 → Cond.arrayClass (am_ty t) ∈ am_tb → ¬ n < 0 → n.toNatClampNeg = N → N * 8 ≤ 536870912 → x0 = (if t = 2 then (N, .inr (.inl (fun _ => 0))) else (N, .inl (fun _ => 0))) → P (pc + 2) L (.ref (h.length + 2) :: S) (h ++ [.inl (t, x0)]) → P pc L (.int n :: S) h
def am_r_anew  (k : am_K) (P : Nat → List Value → List Value → am_H → Prop) : Prop := ∀ (pc : Nat) (L S : List Value) (h : am_H) (idx t N : Nat) (C : String) (n : Int32), decode k.2.1 pc = .ok (.anewarray idx, 3) → am_ty t = .object C → (3 ≤ t ∧ t < 7) → Cond.classLink k.1.cls idx C ∈ am_tb → ¬ n < 0 → n.toNatClampNeg = N → N * 8 ≤ 536870912 → P (pc + 3) L (.ref (h.length + 2) :: S) (h ++ [.inl (t, (N, .inr (.inr (.inr (.inr (fun _ => none))))))]) → P pc L (.int n :: S) h
def am_r_objI  (k : am_K) (P : Nat → List Value → List Value → am_H → Prop) : Prop := ∀ (pc : Nat) (L S : List Value) (h : am_H) (idx a : Nat), decode k.2.1 pc = .ok (.invokespecial idx, 3) → am_okO k.1.cls idx → am_cat S ≤ 8 → P (pc + 3) L S h → P pc L (.ref a :: S) h
def am_r_callV (Cr : am_R) (k : am_K) (P : Nat → List Value → List Value → am_H → Prop) : Prop := ∀ (pc : Nat) (L S : List Value) (h : am_H) (idx : Nat) (y : am_K) (n ci a : Nat) (As : List Value) (fs : List Value) (r1 : Option Value) (h1 : am_H) (S0 : List Value), decode k.2.1 pc = .ok (.invokevirtual idx, 3) → am_okV k.1.cls idx y n ci → As.length = n → S0 = As.reverse ++ .ref (a + 2) :: S → h[a]? = some (.inr (ci, fs)) → am_cat S ≤ 8 → Cr y (.ref (a + 2) :: As) h r1 h1 → P (pc + 3) L (r1.toList ++ S) h1 → P pc L S0 h
def am_r_callS (Cr : am_R) (k : am_K) (P : Nat → List Value → List Value → am_H → Prop) : Prop := ∀ (pc : Nat) (L S : List Value) (h : am_H) (idx : Nat) (y : am_K) (n : Nat) (As : List Value) (r1 : Option Value) (h1 : am_H) (S0 : List Value), decode k.2.1 pc = .ok (.invokestatic idx, 3) → am_okS k.1.cls idx y n → As.length = n → S0 = As.reverse ++ S → am_cat S ≤ 8 → Cr y (As) h r1 h1 → P (pc + 3) L (r1.toList ++ S) h1 → P pc L S0 h
def am_r_callSN (Cr : am_R) (k : am_K) (P : Nat → List Value → List Value → am_H → Prop) : Prop := ∀ (pc : Nat) (L S : List Value) (h : am_H) (idx : Nat) (y : am_K) (n : Nat) (As : List Value) (r1 : Option Value) (h1 : am_H) (S0 : List Value), decode k.2.1 pc = .ok (.invokestatic idx, 3) → am_okSN k.1.cls idx y n → As.length = n → S0 = As.reverse ++ S → am_cat S ≤ 8 → Cr y (As) h r1 h1 → P (pc + 3) L (r1.toList ++ S) h1 → P pc L S0 h
def am_r_callI (Cr : am_R) (k : am_K) (P : Nat → List Value → List Value → am_H → Prop) : Prop := ∀ (pc : Nat) (L S : List Value) (h : am_H) (idx : Nat) (y : am_K) (n a : Nat) (As : List Value) (r1 : Option Value) (h1 : am_H) (S0 : List Value), decode k.2.1 pc = .ok (.invokespecial idx, 3) → am_okI k.1.cls idx y n → As.length = n → S0 = As.reverse ++ .ref (a + 2) :: S → am_cat S ≤ 8 → Cr y (.ref (a + 2) :: As) h r1 h1 → P (pc + 3) L (r1.toList ++ S) h1 → P pc L S0 h
def am_r_callIN (Cr : am_R) (k : am_K) (P : Nat → List Value → List Value → am_H → Prop) : Prop := ∀ (pc : Nat) (L S : List Value) (h : am_H) (idx : Nat) (y : am_K) (n a : Nat) (As : List Value) (r1 : Option Value) (h1 : am_H) (S0 : List Value), decode k.2.1 pc = .ok (.invokespecial idx, 3) → am_okIN k.1.cls idx y n → As.length = n → S0 = As.reverse ++ .ref (a + 2) :: S → am_cat S ≤ 8 → Cr y (.ref (a + 2) :: As) h r1 h1 → P (pc + 3) L (r1.toList ++ S) h1 → P pc L S0 h
def am_r_acopy  (k : am_K) (P : Nat → List Value → List Value → am_H → Prop) : Prop := ∀ (pc : Nat) (L S : List Value) (h : am_H) (idx a0 a1 n0 n1 : Nat) (f g : Nat → Int32) (sp dp n : Int32), decode k.2.1 pc = .ok (.invokestatic idx, 3) → am_okA k.1.cls idx → h[a0]? = some (.inl (0, (n0, .inl f))) → h[a1]? = some (.inl (0, (n1, .inl g))) → ¬ sp < 0 → ¬ dp < 0 → ¬ n < 0 → sp.toNatClampNeg + n.toNatClampNeg ≤ n0 → dp.toNatClampNeg + n.toNatClampNeg ≤ n1 → am_cat S ≤ 8 → P (pc + 3) L S (h.set a1 (.inl (0, (n1, .inl (va_cpy f g sp.toNatClampNeg dp.toNatClampNeg n.toNatClampNeg))))) → P pc L (.int n :: .int dp :: .ref (a1 + 2) :: .int sp :: .ref (a0 + 2) :: S) h
def am_r_ret (r : Option Value) (h' : am_H) (k : am_K) (P : Nat → List Value → List Value → am_H → Prop) : Prop := ∀ (pc : Nat) (L : List Value), am_fin k.2.1 pc r → am_okr k.2.2.2 r → P pc L r.toList h'
def am_r_mna  (k : am_K) (P : Nat → List Value → List Value → am_H → Prop) : Prop := ∀ (pc : Nat) (L S : List Value) (h : am_H) (idx N M : Nat) (n q : Int32), decode k.2.1 pc = .ok (.multianewarray idx 2, 4) → Cond.classLink k.1.cls idx "[[I" ∈ am_tb → Cond.arrayClass .int ∈ am_tb → ¬ n < 0 → ¬ q < 0 → n.toNatClampNeg = N → q.toNatClampNeg = M → N * 8 ≤ 536870912 → M * 8 ≤ 536870912 → P (pc + 4) L (.ref (h.length + 2) :: S) (h ++ (.inl (7, (N, .inr (.inr (.inr (.inr (fun i => if i < N then some (h.length + 3 + i) else none)))))) :: List.replicate N (.inl (0, (M, .inl (fun _ => 0)))))) → P pc L (.int q :: .int n :: S) h
def am_RS (X : Nat × (Nat → Int32)) (Cr : am_R) (k : am_K) (r : Option Value) (h' : am_H) (P : Nat → List Value → List Value → am_H → Prop) (i : Nat) : Prop := match i with
  | 0 => am_r_iconst  k P
  | 1 => am_r_bipush  k P
  | 2 => am_r_sipush  k P
  | 3 => am_r_lconst  k P
  | 4 => am_r_iload_n  k P
  | 5 => am_r_iload  k P
  | 6 => am_r_istore_n  k P
  | 7 => am_r_istore  k P
  | 8 => am_r_lload_n  k P
  | 9 => am_r_lload  k P
  | 10 => am_r_lstore_n  k P
  | 11 => am_r_lstore  k P
  | 12 => am_r_aload_n  k P
  | 13 => am_r_aload  k P
  | 14 => am_r_astore_n  k P
  | 15 => am_r_astore  k P
  | 16 => am_r_iinc  k P
  | 17 => am_r_iadd  k P
  | 18 => am_r_isub  k P
  | 19 => am_r_imul  k P
  | 20 => am_r_iand  k P
  | 21 => am_r_ior  k P
  | 22 => am_r_ixor  k P
  | 23 => am_r_ishl  k P
  | 24 => am_r_ishr  k P
  | 25 => am_r_iushr  k P
  | 26 => am_r_idiv  k P
  | 27 => am_r_irem  k P
  | 28 => am_r_ladd  k P
  | 29 => am_r_lsub  k P
  | 30 => am_r_lmul  k P
  | 31 => am_r_ldiv  k P
  | 32 => am_r_lrem  k P
  | 33 => am_r_i2l  k P
  | 34 => am_r_l2i  k P
  | 35 => am_r_i2b  k P
  | 36 => am_r_lcmp  k P
  | 37 => am_r_dup  k P
  | 38 => am_r_pop  k P
  | 39 => am_r_dup2  k P
  | 40 => am_r_if_eq  k P
  | 41 => am_r_icmp_eq  k P
  | 42 => am_r_if_ne  k P
  | 43 => am_r_icmp_ne  k P
  | 44 => am_r_if_lt  k P
  | 45 => am_r_icmp_lt  k P
  | 46 => am_r_if_ge  k P
  | 47 => am_r_icmp_ge  k P
  | 48 => am_r_if_gt  k P
  | 49 => am_r_icmp_gt  k P
  | 50 => am_r_if_le  k P
  | 51 => am_r_icmp_le  k P
  | 52 => am_r_goto  k P
  | 53 => am_r_tableIn  k P
  | 54 => am_r_tableOut  k P
  | 55 => am_r_ldc  k P
  | 56 => am_r_ldc_w  k P
  | 57 => am_r_ldc2  k P
  | 58 => am_r_getLet  k P
  | 59 => am_r_getf  k P
  | 60 => am_r_putI  k P
  | 61 => am_r_putJ  k P
  | 62 => am_r_putF  k P
  | 63 => am_r_iald  k P
  | 64 => am_r_sald X k P
  | 65 => am_r_slen X k P
  | 66 => am_r_letld  k P
  | 67 => am_r_bald  k P
  | 68 => am_r_lald  k P
  | 69 => am_r_aald  k P
  | 70 => am_r_iast  k P
  | 71 => am_r_bast  k P
  | 72 => am_r_last  k P
  | 73 => am_r_aast  k P
  | 74 => am_r_alen  k P
  | 75 => am_r_new  k P
  | 76 => am_r_newa  k P
  | 77 => am_r_anew  k P
  | 78 => am_r_objI  k P
  | 79 => am_r_callV Cr k P
  | 80 => am_r_callS Cr k P
  | 81 => am_r_callSN Cr k P
  | 82 => am_r_callI Cr k P
  | 83 => am_r_callIN Cr k P
  | 84 => am_r_acopy  k P
  | 85 => am_r_ret r h' k P
  | 86 => am_r_mna  k P
  | _ => True
def am_run (X : Nat × (Nat → Int32)) (Cr : am_R) (k : am_K) (r : Option Value) (h' : am_H) (pc : Nat) (L S : List Value) (h : am_H) : Prop := ∀ P : Nat → List Value → List Value → am_H → Prop, (∀ i, am_RS X Cr k r h' P i) → P pc L S h
end
section
-- ===== THE RULES HOLD OVER THE MACHINE (written by wip/mkrules.py) =====
theorem am_D.puts {G : am_G} {s : State} {h0 h : am_H} {H H1 : Heap} {locs Ls : List Loc} {a : Nat} {c d : am_C} (dy : am_D G s h0 h H locs) (hk : h[a]? = some d) (hs : am_sc c = am_sc d)
    (e : va_at G.1 vwCl (am_gB G + a, am_E (am_gf G) (am_gA G) c) H1) (z : H1.size = H.size) (oq : ∀ q : Nat, q ≠ am_gB G + a → H1[q]? = H[q]?) (hL : ∀ q ∈ Ls, q.base = am_gB G + a) : am_D G s h0 (h.set a c) H1 (locs ++ Ls) := by
  obtain ⟨d1, d2, d3, d4, d5⟩ := dy
  refine ⟨by rw [z, List.length_set]; exact d1, ?_, ⟨by rw [z]; exact d3.1, fun q g1 g2 => ?_, fun q hq => ?_⟩, by rw [List.length_set]; exact d4, by rw [am_sz_set h a c d hk hs]; exact d5⟩
  · have := d2.set (am_ws_D _ _ _ _) (am_ws_at (f := am_gf G) (cA := am_gA G) (B := am_gB G) hk) e oq
    rw [am_ws_set] at this
    exact this
  · rw [oq q (fun e => g2 (by rw [e]; exact Nat.le_add_right _ _))]
    exact d3.2.1 q g1 g2
  · rcases List.mem_append.mp hq with h1 | h1
    · exact d3.2.2 q h1
    · rw [hL q h1]
      exact Nat.le_add_right _ _
theorem am_outer (c : ClassId) (N h0 : Nat) : ∀ i : Nat, Jvm.Free.Multi.outerC c N h0 i = arrV c N (fun j => va_rf (if j < i then some (h0 + 1 + j) else none))
  | 0 => by
    show ({ cls := c, slots := Array.replicate N .null, vm := .none } : Cell) = _
    rw [arrV_new]
    refine congrArg (arrV c N) (funext fun j => ?_)
    simp [va_rf]
  | i + 1 => by
    show (Jvm.Free.Multi.outerC c N h0 i).setSlot i (.ref (h0 + 1 + i)) = _
    rw [am_outer c N h0 i, arrV_store]
    refine congrArg (arrV c N) (funext fun j => ?_)
    by_cases e : j = i
    · subst e
      simp [updV, va_rf]
    · by_cases h : j < i
      · simp [updV, e, h, Nat.lt_succ_of_lt h]
      · simp [updV, e, h, show ¬ j < i + 1 by omega]
def am_rm (d mc ms : Nat) : Room := { frames := d + 1, cells := mc, slots := ms, locals := 64 * (d + 1) }
def am_ws0 (y : am_K) : List Cond := Cond.code y.1 y.2.1 y.2.2.1 y.2.2.2 :: am_tb
def am_Q (G : am_G) (r : Option Value) (h' : am_H) : Array Value → State → Outcome → State → Prop := fun _ st oc t => oc = .returned (r.map (am_cv (am_gf G))) ∧ am_W G h' t ∧ va_F (am_up G) st t
def am_CS (l : Launch) (G : am_G) (d : Nat) (Cr : am_R) : Prop := ∀ y vs h r h', Cr y vs h r h' → (h.length ≤ h'.length ∧ am_sz h ≤ am_sz h') ∧ Met l y.1 (am_ws0 y) (am_rm d (h'.length - h.length) (am_sz h' - am_sz h)) (va_Pc (vs.map (am_cv (am_gf G))) (am_W G h)) (am_Q G r h') (h'.length - h.length) (am_sz h' - am_sz h) (am_up G)
def am_end (p : Program) (l : Launch) (e : Env) (R : Room) (s : State) (m : MethodId) (args : Array Value) (below : List Frame) (meth : Method) (c : Code) (Q : State → Prop) (G : am_G) (h0 h' : am_H) (k : am_K) (r : Option Value) : Prop :=
  ∀ (pc : Nat) (H : Heap) (locs : List Loc) (ls : Array Slot), am_fin k.2.1 pc r → am_okr k.2.2.2 r → am_D G s h0 h' H locs → W p l e R s m args below meth c H locs (h'.length - h0.length) (am_sz h' - am_sz h0) Q (F0 m pc ls (r.toList.map (am_cv (am_gf G))))
section HEAD
variable {p : Program} {l : Launch} {e : Env} {R : Room} {s : State} {m : MethodId} {args : Array Value} {below : List Frame} {meth : Method} {c : Code} {Q : State → Prop} {G : am_G} {d : Nat} {k : am_K} {r : Option Value} {h0 h' : am_H} {Cr : am_R}
theorem am_set {nL pc pc' : Nat} {L S S' : List Value} {h : am_H} {a : Nat} {c0 d0 : am_C} (hk : h[a]? = some d0) (hs : am_sc c0 = am_sc d0) (hP : am_P p l e R s m args below meth c Q G h0 h' nL pc' L S' (h.set a c0))
    (F : ∀ (H : Heap) (locs : List Loc) (ls : Array Slot), am_D G s h0 h H locs → am_L (am_gf G) nL L ls → (∀ (H1 : Heap) (j : Nat), va_at G.1 vwCl (am_gB G + a, am_E (am_gf G) (am_gA G) c0) H1 → H1.size = H.size → (∀ q : Nat, q ≠ am_gB G + a → H1[q]? = H[q]?) →
      W p l e R s m args below meth c H1 (locs ++ [⟨am_gB G + a, j⟩]) (h.length - h0.length) (am_sz h - am_sz h0) Q (F0 m pc' ls (S'.map (am_cv (am_gf G))))) → W p l e R s m args below meth c H locs (h.length - h0.length) (am_sz h - am_sz h0) Q (F0 m pc ls (S.map (am_cv (am_gf G))))) : am_P p l e R s m args below meth c Q G h0 h' nL pc L S h := by
  obtain ⟨⟨m1, m2⟩, hP⟩ := hP
  rw [List.length_set] at m1
  rw [am_sz_set h a c0 d0 hk hs] at m2
  refine ⟨⟨m1, m2⟩, fun H locs ls dy lr => F H locs ls dy lr fun H1 j e1 z oq => ?_⟩
  have := hP H1 _ ls (dy.puts hk hs e1 z oq (Ls := [⟨am_gB G + a, j⟩]) (fun q hq => by rw [List.mem_singleton.mp hq])) lr
  rw [List.length_set, am_sz_set h a c0 d0 hk hs] at this
  exact this
theorem am_sets {nL pc pc' : Nat} {L S S' : List Value} {h : am_H} {a : Nat} {c0 d0 : am_C} (hk : h[a]? = some d0) (hs : am_sc c0 = am_sc d0) (hP : am_P p l e R s m args below meth c Q G h0 h' nL pc' L S' (h.set a c0))
    (F : ∀ (H : Heap) (locs : List Loc) (ls : Array Slot), am_D G s h0 h H locs → am_L (am_gf G) nL L ls → (∀ (H1 : Heap) (Ls : List Loc), va_at G.1 vwCl (am_gB G + a, am_E (am_gf G) (am_gA G) c0) H1 → H1.size = H.size → (∀ q : Nat, q ≠ am_gB G + a → H1[q]? = H[q]?) → (∀ q ∈ Ls, q.base = am_gB G + a) →
      W p l e R s m args below meth c H1 (locs ++ Ls) (h.length - h0.length) (am_sz h - am_sz h0) Q (F0 m pc' ls (S'.map (am_cv (am_gf G))))) → W p l e R s m args below meth c H locs (h.length - h0.length) (am_sz h - am_sz h0) Q (F0 m pc ls (S.map (am_cv (am_gf G))))) : am_P p l e R s m args below meth c Q G h0 h' nL pc L S h := by
  obtain ⟨⟨m1, m2⟩, hP⟩ := hP
  rw [List.length_set] at m1
  rw [am_sz_set h a c0 d0 hk hs] at m2
  refine ⟨⟨m1, m2⟩, fun H locs ls dy lr => F H locs ls dy lr fun H1 Ls e1 z oq hL => ?_⟩
  have := hP H1 _ ls (dy.puts hk hs e1 z oq hL) lr
  rw [List.length_set, am_sz_set h a c0 d0 hk hs] at this
  exact this
theorem am_put1 (hc : am_X G d k h0 h' p R s m args meth c) {pc idx ci j a : Nat} {L S : List Value} {h : am_H} {ft : FieldType} {fs : List Value} {v : Value} (hd : decode k.2.1 pc = .ok (.putfield idx, 3)) (hok : am_okP k.1.cls idx ci j ft) (hk : h[a]? = some (.inr (ci, fs))) (hl : j < fs.length)
    (hn : narrow ft (am_cv (am_gf G) v) = am_cv (am_gf G) v) (hfit : fits ft (am_cv (am_gf G) v) = true) (hP : am_P p l e R s m args below meth c Q G h0 h' k.2.2.1 (pc + 3) L S (h.set a (.inr (ci, fs.set j v)))) : am_P p l e R s m args below meth c Q G h0 h' k.2.2.1 pc L (v :: .ref (a + 2) :: S) h := by
  obtain ⟨C, T, N, ty, ⟨k1, k2, k3, k4⟩, hj, hw, hfin, hpd⟩ := hok
  refine am_set hk (by simp [am_sc]) hP fun H locs ls dy lr kk => ?_
  have hts := hc.2.2.2.2.1
  have hK := hc.2.2.2.2.2.1.1
  have hap := va_apart (own := k.1.cls) hts k2 ty k3 k4 hK k1
  obtain ⟨r0, h1, cell, q1, q2, q3, q4⟩ := dy.2.1 a _ (am_ws_at hk)
  have hr : r0 = (C, T, N) := Option.some.inj (h1.symm.trans k1)
  subst hr
  obtain ⟨hS, hfc, kC, hkC, hkind⟩ := hK.1 ci _ k1
  obtain ⟨cf, kf, fi, f, hi, hsl⟩ := hS j hj
  have hlay := hts _ (k2 _ (u_in_lay hj))
  unfold u_lay at hlay
  rw [if_neg (by rw [hfin]; decide)] at hlay
  have hst := (u_facts hfc hkC (u_lays hts k2 hj) hi).1
  have h6 := u_store hfc hkC hkind hlay hi hpd hn hfit
  refine W.putK hc.1 hc.2.1 (f := f) ⟨hc.2.2.2.1, hts _ hw, ⟨_, _, _, hi⟩, hst⟩ (by rw [q2]; exact h6) q1 q3 (by rw [hsl]; exact k2_hasslot (q4 j hj)) rfl rfl hd fun H' e1 e2 e3 => ?_
  rw [hsl] at e1 ⊢
  refine kk H' _ ⟨_, k1, t_OB.to (V := updV (vp_V (fs.map (am_cv (am_gf G)))) j (am_cv (am_gf G) v)) ⟨_, e1, q2, q3, t_set q4 hap hj _⟩ (fun x _ => ?_)⟩ e2 e3
  rw [vp_updV_set (by simpa using hl), List.map_set]
theorem am_put2 (hc : am_X G d k h0 h' p R s m args meth c) {pc idx ci j a : Nat} {L S : List Value} {h : am_H} {ft : FieldType} {fs : List Value} {v : Value} (hd : decode k.2.1 pc = .ok (.putfield idx, 3)) (hok : am_okPF k.1.cls idx ci j ft) (hin2 : k.1.name = "<init>") (hk : h[a]? = some (.inr (ci, fs))) (hl : j < fs.length)
    (hn : narrow ft (am_cv (am_gf G) v) = am_cv (am_gf G) v) (hfit : fits ft (am_cv (am_gf G) v) = true) (hP : am_P p l e R s m args below meth c Q G h0 h' k.2.2.1 (pc + 3) L S (h.set a (.inr (ci, fs.set j v)))) : am_P p l e R s m args below meth c Q G h0 h' k.2.2.1 pc L (v :: .ref (a + 2) :: S) h := by
  obtain ⟨C, T, N, ty, ⟨k1, k2, k3, k4⟩, hj, hw, hfin, hdecl, hpd⟩ := hok
  refine am_set hk (by simp [am_sc]) hP fun H locs ls dy lr kk => ?_
  have hts := hc.2.2.2.2.1
  have hK := hc.2.2.2.2.2.1.1
  have hown := hc.2.2.2.1
  have hap := va_apart (own := k.1.cls) hts k2 ty k3 k4 hK k1
  obtain ⟨r0, h1, cell, q1, q2, q3, q4⟩ := dy.2.1 a _ (am_ws_at hk)
  have hr : r0 = (C, T, N) := Option.some.inj (h1.symm.trans k1)
  subst hr
  obtain ⟨hS, hfc, kC, hkC, hkind⟩ := hK.1 ci _ k1
  obtain ⟨cf, kf, fi, f, hi, hsl⟩ := hS j hj
  have hlay := hts _ (k2 _ (u_in_lay hj))
  unfold u_lay at hlay
  rw [if_pos hfin] at hlay
  have hst := (u_facts hfc hkC (u_lays hts k2 hj) hi).1
  have hcf : m.cls = cf := by
    obtain ⟨_, _, c', _, _, _, -, -, hf', -, -, -, hown2, -⟩ := Cond.laysFinal_spec hlay
    have e1 : c' = cf := by have := hi.symm.trans hf'; simp at this; exact this.1.symm
    rw [hdecl] at hown2
    rw [← e1]; exact Option.some.inj (hown.symm.trans hown2)
  have h6 := u_fits hfc hkC hkind (Or.inr hlay) hi hpd hn hfit
  refine W.putFinK hc.1 hc.2.1 hown (hts _ hw) hi hst hcf (hc.2.2.2.2.2.2.1 hin2) (by rw [q2]; exact h6) q1 q3 (by rw [hsl]; exact k2_hasslot (q4 j hj)) rfl rfl hd fun H' e1 e2 e3 => ?_
  rw [hsl] at e1 ⊢
  refine kk H' _ ⟨_, k1, t_OB.to (V := updV (vp_V (fs.map (am_cv (am_gf G)))) j (am_cv (am_gf G) v)) ⟨_, e1, q2, q3, t_set q4 hap hj _⟩ (fun x _ => ?_)⟩ e2 e3
  rw [vp_updV_set (by simpa using hl), List.map_set]
/-- a new cell at the end -/
theorem am_D.push {h : am_H} {H H1 : Heap} {locs : List Loc} {x : am_C} (dy : am_D G s h0 h H locs) (e1 : va_at G.1 vwCl (am_gB G + h.length, am_E (am_gf G) (am_gA G) x) H1) (z1 : H1.size = H.size + 1) (o1 : ∀ q : Nat, q < H.size → H1[q]? = H[q]?) : am_D G s h0 (h ++ [x]) H1 locs := by
  obtain ⟨d1, d2, d3, d4, d5⟩ := dy
  refine ⟨by rw [z1, d1]; simp; omega, ?_, ⟨by rw [z1]; exact Nat.le_succ_of_le d3.1, fun q g1 g2 => (o1 q (Nat.lt_of_lt_of_le g1 d3.1)).trans (d3.2.1 q g1 g2), d3.2.2⟩, by simp; omega, by rw [am_sz_app]; omega⟩
  unfold am_gw
  rw [am_ws_app]
  refine va_P.app (d2.kept (fun k9 y hy => o1 y.1 ((d2 k9 y hy).lt))) (fun k9 y hy => ?_)
  have hz : k9 < 1 := (List.getElem?_eq_some_iff.mp hy).1
  rw [show k9 = 0 by omega] at hy
  cases hy
  exact e1
theorem am_go {H : Heap} {locs : List Loc} {pc : Nat} {ls : Array Slot} {st0 rest : List Value} {r1 : Option Value} {h h1 : am_H} {av : Array Value} (hr : va_Run p l e R s m args below meth c H locs (h.length - h0.length) (am_sz h - am_sz h0) (h1.length - h.length) (am_sz h1 - am_sz h) (F0 m pc ls st0) rest (am_Q G r1 h1 av) (am_up G))
    (dy : am_D G s h0 h H locs) (m1 : h.length ≤ h1.length) (m2 : am_sz h ≤ am_sz h1)
    (kk : ∀ (H1 : Heap) (locs1 : List Loc), am_D G s h0 h1 H1 locs1 → W p l e R s m args below meth c H1 locs1 (h1.length - h0.length) (am_sz h1 - am_sz h0) Q (F0 m (pc + 3) ls ((r1.map (am_cv (am_gf G))).toList ++ rest))) : W p l e R s m args below meth c H locs (h.length - h0.length) (am_sz h - am_sz h0) Q (F0 m pc ls st0) := by
  intro T hT X
  obtain ⟨v, st₀, t, T', L, e0, X', hL, e1, e2, ⟨hv, ⟨w1, w2, -⟩, hz, hq⟩, st⟩ := hr T hT X
  obtain ⟨d1, d2, d3, d4, d5⟩ := dy
  have hv' : v = r1.map (am_cv (am_gf G)) := by simpa using hv
  subst hv'
  rw [e0] at hz hq
  rw [show h.length - h0.length + (h1.length - h.length) = h1.length - h0.length by omega, show am_sz h - am_sz h0 + (am_sz h1 - am_sz h) = am_sz h1 - am_sz h0 by omega] at X'
  obtain ⟨t2, a1, b1⟩ := kk T'.heap (locs ++ L) ⟨by rw [e1]; exact w1, by rw [e1]; exact w2, ⟨by rw [e1]; exact Nat.le_trans d3.1 hz, fun q g1 g2 => by rw [e1, hq q (Nat.lt_of_lt_of_le g1 d3.1) g2]; exact d3.2.1 q g1 g2, fun q hq2 => (List.mem_append.mp hq2).elim (d3.2.2 q) (hL q)⟩, Nat.le_trans d4 m1, Nat.le_trans d5 m2⟩ T' rfl X'
  exact ⟨t2, st t2 a1, b1⟩
theorem am_nat {pc : Nat} {ls : Array Slot} {st rest : List Value} {n x dd : Nat} (h1 : (rest.map fun v => v.category).sum = n) (h2 : n ≤ 8) (h3 : 64 * (dd + 2) ≤ x) : 2 * (F0 m pc ls st).monitorRoom + (rest.map fun v => v.category).sum + (nativeFrameWords "java/lang/System" "arraycopy" 5 + 11) ≤ x := by
  have h4 : nativeFrameWords "java/lang/System" "arraycopy" 5 ≤ 40 := by decide
  have h5 := lv_room (m := m) (pc := pc) (ls := ls) (rest := st) (st := rest) (by rw [h1]; exact h2)
  omega
theorem am_pre (hc : am_X G d k h0 h' p R s m args meth c) {h : am_H} {H : Heap} {locs : List Loc} (dy : am_D G s h0 h H locs) {U : State} (hU : U.heap = H) (hW : s.WarmedH U.vm) : am_W G h U :=
  ⟨by rw [hU]; exact dy.1, by rw [hU]; exact dy.2.1, hc.2.2.2.2.2.1.moved hW (by rw [hU]; exact dy.2.2.1)⟩
end HEAD
section SOUND
variable {p : Program} {l : Launch} {e : Env} {R : Room} {s : State} {m : MethodId} {args : Array Value} {below : List Frame} {meth : Method} {c : Code} {Q : State → Prop} {G : am_G} {d : Nat} {k : am_K} {r : Option Value} {h0 h' : am_H} {Cr : am_R}
theorem am_s_iconst (hc : am_X G d k h0 h' p R s m args meth c) : am_r_iconst  k (am_P p l e R s m args below meth c Q G h0 h' k.2.2.1) := by
  intro pc L S h n v hd hv hP
  exact ⟨hP.1, fun H locs ls dy lr => lv_iconst hc.1 hc.2.1 hd hv (hP.2 H locs ls dy lr)⟩
theorem am_s_bipush (hc : am_X G d k h0 h' p R s m args meth c) : am_r_bipush  k (am_P p l e R s m args below meth c Q G h0 h' k.2.2.1) := by
  intro pc L S h n v hd hv hP
  exact ⟨hP.1, fun H locs ls dy lr => lv_bipush hc.1 hc.2.1 hd hv (hP.2 H locs ls dy lr)⟩
theorem am_s_sipush (hc : am_X G d k h0 h' p R s m args meth c) : am_r_sipush  k (am_P p l e R s m args below meth c Q G h0 h' k.2.2.1) := by
  intro pc L S h n v hd hv hP
  exact ⟨hP.1, fun H locs ls dy lr => lv_sipush hc.1 hc.2.1 hd hv (hP.2 H locs ls dy lr)⟩
theorem am_s_lconst (hc : am_X G d k h0 h' p R s m args meth c) : am_r_lconst  k (am_P p l e R s m args below meth c Q G h0 h' k.2.2.1) := by
  intro pc L S h n v hd hv hP
  exact ⟨hP.1, fun H locs ls dy lr => lv_lconst hc.1 hc.2.1 hd hv (hP.2 H locs ls dy lr)⟩
theorem am_s_iload_n (hc : am_X G d k h0 h' p R s m args meth c) : am_r_iload_n  k (am_P p l e R s m args below meth c Q G h0 h' k.2.2.1) := by
  intro pc L S h q x hd hl hP
  exact ⟨hP.1, fun H locs ls dy lr => lv_iload_n hc.1 hc.2.1 hd rfl (lr.2.2 _ _ hl (fun q => by cases q)) (hP.2 H locs ls dy lr)⟩
theorem am_s_iload (hc : am_X G d k h0 h' p R s m args meth c) : am_r_iload  k (am_P p l e R s m args below meth c Q G h0 h' k.2.2.1) := by
  intro pc L S h q x hd hl hP
  exact ⟨hP.1, fun H locs ls dy lr => lv_iload hc.1 hc.2.1 hd (lr.2.2 _ _ hl (fun q => by cases q)) (hP.2 H locs ls dy lr)⟩
theorem am_s_istore_n (hc : am_X G d k h0 h' p R s m args meth c) : am_r_istore_n  k (am_P p l e R s m args below meth c Q G h0 h' k.2.2.1) := by
  intro pc L S h q x hd hn hP
  exact ⟨hP.1, fun H locs ls dy lr => lv_istore_n hc.1 hc.2.1 hd rfl lr.has hn rfl (fun ls' hl' => hP.2 H locs ls' dy (am_L.st1 (v := .int x) hl'))⟩
theorem am_s_istore (hc : am_X G d k h0 h' p R s m args meth c) : am_r_istore  k (am_P p l e R s m args below meth c Q G h0 h' k.2.2.1) := by
  intro pc L S h q x hd hn hP
  exact ⟨hP.1, fun H locs ls dy lr => lv_istore hc.1 hc.2.1 hd lr.has hn rfl (fun ls' hl' => hP.2 H locs ls' dy (am_L.st1 (v := .int x) hl'))⟩
theorem am_s_lload_n (hc : am_X G d k h0 h' p R s m args meth c) : am_r_lload_n  k (am_P p l e R s m args below meth c Q G h0 h' k.2.2.1) := by
  intro pc L S h q x hd hl hP
  exact ⟨hP.1, fun H locs ls dy lr => lv_lload_n hc.1 hc.2.1 hd rfl (lr.2.2 _ _ hl (fun q => by cases q)) (hP.2 H locs ls dy lr)⟩
theorem am_s_lload (hc : am_X G d k h0 h' p R s m args meth c) : am_r_lload  k (am_P p l e R s m args below meth c Q G h0 h' k.2.2.1) := by
  intro pc L S h q x hd hl hP
  exact ⟨hP.1, fun H locs ls dy lr => lv_lload hc.1 hc.2.1 hd (lr.2.2 _ _ hl (fun q => by cases q)) (hP.2 H locs ls dy lr)⟩
theorem am_s_lstore_n (hc : am_X G d k h0 h' p R s m args meth c) : am_r_lstore_n  k (am_P p l e R s m args below meth c Q G h0 h' k.2.2.1) := by
  intro pc L S h q x hd hn hP
  exact ⟨hP.1, fun H locs ls dy lr => lv_lstore_n hc.1 hc.2.1 hd rfl lr.has hn rfl (fun ls' hl' => hP.2 H locs ls' dy (am_L.st2 (v := .long x) hl'))⟩
theorem am_s_lstore (hc : am_X G d k h0 h' p R s m args meth c) : am_r_lstore  k (am_P p l e R s m args below meth c Q G h0 h' k.2.2.1) := by
  intro pc L S h q x hd hn hP
  exact ⟨hP.1, fun H locs ls dy lr => lv_lstore hc.1 hc.2.1 hd lr.has hn rfl (fun ls' hl' => hP.2 H locs ls' dy (am_L.st2 (v := .long x) hl'))⟩
theorem am_s_aload_n (hc : am_X G d k h0 h' p R s m args meth c) : am_r_aload_n  k (am_P p l e R s m args below meth c Q G h0 h' k.2.2.1) := by
  intro pc L S h q x hd hl hP
  exact ⟨hP.1, fun H locs ls dy lr => lv_aload_n hc.1 hc.2.1 hd rfl (lr.2.2 _ _ hl (fun q => by cases q)) (hP.2 H locs ls dy lr)⟩
theorem am_s_aload (hc : am_X G d k h0 h' p R s m args meth c) : am_r_aload  k (am_P p l e R s m args below meth c Q G h0 h' k.2.2.1) := by
  intro pc L S h q x hd hl hP
  exact ⟨hP.1, fun H locs ls dy lr => lv_aload hc.1 hc.2.1 hd (lr.2.2 _ _ hl (fun q => by cases q)) (hP.2 H locs ls dy lr)⟩
theorem am_s_astore_n (hc : am_X G d k h0 h' p R s m args meth c) : am_r_astore_n  k (am_P p l e R s m args below meth c Q G h0 h' k.2.2.1) := by
  intro pc L S h q x hd hn hP
  exact ⟨hP.1, fun H locs ls dy lr => lv_astore_n hc.1 hc.2.1 hd rfl lr.has hn rfl (fun ls' hl' => hP.2 H locs ls' dy (am_L.st1 (v := .ref x) hl'))⟩
theorem am_s_astore (hc : am_X G d k h0 h' p R s m args meth c) : am_r_astore  k (am_P p l e R s m args below meth c Q G h0 h' k.2.2.1) := by
  intro pc L S h q x hd hn hP
  exact ⟨hP.1, fun H locs ls dy lr => lv_astore hc.1 hc.2.1 hd lr.has hn rfl (fun ls' hl' => hP.2 H locs ls' dy (am_L.st1 (v := .ref x) hl'))⟩
theorem am_s_iinc (hc : am_X G d k h0 h' p R s m args meth c) : am_r_iinc  k (am_P p l e R s m args below meth c Q G h0 h' k.2.2.1) := by
  intro pc L S h q n x v hd hl hv hn hP
  refine ⟨hP.1, fun H locs ls dy lr => ?_⟩
  have hm := am_pr_mem (am_gf G) L 0 q (.int x) hl (fun q => by cases q)
  rw [Nat.zero_add] at hm
  obtain ⟨kk, hkk⟩ := List.getElem?_of_mem hm
  exact lv_iinc hc.1 hc.2.1 hd lr.has hkk hv hn rfl (fun ls' hl' => hP.2 H locs ls' dy (am_L.st1 (v := .int v) hl'))
theorem am_s_iadd (hc : am_X G d k h0 h' p R s m args meth c) : am_r_iadd  k (am_P p l e R s m args below meth c Q G h0 h' k.2.2.1) := by
  intro pc L S h x y hd  hP
  exact ⟨hP.1, fun H locs ls dy lr => lv_iadd hc.1 hc.2.1 hd (hP.2 H locs ls dy lr)⟩
theorem am_s_isub (hc : am_X G d k h0 h' p R s m args meth c) : am_r_isub  k (am_P p l e R s m args below meth c Q G h0 h' k.2.2.1) := by
  intro pc L S h x y hd  hP
  exact ⟨hP.1, fun H locs ls dy lr => lv_isub hc.1 hc.2.1 hd (hP.2 H locs ls dy lr)⟩
theorem am_s_imul (hc : am_X G d k h0 h' p R s m args meth c) : am_r_imul  k (am_P p l e R s m args below meth c Q G h0 h' k.2.2.1) := by
  intro pc L S h x y hd  hP
  exact ⟨hP.1, fun H locs ls dy lr => lv_imul hc.1 hc.2.1 hd (hP.2 H locs ls dy lr)⟩
theorem am_s_iand (hc : am_X G d k h0 h' p R s m args meth c) : am_r_iand  k (am_P p l e R s m args below meth c Q G h0 h' k.2.2.1) := by
  intro pc L S h x y hd  hP
  exact ⟨hP.1, fun H locs ls dy lr => lv_iand hc.1 hc.2.1 hd (hP.2 H locs ls dy lr)⟩
theorem am_s_ior (hc : am_X G d k h0 h' p R s m args meth c) : am_r_ior  k (am_P p l e R s m args below meth c Q G h0 h' k.2.2.1) := by
  intro pc L S h x y hd  hP
  exact ⟨hP.1, fun H locs ls dy lr => lv_ior hc.1 hc.2.1 hd (hP.2 H locs ls dy lr)⟩
theorem am_s_ixor (hc : am_X G d k h0 h' p R s m args meth c) : am_r_ixor  k (am_P p l e R s m args below meth c Q G h0 h' k.2.2.1) := by
  intro pc L S h x y hd  hP
  exact ⟨hP.1, fun H locs ls dy lr => lv_ixor hc.1 hc.2.1 hd (hP.2 H locs ls dy lr)⟩
theorem am_s_ishl (hc : am_X G d k h0 h' p R s m args meth c) : am_r_ishl  k (am_P p l e R s m args below meth c Q G h0 h' k.2.2.1) := by
  intro pc L S h x y hd  hP
  exact ⟨hP.1, fun H locs ls dy lr => lv_ishl hc.1 hc.2.1 hd (hP.2 H locs ls dy lr)⟩
theorem am_s_ishr (hc : am_X G d k h0 h' p R s m args meth c) : am_r_ishr  k (am_P p l e R s m args below meth c Q G h0 h' k.2.2.1) := by
  intro pc L S h x y hd  hP
  exact ⟨hP.1, fun H locs ls dy lr => lv_ishr hc.1 hc.2.1 hd (hP.2 H locs ls dy lr)⟩
theorem am_s_iushr (hc : am_X G d k h0 h' p R s m args meth c) : am_r_iushr  k (am_P p l e R s m args below meth c Q G h0 h' k.2.2.1) := by
  intro pc L S h x y hd  hP
  exact ⟨hP.1, fun H locs ls dy lr => lv_iushr hc.1 hc.2.1 hd rfl (hP.2 H locs ls dy lr)⟩
theorem am_s_idiv (hc : am_X G d k h0 h' p R s m args meth c) : am_r_idiv  k (am_P p l e R s m args below meth c Q G h0 h' k.2.2.1) := by
  intro pc L S h x y hd hne hP
  exact ⟨hP.1, fun H locs ls dy lr => lv_idiv hc.1 hc.2.1 hd hne (hP.2 H locs ls dy lr)⟩
theorem am_s_irem (hc : am_X G d k h0 h' p R s m args meth c) : am_r_irem  k (am_P p l e R s m args below meth c Q G h0 h' k.2.2.1) := by
  intro pc L S h x y hd hne hP
  exact ⟨hP.1, fun H locs ls dy lr => lv_irem hc.1 hc.2.1 hd hne (hP.2 H locs ls dy lr)⟩
theorem am_s_ladd (hc : am_X G d k h0 h' p R s m args meth c) : am_r_ladd  k (am_P p l e R s m args below meth c Q G h0 h' k.2.2.1) := by
  intro pc L S h x y hd  hP
  exact ⟨hP.1, fun H locs ls dy lr => lv_ladd hc.1 hc.2.1 hd (hP.2 H locs ls dy lr)⟩
theorem am_s_lsub (hc : am_X G d k h0 h' p R s m args meth c) : am_r_lsub  k (am_P p l e R s m args below meth c Q G h0 h' k.2.2.1) := by
  intro pc L S h x y hd  hP
  exact ⟨hP.1, fun H locs ls dy lr => lv_lsub hc.1 hc.2.1 hd (hP.2 H locs ls dy lr)⟩
theorem am_s_lmul (hc : am_X G d k h0 h' p R s m args meth c) : am_r_lmul  k (am_P p l e R s m args below meth c Q G h0 h' k.2.2.1) := by
  intro pc L S h x y hd  hP
  exact ⟨hP.1, fun H locs ls dy lr => lv_lmul hc.1 hc.2.1 hd (hP.2 H locs ls dy lr)⟩
theorem am_s_ldiv (hc : am_X G d k h0 h' p R s m args meth c) : am_r_ldiv  k (am_P p l e R s m args below meth c Q G h0 h' k.2.2.1) := by
  intro pc L S h x y hd hne hP
  exact ⟨hP.1, fun H locs ls dy lr => lv_ldiv hc.1 hc.2.1 hd hne (hP.2 H locs ls dy lr)⟩
theorem am_s_lrem (hc : am_X G d k h0 h' p R s m args meth c) : am_r_lrem  k (am_P p l e R s m args below meth c Q G h0 h' k.2.2.1) := by
  intro pc L S h x y hd hne hP
  exact ⟨hP.1, fun H locs ls dy lr => lv_lrem hc.1 hc.2.1 hd hne (hP.2 H locs ls dy lr)⟩
theorem am_s_i2l (hc : am_X G d k h0 h' p R s m args meth c) : am_r_i2l  k (am_P p l e R s m args below meth c Q G h0 h' k.2.2.1) := by
  intro pc L S h x hd  hP
  exact ⟨hP.1, fun H locs ls dy lr => lv_i2l hc.1 hc.2.1 hd rfl (hP.2 H locs ls dy lr)⟩
theorem am_s_l2i (hc : am_X G d k h0 h' p R s m args meth c) : am_r_l2i  k (am_P p l e R s m args below meth c Q G h0 h' k.2.2.1) := by
  intro pc L S h x hd  hP
  exact ⟨hP.1, fun H locs ls dy lr => lv_l2i hc.1 hc.2.1 hd rfl (hP.2 H locs ls dy lr)⟩
theorem am_s_i2b (hc : am_X G d k h0 h' p R s m args meth c) : am_r_i2b  k (am_P p l e R s m args below meth c Q G h0 h' k.2.2.1) := by
  intro pc L S h x hd  hP
  exact ⟨hP.1, fun H locs ls dy lr => lv_i2b hc.1 hc.2.1 hd rfl (hP.2 H locs ls dy lr)⟩
theorem am_s_lcmp (hc : am_X G d k h0 h' p R s m args meth c) : am_r_lcmp  k (am_P p l e R s m args below meth c Q G h0 h' k.2.2.1) := by
  intro pc L S h x y hd  hP
  exact ⟨hP.1, fun H locs ls dy lr => W.lcmp hc.1 hc.2.1 hd (hP.2 H locs ls dy lr)⟩
theorem am_s_dup (hc : am_X G d k h0 h' p R s m args meth c) : am_r_dup  k (am_P p l e R s m args below meth c Q G h0 h' k.2.2.1) := by
  intro pc L S h v hd hv hP
  exact ⟨hP.1, fun H locs ls dy lr => lv_dup hc.1 hc.2.1 hd (by rw [am_cv_cat]; exact hv) (hP.2 H locs ls dy lr)⟩
theorem am_s_pop (hc : am_X G d k h0 h' p R s m args meth c) : am_r_pop  k (am_P p l e R s m args below meth c Q G h0 h' k.2.2.1) := by
  intro pc L S h v hd hv hP
  exact ⟨hP.1, fun H locs ls dy lr => lv_pop hc.1 hc.2.1 hd (by rw [am_cv_cat]; exact hv) (hP.2 H locs ls dy lr)⟩
theorem am_s_dup2 (hc : am_X G d k h0 h' p R s m args meth c) : am_r_dup2  k (am_P p l e R s m args below meth c Q G h0 h' k.2.2.1) := by
  intro pc L S h v w hd hv hw hP
  exact ⟨hP.1, fun H locs ls dy lr => lv_dup2_11 hc.1 hc.2.1 hd (by rw [am_cv_cat]; exact hv) (by rw [am_cv_cat]; exact hw) (hP.2 H locs ls dy lr)⟩
theorem am_s_if_eq (hc : am_X G d k h0 h' p R s m args meth c) : am_r_if_eq  k (am_P p l e R s m args below meth c Q G h0 h' k.2.2.1) := by
  intro pc L S h x off tgt hd ht hT hF
  refine ⟨?_, fun H locs ls dy lr => lv_if_eq hc.1 hc.2.1 hd ht (fun q => (hT q).2 H locs ls dy lr) (fun q => (hF q).2 H locs ls dy lr)⟩
  by_cases q : x = 0
  · exact (hT q).1
  · exact (hF q).1
theorem am_s_icmp_eq (hc : am_X G d k h0 h' p R s m args meth c) : am_r_icmp_eq  k (am_P p l e R s m args below meth c Q G h0 h' k.2.2.1) := by
  intro pc L S h x y off tgt hd ht hT hF
  refine ⟨?_, fun H locs ls dy lr => lv_icmp_eq hc.1 hc.2.1 hd ht (fun q => (hT q).2 H locs ls dy lr) (fun q => (hF q).2 H locs ls dy lr)⟩
  by_cases q : x = y
  · exact (hT q).1
  · exact (hF q).1
theorem am_s_if_ne (hc : am_X G d k h0 h' p R s m args meth c) : am_r_if_ne  k (am_P p l e R s m args below meth c Q G h0 h' k.2.2.1) := by
  intro pc L S h x off tgt hd ht hT hF
  refine ⟨?_, fun H locs ls dy lr => lv_if_ne hc.1 hc.2.1 hd ht (fun q => (hT q).2 H locs ls dy lr) (fun q => (hF q).2 H locs ls dy lr)⟩
  by_cases q : x = 0
  · exact (hF q).1
  · exact (hT q).1
theorem am_s_icmp_ne (hc : am_X G d k h0 h' p R s m args meth c) : am_r_icmp_ne  k (am_P p l e R s m args below meth c Q G h0 h' k.2.2.1) := by
  intro pc L S h x y off tgt hd ht hT hF
  refine ⟨?_, fun H locs ls dy lr => lv_icmp_ne hc.1 hc.2.1 hd ht (fun q => (hT q).2 H locs ls dy lr) (fun q => (hF q).2 H locs ls dy lr)⟩
  by_cases q : x = y
  · exact (hF q).1
  · exact (hT q).1
theorem am_s_if_lt (hc : am_X G d k h0 h' p R s m args meth c) : am_r_if_lt  k (am_P p l e R s m args below meth c Q G h0 h' k.2.2.1) := by
  intro pc L S h x off tgt hd ht hT hF
  refine ⟨?_, fun H locs ls dy lr => lv_if_lt hc.1 hc.2.1 hd ht (fun q => (hT q).2 H locs ls dy lr) (fun q => (hF q).2 H locs ls dy lr)⟩
  by_cases q : x < 0
  · exact (hT q).1
  · exact (hF q).1
theorem am_s_icmp_lt (hc : am_X G d k h0 h' p R s m args meth c) : am_r_icmp_lt  k (am_P p l e R s m args below meth c Q G h0 h' k.2.2.1) := by
  intro pc L S h x y off tgt hd ht hT hF
  refine ⟨?_, fun H locs ls dy lr => lv_icmp_lt hc.1 hc.2.1 hd ht (fun q => (hT q).2 H locs ls dy lr) (fun q => (hF q).2 H locs ls dy lr)⟩
  by_cases q : x < y
  · exact (hT q).1
  · exact (hF q).1
theorem am_s_if_ge (hc : am_X G d k h0 h' p R s m args meth c) : am_r_if_ge  k (am_P p l e R s m args below meth c Q G h0 h' k.2.2.1) := by
  intro pc L S h x off tgt hd ht hT hF
  refine ⟨?_, fun H locs ls dy lr => lv_if_ge hc.1 hc.2.1 hd ht (fun q => (hT q).2 H locs ls dy lr) (fun q => (hF q).2 H locs ls dy lr)⟩
  by_cases q : 0 ≤ x
  · exact (hT q).1
  · exact (hF q).1
theorem am_s_icmp_ge (hc : am_X G d k h0 h' p R s m args meth c) : am_r_icmp_ge  k (am_P p l e R s m args below meth c Q G h0 h' k.2.2.1) := by
  intro pc L S h x y off tgt hd ht hT hF
  refine ⟨?_, fun H locs ls dy lr => lv_icmp_ge hc.1 hc.2.1 hd ht (fun q => (hT q).2 H locs ls dy lr) (fun q => (hF q).2 H locs ls dy lr)⟩
  by_cases q : y ≤ x
  · exact (hT q).1
  · exact (hF q).1
theorem am_s_if_gt (hc : am_X G d k h0 h' p R s m args meth c) : am_r_if_gt  k (am_P p l e R s m args below meth c Q G h0 h' k.2.2.1) := by
  intro pc L S h x off tgt hd ht hT hF
  refine ⟨?_, fun H locs ls dy lr => lv_if_gt hc.1 hc.2.1 hd ht (fun q => (hT q).2 H locs ls dy lr) (fun q => (hF q).2 H locs ls dy lr)⟩
  by_cases q : 0 < x
  · exact (hT q).1
  · exact (hF q).1
theorem am_s_icmp_gt (hc : am_X G d k h0 h' p R s m args meth c) : am_r_icmp_gt  k (am_P p l e R s m args below meth c Q G h0 h' k.2.2.1) := by
  intro pc L S h x y off tgt hd ht hT hF
  refine ⟨?_, fun H locs ls dy lr => lv_icmp_gt hc.1 hc.2.1 hd ht (fun q => (hT q).2 H locs ls dy lr) (fun q => (hF q).2 H locs ls dy lr)⟩
  by_cases q : y < x
  · exact (hT q).1
  · exact (hF q).1
theorem am_s_if_le (hc : am_X G d k h0 h' p R s m args meth c) : am_r_if_le  k (am_P p l e R s m args below meth c Q G h0 h' k.2.2.1) := by
  intro pc L S h x off tgt hd ht hT hF
  refine ⟨?_, fun H locs ls dy lr => lv_if_le hc.1 hc.2.1 hd ht (fun q => (hT q).2 H locs ls dy lr) (fun q => (hF q).2 H locs ls dy lr)⟩
  by_cases q : x ≤ 0
  · exact (hT q).1
  · exact (hF q).1
theorem am_s_icmp_le (hc : am_X G d k h0 h' p R s m args meth c) : am_r_icmp_le  k (am_P p l e R s m args below meth c Q G h0 h' k.2.2.1) := by
  intro pc L S h x y off tgt hd ht hT hF
  refine ⟨?_, fun H locs ls dy lr => lv_icmp_le hc.1 hc.2.1 hd ht (fun q => (hT q).2 H locs ls dy lr) (fun q => (hF q).2 H locs ls dy lr)⟩
  by_cases q : x ≤ y
  · exact (hT q).1
  · exact (hF q).1
theorem am_s_goto (hc : am_X G d k h0 h' p R s m args meth c) : am_r_goto  k (am_P p l e R s m args below meth c Q G h0 h' k.2.2.1) := by
  intro pc L S h off tgt hd ht hP
  exact ⟨hP.1, fun H locs ls dy lr => lv_goto hc.1 hc.2.1 hd ht (hP.2 H locs ls dy lr)⟩
theorem am_s_tableIn (hc : am_X G d k h0 h' p R s m args meth c) : am_r_tableIn  k (am_P p l e R s m args below meth c Q G h0 h' k.2.2.1) := by
  intro pc L S h x dflt lo hi offs len off tgt hd h1 h2 ho ht hP
  exact ⟨hP.1, fun H locs ls dy lr => lv_tableIn hc.1 hc.2.1 hd h1 h2 ho ht (hP.2 H locs ls dy lr)⟩
theorem am_s_tableOut (hc : am_X G d k h0 h' p R s m args meth c) : am_r_tableOut  k (am_P p l e R s m args below meth c Q G h0 h' k.2.2.1) := by
  intro pc L S h x dflt lo hi offs len tgt hd h1 ht hP
  exact ⟨hP.1, fun H locs ls dy lr => lv_tableOut hc.1 hc.2.1 hd h1 ht (hP.2 H locs ls dy lr)⟩
theorem am_s_ldc (hc : am_X G d k h0 h' p R s m args meth c) : am_r_ldc  k (am_P p l e R s m args below meth c Q G h0 h' k.2.2.1) := by
  intro pc L S h idx v hd hw hP
  exact ⟨hP.1, fun H locs ls dy lr => lv_ldc hc.1 hc.2.1 hc.2.2.2.1 (hc.2.2.2.2.1 _ hw) hd (hP.2 H locs ls dy lr)⟩
theorem am_s_ldc_w (hc : am_X G d k h0 h' p R s m args meth c) : am_r_ldc_w  k (am_P p l e R s m args below meth c Q G h0 h' k.2.2.1) := by
  intro pc L S h idx v hd hw hP
  exact ⟨hP.1, fun H locs ls dy lr => lv_ldcw hc.1 hc.2.1 hc.2.2.2.1 (hc.2.2.2.2.1 _ hw) hd (hP.2 H locs ls dy lr)⟩
theorem am_s_ldc2 (hc : am_X G d k h0 h' p R s m args meth c) : am_r_ldc2  k (am_P p l e R s m args below meth c Q G h0 h' k.2.2.1) := by
  intro pc L S h idx v hd hw hP
  exact ⟨hP.1, fun H locs ls dy lr => lv_ldc2 hc.1 hc.2.1 hc.2.2.2.1 (hc.2.2.2.2.1 _ hw) hd (hP.2 H locs ls dy lr)⟩
theorem am_s_getLet (hc : am_X G d k h0 h' p R s m args meth c) : am_r_getLet  k (am_P p l e R s m args below meth c Q G h0 h' k.2.2.1) := by
  intro pc L S h idx host hd hw hP
  exact ⟨hP.1, fun H locs ls dy lr => va_getsN hc.1 hc.2.1 hc.2.2.2.2.2.1.2.2.2.2.1 dy.2.2.1 hc.2.2.2.1 (va_Nw.use rfl (hc.2.2.2.2.2.1.2.2.2.2.2.2.1 _ hw)) (fun _ h9 => h9) hd (hP.2 H locs ls dy lr)⟩
theorem am_s_getf (hc : am_X G d k h0 h' p R s m args meth c) : am_r_getf  k (am_P p l e R s m args below meth c Q G h0 h' k.2.2.1) := by
  intro pc L S h idx ci j a fs v hd hok hk hv hP
  obtain ⟨C, T, N, ty, ⟨k1, k2, k3, k4⟩, hj, hw⟩ := hok
  refine ⟨hP.1, fun H locs ls dy lr => ?_⟩
  exact va_get (D := G.1) (C := C) (T := T) (N := N) hc.1 hc.2.1 hc.2.2.2.2.1 k2 hc.2.2.2.1 hc.2.2.2.2.2.1.1 dy.2.1 a (am_ws_at hk) k1 j hj (hc.2.2.2.2.1 _ hw) (fun _ h9 => h9) (by simp [hv]) hd (hP.2 H locs ls dy lr)
theorem am_s_putI (hc : am_X G d k h0 h' p R s m args meth c) : am_r_putI  k (am_P p l e R s m args below meth c Q G h0 h' k.2.2.1) := by
  intro pc L S h idx ci j a fs x hd hok hk hl hP
  exact am_put1 hc hd hok hk hl rfl rfl hP
theorem am_s_putJ (hc : am_X G d k h0 h' p R s m args meth c) : am_r_putJ  k (am_P p l e R s m args below meth c Q G h0 h' k.2.2.1) := by
  intro pc L S h idx ci j a fs x hd hok hk hl hP
  exact am_put1 hc hd hok hk hl rfl rfl hP
theorem am_s_putF (hc : am_X G d k h0 h' p R s m args meth c) : am_r_putF  k (am_P p l e R s m args below meth c Q G h0 h' k.2.2.1) := by
  intro pc L S h idx ci j a ft fs v hd hok hin hk hl h1 h2 hP
  exact am_put2 hc hd hok hin hk hl (h1 _) (h2 _) hP
theorem am_s_iald (hc : am_X G d k h0 h' p R s m args meth c) : am_r_iald  k (am_P p l e R s m args below meth c Q G h0 h' k.2.2.1) := by
  intro pc L S h a n f i hd hk hi hP
  exact ⟨hP.1, fun H locs ls dy lr => va_iald hc.1 hc.2.1 hc.2.2.2.2.2.1.1 dy.2.1 a 0 (am_ws_at hk) rfl hi hd (hP.2 H locs ls dy lr)⟩
theorem am_s_sald (hc : am_X G d k h0 h' p R s m args meth c) : am_r_sald (am_gN G, am_gx G) k (am_P p l e R s m args below meth c Q G h0 h' k.2.2.1) := by
  intro pc L S h i hd hi hP
  exact ⟨hP.1, fun H locs ls dy lr => va_sld hc.1 hc.2.1 hc.2.2.2.2.2.1.2.1 (Nat.lt_of_lt_of_le hc.2.2.2.2.2.1.2.2.1 hc.2.2.2.2.2.1.2.2.2.1) (Nat.not_le.mpr hc.2.2.2.2.2.1.2.2.1) dy.2.2.1 hi hd (hP.2 H locs ls dy lr)⟩
theorem am_s_slen (hc : am_X G d k h0 h' p R s m args meth c) : am_r_slen (am_gN G, am_gx G) k (am_P p l e R s m args below meth c Q G h0 h' k.2.2.1) := by
  intro pc L S h hd hP
  exact ⟨hP.1, fun H locs ls dy lr => va_slen hc.1 hc.2.1 hc.2.2.2.2.2.1.2.1 (Nat.lt_of_lt_of_le hc.2.2.2.2.2.1.2.2.1 hc.2.2.2.2.2.1.2.2.2.1) (Nat.not_le.mpr hc.2.2.2.2.2.1.2.2.1) dy.2.2.1 hd (hP.2 H locs ls dy lr)⟩
theorem am_s_letld (hc : am_X G d k h0 h' p R s m args meth c) : am_r_letld  k (am_P p l e R s m args below meth c Q G h0 h' k.2.2.1) := by
  intro pc L S h i hd hi hP
  refine ⟨hP.1, fun H locs ls dy lr => ?_⟩
  obtain ⟨cell, t1, t2, t3, t4, t5, t6, t7⟩ := hc.2.2.2.2.2.1.2.2.2.2.2.1
  have hlt : i.toNatClampNeg < 6 := Nat.not_le.mp fun q => hi (Or.inr q)
  have hl := (Array.getElem?_eq_some_iff.mp t1).1
  exact W.iald (v := .int (am_let i.toNatClampNeg)) hc.1 hc.2.1 (a := am_gl G) (by rw [dy.2.2.1.2.1 _ hl t7]; exact t1) t2 t3 (fun q => q.elim (fun q => hi (Or.inl q)) (fun q => by omega)) (t6 _ hlt) rfl rfl hd (hP.2 H locs ls dy lr)
theorem am_s_bald (hc : am_X G d k h0 h' p R s m args meth c) : am_r_bald  k (am_P p l e R s m args below meth c Q G h0 h' k.2.2.1) := by
  intro pc L S h a n f i hd hk hi hP
  exact ⟨hP.1, fun H locs ls dy lr => va_bald hc.1 hc.2.1 hc.2.2.2.2.2.1.1 dy.2.1 a 1 (am_ws_at hk) rfl hi hd (hP.2 H locs ls dy lr)⟩
theorem am_s_lald (hc : am_X G d k h0 h' p R s m args meth c) : am_r_lald  k (am_P p l e R s m args below meth c Q G h0 h' k.2.2.1) := by
  intro pc L S h a n f i hd hk hi hP
  exact ⟨hP.1, fun H locs ls dy lr => va_lald hc.1 hc.2.1 hc.2.2.2.2.2.1.1 dy.2.1 a 2 (am_ws_at hk) rfl hi hd (hP.2 H locs ls dy lr)⟩
theorem am_s_aald (hc : am_X G d k h0 h' p R s m args meth c) : am_r_aald  k (am_P p l e R s m args below meth c Q G h0 h' k.2.2.1) := by
  intro pc L S h a t n q f i hd hk ht hi hq hP
  refine ⟨hP.1, fun H locs ls dy lr => ?_⟩
  have hlt : i.toNatClampNeg < n := Nat.not_le.mp fun q => hi (Or.inr q)
  have hcell := dy.2.1 a _ (am_ws_at hk)
  have ht1 : (am_tys (am_gA G))[t]? = some (am_gA G t, am_ty t) := by
    obtain ⟨ha, hb⟩ := ht
    match t, ha, hb with
    | 3, _, _ => rfl
    | 4, _, _ => rfl
    | 5, _, _ => rfl
    | 6, _, _ => rfl
    | 7, _, _ => rfl
  have ht2 : (am_ty t).isReference = true := by
    obtain ⟨ha, hb⟩ := ht
    match t, ha, hb with
    | 3, _, _ => rfl
    | 4, _, _ => rfl
    | 5, _, _ => rfl
    | 6, _, _ => rfl
    | 7, _, _ => rfl
  refine W.aald (v := .ref (am_gf G q)) (ty := am_ty t) hc.1 hc.2.1 (a := am_gB G + a) hcell ((hc.2.2.2.2.2.1.1.2 t _ ht1).1 n (fun j => va_rf ((f j).map (am_gf G)))) ht2 (fun q => by cases q) (by show ¬ (i < 0 ∨ (arrV _ _ _).slots.size ≤ _); rw [arrV_size]; exact hi) (by show (arrV (am_gA G t) n (fun j => va_rf ((f j).map (am_gf G)))).slots[_]? = _; rw [arrV_read _ _ hlt, hq]; rfl) rfl rfl hd (hP.2 H locs ls dy lr)
theorem am_s_iast (hc : am_X G d k h0 h' p R s m args meth c) : am_r_iast  k (am_P p l e R s m args below meth c Q G h0 h' k.2.2.1) := by
  intro pc L S h a n f i x hd hk hi hP
  refine am_set hk (by rfl) hP fun H locs ls dy lr kk => ?_
  refine W.iast hc.1 hc.2.1 (a := am_gB G + a) (dy.2.1 a _ (am_ws_at hk)) ((hc.2.2.2.2.2.1.1.2 0 _ rfl).1 n (fun j => .int (f j))) (fun q => by cases q) (by show ¬ (i < 0 ∨ (arrV _ _ _).slots.size ≤ _); rw [arrV_size]; exact hi) rfl rfl hd fun H1 e z oq => ?_
  refine kk H1 i.toNatClampNeg ?_ z oq
  show H1[am_gB G + a]? = some (vp_cell _ _)
  rw [e]
  show some ((vp_cell _ (n, .inl f)).setSlot _ _) = some (vp_cell _ (n, .inl (upd f i.toNatClampNeg x)))
  rw [vp_cell_i, vp_cell_i, arrV_store]
  congr 2
  funext q
  by_cases hq : q = i.toNatClampNeg
  · subst hq
    simp [updV, upd]
  · simp [updV, upd, hq]
theorem am_s_bast (hc : am_X G d k h0 h' p R s m args meth c) : am_r_bast  k (am_P p l e R s m args below meth c Q G h0 h' k.2.2.1) := by
  intro pc L S h a n f i x hd hk hi hP
  refine am_set hk (by rfl) hP fun H locs ls dy lr kk => ?_
  refine W.bast hc.1 hc.2.1 (a := am_gB G + a) (dy.2.1 a _ (am_ws_at hk)) ((hc.2.2.2.2.2.1.1.2 1 _ rfl).1 n (fun j => .int (f j))) (fun q => by cases q) (by show ¬ (i < 0 ∨ (arrV _ _ _).slots.size ≤ _); rw [arrV_size]; exact hi) rfl rfl hd fun H1 e z oq => ?_
  refine kk H1 i.toNatClampNeg ?_ z oq
  show H1[am_gB G + a]? = some (vp_cell _ _)
  rw [e]
  show some ((vp_cell _ (n, .inl f)).setSlot _ _) = some (vp_cell _ (n, .inl (upd f i.toNatClampNeg (vp_nar .byte x))))
  rw [vp_cell_i, vp_cell_i, arrV_store]
  congr 2
  funext q
  by_cases hq : q = i.toNatClampNeg
  · subst hq
    simp [updV, upd, vp_nar]
    try rfl
  · simp [updV, upd, hq]
theorem am_s_last (hc : am_X G d k h0 h' p R s m args meth c) : am_r_last  k (am_P p l e R s m args below meth c Q G h0 h' k.2.2.1) := by
  intro pc L S h a n f i x hd hk hi hP
  refine am_set hk (by rfl) hP fun H locs ls dy lr kk => ?_
  refine W.last hc.1 hc.2.1 (a := am_gB G + a) (dy.2.1 a _ (am_ws_at hk)) ((hc.2.2.2.2.2.1.1.2 2 _ rfl).1 n (fun j => .long (f j))) (fun q => by cases q) (by show ¬ (i < 0 ∨ (arrV _ _ _).slots.size ≤ _); rw [arrV_size]; exact hi) rfl rfl hd fun H1 e z oq => ?_
  refine kk H1 i.toNatClampNeg ?_ z oq
  show H1[am_gB G + a]? = some (vp_cell _ _)
  rw [e]
  show some ((vp_cell _ (n, .inr (.inl f))).setSlot _ _) = some (vp_cell _ (n, .inr (.inl (vp_updL f i.toNatClampNeg x))))
  rw [vp_cell_l, vp_cell_l, arrV_store]
  congr 2
  funext q
  by_cases hq : q = i.toNatClampNeg
  · subst hq
    simp [updV, vp_updL]
  · simp [updV, vp_updL, hq]
theorem am_s_aast (hc : am_X G d k h0 h' p R s m args meth c) : am_r_aast  k (am_P p l e R s m args below meth c Q G h0 h' k.2.2.1) := by
  intro pc L S h a t n b ci vs f i hd hk ht hb hcl hin hP
  obtain ⟨C, T, N, ty, ⟨k1, k2, k3, k4⟩, hty⟩ := hcl
  refine am_set hk (by rfl) hP fun H locs ls dy lr kk => ?_
  have hK := hc.2.2.2.2.2.1.1
  have ht1 : (am_tys (am_gA G))[t]? = some (am_gA G t, .object C) := by
    rw [← hty]
    match t, ht with
    | 0, _ => rfl
    | 1, _ => rfl
    | 2, _ => rfl
    | 3, _ => rfl
    | 4, _ => rfl
    | 5, _ => rfl
    | 6, _ => rfl
    | 7, _ => rfl
  have hlt : i.toNatClampNeg < n := Nat.not_le.mp fun q => hin (Or.inr q)
  have hi0 : ¬ i < 0 := fun q => hin (Or.inl q)
  obtain ⟨r', hr', cellV, g1, g2, g3, -⟩ := dy.2.1 b _ (am_ws_at hb)
  have hcls := (hK.1 ci _ k1).2
  obtain ⟨kA, comp, z1, z2, z3, -⟩ := (hK.2 t _ ht1).2
  have hcomp : comp = G.1.1 ci := Option.some.inj (z3.symm.trans hcls.1)
  subst hcomp
  obtain ⟨kC, hkC, -⟩ := hcls.2
  refine W.aast hc.1 hc.2.1 (a := am_gB G + a) (v := am_gB G + b) (dy.2.1 a _ (am_ws_at hk)) (fun q h => by cases h) (fun h => by cases h) z1 z2 rfl hkC ⟨hi0, by show _ < (arrV _ _ _).slots.size; rw [arrV_size]; exact hlt⟩ g1 (fun q h => by rw [g3] at h; cases h) (by rw [g2]; exact hkC) (by rw [g2]; exact va_assign hcls) rfl rfl hd fun H1 e z oq => ?_
  refine kk H1 i.toNatClampNeg ?_ z oq
  show H1[am_gB G + a]? = some (vp_cell _ _)
  rw [e]
  show some ((vp_cell _ (n, .inr (.inr (.inr (.inr (fun j => (f j).map (am_gf G))))))).setSlot _ _) = some (vp_cell _ (n, .inr (.inr (.inr (.inr (fun j => (va_up f i.toNatClampNeg (some (b + 2)) j).map (am_gf G)))))))
  rw [vp_cell_q, vp_cell_q, arrV_store]
  congr 2
  funext q
  by_cases hq : q = i.toNatClampNeg
  · subst hq
    simp [updV, va_up, va_rf, am_pv]
  · simp [updV, va_up, hq]
theorem am_s_alen (hc : am_X G d k h0 h' p R s m args meth c) : am_r_alen  k (am_P p l e R s m args below meth c Q G h0 h' k.2.2.1) := by
  intro pc L S h a t x hd hk ht hP
  refine ⟨hP.1, fun H locs ls dy lr => ?_⟩
  have ht1 : (am_tys (am_gA G))[t]? = some (am_gA G t, am_ty t) := by
    match t, ht with
    | 0, _ => rfl
    | 1, _ => rfl
    | 2, _ => rfl
    | 3, _ => rfl
    | 4, _ => rfl
    | 5, _ => rfl
    | 6, _ => rfl
    | 7, _ => rfl
  refine va_alen hc.1 hc.2.1 hc.2.2.2.2.2.1.1 dy.2.1 a t (am_ws_at hk) ht1 (v := Int32.ofNat x.1) ?_ hd (hP.2 H locs ls dy lr)
  obtain ⟨n, f | f | f | f | f⟩ := x <;> rfl
theorem am_s_new (hc : am_X G d k h0 h' p R s m args meth c) : am_r_new  k (am_P p l e R s m args below meth c Q G h0 h' k.2.2.1) := by
  intro pc L S h idx ci fs hd hok hP
  obtain ⟨C, T, N, ty, ⟨k1, k2, k3, k4⟩, w1, w2, w3, hN, hfs⟩ := hok
  obtain ⟨⟨m1, m2⟩, hP⟩ := hP
  rw [List.length_append] at m1
  rw [am_sz_app] at m2
  have e9 : am_sz [(.inr (ci, fs) : am_C)] = N := by simp [am_sz, am_sc, hN]
  rw [e9] at m2
  have e8 : [(.inr (ci, fs) : am_C)].length = 1 := rfl
  rw [e8] at m1
  refine ⟨⟨by omega, by omega⟩, fun H locs ls dy lr => ?_⟩
  have hts := hc.2.2.2.2.1
  have hKn := hc.2.2.2.2.2.1.1.1 ci _ k1
  have r1 := hc.2.2.2.2.2.2.2.2.2.1
  have r2 := hc.2.2.2.2.2.2.2.2.2.2
  have d4 := dy.2.2.2.1
  have d5 := dy.2.2.2.2
  refine W.newcK hc.1 hc.2.1 hc.2.2.2.1 (hts _ w1) (hts _ w2) (hts _ w3) rfl hd (by omega) (by omega) hKn.2.1 rfl fun H1 kC hkC e1 z1 o1 => ?_
  have := hP H1 locs ls (dy.push (x := .inr (ci, fs)) ⟨_, k1, by
    have hb := (u_born ty hts k2 hKn hkC e1 k3)
    rw [dy.1] at hb
    refine hb.to (fun j hj => ?_)
    have := hfs j hj
    simp only [vp_V, List.getD_eq_getElem?_getD, List.getElem?_map, this, Option.map_some, Option.getD_some]
    cases ty j <;> rfl⟩ z1 o1) lr
  rw [List.length_append, am_sz_app, e9, e8] at this
  rw [show h.length + 1 - h0.length = h.length - h0.length + 1 by omega, show am_sz h + N - am_sz h0 = am_sz h - am_sz h0 + N by omega] at this
  rw [dy.1]
  exact this
theorem am_s_newa (hc : am_X G d k h0 h' p R s m args meth c) : am_r_newa  k (am_P p l e R s m args below meth c Q G h0 h' k.2.2.1) := by
  intro pc L S h at_ t N x0 n hd hat ht hw hn hN hb hx hP
  obtain ⟨⟨m1, m2⟩, hP⟩ := hP
  rw [List.length_append] at m1
  rw [am_sz_app] at m2
  have e9 : am_sz [(.inl (t, x0) : am_C)] = N := by subst hx; simp only [am_sz, am_sc]; split <;> rfl
  rw [e9] at m2
  have e8 : [(.inl (t, x0) : am_C)].length = 1 := rfl
  rw [e8] at m1
  refine ⟨⟨by omega, by omega⟩, fun H locs ls dy lr => ?_⟩
  have hts := hc.2.2.2.2.1
  have r1 := hc.2.2.2.2.2.2.2.2.2.1
  have r2 := hc.2.2.2.2.2.2.2.2.2.2
  have d4 := dy.2.2.2.1
  have d5 := dy.2.2.2.2
  refine va_newaK hc.1 hc.2.1 (by rw [hat]; exact hts _ hw) rfl hd rfl hn hN (by rw [hat]; match t, ht with
    | 0, _ => simp [am_ty, componentBytes]; omega
    | 1, _ => simp [am_ty, componentBytes]; omega
    | 2, _ => simp [am_ty, componentBytes]; omega) (by omega) (by omega) rfl fun H1 cA e1 z1 o1 hAr hNm => ?_
  rw [hat] at e1 hNm
  have hA : cA = am_gA G t := by
    match t, ht with
    | 0, _ => exact Option.some.inj (hNm.symm.trans (hc.2.2.2.2.2.1.1.2 0 _ rfl).2)
    | 1, _ => exact Option.some.inj (hNm.symm.trans (hc.2.2.2.2.2.1.1.2 1 _ rfl).2)
    | 2, _ => exact Option.some.inj (hNm.symm.trans (hc.2.2.2.2.2.1.1.2 2 _ rfl).2)
  subst hA
  have := hP H1 locs ls (dy.push (x := .inl (t, x0)) (by
    show H1[am_gB G + h.length]? = some (vp_cell _ _)
    rw [← dy.1, e1, hx]
    match t, ht with
    | 0, _ => rfl
    | 1, _ => rfl
    | 2, _ => rfl) z1 o1) lr
  rw [List.length_append, am_sz_app, e9, e8] at this
  rw [show h.length + 1 - h0.length = h.length - h0.length + 1 by omega, show am_sz h + N - am_sz h0 = am_sz h - am_sz h0 + N by omega] at this
  rw [dy.1]
  exact this
theorem am_s_anew (hc : am_X G d k h0 h' p R s m args meth c) : am_r_anew  k (am_P p l e R s m args below meth c Q G h0 h' k.2.2.1) := by
  intro pc L S h idx t N C n hd hty ht hw hn hN hb hP
  obtain ⟨⟨m1, m2⟩, hP⟩ := hP
  rw [List.length_append] at m1
  rw [am_sz_app] at m2
  have e9 : am_sz [(.inl (t, (N, .inr (.inr (.inr (.inr (fun _ => none)))))) : am_C)] = N := by simp [am_sz, am_sc]
  rw [e9] at m2
  have e8 : [(.inl (t, (N, .inr (.inr (.inr (.inr (fun _ => none)))))) : am_C)].length = 1 := rfl
  rw [e8] at m1
  refine ⟨⟨by omega, by omega⟩, fun H locs ls dy lr => ?_⟩
  have hts := hc.2.2.2.2.1
  have r1 := hc.2.2.2.2.2.2.2.2.2.1
  have r2 := hc.2.2.2.2.2.2.2.2.2.2
  have d4 := dy.2.2.2.1
  have d5 := dy.2.2.2.2
  have hao : va_AO C s := by
    obtain ⟨C2, f1, f2⟩ := hc.2.2.2.2.2.1.2.2.2.2.2.2.2.1 (t - 3) (by omega)
    rw [show t - 3 + 3 = t by omega, hty] at f1
    cases f1
    exact f2
  have ht1 : (am_tys (am_gA G))[t]? = some (am_gA G t, .object C) := by
    rw [← hty]
    obtain ⟨ha, hb⟩ := ht
    match t, ha, hb with
    | 3, _, _ => rfl
    | 4, _, _ => rfl
    | 5, _, _ => rfl
    | 6, _, _ => rfl
  subst hN
  refine W.anew hc.1 hc.2.1 hc.2.2.2.1 (hts _ hw) (va_AO.use hao) rfl hd rfl hn (by omega) (by omega) (by omega) fun cA kA comp f1 f2 f3 f4 => ?_
  have hA : cA = am_gA G t := by
    obtain ⟨kA2, comp2, z1, z2, z3, z4⟩ := (hc.2.2.2.2.2.1.1.2 t _ ht1).2
    exact Option.some.inj (f1.symm.trans z4)
  subst hA
  generalize hH1 : H.push ({ cls := am_gA G t, slots := Array.replicate n.toNatClampNeg .null, vm := .none } : Cell) = H1
  have z1 : H1.size = H.size + 1 := by rw [← hH1, Array.size_push]
  have e1 : H1[H.size]? = some (arrV (am_gA G t) n.toNatClampNeg (fun _ => .null)) := by rw [← hH1, Array.getElem?_push_size, ← arrV_new]
  have o1 : ∀ q : Nat, q < H.size → H1[q]? = H[q]? := fun q hq => by rw [← hH1, Array.getElem?_push, if_neg (Nat.ne_of_lt hq)]
  have := hP H1 locs ls (dy.push (x := .inl (t, (n.toNatClampNeg, .inr (.inr (.inr (.inr (fun _ => none))))))) (by
    show H1[am_gB G + h.length]? = some (vp_cell _ _)
    rw [← dy.1, e1]
    rfl) z1 o1) lr
  rw [List.length_append, am_sz_app, e9, e8] at this
  rw [show h.length + 1 - h0.length = h.length - h0.length + 1 by omega, show am_sz h + n.toNatClampNeg - am_sz h0 = am_sz h - am_sz h0 + n.toNatClampNeg by omega] at this
  rw [dy.1]
  exact this
theorem am_s_objI (hc : am_X G d k h0 h' p R s m args meth c) : am_r_objI  k (am_P p l e R s m args below meth c Q G h0 h' k.2.2.1) := by
  intro pc L S h idx a hd hok hcat hP
  refine ⟨hP.1, fun H locs ls dy lr => ?_⟩
  have hts := hc.2.2.2.2.1
  have hfr := hc.2.2.2.2.2.2.2.1
  have hlo := hc.2.2.2.2.2.2.2.2.1
  have hrm := lv_room (m := m) (pc := pc) (ls := ls) (rest := (Value.ref a :: S).map (am_cv (am_gf G))) (st := S.map (am_cv (am_gf G))) (by rw [am_cat_map]; exact hcat)
  refine W.objInit hc.1 hc.2.1 hc.2.2.2.1 (hts _ hok.1) (hts _ hok.2.1) (hts _ hok.2.2) rfl (lr.1.trans hc.2.2.1.symm) rfl hd (by omega) (by omega) (hP.2 H locs ls dy lr)
theorem am_s_callV (hc : am_X G d k h0 h' p R s m args meth c) (hC : am_CS l G d Cr) : am_r_callV Cr k (am_P p l e R s m args below meth c Q G h0 h' k.2.2.1) := by
  intro pc L S h idx y n ci a As fs r1 h1 S0 hd hok hn hS0 hk hcat hcr hP
  subst hS0
  obtain ⟨⟨m1, m2⟩, hM⟩ := hC y _ h r1 h1 hcr
  obtain ⟨⟨p1, p2⟩, hP⟩ := hP
  refine ⟨⟨Nat.le_trans m1 p1, Nat.le_trans m2 p2⟩, fun H locs ls dy lr => ?_⟩
  have hts := hc.2.2.2.2.1
  have hfr := hc.2.2.2.2.2.2.2.1
  have hlo := hc.2.2.2.2.2.2.2.2.1
  have hce := hc.2.2.2.2.2.2.2.2.2.1
  have hsl := hc.2.2.2.2.2.2.2.2.2.2
  have d4 := dy.2.2.2.1
  have d5 := dy.2.2.2.2
  obtain ⟨ok, w1, w2, w3, w4, T, N, ty, kk⟩ := hok
  obtain ⟨o1, o2, o3, o4, o5, o6⟩ := ok
  try dsimp only at o4
  have hgood : ∀ w ∈ am_ws0 y, w ∈ am_tb := fun w hw => (List.mem_cons.mp hw).elim (fun q => by rw [q]; exact o2) (fun q => q)
  rw [List.map_append, List.map_reverse]
  refine am_go (r1 := r1) (h := h) (h1 := h1) (va_runV (As := As.map (am_cv (am_gf G))) (rest := S.map (am_cv (am_gf G))) (Ts := am_tb) ⟨hc.1, hc.2.1, hc.2.2.1, hc.2.2.2.1, hts⟩ hM (cwV n hts (am_good (ws := wsV k.1.cls idx y.1.cls y.1 (am_ws0 y)) (fun w hw => by
    simp only [wsV, List.mem_append, List.mem_cons, List.not_mem_nil, or_false] at hw
    rcases hw with (rfl | rfl | rfl | rfl) | hw
    · exact w1
    · exact w2
    · exact w3
    · exact o3
    · exact hgood w hw)) rfl rfl rfl ⟨rfl, o5, o6, w4⟩ ⟨by show d + 1 + 1 ≤ R.frames; omega, by show 8 + (y.2.2.1 + 11) + 64 * (d + 1) ≤ R.locals; omega⟩) ⟨am_W.blind G h _, va_recv hc.2.2.2.2.2.1.1 dy.2.1 (ci := ci) (q0 := a) kk.1 (am_ws_at hk), fun U hU hW => ⟨rfl, am_pre hc dy hU hW⟩⟩ rfl (by rw [List.length_map]; exact hn) lr.1 rfl (lv_room (by rw [am_cat_map]; exact hcat)) hd ⟨by omega, by omega⟩) dy m1 m2 (fun H1 locs1 dy1 => ?_)
  have := hP H1 locs1 ls dy1 lr
  rw [List.map_append] at this
  cases r1 <;> exact this
theorem am_s_callS (hc : am_X G d k h0 h' p R s m args meth c) (hC : am_CS l G d Cr) : am_r_callS Cr k (am_P p l e R s m args below meth c Q G h0 h' k.2.2.1) := by
  intro pc L S h idx y n As r1 h1 S0 hd hok hn hS0 hcat hcr hP
  subst hS0
  obtain ⟨⟨m1, m2⟩, hM⟩ := hC y _ h r1 h1 hcr
  obtain ⟨⟨p1, p2⟩, hP⟩ := hP
  refine ⟨⟨Nat.le_trans m1 p1, Nat.le_trans m2 p2⟩, fun H locs ls dy lr => ?_⟩
  have hts := hc.2.2.2.2.1
  have hfr := hc.2.2.2.2.2.2.2.1
  have hlo := hc.2.2.2.2.2.2.2.2.1
  have hce := hc.2.2.2.2.2.2.2.2.2.1
  have hsl := hc.2.2.2.2.2.2.2.2.2.2
  have d4 := dy.2.2.2.1
  have d5 := dy.2.2.2.2
  obtain ⟨ok, w1, w2, w4⟩ := hok
  obtain ⟨o1, o2, o3, o4, o5, o6⟩ := ok
  try dsimp only at o4
  have hgood : ∀ w ∈ am_ws0 y, w ∈ am_tb := fun w hw => (List.mem_cons.mp hw).elim (fun q => by rw [q]; exact o2) (fun q => q)
  rw [List.map_append, List.map_reverse]
  refine am_go (r1 := r1) (h := h) (h1 := h1) (va_runS (As := As.map (am_cv (am_gf G))) (rest := S.map (am_cv (am_gf G))) (Ts := am_tb) ⟨hc.1, hc.2.1, hc.2.2.1, hc.2.2.2.1, hts⟩ hM (va_cwS n hts (am_good (ws := va_wsS k.1.cls idx y.1 (am_ws0 y)) (fun w hw => by
    simp only [va_wsS, List.mem_append, List.mem_cons, List.not_mem_nil, or_false] at hw
    rcases hw with (rfl | rfl | rfl) | hw
    · exact w1
    · exact w2
    · exact o3
    · exact hgood w hw)) rfl rfl rfl ⟨o5, o6, w4⟩ ⟨by show d + 1 + 1 ≤ R.frames; omega, by show 8 + (y.2.2.1 + 11) + 64 * (d + 1) ≤ R.locals; omega⟩) ⟨am_W.blind G h _, fun U hU hW => ⟨rfl, am_pre hc dy hU hW⟩⟩ rfl (by rw [List.length_map]; exact hn) lr.1 rfl (lv_room (by rw [am_cat_map]; exact hcat)) hd ⟨by omega, by omega⟩) dy m1 m2 (fun H1 locs1 dy1 => ?_)
  have := hP H1 locs1 ls dy1 lr
  rw [List.map_append] at this
  cases r1 <;> exact this
theorem am_s_callSN (hc : am_X G d k h0 h' p R s m args meth c) (hC : am_CS l G d Cr) : am_r_callSN Cr k (am_P p l e R s m args below meth c Q G h0 h' k.2.2.1) := by
  intro pc L S h idx y n As r1 h1 S0 hd hok hn hS0 hcat hcr hP
  subst hS0
  obtain ⟨⟨m1, m2⟩, hM⟩ := hC y _ h r1 h1 hcr
  obtain ⟨⟨p1, p2⟩, hP⟩ := hP
  refine ⟨⟨Nat.le_trans m1 p1, Nat.le_trans m2 p2⟩, fun H locs ls dy lr => ?_⟩
  have hts := hc.2.2.2.2.1
  have hfr := hc.2.2.2.2.2.2.2.1
  have hlo := hc.2.2.2.2.2.2.2.2.1
  have hce := hc.2.2.2.2.2.2.2.2.2.1
  have hsl := hc.2.2.2.2.2.2.2.2.2.2
  have d4 := dy.2.2.2.1
  have d5 := dy.2.2.2.2
  obtain ⟨ok, ⟨host, w1⟩, w2, w4⟩ := hok
  obtain ⟨o1, o2, o3, o4, o5, o6⟩ := ok
  try dsimp only at o4
  have hgood : ∀ w ∈ am_ws0 y, w ∈ am_tb := fun w hw => (List.mem_cons.mp hw).elim (fun q => by rw [q]; exact o2) (fun q => q)
  rw [List.map_append, List.map_reverse]
  refine am_go (r1 := r1) (h := h) (h1 := h1) (va_runSN (As := As.map (am_cv (am_gf G))) (rest := S.map (am_cv (am_gf G))) (Ts := am_tb) ⟨hc.1, hc.2.1, hc.2.2.1, hc.2.2.2.1, hts⟩ hM ⟨va_cnB n hts (am_good hgood) rfl rfl rfl (hc.2.2.2.2.2.1.2.2.2.2.2.2.1 _ w1) (hts _ o3) ⟨o5, o6, w4⟩ ⟨by show d + 1 + 1 ≤ R.frames; omega, by show 8 + (y.2.2.1 + 11) + 64 * (d + 1) ≤ R.locals; omega⟩, hts _ w2, trivial⟩ ⟨am_W.blind G h _, fun U hU hW => ⟨rfl, am_pre hc dy hU hW⟩⟩ rfl (by rw [List.length_map]; exact hn) lr.1 rfl (lv_room (by rw [am_cat_map]; exact hcat)) hd ⟨by omega, by omega⟩) dy m1 m2 (fun H1 locs1 dy1 => ?_)
  have := hP H1 locs1 ls dy1 lr
  rw [List.map_append] at this
  cases r1 <;> exact this
theorem am_s_callI (hc : am_X G d k h0 h' p R s m args meth c) (hC : am_CS l G d Cr) : am_r_callI Cr k (am_P p l e R s m args below meth c Q G h0 h' k.2.2.1) := by
  intro pc L S h idx y n a As r1 h1 S0 hd hok hn hS0 hcat hcr hP
  subst hS0
  obtain ⟨⟨m1, m2⟩, hM⟩ := hC y _ h r1 h1 hcr
  obtain ⟨⟨p1, p2⟩, hP⟩ := hP
  refine ⟨⟨Nat.le_trans m1 p1, Nat.le_trans m2 p2⟩, fun H locs ls dy lr => ?_⟩
  have hts := hc.2.2.2.2.1
  have hfr := hc.2.2.2.2.2.2.2.1
  have hlo := hc.2.2.2.2.2.2.2.2.1
  have hce := hc.2.2.2.2.2.2.2.2.2.1
  have hsl := hc.2.2.2.2.2.2.2.2.2.2
  have d4 := dy.2.2.2.1
  have d5 := dy.2.2.2.2
  obtain ⟨ok, w1, w2, w3, w5, w4⟩ := hok
  obtain ⟨y1, y2, y3, y4⟩ := y
  have w5 : y4 = none := w5
  subst w5
  obtain ⟨o1, o2, o3, o4, o5, o6⟩ := ok
  try dsimp only at o4
  have hgood : ∀ w ∈ am_ws0 (y1, y2, y3, none), w ∈ am_tb := fun w hw => (List.mem_cons.mp hw).elim (fun q => by rw [q]; exact o2) (fun q => q)
  rw [List.map_append, List.map_reverse]
  refine am_go (r1 := r1) (h := h) (h1 := h1) (va_runI (As := As.map (am_cv (am_gf G))) (rest := S.map (am_cv (am_gf G))) (Ts := am_tb) ⟨hc.1, hc.2.1, hc.2.2.1, hc.2.2.2.1, hts⟩ hM (cwI n hts (am_good hgood) rfl rfl rfl (hts _ o3) (hts _ w1) (hts _ w2) w3 ⟨o5, o6, w4⟩ ⟨by show d + 1 + 1 ≤ R.frames; omega, by show 8 + (y3 + 11) + 64 * (d + 1) ≤ R.locals; omega⟩) ⟨am_W.blind G h _, fun U hU hW => ⟨rfl, am_pre hc dy hU hW⟩⟩ rfl (by rw [List.length_map]; exact hn) lr.1 rfl (lv_room (by rw [am_cat_map]; exact hcat)) hd ⟨by omega, by omega⟩) dy m1 m2 (fun H1 locs1 dy1 => ?_)
  have := hP H1 locs1 ls dy1 lr
  rw [List.map_append] at this
  cases r1 <;> exact this
theorem am_s_callIN (hc : am_X G d k h0 h' p R s m args meth c) (hC : am_CS l G d Cr) : am_r_callIN Cr k (am_P p l e R s m args below meth c Q G h0 h' k.2.2.1) := by
  intro pc L S h idx y n a As r1 h1 S0 hd hok hn hS0 hcat hcr hP
  subst hS0
  obtain ⟨⟨m1, m2⟩, hM⟩ := hC y _ h r1 h1 hcr
  obtain ⟨⟨p1, p2⟩, hP⟩ := hP
  refine ⟨⟨Nat.le_trans m1 p1, Nat.le_trans m2 p2⟩, fun H locs ls dy lr => ?_⟩
  have hts := hc.2.2.2.2.1
  have hfr := hc.2.2.2.2.2.2.2.1
  have hlo := hc.2.2.2.2.2.2.2.2.1
  have hce := hc.2.2.2.2.2.2.2.2.2.1
  have hsl := hc.2.2.2.2.2.2.2.2.2.2
  have d4 := dy.2.2.2.1
  have d5 := dy.2.2.2.2
  obtain ⟨ok, ⟨host, w1⟩, w2, w3, w5, w4⟩ := hok
  obtain ⟨y1, y2, y3, y4⟩ := y
  have w5 : y4 = none := w5
  subst w5
  obtain ⟨o1, o2, o3, o4, o5, o6⟩ := ok
  try dsimp only at o4
  have hgood : ∀ w ∈ am_ws0 (y1, y2, y3, none), w ∈ am_tb := fun w hw => (List.mem_cons.mp hw).elim (fun q => by rw [q]; exact o2) (fun q => q)
  rw [List.map_append, List.map_reverse]
  refine am_go (r1 := r1) (h := h) (h1 := h1) (va_runIN (As := As.map (am_cv (am_gf G))) (rest := S.map (am_cv (am_gf G))) (Ts := am_tb) ⟨hc.1, hc.2.1, hc.2.2.1, hc.2.2.2.1, hts⟩ hM ⟨va_cnB n hts (am_good hgood) rfl rfl rfl (hc.2.2.2.2.2.1.2.2.2.2.2.2.1 _ w1) (hts _ o3) ⟨o5, o6, w4⟩ ⟨by show d + 1 + 1 ≤ R.frames; omega, by show 8 + (y3 + 11) + 64 * (d + 1) ≤ R.locals; omega⟩, w3, hts _ w2⟩ ⟨am_W.blind G h _, fun U hU hW => ⟨rfl, am_pre hc dy hU hW⟩⟩ rfl (by rw [List.length_map]; exact hn) lr.1 rfl (lv_room (by rw [am_cat_map]; exact hcat)) hd ⟨by omega, by omega⟩) dy m1 m2 (fun H1 locs1 dy1 => ?_)
  have := hP H1 locs1 ls dy1 lr
  rw [List.map_append] at this
  cases r1 <;> exact this
theorem am_s_acopy (hc : am_X G d k h0 h' p R s m args meth c) : am_r_acopy  k (am_P p l e R s m args below meth c Q G h0 h' k.2.2.1) := by
  intro pc L S h idx a0 a1 n0 n1 f g sp dp n hd hok hk0 hk1 h1 h2 h3 h4 h5 hcat hP
  refine am_sets hk1 (by rfl) hP fun H locs ls dy lr kk => ?_
  have hts := hc.2.2.2.2.1
  have hfr := hc.2.2.2.2.2.2.2.1
  have hlo := hc.2.2.2.2.2.2.2.2.1
  have hK := hc.2.2.2.2.2.1.1
  have nn : ∀ z : Int32, ¬ z < 0 → z.toInt = (z.toNatClampNeg : Int) := by
    intro z hz
    have hz0 : (0 : Int) ≤ z.toInt := by
      have := Int32.not_lt.mp hz
      simpa using Int32.le_iff_toInt_le.mp this
    show z.toInt = ((z.toInt.toNat : Nat) : Int)
    omega
  have hrm := am_cat_map (am_gf G) S
  intro T hT X
  have hc0 : H[am_gB G + a0]? = some (vp_cell (am_gA G 0) (n0, .inl f)) := dy.2.1 a0 _ (am_ws_at hk0)
  have hc1 : H[am_gB G + a1]? = some (vp_cell (am_gA G 0) (n1, .inl g)) := dy.2.1 a1 _ (am_ws_at hk1)
  obtain ⟨-, k0, hkk0, cm0, hkkk0⟩ := (hK.2 0 _ rfl).1 n0 (fun j => .int (f j))
  obtain ⟨-, k1, hkk1, cm1, hkkk1⟩ := (hK.2 0 _ rfl).1 n1 (fun j => .int (g j))
  obtain ⟨vm', X', step⟩ := X.arraycopy hc.1 hc.2.2.2.1 (hts _ hok.1) (hts _ hok.2.1) (hts _ hok.2.2.1) (hts _ hok.2.2.2) (src := am_gB G + a0) (dst := am_gB G + a1) (cs := vp_cell (am_gA G 0) (n0, .inl f)) (cd := vp_cell (am_gA G 0) (n1, .inl g)) (srcPos := sp) (destPos := dp) (n := n) (by rw [hT]; exact hc0) (by rw [hT]; exact hc1)
    (fun _ h => by cases h) (fun _ h => by cases h) (fun h => by cases h) (fun h => by cases h) hkk0 hkk1 hkkk0 hkkk1 (by rfl) h1 h2 h3
    (by rw [nn sp h1, nn n h3]; show ¬ _ > ((arrV (am_gA G 0) n0 (fun j => .int (f j))).slots.size : Int); rw [arrV_size]; omega)
    (by rw [nn dp h2, nn n h3]; show ¬ _ > ((arrV (am_gA G 0) n1 (fun j => .int (g j))).slots.size : Int); rw [arrV_size]; omega)
    (fun vm₁ _ i hi => by
      have e : (vp_cell (am_gA G 0) (n0, .inl f)).slots.getD (sp.toNatClampNeg + i) .null = .int (f (sp.toNatClampNeg + i)) := by
        show (arrV (am_gA G 0) n0 (fun j => .int (f j))).slots.getD _ _ = _
        rw [Array.getD_eq_getD_getElem?, arrV_read _ _ (by omega)]
        rfl
      refine ⟨?_, ?_⟩
      · rw [e]
        rfl
      · rw [e]
        exact trivial)
    (g := F0 m pc ls (.int n :: .int dp :: .ref (am_gB G + a1) :: .int sp :: .ref (am_gB G + a0) :: S.map (am_cv (am_gf G)))) rfl (lr.1.trans hc.2.2.1.symm) (rest := S.map (am_cv (am_gf G))) rfl (by rw [hc.2.1]; exact hd) (by omega) (am_nat hrm hcat hlo)
  have e1 : copied (vp_cell (am_gA G 0) (n0, .inl f)) (vp_cell (am_gA G 0) (n1, .inl g)) sp dp n = vp_cell (am_gA G 0) (n1, .inl (va_cpy f g sp.toNatClampNeg dp.toNatClampNeg n.toNatClampNeg)) := va_copied (fun z => .int z) (am_gA G 0) (am_gA G 0) f g h4
  rw [e1] at X' step
  have hl : am_gB G + a1 < H.size := (Array.getElem?_eq_some_iff.mp hc1).1
  have hheap : ((T.setVm vm').setCell (am_gB G + a1) (vp_cell (am_gA G 0) (n1, .inl (va_cpy f g sp.toNatClampNeg dp.toNatClampNeg n.toNatClampNeg)))).heap = H.setIfInBounds (am_gB G + a1) (vp_cell (am_gA G 0) (n1, .inl (va_cpy f g sp.toNatClampNeg dp.toNatClampNeg n.toNatClampNeg))) := by rw [← hT]; rfl
  obtain ⟨t, a2, b2⟩ := kk _ _ (show (H.setIfInBounds (am_gB G + a1) _)[am_gB G + a1]? = some (vp_cell (am_gA G 0) (n1, .inl (va_cpy f g sp.toNatClampNeg dp.toNatClampNeg n.toNatClampNeg))) by simp [Array.getElem?_setIfInBounds, hl]) (by simp) (fun q hq => by simp [Array.getElem?_setIfInBounds, Ne.symm hq]) (fun q hq => by
      obtain ⟨z, -, hz⟩ := List.mem_map.mp hq
      rw [← hz]) _ hheap X'
  exact ⟨t, step t a2, b2⟩
theorem am_s_ret (hc : am_X G d k h0 h' p R s m args meth c) (hF : am_end p l e R s m args below meth c Q G h0 h' k r) : am_r_ret r h' k (am_P p l e R s m args below meth c Q G h0 h' k.2.2.1) := by
  intro pc L hf ho
  exact ⟨⟨Nat.le_refl _, Nat.le_refl _⟩, fun H locs ls dy lr => hF pc H locs ls hf ho dy⟩
theorem am_s_mna (hc : am_X G d k h0 h' p R s m args meth c) : am_r_mna  k (am_P p l e R s m args below meth c Q G h0 h' k.2.2.1) := by
  intro pc L S h idx N M n q hd hw hw2 hn hq hN hM hb1 hb2 hP
  obtain ⟨⟨m1, m2⟩, hP⟩ := hP
  rw [List.length_append] at m1
  rw [am_sz_app] at m2
  have e7 : ∀ K : Nat, am_sz (List.replicate K (.inl (0, (M, .inl (fun _ => 0))) : am_C)) = K * M := by
    intro K
    induction K with
    | zero => simp [am_sz]
    | succ K ih => rw [List.replicate_succ]; show M + am_sz _ = _; rw [ih, Nat.succ_mul, Nat.add_comm]
  have e9 : am_sz (.inl (7, (N, .inr (.inr (.inr (.inr (fun i => if i < N then some (h.length + 3 + i) else none)))))) :: List.replicate N (.inl (0, (M, .inl (fun _ => 0))) : am_C)) = N + N * M := by show N + am_sz _ = _; rw [e7]
  have e8 : (.inl (7, (N, .inr (.inr (.inr (.inr (fun i => if i < N then some (h.length + 3 + i) else none)))))) :: List.replicate N (.inl (0, (M, .inl (fun _ => 0))) : am_C)).length = 1 + N := by simp [Nat.add_comm]
  rw [e9] at m2
  rw [e8] at m1
  refine ⟨⟨by omega, by omega⟩, fun H locs ls dy lr => ?_⟩
  have hts := hc.2.2.2.2.1
  have hK := hc.2.2.2.2.2.1.1
  have r1 := hc.2.2.2.2.2.2.2.2.2.1
  have r2 := hc.2.2.2.2.2.2.2.2.2.2
  obtain ⟨d1, d2, d3, d4, d5⟩ := dy
  subst hN
  subst hM
  intro T hT X
  obtain ⟨vm₁, cA, comp, -, fA, fC, hO, -, X', step⟩ := Jvm.Stand.multianewarray2F X hc.1 (own := k.1.cls) (index := idx) (ty := .int) hc.2.2.2.1 (hts _ hw) (over_moved (Vm.Alike.refl s.vm) hc.2.2.2.2.2.1.2.2.2.2.2.2.2.2) (hts _ hw2) (g := F0 m pc ls (.int q :: .int n :: S.map (am_cv (am_gf G)))) rfl (by rw [hc.2.1]; exact hd) rfl hn hq (by omega) (by show _ * 4 ≤ _; omega) (by omega) rfl rfl (by omega) (by omega)
  have hA : cA = am_gA G 7 := Option.some.inj (fA.symm.trans (hK.2 7 _ rfl).2)
  have hB : comp = am_gA G 0 := Option.some.inj (fC.symm.trans (hK.2 0 _ rfl).2)
  subst hA
  subst hB
  generalize hF : Jvm.Free.Multi.fill (T.setVm vm₁) (am_gA G 7) (am_gA G 0) n.toNatClampNeg q.toNatClampNeg (defaultValue .int) n.toNatClampNeg = F at X' step
  have hTh : (T.setVm vm₁).heap = H := hT
  obtain ⟨f1, f2, -, -⟩ := Jvm.Free.Multi.fill_facts (T.setVm vm₁) (am_gA G 7) (am_gA G 0) n.toNatClampNeg q.toNatClampNeg (defaultValue .int) n.toNatClampNeg
  rw [hF, hTh] at f1 f2
  have hold : ∀ x : Nat, x < H.size → F.heap[x]? = H[x]? := fun x hx => by
    have := Jvm.Free.Multi.fill_old (T.setVm vm₁) (am_gA G 7) (am_gA G 0) n.toNatClampNeg q.toNatClampNeg (defaultValue .int) (a := x) (by rw [hTh]; exact hx) n.toNatClampNeg
    rw [hF, hTh] at this
    exact this
  have hrow : ∀ j : Nat, j < n.toNatClampNeg → F.heap[H.size + 1 + j]? = some (vp_cell (am_gA G 0) (q.toNatClampNeg, .inl (fun _ => 0))) := fun j hj => by
    have := Jvm.Free.Multi.fill_inner (T.setVm vm₁) (am_gA G 7) (am_gA G 0) n.toNatClampNeg q.toNatClampNeg (defaultValue .int) n.toNatClampNeg j hj
    rw [hF, hTh] at this
    rw [this, vp_cell_i, ← arrV_new]
    rfl
  have hout : Jvm.Free.Multi.outerC (am_gA G 7) n.toNatClampNeg H.size n.toNatClampNeg = vp_cell (am_gA G 7) (n.toNatClampNeg, .inr (.inr (.inr (.inr (fun i => if i < n.toNatClampNeg then some (H.size + 1 + i) else none))))) := by
    rw [vp_cell_q]
    exact am_outer (am_gA G 7) n.toNatClampNeg H.size n.toNatClampNeg
  rw [hout] at f2
  rw [show h.length - h0.length + 1 + n.toNatClampNeg = h.length + (1 + n.toNatClampNeg) - h0.length by omega, show am_sz h - am_sz h0 + n.toNatClampNeg + n.toNatClampNeg * q.toNatClampNeg = am_sz h + (n.toNatClampNeg + n.toNatClampNeg * q.toNatClampNeg) - am_sz h0 by omega] at X'
  have hP := hP F.heap locs ls ⟨by rw [f1, List.length_append, e8, d1]; omega, ?_, ⟨by rw [f1]; have := d3.1; omega, fun x g1 g2 => (hold x (Nat.lt_of_lt_of_le g1 d3.1)).trans (d3.2.1 x g1 g2), d3.2.2⟩, by rw [List.length_append]; omega, by rw [am_sz_app]; omega⟩ lr
  · rw [List.length_append, am_sz_app, e9, e8] at hP
    obtain ⟨t, a1, b1⟩ := hP F rfl X'
    refine ⟨t, step t ?_, b1⟩
    have e : T.heap.size = am_gB G + h.length := by rw [hT]; exact d1
    rw [e]
    exact a1
  · unfold am_gw
    rw [am_ws_app]
    refine va_P.app (d2.kept (fun k9 y hy => hold y.1 ((d2 k9 y hy).lt))) (fun k9 y hy => ?_)
    rw [am_ws_get] at hy
    obtain ⟨x, hx, rfl⟩ := Option.map_eq_some_iff.mp hy
    cases k9 with
    | zero =>
      simp at hx
      subst hx
      show F.heap[am_gB G + h.length + 0]? = some (vp_cell _ _)
      rw [Nat.add_zero, ← d1, f2]
      congr 2
      show _ = (n.toNatClampNeg, Sum.inr (Sum.inr (Sum.inr (Sum.inr (fun j => Option.map (am_gf G) (if j < n.toNatClampNeg then some (h.length + 3 + j) else none))))))
      congr 5
      funext j
      by_cases hj : j < n.toNatClampNeg
      · rw [if_pos hj, if_pos hj, d1]
        show some _ = some (am_pv _ _ _ (h.length + 3 + j))
        rw [show h.length + 3 + j = (h.length + 1 + j) + 2 by omega]
        show some _ = some (am_gB G + (h.length + 1 + j))
        congr 1
        omega
      · rw [if_neg hj, if_neg hj]
        rfl
    | succ j =>
      rw [List.getElem?_cons_succ] at hx
      have hj : j < n.toNatClampNeg := by
        have := (List.getElem?_eq_some_iff.mp hx).1
        simpa using this
      have hx2 := List.eq_of_mem_replicate (List.mem_of_getElem? hx)
      subst hx2
      show F.heap[am_gB G + h.length + (j + 1)]? = some (vp_cell _ _)
      have := hrow j hj
      rw [show am_gB G + h.length + (j + 1) = H.size + 1 + j by omega]
      exact this
end SOUND
end
section
section RUN
variable {p : Program} {l : Launch} {e : Env} {R : Room} {s : State} {m : MethodId} {args : Array Value} {below : List Frame} {meth : Method} {c : Code} {Q : State → Prop} {G : am_G} {d : Nat} {k : am_K} {r : Option Value} {h0 h' : am_H} {Cr : am_R}
theorem am_sound (hc : am_X G d k h0 h' p R s m args meth c) (hC : am_CS l G d Cr) (hF : am_end p l e R s m args below meth c Q G h0 h' k r) {pc : Nat} {L S : List Value} {h : am_H} (hr : am_run (am_gN G, am_gx G) Cr k r h' pc L S h) : am_P p l e R s m args below meth c Q G h0 h' k.2.2.1 pc L S h := by
  refine hr _ (fun i => ?_)
  match i with
  | 0 => exact am_s_iconst hc
  | 1 => exact am_s_bipush hc
  | 2 => exact am_s_sipush hc
  | 3 => exact am_s_lconst hc
  | 4 => exact am_s_iload_n hc
  | 5 => exact am_s_iload hc
  | 6 => exact am_s_istore_n hc
  | 7 => exact am_s_istore hc
  | 8 => exact am_s_lload_n hc
  | 9 => exact am_s_lload hc
  | 10 => exact am_s_lstore_n hc
  | 11 => exact am_s_lstore hc
  | 12 => exact am_s_aload_n hc
  | 13 => exact am_s_aload hc
  | 14 => exact am_s_astore_n hc
  | 15 => exact am_s_astore hc
  | 16 => exact am_s_iinc hc
  | 17 => exact am_s_iadd hc
  | 18 => exact am_s_isub hc
  | 19 => exact am_s_imul hc
  | 20 => exact am_s_iand hc
  | 21 => exact am_s_ior hc
  | 22 => exact am_s_ixor hc
  | 23 => exact am_s_ishl hc
  | 24 => exact am_s_ishr hc
  | 25 => exact am_s_iushr hc
  | 26 => exact am_s_idiv hc
  | 27 => exact am_s_irem hc
  | 28 => exact am_s_ladd hc
  | 29 => exact am_s_lsub hc
  | 30 => exact am_s_lmul hc
  | 31 => exact am_s_ldiv hc
  | 32 => exact am_s_lrem hc
  | 33 => exact am_s_i2l hc
  | 34 => exact am_s_l2i hc
  | 35 => exact am_s_i2b hc
  | 36 => exact am_s_lcmp hc
  | 37 => exact am_s_dup hc
  | 38 => exact am_s_pop hc
  | 39 => exact am_s_dup2 hc
  | 40 => exact am_s_if_eq hc
  | 41 => exact am_s_icmp_eq hc
  | 42 => exact am_s_if_ne hc
  | 43 => exact am_s_icmp_ne hc
  | 44 => exact am_s_if_lt hc
  | 45 => exact am_s_icmp_lt hc
  | 46 => exact am_s_if_ge hc
  | 47 => exact am_s_icmp_ge hc
  | 48 => exact am_s_if_gt hc
  | 49 => exact am_s_icmp_gt hc
  | 50 => exact am_s_if_le hc
  | 51 => exact am_s_icmp_le hc
  | 52 => exact am_s_goto hc
  | 53 => exact am_s_tableIn hc
  | 54 => exact am_s_tableOut hc
  | 55 => exact am_s_ldc hc
  | 56 => exact am_s_ldc_w hc
  | 57 => exact am_s_ldc2 hc
  | 58 => exact am_s_getLet hc
  | 59 => exact am_s_getf hc
  | 60 => exact am_s_putI hc
  | 61 => exact am_s_putJ hc
  | 62 => exact am_s_putF hc
  | 63 => exact am_s_iald hc
  | 64 => exact am_s_sald hc
  | 65 => exact am_s_slen hc
  | 66 => exact am_s_letld hc
  | 67 => exact am_s_bald hc
  | 68 => exact am_s_lald hc
  | 69 => exact am_s_aald hc
  | 70 => exact am_s_iast hc
  | 71 => exact am_s_bast hc
  | 72 => exact am_s_last hc
  | 73 => exact am_s_aast hc
  | 74 => exact am_s_alen hc
  | 75 => exact am_s_new hc
  | 76 => exact am_s_newa hc
  | 77 => exact am_s_anew hc
  | 78 => exact am_s_objI hc
  | 79 => exact am_s_callV hc hC
  | 80 => exact am_s_callS hc hC
  | 81 => exact am_s_callSN hc hC
  | 82 => exact am_s_callI hc hC
  | 83 => exact am_s_callIN hc hC
  | 84 => exact am_s_acopy hc
  | 85 => exact am_s_ret hc hF
  | 86 => exact am_s_mna hc
  | n + 87 => exact trivial
end RUN
theorem am_m_iconst {k : am_K} {h' : am_H} : am_r_iconst  k (fun _ _ _ g => g.length ≤ h'.length ∧ am_sz g ≤ am_sz h') := by
  unfold am_r_iconst
  intros
  assumption
theorem am_m_bipush {k : am_K} {h' : am_H} : am_r_bipush  k (fun _ _ _ g => g.length ≤ h'.length ∧ am_sz g ≤ am_sz h') := by
  unfold am_r_bipush
  intros
  assumption
theorem am_m_sipush {k : am_K} {h' : am_H} : am_r_sipush  k (fun _ _ _ g => g.length ≤ h'.length ∧ am_sz g ≤ am_sz h') := by
  unfold am_r_sipush
  intros
  assumption
theorem am_m_lconst {k : am_K} {h' : am_H} : am_r_lconst  k (fun _ _ _ g => g.length ≤ h'.length ∧ am_sz g ≤ am_sz h') := by
  unfold am_r_lconst
  intros
  assumption
theorem am_m_iload_n {k : am_K} {h' : am_H} : am_r_iload_n  k (fun _ _ _ g => g.length ≤ h'.length ∧ am_sz g ≤ am_sz h') := by
  unfold am_r_iload_n
  intros
  assumption
theorem am_m_iload {k : am_K} {h' : am_H} : am_r_iload  k (fun _ _ _ g => g.length ≤ h'.length ∧ am_sz g ≤ am_sz h') := by
  unfold am_r_iload
  intros
  assumption
theorem am_m_istore_n {k : am_K} {h' : am_H} : am_r_istore_n  k (fun _ _ _ g => g.length ≤ h'.length ∧ am_sz g ≤ am_sz h') := by
  unfold am_r_istore_n
  intros
  assumption
theorem am_m_istore {k : am_K} {h' : am_H} : am_r_istore  k (fun _ _ _ g => g.length ≤ h'.length ∧ am_sz g ≤ am_sz h') := by
  unfold am_r_istore
  intros
  assumption
theorem am_m_lload_n {k : am_K} {h' : am_H} : am_r_lload_n  k (fun _ _ _ g => g.length ≤ h'.length ∧ am_sz g ≤ am_sz h') := by
  unfold am_r_lload_n
  intros
  assumption
theorem am_m_lload {k : am_K} {h' : am_H} : am_r_lload  k (fun _ _ _ g => g.length ≤ h'.length ∧ am_sz g ≤ am_sz h') := by
  unfold am_r_lload
  intros
  assumption
theorem am_m_lstore_n {k : am_K} {h' : am_H} : am_r_lstore_n  k (fun _ _ _ g => g.length ≤ h'.length ∧ am_sz g ≤ am_sz h') := by
  unfold am_r_lstore_n
  intros
  assumption
theorem am_m_lstore {k : am_K} {h' : am_H} : am_r_lstore  k (fun _ _ _ g => g.length ≤ h'.length ∧ am_sz g ≤ am_sz h') := by
  unfold am_r_lstore
  intros
  assumption
theorem am_m_aload_n {k : am_K} {h' : am_H} : am_r_aload_n  k (fun _ _ _ g => g.length ≤ h'.length ∧ am_sz g ≤ am_sz h') := by
  unfold am_r_aload_n
  intros
  assumption
theorem am_m_aload {k : am_K} {h' : am_H} : am_r_aload  k (fun _ _ _ g => g.length ≤ h'.length ∧ am_sz g ≤ am_sz h') := by
  unfold am_r_aload
  intros
  assumption
theorem am_m_astore_n {k : am_K} {h' : am_H} : am_r_astore_n  k (fun _ _ _ g => g.length ≤ h'.length ∧ am_sz g ≤ am_sz h') := by
  unfold am_r_astore_n
  intros
  assumption
theorem am_m_astore {k : am_K} {h' : am_H} : am_r_astore  k (fun _ _ _ g => g.length ≤ h'.length ∧ am_sz g ≤ am_sz h') := by
  unfold am_r_astore
  intros
  assumption
theorem am_m_iinc {k : am_K} {h' : am_H} : am_r_iinc  k (fun _ _ _ g => g.length ≤ h'.length ∧ am_sz g ≤ am_sz h') := by
  unfold am_r_iinc
  intros
  assumption
theorem am_m_iadd {k : am_K} {h' : am_H} : am_r_iadd  k (fun _ _ _ g => g.length ≤ h'.length ∧ am_sz g ≤ am_sz h') := by
  unfold am_r_iadd
  intros
  assumption
theorem am_m_isub {k : am_K} {h' : am_H} : am_r_isub  k (fun _ _ _ g => g.length ≤ h'.length ∧ am_sz g ≤ am_sz h') := by
  unfold am_r_isub
  intros
  assumption
theorem am_m_imul {k : am_K} {h' : am_H} : am_r_imul  k (fun _ _ _ g => g.length ≤ h'.length ∧ am_sz g ≤ am_sz h') := by
  unfold am_r_imul
  intros
  assumption
theorem am_m_iand {k : am_K} {h' : am_H} : am_r_iand  k (fun _ _ _ g => g.length ≤ h'.length ∧ am_sz g ≤ am_sz h') := by
  unfold am_r_iand
  intros
  assumption
theorem am_m_ior {k : am_K} {h' : am_H} : am_r_ior  k (fun _ _ _ g => g.length ≤ h'.length ∧ am_sz g ≤ am_sz h') := by
  unfold am_r_ior
  intros
  assumption
theorem am_m_ixor {k : am_K} {h' : am_H} : am_r_ixor  k (fun _ _ _ g => g.length ≤ h'.length ∧ am_sz g ≤ am_sz h') := by
  unfold am_r_ixor
  intros
  assumption
theorem am_m_ishl {k : am_K} {h' : am_H} : am_r_ishl  k (fun _ _ _ g => g.length ≤ h'.length ∧ am_sz g ≤ am_sz h') := by
  unfold am_r_ishl
  intros
  assumption
theorem am_m_ishr {k : am_K} {h' : am_H} : am_r_ishr  k (fun _ _ _ g => g.length ≤ h'.length ∧ am_sz g ≤ am_sz h') := by
  unfold am_r_ishr
  intros
  assumption
theorem am_m_iushr {k : am_K} {h' : am_H} : am_r_iushr  k (fun _ _ _ g => g.length ≤ h'.length ∧ am_sz g ≤ am_sz h') := by
  unfold am_r_iushr
  intros
  assumption
theorem am_m_idiv {k : am_K} {h' : am_H} : am_r_idiv  k (fun _ _ _ g => g.length ≤ h'.length ∧ am_sz g ≤ am_sz h') := by
  unfold am_r_idiv
  intros
  assumption
theorem am_m_irem {k : am_K} {h' : am_H} : am_r_irem  k (fun _ _ _ g => g.length ≤ h'.length ∧ am_sz g ≤ am_sz h') := by
  unfold am_r_irem
  intros
  assumption
theorem am_m_ladd {k : am_K} {h' : am_H} : am_r_ladd  k (fun _ _ _ g => g.length ≤ h'.length ∧ am_sz g ≤ am_sz h') := by
  unfold am_r_ladd
  intros
  assumption
theorem am_m_lsub {k : am_K} {h' : am_H} : am_r_lsub  k (fun _ _ _ g => g.length ≤ h'.length ∧ am_sz g ≤ am_sz h') := by
  unfold am_r_lsub
  intros
  assumption
theorem am_m_lmul {k : am_K} {h' : am_H} : am_r_lmul  k (fun _ _ _ g => g.length ≤ h'.length ∧ am_sz g ≤ am_sz h') := by
  unfold am_r_lmul
  intros
  assumption
theorem am_m_ldiv {k : am_K} {h' : am_H} : am_r_ldiv  k (fun _ _ _ g => g.length ≤ h'.length ∧ am_sz g ≤ am_sz h') := by
  unfold am_r_ldiv
  intros
  assumption
theorem am_m_lrem {k : am_K} {h' : am_H} : am_r_lrem  k (fun _ _ _ g => g.length ≤ h'.length ∧ am_sz g ≤ am_sz h') := by
  unfold am_r_lrem
  intros
  assumption
theorem am_m_i2l {k : am_K} {h' : am_H} : am_r_i2l  k (fun _ _ _ g => g.length ≤ h'.length ∧ am_sz g ≤ am_sz h') := by
  unfold am_r_i2l
  intros
  assumption
theorem am_m_l2i {k : am_K} {h' : am_H} : am_r_l2i  k (fun _ _ _ g => g.length ≤ h'.length ∧ am_sz g ≤ am_sz h') := by
  unfold am_r_l2i
  intros
  assumption
theorem am_m_i2b {k : am_K} {h' : am_H} : am_r_i2b  k (fun _ _ _ g => g.length ≤ h'.length ∧ am_sz g ≤ am_sz h') := by
  unfold am_r_i2b
  intros
  assumption
theorem am_m_lcmp {k : am_K} {h' : am_H} : am_r_lcmp  k (fun _ _ _ g => g.length ≤ h'.length ∧ am_sz g ≤ am_sz h') := by
  unfold am_r_lcmp
  intros
  assumption
theorem am_m_dup {k : am_K} {h' : am_H} : am_r_dup  k (fun _ _ _ g => g.length ≤ h'.length ∧ am_sz g ≤ am_sz h') := by
  unfold am_r_dup
  intros
  assumption
theorem am_m_pop {k : am_K} {h' : am_H} : am_r_pop  k (fun _ _ _ g => g.length ≤ h'.length ∧ am_sz g ≤ am_sz h') := by
  unfold am_r_pop
  intros
  assumption
theorem am_m_dup2 {k : am_K} {h' : am_H} : am_r_dup2  k (fun _ _ _ g => g.length ≤ h'.length ∧ am_sz g ≤ am_sz h') := by
  unfold am_r_dup2
  intros
  assumption
theorem am_m_if_eq {k : am_K} {h' : am_H} : am_r_if_eq  k (fun _ _ _ g => g.length ≤ h'.length ∧ am_sz g ≤ am_sz h') := by
  intro pc L S h x off tgt hd ht hT hF
  by_cases q : x = 0
  · exact hT q
  · exact hF q
theorem am_m_icmp_eq {k : am_K} {h' : am_H} : am_r_icmp_eq  k (fun _ _ _ g => g.length ≤ h'.length ∧ am_sz g ≤ am_sz h') := by
  intro pc L S h x y off tgt hd ht hT hF
  by_cases q : x = y
  · exact hT q
  · exact hF q
theorem am_m_if_ne {k : am_K} {h' : am_H} : am_r_if_ne  k (fun _ _ _ g => g.length ≤ h'.length ∧ am_sz g ≤ am_sz h') := by
  intro pc L S h x off tgt hd ht hT hF
  by_cases q : x = 0
  · exact hF q
  · exact hT q
theorem am_m_icmp_ne {k : am_K} {h' : am_H} : am_r_icmp_ne  k (fun _ _ _ g => g.length ≤ h'.length ∧ am_sz g ≤ am_sz h') := by
  intro pc L S h x y off tgt hd ht hT hF
  by_cases q : x = y
  · exact hF q
  · exact hT q
theorem am_m_if_lt {k : am_K} {h' : am_H} : am_r_if_lt  k (fun _ _ _ g => g.length ≤ h'.length ∧ am_sz g ≤ am_sz h') := by
  intro pc L S h x off tgt hd ht hT hF
  by_cases q : x < 0
  · exact hT q
  · exact hF q
theorem am_m_icmp_lt {k : am_K} {h' : am_H} : am_r_icmp_lt  k (fun _ _ _ g => g.length ≤ h'.length ∧ am_sz g ≤ am_sz h') := by
  intro pc L S h x y off tgt hd ht hT hF
  by_cases q : x < y
  · exact hT q
  · exact hF q
theorem am_m_if_ge {k : am_K} {h' : am_H} : am_r_if_ge  k (fun _ _ _ g => g.length ≤ h'.length ∧ am_sz g ≤ am_sz h') := by
  intro pc L S h x off tgt hd ht hT hF
  by_cases q : 0 ≤ x
  · exact hT q
  · exact hF q
theorem am_m_icmp_ge {k : am_K} {h' : am_H} : am_r_icmp_ge  k (fun _ _ _ g => g.length ≤ h'.length ∧ am_sz g ≤ am_sz h') := by
  intro pc L S h x y off tgt hd ht hT hF
  by_cases q : y ≤ x
  · exact hT q
  · exact hF q
theorem am_m_if_gt {k : am_K} {h' : am_H} : am_r_if_gt  k (fun _ _ _ g => g.length ≤ h'.length ∧ am_sz g ≤ am_sz h') := by
  intro pc L S h x off tgt hd ht hT hF
  by_cases q : 0 < x
  · exact hT q
  · exact hF q
theorem am_m_icmp_gt {k : am_K} {h' : am_H} : am_r_icmp_gt  k (fun _ _ _ g => g.length ≤ h'.length ∧ am_sz g ≤ am_sz h') := by
  intro pc L S h x y off tgt hd ht hT hF
  by_cases q : y < x
  · exact hT q
  · exact hF q
theorem am_m_if_le {k : am_K} {h' : am_H} : am_r_if_le  k (fun _ _ _ g => g.length ≤ h'.length ∧ am_sz g ≤ am_sz h') := by
  intro pc L S h x off tgt hd ht hT hF
  by_cases q : x ≤ 0
  · exact hT q
  · exact hF q
theorem am_m_icmp_le {k : am_K} {h' : am_H} : am_r_icmp_le  k (fun _ _ _ g => g.length ≤ h'.length ∧ am_sz g ≤ am_sz h') := by
  intro pc L S h x y off tgt hd ht hT hF
  by_cases q : x ≤ y
  · exact hT q
  · exact hF q
theorem am_m_goto {k : am_K} {h' : am_H} : am_r_goto  k (fun _ _ _ g => g.length ≤ h'.length ∧ am_sz g ≤ am_sz h') := by
  unfold am_r_goto
  intros
  assumption
theorem am_m_tableIn {k : am_K} {h' : am_H} : am_r_tableIn  k (fun _ _ _ g => g.length ≤ h'.length ∧ am_sz g ≤ am_sz h') := by
  unfold am_r_tableIn
  intros
  assumption
theorem am_m_tableOut {k : am_K} {h' : am_H} : am_r_tableOut  k (fun _ _ _ g => g.length ≤ h'.length ∧ am_sz g ≤ am_sz h') := by
  unfold am_r_tableOut
  intros
  assumption
theorem am_m_ldc {k : am_K} {h' : am_H} : am_r_ldc  k (fun _ _ _ g => g.length ≤ h'.length ∧ am_sz g ≤ am_sz h') := by
  unfold am_r_ldc
  intros
  assumption
theorem am_m_ldc_w {k : am_K} {h' : am_H} : am_r_ldc_w  k (fun _ _ _ g => g.length ≤ h'.length ∧ am_sz g ≤ am_sz h') := by
  unfold am_r_ldc_w
  intros
  assumption
theorem am_m_ldc2 {k : am_K} {h' : am_H} : am_r_ldc2  k (fun _ _ _ g => g.length ≤ h'.length ∧ am_sz g ≤ am_sz h') := by
  unfold am_r_ldc2
  intros
  assumption
theorem am_m_getLet {k : am_K} {h' : am_H} : am_r_getLet  k (fun _ _ _ g => g.length ≤ h'.length ∧ am_sz g ≤ am_sz h') := by
  unfold am_r_getLet
  intros
  assumption
theorem am_m_getf {k : am_K} {h' : am_H} : am_r_getf  k (fun _ _ _ g => g.length ≤ h'.length ∧ am_sz g ≤ am_sz h') := by
  unfold am_r_getf
  intros
  assumption
theorem am_m_putI {k : am_K} {h' : am_H} : am_r_putI  k (fun _ _ _ g => g.length ≤ h'.length ∧ am_sz g ≤ am_sz h') := by
  intro pc L S h idx ci j a fs x hd hok hk hl hP
  rw [List.length_set, am_sz_set _ _ _ _ hk (by simp [am_sc])] at hP
  exact hP
theorem am_m_putJ {k : am_K} {h' : am_H} : am_r_putJ  k (fun _ _ _ g => g.length ≤ h'.length ∧ am_sz g ≤ am_sz h') := by
  intro pc L S h idx ci j a fs x hd hok hk hl hP
  rw [List.length_set, am_sz_set _ _ _ _ hk (by simp [am_sc])] at hP
  exact hP
theorem am_m_putF {k : am_K} {h' : am_H} : am_r_putF  k (fun _ _ _ g => g.length ≤ h'.length ∧ am_sz g ≤ am_sz h') := by
  intro pc L S h idx ci j a ft fs v hd hok hin hk hl h1 h2 hP
  rw [List.length_set, am_sz_set _ _ _ _ hk (by simp [am_sc])] at hP
  exact hP
theorem am_m_iald {k : am_K} {h' : am_H} : am_r_iald  k (fun _ _ _ g => g.length ≤ h'.length ∧ am_sz g ≤ am_sz h') := by
  unfold am_r_iald
  intros
  assumption
theorem am_m_sald {X : Nat × (Nat → Int32)} {k : am_K} {h' : am_H} : am_r_sald X k (fun _ _ _ g => g.length ≤ h'.length ∧ am_sz g ≤ am_sz h') := by
  unfold am_r_sald
  intros
  assumption
theorem am_m_slen {X : Nat × (Nat → Int32)} {k : am_K} {h' : am_H} : am_r_slen X k (fun _ _ _ g => g.length ≤ h'.length ∧ am_sz g ≤ am_sz h') := by
  unfold am_r_slen
  intros
  assumption
theorem am_m_letld {k : am_K} {h' : am_H} : am_r_letld  k (fun _ _ _ g => g.length ≤ h'.length ∧ am_sz g ≤ am_sz h') := by
  unfold am_r_letld
  intros
  assumption
theorem am_m_bald {k : am_K} {h' : am_H} : am_r_bald  k (fun _ _ _ g => g.length ≤ h'.length ∧ am_sz g ≤ am_sz h') := by
  unfold am_r_bald
  intros
  assumption
theorem am_m_lald {k : am_K} {h' : am_H} : am_r_lald  k (fun _ _ _ g => g.length ≤ h'.length ∧ am_sz g ≤ am_sz h') := by
  unfold am_r_lald
  intros
  assumption
theorem am_m_aald {k : am_K} {h' : am_H} : am_r_aald  k (fun _ _ _ g => g.length ≤ h'.length ∧ am_sz g ≤ am_sz h') := by
  unfold am_r_aald
  intros
  assumption
theorem am_m_iast {k : am_K} {h' : am_H} : am_r_iast  k (fun _ _ _ g => g.length ≤ h'.length ∧ am_sz g ≤ am_sz h') := by
  intro pc L S h a n f i x hd hk hi hP
  rw [List.length_set, am_sz_set _ _ _ _ hk (by simp [am_sc])] at hP
  exact hP
theorem am_m_bast {k : am_K} {h' : am_H} : am_r_bast  k (fun _ _ _ g => g.length ≤ h'.length ∧ am_sz g ≤ am_sz h') := by
  intro pc L S h a n f i x hd hk hi hP
  rw [List.length_set, am_sz_set _ _ _ _ hk (by simp [am_sc])] at hP
  exact hP
theorem am_m_last {k : am_K} {h' : am_H} : am_r_last  k (fun _ _ _ g => g.length ≤ h'.length ∧ am_sz g ≤ am_sz h') := by
  intro pc L S h a n f i x hd hk hi hP
  rw [List.length_set, am_sz_set _ _ _ _ hk (by simp [am_sc])] at hP
  exact hP
theorem am_m_aast {k : am_K} {h' : am_H} : am_r_aast  k (fun _ _ _ g => g.length ≤ h'.length ∧ am_sz g ≤ am_sz h') := by
  intro pc L S h a t n b ci vs f i hd hk ht hb hcl hin hP
  rw [List.length_set, am_sz_set _ _ _ _ hk (by simp [am_sc])] at hP
  exact hP
theorem am_m_alen {k : am_K} {h' : am_H} : am_r_alen  k (fun _ _ _ g => g.length ≤ h'.length ∧ am_sz g ≤ am_sz h') := by
  unfold am_r_alen
  intros
  assumption
theorem am_m_new {k : am_K} {h' : am_H} : am_r_new  k (fun _ _ _ g => g.length ≤ h'.length ∧ am_sz g ≤ am_sz h') := by
  intro pc L S h idx ci fs hd hok hP
  rw [List.length_append, am_sz_app] at hP
  exact ⟨by omega, by omega⟩
theorem am_m_newa {k : am_K} {h' : am_H} : am_r_newa  k (fun _ _ _ g => g.length ≤ h'.length ∧ am_sz g ≤ am_sz h') := by
  intro pc L S h at_ t N x0 n hd h1 h2 h3 h4 h5 h6 h7 hP
  rw [List.length_append, am_sz_app] at hP
  exact ⟨by omega, by omega⟩
theorem am_m_anew {k : am_K} {h' : am_H} : am_r_anew  k (fun _ _ _ g => g.length ≤ h'.length ∧ am_sz g ≤ am_sz h') := by
  intro pc L S h idx t N C n hd h1 h2 h3 h4 h5 h6 hP
  rw [List.length_append, am_sz_app] at hP
  exact ⟨by omega, by omega⟩
theorem am_m_objI {k : am_K} {h' : am_H} : am_r_objI  k (fun _ _ _ g => g.length ≤ h'.length ∧ am_sz g ≤ am_sz h') := by
  unfold am_r_objI
  intros
  assumption
theorem am_m_callV {l : Launch} {G : am_G} {d : Nat} {Cr : am_R} (hC : am_CS l G d Cr) {k : am_K} {h' : am_H} : am_r_callV Cr k (fun _ _ _ g => g.length ≤ h'.length ∧ am_sz g ≤ am_sz h') := by
  intro pc L S h idx y n ci a As fs r1 h1 S0 hd hok hn hS0 hk hcat hcr hP
  have := (hC y _ h r1 h1 hcr).1
  exact ⟨Nat.le_trans this.1 hP.1, Nat.le_trans this.2 hP.2⟩
theorem am_m_callS {l : Launch} {G : am_G} {d : Nat} {Cr : am_R} (hC : am_CS l G d Cr) {k : am_K} {h' : am_H} : am_r_callS Cr k (fun _ _ _ g => g.length ≤ h'.length ∧ am_sz g ≤ am_sz h') := by
  intro pc L S h idx y n As r1 h1 S0 hd hok hn hS0 hcat hcr hP
  have := (hC y _ h r1 h1 hcr).1
  exact ⟨Nat.le_trans this.1 hP.1, Nat.le_trans this.2 hP.2⟩
theorem am_m_callSN {l : Launch} {G : am_G} {d : Nat} {Cr : am_R} (hC : am_CS l G d Cr) {k : am_K} {h' : am_H} : am_r_callSN Cr k (fun _ _ _ g => g.length ≤ h'.length ∧ am_sz g ≤ am_sz h') := by
  intro pc L S h idx y n As r1 h1 S0 hd hok hn hS0 hcat hcr hP
  have := (hC y _ h r1 h1 hcr).1
  exact ⟨Nat.le_trans this.1 hP.1, Nat.le_trans this.2 hP.2⟩
theorem am_m_callI {l : Launch} {G : am_G} {d : Nat} {Cr : am_R} (hC : am_CS l G d Cr) {k : am_K} {h' : am_H} : am_r_callI Cr k (fun _ _ _ g => g.length ≤ h'.length ∧ am_sz g ≤ am_sz h') := by
  intro pc L S h idx y n a As r1 h1 S0 hd hok hn hS0 hcat hcr hP
  have := (hC y _ h r1 h1 hcr).1
  exact ⟨Nat.le_trans this.1 hP.1, Nat.le_trans this.2 hP.2⟩
theorem am_m_callIN {l : Launch} {G : am_G} {d : Nat} {Cr : am_R} (hC : am_CS l G d Cr) {k : am_K} {h' : am_H} : am_r_callIN Cr k (fun _ _ _ g => g.length ≤ h'.length ∧ am_sz g ≤ am_sz h') := by
  intro pc L S h idx y n a As r1 h1 S0 hd hok hn hS0 hcat hcr hP
  have := (hC y _ h r1 h1 hcr).1
  exact ⟨Nat.le_trans this.1 hP.1, Nat.le_trans this.2 hP.2⟩
theorem am_m_acopy {k : am_K} {h' : am_H} : am_r_acopy  k (fun _ _ _ g => g.length ≤ h'.length ∧ am_sz g ≤ am_sz h') := by
  intro pc L S h idx a0 a1 n0 n1 f g sp dp n hd hok hk0 hk1 h1 h2 h3 h4 h5 hcat hP
  rw [List.length_set, am_sz_set _ _ _ _ hk1 (by simp [am_sc])] at hP
  exact hP
theorem am_m_ret {r : Option Value} {k : am_K} {h' : am_H} : am_r_ret r h' k (fun _ _ _ g => g.length ≤ h'.length ∧ am_sz g ≤ am_sz h') := by
  intro pc L hf ho
  exact ⟨Nat.le_refl _, Nat.le_refl _⟩
theorem am_m_mna {k : am_K} {h' : am_H} : am_r_mna  k (fun _ _ _ g => g.length ≤ h'.length ∧ am_sz g ≤ am_sz h') := by
  intro pc L S h idx N M n q hd h1 h2 h3 h4 h5 h6 h7 h8 hP
  rw [List.length_append, am_sz_app] at hP
  exact ⟨by omega, by omega⟩
theorem am_mono {l : Launch} {G : am_G} {d : Nat} {Cr : am_R} {X : Nat × (Nat → Int32)} {k : am_K} {r : Option Value} {h' : am_H} (hC : am_CS l G d Cr) : ∀ i, am_RS X Cr k r h' (fun _ _ _ g => g.length ≤ h'.length ∧ am_sz g ≤ am_sz h') i := by
  intro i
  match i with
  | 0 => exact am_m_iconst
  | 1 => exact am_m_bipush
  | 2 => exact am_m_sipush
  | 3 => exact am_m_lconst
  | 4 => exact am_m_iload_n
  | 5 => exact am_m_iload
  | 6 => exact am_m_istore_n
  | 7 => exact am_m_istore
  | 8 => exact am_m_lload_n
  | 9 => exact am_m_lload
  | 10 => exact am_m_lstore_n
  | 11 => exact am_m_lstore
  | 12 => exact am_m_aload_n
  | 13 => exact am_m_aload
  | 14 => exact am_m_astore_n
  | 15 => exact am_m_astore
  | 16 => exact am_m_iinc
  | 17 => exact am_m_iadd
  | 18 => exact am_m_isub
  | 19 => exact am_m_imul
  | 20 => exact am_m_iand
  | 21 => exact am_m_ior
  | 22 => exact am_m_ixor
  | 23 => exact am_m_ishl
  | 24 => exact am_m_ishr
  | 25 => exact am_m_iushr
  | 26 => exact am_m_idiv
  | 27 => exact am_m_irem
  | 28 => exact am_m_ladd
  | 29 => exact am_m_lsub
  | 30 => exact am_m_lmul
  | 31 => exact am_m_ldiv
  | 32 => exact am_m_lrem
  | 33 => exact am_m_i2l
  | 34 => exact am_m_l2i
  | 35 => exact am_m_i2b
  | 36 => exact am_m_lcmp
  | 37 => exact am_m_dup
  | 38 => exact am_m_pop
  | 39 => exact am_m_dup2
  | 40 => exact am_m_if_eq
  | 41 => exact am_m_icmp_eq
  | 42 => exact am_m_if_ne
  | 43 => exact am_m_icmp_ne
  | 44 => exact am_m_if_lt
  | 45 => exact am_m_icmp_lt
  | 46 => exact am_m_if_ge
  | 47 => exact am_m_icmp_ge
  | 48 => exact am_m_if_gt
  | 49 => exact am_m_icmp_gt
  | 50 => exact am_m_if_le
  | 51 => exact am_m_icmp_le
  | 52 => exact am_m_goto
  | 53 => exact am_m_tableIn
  | 54 => exact am_m_tableOut
  | 55 => exact am_m_ldc
  | 56 => exact am_m_ldc_w
  | 57 => exact am_m_ldc2
  | 58 => exact am_m_getLet
  | 59 => exact am_m_getf
  | 60 => exact am_m_putI
  | 61 => exact am_m_putJ
  | 62 => exact am_m_putF
  | 63 => exact am_m_iald
  | 64 => exact am_m_sald (X := X)
  | 65 => exact am_m_slen (X := X)
  | 66 => exact am_m_letld
  | 67 => exact am_m_bald
  | 68 => exact am_m_lald
  | 69 => exact am_m_aald
  | 70 => exact am_m_iast
  | 71 => exact am_m_bast
  | 72 => exact am_m_last
  | 73 => exact am_m_aast
  | 74 => exact am_m_alen
  | 75 => exact am_m_new
  | 76 => exact am_m_newa
  | 77 => exact am_m_anew
  | 78 => exact am_m_objI
  | 79 => exact am_m_callV hC
  | 80 => exact am_m_callS hC
  | 81 => exact am_m_callSN hC
  | 82 => exact am_m_callI hC
  | 83 => exact am_m_callIN hC
  | 84 => exact am_m_acopy
  | 85 => exact am_m_ret
  | 86 => exact am_m_mna
  | n + 87 => exact trivial
-- ===== calls by depth; what a call keeps =====
def am_C_ (X : Nat × (Nat → Int32)) : Nat → am_R
  | 0 => fun _ _ _ _ _ => False
  | d + 1 => fun y vs h r h' => am_ok y ∧ am_nd vs = true ∧ (am_lay vs).length ≤ y.2.2.1 ∧ am_run X (am_C_ X d) y r h' 0 (am_eL vs y.2.2.1) [] h
theorem am_lg (f : Nat → Nat) : ∀ vs : List Value, am_nd vs = true → (lg_sl (vs.map (am_cv f))).length = (am_lay vs).length
  | [], _ => rfl
  | v :: vs, h => by
    cases v with
    | double x => simp [am_nd] at h
    | long x =>
      have ih := am_lg f vs (by simpa [am_nd] using h)
      simp only [lg_sl, List.map_cons, List.flatMap_cons, List.length_append, am_lay, List.length_cons] at ih ⊢
      rw [ih]
      simp [am_cv, Value.category]
      omega
    | int x =>
      have ih := am_lg f vs (by simpa [am_nd] using h)
      simp only [lg_sl, List.map_cons, List.flatMap_cons, List.length_append, am_lay, List.length_cons] at ih ⊢
      rw [ih]
      simp [am_cv, Value.category]
      omega
    | float x =>
      have ih := am_lg f vs (by simpa [am_nd] using h)
      simp only [lg_sl, List.map_cons, List.flatMap_cons, List.length_append, am_lay, List.length_cons] at ih ⊢
      rw [ih]
      simp [am_cv, Value.category]
      omega
    | null =>
      have ih := am_lg f vs (by simpa [am_nd] using h)
      simp only [lg_sl, List.map_cons, List.flatMap_cons, List.length_append, am_lay, List.length_cons] at ih ⊢
      rw [ih]
      simp [am_cv, Value.category]
      omega
    | ref x =>
      have ih := am_lg f vs (by simpa [am_nd] using h)
      simp only [lg_sl, List.map_cons, List.flatMap_cons, List.length_append, am_lay, List.length_cons] at ih ⊢
      rw [ih]
      simp [am_cv, Value.category]
      omega
    | retAddr x =>
      have ih := am_lg f vs (by simpa [am_nd] using h)
      simp only [lg_sl, List.map_cons, List.flatMap_cons, List.length_append, am_lay, List.length_cons] at ih ⊢
      rw [ih]
      simp [am_cv, Value.category]
      omega
theorem am_CS_all (l : Launch) (G : am_G) : ∀ d, am_CS l G d (am_C_ (am_gN G, am_gx G) d)
  | 0 => fun y vs h r h' hq => hq.elim
  | d + 1 => fun y vs h r h' hq => by
    have ih := am_CS_all l G d
    obtain ⟨⟨o1, o2, o3, o4, o5, o6⟩, hnd, hlen, hrun⟩ := hq
    have mono : h.length ≤ h'.length ∧ am_sz h ≤ am_sz h' :=
      hrun (fun _ _ _ g => g.length ≤ h'.length ∧ am_sz g ≤ am_sz h') (am_mono ih)
    refine ⟨mono, ?_⟩
    refine Met.ofW (cc := y.2.1) (maxL := y.2.2.1) (ret := y.2.2.2) o1 rfl ?_
    intro p e s m args below meth c s₁ B hml hv
    obtain ⟨rfl, hw⟩ := hv
    have hx := B.exec
    have hb := B.bytes
    have hr := B.returns
    have hts0 := atoms_spec (ws := am_ws0 y) B.pre
    have hts : ∀ w ∈ am_tb, w.before _ s = true := fun w hw => hts0 w (List.mem_cons_of_mem _ hw)
    have hown : s.vm.findClass y.1.cls = some m.cls := findClass_of_methodNamed B.named
    have hlocks := B.notSynchronized
    have hnm : meth.name = y.1.name := (name_of_methodNamed B.named B.method).1
    have hS : va_S (am_up G) s.heap s.heap [] := va_S.rf
    have hl := lv_entry (vs.map (am_cv (am_gf G))) (n := y.2.2.1) (by rw [am_lg _ _ hnd]; exact hlen)
    rw [lg_entry_eq]
    generalize (lg_sl (vs.map (am_cv (am_gf G))) ++ List.replicate (y.2.2.1 - (lg_sl (vs.map (am_cv (am_gf G)))).length) Slot.unset).toArray = ls at hl ⊢
    have hc : am_X G d y h h' p (am_rm (d + 1) (h'.length - h.length) (am_sz h' - am_sz h)) s m (vs.map (am_cv (am_gf G))).toArray meth c :=
      ⟨hx, hb, hml, hown, hts, hw.2.2, fun q => hnm.trans q, Nat.le_refl _, Nat.le_refl _, Nat.le_refl _, Nat.le_refl _⟩
    have hF : am_end p l e (am_rm (d + 1) (h'.length - h.length) (am_sz h' - am_sz h)) s m (vs.map (am_cv (am_gf G))).toArray below meth c (MQ below (am_Q G r h') (vs.map (am_cv (am_gf G))).toArray s (h'.length - h.length) (am_sz h' - am_sz h) (am_up G)) G h h' y r := by
      intro pc H locs ls hfin hokr dy
      have hq : ∀ t : State, t.heap = H → s.WarmedH t.vm → am_Q G r h' (vs.map (am_cv (am_gf G))).toArray s (.returned (r.map (am_cv (am_gf G)))) t := fun t ht hW =>
        ⟨rfl, ⟨by rw [ht]; exact dy.1, by rw [ht]; exact dy.2.1, hw.2.2.moved hW (by rw [ht]; exact dy.2.2.1)⟩, dy.2.2.1.F ht⟩
      rcases hfin with ⟨v, rfl, hd⟩ | ⟨v, rfl, hd⟩ | ⟨rfl, hd⟩
      · cases hret : y.2.2.2 with
        | none => rw [hret] at hokr; exact hokr.elim
        | some ty =>
          rw [hret] at hokr hr
          exact W.zret hx hb hr hokr hq dy.2.2.1.2.2 hd hlocks
      · cases hret : y.2.2.2 with
        | none => rw [hret] at hokr; exact hokr.elim
        | some ty =>
          rw [hret] at hokr hr
          have e9 : ty = .long := hokr
          subst e9
          exact W.lret hx hb hr hq dy.2.2.1.2.2 hd hlocks
      · cases hret : y.2.2.2 with
        | some ty => rw [hret] at hokr; exact hokr.elim
        | none =>
          rw [hret] at hr
          exact W.vret hx hb hr hq dy.2.2.1.2.2 hd hlocks
    have := (am_sound hc ih hF hrun).2 s.heap [] ls ⟨hw.1, hw.2.1, hS, Nat.le_refl _, Nat.le_refl _⟩ (am_L.entry hnd hl)
    rw [Nat.sub_self, Nat.sub_self] at this
    exact this
end
section
-- ===== THE LAW: its entry as the skeleton has it; the start of the abstract machine there =====
def R_law : String := "FlapBoardLaw"
def lw_P (b : Addr) (xs : List Int32) (args : Array Value) (s : State) : Prop := args = #[.ref b] ∧ s.IntsAt b xs ∧ xs.length ≤ 3072 ∧ (Jvm.Cond.and given_1 narrow_1).before args s = true
def lw_Q (_ : Array Value) (s : State) (o : Outcome) (t : State) : Prop := o = .returned (some (.int 1)) ∧ Framed s o t [] 600000 7302250
def lw_Z (below : List Frame) (a : Array Value) (s : State) : State → Prop := fun t => ∃ o, t.status = .running ∧ Ended t below o ∧ lw_Q a s o t
/-- the law's own end, with 1 on the stack, nothing written that was there before, its room as the claim has it -/
theorem lw_ret {p : Program} {l : Launch} {e : Env} {s : State} {m : MethodId} {below : List Frame} {meth : Method} {c : Code} {b : Nat} (hx : p.tables.exec = Jvm.exec) (hb : c.code = code) (hr : meth.sig.returnType = ret) (hlocks : meth.locks = false) {pc : Nat} {H : Heap} {ls : Array Slot} (hdg : decode code pc = .ok (.ireturn, 1)) : W p l e room_1 s m #[Value.ref b] below meth c H [] 600000 7302250 (lw_Z below #[Value.ref b] s) (F0 m pc ls [.int 1]) := by
  intro T hT X
  obtain ⟨fs, hret, hrun, hended, hW, hframe⟩ := X.leave (v := some (.int 1)) (hlocks := hlocks) (fun h => by rw [hr] at h; cases h)
  have hmeth' : T.vm.method? m = some meth := X.method'
  refine ⟨T.setFrames fs, ?_, .returned (some (.int 1)), hrun, hended, rfl, ⟨_, rfl⟩, hW, hframe⟩
  jvm_step X.here [X.here.top, hx, hb, hdg, hmeth', hr, ret, narrow_b1]
  (try refine ⟨rfl, ?_⟩); (try refine ⟨rfl, ?_⟩)
  first | (intro acts; rw [hret _ acts rfl rfl rfl]) | rw [hret _ _ rfl rfl rfl]
  exact Steps.refl _
/-- what holds at the law's entry: the machine, the code, the tables' words (any of lw_tbl by 'hts w (by decide +kernel)'), the script of L ints xs at the cell b, what the Statement gives of the start (any of its parts by flat_of_before) -/
def lw_At (p : Program) (s : State) (m : MethodId) (meth : Method) (c : Code) (b L : Nat) (xs : Nat → Int32) : Prop :=
  p.tables.exec = Jvm.exec ∧ c.code = code ∧ meth.sig.returnType = ret ∧ c.maxLocals = 4 ∧ s.vm.findClass R_law = some m.cls ∧ (∀ w ∈ lw_tbl, w.before #[Value.ref b] s = true) ∧ va_X b L xs s s.heap ∧ b < s.heap.size ∧ meth.locks = false ∧ (Jvm.Cond.and given_1 narrow_1).before #[Value.ref b] s = true
theorem am_k0 : am_cls 0 RX0 TX0 9 tyX0 := ⟨rfl, by decide +kernel, tyX0_ok, nmX0⟩
theorem am_k1 : am_cls 1 RX1 TX1 2 tyX1 := ⟨rfl, by decide +kernel, tyX1_ok, nmX1⟩
theorem am_k2 : am_cls 2 RX2 TX2 4 tyX2 := ⟨rfl, by decide +kernel, tyX2_ok, nmX2⟩
theorem am_k3 : am_cls 3 RX4 TX4 2 tyX4 := ⟨rfl, by decide +kernel, tyX4_ok, nmX4⟩
theorem am_k4 : am_cls 4 RX5 TX5 2 tyX5 := ⟨rfl, by decide +kernel, tyX5_ok, nmX5⟩
theorem am_k5 : am_cls 5 RX6 TX6 2 tyX6 := ⟨rfl, by decide +kernel, tyX6_ok, nmX6⟩
theorem am_k6 : am_cls 6 RX7 TX7 16 tyX7 := ⟨rfl, by decide +kernel, tyX7_ok, nmX7⟩
theorem am_k7 : am_cls 7 RX8 TX8 22 tyX8 := ⟨rfl, by decide +kernel, tyX8_ok, nmX8⟩
theorem am_tb_sub {w : Cond} (h : w ∈ am_tb) : w ∈ lw_tbl := (List.mem_filter.mp h).1
theorem am_nw_sub {w : Cond} (h : w ∈ am_nw) : w ∈ lw_tbl := (List.mem_filter.mp h).1
theorem am_start {s : State} {b L : Nat} {xs : Nat → Int32} (hts : ∀ w ∈ lw_tbl, w.before #[Value.ref b] s = true) (hX : va_X b L xs s s.heap) (hbl : b < s.heap.size) (hgv : (Jvm.Cond.and given_1 narrow_1).before #[Value.ref b] s = true) :
    ∃ G : am_G, am_gN G = L ∧ am_gx G = xs ∧ am_gb G = b ∧ am_gB G = s.heap.size ∧ am_S G s := by
  obtain ⟨c0, i0, K0⟩ := u_known hts (fun w hw => am_tb_sub (am_k0.2.1 w hw)) (n := 9) (hts (.instantiable RX0 9) (by decide +kernel))
  obtain ⟨c1, i1, K1⟩ := u_known hts (fun w hw => am_tb_sub (am_k1.2.1 w hw)) (n := 2) (hts (.instantiable RX1 2) (by decide +kernel))
  obtain ⟨c2, i2, K2⟩ := u_known hts (fun w hw => am_tb_sub (am_k2.2.1 w hw)) (n := 4) (hts (.instantiable RX2 4) (by decide +kernel))
  obtain ⟨c3, i3, K3⟩ := u_known hts (fun w hw => am_tb_sub (am_k3.2.1 w hw)) (n := 2) (hts (.instantiable RX4 2) (by decide +kernel))
  obtain ⟨c4, i4, K4⟩ := u_known hts (fun w hw => am_tb_sub (am_k4.2.1 w hw)) (n := 2) (hts (.instantiable RX5 2) (by decide +kernel))
  obtain ⟨c5, i5, K5⟩ := u_known hts (fun w hw => am_tb_sub (am_k5.2.1 w hw)) (n := 2) (hts (.instantiable RX6 2) (by decide +kernel))
  obtain ⟨c6, i6, K6⟩ := u_known hts (fun w hw => am_tb_sub (am_k6.2.1 w hw)) (n := 16) (hts (.instantiable RX7 16) (by decide +kernel))
  obtain ⟨c7, i7, K7⟩ := u_known hts (fun w hw => am_tb_sub (am_k7.2.1 w hw)) (n := 22) (hts (.instantiable RX8 22) (by decide +kernel))
  obtain ⟨a0, ka0, co0, f0, g0, e0⟩ := Cond.arrayClass_spec (hts (.arrayClass .int) (by decide +kernel))
  obtain ⟨a1, ka1, co1, f1, g1, e1⟩ := Cond.arrayClass_spec (hts (.arrayClass .byte) (by decide +kernel))
  obtain ⟨a2, ka2, co2, f2, g2, e2⟩ := Cond.arrayClass_spec (hts (.arrayClass .long) (by decide +kernel))
  have w3 := hts (.arrayOver (.object "FlapBoard$Row")) (by decide +kernel)
  obtain ⟨co3, a3, ka3, u3, -, g3, e3, f3⟩ := Cond.arrayOver_spec w3
  have w4 := hts (.arrayOver (.object "FlapBoard$Text")) (by decide +kernel)
  obtain ⟨co4, a4, ka4, u4, -, g4, e4, f4⟩ := Cond.arrayOver_spec w4
  have w5 := hts (.arrayOver (.object "FlapBoard$Deeds")) (by decide +kernel)
  obtain ⟨co5, a5, ka5, u5, -, g5, e5, f5⟩ := Cond.arrayOver_spec w5
  have w6 := hts (.arrayOver (.object "FlapBoard$Board")) (by decide +kernel)
  obtain ⟨co6, a6, ka6, u6, -, g6, e6, f6⟩ := Cond.arrayOver_spec w6
  have w7 := hts (.arrayOver (.array .int)) (by decide +kernel)
  obtain ⟨co7, a7, ka7, u7, -, g7, e7, f7⟩ := arrayOverA_spec w7
  have hs := flat_of_before _ hgv
  have hnA : ∀ a : Nat, a < s.heap.size → ¬ s.heap.size ≤ a := fun a h => Nat.not_le.mpr h
  have hel : ∀ j : Nat, j < 6 → (Term.elem (.static "FlapBoard" "LETTERS" "[I") (.int (Int32.ofNat j))).eval #[Value.ref b] s none [] s = some (.int (am_let j)) := by
    intro j hj
    match j, hj with
    | 0, _ => exact va_eqt (hs (.eq (.elem (.static "FlapBoard" "LETTERS" "[I") (.int 0)) (.int 102)) (by decide +kernel))
    | 1, _ => exact va_eqt (hs (.eq (.elem (.static "FlapBoard" "LETTERS" "[I") (.int 1)) (.int 115)) (by decide +kernel))
    | 2, _ => exact va_eqt (hs (.eq (.elem (.static "FlapBoard" "LETTERS" "[I") (.int 2)) (.int 107)) (by decide +kernel))
    | 3, _ => exact va_eqt (hs (.eq (.elem (.static "FlapBoard" "LETTERS" "[I") (.int 3)) (.int 98)) (by decide +kernel))
    | 4, _ => exact va_eqt (hs (.eq (.elem (.static "FlapBoard" "LETTERS" "[I") (.int 4)) (.int 116)) (by decide +kernel))
    | 5, _ => exact va_eqt (hs (.eq (.elem (.static "FlapBoard" "LETTERS" "[I") (.int 5)) (.int 113)) (by decide +kernel))
  obtain ⟨lt, hlt, hT⟩ := va_Tof (N := 6) (ty := .int) (f := fun j => .int (am_let j)) (A := fun q => s.heap.size ≤ q) (by decide) (hs (.arrayOf (.static "FlapBoard" "LETTERS" "[I") .int) (by decide +kernel)) (va_eqt (hs (.eq (.length (.static "FlapBoard" "LETTERS" "[I")) (.int 6)) (by decide +kernel))) hel hnA
  have hZ := va_Zof (A := fun q => s.heap.size ≤ q) (hts (.laysStatic "FlapBoard" "LETTERS" "[I") (by decide +kernel)) (hts (.initialized "FlapBoard") (by decide +kernel)) hlt hnA
  let D1 : Nat → ClassId := fun c => match c with
    | 0 => c0
    | 1 => c1
    | 2 => c2
    | 3 => c3
    | 4 => c4
    | 5 => c5
    | 6 => c6
    | _ => c7
  let D2 : Nat → Nat → Nat := fun c => match c with
    | 0 => i0
    | 1 => i1
    | 2 => i2
    | 3 => i3
    | 4 => i4
    | 5 => i5
    | 6 => i6
    | _ => i7
  let cA : Nat → ClassId := fun t => match t with
    | 0 => a0
    | 1 => a1
    | 2 => a2
    | 3 => a3
    | 4 => a4
    | 5 => a5
    | 6 => a6
    | _ => a7
  refine ⟨((D1, D2), cA, b, L, xs, lt, s.heap.size), rfl, rfl, rfl, rfl, ⟨⟨fun c q hq => ?_, fun t q hq => ?_⟩, hX, hbl, Nat.le_refl _, hZ, hT, fun w hw => va_Nw.of (am_nw_tab hw) (hts w (am_nw_sub hw)), fun t ht => ?_, w7⟩⟩
  · match c with
    | 0 => cases hq; exact K0
    | 1 => cases hq; exact K1
    | 2 => cases hq; exact K2
    | 3 => cases hq; exact K3
    | 4 => cases hq; exact K4
    | 5 => cases hq; exact K5
    | 6 => cases hq; exact K6
    | 7 => cases hq; exact K7
    | n + 8 => simp [vwCl] at hq
  · match t with
    | 0 => cases hq; exact ⟨fun n z => ⟨(fun k h => by cases h), ka0, g0, co0, e0⟩, f0⟩
    | 1 => cases hq; exact ⟨fun n z => ⟨(fun k h => by cases h), ka1, g1, co1, e1⟩, f1⟩
    | 2 => cases hq; exact ⟨fun n z => ⟨(fun k h => by cases h), ka2, g2, co2, e2⟩, f2⟩
    | 3 => cases hq; exact ⟨fun n z => ⟨(fun k h => by cases h), ka3, g3, co3, e3⟩, ka3, co3, g3, e3, u3, f3⟩
    | 4 => cases hq; exact ⟨fun n z => ⟨(fun k h => by cases h), ka4, g4, co4, e4⟩, ka4, co4, g4, e4, u4, f4⟩
    | 5 => cases hq; exact ⟨fun n z => ⟨(fun k h => by cases h), ka5, g5, co5, e5⟩, ka5, co5, g5, e5, u5, f5⟩
    | 6 => cases hq; exact ⟨fun n z => ⟨(fun k h => by cases h), ka6, g6, co6, e6⟩, ka6, co6, g6, e6, u6, f6⟩
    | 7 => cases hq; exact ⟨fun n z => ⟨(fun k h => by cases h), ka7, g7, co7, e7⟩, f7⟩
    | n + 8 => simp [am_tys] at hq
  · match t, ht with
    | 0, _ => exact ⟨_, rfl, va_AO.of w3⟩
    | 1, _ => exact ⟨_, rfl, va_AO.of w4⟩
    | 2, _ => exact ⟨_, rfl, va_AO.of w5⟩
    | 3, _ => exact ⟨_, rfl, va_AO.of w6⟩
def am_kL : am_K := (x, code, 4, ret)
theorem am_law {p : Program} {e : Env} {s : State} {m : MethodId} {below : List Frame} {meth : Method} {c : Code} (l : Launch) {b L : Nat} {xs : Nat → Int32} (C0 : lw_At p s m meth c b L xs) (d : Nat) (hd : d ≤ 1000) {h' : am_H} (m1 : h'.length ≤ 600000) (m2 : am_sz h' ≤ 7302250)
    (hrun : am_run (L, xs) (am_C_ (L, xs) d) am_kL (some (.int 1)) h' 0 (am_eL [.ref 0] 4) [] []) : W p l e room_1 s m #[Value.ref b] below meth c s.heap [] 0 0 (lw_Z below #[Value.ref b] s) (entryFrame m ([Value.ref b] : List Value).toArray 4) := by
  obtain ⟨hx, hb, hr, hml, hown, hts, hX, hbl, hlocks, hgv⟩ := C0
  obtain ⟨G, rfl, rfl, rfl, hB, hS⟩ := am_start hts hX hbl hgv
  have hc : am_X G d am_kL [] h' p room_1 s m #[Value.ref (am_gb G)] meth c := ⟨hx, hb, hml, hown, fun w hw => hts w (am_tb_sub hw), hS, fun q => absurd q (by decide), by show d + 2 ≤ 2048; omega, by show 64 * (d + 2) ≤ 84000; omega, by show h'.length - 0 ≤ 600000; omega, by show am_sz h' - 0 ≤ 7302250; omega⟩
  have hF : am_end p l e room_1 s m #[Value.ref (am_gb G)] below meth c (lw_Z below #[Value.ref (am_gb G)] s) G [] h' am_kL (some (.int 1)) := by
    intro pc H locs ls hfin hokr dy
    rcases hfin with ⟨v, e1, hd⟩ | ⟨v, e1, hd⟩ | ⟨e1, hd⟩
    · cases e1
      refine va_forget (fun q hq => by rw [← hB]; exact dy.2.2.1.2.2 q hq) ?_
      refine W.widen (k := 600000) (n := 7302250) (by show h'.length - 0 ≤ 600000; omega) (by show am_sz h' - 0 ≤ 7302250; omega) ?_
      exact lw_ret hx hb hr hlocks hd
    · cases e1
    · cases e1
  have hl := lv_entry ([Value.ref 0].map (am_cv (am_gf G))) (n := 4) (Nat.le_of_ble_eq_true rfl)
  have := (am_sound hc (am_CS_all l G d) hF hrun).2 s.heap [] _ ⟨by rw [hB]; rfl, fun k q hq => by simp [am_ws] at hq, va_S.rf, Nat.le_refl _, Nat.le_refl _⟩ (am_L.entry rfl hl)
  rw [lg_entry_eq]
  exact this
end
