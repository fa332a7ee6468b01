/-- a private method of a class that the tables say can be made, by its rows of tables_1 -/
def lw_okq (q : MethodName × Nat) : Prop := (q.1.cls ≠ "java/lang/invoke/MethodHandle" ∧ q.1.cls ≠ "java/lang/invoke/VarHandle") ∧ Cond.instantiable q.1.cls q.2 ∈ tables_1 ∧ Cond.privateMethod q.1 ∈ tables_1 ∧ Cond.instanceMethod q.1 ∈ tables_1
theorem lw_p0 : lw_okq (⟨"HatNet", "tapeInt", "(I)V"⟩, 15) := ⟨⟨by decide +kernel, by decide +kernel⟩, List.mem_of_getElem? (i := 22) (by decide +kernel), List.mem_of_getElem? (i := 351) (by decide +kernel), List.mem_of_getElem? (i := 352) (by decide +kernel)⟩
theorem lw_p1 : lw_okq (⟨"HatNet", "refuse", "(I)I"⟩, 15) := ⟨⟨by decide +kernel, by decide +kernel⟩, List.mem_of_getElem? (i := 22) (by decide +kernel), List.mem_of_getElem? (i := 359) (by decide +kernel), List.mem_of_getElem? (i := 360) (by decide +kernel)⟩
theorem lw_p2 : lw_okq (⟨"HatNet$Tokens", "afterBlanks", "(I)I"⟩, 5) := ⟨⟨by decide +kernel, by decide +kernel⟩, List.mem_of_getElem? (i := 215) (by decide +kernel), List.mem_of_getElem? (i := 374) (by decide +kernel), List.mem_of_getElem? (i := 375) (by decide +kernel)⟩
theorem lw_p3 : lw_okq (⟨"HatNet$Tokens", "takeToken", "(II)I"⟩, 5) := ⟨⟨by decide +kernel, by decide +kernel⟩, List.mem_of_getElem? (i := 215) (by decide +kernel), List.mem_of_getElem? (i := 378) (by decide +kernel), List.mem_of_getElem? (i := 379) (by decide +kernel)⟩
theorem lw_p4 : lw_okq (⟨"HatNet$Tokens", "takeWord", "(II)I"⟩, 5) := ⟨⟨by decide +kernel, by decide +kernel⟩, List.mem_of_getElem? (i := 215) (by decide +kernel), List.mem_of_getElem? (i := 385) (by decide +kernel), List.mem_of_getElem? (i := 386) (by decide +kernel)⟩
theorem lw_p5 : lw_okq (⟨"HatNet$Tokens", "meaning", "(II)I"⟩, 5) := ⟨⟨by decide +kernel, by decide +kernel⟩, List.mem_of_getElem? (i := 215) (by decide +kernel), List.mem_of_getElem? (i := 389) (by decide +kernel), List.mem_of_getElem? (i := 390) (by decide +kernel)⟩
theorem lw_p6 : lw_okq (⟨"HatNet$Tokens", "isWord", "(IILjava/lang/String;)Z"⟩, 5) := ⟨⟨by decide +kernel, by decide +kernel⟩, List.mem_of_getElem? (i := 215) (by decide +kernel), List.mem_of_getElem? (i := 406) (by decide +kernel), List.mem_of_getElem? (i := 407) (by decide +kernel)⟩
theorem lw_p7 : lw_okq (⟨"HatNet$Tokens", "takeNumber", "(II)I"⟩, 5) := ⟨⟨by decide +kernel, by decide +kernel⟩, List.mem_of_getElem? (i := 215) (by decide +kernel), List.mem_of_getElem? (i := 461) (by decide +kernel), List.mem_of_getElem? (i := 462) (by decide +kernel)⟩
theorem lw_p8 : lw_okq (⟨"HatNet$Reader", "readLine", "()Z"⟩, 9) := ⟨⟨by decide +kernel, by decide +kernel⟩, List.mem_of_getElem? (i := 207) (by decide +kernel), List.mem_of_getElem? (i := 466) (by decide +kernel), List.mem_of_getElem? (i := 467) (by decide +kernel)⟩
theorem lw_p9 : lw_okq (⟨"HatNet$Reader", "wordHere", "()I"⟩, 9) := ⟨⟨by decide +kernel, by decide +kernel⟩, List.mem_of_getElem? (i := 207) (by decide +kernel), List.mem_of_getElem? (i := 470) (by decide +kernel), List.mem_of_getElem? (i := 471) (by decide +kernel)⟩
theorem lw_p10 : lw_okq (⟨"HatNet$Reader", "mayBegin", "(I)Z"⟩, 9) := ⟨⟨by decide +kernel, by decide +kernel⟩, List.mem_of_getElem? (i := 207) (by decide +kernel), List.mem_of_getElem? (i := 474) (by decide +kernel), List.mem_of_getElem? (i := 475) (by decide +kernel)⟩
theorem lw_p11 : lw_okq (⟨"HatNet$Reader", "misplaced", "()Z"⟩, 9) := ⟨⟨by decide +kernel, by decide +kernel⟩, List.mem_of_getElem? (i := 207) (by decide +kernel), List.mem_of_getElem? (i := 478) (by decide +kernel), List.mem_of_getElem? (i := 479) (by decide +kernel)⟩
theorem lw_p12 : lw_okq (⟨"HatNet$Reader", "readPlayers", "()Z"⟩, 9) := ⟨⟨by decide +kernel, by decide +kernel⟩, List.mem_of_getElem? (i := 207) (by decide +kernel), List.mem_of_getElem? (i := 482) (by decide +kernel), List.mem_of_getElem? (i := 483) (by decide +kernel)⟩
theorem lw_p13 : lw_okq (⟨"HatNet$Reader", "readNumber", "(II)Z"⟩, 9) := ⟨⟨by decide +kernel, by decide +kernel⟩, List.mem_of_getElem? (i := 207) (by decide +kernel), List.mem_of_getElem? (i := 486) (by decide +kernel), List.mem_of_getElem? (i := 487) (by decide +kernel)⟩
theorem lw_p14 : lw_okq (⟨"HatNet$Reader", "fail", "(II)Z"⟩, 9) := ⟨⟨by decide +kernel, by decide +kernel⟩, List.mem_of_getElem? (i := 207) (by decide +kernel), List.mem_of_getElem? (i := 490) (by decide +kernel), List.mem_of_getElem? (i := 491) (by decide +kernel)⟩
theorem lw_p15 : lw_okq (⟨"HatNet$Reader", "readSign", "()Z"⟩, 9) := ⟨⟨by decide +kernel, by decide +kernel⟩, List.mem_of_getElem? (i := 207) (by decide +kernel), List.mem_of_getElem? (i := 494) (by decide +kernel), List.mem_of_getElem? (i := 495) (by decide +kernel)⟩
def lw_privs_1 : List (MethodName × Nat) := [(⟨"HatNet", "tapeInt", "(I)V"⟩, 15), (⟨"HatNet", "refuse", "(I)I"⟩, 15), (⟨"HatNet$Tokens", "afterBlanks", "(I)I"⟩, 5), (⟨"HatNet$Tokens", "takeToken", "(II)I"⟩, 5), (⟨"HatNet$Tokens", "takeWord", "(II)I"⟩, 5), (⟨"HatNet$Tokens", "meaning", "(II)I"⟩, 5), (⟨"HatNet$Tokens", "isWord", "(IILjava/lang/String;)Z"⟩, 5), (⟨"HatNet$Tokens", "takeNumber", "(II)I"⟩, 5), (⟨"HatNet$Reader", "readLine", "()Z"⟩, 9), (⟨"HatNet$Reader", "wordHere", "()I"⟩, 9), (⟨"HatNet$Reader", "mayBegin", "(I)Z"⟩, 9), (⟨"HatNet$Reader", "misplaced", "()Z"⟩, 9), (⟨"HatNet$Reader", "readPlayers", "()Z"⟩, 9), (⟨"HatNet$Reader", "readNumber", "(II)Z"⟩, 9), (⟨"HatNet$Reader", "fail", "(II)Z"⟩, 9), (⟨"HatNet$Reader", "readSign", "()Z"⟩, 9)]
theorem lw_r1 : ∀ q ∈ lw_privs_1, lw_okq q := List.forall_mem_cons.mpr ⟨lw_p0, List.forall_mem_cons.mpr ⟨lw_p1, List.forall_mem_cons.mpr ⟨lw_p2, List.forall_mem_cons.mpr ⟨lw_p3, List.forall_mem_cons.mpr ⟨lw_p4, List.forall_mem_cons.mpr ⟨lw_p5, List.forall_mem_cons.mpr ⟨lw_p6, List.forall_mem_cons.mpr ⟨lw_p7, List.forall_mem_cons.mpr ⟨lw_p8, List.forall_mem_cons.mpr ⟨lw_p9, List.forall_mem_cons.mpr ⟨lw_p10, List.forall_mem_cons.mpr ⟨lw_p11, List.forall_mem_cons.mpr ⟨lw_p12, List.forall_mem_cons.mpr ⟨lw_p13, List.forall_mem_cons.mpr ⟨lw_p14, List.forall_mem_cons.mpr ⟨lw_p15, fun _ h => absurd h List.not_mem_nil⟩⟩⟩⟩⟩⟩⟩⟩⟩⟩⟩⟩⟩⟩⟩⟩
theorem lw_p16 : lw_okq (⟨"HatNet$Reader", "readHats", "()Z"⟩, 9) := ⟨⟨by decide +kernel, by decide +kernel⟩, List.mem_of_getElem? (i := 207) (by decide +kernel), List.mem_of_getElem? (i := 498) (by decide +kernel), List.mem_of_getElem? (i := 499) (by decide +kernel)⟩
theorem lw_p17 : lw_okq (⟨"HatNet$Reader", "readPlayer", "()Z"⟩, 9) := ⟨⟨by decide +kernel, by decide +kernel⟩, List.mem_of_getElem? (i := 207) (by decide +kernel), List.mem_of_getElem? (i := 502) (by decide +kernel), List.mem_of_getElem? (i := 503) (by decide +kernel)⟩
theorem lw_p18 : lw_okq (⟨"HatNet$Reader", "readSight", "(Z)Z"⟩, 9) := ⟨⟨by decide +kernel, by decide +kernel⟩, List.mem_of_getElem? (i := 207) (by decide +kernel), List.mem_of_getElem? (i := 506) (by decide +kernel), List.mem_of_getElem? (i := 507) (by decide +kernel)⟩
theorem lw_p19 : lw_okq (⟨"HatNet$Reader", "readGuess", "()Z"⟩, 9) := ⟨⟨by decide +kernel, by decide +kernel⟩, List.mem_of_getElem? (i := 207) (by decide +kernel), List.mem_of_getElem? (i := 514) (by decide +kernel), List.mem_of_getElem? (i := 515) (by decide +kernel)⟩
theorem lw_p20 : lw_okq (⟨"HatNet$Reader", "readTable", "(I)Z"⟩, 9) := ⟨⟨by decide +kernel, by decide +kernel⟩, List.mem_of_getElem? (i := 207) (by decide +kernel), List.mem_of_getElem? (i := 518) (by decide +kernel), List.mem_of_getElem? (i := 519) (by decide +kernel)⟩
theorem lw_p21 : lw_okq (⟨"HatNet$Reader", "readOfRule", "(II)Z"⟩, 9) := ⟨⟨by decide +kernel, by decide +kernel⟩, List.mem_of_getElem? (i := 207) (by decide +kernel), List.mem_of_getElem? (i := 536) (by decide +kernel), List.mem_of_getElem? (i := 537) (by decide +kernel)⟩
theorem lw_p22 : lw_okq (⟨"HatNet$Reader", "tellByRule", "(II)V"⟩, 9) := ⟨⟨by decide +kernel, by decide +kernel⟩, List.mem_of_getElem? (i := 207) (by decide +kernel), List.mem_of_getElem? (i := 540) (by decide +kernel), List.mem_of_getElem? (i := 541) (by decide +kernel)⟩
theorem lw_p23 : lw_okq (⟨"HatNet$Colourings", "judge", "(I)V"⟩, 8) := ⟨⟨by decide +kernel, by decide +kernel⟩, List.mem_of_getElem? (i := 71) (by decide +kernel), List.mem_of_getElem? (i := 575) (by decide +kernel), List.mem_of_getElem? (i := 576) (by decide +kernel)⟩
theorem lw_p24 : lw_okq (⟨"HatNet$Colourings", "tally", "()V"⟩, 8) := ⟨⟨by decide +kernel, by decide +kernel⟩, List.mem_of_getElem? (i := 71) (by decide +kernel), List.mem_of_getElem? (i := 587) (by decide +kernel), List.mem_of_getElem? (i := 588) (by decide +kernel)⟩
theorem lw_p25 : lw_okq (⟨"HatNet", "give", "(I)I"⟩, 15) := ⟨⟨by decide +kernel, by decide +kernel⟩, List.mem_of_getElem? (i := 22) (by decide +kernel), List.mem_of_getElem? (i := 591) (by decide +kernel), List.mem_of_getElem? (i := 592) (by decide +kernel)⟩
theorem lw_p26 : lw_okq (⟨"HatNet", "noPlayer", "(I)Z"⟩, 15) := ⟨⟨by decide +kernel, by decide +kernel⟩, List.mem_of_getElem? (i := 22) (by decide +kernel), List.mem_of_getElem? (i := 635) (by decide +kernel), List.mem_of_getElem? (i := 636) (by decide +kernel)⟩
theorem lw_p27 : lw_okq (⟨"HatNet", "noSituation", "(II)Z"⟩, 15) := ⟨⟨by decide +kernel, by decide +kernel⟩, List.mem_of_getElem? (i := 22) (by decide +kernel), List.mem_of_getElem? (i := 645) (by decide +kernel), List.mem_of_getElem? (i := 646) (by decide +kernel)⟩
theorem lw_p28 : lw_okq (⟨"HatNet", "noColouring", "(I)Z"⟩, 15) := ⟨⟨by decide +kernel, by decide +kernel⟩, List.mem_of_getElem? (i := 22) (by decide +kernel), List.mem_of_getElem? (i := 654) (by decide +kernel), List.mem_of_getElem? (i := 655) (by decide +kernel)⟩
theorem lw_p29 : lw_okq (⟨"HatNet", "noColour", "(II)Z"⟩, 15) := ⟨⟨by decide +kernel, by decide +kernel⟩, List.mem_of_getElem? (i := 22) (by decide +kernel), List.mem_of_getElem? (i := 671) (by decide +kernel), List.mem_of_getElem? (i := 672) (by decide +kernel)⟩
theorem lw_p30 : lw_okq (⟨"HatNet", "sightTrouble", "(II)I"⟩, 15) := ⟨⟨by decide +kernel, by decide +kernel⟩, List.mem_of_getElem? (i := 22) (by decide +kernel), List.mem_of_getElem? (i := 685) (by decide +kernel), List.mem_of_getElem? (i := 686) (by decide +kernel)⟩
theorem lw_p31 : lw_okq (⟨"HatNet", "pairTrouble", "(II)I"⟩, 15) := ⟨⟨by decide +kernel, by decide +kernel⟩, List.mem_of_getElem? (i := 22) (by decide +kernel), List.mem_of_getElem? (i := 689) (by decide +kernel), List.mem_of_getElem? (i := 690) (by decide +kernel)⟩
def lw_privs_2 : List (MethodName × Nat) := [(⟨"HatNet$Reader", "readHats", "()Z"⟩, 9), (⟨"HatNet$Reader", "readPlayer", "()Z"⟩, 9), (⟨"HatNet$Reader", "readSight", "(Z)Z"⟩, 9), (⟨"HatNet$Reader", "readGuess", "()Z"⟩, 9), (⟨"HatNet$Reader", "readTable", "(I)Z"⟩, 9), (⟨"HatNet$Reader", "readOfRule", "(II)Z"⟩, 9), (⟨"HatNet$Reader", "tellByRule", "(II)V"⟩, 9), (⟨"HatNet$Colourings", "judge", "(I)V"⟩, 8), (⟨"HatNet$Colourings", "tally", "()V"⟩, 8), (⟨"HatNet", "give", "(I)I"⟩, 15), (⟨"HatNet", "noPlayer", "(I)Z"⟩, 15), (⟨"HatNet", "noSituation", "(II)Z"⟩, 15), (⟨"HatNet", "noColouring", "(I)Z"⟩, 15), (⟨"HatNet", "noColour", "(II)Z"⟩, 15), (⟨"HatNet", "sightTrouble", "(II)I"⟩, 15), (⟨"HatNet", "pairTrouble", "(II)I"⟩, 15)]
theorem lw_r2 : ∀ q ∈ lw_privs_2, lw_okq q := List.forall_mem_cons.mpr ⟨lw_p16, List.forall_mem_cons.mpr ⟨lw_p17, List.forall_mem_cons.mpr ⟨lw_p18, List.forall_mem_cons.mpr ⟨lw_p19, List.forall_mem_cons.mpr ⟨lw_p20, List.forall_mem_cons.mpr ⟨lw_p21, List.forall_mem_cons.mpr ⟨lw_p22, List.forall_mem_cons.mpr ⟨lw_p23, List.forall_mem_cons.mpr ⟨lw_p24, List.forall_mem_cons.mpr ⟨lw_p25, List.forall_mem_cons.mpr ⟨lw_p26, List.forall_mem_cons.mpr ⟨lw_p27, List.forall_mem_cons.mpr ⟨lw_p28, List.forall_mem_cons.mpr ⟨lw_p29, List.forall_mem_cons.mpr ⟨lw_p30, List.forall_mem_cons.mpr ⟨lw_p31, fun _ h => absurd h List.not_mem_nil⟩⟩⟩⟩⟩⟩⟩⟩⟩⟩⟩⟩⟩⟩⟩⟩
theorem lw_p32 : lw_okq (⟨"HatNet", "noRightCount", "(I)Z"⟩, 15) := ⟨⟨by decide +kernel, by decide +kernel⟩, List.mem_of_getElem? (i := 22) (by decide +kernel), List.mem_of_getElem? (i := 736) (by decide +kernel), List.mem_of_getElem? (i := 737) (by decide +kernel)⟩
theorem lw_p33 : lw_okq (⟨"HatNet", "noSet", "(I)Z"⟩, 15) := ⟨⟨by decide +kernel, by decide +kernel⟩, List.mem_of_getElem? (i := 22) (by decide +kernel), List.mem_of_getElem? (i := 761) (by decide +kernel), List.mem_of_getElem? (i := 762) (by decide +kernel)⟩
theorem lw_p34 : lw_okq (⟨"HatNet$Colourings", "secondIsRight", "(I)Z"⟩, 8) := ⟨⟨by decide +kernel, by decide +kernel⟩, List.mem_of_getElem? (i := 71) (by decide +kernel), List.mem_of_getElem? (i := 796) (by decide +kernel), List.mem_of_getElem? (i := 797) (by decide +kernel)⟩
theorem lw_p35 : lw_okq (⟨"HatNet$Network", "seesNoneOfItself", "(I)Z"⟩, 1) := ⟨⟨by decide +kernel, by decide +kernel⟩, List.mem_of_getElem? (i := 110) (by decide +kernel), List.mem_of_getElem? (i := 871) (by decide +kernel), List.mem_of_getElem? (i := 872) (by decide +kernel)⟩
theorem lw_p36 : lw_okq (⟨"HatNet$Colourings", "countRescued", "(II)I"⟩, 8) := ⟨⟨by decide +kernel, by decide +kernel⟩, List.mem_of_getElem? (i := 71) (by decide +kernel), List.mem_of_getElem? (i := 928) (by decide +kernel), List.mem_of_getElem? (i := 929) (by decide +kernel)⟩
theorem lw_p37 : lw_okq (⟨"HatNet$Ways", "someHasOneColour", "()Z"⟩, 10) := ⟨⟨by decide +kernel, by decide +kernel⟩, List.mem_of_getElem? (i := 146) (by decide +kernel), List.mem_of_getElem? (i := 953) (by decide +kernel), List.mem_of_getElem? (i := 954) (by decide +kernel)⟩
theorem lw_p38 : lw_okq (⟨"HatNet$Ways", "layOut", "()V"⟩, 10) := ⟨⟨by decide +kernel, by decide +kernel⟩, List.mem_of_getElem? (i := 146) (by decide +kernel), List.mem_of_getElem? (i := 957) (by decide +kernel), List.mem_of_getElem? (i := 958) (by decide +kernel)⟩
theorem lw_p39 : lw_okq (⟨"HatNet$Ways", "layOutPlayer", "(I)V"⟩, 10) := ⟨⟨by decide +kernel, by decide +kernel⟩, List.mem_of_getElem? (i := 146) (by decide +kernel), List.mem_of_getElem? (i := 961) (by decide +kernel), List.mem_of_getElem? (i := 962) (by decide +kernel)⟩
theorem lw_p40 : lw_okq (⟨"HatNet$Ways", "settle", "(I)V"⟩, 10) := ⟨⟨by decide +kernel, by decide +kernel⟩, List.mem_of_getElem? (i := 146) (by decide +kernel), List.mem_of_getElem? (i := 968) (by decide +kernel), List.mem_of_getElem? (i := 969) (by decide +kernel)⟩
theorem lw_p41 : lw_okq (⟨"HatNet$Ways", "stillOpen", "()I"⟩, 10) := ⟨⟨by decide +kernel, by decide +kernel⟩, List.mem_of_getElem? (i := 146) (by decide +kernel), List.mem_of_getElem? (i := 973) (by decide +kernel), List.mem_of_getElem? (i := 974) (by decide +kernel)⟩
theorem lw_p42 : lw_okq (⟨"HatNet$Ways", "pickNext", "()I"⟩, 10) := ⟨⟨by decide +kernel, by decide +kernel⟩, List.mem_of_getElem? (i := 146) (by decide +kernel), List.mem_of_getElem? (i := 984) (by decide +kernel), List.mem_of_getElem? (i := 985) (by decide +kernel)⟩
theorem lw_p43 : lw_okq (⟨"HatNet", "noSeed", "(I)Z"⟩, 15) := ⟨⟨by decide +kernel, by decide +kernel⟩, List.mem_of_getElem? (i := 22) (by decide +kernel), List.mem_of_getElem? (i := 992) (by decide +kernel), List.mem_of_getElem? (i := 993) (by decide +kernel)⟩
theorem lw_p44 : lw_okq (⟨"HatNet$Renumbering", "someBrings", "(IIZ)Z"⟩, 3) := ⟨⟨by decide +kernel, by decide +kernel⟩, List.mem_of_getElem? (i := 120) (by decide +kernel), List.mem_of_getElem? (i := 1028) (by decide +kernel), List.mem_of_getElem? (i := 1029) (by decide +kernel)⟩
theorem lw_p45 : lw_okq (⟨"HatNet$Renumbering", "stay", "()V"⟩, 3) := ⟨⟨by decide +kernel, by decide +kernel⟩, List.mem_of_getElem? (i := 120) (by decide +kernel), List.mem_of_getElem? (i := 1032) (by decide +kernel), List.mem_of_getElem? (i := 1033) (by decide +kernel)⟩
theorem lw_p46 : lw_okq (⟨"HatNet$Renumbering", "bringForward", "(II)V"⟩, 3) := ⟨⟨by decide +kernel, by decide +kernel⟩, List.mem_of_getElem? (i := 120) (by decide +kernel), List.mem_of_getElem? (i := 1036) (by decide +kernel), List.mem_of_getElem? (i := 1037) (by decide +kernel)⟩
theorem lw_p47 : lw_okq (⟨"HatNet$Renumbering", "orderBehind", "(II)V"⟩, 3) := ⟨⟨by decide +kernel, by decide +kernel⟩, List.mem_of_getElem? (i := 120) (by decide +kernel), List.mem_of_getElem? (i := 1040) (by decide +kernel), List.mem_of_getElem? (i := 1041) (by decide +kernel)⟩
def lw_privs_3 : List (MethodName × Nat) := [(⟨"HatNet", "noRightCount", "(I)Z"⟩, 15), (⟨"HatNet", "noSet", "(I)Z"⟩, 15), (⟨"HatNet$Colourings", "secondIsRight", "(I)Z"⟩, 8), (⟨"HatNet$Network", "seesNoneOfItself", "(I)Z"⟩, 1), (⟨"HatNet$Colourings", "countRescued", "(II)I"⟩, 8), (⟨"HatNet$Ways", "someHasOneColour", "()Z"⟩, 10), (⟨"HatNet$Ways", "layOut", "()V"⟩, 10), (⟨"HatNet$Ways", "layOutPlayer", "(I)V"⟩, 10), (⟨"HatNet$Ways", "settle", "(I)V"⟩, 10), (⟨"HatNet$Ways", "stillOpen", "()I"⟩, 10), (⟨"HatNet$Ways", "pickNext", "()I"⟩, 10), (⟨"HatNet", "noSeed", "(I)Z"⟩, 15), (⟨"HatNet$Renumbering", "someBrings", "(IIZ)Z"⟩, 3), (⟨"HatNet$Renumbering", "stay", "()V"⟩, 3), (⟨"HatNet$Renumbering", "bringForward", "(II)V"⟩, 3), (⟨"HatNet$Renumbering", "orderBehind", "(II)V"⟩, 3)]
theorem lw_r3 : ∀ q ∈ lw_privs_3, lw_okq q := List.forall_mem_cons.mpr ⟨lw_p32, List.forall_mem_cons.mpr ⟨lw_p33, List.forall_mem_cons.mpr ⟨lw_p34, List.forall_mem_cons.mpr ⟨lw_p35, List.forall_mem_cons.mpr ⟨lw_p36, List.forall_mem_cons.mpr ⟨lw_p37, List.forall_mem_cons.mpr ⟨lw_p38, List.forall_mem_cons.mpr ⟨lw_p39, List.forall_mem_cons.mpr ⟨lw_p40, List.forall_mem_cons.mpr ⟨lw_p41, List.forall_mem_cons.mpr ⟨lw_p42, List.forall_mem_cons.mpr ⟨lw_p43, List.forall_mem_cons.mpr ⟨lw_p44, List.forall_mem_cons.mpr ⟨lw_p45, List.forall_mem_cons.mpr ⟨lw_p46, List.forall_mem_cons.mpr ⟨lw_p47, fun _ h => absurd h List.not_mem_nil⟩⟩⟩⟩⟩⟩⟩⟩⟩⟩⟩⟩⟩⟩⟩⟩
theorem lw_p48 : lw_okq (⟨"HatNet$Renumbering", "fits", "()Z"⟩, 3) := ⟨⟨by decide +kernel, by decide +kernel⟩, List.mem_of_getElem? (i := 120) (by decide +kernel), List.mem_of_getElem? (i := 1044) (by decide +kernel), List.mem_of_getElem? (i := 1045) (by decide +kernel)⟩
theorem lw_p49 : lw_okq (⟨"HatNet$Renumbering", "keepsAll", "()Z"⟩, 3) := ⟨⟨by decide +kernel, by decide +kernel⟩, List.mem_of_getElem? (i := 120) (by decide +kernel), List.mem_of_getElem? (i := 1049) (by decide +kernel), List.mem_of_getElem? (i := 1050) (by decide +kernel)⟩
theorem lw_p50 : lw_okq (⟨"HatNet$Renumbering", "keeps", "(I)Z"⟩, 3) := ⟨⟨by decide +kernel, by decide +kernel⟩, List.mem_of_getElem? (i := 120) (by decide +kernel), List.mem_of_getElem? (i := 1053) (by decide +kernel), List.mem_of_getElem? (i := 1054) (by decide +kernel)⟩
theorem lw_p51 : lw_okq (⟨"HatNet$Network", "isRing", "(I)Z"⟩, 1) := ⟨⟨by decide +kernel, by decide +kernel⟩, List.mem_of_getElem? (i := 110) (by decide +kernel), List.mem_of_getElem? (i := 1089) (by decide +kernel), List.mem_of_getElem? (i := 1090) (by decide +kernel)⟩
theorem lw_p52 : lw_okq (⟨"HatNet$Network", "isTree", "()Z"⟩, 1) := ⟨⟨by decide +kernel, by decide +kernel⟩, List.mem_of_getElem? (i := 110) (by decide +kernel), List.mem_of_getElem? (i := 1101) (by decide +kernel), List.mem_of_getElem? (i := 1102) (by decide +kernel)⟩
theorem lw_p53 : lw_okq (⟨"HatNet$Acts", "tellMember", "(III)I"⟩, 1) := ⟨⟨by decide +kernel, by decide +kernel⟩, List.mem_of_getElem? (i := 136) (by decide +kernel), List.mem_of_getElem? (i := 1150) (by decide +kernel), List.mem_of_getElem? (i := 1151) (by decide +kernel)⟩
theorem lw_p54 : lw_okq (⟨"HatNet$Acts", "sumSeen", "(III)I"⟩, 1) := ⟨⟨by decide +kernel, by decide +kernel⟩, List.mem_of_getElem? (i := 136) (by decide +kernel), List.mem_of_getElem? (i := 1155) (by decide +kernel), List.mem_of_getElem? (i := 1156) (by decide +kernel)⟩
theorem lw_p55 : lw_okq (⟨"HatNet$Acts", "swapSeen", "(IIII)I"⟩, 1) := ⟨⟨by decide +kernel, by decide +kernel⟩, List.mem_of_getElem? (i := 136) (by decide +kernel), List.mem_of_getElem? (i := 1172) (by decide +kernel), List.mem_of_getElem? (i := 1173) (by decide +kernel)⟩
theorem lw_p56 : lw_okq (⟨"HatNet$Printer", "addWord", "(Ljava/lang/String;)V"⟩, 4) := ⟨⟨by decide +kernel, by decide +kernel⟩, List.mem_of_getElem? (i := 272) (by decide +kernel), List.mem_of_getElem? (i := 1211) (by decide +kernel), List.mem_of_getElem? (i := 1212) (by decide +kernel)⟩
theorem lw_p57 : lw_okq (⟨"HatNet$Printer", "addByte", "(C)V"⟩, 4) := ⟨⟨by decide +kernel, by decide +kernel⟩, List.mem_of_getElem? (i := 272) (by decide +kernel), List.mem_of_getElem? (i := 1217) (by decide +kernel), List.mem_of_getElem? (i := 1218) (by decide +kernel)⟩
theorem lw_p58 : lw_okq (⟨"HatNet$Printer", "addNumber", "(I)V"⟩, 4) := ⟨⟨by decide +kernel, by decide +kernel⟩, List.mem_of_getElem? (i := 272) (by decide +kernel), List.mem_of_getElem? (i := 1221) (by decide +kernel), List.mem_of_getElem? (i := 1222) (by decide +kernel)⟩
theorem lw_p59 : lw_okq (⟨"HatNet$Printer", "addHats", "(LHatNet$Game;)V"⟩, 4) := ⟨⟨by decide +kernel, by decide +kernel⟩, List.mem_of_getElem? (i := 272) (by decide +kernel), List.mem_of_getElem? (i := 1225) (by decide +kernel), List.mem_of_getElem? (i := 1226) (by decide +kernel)⟩
theorem lw_p60 : lw_okq (⟨"HatNet$Printer", "addSights", "(LHatNet$Game;)V"⟩, 4) := ⟨⟨by decide +kernel, by decide +kernel⟩, List.mem_of_getElem? (i := 272) (by decide +kernel), List.mem_of_getElem? (i := 1230) (by decide +kernel), List.mem_of_getElem? (i := 1231) (by decide +kernel)⟩
theorem lw_p61 : lw_okq (⟨"HatNet$Printer", "addTables", "(LHatNet$Game;)V"⟩, 4) := ⟨⟨by decide +kernel, by decide +kernel⟩, List.mem_of_getElem? (i := 272) (by decide +kernel), List.mem_of_getElem? (i := 1236) (by decide +kernel), List.mem_of_getElem? (i := 1237) (by decide +kernel)⟩
theorem lw_p62 : lw_okq (⟨"HatNetModel", "is", "(I)Z"⟩, 36) := ⟨⟨by decide +kernel, by decide +kernel⟩, List.mem_of_getElem? (i := 1248) (by decide +kernel), List.mem_of_getElem? (i := 1386) (by decide +kernel), List.mem_of_getElem? (i := 1387) (by decide +kernel)⟩
theorem lw_p63 : lw_okq (⟨"HatNetModel", "players", "()I"⟩, 36) := ⟨⟨by decide +kernel, by decide +kernel⟩, List.mem_of_getElem? (i := 1248) (by decide +kernel), List.mem_of_getElem? (i := 1390) (by decide +kernel), List.mem_of_getElem? (i := 1391) (by decide +kernel)⟩
def lw_privs_4 : List (MethodName × Nat) := [(⟨"HatNet$Renumbering", "fits", "()Z"⟩, 3), (⟨"HatNet$Renumbering", "keepsAll", "()Z"⟩, 3), (⟨"HatNet$Renumbering", "keeps", "(I)Z"⟩, 3), (⟨"HatNet$Network", "isRing", "(I)Z"⟩, 1), (⟨"HatNet$Network", "isTree", "()Z"⟩, 1), (⟨"HatNet$Acts", "tellMember", "(III)I"⟩, 1), (⟨"HatNet$Acts", "sumSeen", "(III)I"⟩, 1), (⟨"HatNet$Acts", "swapSeen", "(IIII)I"⟩, 1), (⟨"HatNet$Printer", "addWord", "(Ljava/lang/String;)V"⟩, 4), (⟨"HatNet$Printer", "addByte", "(C)V"⟩, 4), (⟨"HatNet$Printer", "addNumber", "(I)V"⟩, 4), (⟨"HatNet$Printer", "addHats", "(LHatNet$Game;)V"⟩, 4), (⟨"HatNet$Printer", "addSights", "(LHatNet$Game;)V"⟩, 4), (⟨"HatNet$Printer", "addTables", "(LHatNet$Game;)V"⟩, 4), (⟨"HatNetModel", "is", "(I)Z"⟩, 36), (⟨"HatNetModel", "players", "()I"⟩, 36)]
theorem lw_r4 : ∀ q ∈ lw_privs_4, lw_okq q := List.forall_mem_cons.mpr ⟨lw_p48, List.forall_mem_cons.mpr ⟨lw_p49, List.forall_mem_cons.mpr ⟨lw_p50, List.forall_mem_cons.mpr ⟨lw_p51, List.forall_mem_cons.mpr ⟨lw_p52, List.forall_mem_cons.mpr ⟨lw_p53, List.forall_mem_cons.mpr ⟨lw_p54, List.forall_mem_cons.mpr ⟨lw_p55, List.forall_mem_cons.mpr ⟨lw_p56, List.forall_mem_cons.mpr ⟨lw_p57, List.forall_mem_cons.mpr ⟨lw_p58, List.forall_mem_cons.mpr ⟨lw_p59, List.forall_mem_cons.mpr ⟨lw_p60, List.forall_mem_cons.mpr ⟨lw_p61, List.forall_mem_cons.mpr ⟨lw_p62, List.forall_mem_cons.mpr ⟨lw_p63, fun _ h => absurd h List.not_mem_nil⟩⟩⟩⟩⟩⟩⟩⟩⟩⟩⟩⟩⟩⟩⟩⟩
theorem lw_p64 : lw_okq (⟨"HatNetModel", "colourings", "()I"⟩, 36) := ⟨⟨by decide +kernel, by decide +kernel⟩, List.mem_of_getElem? (i := 1248) (by decide +kernel), List.mem_of_getElem? (i := 1397) (by decide +kernel), List.mem_of_getElem? (i := 1398) (by decide +kernel)⟩
theorem lw_p65 : lw_okq (⟨"HatNetModel", "links", "()I"⟩, 36) := ⟨⟨by decide +kernel, by decide +kernel⟩, List.mem_of_getElem? (i := 1248) (by decide +kernel), List.mem_of_getElem? (i := 1404) (by decide +kernel), List.mem_of_getElem? (i := 1405) (by decide +kernel)⟩
theorem lw_p66 : lw_okq (⟨"HatNetModel", "isLink", "(II)Z"⟩, 36) := ⟨⟨by decide +kernel, by decide +kernel⟩, List.mem_of_getElem? (i := 1248) (by decide +kernel), List.mem_of_getElem? (i := 1408) (by decide +kernel), List.mem_of_getElem? (i := 1409) (by decide +kernel)⟩
theorem lw_p67 : lw_okq (⟨"HatNetModel", "sees", "(II)Z"⟩, 36) := ⟨⟨by decide +kernel, by decide +kernel⟩, List.mem_of_getElem? (i := 1248) (by decide +kernel), List.mem_of_getElem? (i := 1412) (by decide +kernel), List.mem_of_getElem? (i := 1413) (by decide +kernel)⟩
theorem lw_p68 : lw_okq (⟨"HatNetModel", "isMutual", "()Z"⟩, 36) := ⟨⟨by decide +kernel, by decide +kernel⟩, List.mem_of_getElem? (i := 1248) (by decide +kernel), List.mem_of_getElem? (i := 1419) (by decide +kernel), List.mem_of_getElem? (i := 1420) (by decide +kernel)⟩
theorem lw_p69 : lw_okq (⟨"HatNetModel", "isPlayer", "(I)Z"⟩, 36) := ⟨⟨by decide +kernel, by decide +kernel⟩, List.mem_of_getElem? (i := 1248) (by decide +kernel), List.mem_of_getElem? (i := 1428) (by decide +kernel), List.mem_of_getElem? (i := 1429) (by decide +kernel)⟩
theorem lw_p70 : lw_okq (⟨"HatNetModel", "why", "(ZZ)I"⟩, 36) := ⟨⟨by decide +kernel, by decide +kernel⟩, List.mem_of_getElem? (i := 1248) (by decide +kernel), List.mem_of_getElem? (i := 1432) (by decide +kernel), List.mem_of_getElem? (i := 1433) (by decide +kernel)⟩
theorem lw_p71 : lw_okq (⟨"HatNetModel", "hats", "(I)I"⟩, 36) := ⟨⟨by decide +kernel, by decide +kernel⟩, List.mem_of_getElem? (i := 1248) (by decide +kernel), List.mem_of_getElem? (i := 1436) (by decide +kernel), List.mem_of_getElem? (i := 1437) (by decide +kernel)⟩
theorem lw_p72 : lw_okq (⟨"HatNetModel", "seenBy", "(I)I"⟩, 36) := ⟨⟨by decide +kernel, by decide +kernel⟩, List.mem_of_getElem? (i := 1248) (by decide +kernel), List.mem_of_getElem? (i := 1440) (by decide +kernel), List.mem_of_getElem? (i := 1441) (by decide +kernel)⟩
theorem lw_p73 : lw_okq (⟨"HatNetModel", "situations", "(I)I"⟩, 36) := ⟨⟨by decide +kernel, by decide +kernel⟩, List.mem_of_getElem? (i := 1248) (by decide +kernel), List.mem_of_getElem? (i := 1444) (by decide +kernel), List.mem_of_getElem? (i := 1445) (by decide +kernel)⟩
theorem lw_p74 : lw_okq (⟨"HatNetModel", "isSituation", "(II)Z"⟩, 36) := ⟨⟨by decide +kernel, by decide +kernel⟩, List.mem_of_getElem? (i := 1248) (by decide +kernel), List.mem_of_getElem? (i := 1455) (by decide +kernel), List.mem_of_getElem? (i := 1456) (by decide +kernel)⟩
theorem lw_p75 : lw_okq (⟨"HatNetModel", "entry", "(II)I"⟩, 36) := ⟨⟨by decide +kernel, by decide +kernel⟩, List.mem_of_getElem? (i := 1248) (by decide +kernel), List.mem_of_getElem? (i := 1459) (by decide +kernel), List.mem_of_getElem? (i := 1460) (by decide +kernel)⟩
theorem lw_p76 : lw_okq (⟨"HatNetModel", "isColouring", "(I)Z"⟩, 36) := ⟨⟨by decide +kernel, by decide +kernel⟩, List.mem_of_getElem? (i := 1248) (by decide +kernel), List.mem_of_getElem? (i := 1467) (by decide +kernel), List.mem_of_getElem? (i := 1468) (by decide +kernel)⟩
theorem lw_p77 : lw_okq (⟨"HatNetModel", "lays", "(I)V"⟩, 36) := ⟨⟨by decide +kernel, by decide +kernel⟩, List.mem_of_getElem? (i := 1248) (by decide +kernel), List.mem_of_getElem? (i := 1471) (by decide +kernel), List.mem_of_getElem? (i := 1472) (by decide +kernel)⟩
theorem lw_p78 : lw_okq (⟨"HatNetModel", "situationOf", "(I)I"⟩, 36) := ⟨⟨by decide +kernel, by decide +kernel⟩, List.mem_of_getElem? (i := 1248) (by decide +kernel), List.mem_of_getElem? (i := 1475) (by decide +kernel), List.mem_of_getElem? (i := 1476) (by decide +kernel)⟩
theorem lw_p79 : lw_okq (⟨"HatNetModel", "isColour", "(II)Z"⟩, 36) := ⟨⟨by decide +kernel, by decide +kernel⟩, List.mem_of_getElem? (i := 1248) (by decide +kernel), List.mem_of_getElem? (i := 1487) (by decide +kernel), List.mem_of_getElem? (i := 1488) (by decide +kernel)⟩
def lw_privs_5 : List (MethodName × Nat) := [(⟨"HatNetModel", "colourings", "()I"⟩, 36), (⟨"HatNetModel", "links", "()I"⟩, 36), (⟨"HatNetModel", "isLink", "(II)Z"⟩, 36), (⟨"HatNetModel", "sees", "(II)Z"⟩, 36), (⟨"HatNetModel", "isMutual", "()Z"⟩, 36), (⟨"HatNetModel", "isPlayer", "(I)Z"⟩, 36), (⟨"HatNetModel", "why", "(ZZ)I"⟩, 36), (⟨"HatNetModel", "hats", "(I)I"⟩, 36), (⟨"HatNetModel", "seenBy", "(I)I"⟩, 36), (⟨"HatNetModel", "situations", "(I)I"⟩, 36), (⟨"HatNetModel", "isSituation", "(II)Z"⟩, 36), (⟨"HatNetModel", "entry", "(II)I"⟩, 36), (⟨"HatNetModel", "isColouring", "(I)Z"⟩, 36), (⟨"HatNetModel", "lays", "(I)V"⟩, 36), (⟨"HatNetModel", "situationOf", "(I)I"⟩, 36), (⟨"HatNetModel", "isColour", "(II)Z"⟩, 36)]
theorem lw_r5 : ∀ q ∈ lw_privs_5, lw_okq q := List.forall_mem_cons.mpr ⟨lw_p64, List.forall_mem_cons.mpr ⟨lw_p65, List.forall_mem_cons.mpr ⟨lw_p66, List.forall_mem_cons.mpr ⟨lw_p67, List.forall_mem_cons.mpr ⟨lw_p68, List.forall_mem_cons.mpr ⟨lw_p69, List.forall_mem_cons.mpr ⟨lw_p70, List.forall_mem_cons.mpr ⟨lw_p71, List.forall_mem_cons.mpr ⟨lw_p72, List.forall_mem_cons.mpr ⟨lw_p73, List.forall_mem_cons.mpr ⟨lw_p74, List.forall_mem_cons.mpr ⟨lw_p75, List.forall_mem_cons.mpr ⟨lw_p76, List.forall_mem_cons.mpr ⟨lw_p77, List.forall_mem_cons.mpr ⟨lw_p78, List.forall_mem_cons.mpr ⟨lw_p79, fun _ h => absurd h List.not_mem_nil⟩⟩⟩⟩⟩⟩⟩⟩⟩⟩⟩⟩⟩⟩⟩⟩
theorem lw_p80 : lw_okq (⟨"HatNetModel", "whySight", "(II)I"⟩, 36) := ⟨⟨by decide +kernel, by decide +kernel⟩, List.mem_of_getElem? (i := 1248) (by decide +kernel), List.mem_of_getElem? (i := 1495) (by decide +kernel), List.mem_of_getElem? (i := 1496) (by decide +kernel)⟩
theorem lw_p81 : lw_okq (⟨"HatNetModel", "isHeeding", "(II)Z"⟩, 36) := ⟨⟨by decide +kernel, by decide +kernel⟩, List.mem_of_getElem? (i := 1248) (by decide +kernel), List.mem_of_getElem? (i := 1499) (by decide +kernel), List.mem_of_getElem? (i := 1500) (by decide +kernel)⟩
theorem lw_p82 : lw_okq (⟨"HatNetModel", "laysSeen", "(II)V"⟩, 36) := ⟨⟨by decide +kernel, by decide +kernel⟩, List.mem_of_getElem? (i := 1248) (by decide +kernel), List.mem_of_getElem? (i := 1503) (by decide +kernel), List.mem_of_getElem? (i := 1504) (by decide +kernel)⟩
theorem lw_p83 : lw_okq (⟨"HatNetModel", "rightNow", "()I"⟩, 36) := ⟨⟨by decide +kernel, by decide +kernel⟩, List.mem_of_getElem? (i := 1248) (by decide +kernel), List.mem_of_getElem? (i := 1519) (by decide +kernel), List.mem_of_getElem? (i := 1520) (by decide +kernel)⟩
theorem lw_p84 : lw_okq (⟨"HatNetModel", "laysRight", "()V"⟩, 36) := ⟨⟨by decide +kernel, by decide +kernel⟩, List.mem_of_getElem? (i := 1248) (by decide +kernel), List.mem_of_getElem? (i := 1527) (by decide +kernel), List.mem_of_getElem? (i := 1528) (by decide +kernel)⟩
theorem lw_p85 : lw_okq (⟨"HatNetModel", "refuse", "(I)I"⟩, 36) := ⟨⟨by decide +kernel, by decide +kernel⟩, List.mem_of_getElem? (i := 1248) (by decide +kernel), List.mem_of_getElem? (i := 1531) (by decide +kernel), List.mem_of_getElem? (i := 1532) (by decide +kernel)⟩
theorem lw_p86 : lw_okq (⟨"HatNetModel", "rightOf", "(II)I"⟩, 36) := ⟨⟨by decide +kernel, by decide +kernel⟩, List.mem_of_getElem? (i := 1248) (by decide +kernel), List.mem_of_getElem? (i := 1540) (by decide +kernel), List.mem_of_getElem? (i := 1541) (by decide +kernel)⟩
theorem lw_p87 : lw_okq (⟨"HatNetModel", "whyPair", "(II)I"⟩, 36) := ⟨⟨by decide +kernel, by decide +kernel⟩, List.mem_of_getElem? (i := 1248) (by decide +kernel), List.mem_of_getElem? (i := 1556) (by decide +kernel), List.mem_of_getElem? (i := 1557) (by decide +kernel)⟩
theorem lw_p88 : lw_okq (⟨"HatNetModel", "isSet", "(I)Z"⟩, 36) := ⟨⟨by decide +kernel, by decide +kernel⟩, List.mem_of_getElem? (i := 1248) (by decide +kernel), List.mem_of_getElem? (i := 1564) (by decide +kernel), List.mem_of_getElem? (i := 1565) (by decide +kernel)⟩
theorem lw_p89 : lw_okq (⟨"HatNetModel", "all", "()I"⟩, 36) := ⟨⟨by decide +kernel, by decide +kernel⟩, List.mem_of_getElem? (i := 1248) (by decide +kernel), List.mem_of_getElem? (i := 1568) (by decide +kernel), List.mem_of_getElem? (i := 1569) (by decide +kernel)⟩
theorem lw_p90 : lw_okq (⟨"HatNetModel", "lostBy", "(I)I"⟩, 36) := ⟨⟨by decide +kernel, by decide +kernel⟩, List.mem_of_getElem? (i := 1248) (by decide +kernel), List.mem_of_getElem? (i := 1572) (by decide +kernel), List.mem_of_getElem? (i := 1573) (by decide +kernel)⟩
theorem lw_p91 : lw_okq (⟨"HatNetModel", "lostBlinded", "(II)I"⟩, 36) := ⟨⟨by decide +kernel, by decide +kernel⟩, List.mem_of_getElem? (i := 1248) (by decide +kernel), List.mem_of_getElem? (i := 1593) (by decide +kernel), List.mem_of_getElem? (i := 1594) (by decide +kernel)⟩
theorem lw_p92 : lw_okq (⟨"HatNetModel", "lostNow", "()I"⟩, 36) := ⟨⟨by decide +kernel, by decide +kernel⟩, List.mem_of_getElem? (i := 1248) (by decide +kernel), List.mem_of_getElem? (i := 1605) (by decide +kernel), List.mem_of_getElem? (i := 1606) (by decide +kernel)⟩
theorem lw_p93 : lw_okq (⟨"HatNetModel", "isAcyclic", "()Z"⟩, 36) := ⟨⟨by decide +kernel, by decide +kernel⟩, List.mem_of_getElem? (i := 1248) (by decide +kernel), List.mem_of_getElem? (i := 1621) (by decide +kernel), List.mem_of_getElem? (i := 1622) (by decide +kernel)⟩
theorem lw_p94 : lw_okq (⟨"HatNetModel", "comesFrom", "(I)I"⟩, 36) := ⟨⟨by decide +kernel, by decide +kernel⟩, List.mem_of_getElem? (i := 1248) (by decide +kernel), List.mem_of_getElem? (i := 1625) (by decide +kernel), List.mem_of_getElem? (i := 1626) (by decide +kernel)⟩
theorem lw_p95 : lw_okq (⟨"HatNetModel", "isBlind", "(I)Z"⟩, 36) := ⟨⟨by decide +kernel, by decide +kernel⟩, List.mem_of_getElem? (i := 1248) (by decide +kernel), List.mem_of_getElem? (i := 1637) (by decide +kernel), List.mem_of_getElem? (i := 1638) (by decide +kernel)⟩
def lw_privs_6 : List (MethodName × Nat) := [(⟨"HatNetModel", "whySight", "(II)I"⟩, 36), (⟨"HatNetModel", "isHeeding", "(II)Z"⟩, 36), (⟨"HatNetModel", "laysSeen", "(II)V"⟩, 36), (⟨"HatNetModel", "rightNow", "()I"⟩, 36), (⟨"HatNetModel", "laysRight", "()V"⟩, 36), (⟨"HatNetModel", "refuse", "(I)I"⟩, 36), (⟨"HatNetModel", "rightOf", "(II)I"⟩, 36), (⟨"HatNetModel", "whyPair", "(II)I"⟩, 36), (⟨"HatNetModel", "isSet", "(I)Z"⟩, 36), (⟨"HatNetModel", "all", "()I"⟩, 36), (⟨"HatNetModel", "lostBy", "(I)I"⟩, 36), (⟨"HatNetModel", "lostBlinded", "(II)I"⟩, 36), (⟨"HatNetModel", "lostNow", "()I"⟩, 36), (⟨"HatNetModel", "isAcyclic", "()Z"⟩, 36), (⟨"HatNetModel", "comesFrom", "(I)I"⟩, 36), (⟨"HatNetModel", "isBlind", "(I)Z"⟩, 36)]
theorem lw_r6 : ∀ q ∈ lw_privs_6, lw_okq q := List.forall_mem_cons.mpr ⟨lw_p80, List.forall_mem_cons.mpr ⟨lw_p81, List.forall_mem_cons.mpr ⟨lw_p82, List.forall_mem_cons.mpr ⟨lw_p83, List.forall_mem_cons.mpr ⟨lw_p84, List.forall_mem_cons.mpr ⟨lw_p85, List.forall_mem_cons.mpr ⟨lw_p86, List.forall_mem_cons.mpr ⟨lw_p87, List.forall_mem_cons.mpr ⟨lw_p88, List.forall_mem_cons.mpr ⟨lw_p89, List.forall_mem_cons.mpr ⟨lw_p90, List.forall_mem_cons.mpr ⟨lw_p91, List.forall_mem_cons.mpr ⟨lw_p92, List.forall_mem_cons.mpr ⟨lw_p93, List.forall_mem_cons.mpr ⟨lw_p94, List.forall_mem_cons.mpr ⟨lw_p95, fun _ h => absurd h List.not_mem_nil⟩⟩⟩⟩⟩⟩⟩⟩⟩⟩⟩⟩⟩⟩⟩⟩
theorem lw_p96 : lw_okq (⟨"HatNetModel", "twelfths", "(I)I"⟩, 36) := ⟨⟨by decide +kernel, by decide +kernel⟩, List.mem_of_getElem? (i := 1248) (by decide +kernel), List.mem_of_getElem? (i := 1645) (by decide +kernel), List.mem_of_getElem? (i := 1646) (by decide +kernel)⟩
theorem lw_p97 : lw_okq (⟨"HatNetModel", "isClique", "(I)Z"⟩, 36) := ⟨⟨by decide +kernel, by decide +kernel⟩, List.mem_of_getElem? (i := 1248) (by decide +kernel), List.mem_of_getElem? (i := 1660) (by decide +kernel), List.mem_of_getElem? (i := 1661) (by decide +kernel)⟩
theorem lw_p98 : lw_okq (⟨"HatNetModel", "lostWithBest", "(I)I"⟩, 36) := ⟨⟨by decide +kernel, by decide +kernel⟩, List.mem_of_getElem? (i := 1248) (by decide +kernel), List.mem_of_getElem? (i := 1676) (by decide +kernel), List.mem_of_getElem? (i := 1677) (by decide +kernel)⟩
theorem lw_p99 : lw_okq (⟨"HatNetModel", "laysLone", "(I)V"⟩, 36) := ⟨⟨by decide +kernel, by decide +kernel⟩, List.mem_of_getElem? (i := 1248) (by decide +kernel), List.mem_of_getElem? (i := 1680) (by decide +kernel), List.mem_of_getElem? (i := 1681) (by decide +kernel)⟩
theorem lw_p100 : lw_okq (⟨"HatNetModel", "bestIn", "(II)I"⟩, 36) := ⟨⟨by decide +kernel, by decide +kernel⟩, List.mem_of_getElem? (i := 1248) (by decide +kernel), List.mem_of_getElem? (i := 1684) (by decide +kernel), List.mem_of_getElem? (i := 1685) (by decide +kernel)⟩
theorem lw_p101 : lw_okq (⟨"HatNetModel", "waysMany", "()I"⟩, 36) := ⟨⟨by decide +kernel, by decide +kernel⟩, List.mem_of_getElem? (i := 1248) (by decide +kernel), List.mem_of_getElem? (i := 1700) (by decide +kernel), List.mem_of_getElem? (i := 1701) (by decide +kernel)⟩
theorem lw_p102 : lw_okq (⟨"HatNetModel", "copies", "([I[I)V"⟩, 36) := ⟨⟨by decide +kernel, by decide +kernel⟩, List.mem_of_getElem? (i := 1248) (by decide +kernel), List.mem_of_getElem? (i := 1705) (by decide +kernel), List.mem_of_getElem? (i := 1706) (by decide +kernel)⟩
theorem lw_p103 : lw_okq (⟨"HatNetModel", "nextWay", "()Z"⟩, 36) := ⟨⟨by decide +kernel, by decide +kernel⟩, List.mem_of_getElem? (i := 1248) (by decide +kernel), List.mem_of_getElem? (i := 1709) (by decide +kernel), List.mem_of_getElem? (i := 1710) (by decide +kernel)⟩
theorem lw_p104 : lw_okq (⟨"HatNetModel", "enters", "(III)V"⟩, 36) := ⟨⟨by decide +kernel, by decide +kernel⟩, List.mem_of_getElem? (i := 1248) (by decide +kernel), List.mem_of_getElem? (i := 1713) (by decide +kernel), List.mem_of_getElem? (i := 1714) (by decide +kernel)⟩
theorem lw_p105 : lw_okq (⟨"HatNetModel", "draws", "(I)V"⟩, 36) := ⟨⟨by decide +kernel, by decide +kernel⟩, List.mem_of_getElem? (i := 1248) (by decide +kernel), List.mem_of_getElem? (i := 1723) (by decide +kernel), List.mem_of_getElem? (i := 1724) (by decide +kernel)⟩
theorem lw_p106 : lw_okq (⟨"HatNetModel", "betters", "()I"⟩, 36) := ⟨⟨by decide +kernel, by decide +kernel⟩, List.mem_of_getElem? (i := 1248) (by decide +kernel), List.mem_of_getElem? (i := 1729) (by decide +kernel), List.mem_of_getElem? (i := 1730) (by decide +kernel)⟩
theorem lw_p107 : lw_okq (⟨"HatNetModel", "takes", "(I)I"⟩, 36) := ⟨⟨by decide +kernel, by decide +kernel⟩, List.mem_of_getElem? (i := 1248) (by decide +kernel), List.mem_of_getElem? (i := 1733) (by decide +kernel), List.mem_of_getElem? (i := 1734) (by decide +kernel)⟩
theorem lw_p108 : lw_okq (⟨"HatNetModel", "renumbers", "(II)V"⟩, 36) := ⟨⟨by decide +kernel, by decide +kernel⟩, List.mem_of_getElem? (i := 1248) (by decide +kernel), List.mem_of_getElem? (i := 1741) (by decide +kernel), List.mem_of_getElem? (i := 1742) (by decide +kernel)⟩
theorem lw_p109 : lw_okq (⟨"HatNetModel", "isRenumbering", "()Z"⟩, 36) := ⟨⟨by decide +kernel, by decide +kernel⟩, List.mem_of_getElem? (i := 1248) (by decide +kernel), List.mem_of_getElem? (i := 1745) (by decide +kernel), List.mem_of_getElem? (i := 1746) (by decide +kernel)⟩
theorem lw_p110 : lw_okq (⟨"HatNetModel", "isKeeping", "()Z"⟩, 36) := ⟨⟨by decide +kernel, by decide +kernel⟩, List.mem_of_getElem? (i := 1248) (by decide +kernel), List.mem_of_getElem? (i := 1749) (by decide +kernel), List.mem_of_getElem? (i := 1750) (by decide +kernel)⟩
theorem lw_p111 : lw_okq (⟨"HatNetModel", "along", "(II)I"⟩, 36) := ⟨⟨by decide +kernel, by decide +kernel⟩, List.mem_of_getElem? (i := 1248) (by decide +kernel), List.mem_of_getElem? (i := 1765) (by decide +kernel), List.mem_of_getElem? (i := 1766) (by decide +kernel)⟩
def lw_privs_7 : List (MethodName × Nat) := [(⟨"HatNetModel", "twelfths", "(I)I"⟩, 36), (⟨"HatNetModel", "isClique", "(I)Z"⟩, 36), (⟨"HatNetModel", "lostWithBest", "(I)I"⟩, 36), (⟨"HatNetModel", "laysLone", "(I)V"⟩, 36), (⟨"HatNetModel", "bestIn", "(II)I"⟩, 36), (⟨"HatNetModel", "waysMany", "()I"⟩, 36), (⟨"HatNetModel", "copies", "([I[I)V"⟩, 36), (⟨"HatNetModel", "nextWay", "()Z"⟩, 36), (⟨"HatNetModel", "enters", "(III)V"⟩, 36), (⟨"HatNetModel", "draws", "(I)V"⟩, 36), (⟨"HatNetModel", "betters", "()I"⟩, 36), (⟨"HatNetModel", "takes", "(I)I"⟩, 36), (⟨"HatNetModel", "renumbers", "(II)V"⟩, 36), (⟨"HatNetModel", "isRenumbering", "()Z"⟩, 36), (⟨"HatNetModel", "isKeeping", "()Z"⟩, 36), (⟨"HatNetModel", "along", "(II)I"⟩, 36)]
theorem lw_r7 : ∀ q ∈ lw_privs_7, lw_okq q := List.forall_mem_cons.mpr ⟨lw_p96, List.forall_mem_cons.mpr ⟨lw_p97, List.forall_mem_cons.mpr ⟨lw_p98, List.forall_mem_cons.mpr ⟨lw_p99, List.forall_mem_cons.mpr ⟨lw_p100, List.forall_mem_cons.mpr ⟨lw_p101, List.forall_mem_cons.mpr ⟨lw_p102, List.forall_mem_cons.mpr ⟨lw_p103, List.forall_mem_cons.mpr ⟨lw_p104, List.forall_mem_cons.mpr ⟨lw_p105, List.forall_mem_cons.mpr ⟨lw_p106, List.forall_mem_cons.mpr ⟨lw_p107, List.forall_mem_cons.mpr ⟨lw_p108, List.forall_mem_cons.mpr ⟨lw_p109, List.forall_mem_cons.mpr ⟨lw_p110, List.forall_mem_cons.mpr ⟨lw_p111, fun _ h => absurd h List.not_mem_nil⟩⟩⟩⟩⟩⟩⟩⟩⟩⟩⟩⟩⟩⟩⟩⟩
theorem lw_p112 : lw_okq (⟨"HatNetModel", "hubOf", "()I"⟩, 36) := ⟨⟨by decide +kernel, by decide +kernel⟩, List.mem_of_getElem? (i := 1248) (by decide +kernel), List.mem_of_getElem? (i := 1773) (by decide +kernel), List.mem_of_getElem? (i := 1774) (by decide +kernel)⟩
theorem lw_p113 : lw_okq (⟨"HatNetModel", "isRing", "(I)Z"⟩, 36) := ⟨⟨by decide +kernel, by decide +kernel⟩, List.mem_of_getElem? (i := 1248) (by decide +kernel), List.mem_of_getElem? (i := 1777) (by decide +kernel), List.mem_of_getElem? (i := 1778) (by decide +kernel)⟩
theorem lw_p114 : lw_okq (⟨"HatNetModel", "isTree", "()Z"⟩, 36) := ⟨⟨by decide +kernel, by decide +kernel⟩, List.mem_of_getElem? (i := 1248) (by decide +kernel), List.mem_of_getElem? (i := 1781) (by decide +kernel), List.mem_of_getElem? (i := 1782) (by decide +kernel)⟩
theorem lw_p115 : lw_okq (⟨"HatNetModel", "remembers", "()V"⟩, 36) := ⟨⟨by decide +kernel, by decide +kernel⟩, List.mem_of_getElem? (i := 1248) (by decide +kernel), List.mem_of_getElem? (i := 1793) (by decide +kernel), List.mem_of_getElem? (i := 1794) (by decide +kernel)⟩
theorem lw_p116 : lw_okq (⟨"HatNetModel", "isAct", "()V"⟩, 36) := ⟨⟨by decide +kernel, by decide +kernel⟩, List.mem_of_getElem? (i := 1248) (by decide +kernel), List.mem_of_getElem? (i := 1801) (by decide +kernel), List.mem_of_getElem? (i := 1802) (by decide +kernel)⟩
theorem lw_p117 : lw_okq (⟨"HatNetModel", "cliqueGuess", "(IIII)I"⟩, 36) := ⟨⟨by decide +kernel, by decide +kernel⟩, List.mem_of_getElem? (i := 1248) (by decide +kernel), List.mem_of_getElem? (i := 1813) (by decide +kernel), List.mem_of_getElem? (i := 1814) (by decide +kernel)⟩
theorem lw_p118 : lw_okq (⟨"HatNetModel", "isOther", "()Z"⟩, 36) := ⟨⟨by decide +kernel, by decide +kernel⟩, List.mem_of_getElem? (i := 1248) (by decide +kernel), List.mem_of_getElem? (i := 1817) (by decide +kernel), List.mem_of_getElem? (i := 1818) (by decide +kernel)⟩
theorem lw_p119 : lw_okq (⟨"HatNetModel", "saysGame", "()V"⟩, 36) := ⟨⟨by decide +kernel, by decide +kernel⟩, List.mem_of_getElem? (i := 1248) (by decide +kernel), List.mem_of_getElem? (i := 1844) (by decide +kernel), List.mem_of_getElem? (i := 1845) (by decide +kernel)⟩
theorem lw_p120 : lw_okq (⟨"HatNetModel", "saysWord", "(Ljava/lang/String;)V"⟩, 36) := ⟨⟨by decide +kernel, by decide +kernel⟩, List.mem_of_getElem? (i := 1248) (by decide +kernel), List.mem_of_getElem? (i := 1849) (by decide +kernel), List.mem_of_getElem? (i := 1850) (by decide +kernel)⟩
theorem lw_p121 : lw_okq (⟨"HatNetModel", "says", "(I)V"⟩, 36) := ⟨⟨by decide +kernel, by decide +kernel⟩, List.mem_of_getElem? (i := 1248) (by decide +kernel), List.mem_of_getElem? (i := 1855) (by decide +kernel), List.mem_of_getElem? (i := 1856) (by decide +kernel)⟩
theorem lw_p122 : lw_okq (⟨"HatNetModel", "saysNumber", "(I)V"⟩, 36) := ⟨⟨by decide +kernel, by decide +kernel⟩, List.mem_of_getElem? (i := 1248) (by decide +kernel), List.mem_of_getElem? (i := 1859) (by decide +kernel), List.mem_of_getElem? (i := 1860) (by decide +kernel)⟩
theorem lw_p123 : lw_okq (⟨"HatNetModel", "saysTwo", "(Ljava/lang/String;II)V"⟩, 36) := ⟨⟨by decide +kernel, by decide +kernel⟩, List.mem_of_getElem? (i := 1248) (by decide +kernel), List.mem_of_getElem? (i := 1864) (by decide +kernel), List.mem_of_getElem? (i := 1865) (by decide +kernel)⟩
theorem lw_p124 : lw_okq (⟨"HatNetModel", "feeds", "(I)V"⟩, 36) := ⟨⟨by decide +kernel, by decide +kernel⟩, List.mem_of_getElem? (i := 1248) (by decide +kernel), List.mem_of_getElem? (i := 1879) (by decide +kernel), List.mem_of_getElem? (i := 1880) (by decide +kernel)⟩
theorem lw_p125 : lw_okq (⟨"HatNetModel", "reads", "()V"⟩, 36) := ⟨⟨by decide +kernel, by decide +kernel⟩, List.mem_of_getElem? (i := 1248) (by decide +kernel), List.mem_of_getElem? (i := 1887) (by decide +kernel), List.mem_of_getElem? (i := 1888) (by decide +kernel)⟩
theorem lw_p126 : lw_okq (⟨"HatNetModel", "isOf", "(III)Z"⟩, 36) := ⟨⟨by decide +kernel, by decide +kernel⟩, List.mem_of_getElem? (i := 1248) (by decide +kernel), List.mem_of_getElem? (i := 1891) (by decide +kernel), List.mem_of_getElem? (i := 1892) (by decide +kernel)⟩
theorem lw_p127 : lw_okq (⟨"HatNetModel", "good", "()Z"⟩, 36) := ⟨⟨by decide +kernel, by decide +kernel⟩, List.mem_of_getElem? (i := 1248) (by decide +kernel), List.mem_of_getElem? (i := 1897) (by decide +kernel), List.mem_of_getElem? (i := 1898) (by decide +kernel)⟩
def lw_privs_8 : List (MethodName × Nat) := [(⟨"HatNetModel", "hubOf", "()I"⟩, 36), (⟨"HatNetModel", "isRing", "(I)Z"⟩, 36), (⟨"HatNetModel", "isTree", "()Z"⟩, 36), (⟨"HatNetModel", "remembers", "()V"⟩, 36), (⟨"HatNetModel", "isAct", "()V"⟩, 36), (⟨"HatNetModel", "cliqueGuess", "(IIII)I"⟩, 36), (⟨"HatNetModel", "isOther", "()Z"⟩, 36), (⟨"HatNetModel", "saysGame", "()V"⟩, 36), (⟨"HatNetModel", "saysWord", "(Ljava/lang/String;)V"⟩, 36), (⟨"HatNetModel", "says", "(I)V"⟩, 36), (⟨"HatNetModel", "saysNumber", "(I)V"⟩, 36), (⟨"HatNetModel", "saysTwo", "(Ljava/lang/String;II)V"⟩, 36), (⟨"HatNetModel", "feeds", "(I)V"⟩, 36), (⟨"HatNetModel", "reads", "()V"⟩, 36), (⟨"HatNetModel", "isOf", "(III)Z"⟩, 36), (⟨"HatNetModel", "good", "()Z"⟩, 36)]
theorem lw_r8 : ∀ q ∈ lw_privs_8, lw_okq q := List.forall_mem_cons.mpr ⟨lw_p112, List.forall_mem_cons.mpr ⟨lw_p113, List.forall_mem_cons.mpr ⟨lw_p114, List.forall_mem_cons.mpr ⟨lw_p115, List.forall_mem_cons.mpr ⟨lw_p116, List.forall_mem_cons.mpr ⟨lw_p117, List.forall_mem_cons.mpr ⟨lw_p118, List.forall_mem_cons.mpr ⟨lw_p119, List.forall_mem_cons.mpr ⟨lw_p120, List.forall_mem_cons.mpr ⟨lw_p121, List.forall_mem_cons.mpr ⟨lw_p122, List.forall_mem_cons.mpr ⟨lw_p123, List.forall_mem_cons.mpr ⟨lw_p124, List.forall_mem_cons.mpr ⟨lw_p125, List.forall_mem_cons.mpr ⟨lw_p126, List.forall_mem_cons.mpr ⟨lw_p127, fun _ h => absurd h List.not_mem_nil⟩⟩⟩⟩⟩⟩⟩⟩⟩⟩⟩⟩⟩⟩⟩⟩
theorem lw_p128 : lw_okq (⟨"HatNetModel", "line", "()V"⟩, 36) := ⟨⟨by decide +kernel, by decide +kernel⟩, List.mem_of_getElem? (i := 1248) (by decide +kernel), List.mem_of_getElem? (i := 1901) (by decide +kernel), List.mem_of_getElem? (i := 1902) (by decide +kernel)⟩
theorem lw_p129 : lw_okq (⟨"HatNetModel", "isWord", "(I)Z"⟩, 36) := ⟨⟨by decide +kernel, by decide +kernel⟩, List.mem_of_getElem? (i := 1248) (by decide +kernel), List.mem_of_getElem? (i := 1905) (by decide +kernel), List.mem_of_getElem? (i := 1906) (by decide +kernel)⟩
theorem lw_p130 : lw_okq (⟨"HatNetModel", "must", "(ZI)V"⟩, 36) := ⟨⟨by decide +kernel, by decide +kernel⟩, List.mem_of_getElem? (i := 1248) (by decide +kernel), List.mem_of_getElem? (i := 1909) (by decide +kernel), List.mem_of_getElem? (i := 1910) (by decide +kernel)⟩
theorem lw_p131 : lw_okq (⟨"HatNetModel", "goesOn", "()V"⟩, 36) := ⟨⟨by decide +kernel, by decide +kernel⟩, List.mem_of_getElem? (i := 1248) (by decide +kernel), List.mem_of_getElem? (i := 1913) (by decide +kernel), List.mem_of_getElem? (i := 1914) (by decide +kernel)⟩
theorem lw_p132 : lw_okq (⟨"HatNetModel", "takesNumber", "(II)I"⟩, 36) := ⟨⟨by decide +kernel, by decide +kernel⟩, List.mem_of_getElem? (i := 1248) (by decide +kernel), List.mem_of_getElem? (i := 1917) (by decide +kernel), List.mem_of_getElem? (i := 1918) (by decide +kernel)⟩
theorem lw_p133 : lw_okq (⟨"HatNetModel", "readsGuess", "()V"⟩, 36) := ⟨⟨by decide +kernel, by decide +kernel⟩, List.mem_of_getElem? (i := 1248) (by decide +kernel), List.mem_of_getElem? (i := 1921) (by decide +kernel), List.mem_of_getElem? (i := 1922) (by decide +kernel)⟩
theorem lw_p134 : lw_okq (⟨"HatNetModel", "takesPlayer", "(I)I"⟩, 36) := ⟨⟨by decide +kernel, by decide +kernel⟩, List.mem_of_getElem? (i := 1248) (by decide +kernel), List.mem_of_getElem? (i := 1925) (by decide +kernel), List.mem_of_getElem? (i := 1926) (by decide +kernel)⟩
theorem lw_p135 : lw_okq (⟨"HatNetModel", "readsTable", "(I)V"⟩, 36) := ⟨⟨by decide +kernel, by decide +kernel⟩, List.mem_of_getElem? (i := 1248) (by decide +kernel), List.mem_of_getElem? (i := 1929) (by decide +kernel), List.mem_of_getElem? (i := 1930) (by decide +kernel)⟩
theorem lw_p136 : lw_okq (⟨"HatNetModel", "fills", "(III)V"⟩, 36) := ⟨⟨by decide +kernel, by decide +kernel⟩, List.mem_of_getElem? (i := 1248) (by decide +kernel), List.mem_of_getElem? (i := 1933) (by decide +kernel), List.mem_of_getElem? (i := 1934) (by decide +kernel)⟩
theorem lw_p137 : lw_okq (⟨"HatNetModel", "readsHats", "()V"⟩, 36) := ⟨⟨by decide +kernel, by decide +kernel⟩, List.mem_of_getElem? (i := 1248) (by decide +kernel), List.mem_of_getElem? (i := 1937) (by decide +kernel), List.mem_of_getElem? (i := 1938) (by decide +kernel)⟩
theorem lw_p138 : lw_okq (⟨"HatNetModel", "readsSight", "(Z)V"⟩, 36) := ⟨⟨by decide +kernel, by decide +kernel⟩, List.mem_of_getElem? (i := 1248) (by decide +kernel), List.mem_of_getElem? (i := 1941) (by decide +kernel), List.mem_of_getElem? (i := 1942) (by decide +kernel)⟩
def lw_privs_9 : List (MethodName × Nat) := [(⟨"HatNetModel", "line", "()V"⟩, 36), (⟨"HatNetModel", "isWord", "(I)Z"⟩, 36), (⟨"HatNetModel", "must", "(ZI)V"⟩, 36), (⟨"HatNetModel", "goesOn", "()V"⟩, 36), (⟨"HatNetModel", "takesNumber", "(II)I"⟩, 36), (⟨"HatNetModel", "readsGuess", "()V"⟩, 36), (⟨"HatNetModel", "takesPlayer", "(I)I"⟩, 36), (⟨"HatNetModel", "readsTable", "(I)V"⟩, 36), (⟨"HatNetModel", "fills", "(III)V"⟩, 36), (⟨"HatNetModel", "readsHats", "()V"⟩, 36), (⟨"HatNetModel", "readsSight", "(Z)V"⟩, 36)]
theorem lw_r9 : ∀ q ∈ lw_privs_9, lw_okq q := List.forall_mem_cons.mpr ⟨lw_p128, List.forall_mem_cons.mpr ⟨lw_p129, List.forall_mem_cons.mpr ⟨lw_p130, List.forall_mem_cons.mpr ⟨lw_p131, List.forall_mem_cons.mpr ⟨lw_p132, List.forall_mem_cons.mpr ⟨lw_p133, List.forall_mem_cons.mpr ⟨lw_p134, List.forall_mem_cons.mpr ⟨lw_p135, List.forall_mem_cons.mpr ⟨lw_p136, List.forall_mem_cons.mpr ⟨lw_p137, List.forall_mem_cons.mpr ⟨lw_p138, fun _ h => absurd h List.not_mem_nil⟩⟩⟩⟩⟩⟩⟩⟩⟩⟩⟩
def lw_privs : List (MethodName × Nat) := lw_privs_1 ++ (lw_privs_2 ++ (lw_privs_3 ++ (lw_privs_4 ++ (lw_privs_5 ++ (lw_privs_6 ++ (lw_privs_7 ++ (lw_privs_8 ++ (lw_privs_9))))))))
def lw_tbl : List Cond := k2_sels lw_privs ++ tables_1
theorem lw_privs_ok : ∀ q ∈ lw_privs, lw_okq q := by
  show ∀ q ∈ lw_privs_1 ++ (lw_privs_2 ++ (lw_privs_3 ++ (lw_privs_4 ++ (lw_privs_5 ++ (lw_privs_6 ++ (lw_privs_7 ++ (lw_privs_8 ++ (lw_privs_9)))))))), lw_okq q
  exact List.forall_mem_append.mpr ⟨lw_r1, List.forall_mem_append.mpr ⟨lw_r2, List.forall_mem_append.mpr ⟨lw_r3, List.forall_mem_append.mpr ⟨lw_r4, List.forall_mem_append.mpr ⟨lw_r5, List.forall_mem_append.mpr ⟨lw_r6, List.forall_mem_append.mpr ⟨lw_r7, List.forall_mem_append.mpr ⟨lw_r8, lw_r9⟩⟩⟩⟩⟩⟩⟩⟩
def RX0 : String := "HatNet$Acts"
def TX0 : u_T := fun k => match k with
  | _ => ("HatNet$Acts", "game", "LHatNet$Game;", true)
def tyX0 : Nat → FieldType := fun k => match k with
  | _ => .object "HatNet$Game"
abbrev wsX00 : List Cond := u_ws RX0 TX0 1
theorem nmX0 : ∀ a, a < 1 → ∀ b, b < 1 → a ≠ b → (TX0 a).2.1 ≠ (TX0 b).2.1 := by decide +kernel
theorem tyX0_ok : ∀ k, k < 1 → parseFieldDescriptor (TX0 k).2.2.1 = some (tyX0 k) := by decide +kernel
abbrev cX0_init : ByteArray := prog_2_method_1_code
def yX0_init : MethodName := ⟨RX0, "<init>", "(LHatNet$Game;)V"⟩
abbrev cX0_tellClique : ByteArray := prog_2_method_2_code
def yX0_tellClique : MethodName := ⟨RX0, "tellClique", "(I)I"⟩
abbrev cX0_tellMember : ByteArray := prog_2_method_3_code
def yX0_tellMember : MethodName := ⟨RX0, "tellMember", "(III)I"⟩
abbrev cX0_sumSeen : ByteArray := prog_2_method_4_code
def yX0_sumSeen : MethodName := ⟨RX0, "sumSeen", "(III)I"⟩
abbrev cX0_swapNames : ByteArray := prog_2_method_5_code
def yX0_swapNames : MethodName := ⟨RX0, "swapNames", "(III)I"⟩
abbrev cX0_swapSeen : ByteArray := prog_2_method_6_code
def yX0_swapSeen : MethodName := ⟨RX0, "swapSeen", "(IIII)I"⟩
abbrev cX0_openEyes : ByteArray := prog_2_method_7_code
def yX0_openEyes : MethodName := ⟨RX0, "openEyes", "(II)V"⟩
abbrev cX0_closeEyes : ByteArray := prog_2_method_8_code
def yX0_closeEyes : MethodName := ⟨RX0, "closeEyes", "(II)V"⟩
def RX1 : String := "HatNet$Colourings"
def TX1 : u_T := fun k => match k with
  | 0 => ("HatNet$Colourings", "game", "LHatNet$Game;", true)
  | 1 => ("HatNet$Colourings", "count", "I", false)
  | 2 => ("HatNet$Colourings", "place", "[I", true)
  | 3 => ("HatNet$Colourings", "situation", "[[I", true)
  | 4 => ("HatNet$Colourings", "right", "[I", true)
  | 5 => ("HatNet$Colourings", "byRight", "[I", true)
  | 6 => ("HatNet$Colourings", "bestTable", "[I", true)
  | _ => ("HatNet$Colourings", "rescued", "[I", true)
def tyX1 : Nat → FieldType := fun k => match k with
  | 0 => .object "HatNet$Game"
  | 1 => .int
  | 2 => .array .int
  | 3 => .array (.array .int)
  | 4 => .array .int
  | 5 => .array .int
  | 6 => .array .int
  | _ => .array .int
abbrev wsX10 : List Cond := u_ws RX1 TX1 8
theorem nmX1 : ∀ a, a < 8 → ∀ b, b < 8 → a ≠ b → (TX1 a).2.1 ≠ (TX1 b).2.1 := by decide +kernel
theorem tyX1_ok : ∀ k, k < 8 → parseFieldDescriptor (TX1 k).2.2.1 = some (tyX1 k) := by decide +kernel
abbrev cX1_init : ByteArray := prog_3_method_1_code
def yX1_init : MethodName := ⟨RX1, "<init>", "(LHatNet$Game;)V"⟩
abbrev cX1_arrange : ByteArray := prog_3_method_2_code
def yX1_arrange : MethodName := ⟨RX1, "arrange", "()V"⟩
abbrev cX1_judgeAll : ByteArray := prog_3_method_3_code
def yX1_judgeAll : MethodName := ⟨RX1, "judgeAll", "()V"⟩
abbrev cX1_judgeAgain : ByteArray := prog_3_method_4_code
def yX1_judgeAgain : MethodName := ⟨RX1, "judgeAgain", "(I)V"⟩
abbrev cX1_judge : ByteArray := prog_3_method_5_code
def yX1_judge : MethodName := ⟨RX1, "judge", "(I)V"⟩
abbrev cX1_tally : ByteArray := prog_3_method_6_code
def yX1_tally : MethodName := ⟨RX1, "tally", "()V"⟩
abbrev cX1_colourOf : ByteArray := prog_3_method_7_code
def yX1_colourOf : MethodName := ⟨RX1, "colourOf", "(II)I"⟩
abbrev cX1_situationOf : ByteArray := prog_3_method_8_code
def yX1_situationOf : MethodName := ⟨RX1, "situationOf", "(II)I"⟩
abbrev cX1_colouringsOfOneSituation : ByteArray := prog_3_method_9_code
def yX1_colouringsOfOneSituation : MethodName := ⟨RX1, "colouringsOfOneSituation", "(I)I"⟩
abbrev cX1_lostInAll : ByteArray := prog_3_method_10_code
def yX1_lostInAll : MethodName := ⟨RX1, "lostInAll", "()I"⟩
abbrev cX1_lostAt : ByteArray := prog_3_method_11_code
def yX1_lostAt : MethodName := ⟨RX1, "lostAt", "(I)I"⟩
abbrev cX1_withRight : ByteArray := prog_3_method_12_code
def yX1_withRight : MethodName := ⟨RX1, "withRight", "(II)I"⟩
abbrev cX1_allRightOf : ByteArray := prog_3_method_13_code
def yX1_allRightOf : MethodName := ⟨RX1, "allRightOf", "(I)I"⟩
abbrev cX1_noneRightOf : ByteArray := prog_3_method_14_code
def yX1_noneRightOf : MethodName := ⟨RX1, "noneRightOf", "(I)I"⟩
abbrev cX1_mostRight : ByteArray := prog_3_method_15_code
def yX1_mostRight : MethodName := ⟨RX1, "mostRight", "()I"⟩
abbrev cX1_firstWithRight : ByteArray := prog_3_method_16_code
def yX1_firstWithRight : MethodName := ⟨RX1, "firstWithRight", "(I)I"⟩
abbrev cX1_lostOfTwoGuesses : ByteArray := prog_3_method_17_code
def yX1_lostOfTwoGuesses : MethodName := ⟨RX1, "lostOfTwoGuesses", "()I"⟩
abbrev cX1_secondIsRight : ByteArray := prog_3_method_18_code
def yX1_secondIsRight : MethodName := ⟨RX1, "secondIsRight", "(I)Z"⟩
abbrev cX1_lostUnseen : ByteArray := prog_3_method_19_code
def yX1_lostUnseen : MethodName := ⟨RX1, "lostUnseen", "(II)I"⟩
abbrev cX1_fewestNeeded : ByteArray := prog_3_method_20_code
def yX1_fewestNeeded : MethodName := ⟨RX1, "fewestNeeded", "()I"⟩
abbrev cX1_lostWith : ByteArray := prog_3_method_21_code
def yX1_lostWith : MethodName := ⟨RX1, "lostWith", "(II)I"⟩
abbrev cX1_nearestLost : ByteArray := prog_3_method_22_code
def yX1_nearestLost : MethodName := ⟨RX1, "nearestLost", "(I)I"⟩
abbrev cX1_unlike : ByteArray := prog_3_method_23_code
def yX1_unlike : MethodName := ⟨RX1, "unlike", "(II)I"⟩
abbrev cX1_weighBest : ByteArray := prog_3_method_24_code
def yX1_weighBest : MethodName := ⟨RX1, "weighBest", "(I)I"⟩
abbrev cX1_countRescued : ByteArray := prog_3_method_25_code
def yX1_countRescued : MethodName := ⟨RX1, "countRescued", "(II)I"⟩
abbrev cX1_takeBest : ByteArray := prog_3_method_26_code
def yX1_takeBest : MethodName := ⟨RX1, "takeBest", "(I)I"⟩
abbrev cX1_improve : ByteArray := prog_3_method_27_code
def yX1_improve : MethodName := ⟨RX1, "improve", "()I"⟩
def RX2 : String := "HatNet$Game"
def TX2 : u_T := fun k => match k with
  | 0 => ("HatNet$Game", "players", "I", false)
  | 1 => ("HatNet$Game", "hats", "[I", true)
  | 2 => ("HatNet$Game", "sees", "[I", true)
  | _ => ("HatNet$Game", "tables", "[J", true)
def tyX2 : Nat → FieldType := fun k => match k with
  | 0 => .int
  | 1 => .array .int
  | 2 => .array .int
  | _ => .array .long
abbrev wsX20 : List Cond := u_ws RX2 TX2 4
theorem nmX2 : ∀ a, a < 4 → ∀ b, b < 4 → a ≠ b → (TX2 a).2.1 ≠ (TX2 b).2.1 := by decide +kernel
theorem tyX2_ok : ∀ k, k < 4 → parseFieldDescriptor (TX2 k).2.2.1 = some (tyX2 k) := by decide +kernel
abbrev cX2_init : ByteArray := prog_4_method_1_code
def yX2_init : MethodName := ⟨RX2, "<init>", "()V"⟩
abbrev cX2_clear : ByteArray := prog_4_method_2_code
def yX2_clear : MethodName := ⟨RX2, "clear", "(I)V"⟩
abbrev cX2_copy : ByteArray := prog_4_method_3_code
def yX2_copy : MethodName := ⟨RX2, "copy", "(LHatNet$Game;)V"⟩
abbrev cX2_watches : ByteArray := prog_4_method_4_code
def yX2_watches : MethodName := ⟨RX2, "watches", "(II)Z"⟩
abbrev cX2_seenBy : ByteArray := prog_4_method_5_code
def yX2_seenBy : MethodName := ⟨RX2, "seenBy", "(I)I"⟩
abbrev cX2_situations : ByteArray := prog_4_method_6_code
def yX2_situations : MethodName := ⟨RX2, "situations", "(I)I"⟩
abbrev cX2_weightBehind : ByteArray := prog_4_method_7_code
def yX2_weightBehind : MethodName := ⟨RX2, "weightBehind", "(II)I"⟩
abbrev cX2_weight : ByteArray := prog_4_method_8_code
def yX2_weight : MethodName := ⟨RX2, "weight", "(II)I"⟩
abbrev cX2_colourIn : ByteArray := prog_4_method_9_code
def yX2_colourIn : MethodName := ⟨RX2, "colourIn", "(III)I"⟩
abbrev cX2_told : ByteArray := prog_4_method_10_code
def yX2_told : MethodName := ⟨RX2, "told", "(II)I"⟩
abbrev cX2_tell : ByteArray := prog_4_method_11_code
def yX2_tell : MethodName := ⟨RX2, "tell", "(III)V"⟩
abbrev cX2_timesTold : ByteArray := prog_4_method_12_code
def yX2_timesTold : MethodName := ⟨RX2, "timesTold", "(II)I"⟩
abbrev cX2_swayed : ByteArray := prog_4_method_13_code
def yX2_swayed : MethodName := ⟨RX2, "swayed", "(II)I"⟩
abbrev cX2_waysToGuess : ByteArray := prog_4_method_14_code
def yX2_waysToGuess : MethodName := ⟨RX2, "waysToGuess", "()I"⟩
abbrev cX2_draw : ByteArray := prog_4_method_15_code
def yX2_draw : MethodName := ⟨RX2, "draw", "(I)V"⟩
def RX3 : String := "HatNet$History"
def TX3 : u_T := fun k => match k with
  | 0 => ("HatNet$History", "games", "[LHatNet$Game;", true)
  | 1 => ("HatNet$History", "next", "I", false)
  | _ => ("HatNet$History", "size", "I", false)
def tyX3 : Nat → FieldType := fun k => match k with
  | 0 => .array (.object "HatNet$Game")
  | 1 => .int
  | _ => .int
abbrev wsX30 : List Cond := u_ws RX3 TX3 3
theorem nmX3 : ∀ a, a < 3 → ∀ b, b < 3 → a ≠ b → (TX3 a).2.1 ≠ (TX3 b).2.1 := by decide +kernel
theorem tyX3_ok : ∀ k, k < 3 → parseFieldDescriptor (TX3 k).2.2.1 = some (tyX3 k) := by decide +kernel
abbrev cX3_init : ByteArray := prog_5_method_1_code
def yX3_init : MethodName := ⟨RX3, "<init>", "()V"⟩
abbrev cX3_forget : ByteArray := prog_5_method_2_code
def yX3_forget : MethodName := ⟨RX3, "forget", "()V"⟩
abbrev cX3_note : ByteArray := prog_5_method_3_code
def yX3_note : MethodName := ⟨RX3, "note", "(LHatNet$Game;)V"⟩
abbrev cX3_keep : ByteArray := prog_5_method_4_code
def yX3_keep : MethodName := ⟨RX3, "keep", "()V"⟩
abbrev cX3_goBack : ByteArray := prog_5_method_5_code
def yX3_goBack : MethodName := ⟨RX3, "goBack", "(LHatNet$Game;)V"⟩
def RX4 : String := "HatNet$Network"
def TX4 : u_T := fun k => match k with
  | _ => ("HatNet$Network", "game", "LHatNet$Game;", true)
def tyX4 : Nat → FieldType := fun k => match k with
  | _ => .object "HatNet$Game"
abbrev wsX40 : List Cond := u_ws RX4 TX4 1
theorem nmX4 : ∀ a, a < 1 → ∀ b, b < 1 → a ≠ b → (TX4 a).2.1 ≠ (TX4 b).2.1 := by decide +kernel
theorem tyX4_ok : ∀ k, k < 1 → parseFieldDescriptor (TX4 k).2.2.1 = some (tyX4 k) := by decide +kernel
abbrev cX4_init : ByteArray := prog_6_method_1_code
def yX4_init : MethodName := ⟨RX4, "<init>", "(LHatNet$Game;)V"⟩
abbrev cX4_everybody : ByteArray := prog_6_method_2_code
def yX4_everybody : MethodName := ⟨RX4, "everybody", "()I"⟩
abbrev cX4_sights : ByteArray := prog_6_method_3_code
def yX4_sights : MethodName := ⟨RX4, "sights", "()I"⟩
abbrev cX4_linked : ByteArray := prog_6_method_4_code
def yX4_linked : MethodName := ⟨RX4, "linked", "(I)I"⟩
abbrev cX4_links : ByteArray := prog_6_method_5_code
def yX4_links : MethodName := ⟨RX4, "links", "()I"⟩
abbrev cX4_isMutual : ByteArray := prog_6_method_6_code
def yX4_isMutual : MethodName := ⟨RX4, "isMutual", "()Z"⟩
abbrev cX4_isAcyclic : ByteArray := prog_6_method_7_code
def yX4_isAcyclic : MethodName := ⟨RX4, "isAcyclic", "()Z"⟩
abbrev cX4_greatestBlindSet : ByteArray := prog_6_method_8_code
def yX4_greatestBlindSet : MethodName := ⟨RX4, "greatestBlindSet", "()I"⟩
abbrev cX4_seesNoneOfItself : ByteArray := prog_6_method_9_code
def yX4_seesNoneOfItself : MethodName := ⟨RX4, "seesNoneOfItself", "(I)Z"⟩
abbrev cX4_isClique : ByteArray := prog_6_method_10_code
def yX4_isClique : MethodName := ⟨RX4, "isClique", "(I)Z"⟩
abbrev cX4_twelfths : ByteArray := prog_6_method_11_code
def yX4_twelfths : MethodName := ⟨RX4, "twelfths", "(I)I"⟩
abbrev cX4_greatestClique : ByteArray := prog_6_method_12_code
def yX4_greatestClique : MethodName := ⟨RX4, "greatestClique", "()I"⟩
abbrev cX4_strongestClique : ByteArray := prog_6_method_13_code
def yX4_strongestClique : MethodName := ⟨RX4, "strongestClique", "()I"⟩
abbrev cX4_sureCliques : ByteArray := prog_6_method_14_code
def yX4_sureCliques : MethodName := ⟨RX4, "sureCliques", "()I"⟩
abbrev cX4_stepsTo : ByteArray := prog_6_method_15_code
def yX4_stepsTo : MethodName := ⟨RX4, "stepsTo", "(II)I"⟩
abbrev cX4_linkedWith : ByteArray := prog_6_method_16_code
def yX4_linkedWith : MethodName := ⟨RX4, "linkedWith", "(II)I"⟩
abbrev cX4_kind : ByteArray := prog_6_method_17_code
def yX4_kind : MethodName := ⟨RX4, "kind", "()I"⟩
abbrev cX4_isTree : ByteArray := prog_6_method_18_code
def yX4_isTree : MethodName := ⟨RX4, "isTree", "()Z"⟩
abbrev cX4_isRing : ByteArray := prog_6_method_19_code
def yX4_isRing : MethodName := ⟨RX4, "isRing", "(I)Z"⟩
abbrev cX4_firstHub : ByteArray := prog_6_method_20_code
def yX4_firstHub : MethodName := ⟨RX4, "firstHub", "()I"⟩
def RX5 : String := "HatNet$Printer"
def TX5 : u_T := fun k => match k with
  | 0 => ("HatNet$Printer", "text", "[B", false)
  | 1 => ("HatNet$Printer", "length", "I", false)
  | 2 => ("HatNet$Printer", "draft", "[B", false)
  | _ => ("HatNet$Printer", "drafted", "I", false)
def tyX5 : Nat → FieldType := fun k => match k with
  | 0 => .array .byte
  | 1 => .int
  | 2 => .array .byte
  | _ => .int
abbrev wsX50 : List Cond := u_ws RX5 TX5 4
theorem nmX5 : ∀ a, a < 4 → ∀ b, b < 4 → a ≠ b → (TX5 a).2.1 ≠ (TX5 b).2.1 := by decide +kernel
theorem tyX5_ok : ∀ k, k < 4 → parseFieldDescriptor (TX5 k).2.2.1 = some (tyX5 k) := by decide +kernel
abbrev cX5_init : ByteArray := prog_7_method_1_code
def yX5_init : MethodName := ⟨RX5, "<init>", "()V"⟩
abbrev cX5_write : ByteArray := prog_7_method_2_code
def yX5_write : MethodName := ⟨RX5, "write", "(LHatNet$Game;)Z"⟩
abbrev cX5_addHats : ByteArray := prog_7_method_3_code
def yX5_addHats : MethodName := ⟨RX5, "addHats", "(LHatNet$Game;)V"⟩
abbrev cX5_addSights : ByteArray := prog_7_method_4_code
def yX5_addSights : MethodName := ⟨RX5, "addSights", "(LHatNet$Game;)V"⟩
abbrev cX5_addTables : ByteArray := prog_7_method_5_code
def yX5_addTables : MethodName := ⟨RX5, "addTables", "(LHatNet$Game;)V"⟩
abbrev cX5_addWord : ByteArray := prog_7_method_6_code
def yX5_addWord : MethodName := ⟨RX5, "addWord", "(Ljava/lang/String;)V"⟩
abbrev cX5_addNumber : ByteArray := prog_7_method_7_code
def yX5_addNumber : MethodName := ⟨RX5, "addNumber", "(I)V"⟩
abbrev cX5_addByte : ByteArray := prog_7_method_8_code
def yX5_addByte : MethodName := ⟨RX5, "addByte", "(C)V"⟩
def RX6 : String := "HatNet$Reader"
def TX6 : u_T := fun k => match k with
  | 0 => ("HatNet$Reader", "game", "LHatNet$Game;", true)
  | 1 => ("HatNet$Reader", "fault", "I", false)
  | 2 => ("HatNet$Reader", "place", "I", false)
  | 3 => ("HatNet$Reader", "tokens", "LHatNet$Tokens;", true)
  | 4 => ("HatNet$Reader", "at", "I", false)
  | 5 => ("HatNet$Reader", "number", "I", false)
  | 6 => ("HatNet$Reader", "guesses", "[I", true)
  | 7 => ("HatNet$Reader", "hatted", "I", false)
  | _ => ("HatNet$Reader", "guessed", "I", false)
def tyX6 : Nat → FieldType := fun k => match k with
  | 0 => .object "HatNet$Game"
  | 1 => .int
  | 2 => .int
  | 3 => .object "HatNet$Tokens"
  | 4 => .int
  | 5 => .int
  | 6 => .array .int
  | 7 => .int
  | _ => .int
abbrev wsX60 : List Cond := u_ws RX6 TX6 9
theorem nmX6 : ∀ a, a < 9 → ∀ b, b < 9 → a ≠ b → (TX6 a).2.1 ≠ (TX6 b).2.1 := by decide +kernel
theorem tyX6_ok : ∀ k, k < 9 → parseFieldDescriptor (TX6 k).2.2.1 = some (tyX6 k) := by decide +kernel
abbrev cX6_init : ByteArray := prog_8_method_1_code
def yX6_init : MethodName := ⟨RX6, "<init>", "([B)V"⟩
abbrev cX6_read : ByteArray := prog_8_method_2_code
def yX6_read : MethodName := ⟨RX6, "read", "(I)Z"⟩
abbrev cX6_readLine : ByteArray := prog_8_method_3_code
def yX6_readLine : MethodName := ⟨RX6, "readLine", "()Z"⟩
abbrev cX6_mayBegin : ByteArray := prog_8_method_4_code
def yX6_mayBegin : MethodName := ⟨RX6, "mayBegin", "(I)Z"⟩
abbrev cX6_readPlayers : ByteArray := prog_8_method_5_code
def yX6_readPlayers : MethodName := ⟨RX6, "readPlayers", "()Z"⟩
abbrev cX6_readHats : ByteArray := prog_8_method_6_code
def yX6_readHats : MethodName := ⟨RX6, "readHats", "()Z"⟩
abbrev cX6_readSight : ByteArray := prog_8_method_7_code
def yX6_readSight : MethodName := ⟨RX6, "readSight", "(Z)Z"⟩
abbrev cX6_readGuess : ByteArray := prog_8_method_8_code
def yX6_readGuess : MethodName := ⟨RX6, "readGuess", "()Z"⟩
abbrev cX6_readOfRule : ByteArray := prog_8_method_9_code
def yX6_readOfRule : MethodName := ⟨RX6, "readOfRule", "(II)Z"⟩
abbrev cX6_tellByRule : ByteArray := prog_8_method_10_code
def yX6_tellByRule : MethodName := ⟨RX6, "tellByRule", "(II)V"⟩
abbrev cX6_readTable : ByteArray := prog_8_method_11_code
def yX6_readTable : MethodName := ⟨RX6, "readTable", "(I)Z"⟩
abbrev cX6_wordHere : ByteArray := prog_8_method_12_code
def yX6_wordHere : MethodName := ⟨RX6, "wordHere", "()I"⟩
abbrev cX6_readPlayer : ByteArray := prog_8_method_13_code
def yX6_readPlayer : MethodName := ⟨RX6, "readPlayer", "()Z"⟩
abbrev cX6_readNumber : ByteArray := prog_8_method_14_code
def yX6_readNumber : MethodName := ⟨RX6, "readNumber", "(II)Z"⟩
abbrev cX6_readSign : ByteArray := prog_8_method_15_code
def yX6_readSign : MethodName := ⟨RX6, "readSign", "()Z"⟩
abbrev cX6_misplaced : ByteArray := prog_8_method_16_code
def yX6_misplaced : MethodName := ⟨RX6, "misplaced", "()Z"⟩
abbrev cX6_fail : ByteArray := prog_8_method_17_code
def yX6_fail : MethodName := ⟨RX6, "fail", "(II)Z"⟩
def RX7 : String := "HatNet$Renumbering"
def TX7 : u_T := fun k => match k with
  | 0 => ("HatNet$Renumbering", "game", "LHatNet$Game;", true)
  | 1 => ("HatNet$Renumbering", "image", "[I", true)
  | _ => ("HatNet$Renumbering", "carried", "[I", true)
def tyX7 : Nat → FieldType := fun k => match k with
  | 0 => .object "HatNet$Game"
  | 1 => .array .int
  | _ => .array .int
abbrev wsX70 : List Cond := u_ws RX7 TX7 3
theorem nmX7 : ∀ a, a < 3 → ∀ b, b < 3 → a ≠ b → (TX7 a).2.1 ≠ (TX7 b).2.1 := by decide +kernel
theorem tyX7_ok : ∀ k, k < 3 → parseFieldDescriptor (TX7 k).2.2.1 = some (tyX7 k) := by decide +kernel
abbrev cX7_init : ByteArray := prog_9_method_1_code
def yX7_init : MethodName := ⟨RX7, "<init>", "(LHatNet$Game;)V"⟩
abbrev cX7_howMany : ByteArray := prog_9_method_2_code
def yX7_howMany : MethodName := ⟨RX7, "howMany", "(Z)I"⟩
abbrev cX7_swapKeeps : ByteArray := prog_9_method_3_code
def yX7_swapKeeps : MethodName := ⟨RX7, "swapKeeps", "(II)Z"⟩
abbrev cX7_someBrings : ByteArray := prog_9_method_4_code
def yX7_someBrings : MethodName := ⟨RX7, "someBrings", "(IIZ)Z"⟩
abbrev cX7_stay : ByteArray := prog_9_method_5_code
def yX7_stay : MethodName := ⟨RX7, "stay", "()V"⟩
abbrev cX7_bringForward : ByteArray := prog_9_method_6_code
def yX7_bringForward : MethodName := ⟨RX7, "bringForward", "(II)V"⟩
abbrev cX7_orderBehind : ByteArray := prog_9_method_7_code
def yX7_orderBehind : MethodName := ⟨RX7, "orderBehind", "(II)V"⟩
abbrev cX7_fits : ByteArray := prog_9_method_8_code
def yX7_fits : MethodName := ⟨RX7, "fits", "()Z"⟩
abbrev cX7_keepsAll : ByteArray := prog_9_method_9_code
def yX7_keepsAll : MethodName := ⟨RX7, "keepsAll", "()Z"⟩
abbrev cX7_keeps : ByteArray := prog_9_method_10_code
def yX7_keeps : MethodName := ⟨RX7, "keeps", "(I)Z"⟩
def RX8 : String := "HatNet$Tokens"
def TX8 : u_T := fun k => match k with
  | 0 => ("HatNet$Tokens", "kind", "[I", true)
  | 1 => ("HatNet$Tokens", "start", "[I", true)
  | 2 => ("HatNet$Tokens", "value", "[I", true)
  | 3 => ("HatNet$Tokens", "text", "[B", true)
  | _ => ("HatNet$Tokens", "length", "I", false)
def tyX8 : Nat → FieldType := fun k => match k with
  | 0 => .array .int
  | 1 => .array .int
  | 2 => .array .int
  | 3 => .array .byte
  | _ => .int
abbrev wsX80 : List Cond := u_ws RX8 TX8 5
theorem nmX8 : ∀ a, a < 5 → ∀ b, b < 5 → a ≠ b → (TX8 a).2.1 ≠ (TX8 b).2.1 := by decide +kernel
theorem tyX8_ok : ∀ k, k < 5 → parseFieldDescriptor (TX8 k).2.2.1 = some (tyX8 k) := by decide +kernel
abbrev cX8_init : ByteArray := prog_10_method_1_code
def yX8_init : MethodName := ⟨RX8, "<init>", "([B)V"⟩
abbrev cX8_split : ByteArray := prog_10_method_2_code
def yX8_split : MethodName := ⟨RX8, "split", "(I)V"⟩
abbrev cX8_afterBlanks : ByteArray := prog_10_method_3_code
def yX8_afterBlanks : MethodName := ⟨RX8, "afterBlanks", "(I)I"⟩
abbrev cX8_takeToken : ByteArray := prog_10_method_4_code
def yX8_takeToken : MethodName := ⟨RX8, "takeToken", "(II)I"⟩
abbrev cX8_takeWord : ByteArray := prog_10_method_5_code
def yX8_takeWord : MethodName := ⟨RX8, "takeWord", "(II)I"⟩
abbrev cX8_takeNumber : ByteArray := prog_10_method_6_code
def yX8_takeNumber : MethodName := ⟨RX8, "takeNumber", "(II)I"⟩
abbrev cX8_meaning : ByteArray := prog_10_method_7_code
def yX8_meaning : MethodName := ⟨RX8, "meaning", "(II)I"⟩
abbrev cX8_spelling : ByteArray := prog_10_method_8_code
def yX8_spelling : MethodName := ⟨RX8, "spelling", "(I)Ljava/lang/String;"⟩
abbrev cX8_isWord : ByteArray := prog_10_method_9_code
def yX8_isWord : MethodName := ⟨RX8, "isWord", "(IILjava/lang/String;)Z"⟩
abbrev cX8_isLetter : ByteArray := prog_10_method_10_code
def yX8_isLetter : MethodName := ⟨RX8, "isLetter", "(B)Z"⟩
abbrev cX8_isDigit : ByteArray := prog_10_method_11_code
def yX8_isDigit : MethodName := ⟨RX8, "isDigit", "(B)Z"⟩
def RX9 : String := "HatNet$Ways"
def TX9 : u_T := fun k => match k with
  | 0 => ("HatNet$Ways", "colourings", "LHatNet$Colourings;", true)
  | 1 => ("HatNet$Ways", "game", "LHatNet$Game;", true)
  | 2 => ("HatNet$Ways", "rightIf", "[[J", true)
  | 3 => ("HatNet$Ways", "open", "[[J", true)
  | 4 => ("HatNet$Ways", "colours", "[I", true)
  | 5 => ("HatNet$Ways", "picked", "[I", true)
  | 6 => ("HatNet$Ways", "entries", "I", false)
  | 7 => ("HatNet$Ways", "words", "I", false)
  | 8 => ("HatNet$Ways", "won", "I", false)
  | _ => ("HatNet$Ways", "fewestLost", "I", false)
def tyX9 : Nat → FieldType := fun k => match k with
  | 0 => .object "HatNet$Colourings"
  | 1 => .object "HatNet$Game"
  | 2 => .array (.array .long)
  | 3 => .array (.array .long)
  | 4 => .array .int
  | 5 => .array .int
  | 6 => .int
  | 7 => .int
  | 8 => .int
  | _ => .int
abbrev wsX90 : List Cond := u_ws RX9 TX9 10
theorem nmX9 : ∀ a, a < 10 → ∀ b, b < 10 → a ≠ b → (TX9 a).2.1 ≠ (TX9 b).2.1 := by decide +kernel
theorem tyX9_ok : ∀ k, k < 10 → parseFieldDescriptor (TX9 k).2.2.1 = some (tyX9 k) := by decide +kernel
abbrev cX9_init : ByteArray := prog_11_method_1_code
def yX9_init : MethodName := ⟨RX9, "<init>", "(LHatNet$Colourings;)V"⟩
abbrev cX9_goThrough : ByteArray := prog_11_method_2_code
def yX9_goThrough : MethodName := ⟨RX9, "goThrough", "()V"⟩
abbrev cX9_someHasOneColour : ByteArray := prog_11_method_3_code
def yX9_someHasOneColour : MethodName := ⟨RX9, "someHasOneColour", "()Z"⟩
abbrev cX9_layOut : ByteArray := prog_11_method_4_code
def yX9_layOut : MethodName := ⟨RX9, "layOut", "()V"⟩
abbrev cX9_layOutPlayer : ByteArray := prog_11_method_5_code
def yX9_layOutPlayer : MethodName := ⟨RX9, "layOutPlayer", "(I)V"⟩
abbrev cX9_settle : ByteArray := prog_11_method_6_code
def yX9_settle : MethodName := ⟨RX9, "settle", "(I)V"⟩
abbrev cX9_stillOpen : ByteArray := prog_11_method_7_code
def yX9_stillOpen : MethodName := ⟨RX9, "stillOpen", "()I"⟩
abbrev cX9_pickNext : ByteArray := prog_11_method_8_code
def yX9_pickNext : MethodName := ⟨RX9, "pickNext", "()I"⟩
def RX10 : String := "HatNet"
def TX10 : u_T := fun k => match k with
  | 0 => ("HatNet", "game", "LHatNet$Game;", true)
  | 1 => ("HatNet", "colourings", "LHatNet$Colourings;", true)
  | 2 => ("HatNet", "network", "LHatNet$Network;", true)
  | 3 => ("HatNet", "renumbering", "LHatNet$Renumbering;", true)
  | 4 => ("HatNet", "acts", "LHatNet$Acts;", true)
  | 5 => ("HatNet", "allWays", "LHatNet$Ways;", true)
  | 6 => ("HatNet", "history", "LHatNet$History;", true)
  | 7 => ("HatNet", "tape", "[B", true)
  | 8 => ("HatNet", "reader", "LHatNet$Reader;", true)
  | 9 => ("HatNet", "printer", "LHatNet$Printer;", true)
  | 10 => ("HatNet", "spare", "LHatNet$Game;", true)
  | 11 => ("HatNet", "taped", "I", false)
  | 12 => ("HatNet", "latest", "I", false)
  | 13 => ("HatNet", "faultKind", "I", false)
  | _ => ("HatNet", "faultPlace", "I", false)
def tyX10 : Nat → FieldType := fun k => match k with
  | 0 => .object "HatNet$Game"
  | 1 => .object "HatNet$Colourings"
  | 2 => .object "HatNet$Network"
  | 3 => .object "HatNet$Renumbering"
  | 4 => .object "HatNet$Acts"
  | 5 => .object "HatNet$Ways"
  | 6 => .object "HatNet$History"
  | 7 => .array .byte
  | 8 => .object "HatNet$Reader"
  | 9 => .object "HatNet$Printer"
  | 10 => .object "HatNet$Game"
  | 11 => .int
  | 12 => .int
  | 13 => .int
  | _ => .int
abbrev wsX100 : List Cond := u_ws RX10 TX10 15
theorem nmX10 : ∀ a, a < 15 → ∀ b, b < 15 → a ≠ b → (TX10 a).2.1 ≠ (TX10 b).2.1 := by decide +kernel
theorem tyX10_ok : ∀ k, k < 15 → parseFieldDescriptor (TX10 k).2.2.1 = some (tyX10 k) := by decide +kernel
abbrev cX10_init : ByteArray := prog_1_method_1_code
def yX10_init : MethodName := ⟨RX10, "<init>", "()V"⟩
abbrev cX10_status : ByteArray := prog_1_method_2_code
def yX10_status : MethodName := ⟨RX10, "status", "()I"⟩
abbrev cX10_feed : ByteArray := prog_1_method_3_code
def yX10_feed : MethodName := ⟨RX10, "feed", "(IIIII)I"⟩
abbrev cX10_load : ByteArray := prog_1_method_4_code
def yX10_load : MethodName := ⟨RX10, "load", "(I)I"⟩
abbrev cX10_fault : ByteArray := prog_1_method_5_code
def yX10_fault : MethodName := ⟨RX10, "fault", "(I)I"⟩
abbrev cX10_many : ByteArray := prog_1_method_6_code
def yX10_many : MethodName := ⟨RX10, "many", "(I)I"⟩
abbrev cX10_player : ByteArray := prog_1_method_7_code
def yX10_player : MethodName := ⟨RX10, "player", "(II)I"⟩
abbrev cX10_guess : ByteArray := prog_1_method_8_code
def yX10_guess : MethodName := ⟨RX10, "guess", "(II)I"⟩
abbrev cX10_situation : ByteArray := prog_1_method_9_code
def yX10_situation : MethodName := ⟨RX10, "situation", "(II)I"⟩
abbrev cX10_colour : ByteArray := prog_1_method_10_code
def yX10_colour : MethodName := ⟨RX10, "colour", "(II)I"⟩
abbrev cX10_often : ByteArray := prog_1_method_11_code
def yX10_often : MethodName := ⟨RX10, "often", "(II)I"⟩
abbrev cX10_heeds : ByteArray := prog_1_method_12_code
def yX10_heeds : MethodName := ⟨RX10, "heeds", "(II)I"⟩
abbrev cX10_heeded : ByteArray := prog_1_method_13_code
def yX10_heeded : MethodName := ⟨RX10, "heeded", "(I)I"⟩
abbrev cX10_fooled : ByteArray := prog_1_method_14_code
def yX10_fooled : MethodName := ⟨RX10, "fooled", "(II)I"⟩
abbrev cX10_right : ByteArray := prog_1_method_15_code
def yX10_right : MethodName := ⟨RX10, "right", "(I)I"⟩
abbrev cX10_lost : ByteArray := prog_1_method_16_code
def yX10_lost : MethodName := ⟨RX10, "lost", "(I)I"⟩
abbrev cX10_exact : ByteArray := prog_1_method_17_code
def yX10_exact : MethodName := ⟨RX10, "exact", "(I)I"⟩
abbrev cX10_alone : ByteArray := prog_1_method_18_code
def yX10_alone : MethodName := ⟨RX10, "alone", "(I)I"⟩
abbrev cX10_both : ByteArray := prog_1_method_19_code
def yX10_both : MethodName := ⟨RX10, "both", "(II)I"⟩
abbrev cX10_without : ByteArray := prog_1_method_20_code
def yX10_without : MethodName := ⟨RX10, "without", "(I)I"⟩
abbrev cX10_together : ByteArray := prog_1_method_21_code
def yX10_together : MethodName := ⟨RX10, "together", "(I)I"⟩
abbrev cX10_crowd : ByteArray := prog_1_method_22_code
def yX10_crowd : MethodName := ⟨RX10, "crowd", "(I)I"⟩
abbrev cX10_twice : ByteArray := prog_1_method_23_code
def yX10_twice : MethodName := ⟨RX10, "twice", "()I"⟩
abbrev cX10_blinded : ByteArray := prog_1_method_24_code
def yX10_blinded : MethodName := ⟨RX10, "blinded", "(II)I"⟩
abbrev cX10_weakest : ByteArray := prog_1_method_25_code
def yX10_weakest : MethodName := ⟨RX10, "weakest", "(Z)I"⟩
abbrev cX10_needed : ByteArray := prog_1_method_26_code
def yX10_needed : MethodName := ⟨RX10, "needed", "()I"⟩
abbrev cX10_known : ByteArray := prog_1_method_27_code
def yX10_known : MethodName := ⟨RX10, "known", "(II)I"⟩
abbrev cX10_nearest : ByteArray := prog_1_method_28_code
def yX10_nearest : MethodName := ⟨RX10, "nearest", "(II)I"⟩
abbrev cX10_atLeast : ByteArray := prog_1_method_29_code
def yX10_atLeast : MethodName := ⟨RX10, "atLeast", "(I)I"⟩
abbrev cX10_acyclic : ByteArray := prog_1_method_30_code
def yX10_acyclic : MethodName := ⟨RX10, "acyclic", "()I"⟩
abbrev cX10_always : ByteArray := prog_1_method_31_code
def yX10_always : MethodName := ⟨RX10, "always", "()I"⟩
abbrev cX10_blind : ByteArray := prog_1_method_32_code
def yX10_blind : MethodName := ⟨RX10, "blind", "()I"⟩
abbrev cX10_share : ByteArray := prog_1_method_33_code
def yX10_share : MethodName := ⟨RX10, "share", "(II)I"⟩
abbrev cX10_least : ByteArray := prog_1_method_34_code
def yX10_least : MethodName := ⟨RX10, "least", "()I"⟩
abbrev cX10_clique : ByteArray := prog_1_method_35_code
def yX10_clique : MethodName := ⟨RX10, "clique", "()I"⟩
abbrev cX10_strongest : ByteArray := prog_1_method_36_code
def yX10_strongest : MethodName := ⟨RX10, "strongest", "()I"⟩
abbrev cX10_sure : ByteArray := prog_1_method_37_code
def yX10_sure : MethodName := ⟨RX10, "sure", "()I"⟩
abbrev cX10_best : ByteArray := prog_1_method_38_code
def yX10_best : MethodName := ⟨RX10, "best", "(I)I"⟩
abbrev cX10_bestAt : ByteArray := prog_1_method_39_code
def yX10_bestAt : MethodName := ⟨RX10, "bestAt", "(II)I"⟩
abbrev cX10_bettered : ByteArray := prog_1_method_40_code
def yX10_bettered : MethodName := ⟨RX10, "bettered", "()I"⟩
abbrev cX10_ways : ByteArray := prog_1_method_41_code
def yX10_ways : MethodName := ⟨RX10, "ways", "(I)I"⟩
abbrev cX10_search : ByteArray := prog_1_method_42_code
def yX10_search : MethodName := ⟨RX10, "search", "(III)I"⟩
abbrev cX10_renumber : ByteArray := prog_1_method_43_code
def yX10_renumber : MethodName := ⟨RX10, "renumber", "(I)I"⟩
abbrev cX10_alike : ByteArray := prog_1_method_44_code
def yX10_alike : MethodName := ⟨RX10, "alike", "(II)I"⟩
abbrev cX10_far : ByteArray := prog_1_method_45_code
def yX10_far : MethodName := ⟨RX10, "far", "(II)I"⟩
abbrev cX10_shape : ByteArray := prog_1_method_46_code
def yX10_shape : MethodName := ⟨RX10, "shape", "()I"⟩
abbrev cX10_hub : ByteArray := prog_1_method_47_code
def yX10_hub : MethodName := ⟨RX10, "hub", "()I"⟩
abbrev cX10_part : ByteArray := prog_1_method_48_code
def yX10_part : MethodName := ⟨RX10, "part", "(I)I"⟩
abbrev cX10_set : ByteArray := prog_1_method_49_code
def yX10_set : MethodName := ⟨RX10, "set", "(III)I"⟩
abbrev cX10_take : ByteArray := prog_1_method_50_code
def yX10_take : MethodName := ⟨RX10, "take", "(I)I"⟩
abbrev cX10_better : ByteArray := prog_1_method_51_code
def yX10_better : MethodName := ⟨RX10, "better", "()I"⟩
abbrev cX10_build : ByteArray := prog_1_method_52_code
def yX10_build : MethodName := ⟨RX10, "build", "(I)I"⟩
abbrev cX10_rename : ByteArray := prog_1_method_53_code
def yX10_rename : MethodName := ⟨RX10, "rename", "(III)I"⟩
abbrev cX10_see : ByteArray := prog_1_method_54_code
def yX10_see : MethodName := ⟨RX10, "see", "(IIZ)I"⟩
abbrev cX10_shuffle : ByteArray := prog_1_method_55_code
def yX10_shuffle : MethodName := ⟨RX10, "shuffle", "(I)I"⟩
abbrev cX10_undo : ByteArray := prog_1_method_56_code
def yX10_undo : MethodName := ⟨RX10, "undo", "()I"⟩
abbrev cX10_print : ByteArray := prog_1_method_57_code
def yX10_print : MethodName := ⟨RX10, "print", "()I"⟩
abbrev cX10_out : ByteArray := prog_1_method_58_code
def yX10_out : MethodName := ⟨RX10, "out", "(I)I"⟩
abbrev cX10_give : ByteArray := prog_1_method_59_code
def yX10_give : MethodName := ⟨RX10, "give", "(I)I"⟩
abbrev cX10_refuse : ByteArray := prog_1_method_60_code
def yX10_refuse : MethodName := ⟨RX10, "refuse", "(I)I"⟩
abbrev cX10_tapeInt : ByteArray := prog_1_method_61_code
def yX10_tapeInt : MethodName := ⟨RX10, "tapeInt", "(I)V"⟩
abbrev cX10_noPlayer : ByteArray := prog_1_method_62_code
def yX10_noPlayer : MethodName := ⟨RX10, "noPlayer", "(I)Z"⟩
abbrev cX10_noColour : ByteArray := prog_1_method_63_code
def yX10_noColour : MethodName := ⟨RX10, "noColour", "(II)Z"⟩
abbrev cX10_noSituation : ByteArray := prog_1_method_64_code
def yX10_noSituation : MethodName := ⟨RX10, "noSituation", "(II)Z"⟩
abbrev cX10_noColouring : ByteArray := prog_1_method_65_code
def yX10_noColouring : MethodName := ⟨RX10, "noColouring", "(I)Z"⟩
abbrev cX10_noSet : ByteArray := prog_1_method_66_code
def yX10_noSet : MethodName := ⟨RX10, "noSet", "(I)Z"⟩
abbrev cX10_noSeed : ByteArray := prog_1_method_67_code
def yX10_noSeed : MethodName := ⟨RX10, "noSeed", "(I)Z"⟩
abbrev cX10_noRightCount : ByteArray := prog_1_method_68_code
def yX10_noRightCount : MethodName := ⟨RX10, "noRightCount", "(I)Z"⟩
abbrev cX10_pairTrouble : ByteArray := prog_1_method_69_code
def yX10_pairTrouble : MethodName := ⟨RX10, "pairTrouble", "(II)I"⟩
abbrev cX10_sightTrouble : ByteArray := prog_1_method_70_code
def yX10_sightTrouble : MethodName := ⟨RX10, "sightTrouble", "(II)I"⟩
abbrev cX10_commonDivisor : ByteArray := prog_1_method_71_code
def yX10_commonDivisor : MethodName := ⟨RX10, "commonDivisor", "(II)I"⟩
abbrev cX10_lengthen : ByteArray := prog_1_method_72_code
def yX10_lengthen : MethodName := ⟨RX10, "lengthen", "([IIII)I"⟩
def RX11 : String := "HatNetModel"
def TX11 : u_T := fun k => match k with
  | 0 => ("HatNetModel", "status", "I", false)
  | 1 => ("HatNetModel", "thrown", "I", false)
  | 2 => ("HatNetModel", "now", "[I", true)
  | 3 => ("HatNetModel", "read", "[I", true)
  | 4 => ("HatNetModel", "past", "[I", true)
  | 5 => ("HatNetModel", "aside", "[I", true)
  | 6 => ("HatNetModel", "pastMany", "I", false)
  | 7 => ("HatNetModel", "colour", "[I", true)
  | 8 => ("HatNetModel", "right", "[I", true)
  | 9 => ("HatNetModel", "colour2", "[I", true)
  | 10 => ("HatNetModel", "lone", "[I", true)
  | 11 => ("HatNetModel", "waysWon", "I", false)
  | 12 => ("HatNetModel", "waysLeast", "I", false)
  | 13 => ("HatNetModel", "becomes", "[I", true)
  | 14 => ("HatNetModel", "renumberings", "I", false)
  | 15 => ("HatNetModel", "keeping", "I", false)
  | 16 => ("HatNetModel", "colour3", "[I", true)
  | 17 => ("HatNetModel", "out", "[I", true)
  | 18 => ("HatNetModel", "outAside", "[I", true)
  | 19 => ("HatNetModel", "outMany", "I", false)
  | 20 => ("HatNetModel", "outLong", "I", false)
  | 21 => ("HatNetModel", "tape", "[B", true)
  | 22 => ("HatNetModel", "taped", "I", false)
  | 23 => ("HatNetModel", "faultKind", "I", false)
  | 24 => ("HatNetModel", "faultAt", "I", false)
  | 25 => ("HatNetModel", "wrong", "I", false)
  | 26 => ("HatNetModel", "wrongAt", "I", false)
  | 27 => ("HatNetModel", "place", "I", false)
  | 28 => ("HatNetModel", "then", "I", false)
  | 29 => ("HatNetModel", "sort", "I", false)
  | 30 => ("HatNetModel", "number", "I", false)
  | 31 => ("HatNetModel", "last", "I", false)
  | 32 => ("HatNetModel", "hatsTold", "I", false)
  | 33 => ("HatNetModel", "guessTold", "I", false)
  | 34 => ("HatNetModel", "word", "J", false)
  | _ => ("HatNetModel", "words", "[J", true)
def tyX11 : Nat → FieldType := fun k => match k with
  | 0 => .int
  | 1 => .int
  | 2 => .array .int
  | 3 => .array .int
  | 4 => .array .int
  | 5 => .array .int
  | 6 => .int
  | 7 => .array .int
  | 8 => .array .int
  | 9 => .array .int
  | 10 => .array .int
  | 11 => .int
  | 12 => .int
  | 13 => .array .int
  | 14 => .int
  | 15 => .int
  | 16 => .array .int
  | 17 => .array .int
  | 18 => .array .int
  | 19 => .int
  | 20 => .int
  | 21 => .array .byte
  | 22 => .int
  | 23 => .int
  | 24 => .int
  | 25 => .int
  | 26 => .int
  | 27 => .int
  | 28 => .int
  | 29 => .int
  | 30 => .int
  | 31 => .int
  | 32 => .int
  | 33 => .int
  | 34 => .long
  | _ => .array .long
abbrev wsX110 : List Cond := u_ws RX11 TX11 36
theorem nmX11 : ∀ a, a < 36 → ∀ b, b < 36 → a ≠ b → (TX11 a).2.1 ≠ (TX11 b).2.1 := by decide +kernel
theorem tyX11_ok : ∀ k, k < 36 → parseFieldDescriptor (TX11 k).2.2.1 = some (tyX11 k) := by decide +kernel
abbrev cX11_init : ByteArray := prog_13_method_1_code
def yX11_init : MethodName := ⟨RX11, "<init>", "()V"⟩
abbrev cX11_status : ByteArray := prog_13_method_3_code
def yX11_status : MethodName := ⟨RX11, "status", "()I"⟩
abbrev cX11_refuse : ByteArray := prog_13_method_4_code
def yX11_refuse : MethodName := ⟨RX11, "refuse", "(I)I"⟩
abbrev cX11_is : ByteArray := prog_13_method_5_code
def yX11_is : MethodName := ⟨RX11, "is", "(I)Z"⟩
abbrev cX11_isIn : ByteArray := prog_13_method_6_code
def yX11_isIn : MethodName := ⟨RX11, "isIn", "(JJJ)Z"⟩
abbrev cX11_has : ByteArray := prog_13_method_7_code
def yX11_has : MethodName := ⟨RX11, "has", "(II)Z"⟩
abbrev cX11_ones : ByteArray := prog_13_method_8_code
def yX11_ones : MethodName := ⟨RX11, "ones", "(I)I"⟩
abbrev cX11_players : ByteArray := prog_13_method_9_code
def yX11_players : MethodName := ⟨RX11, "players", "()I"⟩
abbrev cX11_hats : ByteArray := prog_13_method_10_code
def yX11_hats : MethodName := ⟨RX11, "hats", "(I)I"⟩
abbrev cX11_sees : ByteArray := prog_13_method_11_code
def yX11_sees : MethodName := ⟨RX11, "sees", "(II)Z"⟩
abbrev cX11_all : ByteArray := prog_13_method_12_code
def yX11_all : MethodName := ⟨RX11, "all", "()I"⟩
abbrev cX11_isPlayer : ByteArray := prog_13_method_13_code
def yX11_isPlayer : MethodName := ⟨RX11, "isPlayer", "(I)Z"⟩
abbrev cX11_isSet : ByteArray := prog_13_method_14_code
def yX11_isSet : MethodName := ⟨RX11, "isSet", "(I)Z"⟩
abbrev cX11_entry : ByteArray := prog_13_method_15_code
def yX11_entry : MethodName := ⟨RX11, "entry", "(II)I"⟩
abbrev cX11_enters : ByteArray := prog_13_method_16_code
def yX11_enters : MethodName := ⟨RX11, "enters", "(III)V"⟩
abbrev cX11_colourings : ByteArray := prog_13_method_17_code
def yX11_colourings : MethodName := ⟨RX11, "colourings", "([I)I"⟩
abbrev cX11_colourings_ : ByteArray := prog_13_method_18_code
def yX11_colourings_ : MethodName := ⟨RX11, "colourings", "()I"⟩
abbrev cX11_situations : ByteArray := prog_13_method_19_code
def yX11_situations : MethodName := ⟨RX11, "situations", "([II)I"⟩
abbrev cX11_situations_ : ByteArray := prog_13_method_20_code
def yX11_situations_ : MethodName := ⟨RX11, "situations", "(I)I"⟩
abbrev cX11_lays : ByteArray := prog_13_method_21_code
def yX11_lays : MethodName := ⟨RX11, "lays", "(I)V"⟩
abbrev cX11_situationOf : ByteArray := prog_13_method_23_code
def yX11_situationOf : MethodName := ⟨RX11, "situationOf", "(I)I"⟩
abbrev cX11_laysSeen : ByteArray := prog_13_method_24_code
def yX11_laysSeen : MethodName := ⟨RX11, "laysSeen", "(II)V"⟩
abbrev cX11_rightNow : ByteArray := prog_13_method_25_code
def yX11_rightNow : MethodName := ⟨RX11, "rightNow", "()I"⟩
abbrev cX11_laysRight : ByteArray := prog_13_method_26_code
def yX11_laysRight : MethodName := ⟨RX11, "laysRight", "()V"⟩
abbrev cX11_lostBy : ByteArray := prog_13_method_27_code
def yX11_lostBy : MethodName := ⟨RX11, "lostBy", "(I)I"⟩
abbrev cX11_lostNow : ByteArray := prog_13_method_28_code
def yX11_lostNow : MethodName := ⟨RX11, "lostNow", "()I"⟩
abbrev cX11_isMutual : ByteArray := prog_13_method_29_code
def yX11_isMutual : MethodName := ⟨RX11, "isMutual", "()Z"⟩
abbrev cX11_isLink : ByteArray := prog_13_method_30_code
def yX11_isLink : MethodName := ⟨RX11, "isLink", "(II)Z"⟩
abbrev cX11_links : ByteArray := prog_13_method_31_code
def yX11_links : MethodName := ⟨RX11, "links", "()I"⟩
abbrev cX11_many : ByteArray := prog_13_method_32_code
def yX11_many : MethodName := ⟨RX11, "many", "(I)I"⟩
abbrev cX11_seenBy : ByteArray := prog_13_method_33_code
def yX11_seenBy : MethodName := ⟨RX11, "seenBy", "(I)I"⟩
abbrev cX11_why : ByteArray := prog_13_method_34_code
def yX11_why : MethodName := ⟨RX11, "why", "(ZZ)I"⟩
abbrev cX11_player : ByteArray := prog_13_method_35_code
def yX11_player : MethodName := ⟨RX11, "player", "(II)I"⟩
abbrev cX11_isSituation : ByteArray := prog_13_method_36_code
def yX11_isSituation : MethodName := ⟨RX11, "isSituation", "(II)Z"⟩
abbrev cX11_isColour : ByteArray := prog_13_method_37_code
def yX11_isColour : MethodName := ⟨RX11, "isColour", "(II)Z"⟩
abbrev cX11_isColouring : ByteArray := prog_13_method_38_code
def yX11_isColouring : MethodName := ⟨RX11, "isColouring", "(I)Z"⟩
abbrev cX11_guess : ByteArray := prog_13_method_39_code
def yX11_guess : MethodName := ⟨RX11, "guess", "(II)I"⟩
abbrev cX11_situation : ByteArray := prog_13_method_40_code
def yX11_situation : MethodName := ⟨RX11, "situation", "(II)I"⟩
abbrev cX11_colour : ByteArray := prog_13_method_41_code
def yX11_colour : MethodName := ⟨RX11, "colour", "(II)I"⟩
abbrev cX11_often : ByteArray := prog_13_method_42_code
def yX11_often : MethodName := ⟨RX11, "often", "(II)I"⟩
abbrev cX11_isHeeding : ByteArray := prog_13_method_43_code
def yX11_isHeeding : MethodName := ⟨RX11, "isHeeding", "(II)Z"⟩
abbrev cX11_whySight : ByteArray := prog_13_method_44_code
def yX11_whySight : MethodName := ⟨RX11, "whySight", "(II)I"⟩
abbrev cX11_heeds : ByteArray := prog_13_method_45_code
def yX11_heeds : MethodName := ⟨RX11, "heeds", "(II)I"⟩
abbrev cX11_heeded : ByteArray := prog_13_method_46_code
def yX11_heeded : MethodName := ⟨RX11, "heeded", "(I)I"⟩
abbrev cX11_fooled : ByteArray := prog_13_method_47_code
def yX11_fooled : MethodName := ⟨RX11, "fooled", "(II)I"⟩
abbrev cX11_right : ByteArray := prog_13_method_48_code
def yX11_right : MethodName := ⟨RX11, "right", "(I)I"⟩
abbrev cX11_lost : ByteArray := prog_13_method_49_code
def yX11_lost : MethodName := ⟨RX11, "lost", "(I)I"⟩
abbrev cX11_rightOf : ByteArray := prog_13_method_50_code
def yX11_rightOf : MethodName := ⟨RX11, "rightOf", "(II)I"⟩
abbrev cX11_exact : ByteArray := prog_13_method_51_code
def yX11_exact : MethodName := ⟨RX11, "exact", "(I)I"⟩
abbrev cX11_atLeast : ByteArray := prog_13_method_52_code
def yX11_atLeast : MethodName := ⟨RX11, "atLeast", "(I)I"⟩
abbrev cX11_alone : ByteArray := prog_13_method_53_code
def yX11_alone : MethodName := ⟨RX11, "alone", "(I)I"⟩
abbrev cX11_whyPair : ByteArray := prog_13_method_54_code
def yX11_whyPair : MethodName := ⟨RX11, "whyPair", "(II)I"⟩
abbrev cX11_both : ByteArray := prog_13_method_55_code
def yX11_both : MethodName := ⟨RX11, "both", "(II)I"⟩
abbrev cX11_without : ByteArray := prog_13_method_56_code
def yX11_without : MethodName := ⟨RX11, "without", "(I)I"⟩
abbrev cX11_together : ByteArray := prog_13_method_57_code
def yX11_together : MethodName := ⟨RX11, "together", "(I)I"⟩
abbrev cX11_crowd : ByteArray := prog_13_method_58_code
def yX11_crowd : MethodName := ⟨RX11, "crowd", "(I)I"⟩
abbrev cX11_twice : ByteArray := prog_13_method_59_code
def yX11_twice : MethodName := ⟨RX11, "twice", "()I"⟩
abbrev cX11_lostBlinded : ByteArray := prog_13_method_60_code
def yX11_lostBlinded : MethodName := ⟨RX11, "lostBlinded", "(II)I"⟩
abbrev cX11_blinded : ByteArray := prog_13_method_61_code
def yX11_blinded : MethodName := ⟨RX11, "blinded", "(II)I"⟩
abbrev cX11_weakest : ByteArray := prog_13_method_62_code
def yX11_weakest : MethodName := ⟨RX11, "weakest", "(Z)I"⟩
abbrev cX11_needed : ByteArray := prog_13_method_63_code
def yX11_needed : MethodName := ⟨RX11, "needed", "()I"⟩
abbrev cX11_known : ByteArray := prog_13_method_64_code
def yX11_known : MethodName := ⟨RX11, "known", "(II)I"⟩
abbrev cX11_nearest : ByteArray := prog_13_method_65_code
def yX11_nearest : MethodName := ⟨RX11, "nearest", "(II)I"⟩
abbrev cX11_comesFrom : ByteArray := prog_13_method_66_code
def yX11_comesFrom : MethodName := ⟨RX11, "comesFrom", "(I)I"⟩
abbrev cX11_isAcyclic : ByteArray := prog_13_method_67_code
def yX11_isAcyclic : MethodName := ⟨RX11, "isAcyclic", "()Z"⟩
abbrev cX11_acyclic : ByteArray := prog_13_method_68_code
def yX11_acyclic : MethodName := ⟨RX11, "acyclic", "()I"⟩
abbrev cX11_always : ByteArray := prog_13_method_69_code
def yX11_always : MethodName := ⟨RX11, "always", "()I"⟩
abbrev cX11_isBlind : ByteArray := prog_13_method_70_code
def yX11_isBlind : MethodName := ⟨RX11, "isBlind", "(I)Z"⟩
abbrev cX11_blind : ByteArray := prog_13_method_71_code
def yX11_blind : MethodName := ⟨RX11, "blind", "()I"⟩
abbrev cX11_twelfths : ByteArray := prog_13_method_72_code
def yX11_twelfths : MethodName := ⟨RX11, "twelfths", "(I)I"⟩
abbrev cX11_common : ByteArray := prog_13_method_73_code
def yX11_common : MethodName := ⟨RX11, "common", "(II)I"⟩
abbrev cX11_share : ByteArray := prog_13_method_74_code
def yX11_share : MethodName := ⟨RX11, "share", "(II)I"⟩
abbrev cX11_least : ByteArray := prog_13_method_75_code
def yX11_least : MethodName := ⟨RX11, "least", "()I"⟩
abbrev cX11_isClique : ByteArray := prog_13_method_76_code
def yX11_isClique : MethodName := ⟨RX11, "isClique", "(I)Z"⟩
abbrev cX11_clique : ByteArray := prog_13_method_77_code
def yX11_clique : MethodName := ⟨RX11, "clique", "()I"⟩
abbrev cX11_strongest : ByteArray := prog_13_method_78_code
def yX11_strongest : MethodName := ⟨RX11, "strongest", "()I"⟩
abbrev cX11_sure : ByteArray := prog_13_method_79_code
def yX11_sure : MethodName := ⟨RX11, "sure", "()I"⟩
abbrev cX11_laysLone : ByteArray := prog_13_method_80_code
def yX11_laysLone : MethodName := ⟨RX11, "laysLone", "(I)V"⟩
abbrev cX11_bestIn : ByteArray := prog_13_method_81_code
def yX11_bestIn : MethodName := ⟨RX11, "bestIn", "(II)I"⟩
abbrev cX11_lostWithBest : ByteArray := prog_13_method_82_code
def yX11_lostWithBest : MethodName := ⟨RX11, "lostWithBest", "(I)I"⟩
abbrev cX11_best : ByteArray := prog_13_method_83_code
def yX11_best : MethodName := ⟨RX11, "best", "(I)I"⟩
abbrev cX11_bestAt : ByteArray := prog_13_method_84_code
def yX11_bestAt : MethodName := ⟨RX11, "bestAt", "(II)I"⟩
abbrev cX11_bettered : ByteArray := prog_13_method_85_code
def yX11_bettered : MethodName := ⟨RX11, "bettered", "()I"⟩
abbrev cX11_takes : ByteArray := prog_13_method_86_code
def yX11_takes : MethodName := ⟨RX11, "takes", "(I)I"⟩
abbrev cX11_betters : ByteArray := prog_13_method_87_code
def yX11_betters : MethodName := ⟨RX11, "betters", "()I"⟩
abbrev cX11_waysMany : ByteArray := prog_13_method_88_code
def yX11_waysMany : MethodName := ⟨RX11, "waysMany", "()I"⟩
abbrev cX11_copies : ByteArray := prog_13_method_89_code
def yX11_copies : MethodName := ⟨RX11, "copies", "([I[I)V"⟩
abbrev cX11_nextWay : ByteArray := prog_13_method_90_code
def yX11_nextWay : MethodName := ⟨RX11, "nextWay", "()Z"⟩
abbrev cX11_ways : ByteArray := prog_13_method_91_code
def yX11_ways : MethodName := ⟨RX11, "ways", "(I)I"⟩
abbrev cX11_draws : ByteArray := prog_13_method_92_code
def yX11_draws : MethodName := ⟨RX11, "draws", "(I)V"⟩
abbrev cX11_search : ByteArray := prog_13_method_93_code
def yX11_search : MethodName := ⟨RX11, "search", "(III)I"⟩
abbrev cX11_isRenumbering : ByteArray := prog_13_method_94_code
def yX11_isRenumbering : MethodName := ⟨RX11, "isRenumbering", "()Z"⟩
abbrev cX11_isKeeping : ByteArray := prog_13_method_95_code
def yX11_isKeeping : MethodName := ⟨RX11, "isKeeping", "()Z"⟩
abbrev cX11_renumbers : ByteArray := prog_13_method_96_code
def yX11_renumbers : MethodName := ⟨RX11, "renumbers", "(II)V"⟩
abbrev cX11_renumber : ByteArray := prog_13_method_97_code
def yX11_renumber : MethodName := ⟨RX11, "renumber", "(I)I"⟩
abbrev cX11_alike : ByteArray := prog_13_method_98_code
def yX11_alike : MethodName := ⟨RX11, "alike", "(II)I"⟩
abbrev cX11_far : ByteArray := prog_13_method_99_code
def yX11_far : MethodName := ⟨RX11, "far", "(II)I"⟩
abbrev cX11_along : ByteArray := prog_13_method_100_code
def yX11_along : MethodName := ⟨RX11, "along", "(II)I"⟩
abbrev cX11_part : ByteArray := prog_13_method_101_code
def yX11_part : MethodName := ⟨RX11, "part", "(I)I"⟩
abbrev cX11_isRing : ByteArray := prog_13_method_102_code
def yX11_isRing : MethodName := ⟨RX11, "isRing", "(I)Z"⟩
abbrev cX11_hubOf : ByteArray := prog_13_method_103_code
def yX11_hubOf : MethodName := ⟨RX11, "hubOf", "()I"⟩
abbrev cX11_isTree : ByteArray := prog_13_method_104_code
def yX11_isTree : MethodName := ⟨RX11, "isTree", "()Z"⟩
abbrev cX11_shape : ByteArray := prog_13_method_105_code
def yX11_shape : MethodName := ⟨RX11, "shape", "()I"⟩
abbrev cX11_hub : ByteArray := prog_13_method_106_code
def yX11_hub : MethodName := ⟨RX11, "hub", "()I"⟩
abbrev cX11_remembers : ByteArray := prog_13_method_107_code
def yX11_remembers : MethodName := ⟨RX11, "remembers", "()V"⟩
abbrev cX11_set : ByteArray := prog_13_method_108_code
def yX11_set : MethodName := ⟨RX11, "set", "(III)I"⟩
abbrev cX11_isOther : ByteArray := prog_13_method_109_code
def yX11_isOther : MethodName := ⟨RX11, "isOther", "()Z"⟩
abbrev cX11_isAct : ByteArray := prog_13_method_110_code
def yX11_isAct : MethodName := ⟨RX11, "isAct", "()V"⟩
abbrev cX11_take : ByteArray := prog_13_method_111_code
def yX11_take : MethodName := ⟨RX11, "take", "(I)I"⟩
abbrev cX11_better : ByteArray := prog_13_method_112_code
def yX11_better : MethodName := ⟨RX11, "better", "()I"⟩
abbrev cX11_cliqueGuess : ByteArray := prog_13_method_113_code
def yX11_cliqueGuess : MethodName := ⟨RX11, "cliqueGuess", "(IIII)I"⟩
abbrev cX11_build : ByteArray := prog_13_method_114_code
def yX11_build : MethodName := ⟨RX11, "build", "(I)I"⟩
abbrev cX11_renamed : ByteArray := prog_13_method_115_code
def yX11_renamed : MethodName := ⟨RX11, "renamed", "(III)I"⟩
abbrev cX11_rename : ByteArray := prog_13_method_116_code
def yX11_rename : MethodName := ⟨RX11, "rename", "(III)I"⟩
abbrev cX11_see : ByteArray := prog_13_method_117_code
def yX11_see : MethodName := ⟨RX11, "see", "(IIZ)I"⟩
abbrev cX11_shuffle : ByteArray := prog_13_method_118_code
def yX11_shuffle : MethodName := ⟨RX11, "shuffle", "(I)I"⟩
abbrev cX11_undo : ByteArray := prog_13_method_119_code
def yX11_undo : MethodName := ⟨RX11, "undo", "()I"⟩
abbrev cX11_says : ByteArray := prog_13_method_120_code
def yX11_says : MethodName := ⟨RX11, "says", "(I)V"⟩
abbrev cX11_saysWord : ByteArray := prog_13_method_121_code
def yX11_saysWord : MethodName := ⟨RX11, "saysWord", "(Ljava/lang/String;)V"⟩
abbrev cX11_saysNumber : ByteArray := prog_13_method_122_code
def yX11_saysNumber : MethodName := ⟨RX11, "saysNumber", "(I)V"⟩
abbrev cX11_saysTwo : ByteArray := prog_13_method_123_code
def yX11_saysTwo : MethodName := ⟨RX11, "saysTwo", "(Ljava/lang/String;II)V"⟩
abbrev cX11_saysGame : ByteArray := prog_13_method_124_code
def yX11_saysGame : MethodName := ⟨RX11, "saysGame", "()V"⟩
abbrev cX11_print : ByteArray := prog_13_method_125_code
def yX11_print : MethodName := ⟨RX11, "print", "()I"⟩
abbrev cX11_out : ByteArray := prog_13_method_126_code
def yX11_out : MethodName := ⟨RX11, "out", "(I)I"⟩
abbrev cX11_feeds : ByteArray := prog_13_method_127_code
def yX11_feeds : MethodName := ⟨RX11, "feeds", "(I)V"⟩
abbrev cX11_feed : ByteArray := prog_13_method_128_code
def yX11_feed : MethodName := ⟨RX11, "feed", "(IIIII)I"⟩
abbrev cX11_isOf : ByteArray := prog_13_method_129_code
def yX11_isOf : MethodName := ⟨RX11, "isOf", "(III)Z"⟩
abbrev cX11_reads : ByteArray := prog_13_method_130_code
def yX11_reads : MethodName := ⟨RX11, "reads", "()V"⟩
abbrev cX11_good : ByteArray := prog_13_method_131_code
def yX11_good : MethodName := ⟨RX11, "good", "()Z"⟩
abbrev cX11_must : ByteArray := prog_13_method_132_code
def yX11_must : MethodName := ⟨RX11, "must", "(ZI)V"⟩
abbrev cX11_goesOn : ByteArray := prog_13_method_133_code
def yX11_goesOn : MethodName := ⟨RX11, "goesOn", "()V"⟩
abbrev cX11_isWord : ByteArray := prog_13_method_134_code
def yX11_isWord : MethodName := ⟨RX11, "isWord", "(I)Z"⟩
abbrev cX11_takesNumber : ByteArray := prog_13_method_135_code
def yX11_takesNumber : MethodName := ⟨RX11, "takesNumber", "(II)I"⟩
abbrev cX11_takesPlayer : ByteArray := prog_13_method_136_code
def yX11_takesPlayer : MethodName := ⟨RX11, "takesPlayer", "(I)I"⟩
abbrev cX11_readsHats : ByteArray := prog_13_method_137_code
def yX11_readsHats : MethodName := ⟨RX11, "readsHats", "()V"⟩
abbrev cX11_readsSight : ByteArray := prog_13_method_138_code
def yX11_readsSight : MethodName := ⟨RX11, "readsSight", "(Z)V"⟩
abbrev cX11_fills : ByteArray := prog_13_method_139_code
def yX11_fills : MethodName := ⟨RX11, "fills", "(III)V"⟩
abbrev cX11_readsTable : ByteArray := prog_13_method_140_code
def yX11_readsTable : MethodName := ⟨RX11, "readsTable", "(I)V"⟩
abbrev cX11_readsGuess : ByteArray := prog_13_method_141_code
def yX11_readsGuess : MethodName := ⟨RX11, "readsGuess", "()V"⟩
abbrev cX11_line : ByteArray := prog_13_method_142_code
def yX11_line : MethodName := ⟨RX11, "line", "()V"⟩
abbrev cX11_load : ByteArray := prog_13_method_143_code
def yX11_load : MethodName := ⟨RX11, "load", "(I)I"⟩
abbrev cX11_fault : ByteArray := prog_13_method_144_code
def yX11_fault : MethodName := ⟨RX11, "fault", "(I)I"⟩
def RJ6 : String := "java/lang/Integer"
def TJ6 : u_T := fun k => match k with
  | _ => ("", "", "", false)
def tyJ6 : Nat → FieldType := fun k => match k with
  | _ => .int
abbrev wsJ60 : List Cond := u_ws RJ6 TJ6 0
theorem nmJ6 : ∀ a, a < 0 → ∀ b, b < 0 → a ≠ b → (TJ6 a).2.1 ≠ (TJ6 b).2.1 := by decide +kernel
theorem tyJ6_ok : ∀ k, k < 0 → parseFieldDescriptor (TJ6 k).2.2.1 = some (tyJ6 k) := by decide +kernel
abbrev cJ6_numberOfTrailingZeros_0f7a4 : ByteArray := prog_14_method_48_code
def yJ6_numberOfTrailingZeros_0f7a4 : MethodName := ⟨RJ6, "numberOfTrailingZeros", "(I)I"⟩
abbrev cJ6_bitCount_0f7a4 : ByteArray := prog_14_method_49_code
def yJ6_bitCount_0f7a4 : MethodName := ⟨RJ6, "bitCount", "(I)I"⟩
def RJ13 : String := "java/lang/Long"
def TJ13 : u_T := fun k => match k with
  | _ => ("", "", "", false)
def tyJ13 : Nat → FieldType := fun k => match k with
  | _ => .int
abbrev wsJ130 : List Cond := u_ws RJ13 TJ13 0
theorem nmJ13 : ∀ a, a < 0 → ∀ b, b < 0 → a ≠ b → (TJ13 a).2.1 ≠ (TJ13 b).2.1 := by decide +kernel
theorem tyJ13_ok : ∀ k, k < 0 → parseFieldDescriptor (TJ13 k).2.2.1 = some (tyJ13 k) := by decide +kernel
abbrev cJ13_bitCount_95d88 : ByteArray := prog_15_method_50_code
def yJ13_bitCount_95d88 : MethodName := ⟨RJ13, "bitCount", "(J)I"⟩
def RJ9 : String := "java/lang/Math"
def TJ9 : u_T := fun k => match k with
  | _ => ("", "", "", false)
def tyJ9 : Nat → FieldType := fun k => match k with
  | _ => .int
abbrev wsJ90 : List Cond := u_ws RJ9 TJ9 0
theorem nmJ9 : ∀ a, a < 0 → ∀ b, b < 0 → a ≠ b → (TJ9 a).2.1 ≠ (TJ9 b).2.1 := by decide +kernel
theorem tyJ9_ok : ∀ k, k < 0 → parseFieldDescriptor (TJ9 k).2.2.1 = some (tyJ9 k) := by decide +kernel
abbrev cJ9_floorMod_7cf53 : ByteArray := prog_16_method_50_code
def yJ9_floorMod_7cf53 : MethodName := ⟨RJ9, "floorMod", "(II)I"⟩
abbrev cJ9_max_7cf53 : ByteArray := prog_16_method_65_code
def yJ9_max_7cf53 : MethodName := ⟨RJ9, "max", "(II)I"⟩
abbrev cJ9_min_7cf53 : ByteArray := prog_16_method_69_code
def yJ9_min_7cf53 : MethodName := ⟨RJ9, "min", "(II)I"⟩
def RJ0 : String := "java/lang/String"
def TJ0 : u_T := fun k => match k with
  | _ => ("", "", "", false)
def tyJ0 : Nat → FieldType := fun k => match k with
  | _ => .int
abbrev wsJ00 : List Cond := u_ws RJ0 TJ0 0
theorem nmJ0 : ∀ a, a < 0 → ∀ b, b < 0 → a ≠ b → (TJ0 a).2.1 ≠ (TJ0 b).2.1 := by decide +kernel
theorem tyJ0_ok : ∀ k, k < 0 → parseFieldDescriptor (TJ0 k).2.2.1 = some (tyJ0 k) := by decide +kernel
abbrev cJ0_length_8abf5 : ByteArray := prog_17_method_54_code
def yJ0_length_8abf5 : MethodName := ⟨RJ0, "length", "()I"⟩
abbrev cJ0_charAt_5068e : ByteArray := prog_17_method_56_code
def yJ0_charAt_5068e : MethodName := ⟨RJ0, "charAt", "(I)C"⟩
abbrev cJ0_coder_7d493 : ByteArray := prog_17_method_152_code
def yJ0_coder_7d493 : MethodName := ⟨RJ0, "coder", "()B"⟩
abbrev cJ0_isLatin1_aae02 : ByteArray := prog_17_method_154_code
def yJ0_isLatin1_aae02 : MethodName := ⟨RJ0, "isLatin1", "()Z"⟩
abbrev cJ0_checkIndex_df160 : ByteArray := prog_17_method_155_code
def yJ0_checkIndex_df160 : MethodName := ⟨RJ0, "checkIndex", "(II)V"⟩
def RJ1 : String := "java/lang/StringLatin1"
def TJ1 : u_T := fun k => match k with
  | _ => ("", "", "", false)
def tyJ1 : Nat → FieldType := fun k => match k with
  | _ => .int
abbrev wsJ10 : List Cond := u_ws RJ1 TJ1 0
theorem nmJ1 : ∀ a, a < 0 → ∀ b, b < 0 → a ≠ b → (TJ1 a).2.1 ≠ (TJ1 b).2.1 := by decide +kernel
theorem tyJ1_ok : ∀ k, k < 0 → parseFieldDescriptor (TJ1 k).2.2.1 = some (tyJ1 k) := by decide +kernel
abbrev cJ1_charAt_3b067 : ByteArray := prog_18_method_2_code
def yJ1_charAt_3b067 : MethodName := ⟨RJ1, "charAt", "([BI)C"⟩
def RJ2 : String := "java/lang/StringUTF16"
def TJ2 : u_T := fun k => match k with
  | _ => ("", "", "", false)
def tyJ2 : Nat → FieldType := fun k => match k with
  | _ => .int
abbrev wsJ20 : List Cond := u_ws RJ2 TJ2 0
theorem nmJ2 : ∀ a, a < 0 → ∀ b, b < 0 → a ≠ b → (TJ2 a).2.1 ≠ (TJ2 b).2.1 := by decide +kernel
theorem tyJ2_ok : ∀ k, k < 0 → parseFieldDescriptor (TJ2 k).2.2.1 = some (tyJ2 k) := by decide +kernel
abbrev cJ2_getChar_3b067 : ByteArray := prog_19_method_5_code
def yJ2_getChar_3b067 : MethodName := ⟨RJ2, "getChar", "([BI)C"⟩
abbrev cJ2_length_9d52b : ByteArray := prog_19_method_6_code
def yJ2_length_9d52b : MethodName := ⟨RJ2, "length", "([B)I"⟩
abbrev cJ2_charAt_3b067 : ByteArray := prog_19_method_83_code
def yJ2_charAt_3b067 : MethodName := ⟨RJ2, "charAt", "([BI)C"⟩
abbrev cJ2_checkIndex_2214a : ByteArray := prog_19_method_91_code
def yJ2_checkIndex_2214a : MethodName := ⟨RJ2, "checkIndex", "(I[B)V"⟩
def RJ10 : String := "java/lang/System"
def TJ10 : u_T := fun k => match k with
  | _ => ("", "", "", false)
def tyJ10 : Nat → FieldType := fun k => match k with
  | _ => .int
abbrev wsJ100 : List Cond := u_ws RJ10 TJ10 0
theorem nmJ10 : ∀ a, a < 0 → ∀ b, b < 0 → a ≠ b → (TJ10 a).2.1 ≠ (TJ10 b).2.1 := by decide +kernel
theorem tyJ10_ok : ∀ k, k < 0 → parseFieldDescriptor (TJ10 k).2.2.1 = some (tyJ10 k) := by decide +kernel
def RJ3 : String := "jdk/internal/util/Preconditions"
def TJ3 : u_T := fun k => match k with
  | _ => ("", "", "", false)
def tyJ3 : Nat → FieldType := fun k => match k with
  | _ => .int
abbrev wsJ30 : List Cond := u_ws RJ3 TJ3 0
theorem nmJ3 : ∀ a, a < 0 → ∀ b, b < 0 → a ≠ b → (TJ3 a).2.1 ≠ (TJ3 b).2.1 := by decide +kernel
theorem tyJ3_ok : ∀ k, k < 0 → parseFieldDescriptor (TJ3 k).2.2.1 = some (tyJ3 k) := by decide +kernel
abbrev cJ3_checkIndex_8e157 : ByteArray := prog_21_method_11_code
def yJ3_checkIndex_8e157 : MethodName := ⟨RJ3, "checkIndex", "(IILjava/util/function/BiFunction;)I"⟩
def RL : String := "HatNetLaw"
abbrev cL_law : ByteArray := code
def yL_law : MethodName := ⟨RL, "law", "([I)Z"⟩
abbrev vwCl : List vw_C := [(RX0, TX0, 1), (RX1, TX1, 8), (RX2, TX2, 4), (RX3, TX3, 3), (RX4, TX4, 1), (RX5, TX5, 4), (RX6, TX6, 9), (RX7, TX7, 3), (RX8, TX8, 5), (RX9, TX9, 10), (RX10, TX10, 15), (RX11, TX11, 36)]
/-- the words of the tables that keep -/
def wsL_law : List Cond := lw_tbl.filter goodWord
theorem wsL_law_in : ∀ w ∈ wsL_law, w ∈ lw_tbl := fun w h => (List.mem_filter.mp h).1
theorem wsL_of {w : Cond} (h : w ∈ lw_tbl) (g : goodWord w = true) : w ∈ wsL_law := List.mem_filter.mpr ⟨h, g⟩
theorem inX0 : ∀ w ∈ wsX00, w ∈ wsL_law := by
  intro w hw
  have h : (wsX00).all (fun w => decide (w ∈ lw_tbl) && goodWord w) = true := by decide +kernel
  have h1 := List.all_eq_true.mp h w hw
  rw [Bool.and_eq_true, decide_eq_true_eq] at h1
  exact List.mem_filter.mpr h1
theorem inX1 : ∀ w ∈ wsX10, w ∈ wsL_law := by
  intro w hw
  have h : (wsX10).all (fun w => decide (w ∈ lw_tbl) && goodWord w) = true := by decide +kernel
  have h1 := List.all_eq_true.mp h w hw
  rw [Bool.and_eq_true, decide_eq_true_eq] at h1
  exact List.mem_filter.mpr h1
theorem inX2 : ∀ w ∈ wsX20, w ∈ wsL_law := by
  intro w hw
  have h : (wsX20).all (fun w => decide (w ∈ lw_tbl) && goodWord w) = true := by decide +kernel
  have h1 := List.all_eq_true.mp h w hw
  rw [Bool.and_eq_true, decide_eq_true_eq] at h1
  exact List.mem_filter.mpr h1
theorem inX3 : ∀ w ∈ wsX30, w ∈ wsL_law := by
  intro w hw
  have h : (wsX30).all (fun w => decide (w ∈ lw_tbl) && goodWord w) = true := by decide +kernel
  have h1 := List.all_eq_true.mp h w hw
  rw [Bool.and_eq_true, decide_eq_true_eq] at h1
  exact List.mem_filter.mpr h1
theorem inX4 : ∀ w ∈ wsX40, w ∈ wsL_law := by
  intro w hw
  have h : (wsX40).all (fun w => decide (w ∈ lw_tbl) && goodWord w) = true := by decide +kernel
  have h1 := List.all_eq_true.mp h w hw
  rw [Bool.and_eq_true, decide_eq_true_eq] at h1
  exact List.mem_filter.mpr h1
theorem inX5 : ∀ w ∈ wsX50, w ∈ wsL_law := by
  intro w hw
  have h : (wsX50).all (fun w => decide (w ∈ lw_tbl) && goodWord w) = true := by decide +kernel
  have h1 := List.all_eq_true.mp h w hw
  rw [Bool.and_eq_true, decide_eq_true_eq] at h1
  exact List.mem_filter.mpr h1
theorem inX6 : ∀ w ∈ wsX60, w ∈ wsL_law := by
  intro w hw
  have h : (wsX60).all (fun w => decide (w ∈ lw_tbl) && goodWord w) = true := by decide +kernel
  have h1 := List.all_eq_true.mp h w hw
  rw [Bool.and_eq_true, decide_eq_true_eq] at h1
  exact List.mem_filter.mpr h1
theorem inX7 : ∀ w ∈ wsX70, w ∈ wsL_law := by
  intro w hw
  have h : (wsX70).all (fun w => decide (w ∈ lw_tbl) && goodWord w) = true := by decide +kernel
  have h1 := List.all_eq_true.mp h w hw
  rw [Bool.and_eq_true, decide_eq_true_eq] at h1
  exact List.mem_filter.mpr h1
theorem inX8 : ∀ w ∈ wsX80, w ∈ wsL_law := by
  intro w hw
  have h : (wsX80).all (fun w => decide (w ∈ lw_tbl) && goodWord w) = true := by decide +kernel
  have h1 := List.all_eq_true.mp h w hw
  rw [Bool.and_eq_true, decide_eq_true_eq] at h1
  exact List.mem_filter.mpr h1
theorem inX9 : ∀ w ∈ wsX90, w ∈ wsL_law := by
  intro w hw
  have h : (wsX90).all (fun w => decide (w ∈ lw_tbl) && goodWord w) = true := by decide +kernel
  have h1 := List.all_eq_true.mp h w hw
  rw [Bool.and_eq_true, decide_eq_true_eq] at h1
  exact List.mem_filter.mpr h1
theorem inX10 : ∀ w ∈ wsX100, w ∈ wsL_law := by
  intro w hw
  have h : (wsX100).all (fun w => decide (w ∈ lw_tbl) && goodWord w) = true := by decide +kernel
  have h1 := List.all_eq_true.mp h w hw
  rw [Bool.and_eq_true, decide_eq_true_eq] at h1
  exact List.mem_filter.mpr h1
theorem inX11 : ∀ w ∈ wsX110, w ∈ wsL_law := by
  intro w hw
  have h : (wsX110).all (fun w => decide (w ∈ lw_tbl) && goodWord w) = true := by decide +kernel
  have h1 := List.all_eq_true.mp h w hw
  rw [Bool.and_eq_true, decide_eq_true_eq] at h1
  exact List.mem_filter.mpr h1
