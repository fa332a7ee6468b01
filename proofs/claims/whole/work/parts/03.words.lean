theorem w_0 : Cond.constant RJ6 265 (1431655765) ∈ wsL_law := wsL_of (List.mem_of_getElem? (i := 748) (by decide +kernel)) rfl
theorem w_1 : Cond.constant RJ6 266 (858993459) ∈ wsL_law := wsL_of (List.mem_of_getElem? (i := 749) (by decide +kernel)) rfl
theorem w_2 : Cond.constant RJ6 267 (252645135) ∈ wsL_law := wsL_of (List.mem_of_getElem? (i := 750) (by decide +kernel)) rfl
theorem w_3 : Cond.constant RJ6 264 (65536) ∈ wsL_law := wsL_of (List.mem_of_getElem? (i := 1234) (by decide +kernel)) rfl
theorem w_4 : Cond.constantLong RJ13 314 (6148914691236517205) ∈ wsL_law := wsL_of (List.mem_of_getElem? (i := 1118) (by decide +kernel)) rfl
theorem w_5 : Cond.constantLong RJ13 316 (3689348814741910323) ∈ wsL_law := wsL_of (List.mem_of_getElem? (i := 1119) (by decide +kernel)) rfl
theorem w_6 : Cond.constantLong RJ13 318 (1085102592571150095) ∈ wsL_law := wsL_of (List.mem_of_getElem? (i := 1120) (by decide +kernel)) rfl
theorem w_7 : Cond.fieldLink RX10 89 "HatNet" "latest" "I" ∈ wsL_law := wsL_of (List.mem_of_getElem? (i := 447) (by decide +kernel)) rfl
theorem w_8 : Cond.fieldLink RX10 85 "HatNet" "taped" "I" ∈ wsL_law := wsL_of (List.mem_of_getElem? (i := 446) (by decide +kernel)) rfl
theorem w_9 : Cond.fieldLink RX10 62 "HatNet" "tape" "[B" ∈ wsL_law := wsL_of (List.mem_of_getElem? (i := 442) (by decide +kernel)) rfl
theorem w_10 : Cond.code yX10_tapeInt cX10_tapeInt 3 none ∈ wsL_law := wsL_of (List.mem_of_getElem? (i := 492) (by decide +kernel)) rfl
theorem w_11 : Cond.initialized RX10 ∈ wsL_law := wsL_of (List.mem_of_getElem? (i := 140) (by decide +kernel)) rfl
theorem w_12 : Cond.methodLink RX10 102 yX10_tapeInt ∈ wsL_law := wsL_of (List.mem_of_getElem? (i := 489) (by decide +kernel)) rfl
theorem w_13 : Cond.instanceMethod yX10_tapeInt ∈ wsL_law := wsL_of (List.mem_of_getElem? (i := 491) (by decide +kernel)) rfl
theorem w_14 : Cond.selects RX10 yX10_tapeInt yX10_tapeInt ∈ wsL_law := wsL_of (List.mem_of_getElem? (i := 0) (by decide +kernel)) rfl
theorem w_15 : Cond.fieldLink RX8 21 "HatNet$Tokens" "length" "I" ∈ wsL_law := wsL_of (List.mem_of_getElem? (i := 366) (by decide +kernel)) rfl
theorem w_16 : Cond.fieldLink RX8 25 "HatNet$Tokens" "text" "[B" ∈ wsL_law := wsL_of (List.mem_of_getElem? (i := 365) (by decide +kernel)) rfl
theorem w_17 : Cond.code yJ0_length_8abf5 cJ0_length_8abf5 1 (some .int) ∈ wsL_law := wsL_of (List.mem_of_getElem? (i := 551) (by decide +kernel)) rfl
theorem w_18 : Cond.initialized RJ0 ∈ wsL_law := wsL_of (List.mem_of_getElem? (i := 153) (by decide +kernel)) rfl
theorem w_19 : Cond.methodLink RX8 86 yJ0_length_8abf5 ∈ wsL_law := wsL_of (List.mem_of_getElem? (i := 548) (by decide +kernel)) rfl
theorem w_20 : Cond.instanceMethod yJ0_length_8abf5 ∈ wsL_law := wsL_of (List.mem_of_getElem? (i := 549) (by decide +kernel)) rfl
theorem w_21 : Cond.selects RJ0 yJ0_length_8abf5 yJ0_length_8abf5 ∈ wsL_law := wsL_of (List.mem_of_getElem? (i := 550) (by decide +kernel)) rfl
theorem w_22 : Cond.code yJ0_charAt_5068e cJ0_charAt_5068e 2 (some .char) ∈ wsL_law := wsL_of (List.mem_of_getElem? (i := 561) (by decide +kernel)) rfl
theorem w_23 : Cond.methodLink RX8 91 yJ0_charAt_5068e ∈ wsL_law := wsL_of (List.mem_of_getElem? (i := 558) (by decide +kernel)) rfl
theorem w_24 : Cond.instanceMethod yJ0_charAt_5068e ∈ wsL_law := wsL_of (List.mem_of_getElem? (i := 559) (by decide +kernel)) rfl
theorem w_25 : Cond.selects RJ0 yJ0_charAt_5068e yJ0_charAt_5068e ∈ wsL_law := wsL_of (List.mem_of_getElem? (i := 560) (by decide +kernel)) rfl
theorem w_26 : Cond.code yX8_spelling cX8_spelling 1 (some (.object "java/lang/String")) ∈ wsL_law := wsL_of (List.mem_of_getElem? (i := 533) (by decide +kernel)) rfl
theorem w_27 : Cond.initialized RX8 ∈ wsL_law := wsL_of (List.mem_of_getElem? (i := 149) (by decide +kernel)) rfl
theorem w_28 : Cond.methodLink RX8 58 yX8_spelling ∈ wsL_law := wsL_of (List.mem_of_getElem? (i := 531) (by decide +kernel)) rfl
theorem w_29 : Cond.static yX8_spelling ∈ wsL_law := wsL_of (List.mem_of_getElem? (i := 532) (by decide +kernel)) rfl
theorem w_30 : Cond.code yX8_isWord cX8_isWord 5 (some .boolean) ∈ wsL_law := wsL_of (List.mem_of_getElem? (i := 547) (by decide +kernel)) rfl
theorem w_31 : Cond.methodLink RX8 62 yX8_isWord ∈ wsL_law := wsL_of (List.mem_of_getElem? (i := 544) (by decide +kernel)) rfl
theorem w_32 : Cond.instanceMethod yX8_isWord ∈ wsL_law := wsL_of (List.mem_of_getElem? (i := 546) (by decide +kernel)) rfl
theorem w_33 : Cond.selects RX8 yX8_isWord yX8_isWord ∈ wsL_law := wsL_of (List.mem_of_getElem? (i := 6) (by decide +kernel)) rfl
theorem w_34 : Cond.code yX8_isLetter cX8_isLetter 1 (some .boolean) ∈ wsL_law := wsL_of (List.mem_of_getElem? (i := 522) (by decide +kernel)) rfl
theorem w_35 : Cond.methodLink RX8 42 yX8_isLetter ∈ wsL_law := wsL_of (List.mem_of_getElem? (i := 520) (by decide +kernel)) rfl
theorem w_36 : Cond.static yX8_isLetter ∈ wsL_law := wsL_of (List.mem_of_getElem? (i := 521) (by decide +kernel)) rfl
theorem w_37 : Cond.fieldLink RX8 9 "HatNet$Tokens" "kind" "[I" ∈ wsL_law := wsL_of (List.mem_of_getElem? (i := 359) (by decide +kernel)) rfl
theorem w_38 : Cond.fieldLink RX8 18 "HatNet$Tokens" "value" "[I" ∈ wsL_law := wsL_of (List.mem_of_getElem? (i := 363) (by decide +kernel)) rfl
theorem w_39 : Cond.code yX8_meaning cX8_meaning 4 (some .int) ∈ wsL_law := wsL_of (List.mem_of_getElem? (i := 530) (by decide +kernel)) rfl
theorem w_40 : Cond.methodLink RX8 55 yX8_meaning ∈ wsL_law := wsL_of (List.mem_of_getElem? (i := 527) (by decide +kernel)) rfl
theorem w_41 : Cond.instanceMethod yX8_meaning ∈ wsL_law := wsL_of (List.mem_of_getElem? (i := 529) (by decide +kernel)) rfl
theorem w_42 : Cond.selects RX8 yX8_meaning yX8_meaning ∈ wsL_law := wsL_of (List.mem_of_getElem? (i := 5) (by decide +kernel)) rfl
theorem w_43 : Cond.code yX8_isDigit cX8_isDigit 1 (some .boolean) ∈ wsL_law := wsL_of (List.mem_of_getElem? (i := 598) (by decide +kernel)) rfl
theorem w_44 : Cond.methodLink RX8 49 yX8_isDigit ∈ wsL_law := wsL_of (List.mem_of_getElem? (i := 596) (by decide +kernel)) rfl
theorem w_45 : Cond.static yX8_isDigit ∈ wsL_law := wsL_of (List.mem_of_getElem? (i := 597) (by decide +kernel)) rfl
theorem w_46 : Cond.code yX8_takeNumber cX8_takeNumber 5 (some .int) ∈ wsL_law := wsL_of (List.mem_of_getElem? (i := 602) (by decide +kernel)) rfl
theorem w_47 : Cond.methodLink RX8 52 yX8_takeNumber ∈ wsL_law := wsL_of (List.mem_of_getElem? (i := 599) (by decide +kernel)) rfl
theorem w_48 : Cond.instanceMethod yX8_takeNumber ∈ wsL_law := wsL_of (List.mem_of_getElem? (i := 601) (by decide +kernel)) rfl
theorem w_49 : Cond.selects RX8 yX8_takeNumber yX8_takeNumber ∈ wsL_law := wsL_of (List.mem_of_getElem? (i := 7) (by decide +kernel)) rfl
theorem w_50 : Cond.code yX8_takeWord cX8_takeWord 4 (some .int) ∈ wsL_law := wsL_of (List.mem_of_getElem? (i := 526) (by decide +kernel)) rfl
theorem w_51 : Cond.methodLink RX8 46 yX8_takeWord ∈ wsL_law := wsL_of (List.mem_of_getElem? (i := 523) (by decide +kernel)) rfl
theorem w_52 : Cond.instanceMethod yX8_takeWord ∈ wsL_law := wsL_of (List.mem_of_getElem? (i := 525) (by decide +kernel)) rfl
theorem w_53 : Cond.selects RX8 yX8_takeWord yX8_takeWord ∈ wsL_law := wsL_of (List.mem_of_getElem? (i := 4) (by decide +kernel)) rfl
theorem w_54 : Cond.methodLink RX8 29 Lib.Math.min.name ∈ wsL_law := wsL_of (List.mem_of_getElem? (i := 509) (by decide +kernel)) rfl
theorem w_55 : Cond.static Lib.Math.min.name ∈ wsL_law := wsL_of (List.mem_of_getElem? (i := 510) (by decide +kernel)) rfl
theorem w_56 : Cond.initialized "java/lang/Math" ∈ wsL_law := wsL_of (List.mem_of_getElem? (i := 152) (by decide +kernel)) rfl
theorem w_57 : Cond.code Lib.Math.min.name Lib.Math.min.code 2 (some .int) ∈ wsL_law := wsL_of (List.mem_of_getElem? (i := 511) (by decide +kernel)) rfl
theorem w_58 : Cond.code yX8_afterBlanks cX8_afterBlanks 3 (some .int) ∈ wsL_law := wsL_of (List.mem_of_getElem? (i := 515) (by decide +kernel)) rfl
theorem w_59 : Cond.methodLink RX8 35 yX8_afterBlanks ∈ wsL_law := wsL_of (List.mem_of_getElem? (i := 512) (by decide +kernel)) rfl
theorem w_60 : Cond.instanceMethod yX8_afterBlanks ∈ wsL_law := wsL_of (List.mem_of_getElem? (i := 514) (by decide +kernel)) rfl
theorem w_61 : Cond.selects RX8 yX8_afterBlanks yX8_afterBlanks ∈ wsL_law := wsL_of (List.mem_of_getElem? (i := 2) (by decide +kernel)) rfl
theorem w_62 : Cond.fieldLink RX8 15 "HatNet$Tokens" "start" "[I" ∈ wsL_law := wsL_of (List.mem_of_getElem? (i := 361) (by decide +kernel)) rfl
theorem w_63 : Cond.code yX8_takeToken cX8_takeToken 3 (some .int) ∈ wsL_law := wsL_of (List.mem_of_getElem? (i := 519) (by decide +kernel)) rfl
theorem w_64 : Cond.methodLink RX8 39 yX8_takeToken ∈ wsL_law := wsL_of (List.mem_of_getElem? (i := 516) (by decide +kernel)) rfl
theorem w_65 : Cond.instanceMethod yX8_takeToken ∈ wsL_law := wsL_of (List.mem_of_getElem? (i := 518) (by decide +kernel)) rfl
theorem w_66 : Cond.selects RX8 yX8_takeToken yX8_takeToken ∈ wsL_law := wsL_of (List.mem_of_getElem? (i := 3) (by decide +kernel)) rfl
theorem w_67 : Cond.fieldLink RX2 22 "HatNet$Game" "players" "I" ∈ wsL_law := wsL_of (List.mem_of_getElem? (i := 174) (by decide +kernel)) rfl
theorem w_68 : Cond.fieldLink RX2 11 "HatNet$Game" "hats" "[I" ∈ wsL_law := wsL_of (List.mem_of_getElem? (i := 183) (by decide +kernel)) rfl
theorem w_69 : Cond.fieldLink RX2 15 "HatNet$Game" "sees" "[I" ∈ wsL_law := wsL_of (List.mem_of_getElem? (i := 192) (by decide +kernel)) rfl
theorem w_70 : Cond.fieldLink RX2 18 "HatNet$Game" "tables" "[J" ∈ wsL_law := wsL_of (List.mem_of_getElem? (i := 197) (by decide +kernel)) rfl
theorem w_71 : Cond.fieldLink RX6 46 "HatNet$Reader" "tokens" "LHatNet$Tokens;" ∈ wsL_law := wsL_of (List.mem_of_getElem? (i := 385) (by decide +kernel)) rfl
theorem w_72 : Cond.fieldLink RX6 57 "HatNet$Tokens" "kind" "[I" ∈ wsL_law := wsL_of (List.mem_of_getElem? (i := 360) (by decide +kernel)) rfl
theorem w_73 : Cond.fieldLink RX6 25 "HatNet$Reader" "at" "I" ∈ wsL_law := wsL_of (List.mem_of_getElem? (i := 386) (by decide +kernel)) rfl
theorem w_74 : Cond.fieldLink RX6 141 "HatNet$Tokens" "value" "[I" ∈ wsL_law := wsL_of (List.mem_of_getElem? (i := 364) (by decide +kernel)) rfl
theorem w_75 : Cond.fieldLink RX6 12 "HatNet$Reader" "game" "LHatNet$Game;" ∈ wsL_law := wsL_of (List.mem_of_getElem? (i := 379) (by decide +kernel)) rfl
theorem w_76 : Cond.fieldLink RX6 91 "HatNet$Game" "players" "I" ∈ wsL_law := wsL_of (List.mem_of_getElem? (i := 181) (by decide +kernel)) rfl
theorem w_77 : Cond.fieldLink RX6 38 "HatNet$Reader" "guessed" "I" ∈ wsL_law := wsL_of (List.mem_of_getElem? (i := 390) (by decide +kernel)) rfl
theorem w_78 : Cond.fieldLink RX6 18 "HatNet$Reader" "fault" "I" ∈ wsL_law := wsL_of (List.mem_of_getElem? (i := 381) (by decide +kernel)) rfl
theorem w_79 : Cond.fieldLink RX6 144 "HatNet$Tokens" "start" "[I" ∈ wsL_law := wsL_of (List.mem_of_getElem? (i := 362) (by decide +kernel)) rfl
theorem w_80 : Cond.fieldLink RX6 22 "HatNet$Reader" "place" "I" ∈ wsL_law := wsL_of (List.mem_of_getElem? (i := 383) (by decide +kernel)) rfl
theorem w_81 : Cond.fieldLink RX6 28 "HatNet$Reader" "number" "I" ∈ wsL_law := wsL_of (List.mem_of_getElem? (i := 387) (by decide +kernel)) rfl
theorem w_82 : Cond.code yX6_misplaced cX6_misplaced 1 (some .boolean) ∈ wsL_law := wsL_of (List.mem_of_getElem? (i := 619) (by decide +kernel)) rfl
theorem w_83 : Cond.initialized RX6 ∈ wsL_law := wsL_of (List.mem_of_getElem? (i := 148) (by decide +kernel)) rfl
theorem w_84 : Cond.methodLink RX6 72 yX6_misplaced ∈ wsL_law := wsL_of (List.mem_of_getElem? (i := 616) (by decide +kernel)) rfl
theorem w_85 : Cond.instanceMethod yX6_misplaced ∈ wsL_law := wsL_of (List.mem_of_getElem? (i := 618) (by decide +kernel)) rfl
theorem w_86 : Cond.selects RX6 yX6_misplaced yX6_misplaced ∈ wsL_law := wsL_of (List.mem_of_getElem? (i := 11) (by decide +kernel)) rfl
theorem w_87 : Cond.code yX6_fail cX6_fail 3 (some .boolean) ∈ wsL_law := wsL_of (List.mem_of_getElem? (i := 631) (by decide +kernel)) rfl
theorem w_88 : Cond.methodLink RX6 101 yX6_fail ∈ wsL_law := wsL_of (List.mem_of_getElem? (i := 628) (by decide +kernel)) rfl
theorem w_89 : Cond.instanceMethod yX6_fail ∈ wsL_law := wsL_of (List.mem_of_getElem? (i := 630) (by decide +kernel)) rfl
theorem w_90 : Cond.selects RX6 yX6_fail yX6_fail ∈ wsL_law := wsL_of (List.mem_of_getElem? (i := 14) (by decide +kernel)) rfl
theorem w_91 : Cond.code yX6_readNumber cX6_readNumber 3 (some .boolean) ∈ wsL_law := wsL_of (List.mem_of_getElem? (i := 627) (by decide +kernel)) rfl
theorem w_92 : Cond.methodLink RX6 94 yX6_readNumber ∈ wsL_law := wsL_of (List.mem_of_getElem? (i := 624) (by decide +kernel)) rfl
theorem w_93 : Cond.instanceMethod yX6_readNumber ∈ wsL_law := wsL_of (List.mem_of_getElem? (i := 626) (by decide +kernel)) rfl
theorem w_94 : Cond.selects RX6 yX6_readNumber yX6_readNumber ∈ wsL_law := wsL_of (List.mem_of_getElem? (i := 13) (by decide +kernel)) rfl
theorem w_95 : Cond.code yX6_readPlayer cX6_readPlayer 1 (some .boolean) ∈ wsL_law := wsL_of (List.mem_of_getElem? (i := 643) (by decide +kernel)) rfl
theorem w_96 : Cond.methodLink RX6 98 yX6_readPlayer ∈ wsL_law := wsL_of (List.mem_of_getElem? (i := 640) (by decide +kernel)) rfl
theorem w_97 : Cond.instanceMethod yX6_readPlayer ∈ wsL_law := wsL_of (List.mem_of_getElem? (i := 642) (by decide +kernel)) rfl
theorem w_98 : Cond.selects RX6 yX6_readPlayer yX6_readPlayer ∈ wsL_law := wsL_of (List.mem_of_getElem? (i := 17) (by decide +kernel)) rfl
theorem w_99 : Cond.fieldLink RX6 35 "HatNet$Reader" "hatted" "I" ∈ wsL_law := wsL_of (List.mem_of_getElem? (i := 389) (by decide +kernel)) rfl
theorem w_100 : Cond.fieldLink RX6 104 "HatNet$Game" "hats" "[I" ∈ wsL_law := wsL_of (List.mem_of_getElem? (i := 188) (by decide +kernel)) rfl
theorem w_101 : Cond.code yX2_watches cX2_watches 3 (some .boolean) ∈ wsL_law := wsL_of (List.mem_of_getElem? (i := 651) (by decide +kernel)) rfl
theorem w_102 : Cond.initialized RX2 ∈ wsL_law := wsL_of (List.mem_of_getElem? (i := 141) (by decide +kernel)) rfl
theorem w_103 : Cond.methodLink RX6 107 yX2_watches ∈ wsL_law := wsL_of (List.mem_of_getElem? (i := 648) (by decide +kernel)) rfl
theorem w_104 : Cond.instanceMethod yX2_watches ∈ wsL_law := wsL_of (List.mem_of_getElem? (i := 649) (by decide +kernel)) rfl
theorem w_105 : Cond.selects RX2 yX2_watches yX2_watches ∈ wsL_law := wsL_of (List.mem_of_getElem? (i := 650) (by decide +kernel)) rfl
theorem w_106 : Cond.fieldLink RX6 110 "HatNet$Game" "sees" "[I" ∈ wsL_law := wsL_of (List.mem_of_getElem? (i := 196) (by decide +kernel)) rfl
theorem w_107 : Cond.code yX2_weightBehind cX2_weightBehind 5 (some .int) ∈ wsL_law := wsL_of (List.mem_of_getElem? (i := 667) (by decide +kernel)) rfl
theorem w_108 : Cond.methodLink RX2 32 yX2_weightBehind ∈ wsL_law := wsL_of (List.mem_of_getElem? (i := 664) (by decide +kernel)) rfl
theorem w_109 : Cond.instanceMethod yX2_weightBehind ∈ wsL_law := wsL_of (List.mem_of_getElem? (i := 665) (by decide +kernel)) rfl
theorem w_110 : Cond.selects RX2 yX2_weightBehind yX2_weightBehind ∈ wsL_law := wsL_of (List.mem_of_getElem? (i := 666) (by decide +kernel)) rfl
theorem w_111 : Cond.constantLong RX2 40 (3) ∈ wsL_law := wsL_of (List.mem_of_getElem? (i := 672) (by decide +kernel)) rfl
theorem w_112 : Cond.constantLong RX2 42 (-1) ∈ wsL_law := wsL_of (List.mem_of_getElem? (i := 673) (by decide +kernel)) rfl
theorem w_113 : Cond.code yX2_situations cX2_situations 2 (some .int) ∈ wsL_law := wsL_of (List.mem_of_getElem? (i := 663) (by decide +kernel)) rfl
theorem w_114 : Cond.methodLink RX6 137 yX2_situations ∈ wsL_law := wsL_of (List.mem_of_getElem? (i := 660) (by decide +kernel)) rfl
theorem w_115 : Cond.instanceMethod yX2_situations ∈ wsL_law := wsL_of (List.mem_of_getElem? (i := 661) (by decide +kernel)) rfl
theorem w_116 : Cond.selects RX2 yX2_situations yX2_situations ∈ wsL_law := wsL_of (List.mem_of_getElem? (i := 662) (by decide +kernel)) rfl
theorem w_117 : Cond.code yX2_tell cX2_tell 6 none ∈ wsL_law := wsL_of (List.mem_of_getElem? (i := 671) (by decide +kernel)) rfl
theorem w_118 : Cond.methodLink RX6 133 yX2_tell ∈ wsL_law := wsL_of (List.mem_of_getElem? (i := 668) (by decide +kernel)) rfl
theorem w_119 : Cond.instanceMethod yX2_tell ∈ wsL_law := wsL_of (List.mem_of_getElem? (i := 669) (by decide +kernel)) rfl
theorem w_120 : Cond.selects RX2 yX2_tell yX2_tell ∈ wsL_law := wsL_of (List.mem_of_getElem? (i := 670) (by decide +kernel)) rfl
theorem w_121 : Cond.fieldLink RX6 31 "HatNet$Reader" "guesses" "[I" ∈ wsL_law := wsL_of (List.mem_of_getElem? (i := 388) (by decide +kernel)) rfl
theorem w_122 : Cond.code yJ9_floorMod_7cf53 cJ9_floorMod_7cf53 3 (some .int) ∈ wsL_law := wsL_of (List.mem_of_getElem? (i := 687) (by decide +kernel)) rfl
theorem w_123 : Cond.initialized RJ9 ∈ wsL_law := wsL_of (List.mem_of_getElem? (i := 152) (by decide +kernel)) rfl
theorem w_124 : Cond.methodLink RX6 127 yJ9_floorMod_7cf53 ∈ wsL_law := wsL_of (List.mem_of_getElem? (i := 685) (by decide +kernel)) rfl
theorem w_125 : Cond.static yJ9_floorMod_7cf53 ∈ wsL_law := wsL_of (List.mem_of_getElem? (i := 686) (by decide +kernel)) rfl
theorem w_126 : Cond.code yX10_lengthen cX10_lengthen 7 (some .int) ∈ wsL_law := wsL_of (List.mem_of_getElem? (i := 684) (by decide +kernel)) rfl
theorem w_127 : Cond.static yX10_lengthen ∈ wsL_law := wsL_of (List.mem_of_getElem? (i := 683) (by decide +kernel)) rfl
theorem w_128 : Cond.code yX6_wordHere cX6_wordHere 1 (some .int) ∈ wsL_law := wsL_of (List.mem_of_getElem? (i := 611) (by decide +kernel)) rfl
theorem w_129 : Cond.methodLink RX6 64 yX6_wordHere ∈ wsL_law := wsL_of (List.mem_of_getElem? (i := 608) (by decide +kernel)) rfl
theorem w_130 : Cond.instanceMethod yX6_wordHere ∈ wsL_law := wsL_of (List.mem_of_getElem? (i := 610) (by decide +kernel)) rfl
theorem w_131 : Cond.selects RX6 yX6_wordHere yX6_wordHere ∈ wsL_law := wsL_of (List.mem_of_getElem? (i := 9) (by decide +kernel)) rfl
theorem w_132 : Cond.code yX6_readTable cX6_readTable 4 (some .boolean) ∈ wsL_law := wsL_of (List.mem_of_getElem? (i := 659) (by decide +kernel)) rfl
theorem w_133 : Cond.methodLink RX6 113 yX6_readTable ∈ wsL_law := wsL_of (List.mem_of_getElem? (i := 656) (by decide +kernel)) rfl
theorem w_134 : Cond.instanceMethod yX6_readTable ∈ wsL_law := wsL_of (List.mem_of_getElem? (i := 658) (by decide +kernel)) rfl
theorem w_135 : Cond.selects RX6 yX6_readTable yX6_readTable ∈ wsL_law := wsL_of (List.mem_of_getElem? (i := 20) (by decide +kernel)) rfl
theorem w_136 : Cond.code yX6_readOfRule cX6_readOfRule 3 (some .boolean) ∈ wsL_law := wsL_of (List.mem_of_getElem? (i := 677) (by decide +kernel)) rfl
theorem w_137 : Cond.methodLink RX6 116 yX6_readOfRule ∈ wsL_law := wsL_of (List.mem_of_getElem? (i := 674) (by decide +kernel)) rfl
theorem w_138 : Cond.instanceMethod yX6_readOfRule ∈ wsL_law := wsL_of (List.mem_of_getElem? (i := 676) (by decide +kernel)) rfl
theorem w_139 : Cond.selects RX6 yX6_readOfRule yX6_readOfRule ∈ wsL_law := wsL_of (List.mem_of_getElem? (i := 21) (by decide +kernel)) rfl
theorem w_140 : Cond.code yX6_tellByRule cX6_tellByRule 8 none ∈ wsL_law := wsL_of (List.mem_of_getElem? (i := 681) (by decide +kernel)) rfl
theorem w_141 : Cond.methodLink RX6 119 yX6_tellByRule ∈ wsL_law := wsL_of (List.mem_of_getElem? (i := 678) (by decide +kernel)) rfl
theorem w_142 : Cond.instanceMethod yX6_tellByRule ∈ wsL_law := wsL_of (List.mem_of_getElem? (i := 680) (by decide +kernel)) rfl
theorem w_143 : Cond.selects RX6 yX6_tellByRule yX6_tellByRule ∈ wsL_law := wsL_of (List.mem_of_getElem? (i := 22) (by decide +kernel)) rfl
theorem w_144 : Cond.code yX6_mayBegin cX6_mayBegin 3 (some .boolean) ∈ wsL_law := wsL_of (List.mem_of_getElem? (i := 615) (by decide +kernel)) rfl
theorem w_145 : Cond.methodLink RX6 68 yX6_mayBegin ∈ wsL_law := wsL_of (List.mem_of_getElem? (i := 612) (by decide +kernel)) rfl
theorem w_146 : Cond.instanceMethod yX6_mayBegin ∈ wsL_law := wsL_of (List.mem_of_getElem? (i := 614) (by decide +kernel)) rfl
theorem w_147 : Cond.selects RX6 yX6_mayBegin yX6_mayBegin ∈ wsL_law := wsL_of (List.mem_of_getElem? (i := 10) (by decide +kernel)) rfl
theorem w_148 : Cond.code yX6_readPlayers cX6_readPlayers 1 (some .boolean) ∈ wsL_law := wsL_of (List.mem_of_getElem? (i := 623) (by decide +kernel)) rfl
theorem w_149 : Cond.methodLink RX6 75 yX6_readPlayers ∈ wsL_law := wsL_of (List.mem_of_getElem? (i := 620) (by decide +kernel)) rfl
theorem w_150 : Cond.instanceMethod yX6_readPlayers ∈ wsL_law := wsL_of (List.mem_of_getElem? (i := 622) (by decide +kernel)) rfl
theorem w_151 : Cond.selects RX6 yX6_readPlayers yX6_readPlayers ∈ wsL_law := wsL_of (List.mem_of_getElem? (i := 12) (by decide +kernel)) rfl
theorem w_152 : Cond.code yX6_readSign cX6_readSign 1 (some .boolean) ∈ wsL_law := wsL_of (List.mem_of_getElem? (i := 635) (by decide +kernel)) rfl
theorem w_153 : Cond.methodLink RX6 78 yX6_readSign ∈ wsL_law := wsL_of (List.mem_of_getElem? (i := 632) (by decide +kernel)) rfl
theorem w_154 : Cond.instanceMethod yX6_readSign ∈ wsL_law := wsL_of (List.mem_of_getElem? (i := 634) (by decide +kernel)) rfl
theorem w_155 : Cond.selects RX6 yX6_readSign yX6_readSign ∈ wsL_law := wsL_of (List.mem_of_getElem? (i := 15) (by decide +kernel)) rfl
theorem w_156 : Cond.code yX6_readHats cX6_readHats 2 (some .boolean) ∈ wsL_law := wsL_of (List.mem_of_getElem? (i := 639) (by decide +kernel)) rfl
theorem w_157 : Cond.methodLink RX6 81 yX6_readHats ∈ wsL_law := wsL_of (List.mem_of_getElem? (i := 636) (by decide +kernel)) rfl
theorem w_158 : Cond.instanceMethod yX6_readHats ∈ wsL_law := wsL_of (List.mem_of_getElem? (i := 638) (by decide +kernel)) rfl
theorem w_159 : Cond.selects RX6 yX6_readHats yX6_readHats ∈ wsL_law := wsL_of (List.mem_of_getElem? (i := 16) (by decide +kernel)) rfl
theorem w_160 : Cond.code yX6_readSight cX6_readSight 4 (some .boolean) ∈ wsL_law := wsL_of (List.mem_of_getElem? (i := 647) (by decide +kernel)) rfl
theorem w_161 : Cond.methodLink RX6 84 yX6_readSight ∈ wsL_law := wsL_of (List.mem_of_getElem? (i := 644) (by decide +kernel)) rfl
theorem w_162 : Cond.instanceMethod yX6_readSight ∈ wsL_law := wsL_of (List.mem_of_getElem? (i := 646) (by decide +kernel)) rfl
theorem w_163 : Cond.selects RX6 yX6_readSight yX6_readSight ∈ wsL_law := wsL_of (List.mem_of_getElem? (i := 18) (by decide +kernel)) rfl
theorem w_164 : Cond.code yX6_readGuess cX6_readGuess 3 (some .boolean) ∈ wsL_law := wsL_of (List.mem_of_getElem? (i := 655) (by decide +kernel)) rfl
theorem w_165 : Cond.methodLink RX6 88 yX6_readGuess ∈ wsL_law := wsL_of (List.mem_of_getElem? (i := 652) (by decide +kernel)) rfl
theorem w_166 : Cond.instanceMethod yX6_readGuess ∈ wsL_law := wsL_of (List.mem_of_getElem? (i := 654) (by decide +kernel)) rfl
theorem w_167 : Cond.selects RX6 yX6_readGuess yX6_readGuess ∈ wsL_law := wsL_of (List.mem_of_getElem? (i := 19) (by decide +kernel)) rfl
theorem w_168 : Cond.code yX8_split cX8_split 4 none ∈ wsL_law := wsL_of (List.mem_of_getElem? (i := 508) (by decide +kernel)) rfl
theorem w_169 : Cond.methodLink RX6 50 yX8_split ∈ wsL_law := wsL_of (List.mem_of_getElem? (i := 505) (by decide +kernel)) rfl
theorem w_170 : Cond.instanceMethod yX8_split ∈ wsL_law := wsL_of (List.mem_of_getElem? (i := 506) (by decide +kernel)) rfl
theorem w_171 : Cond.selects RX8 yX8_split yX8_split ∈ wsL_law := wsL_of (List.mem_of_getElem? (i := 507) (by decide +kernel)) rfl
theorem w_172 : Cond.code yX2_clear cX2_clear 3 none ∈ wsL_law := wsL_of (List.mem_of_getElem? (i := 434) (by decide +kernel)) rfl
theorem w_173 : Cond.methodLink RX6 54 yX2_clear ∈ wsL_law := wsL_of (List.mem_of_getElem? (i := 603) (by decide +kernel)) rfl
theorem w_174 : Cond.instanceMethod yX2_clear ∈ wsL_law := wsL_of (List.mem_of_getElem? (i := 432) (by decide +kernel)) rfl
theorem w_175 : Cond.selects RX2 yX2_clear yX2_clear ∈ wsL_law := wsL_of (List.mem_of_getElem? (i := 433) (by decide +kernel)) rfl
theorem w_176 : Cond.code yX6_readLine cX6_readLine 2 (some .boolean) ∈ wsL_law := wsL_of (List.mem_of_getElem? (i := 607) (by decide +kernel)) rfl
theorem w_177 : Cond.methodLink RX6 60 yX6_readLine ∈ wsL_law := wsL_of (List.mem_of_getElem? (i := 604) (by decide +kernel)) rfl
theorem w_178 : Cond.instanceMethod yX6_readLine ∈ wsL_law := wsL_of (List.mem_of_getElem? (i := 606) (by decide +kernel)) rfl
theorem w_179 : Cond.selects RX6 yX6_readLine yX6_readLine ∈ wsL_law := wsL_of (List.mem_of_getElem? (i := 8) (by decide +kernel)) rfl
theorem w_180 : Cond.methodLink RX2 26 arraycopyName ∈ wsL_law := wsL_of (List.mem_of_getElem? (i := 692) (by decide +kernel)) rfl
theorem w_181 : Cond.native arraycopyName ∈ wsL_law := wsL_of (List.mem_of_getElem? (i := 694) (by decide +kernel)) rfl
theorem w_182 : Cond.static arraycopyName ∈ wsL_law := wsL_of (List.mem_of_getElem? (i := 693) (by decide +kernel)) rfl
theorem w_183 : Cond.initialized "java/lang/System" ∈ wsL_law := wsL_of (List.mem_of_getElem? (i := 157) (by decide +kernel)) rfl
theorem w_184 : Cond.fieldLink RX3 21 "HatNet$History" "size" "I" ∈ wsL_law := wsL_of (List.mem_of_getElem? (i := 336) (by decide +kernel)) rfl
theorem w_185 : Cond.methodLink RX2 36 yX2_watches ∈ wsL_law := wsL_of (List.mem_of_getElem? (i := 707) (by decide +kernel)) rfl
theorem w_186 : Cond.fieldLink RX1 15 "HatNet$Colourings" "place" "[I" ∈ wsL_law := wsL_of (List.mem_of_getElem? (i := 222) (by decide +kernel)) rfl
theorem w_187 : Cond.fieldLink RX1 36 "HatNet$Colourings" "game" "LHatNet$Game;" ∈ wsL_law := wsL_of (List.mem_of_getElem? (i := 218) (by decide +kernel)) rfl
theorem w_188 : Cond.fieldLink RX1 45 "HatNet$Game" "hats" "[I" ∈ wsL_law := wsL_of (List.mem_of_getElem? (i := 184) (by decide +kernel)) rfl
theorem w_189 : Cond.fieldLink RX1 21 "HatNet$Colourings" "situation" "[[I" ∈ wsL_law := wsL_of (List.mem_of_getElem? (i := 223) (by decide +kernel)) rfl
theorem w_190 : Cond.fieldLink RX1 9 "HatNet$Colourings" "count" "I" ∈ wsL_law := wsL_of (List.mem_of_getElem? (i := 219) (by decide +kernel)) rfl
theorem w_191 : Cond.code yX2_told cX2_told 4 (some .int) ∈ wsL_law := wsL_of (List.mem_of_getElem? (i := 720) (by decide +kernel)) rfl
theorem w_192 : Cond.methodLink RX1 66 yX2_told ∈ wsL_law := wsL_of (List.mem_of_getElem? (i := 717) (by decide +kernel)) rfl
theorem w_193 : Cond.instanceMethod yX2_told ∈ wsL_law := wsL_of (List.mem_of_getElem? (i := 718) (by decide +kernel)) rfl
theorem w_194 : Cond.selects RX2 yX2_told yX2_told ∈ wsL_law := wsL_of (List.mem_of_getElem? (i := 719) (by decide +kernel)) rfl
theorem w_195 : Cond.code yX1_colourOf cX1_colourOf 3 (some .int) ∈ wsL_law := wsL_of (List.mem_of_getElem? (i := 724) (by decide +kernel)) rfl
theorem w_196 : Cond.initialized RX1 ∈ wsL_law := wsL_of (List.mem_of_getElem? (i := 142) (by decide +kernel)) rfl
theorem w_197 : Cond.methodLink RX1 69 yX1_colourOf ∈ wsL_law := wsL_of (List.mem_of_getElem? (i := 721) (by decide +kernel)) rfl
theorem w_198 : Cond.instanceMethod yX1_colourOf ∈ wsL_law := wsL_of (List.mem_of_getElem? (i := 722) (by decide +kernel)) rfl
theorem w_199 : Cond.selects RX1 yX1_colourOf yX1_colourOf ∈ wsL_law := wsL_of (List.mem_of_getElem? (i := 723) (by decide +kernel)) rfl
theorem w_200 : Cond.fieldLink RX1 24 "HatNet$Colourings" "right" "[I" ∈ wsL_law := wsL_of (List.mem_of_getElem? (i := 224) (by decide +kernel)) rfl
theorem w_201 : Cond.fieldLink RX1 27 "HatNet$Colourings" "byRight" "[I" ∈ wsL_law := wsL_of (List.mem_of_getElem? (i := 226) (by decide +kernel)) rfl
theorem w_202 : Cond.fieldLink RX1 40 "HatNet$Game" "players" "I" ∈ wsL_law := wsL_of (List.mem_of_getElem? (i := 176) (by decide +kernel)) rfl
theorem w_203 : Cond.code yX1_judge cX1_judge 6 none ∈ wsL_law := wsL_of (List.mem_of_getElem? (i := 716) (by decide +kernel)) rfl
theorem w_204 : Cond.methodLink RX1 59 yX1_judge ∈ wsL_law := wsL_of (List.mem_of_getElem? (i := 713) (by decide +kernel)) rfl
theorem w_205 : Cond.instanceMethod yX1_judge ∈ wsL_law := wsL_of (List.mem_of_getElem? (i := 715) (by decide +kernel)) rfl
theorem w_206 : Cond.selects RX1 yX1_judge yX1_judge ∈ wsL_law := wsL_of (List.mem_of_getElem? (i := 23) (by decide +kernel)) rfl
theorem w_207 : Cond.code yX1_tally cX1_tally 2 none ∈ wsL_law := wsL_of (List.mem_of_getElem? (i := 728) (by decide +kernel)) rfl
theorem w_208 : Cond.methodLink RX1 63 yX1_tally ∈ wsL_law := wsL_of (List.mem_of_getElem? (i := 725) (by decide +kernel)) rfl
theorem w_209 : Cond.instanceMethod yX1_tally ∈ wsL_law := wsL_of (List.mem_of_getElem? (i := 727) (by decide +kernel)) rfl
theorem w_210 : Cond.selects RX1 yX1_tally yX1_tally ∈ wsL_law := wsL_of (List.mem_of_getElem? (i := 24) (by decide +kernel)) rfl
theorem w_211 : Cond.code yX1_judgeAll cX1_judgeAll 2 none ∈ wsL_law := wsL_of (List.mem_of_getElem? (i := 712) (by decide +kernel)) rfl
theorem w_212 : Cond.methodLink RX1 56 yX1_judgeAll ∈ wsL_law := wsL_of (List.mem_of_getElem? (i := 709) (by decide +kernel)) rfl
theorem w_213 : Cond.instanceMethod yX1_judgeAll ∈ wsL_law := wsL_of (List.mem_of_getElem? (i := 710) (by decide +kernel)) rfl
theorem w_214 : Cond.selects RX1 yX1_judgeAll yX1_judgeAll ∈ wsL_law := wsL_of (List.mem_of_getElem? (i := 711) (by decide +kernel)) rfl
theorem w_215 : Cond.code yX2_weight cX2_weight 3 (some .int) ∈ wsL_law := wsL_of (List.mem_of_getElem? (i := 706) (by decide +kernel)) rfl
theorem w_216 : Cond.methodLink RX1 48 yX2_weight ∈ wsL_law := wsL_of (List.mem_of_getElem? (i := 703) (by decide +kernel)) rfl
theorem w_217 : Cond.instanceMethod yX2_weight ∈ wsL_law := wsL_of (List.mem_of_getElem? (i := 704) (by decide +kernel)) rfl
theorem w_218 : Cond.selects RX2 yX2_weight yX2_weight ∈ wsL_law := wsL_of (List.mem_of_getElem? (i := 705) (by decide +kernel)) rfl
theorem w_219 : Cond.fieldLink RX10 71 "HatNet" "reader" "LHatNet$Reader;" ∈ wsL_law := wsL_of (List.mem_of_getElem? (i := 443) (by decide +kernel)) rfl
theorem w_220 : Cond.code yX6_read cX6_read 4 (some .boolean) ∈ wsL_law := wsL_of (List.mem_of_getElem? (i := 504) (by decide +kernel)) rfl
theorem w_221 : Cond.methodLink RX10 109 yX6_read ∈ wsL_law := wsL_of (List.mem_of_getElem? (i := 501) (by decide +kernel)) rfl
theorem w_222 : Cond.instanceMethod yX6_read ∈ wsL_law := wsL_of (List.mem_of_getElem? (i := 502) (by decide +kernel)) rfl
theorem w_223 : Cond.selects RX6 yX6_read yX6_read ∈ wsL_law := wsL_of (List.mem_of_getElem? (i := 503) (by decide +kernel)) rfl
theorem w_224 : Cond.fieldLink RX10 113 "HatNet$Reader" "fault" "I" ∈ wsL_law := wsL_of (List.mem_of_getElem? (i := 382) (by decide +kernel)) rfl
theorem w_225 : Cond.fieldLink RX10 92 "HatNet" "faultKind" "I" ∈ wsL_law := wsL_of (List.mem_of_getElem? (i := 448) (by decide +kernel)) rfl
theorem w_226 : Cond.fieldLink RX10 116 "HatNet$Reader" "place" "I" ∈ wsL_law := wsL_of (List.mem_of_getElem? (i := 384) (by decide +kernel)) rfl
theorem w_227 : Cond.fieldLink RX10 95 "HatNet" "faultPlace" "I" ∈ wsL_law := wsL_of (List.mem_of_getElem? (i := 449) (by decide +kernel)) rfl
theorem w_228 : Cond.code yX10_refuse cX10_refuse 2 (some .int) ∈ wsL_law := wsL_of (List.mem_of_getElem? (i := 500) (by decide +kernel)) rfl
theorem w_229 : Cond.methodLink RX10 105 yX10_refuse ∈ wsL_law := wsL_of (List.mem_of_getElem? (i := 497) (by decide +kernel)) rfl
theorem w_230 : Cond.instanceMethod yX10_refuse ∈ wsL_law := wsL_of (List.mem_of_getElem? (i := 499) (by decide +kernel)) rfl
theorem w_231 : Cond.selects RX10 yX10_refuse yX10_refuse ∈ wsL_law := wsL_of (List.mem_of_getElem? (i := 1) (by decide +kernel)) rfl
theorem w_232 : Cond.fieldLink RX10 10 "HatNet" "game" "LHatNet$Game;" ∈ wsL_law := wsL_of (List.mem_of_getElem? (i := 435) (by decide +kernel)) rfl
theorem w_233 : Cond.fieldLink RX10 119 "HatNet$Reader" "game" "LHatNet$Game;" ∈ wsL_law := wsL_of (List.mem_of_getElem? (i := 380) (by decide +kernel)) rfl
theorem w_234 : Cond.code yX2_copy cX2_copy 2 none ∈ wsL_law := wsL_of (List.mem_of_getElem? (i := 691) (by decide +kernel)) rfl
theorem w_235 : Cond.methodLink RX10 120 yX2_copy ∈ wsL_law := wsL_of (List.mem_of_getElem? (i := 688) (by decide +kernel)) rfl
theorem w_236 : Cond.instanceMethod yX2_copy ∈ wsL_law := wsL_of (List.mem_of_getElem? (i := 689) (by decide +kernel)) rfl
theorem w_237 : Cond.selects RX2 yX2_copy yX2_copy ∈ wsL_law := wsL_of (List.mem_of_getElem? (i := 690) (by decide +kernel)) rfl
theorem w_238 : Cond.fieldLink RX10 58 "HatNet" "history" "LHatNet$History;" ∈ wsL_law := wsL_of (List.mem_of_getElem? (i := 441) (by decide +kernel)) rfl
theorem w_239 : Cond.code yX3_forget cX3_forget 1 none ∈ wsL_law := wsL_of (List.mem_of_getElem? (i := 698) (by decide +kernel)) rfl
theorem w_240 : Cond.initialized RX3 ∈ wsL_law := wsL_of (List.mem_of_getElem? (i := 147) (by decide +kernel)) rfl
theorem w_241 : Cond.methodLink RX10 123 yX3_forget ∈ wsL_law := wsL_of (List.mem_of_getElem? (i := 695) (by decide +kernel)) rfl
theorem w_242 : Cond.instanceMethod yX3_forget ∈ wsL_law := wsL_of (List.mem_of_getElem? (i := 696) (by decide +kernel)) rfl
theorem w_243 : Cond.selects RX3 yX3_forget yX3_forget ∈ wsL_law := wsL_of (List.mem_of_getElem? (i := 697) (by decide +kernel)) rfl
theorem w_244 : Cond.fieldLink RX10 21 "HatNet" "colourings" "LHatNet$Colourings;" ∈ wsL_law := wsL_of (List.mem_of_getElem? (i := 436) (by decide +kernel)) rfl
theorem w_245 : Cond.code yX1_arrange cX1_arrange 5 none ∈ wsL_law := wsL_of (List.mem_of_getElem? (i := 702) (by decide +kernel)) rfl
theorem w_246 : Cond.methodLink RX10 126 yX1_arrange ∈ wsL_law := wsL_of (List.mem_of_getElem? (i := 699) (by decide +kernel)) rfl
theorem w_247 : Cond.instanceMethod yX1_arrange ∈ wsL_law := wsL_of (List.mem_of_getElem? (i := 700) (by decide +kernel)) rfl
theorem w_248 : Cond.selects RX1 yX1_arrange yX1_arrange ∈ wsL_law := wsL_of (List.mem_of_getElem? (i := 701) (by decide +kernel)) rfl
theorem w_249 : Cond.fieldLink RX10 129 "HatNet$Game" "players" "I" ∈ wsL_law := wsL_of (List.mem_of_getElem? (i := 182) (by decide +kernel)) rfl
theorem w_250 : Cond.code yX10_give cX10_give 2 (some .int) ∈ wsL_law := wsL_of (List.mem_of_getElem? (i := 732) (by decide +kernel)) rfl
theorem w_251 : Cond.methodLink RX10 132 yX10_give ∈ wsL_law := wsL_of (List.mem_of_getElem? (i := 729) (by decide +kernel)) rfl
theorem w_252 : Cond.instanceMethod yX10_give ∈ wsL_law := wsL_of (List.mem_of_getElem? (i := 731) (by decide +kernel)) rfl
theorem w_253 : Cond.selects RX10 yX10_give yX10_give ∈ wsL_law := wsL_of (List.mem_of_getElem? (i := 25) (by decide +kernel)) rfl
theorem w_254 : Cond.fieldLink RX4 9 "HatNet$Network" "game" "LHatNet$Game;" ∈ wsL_law := wsL_of (List.mem_of_getElem? (i := 254) (by decide +kernel)) rfl
theorem w_255 : Cond.fieldLink RX4 15 "HatNet$Game" "players" "I" ∈ wsL_law := wsL_of (List.mem_of_getElem? (i := 175) (by decide +kernel)) rfl
theorem w_256 : Cond.fieldLink RX4 21 "HatNet$Game" "sees" "[I" ∈ wsL_law := wsL_of (List.mem_of_getElem? (i := 193) (by decide +kernel)) rfl
theorem w_257 : Cond.code yJ6_bitCount_0f7a4 cJ6_bitCount_0f7a4 1 (some .int) ∈ wsL_law := wsL_of (List.mem_of_getElem? (i := 747) (by decide +kernel)) rfl
theorem w_258 : Cond.initialized RJ6 ∈ wsL_law := wsL_of (List.mem_of_getElem? (i := 158) (by decide +kernel)) rfl
theorem w_259 : Cond.methodLink RX4 25 yJ6_bitCount_0f7a4 ∈ wsL_law := wsL_of (List.mem_of_getElem? (i := 745) (by decide +kernel)) rfl
theorem w_260 : Cond.static yJ6_bitCount_0f7a4 ∈ wsL_law := wsL_of (List.mem_of_getElem? (i := 746) (by decide +kernel)) rfl
theorem w_261 : Cond.code yX2_seenBy cX2_seenBy 4 (some .int) ∈ wsL_law := wsL_of (List.mem_of_getElem? (i := 762) (by decide +kernel)) rfl
theorem w_262 : Cond.methodLink RX4 31 yX2_seenBy ∈ wsL_law := wsL_of (List.mem_of_getElem? (i := 759) (by decide +kernel)) rfl
theorem w_263 : Cond.instanceMethod yX2_seenBy ∈ wsL_law := wsL_of (List.mem_of_getElem? (i := 760) (by decide +kernel)) rfl
theorem w_264 : Cond.selects RX2 yX2_seenBy yX2_seenBy ∈ wsL_law := wsL_of (List.mem_of_getElem? (i := 761) (by decide +kernel)) rfl
theorem w_265 : Cond.code yX4_linked cX4_linked 2 (some .int) ∈ wsL_law := wsL_of (List.mem_of_getElem? (i := 758) (by decide +kernel)) rfl
theorem w_266 : Cond.initialized RX4 ∈ wsL_law := wsL_of (List.mem_of_getElem? (i := 143) (by decide +kernel)) rfl
theorem w_267 : Cond.methodLink RX4 34 yX4_linked ∈ wsL_law := wsL_of (List.mem_of_getElem? (i := 755) (by decide +kernel)) rfl
theorem w_268 : Cond.instanceMethod yX4_linked ∈ wsL_law := wsL_of (List.mem_of_getElem? (i := 756) (by decide +kernel)) rfl
theorem w_269 : Cond.selects RX4 yX4_linked yX4_linked ∈ wsL_law := wsL_of (List.mem_of_getElem? (i := 757) (by decide +kernel)) rfl
theorem w_270 : Cond.code yX4_sights cX4_sights 3 (some .int) ∈ wsL_law := wsL_of (List.mem_of_getElem? (i := 744) (by decide +kernel)) rfl
theorem w_271 : Cond.methodLink RX4 37 yX4_sights ∈ wsL_law := wsL_of (List.mem_of_getElem? (i := 767) (by decide +kernel)) rfl
theorem w_272 : Cond.instanceMethod yX4_sights ∈ wsL_law := wsL_of (List.mem_of_getElem? (i := 742) (by decide +kernel)) rfl
theorem w_273 : Cond.selects RX4 yX4_sights yX4_sights ∈ wsL_law := wsL_of (List.mem_of_getElem? (i := 743) (by decide +kernel)) rfl
theorem w_274 : Cond.code yX4_links cX4_links 3 (some .int) ∈ wsL_law := wsL_of (List.mem_of_getElem? (i := 754) (by decide +kernel)) rfl
theorem w_275 : Cond.methodLink RX4 41 yX4_links ∈ wsL_law := wsL_of (List.mem_of_getElem? (i := 768) (by decide +kernel)) rfl
theorem w_276 : Cond.instanceMethod yX4_links ∈ wsL_law := wsL_of (List.mem_of_getElem? (i := 752) (by decide +kernel)) rfl
theorem w_277 : Cond.selects RX4 yX4_links yX4_links ∈ wsL_law := wsL_of (List.mem_of_getElem? (i := 753) (by decide +kernel)) rfl
theorem w_278 : Cond.fieldLink RX10 135 "HatNet$Colourings" "count" "I" ∈ wsL_law := wsL_of (List.mem_of_getElem? (i := 221) (by decide +kernel)) rfl
theorem w_279 : Cond.fieldLink RX10 28 "HatNet" "network" "LHatNet$Network;" ∈ wsL_law := wsL_of (List.mem_of_getElem? (i := 437) (by decide +kernel)) rfl
theorem w_280 : Cond.methodLink RX10 138 yX4_sights ∈ wsL_law := wsL_of (List.mem_of_getElem? (i := 741) (by decide +kernel)) rfl
theorem w_281 : Cond.methodLink RX10 142 yX4_links ∈ wsL_law := wsL_of (List.mem_of_getElem? (i := 751) (by decide +kernel)) rfl
theorem w_282 : Cond.fieldLink RX10 145 "HatNet$History" "size" "I" ∈ wsL_law := wsL_of (List.mem_of_getElem? (i := 337) (by decide +kernel)) rfl
theorem w_283 : Cond.code yX4_isMutual cX4_isMutual 1 (some .boolean) ∈ wsL_law := wsL_of (List.mem_of_getElem? (i := 766) (by decide +kernel)) rfl
theorem w_284 : Cond.methodLink RX10 148 yX4_isMutual ∈ wsL_law := wsL_of (List.mem_of_getElem? (i := 763) (by decide +kernel)) rfl
theorem w_285 : Cond.instanceMethod yX4_isMutual ∈ wsL_law := wsL_of (List.mem_of_getElem? (i := 764) (by decide +kernel)) rfl
theorem w_286 : Cond.selects RX4 yX4_isMutual yX4_isMutual ∈ wsL_law := wsL_of (List.mem_of_getElem? (i := 765) (by decide +kernel)) rfl
theorem w_287 : Cond.code yX10_noPlayer cX10_noPlayer 2 (some .boolean) ∈ wsL_law := wsL_of (List.mem_of_getElem? (i := 776) (by decide +kernel)) rfl
theorem w_288 : Cond.methodLink RX10 152 yX10_noPlayer ∈ wsL_law := wsL_of (List.mem_of_getElem? (i := 773) (by decide +kernel)) rfl
theorem w_289 : Cond.instanceMethod yX10_noPlayer ∈ wsL_law := wsL_of (List.mem_of_getElem? (i := 775) (by decide +kernel)) rfl
theorem w_290 : Cond.selects RX10 yX10_noPlayer yX10_noPlayer ∈ wsL_law := wsL_of (List.mem_of_getElem? (i := 26) (by decide +kernel)) rfl
theorem w_291 : Cond.fieldLink RX10 155 "HatNet$Game" "hats" "[I" ∈ wsL_law := wsL_of (List.mem_of_getElem? (i := 189) (by decide +kernel)) rfl
theorem w_292 : Cond.fieldLink RX10 159 "HatNet$Game" "sees" "[I" ∈ wsL_law := wsL_of (List.mem_of_getElem? (i := 195) (by decide +kernel)) rfl
theorem w_293 : Cond.methodLink RX10 162 yX2_seenBy ∈ wsL_law := wsL_of (List.mem_of_getElem? (i := 777) (by decide +kernel)) rfl
theorem w_294 : Cond.methodLink RX10 165 yX2_situations ∈ wsL_law := wsL_of (List.mem_of_getElem? (i := 778) (by decide +kernel)) rfl
theorem w_295 : Cond.code yX10_noSituation cX10_noSituation 3 (some .boolean) ∈ wsL_law := wsL_of (List.mem_of_getElem? (i := 786) (by decide +kernel)) rfl
theorem w_296 : Cond.methodLink RX10 168 yX10_noSituation ∈ wsL_law := wsL_of (List.mem_of_getElem? (i := 783) (by decide +kernel)) rfl
theorem w_297 : Cond.instanceMethod yX10_noSituation ∈ wsL_law := wsL_of (List.mem_of_getElem? (i := 785) (by decide +kernel)) rfl
theorem w_298 : Cond.selects RX10 yX10_noSituation yX10_noSituation ∈ wsL_law := wsL_of (List.mem_of_getElem? (i := 27) (by decide +kernel)) rfl
theorem w_299 : Cond.methodLink RX10 172 yX2_told ∈ wsL_law := wsL_of (List.mem_of_getElem? (i := 787) (by decide +kernel)) rfl
theorem w_300 : Cond.code yX10_noColouring cX10_noColouring 2 (some .boolean) ∈ wsL_law := wsL_of (List.mem_of_getElem? (i := 795) (by decide +kernel)) rfl
theorem w_301 : Cond.methodLink RX10 176 yX10_noColouring ∈ wsL_law := wsL_of (List.mem_of_getElem? (i := 792) (by decide +kernel)) rfl
theorem w_302 : Cond.instanceMethod yX10_noColouring ∈ wsL_law := wsL_of (List.mem_of_getElem? (i := 794) (by decide +kernel)) rfl
theorem w_303 : Cond.selects RX10 yX10_noColouring yX10_noColouring ∈ wsL_law := wsL_of (List.mem_of_getElem? (i := 28) (by decide +kernel)) rfl
theorem w_304 : Cond.code yX1_situationOf cX1_situationOf 3 (some .int) ∈ wsL_law := wsL_of (List.mem_of_getElem? (i := 799) (by decide +kernel)) rfl
theorem w_305 : Cond.methodLink RX10 179 yX1_situationOf ∈ wsL_law := wsL_of (List.mem_of_getElem? (i := 796) (by decide +kernel)) rfl
theorem w_306 : Cond.instanceMethod yX1_situationOf ∈ wsL_law := wsL_of (List.mem_of_getElem? (i := 797) (by decide +kernel)) rfl
theorem w_307 : Cond.selects RX1 yX1_situationOf yX1_situationOf ∈ wsL_law := wsL_of (List.mem_of_getElem? (i := 798) (by decide +kernel)) rfl
theorem w_308 : Cond.methodLink RX10 182 yX1_colourOf ∈ wsL_law := wsL_of (List.mem_of_getElem? (i := 804) (by decide +kernel)) rfl
theorem w_309 : Cond.methodLink RX2 44 yX2_situations ∈ wsL_law := wsL_of (List.mem_of_getElem? (i := 817) (by decide +kernel)) rfl
theorem w_310 : Cond.methodLink RX2 48 yX2_told ∈ wsL_law := wsL_of (List.mem_of_getElem? (i := 818) (by decide +kernel)) rfl
theorem w_311 : Cond.code yX10_noColour cX10_noColour 3 (some .boolean) ∈ wsL_law := wsL_of (List.mem_of_getElem? (i := 812) (by decide +kernel)) rfl
theorem w_312 : Cond.methodLink RX10 185 yX10_noColour ∈ wsL_law := wsL_of (List.mem_of_getElem? (i := 809) (by decide +kernel)) rfl
theorem w_313 : Cond.instanceMethod yX10_noColour ∈ wsL_law := wsL_of (List.mem_of_getElem? (i := 811) (by decide +kernel)) rfl
theorem w_314 : Cond.selects RX10 yX10_noColour yX10_noColour ∈ wsL_law := wsL_of (List.mem_of_getElem? (i := 29) (by decide +kernel)) rfl
theorem w_315 : Cond.code yX2_timesTold cX2_timesTold 6 (some .int) ∈ wsL_law := wsL_of (List.mem_of_getElem? (i := 816) (by decide +kernel)) rfl
theorem w_316 : Cond.methodLink RX10 188 yX2_timesTold ∈ wsL_law := wsL_of (List.mem_of_getElem? (i := 813) (by decide +kernel)) rfl
theorem w_317 : Cond.instanceMethod yX2_timesTold ∈ wsL_law := wsL_of (List.mem_of_getElem? (i := 814) (by decide +kernel)) rfl
theorem w_318 : Cond.selects RX2 yX2_timesTold yX2_timesTold ∈ wsL_law := wsL_of (List.mem_of_getElem? (i := 815) (by decide +kernel)) rfl
theorem w_319 : Cond.code yX10_pairTrouble cX10_pairTrouble 3 (some .int) ∈ wsL_law := wsL_of (List.mem_of_getElem? (i := 830) (by decide +kernel)) rfl
theorem w_320 : Cond.methodLink RX10 221 yX10_pairTrouble ∈ wsL_law := wsL_of (List.mem_of_getElem? (i := 827) (by decide +kernel)) rfl
theorem w_321 : Cond.instanceMethod yX10_pairTrouble ∈ wsL_law := wsL_of (List.mem_of_getElem? (i := 829) (by decide +kernel)) rfl
theorem w_322 : Cond.selects RX10 yX10_pairTrouble yX10_pairTrouble ∈ wsL_law := wsL_of (List.mem_of_getElem? (i := 31) (by decide +kernel)) rfl
theorem w_323 : Cond.methodLink RX10 197 yX2_watches ∈ wsL_law := wsL_of (List.mem_of_getElem? (i := 831) (by decide +kernel)) rfl
theorem w_324 : Cond.methodLink RX2 51 yX2_weight ∈ wsL_law := wsL_of (List.mem_of_getElem? (i := 836) (by decide +kernel)) rfl
theorem w_325 : Cond.code yX2_colourIn cX2_colourIn 4 (some .int) ∈ wsL_law := wsL_of (List.mem_of_getElem? (i := 840) (by decide +kernel)) rfl
theorem w_326 : Cond.methodLink RX2 54 yX2_colourIn ∈ wsL_law := wsL_of (List.mem_of_getElem? (i := 837) (by decide +kernel)) rfl
theorem w_327 : Cond.instanceMethod yX2_colourIn ∈ wsL_law := wsL_of (List.mem_of_getElem? (i := 838) (by decide +kernel)) rfl
theorem w_328 : Cond.selects RX2 yX2_colourIn yX2_colourIn ∈ wsL_law := wsL_of (List.mem_of_getElem? (i := 839) (by decide +kernel)) rfl
theorem w_329 : Cond.code yX10_sightTrouble cX10_sightTrouble 4 (some .int) ∈ wsL_law := wsL_of (List.mem_of_getElem? (i := 826) (by decide +kernel)) rfl
theorem w_330 : Cond.methodLink RX10 191 yX10_sightTrouble ∈ wsL_law := wsL_of (List.mem_of_getElem? (i := 823) (by decide +kernel)) rfl
theorem w_331 : Cond.instanceMethod yX10_sightTrouble ∈ wsL_law := wsL_of (List.mem_of_getElem? (i := 825) (by decide +kernel)) rfl
theorem w_332 : Cond.selects RX10 yX10_sightTrouble yX10_sightTrouble ∈ wsL_law := wsL_of (List.mem_of_getElem? (i := 30) (by decide +kernel)) rfl
theorem w_333 : Cond.code yX2_swayed cX2_swayed 10 (some .int) ∈ wsL_law := wsL_of (List.mem_of_getElem? (i := 835) (by decide +kernel)) rfl
theorem w_334 : Cond.methodLink RX10 194 yX2_swayed ∈ wsL_law := wsL_of (List.mem_of_getElem? (i := 832) (by decide +kernel)) rfl
theorem w_335 : Cond.instanceMethod yX2_swayed ∈ wsL_law := wsL_of (List.mem_of_getElem? (i := 833) (by decide +kernel)) rfl
theorem w_336 : Cond.selects RX2 yX2_swayed yX2_swayed ∈ wsL_law := wsL_of (List.mem_of_getElem? (i := 834) (by decide +kernel)) rfl
theorem w_337 : Cond.methodLink RX1 72 yX2_situations ∈ wsL_law := wsL_of (List.mem_of_getElem? (i := 853) (by decide +kernel)) rfl
theorem w_338 : Cond.code yX1_colouringsOfOneSituation cX1_colouringsOfOneSituation 2 (some .int) ∈ wsL_law := wsL_of (List.mem_of_getElem? (i := 852) (by decide +kernel)) rfl
theorem w_339 : Cond.methodLink RX10 200 yX1_colouringsOfOneSituation ∈ wsL_law := wsL_of (List.mem_of_getElem? (i := 849) (by decide +kernel)) rfl
theorem w_340 : Cond.instanceMethod yX1_colouringsOfOneSituation ∈ wsL_law := wsL_of (List.mem_of_getElem? (i := 850) (by decide +kernel)) rfl
theorem w_341 : Cond.selects RX1 yX1_colouringsOfOneSituation yX1_colouringsOfOneSituation ∈ wsL_law := wsL_of (List.mem_of_getElem? (i := 851) (by decide +kernel)) rfl
theorem w_342 : Cond.fieldLink RX10 203 "HatNet$Colourings" "right" "[I" ∈ wsL_law := wsL_of (List.mem_of_getElem? (i := 225) (by decide +kernel)) rfl
theorem w_343 : Cond.code yX1_lostInAll cX1_lostInAll 1 (some .int) ∈ wsL_law := wsL_of (List.mem_of_getElem? (i := 865) (by decide +kernel)) rfl
theorem w_344 : Cond.methodLink RX10 206 yX1_lostInAll ∈ wsL_law := wsL_of (List.mem_of_getElem? (i := 862) (by decide +kernel)) rfl
theorem w_345 : Cond.instanceMethod yX1_lostInAll ∈ wsL_law := wsL_of (List.mem_of_getElem? (i := 863) (by decide +kernel)) rfl
theorem w_346 : Cond.selects RX1 yX1_lostInAll yX1_lostInAll ∈ wsL_law := wsL_of (List.mem_of_getElem? (i := 864) (by decide +kernel)) rfl
theorem w_347 : Cond.code yX1_lostAt cX1_lostAt 4 (some .int) ∈ wsL_law := wsL_of (List.mem_of_getElem? (i := 869) (by decide +kernel)) rfl
theorem w_348 : Cond.methodLink RX10 209 yX1_lostAt ∈ wsL_law := wsL_of (List.mem_of_getElem? (i := 866) (by decide +kernel)) rfl
theorem w_349 : Cond.instanceMethod yX1_lostAt ∈ wsL_law := wsL_of (List.mem_of_getElem? (i := 867) (by decide +kernel)) rfl
theorem w_350 : Cond.selects RX1 yX1_lostAt yX1_lostAt ∈ wsL_law := wsL_of (List.mem_of_getElem? (i := 868) (by decide +kernel)) rfl
theorem w_351 : Cond.methodLink RX1 76 yJ6_bitCount_0f7a4 ∈ wsL_law := wsL_of (List.mem_of_getElem? (i := 882) (by decide +kernel)) rfl
theorem w_352 : Cond.code yX10_noRightCount cX10_noRightCount 2 (some .boolean) ∈ wsL_law := wsL_of (List.mem_of_getElem? (i := 877) (by decide +kernel)) rfl
theorem w_353 : Cond.methodLink RX10 212 yX10_noRightCount ∈ wsL_law := wsL_of (List.mem_of_getElem? (i := 874) (by decide +kernel)) rfl
theorem w_354 : Cond.instanceMethod yX10_noRightCount ∈ wsL_law := wsL_of (List.mem_of_getElem? (i := 876) (by decide +kernel)) rfl
theorem w_355 : Cond.selects RX10 yX10_noRightCount yX10_noRightCount ∈ wsL_law := wsL_of (List.mem_of_getElem? (i := 32) (by decide +kernel)) rfl
theorem w_356 : Cond.code yX1_withRight cX1_withRight 6 (some .int) ∈ wsL_law := wsL_of (List.mem_of_getElem? (i := 881) (by decide +kernel)) rfl
theorem w_357 : Cond.methodLink RX10 215 yX1_withRight ∈ wsL_law := wsL_of (List.mem_of_getElem? (i := 878) (by decide +kernel)) rfl
theorem w_358 : Cond.instanceMethod yX1_withRight ∈ wsL_law := wsL_of (List.mem_of_getElem? (i := 879) (by decide +kernel)) rfl
theorem w_359 : Cond.selects RX1 yX1_withRight yX1_withRight ∈ wsL_law := wsL_of (List.mem_of_getElem? (i := 880) (by decide +kernel)) rfl
theorem w_360 : Cond.fieldLink RX10 218 "HatNet$Colourings" "byRight" "[I" ∈ wsL_law := wsL_of (List.mem_of_getElem? (i := 227) (by decide +kernel)) rfl
theorem w_361 : Cond.code yX1_allRightOf cX1_allRightOf 4 (some .int) ∈ wsL_law := wsL_of (List.mem_of_getElem? (i := 894) (by decide +kernel)) rfl
theorem w_362 : Cond.methodLink RX10 224 yX1_allRightOf ∈ wsL_law := wsL_of (List.mem_of_getElem? (i := 891) (by decide +kernel)) rfl
theorem w_363 : Cond.instanceMethod yX1_allRightOf ∈ wsL_law := wsL_of (List.mem_of_getElem? (i := 892) (by decide +kernel)) rfl
theorem w_364 : Cond.selects RX1 yX1_allRightOf yX1_allRightOf ∈ wsL_law := wsL_of (List.mem_of_getElem? (i := 893) (by decide +kernel)) rfl
theorem w_365 : Cond.code yX10_noSet cX10_noSet 2 (some .boolean) ∈ wsL_law := wsL_of (List.mem_of_getElem? (i := 902) (by decide +kernel)) rfl
theorem w_366 : Cond.methodLink RX10 227 yX10_noSet ∈ wsL_law := wsL_of (List.mem_of_getElem? (i := 899) (by decide +kernel)) rfl
theorem w_367 : Cond.instanceMethod yX10_noSet ∈ wsL_law := wsL_of (List.mem_of_getElem? (i := 901) (by decide +kernel)) rfl
theorem w_368 : Cond.selects RX10 yX10_noSet yX10_noSet ∈ wsL_law := wsL_of (List.mem_of_getElem? (i := 33) (by decide +kernel)) rfl
theorem w_369 : Cond.code yX1_noneRightOf cX1_noneRightOf 4 (some .int) ∈ wsL_law := wsL_of (List.mem_of_getElem? (i := 906) (by decide +kernel)) rfl
theorem w_370 : Cond.methodLink RX10 230 yX1_noneRightOf ∈ wsL_law := wsL_of (List.mem_of_getElem? (i := 903) (by decide +kernel)) rfl
theorem w_371 : Cond.instanceMethod yX1_noneRightOf ∈ wsL_law := wsL_of (List.mem_of_getElem? (i := 904) (by decide +kernel)) rfl
theorem w_372 : Cond.selects RX1 yX1_noneRightOf yX1_noneRightOf ∈ wsL_law := wsL_of (List.mem_of_getElem? (i := 905) (by decide +kernel)) rfl
theorem w_373 : Cond.methodLink RX1 81 Lib.Math.max.name ∈ wsL_law := wsL_of (List.mem_of_getElem? (i := 919) (by decide +kernel)) rfl
theorem w_374 : Cond.static Lib.Math.max.name ∈ wsL_law := wsL_of (List.mem_of_getElem? (i := 920) (by decide +kernel)) rfl
theorem w_375 : Cond.code Lib.Math.max.name Lib.Math.max.code 2 (some .int) ∈ wsL_law := wsL_of (List.mem_of_getElem? (i := 921) (by decide +kernel)) rfl
theorem w_376 : Cond.code yX1_mostRight cX1_mostRight 3 (some .int) ∈ wsL_law := wsL_of (List.mem_of_getElem? (i := 918) (by decide +kernel)) rfl
theorem w_377 : Cond.methodLink RX10 233 yX1_mostRight ∈ wsL_law := wsL_of (List.mem_of_getElem? (i := 915) (by decide +kernel)) rfl
theorem w_378 : Cond.instanceMethod yX1_mostRight ∈ wsL_law := wsL_of (List.mem_of_getElem? (i := 916) (by decide +kernel)) rfl
theorem w_379 : Cond.selects RX1 yX1_mostRight yX1_mostRight ∈ wsL_law := wsL_of (List.mem_of_getElem? (i := 917) (by decide +kernel)) rfl
theorem w_380 : Cond.code yX1_firstWithRight cX1_firstWithRight 3 (some .int) ∈ wsL_law := wsL_of (List.mem_of_getElem? (i := 925) (by decide +kernel)) rfl
theorem w_381 : Cond.methodLink RX10 236 yX1_firstWithRight ∈ wsL_law := wsL_of (List.mem_of_getElem? (i := 922) (by decide +kernel)) rfl
theorem w_382 : Cond.instanceMethod yX1_firstWithRight ∈ wsL_law := wsL_of (List.mem_of_getElem? (i := 923) (by decide +kernel)) rfl
theorem w_383 : Cond.selects RX1 yX1_firstWithRight yX1_firstWithRight ∈ wsL_law := wsL_of (List.mem_of_getElem? (i := 924) (by decide +kernel)) rfl
theorem w_384 : Cond.code yX1_secondIsRight cX1_secondIsRight 4 (some .boolean) ∈ wsL_law := wsL_of (List.mem_of_getElem? (i := 937) (by decide +kernel)) rfl
theorem w_385 : Cond.methodLink RX1 86 yX1_secondIsRight ∈ wsL_law := wsL_of (List.mem_of_getElem? (i := 934) (by decide +kernel)) rfl
theorem w_386 : Cond.instanceMethod yX1_secondIsRight ∈ wsL_law := wsL_of (List.mem_of_getElem? (i := 936) (by decide +kernel)) rfl
theorem w_387 : Cond.selects RX1 yX1_secondIsRight yX1_secondIsRight ∈ wsL_law := wsL_of (List.mem_of_getElem? (i := 34) (by decide +kernel)) rfl
theorem w_388 : Cond.code yX1_lostOfTwoGuesses cX1_lostOfTwoGuesses 3 (some .int) ∈ wsL_law := wsL_of (List.mem_of_getElem? (i := 933) (by decide +kernel)) rfl
theorem w_389 : Cond.methodLink RX10 239 yX1_lostOfTwoGuesses ∈ wsL_law := wsL_of (List.mem_of_getElem? (i := 930) (by decide +kernel)) rfl
theorem w_390 : Cond.instanceMethod yX1_lostOfTwoGuesses ∈ wsL_law := wsL_of (List.mem_of_getElem? (i := 931) (by decide +kernel)) rfl
theorem w_391 : Cond.selects RX1 yX1_lostOfTwoGuesses yX1_lostOfTwoGuesses ∈ wsL_law := wsL_of (List.mem_of_getElem? (i := 932) (by decide +kernel)) rfl
theorem w_392 : Cond.code yX1_lostUnseen cX1_lostUnseen 8 (some .int) ∈ wsL_law := wsL_of (List.mem_of_getElem? (i := 945) (by decide +kernel)) rfl
theorem w_393 : Cond.methodLink RX10 242 yX1_lostUnseen ∈ wsL_law := wsL_of (List.mem_of_getElem? (i := 942) (by decide +kernel)) rfl
theorem w_394 : Cond.instanceMethod yX1_lostUnseen ∈ wsL_law := wsL_of (List.mem_of_getElem? (i := 943) (by decide +kernel)) rfl
theorem w_395 : Cond.selects RX1 yX1_lostUnseen yX1_lostUnseen ∈ wsL_law := wsL_of (List.mem_of_getElem? (i := 944) (by decide +kernel)) rfl
theorem w_396 : Cond.methodLink RX1 90 yX1_noneRightOf ∈ wsL_law := wsL_of (List.mem_of_getElem? (i := 958) (by decide +kernel)) rfl
theorem w_397 : Cond.methodLink RX1 93 yX1_lostInAll ∈ wsL_law := wsL_of (List.mem_of_getElem? (i := 959) (by decide +kernel)) rfl
theorem w_398 : Cond.code yX1_fewestNeeded cX1_fewestNeeded 5 (some .int) ∈ wsL_law := wsL_of (List.mem_of_getElem? (i := 957) (by decide +kernel)) rfl
theorem w_399 : Cond.methodLink RX10 245 yX1_fewestNeeded ∈ wsL_law := wsL_of (List.mem_of_getElem? (i := 954) (by decide +kernel)) rfl
theorem w_400 : Cond.instanceMethod yX1_fewestNeeded ∈ wsL_law := wsL_of (List.mem_of_getElem? (i := 955) (by decide +kernel)) rfl
theorem w_401 : Cond.selects RX1 yX1_fewestNeeded yX1_fewestNeeded ∈ wsL_law := wsL_of (List.mem_of_getElem? (i := 956) (by decide +kernel)) rfl
theorem w_402 : Cond.code yX1_lostWith cX1_lostWith 5 (some .int) ∈ wsL_law := wsL_of (List.mem_of_getElem? (i := 967) (by decide +kernel)) rfl
theorem w_403 : Cond.methodLink RX10 248 yX1_lostWith ∈ wsL_law := wsL_of (List.mem_of_getElem? (i := 964) (by decide +kernel)) rfl
theorem w_404 : Cond.instanceMethod yX1_lostWith ∈ wsL_law := wsL_of (List.mem_of_getElem? (i := 965) (by decide +kernel)) rfl
theorem w_405 : Cond.selects RX1 yX1_lostWith yX1_lostWith ∈ wsL_law := wsL_of (List.mem_of_getElem? (i := 966) (by decide +kernel)) rfl
theorem w_406 : Cond.code yX1_unlike cX1_unlike 5 (some .int) ∈ wsL_law := wsL_of (List.mem_of_getElem? (i := 979) (by decide +kernel)) rfl
theorem w_407 : Cond.methodLink RX1 97 yX1_unlike ∈ wsL_law := wsL_of (List.mem_of_getElem? (i := 976) (by decide +kernel)) rfl
theorem w_408 : Cond.instanceMethod yX1_unlike ∈ wsL_law := wsL_of (List.mem_of_getElem? (i := 977) (by decide +kernel)) rfl
theorem w_409 : Cond.selects RX1 yX1_unlike yX1_unlike ∈ wsL_law := wsL_of (List.mem_of_getElem? (i := 978) (by decide +kernel)) rfl
theorem w_410 : Cond.code yX1_nearestLost cX1_nearestLost 5 (some .int) ∈ wsL_law := wsL_of (List.mem_of_getElem? (i := 975) (by decide +kernel)) rfl
theorem w_411 : Cond.methodLink RX10 251 yX1_nearestLost ∈ wsL_law := wsL_of (List.mem_of_getElem? (i := 972) (by decide +kernel)) rfl
theorem w_412 : Cond.instanceMethod yX1_nearestLost ∈ wsL_law := wsL_of (List.mem_of_getElem? (i := 973) (by decide +kernel)) rfl
theorem w_413 : Cond.selects RX1 yX1_nearestLost yX1_nearestLost ∈ wsL_law := wsL_of (List.mem_of_getElem? (i := 974) (by decide +kernel)) rfl
theorem w_414 : Cond.methodLink RX10 254 yX1_unlike ∈ wsL_law := wsL_of (List.mem_of_getElem? (i := 980) (by decide +kernel)) rfl
theorem w_415 : Cond.code yX4_everybody cX4_everybody 1 (some .int) ∈ wsL_law := wsL_of (List.mem_of_getElem? (i := 996) (by decide +kernel)) rfl
theorem w_416 : Cond.methodLink RX4 44 yX4_everybody ∈ wsL_law := wsL_of (List.mem_of_getElem? (i := 993) (by decide +kernel)) rfl
theorem w_417 : Cond.instanceMethod yX4_everybody ∈ wsL_law := wsL_of (List.mem_of_getElem? (i := 994) (by decide +kernel)) rfl
theorem w_418 : Cond.selects RX4 yX4_everybody yX4_everybody ∈ wsL_law := wsL_of (List.mem_of_getElem? (i := 995) (by decide +kernel)) rfl
theorem w_419 : Cond.code yX4_isAcyclic cX4_isAcyclic 4 (some .boolean) ∈ wsL_law := wsL_of (List.mem_of_getElem? (i := 992) (by decide +kernel)) rfl
theorem w_420 : Cond.methodLink RX10 257 yX4_isAcyclic ∈ wsL_law := wsL_of (List.mem_of_getElem? (i := 989) (by decide +kernel)) rfl
theorem w_421 : Cond.instanceMethod yX4_isAcyclic ∈ wsL_law := wsL_of (List.mem_of_getElem? (i := 990) (by decide +kernel)) rfl
theorem w_422 : Cond.selects RX4 yX4_isAcyclic yX4_isAcyclic ∈ wsL_law := wsL_of (List.mem_of_getElem? (i := 991) (by decide +kernel)) rfl
theorem w_423 : Cond.code yX4_seesNoneOfItself cX4_seesNoneOfItself 3 (some .boolean) ∈ wsL_law := wsL_of (List.mem_of_getElem? (i := 1012) (by decide +kernel)) rfl
theorem w_424 : Cond.methodLink RX4 47 yX4_seesNoneOfItself ∈ wsL_law := wsL_of (List.mem_of_getElem? (i := 1009) (by decide +kernel)) rfl
theorem w_425 : Cond.instanceMethod yX4_seesNoneOfItself ∈ wsL_law := wsL_of (List.mem_of_getElem? (i := 1011) (by decide +kernel)) rfl
theorem w_426 : Cond.selects RX4 yX4_seesNoneOfItself yX4_seesNoneOfItself ∈ wsL_law := wsL_of (List.mem_of_getElem? (i := 35) (by decide +kernel)) rfl
theorem w_427 : Cond.code yX4_greatestBlindSet cX4_greatestBlindSet 3 (some .int) ∈ wsL_law := wsL_of (List.mem_of_getElem? (i := 1008) (by decide +kernel)) rfl
theorem w_428 : Cond.methodLink RX10 260 yX4_greatestBlindSet ∈ wsL_law := wsL_of (List.mem_of_getElem? (i := 1005) (by decide +kernel)) rfl
theorem w_429 : Cond.instanceMethod yX4_greatestBlindSet ∈ wsL_law := wsL_of (List.mem_of_getElem? (i := 1006) (by decide +kernel)) rfl
theorem w_430 : Cond.selects RX4 yX4_greatestBlindSet yX4_greatestBlindSet ∈ wsL_law := wsL_of (List.mem_of_getElem? (i := 1007) (by decide +kernel)) rfl
theorem w_431 : Cond.fieldLink RX4 51 "HatNet$Game" "hats" "[I" ∈ wsL_law := wsL_of (List.mem_of_getElem? (i := 191) (by decide +kernel)) rfl
theorem w_432 : Cond.code yX4_twelfths cX4_twelfths 4 (some .int) ∈ wsL_law := wsL_of (List.mem_of_getElem? (i := 1020) (by decide +kernel)) rfl
theorem w_433 : Cond.methodLink RX10 263 yX4_twelfths ∈ wsL_law := wsL_of (List.mem_of_getElem? (i := 1017) (by decide +kernel)) rfl
theorem w_434 : Cond.instanceMethod yX4_twelfths ∈ wsL_law := wsL_of (List.mem_of_getElem? (i := 1018) (by decide +kernel)) rfl
theorem w_435 : Cond.selects RX4 yX4_twelfths yX4_twelfths ∈ wsL_law := wsL_of (List.mem_of_getElem? (i := 1019) (by decide +kernel)) rfl
theorem w_436 : Cond.code yX10_commonDivisor cX10_commonDivisor 4 (some .int) ∈ wsL_law := wsL_of (List.mem_of_getElem? (i := 1023) (by decide +kernel)) rfl
theorem w_437 : Cond.methodLink RX10 266 yX10_commonDivisor ∈ wsL_law := wsL_of (List.mem_of_getElem? (i := 1021) (by decide +kernel)) rfl
theorem w_438 : Cond.static yX10_commonDivisor ∈ wsL_law := wsL_of (List.mem_of_getElem? (i := 1022) (by decide +kernel)) rfl
theorem w_439 : Cond.methodLink RX10 269 Lib.Math.max.name ∈ wsL_law := wsL_of (List.mem_of_getElem? (i := 1028) (by decide +kernel)) rfl
theorem w_440 : Cond.code yX4_isClique cX4_isClique 3 (some .boolean) ∈ wsL_law := wsL_of (List.mem_of_getElem? (i := 1040) (by decide +kernel)) rfl
theorem w_441 : Cond.methodLink RX4 54 yX4_isClique ∈ wsL_law := wsL_of (List.mem_of_getElem? (i := 1037) (by decide +kernel)) rfl
theorem w_442 : Cond.instanceMethod yX4_isClique ∈ wsL_law := wsL_of (List.mem_of_getElem? (i := 1038) (by decide +kernel)) rfl
theorem w_443 : Cond.selects RX4 yX4_isClique yX4_isClique ∈ wsL_law := wsL_of (List.mem_of_getElem? (i := 1039) (by decide +kernel)) rfl
theorem w_444 : Cond.code yX4_greatestClique cX4_greatestClique 3 (some .int) ∈ wsL_law := wsL_of (List.mem_of_getElem? (i := 1036) (by decide +kernel)) rfl
theorem w_445 : Cond.methodLink RX10 274 yX4_greatestClique ∈ wsL_law := wsL_of (List.mem_of_getElem? (i := 1033) (by decide +kernel)) rfl
theorem w_446 : Cond.instanceMethod yX4_greatestClique ∈ wsL_law := wsL_of (List.mem_of_getElem? (i := 1034) (by decide +kernel)) rfl
theorem w_447 : Cond.selects RX4 yX4_greatestClique yX4_greatestClique ∈ wsL_law := wsL_of (List.mem_of_getElem? (i := 1035) (by decide +kernel)) rfl
theorem w_448 : Cond.methodLink RX4 57 yX4_twelfths ∈ wsL_law := wsL_of (List.mem_of_getElem? (i := 1049) (by decide +kernel)) rfl
theorem w_449 : Cond.code yX4_strongestClique cX4_strongestClique 3 (some .int) ∈ wsL_law := wsL_of (List.mem_of_getElem? (i := 1048) (by decide +kernel)) rfl
theorem w_450 : Cond.methodLink RX10 277 yX4_strongestClique ∈ wsL_law := wsL_of (List.mem_of_getElem? (i := 1045) (by decide +kernel)) rfl
theorem w_451 : Cond.instanceMethod yX4_strongestClique ∈ wsL_law := wsL_of (List.mem_of_getElem? (i := 1046) (by decide +kernel)) rfl
theorem w_452 : Cond.selects RX4 yX4_strongestClique yX4_strongestClique ∈ wsL_law := wsL_of (List.mem_of_getElem? (i := 1047) (by decide +kernel)) rfl
theorem w_453 : Cond.code yX4_sureCliques cX4_sureCliques 3 (some .int) ∈ wsL_law := wsL_of (List.mem_of_getElem? (i := 1057) (by decide +kernel)) rfl
theorem w_454 : Cond.methodLink RX10 280 yX4_sureCliques ∈ wsL_law := wsL_of (List.mem_of_getElem? (i := 1054) (by decide +kernel)) rfl
theorem w_455 : Cond.instanceMethod yX4_sureCliques ∈ wsL_law := wsL_of (List.mem_of_getElem? (i := 1055) (by decide +kernel)) rfl
theorem w_456 : Cond.selects RX4 yX4_sureCliques yX4_sureCliques ∈ wsL_law := wsL_of (List.mem_of_getElem? (i := 1056) (by decide +kernel)) rfl
theorem w_457 : Cond.fieldLink RX1 33 "HatNet$Colourings" "rescued" "[I" ∈ wsL_law := wsL_of (List.mem_of_getElem? (i := 230) (by decide +kernel)) rfl
theorem w_458 : Cond.code yX1_countRescued cX1_countRescued 6 (some .int) ∈ wsL_law := wsL_of (List.mem_of_getElem? (i := 1069) (by decide +kernel)) rfl
theorem w_459 : Cond.methodLink RX1 100 yX1_countRescued ∈ wsL_law := wsL_of (List.mem_of_getElem? (i := 1066) (by decide +kernel)) rfl
theorem w_460 : Cond.instanceMethod yX1_countRescued ∈ wsL_law := wsL_of (List.mem_of_getElem? (i := 1068) (by decide +kernel)) rfl
theorem w_461 : Cond.selects RX1 yX1_countRescued yX1_countRescued ∈ wsL_law := wsL_of (List.mem_of_getElem? (i := 36) (by decide +kernel)) rfl
theorem w_462 : Cond.fieldLink RX1 30 "HatNet$Colourings" "bestTable" "[I" ∈ wsL_law := wsL_of (List.mem_of_getElem? (i := 228) (by decide +kernel)) rfl
theorem w_463 : Cond.code yX1_weighBest cX1_weighBest 8 (some .int) ∈ wsL_law := wsL_of (List.mem_of_getElem? (i := 1065) (by decide +kernel)) rfl
theorem w_464 : Cond.methodLink RX10 283 yX1_weighBest ∈ wsL_law := wsL_of (List.mem_of_getElem? (i := 1062) (by decide +kernel)) rfl
theorem w_465 : Cond.instanceMethod yX1_weighBest ∈ wsL_law := wsL_of (List.mem_of_getElem? (i := 1063) (by decide +kernel)) rfl
theorem w_466 : Cond.selects RX1 yX1_weighBest yX1_weighBest ∈ wsL_law := wsL_of (List.mem_of_getElem? (i := 1064) (by decide +kernel)) rfl
theorem w_467 : Cond.fieldLink RX10 286 "HatNet$Colourings" "bestTable" "[I" ∈ wsL_law := wsL_of (List.mem_of_getElem? (i := 229) (by decide +kernel)) rfl
theorem w_468 : Cond.fieldLink RX9 36 "HatNet$Ways" "game" "LHatNet$Game;" ∈ wsL_law := wsL_of (List.mem_of_getElem? (i := 293) (by decide +kernel)) rfl
theorem w_469 : Cond.fieldLink RX9 76 "HatNet$Game" "players" "I" ∈ wsL_law := wsL_of (List.mem_of_getElem? (i := 180) (by decide +kernel)) rfl
theorem w_470 : Cond.fieldLink RX9 79 "HatNet$Game" "hats" "[I" ∈ wsL_law := wsL_of (List.mem_of_getElem? (i := 186) (by decide +kernel)) rfl
theorem w_471 : Cond.fieldLink RX9 57 "HatNet$Ways" "entries" "I" ∈ wsL_law := wsL_of (List.mem_of_getElem? (i := 298) (by decide +kernel)) rfl
theorem w_472 : Cond.methodLink RX9 91 yX2_situations ∈ wsL_law := wsL_of (List.mem_of_getElem? (i := 1103) (by decide +kernel)) rfl
theorem w_473 : Cond.fieldLink RX9 19 "HatNet$Ways" "colours" "[I" ∈ wsL_law := wsL_of (List.mem_of_getElem? (i := 296) (by decide +kernel)) rfl
theorem w_474 : Cond.fieldLink RX9 23 "HatNet$Ways" "picked" "[I" ∈ wsL_law := wsL_of (List.mem_of_getElem? (i := 297) (by decide +kernel)) rfl
theorem w_475 : Cond.fieldLink RX9 26 "HatNet$Ways" "colourings" "LHatNet$Colourings;" ∈ wsL_law := wsL_of (List.mem_of_getElem? (i := 292) (by decide +kernel)) rfl
theorem w_476 : Cond.fieldLink RX9 82 "HatNet$Colourings" "count" "I" ∈ wsL_law := wsL_of (List.mem_of_getElem? (i := 220) (by decide +kernel)) rfl
theorem w_477 : Cond.methodLink RX9 95 yX1_situationOf ∈ wsL_law := wsL_of (List.mem_of_getElem? (i := 1104) (by decide +kernel)) rfl
theorem w_478 : Cond.methodLink RX9 98 yX1_colourOf ∈ wsL_law := wsL_of (List.mem_of_getElem? (i := 1105) (by decide +kernel)) rfl
theorem w_479 : Cond.fieldLink RX9 13 "HatNet$Ways" "rightIf" "[[J" ∈ wsL_law := wsL_of (List.mem_of_getElem? (i := 294) (by decide +kernel)) rfl
theorem w_480 : Cond.fieldLink RX9 85 "HatNet$Ways" "words" "I" ∈ wsL_law := wsL_of (List.mem_of_getElem? (i := 299) (by decide +kernel)) rfl
theorem w_481 : Cond.fieldLink RX9 16 "HatNet$Ways" "open" "[[J" ∈ wsL_law := wsL_of (List.mem_of_getElem? (i := 295) (by decide +kernel)) rfl
theorem w_482 : Cond.code yX9_layOutPlayer cX9_layOutPlayer 7 none ∈ wsL_law := wsL_of (List.mem_of_getElem? (i := 1102) (by decide +kernel)) rfl
theorem w_483 : Cond.initialized RX9 ∈ wsL_law := wsL_of (List.mem_of_getElem? (i := 146) (by decide +kernel)) rfl
theorem w_484 : Cond.methodLink RX9 88 yX9_layOutPlayer ∈ wsL_law := wsL_of (List.mem_of_getElem? (i := 1099) (by decide +kernel)) rfl
theorem w_485 : Cond.instanceMethod yX9_layOutPlayer ∈ wsL_law := wsL_of (List.mem_of_getElem? (i := 1101) (by decide +kernel)) rfl
theorem w_486 : Cond.selects RX9 yX9_layOutPlayer yX9_layOutPlayer ∈ wsL_law := wsL_of (List.mem_of_getElem? (i := 39) (by decide +kernel)) rfl
theorem w_487 : Cond.constantLong RX9 101 (-1) ∈ wsL_law := wsL_of (List.mem_of_getElem? (i := 1110) (by decide +kernel)) rfl
theorem w_488 : Cond.code yJ13_bitCount_95d88 cJ13_bitCount_95d88 2 (some .int) ∈ wsL_law := wsL_of (List.mem_of_getElem? (i := 1117) (by decide +kernel)) rfl
theorem w_489 : Cond.initialized RJ13 ∈ wsL_law := wsL_of (List.mem_of_getElem? (i := 159) (by decide +kernel)) rfl
theorem w_490 : Cond.methodLink RX9 103 yJ13_bitCount_95d88 ∈ wsL_law := wsL_of (List.mem_of_getElem? (i := 1115) (by decide +kernel)) rfl
theorem w_491 : Cond.static yJ13_bitCount_95d88 ∈ wsL_law := wsL_of (List.mem_of_getElem? (i := 1116) (by decide +kernel)) rfl
theorem w_492 : Cond.code yX2_waysToGuess cX2_waysToGuess 5 (some .int) ∈ wsL_law := wsL_of (List.mem_of_getElem? (i := 1085) (by decide +kernel)) rfl
theorem w_493 : Cond.methodLink RX9 37 yX2_waysToGuess ∈ wsL_law := wsL_of (List.mem_of_getElem? (i := 1090) (by decide +kernel)) rfl
theorem w_494 : Cond.instanceMethod yX2_waysToGuess ∈ wsL_law := wsL_of (List.mem_of_getElem? (i := 1083) (by decide +kernel)) rfl
theorem w_495 : Cond.selects RX2 yX2_waysToGuess yX2_waysToGuess ∈ wsL_law := wsL_of (List.mem_of_getElem? (i := 1084) (by decide +kernel)) rfl
theorem w_496 : Cond.code yX9_someHasOneColour cX9_someHasOneColour 2 (some .boolean) ∈ wsL_law := wsL_of (List.mem_of_getElem? (i := 1094) (by decide +kernel)) rfl
theorem w_497 : Cond.methodLink RX9 43 yX9_someHasOneColour ∈ wsL_law := wsL_of (List.mem_of_getElem? (i := 1091) (by decide +kernel)) rfl
theorem w_498 : Cond.instanceMethod yX9_someHasOneColour ∈ wsL_law := wsL_of (List.mem_of_getElem? (i := 1093) (by decide +kernel)) rfl
theorem w_499 : Cond.selects RX9 yX9_someHasOneColour yX9_someHasOneColour ∈ wsL_law := wsL_of (List.mem_of_getElem? (i := 37) (by decide +kernel)) rfl
theorem w_500 : Cond.fieldLink RX9 47 "HatNet$Ways" "won" "I" ∈ wsL_law := wsL_of (List.mem_of_getElem? (i := 300) (by decide +kernel)) rfl
theorem w_501 : Cond.fieldLink RX9 51 "HatNet$Ways" "fewestLost" "I" ∈ wsL_law := wsL_of (List.mem_of_getElem? (i := 302) (by decide +kernel)) rfl
theorem w_502 : Cond.code yX9_layOut cX9_layOut 2 none ∈ wsL_law := wsL_of (List.mem_of_getElem? (i := 1098) (by decide +kernel)) rfl
theorem w_503 : Cond.methodLink RX9 54 yX9_layOut ∈ wsL_law := wsL_of (List.mem_of_getElem? (i := 1095) (by decide +kernel)) rfl
theorem w_504 : Cond.instanceMethod yX9_layOut ∈ wsL_law := wsL_of (List.mem_of_getElem? (i := 1097) (by decide +kernel)) rfl
theorem w_505 : Cond.selects RX9 yX9_layOut yX9_layOut ∈ wsL_law := wsL_of (List.mem_of_getElem? (i := 38) (by decide +kernel)) rfl
theorem w_506 : Cond.code yX9_settle cX9_settle 6 none ∈ wsL_law := wsL_of (List.mem_of_getElem? (i := 1109) (by decide +kernel)) rfl
theorem w_507 : Cond.methodLink RX9 60 yX9_settle ∈ wsL_law := wsL_of (List.mem_of_getElem? (i := 1106) (by decide +kernel)) rfl
theorem w_508 : Cond.instanceMethod yX9_settle ∈ wsL_law := wsL_of (List.mem_of_getElem? (i := 1108) (by decide +kernel)) rfl
theorem w_509 : Cond.selects RX9 yX9_settle yX9_settle ∈ wsL_law := wsL_of (List.mem_of_getElem? (i := 40) (by decide +kernel)) rfl
theorem w_510 : Cond.code yX9_stillOpen cX9_stillOpen 3 (some .int) ∈ wsL_law := wsL_of (List.mem_of_getElem? (i := 1114) (by decide +kernel)) rfl
theorem w_511 : Cond.methodLink RX9 64 yX9_stillOpen ∈ wsL_law := wsL_of (List.mem_of_getElem? (i := 1111) (by decide +kernel)) rfl
theorem w_512 : Cond.instanceMethod yX9_stillOpen ∈ wsL_law := wsL_of (List.mem_of_getElem? (i := 1113) (by decide +kernel)) rfl
theorem w_513 : Cond.selects RX9 yX9_stillOpen yX9_stillOpen ∈ wsL_law := wsL_of (List.mem_of_getElem? (i := 41) (by decide +kernel)) rfl
theorem w_514 : Cond.methodLink RX9 67 Lib.Math.min.name ∈ wsL_law := wsL_of (List.mem_of_getElem? (i := 1121) (by decide +kernel)) rfl
theorem w_515 : Cond.code yX9_pickNext cX9_pickNext 2 (some .int) ∈ wsL_law := wsL_of (List.mem_of_getElem? (i := 1125) (by decide +kernel)) rfl
theorem w_516 : Cond.methodLink RX9 73 yX9_pickNext ∈ wsL_law := wsL_of (List.mem_of_getElem? (i := 1122) (by decide +kernel)) rfl
theorem w_517 : Cond.instanceMethod yX9_pickNext ∈ wsL_law := wsL_of (List.mem_of_getElem? (i := 1124) (by decide +kernel)) rfl
theorem w_518 : Cond.selects RX9 yX9_pickNext yX9_pickNext ∈ wsL_law := wsL_of (List.mem_of_getElem? (i := 42) (by decide +kernel)) rfl
theorem w_519 : Cond.methodLink RX10 289 yX2_waysToGuess ∈ wsL_law := wsL_of (List.mem_of_getElem? (i := 1082) (by decide +kernel)) rfl
theorem w_520 : Cond.fieldLink RX10 51 "HatNet" "allWays" "LHatNet$Ways;" ∈ wsL_law := wsL_of (List.mem_of_getElem? (i := 440) (by decide +kernel)) rfl
theorem w_521 : Cond.code yX9_goThrough cX9_goThrough 5 none ∈ wsL_law := wsL_of (List.mem_of_getElem? (i := 1089) (by decide +kernel)) rfl
theorem w_522 : Cond.methodLink RX10 292 yX9_goThrough ∈ wsL_law := wsL_of (List.mem_of_getElem? (i := 1086) (by decide +kernel)) rfl
theorem w_523 : Cond.instanceMethod yX9_goThrough ∈ wsL_law := wsL_of (List.mem_of_getElem? (i := 1087) (by decide +kernel)) rfl
theorem w_524 : Cond.selects RX9 yX9_goThrough yX9_goThrough ∈ wsL_law := wsL_of (List.mem_of_getElem? (i := 1088) (by decide +kernel)) rfl
theorem w_525 : Cond.fieldLink RX10 295 "HatNet$Ways" "won" "I" ∈ wsL_law := wsL_of (List.mem_of_getElem? (i := 301) (by decide +kernel)) rfl
theorem w_526 : Cond.fieldLink RX10 298 "HatNet$Ways" "fewestLost" "I" ∈ wsL_law := wsL_of (List.mem_of_getElem? (i := 303) (by decide +kernel)) rfl
theorem w_527 : Cond.constant RX10 381 (999999999) ∈ wsL_law := wsL_of (List.mem_of_getElem? (i := 1134) (by decide +kernel)) rfl
theorem w_528 : Cond.constantLong RX2 58 (6364136223846793005) ∈ wsL_law := wsL_of (List.mem_of_getElem? (i := 1139) (by decide +kernel)) rfl
theorem w_529 : Cond.constantLong RX2 60 (1442695040888963407) ∈ wsL_law := wsL_of (List.mem_of_getElem? (i := 1140) (by decide +kernel)) rfl
theorem w_530 : Cond.methodLink RX2 62 yX2_tell ∈ wsL_law := wsL_of (List.mem_of_getElem? (i := 1141) (by decide +kernel)) rfl
theorem w_531 : Cond.methodLink RX1 103 yX2_tell ∈ wsL_law := wsL_of (List.mem_of_getElem? (i := 1153) (by decide +kernel)) rfl
theorem w_532 : Cond.code yX1_judgeAgain cX1_judgeAgain 2 none ∈ wsL_law := wsL_of (List.mem_of_getElem? (i := 1157) (by decide +kernel)) rfl
theorem w_533 : Cond.methodLink RX1 107 yX1_judgeAgain ∈ wsL_law := wsL_of (List.mem_of_getElem? (i := 1154) (by decide +kernel)) rfl
theorem w_534 : Cond.instanceMethod yX1_judgeAgain ∈ wsL_law := wsL_of (List.mem_of_getElem? (i := 1155) (by decide +kernel)) rfl
theorem w_535 : Cond.selects RX1 yX1_judgeAgain yX1_judgeAgain ∈ wsL_law := wsL_of (List.mem_of_getElem? (i := 1156) (by decide +kernel)) rfl
theorem w_536 : Cond.constant RX1 110 (1000000) ∈ wsL_law := wsL_of (List.mem_of_getElem? (i := 1147) (by decide +kernel)) rfl
theorem w_537 : Cond.methodLink RX1 111 yX1_weighBest ∈ wsL_law := wsL_of (List.mem_of_getElem? (i := 1148) (by decide +kernel)) rfl
theorem w_538 : Cond.code yX1_takeBest cX1_takeBest 5 (some .int) ∈ wsL_law := wsL_of (List.mem_of_getElem? (i := 1152) (by decide +kernel)) rfl
theorem w_539 : Cond.methodLink RX1 114 yX1_takeBest ∈ wsL_law := wsL_of (List.mem_of_getElem? (i := 1149) (by decide +kernel)) rfl
theorem w_540 : Cond.instanceMethod yX1_takeBest ∈ wsL_law := wsL_of (List.mem_of_getElem? (i := 1150) (by decide +kernel)) rfl
theorem w_541 : Cond.selects RX1 yX1_takeBest yX1_takeBest ∈ wsL_law := wsL_of (List.mem_of_getElem? (i := 1151) (by decide +kernel)) rfl
theorem w_542 : Cond.code yX10_noSeed cX10_noSeed 2 (some .boolean) ∈ wsL_law := wsL_of (List.mem_of_getElem? (i := 1133) (by decide +kernel)) rfl
theorem w_543 : Cond.methodLink RX10 301 yX10_noSeed ∈ wsL_law := wsL_of (List.mem_of_getElem? (i := 1130) (by decide +kernel)) rfl
theorem w_544 : Cond.instanceMethod yX10_noSeed ∈ wsL_law := wsL_of (List.mem_of_getElem? (i := 1132) (by decide +kernel)) rfl
theorem w_545 : Cond.selects RX10 yX10_noSeed yX10_noSeed ∈ wsL_law := wsL_of (List.mem_of_getElem? (i := 43) (by decide +kernel)) rfl
theorem w_546 : Cond.fieldLink RX10 82 "HatNet" "spare" "LHatNet$Game;" ∈ wsL_law := wsL_of (List.mem_of_getElem? (i := 445) (by decide +kernel)) rfl
theorem w_547 : Cond.code yX2_draw cX2_draw 7 none ∈ wsL_law := wsL_of (List.mem_of_getElem? (i := 1138) (by decide +kernel)) rfl
theorem w_548 : Cond.methodLink RX10 304 yX2_draw ∈ wsL_law := wsL_of (List.mem_of_getElem? (i := 1135) (by decide +kernel)) rfl
theorem w_549 : Cond.instanceMethod yX2_draw ∈ wsL_law := wsL_of (List.mem_of_getElem? (i := 1136) (by decide +kernel)) rfl
theorem w_550 : Cond.selects RX2 yX2_draw yX2_draw ∈ wsL_law := wsL_of (List.mem_of_getElem? (i := 1137) (by decide +kernel)) rfl
theorem w_551 : Cond.methodLink RX10 307 yX1_judgeAll ∈ wsL_law := wsL_of (List.mem_of_getElem? (i := 1142) (by decide +kernel)) rfl
theorem w_552 : Cond.code yX1_improve cX1_improve 5 (some .int) ∈ wsL_law := wsL_of (List.mem_of_getElem? (i := 1146) (by decide +kernel)) rfl
theorem w_553 : Cond.methodLink RX10 310 yX1_improve ∈ wsL_law := wsL_of (List.mem_of_getElem? (i := 1143) (by decide +kernel)) rfl
theorem w_554 : Cond.instanceMethod yX1_improve ∈ wsL_law := wsL_of (List.mem_of_getElem? (i := 1144) (by decide +kernel)) rfl
theorem w_555 : Cond.selects RX1 yX1_improve yX1_improve ∈ wsL_law := wsL_of (List.mem_of_getElem? (i := 1145) (by decide +kernel)) rfl
theorem w_556 : Cond.fieldLink RX7 9 "HatNet$Renumbering" "image" "[I" ∈ wsL_law := wsL_of (List.mem_of_getElem? (i := 265) (by decide +kernel)) rfl
theorem w_557 : Cond.fieldLink RX7 18 "HatNet$Renumbering" "game" "LHatNet$Game;" ∈ wsL_law := wsL_of (List.mem_of_getElem? (i := 264) (by decide +kernel)) rfl
theorem w_558 : Cond.fieldLink RX7 22 "HatNet$Game" "players" "I" ∈ wsL_law := wsL_of (List.mem_of_getElem? (i := 178) (by decide +kernel)) rfl
theorem w_559 : Cond.code yX7_bringForward cX7_bringForward 5 none ∈ wsL_law := wsL_of (List.mem_of_getElem? (i := 1177) (by decide +kernel)) rfl
theorem w_560 : Cond.initialized RX7 ∈ wsL_law := wsL_of (List.mem_of_getElem? (i := 144) (by decide +kernel)) rfl
theorem w_561 : Cond.methodLink RX7 42 yX7_bringForward ∈ wsL_law := wsL_of (List.mem_of_getElem? (i := 1174) (by decide +kernel)) rfl
theorem w_562 : Cond.instanceMethod yX7_bringForward ∈ wsL_law := wsL_of (List.mem_of_getElem? (i := 1176) (by decide +kernel)) rfl
theorem w_563 : Cond.selects RX7 yX7_bringForward yX7_bringForward ∈ wsL_law := wsL_of (List.mem_of_getElem? (i := 46) (by decide +kernel)) rfl
theorem w_564 : Cond.fieldLink RX7 49 "HatNet$Game" "hats" "[I" ∈ wsL_law := wsL_of (List.mem_of_getElem? (i := 190) (by decide +kernel)) rfl
theorem w_565 : Cond.methodLink RX7 52 yX2_watches ∈ wsL_law := wsL_of (List.mem_of_getElem? (i := 1186) (by decide +kernel)) rfl
theorem w_566 : Cond.fieldLink RX7 15 "HatNet$Renumbering" "carried" "[I" ∈ wsL_law := wsL_of (List.mem_of_getElem? (i := 266) (by decide +kernel)) rfl
theorem w_567 : Cond.methodLink RX7 60 yX2_weight ∈ wsL_law := wsL_of (List.mem_of_getElem? (i := 1195) (by decide +kernel)) rfl
theorem w_568 : Cond.methodLink RX7 68 yX2_told ∈ wsL_law := wsL_of (List.mem_of_getElem? (i := 1197) (by decide +kernel)) rfl
theorem w_569 : Cond.code yX7_keeps cX7_keeps 4 (some .boolean) ∈ wsL_law := wsL_of (List.mem_of_getElem? (i := 1194) (by decide +kernel)) rfl
theorem w_570 : Cond.methodLink RX7 56 yX7_keeps ∈ wsL_law := wsL_of (List.mem_of_getElem? (i := 1191) (by decide +kernel)) rfl
theorem w_571 : Cond.instanceMethod yX7_keeps ∈ wsL_law := wsL_of (List.mem_of_getElem? (i := 1193) (by decide +kernel)) rfl
theorem w_572 : Cond.selects RX7 yX7_keeps yX7_keeps ∈ wsL_law := wsL_of (List.mem_of_getElem? (i := 50) (by decide +kernel)) rfl
theorem w_573 : Cond.code yX7_stay cX7_stay 2 none ∈ wsL_law := wsL_of (List.mem_of_getElem? (i := 1173) (by decide +kernel)) rfl
theorem w_574 : Cond.methodLink RX7 32 yX7_stay ∈ wsL_law := wsL_of (List.mem_of_getElem? (i := 1170) (by decide +kernel)) rfl
theorem w_575 : Cond.instanceMethod yX7_stay ∈ wsL_law := wsL_of (List.mem_of_getElem? (i := 1172) (by decide +kernel)) rfl
theorem w_576 : Cond.selects RX7 yX7_stay yX7_stay ∈ wsL_law := wsL_of (List.mem_of_getElem? (i := 45) (by decide +kernel)) rfl
theorem w_577 : Cond.code yX7_orderBehind cX7_orderBehind 6 none ∈ wsL_law := wsL_of (List.mem_of_getElem? (i := 1181) (by decide +kernel)) rfl
theorem w_578 : Cond.methodLink RX7 46 yX7_orderBehind ∈ wsL_law := wsL_of (List.mem_of_getElem? (i := 1178) (by decide +kernel)) rfl
theorem w_579 : Cond.instanceMethod yX7_orderBehind ∈ wsL_law := wsL_of (List.mem_of_getElem? (i := 1180) (by decide +kernel)) rfl
theorem w_580 : Cond.selects RX7 yX7_orderBehind yX7_orderBehind ∈ wsL_law := wsL_of (List.mem_of_getElem? (i := 47) (by decide +kernel)) rfl
theorem w_581 : Cond.code yX7_fits cX7_fits 3 (some .boolean) ∈ wsL_law := wsL_of (List.mem_of_getElem? (i := 1185) (by decide +kernel)) rfl
theorem w_582 : Cond.methodLink RX7 35 yX7_fits ∈ wsL_law := wsL_of (List.mem_of_getElem? (i := 1182) (by decide +kernel)) rfl
theorem w_583 : Cond.instanceMethod yX7_fits ∈ wsL_law := wsL_of (List.mem_of_getElem? (i := 1184) (by decide +kernel)) rfl
theorem w_584 : Cond.selects RX7 yX7_fits yX7_fits ∈ wsL_law := wsL_of (List.mem_of_getElem? (i := 48) (by decide +kernel)) rfl
theorem w_585 : Cond.code yX7_keepsAll cX7_keepsAll 2 (some .boolean) ∈ wsL_law := wsL_of (List.mem_of_getElem? (i := 1190) (by decide +kernel)) rfl
theorem w_586 : Cond.methodLink RX7 39 yX7_keepsAll ∈ wsL_law := wsL_of (List.mem_of_getElem? (i := 1187) (by decide +kernel)) rfl
theorem w_587 : Cond.instanceMethod yX7_keepsAll ∈ wsL_law := wsL_of (List.mem_of_getElem? (i := 1189) (by decide +kernel)) rfl
theorem w_588 : Cond.selects RX7 yX7_keepsAll yX7_keepsAll ∈ wsL_law := wsL_of (List.mem_of_getElem? (i := 49) (by decide +kernel)) rfl
theorem w_589 : Cond.code yX7_someBrings cX7_someBrings 6 (some .boolean) ∈ wsL_law := wsL_of (List.mem_of_getElem? (i := 1169) (by decide +kernel)) rfl
theorem w_590 : Cond.methodLink RX7 28 yX7_someBrings ∈ wsL_law := wsL_of (List.mem_of_getElem? (i := 1166) (by decide +kernel)) rfl
theorem w_591 : Cond.instanceMethod yX7_someBrings ∈ wsL_law := wsL_of (List.mem_of_getElem? (i := 1168) (by decide +kernel)) rfl
theorem w_592 : Cond.selects RX7 yX7_someBrings yX7_someBrings ∈ wsL_law := wsL_of (List.mem_of_getElem? (i := 44) (by decide +kernel)) rfl
theorem w_593 : Cond.fieldLink RX10 35 "HatNet" "renumbering" "LHatNet$Renumbering;" ∈ wsL_law := wsL_of (List.mem_of_getElem? (i := 438) (by decide +kernel)) rfl
theorem w_594 : Cond.code yX7_howMany cX7_howMany 6 (some .int) ∈ wsL_law := wsL_of (List.mem_of_getElem? (i := 1165) (by decide +kernel)) rfl
theorem w_595 : Cond.methodLink RX10 313 yX7_howMany ∈ wsL_law := wsL_of (List.mem_of_getElem? (i := 1162) (by decide +kernel)) rfl
theorem w_596 : Cond.instanceMethod yX7_howMany ∈ wsL_law := wsL_of (List.mem_of_getElem? (i := 1163) (by decide +kernel)) rfl
theorem w_597 : Cond.selects RX7 yX7_howMany yX7_howMany ∈ wsL_law := wsL_of (List.mem_of_getElem? (i := 1164) (by decide +kernel)) rfl
theorem w_598 : Cond.code yX7_swapKeeps cX7_swapKeeps 3 (some .boolean) ∈ wsL_law := wsL_of (List.mem_of_getElem? (i := 1205) (by decide +kernel)) rfl
theorem w_599 : Cond.methodLink RX10 317 yX7_swapKeeps ∈ wsL_law := wsL_of (List.mem_of_getElem? (i := 1202) (by decide +kernel)) rfl
theorem w_600 : Cond.instanceMethod yX7_swapKeeps ∈ wsL_law := wsL_of (List.mem_of_getElem? (i := 1203) (by decide +kernel)) rfl
theorem w_601 : Cond.selects RX7 yX7_swapKeeps yX7_swapKeeps ∈ wsL_law := wsL_of (List.mem_of_getElem? (i := 1204) (by decide +kernel)) rfl
theorem w_602 : Cond.code yX4_stepsTo cX4_stepsTo 7 (some .int) ∈ wsL_law := wsL_of (List.mem_of_getElem? (i := 1213) (by decide +kernel)) rfl
theorem w_603 : Cond.methodLink RX10 320 yX4_stepsTo ∈ wsL_law := wsL_of (List.mem_of_getElem? (i := 1210) (by decide +kernel)) rfl
theorem w_604 : Cond.instanceMethod yX4_stepsTo ∈ wsL_law := wsL_of (List.mem_of_getElem? (i := 1211) (by decide +kernel)) rfl
theorem w_605 : Cond.selects RX4 yX4_stepsTo yX4_stepsTo ∈ wsL_law := wsL_of (List.mem_of_getElem? (i := 1212) (by decide +kernel)) rfl
theorem w_606 : Cond.code yJ6_numberOfTrailingZeros_0f7a4 cJ6_numberOfTrailingZeros_0f7a4 2 (some .int) ∈ wsL_law := wsL_of (List.mem_of_getElem? (i := 1233) (by decide +kernel)) rfl
theorem w_607 : Cond.methodLink RX4 77 yJ6_numberOfTrailingZeros_0f7a4 ∈ wsL_law := wsL_of (List.mem_of_getElem? (i := 1231) (by decide +kernel)) rfl
theorem w_608 : Cond.static yJ6_numberOfTrailingZeros_0f7a4 ∈ wsL_law := wsL_of (List.mem_of_getElem? (i := 1232) (by decide +kernel)) rfl
theorem w_609 : Cond.code yX4_linkedWith cX4_linkedWith 6 (some .int) ∈ wsL_law := wsL_of (List.mem_of_getElem? (i := 1238) (by decide +kernel)) rfl
theorem w_610 : Cond.methodLink RX4 73 yX4_linkedWith ∈ wsL_law := wsL_of (List.mem_of_getElem? (i := 1235) (by decide +kernel)) rfl
theorem w_611 : Cond.instanceMethod yX4_linkedWith ∈ wsL_law := wsL_of (List.mem_of_getElem? (i := 1236) (by decide +kernel)) rfl
theorem w_612 : Cond.selects RX4 yX4_linkedWith yX4_linkedWith ∈ wsL_law := wsL_of (List.mem_of_getElem? (i := 1237) (by decide +kernel)) rfl
theorem w_613 : Cond.methodLink RX4 63 yX4_isMutual ∈ wsL_law := wsL_of (List.mem_of_getElem? (i := 1226) (by decide +kernel)) rfl
theorem w_614 : Cond.code yX4_isRing cX4_isRing 4 (some .boolean) ∈ wsL_law := wsL_of (List.mem_of_getElem? (i := 1230) (by decide +kernel)) rfl
theorem w_615 : Cond.methodLink RX4 67 yX4_isRing ∈ wsL_law := wsL_of (List.mem_of_getElem? (i := 1227) (by decide +kernel)) rfl
theorem w_616 : Cond.instanceMethod yX4_isRing ∈ wsL_law := wsL_of (List.mem_of_getElem? (i := 1229) (by decide +kernel)) rfl
theorem w_617 : Cond.selects RX4 yX4_isRing yX4_isRing ∈ wsL_law := wsL_of (List.mem_of_getElem? (i := 51) (by decide +kernel)) rfl
theorem w_618 : Cond.code yX4_firstHub cX4_firstHub 3 (some .int) ∈ wsL_law := wsL_of (List.mem_of_getElem? (i := 1225) (by decide +kernel)) rfl
theorem w_619 : Cond.methodLink RX4 60 yX4_firstHub ∈ wsL_law := wsL_of (List.mem_of_getElem? (i := 1222) (by decide +kernel)) rfl
theorem w_620 : Cond.instanceMethod yX4_firstHub ∈ wsL_law := wsL_of (List.mem_of_getElem? (i := 1223) (by decide +kernel)) rfl
theorem w_621 : Cond.selects RX4 yX4_firstHub yX4_firstHub ∈ wsL_law := wsL_of (List.mem_of_getElem? (i := 1224) (by decide +kernel)) rfl
theorem w_622 : Cond.code yX4_isTree cX4_isTree 2 (some .boolean) ∈ wsL_law := wsL_of (List.mem_of_getElem? (i := 1242) (by decide +kernel)) rfl
theorem w_623 : Cond.methodLink RX4 70 yX4_isTree ∈ wsL_law := wsL_of (List.mem_of_getElem? (i := 1239) (by decide +kernel)) rfl
theorem w_624 : Cond.instanceMethod yX4_isTree ∈ wsL_law := wsL_of (List.mem_of_getElem? (i := 1241) (by decide +kernel)) rfl
theorem w_625 : Cond.selects RX4 yX4_isTree yX4_isTree ∈ wsL_law := wsL_of (List.mem_of_getElem? (i := 52) (by decide +kernel)) rfl
theorem w_626 : Cond.code yX4_kind cX4_kind 1 (some .int) ∈ wsL_law := wsL_of (List.mem_of_getElem? (i := 1221) (by decide +kernel)) rfl
theorem w_627 : Cond.methodLink RX10 323 yX4_kind ∈ wsL_law := wsL_of (List.mem_of_getElem? (i := 1218) (by decide +kernel)) rfl
theorem w_628 : Cond.instanceMethod yX4_kind ∈ wsL_law := wsL_of (List.mem_of_getElem? (i := 1219) (by decide +kernel)) rfl
theorem w_629 : Cond.selects RX4 yX4_kind yX4_kind ∈ wsL_law := wsL_of (List.mem_of_getElem? (i := 1220) (by decide +kernel)) rfl
theorem w_630 : Cond.methodLink RX10 326 yX4_firstHub ∈ wsL_law := wsL_of (List.mem_of_getElem? (i := 1247) (by decide +kernel)) rfl
theorem w_631 : Cond.methodLink RX10 329 yX4_everybody ∈ wsL_law := wsL_of (List.mem_of_getElem? (i := 1252) (by decide +kernel)) rfl
theorem w_632 : Cond.methodLink RX10 332 yX4_linkedWith ∈ wsL_law := wsL_of (List.mem_of_getElem? (i := 1253) (by decide +kernel)) rfl
theorem w_633 : Cond.fieldLink RX3 13 "HatNet$History" "games" "[LHatNet$Game;" ∈ wsL_law := wsL_of (List.mem_of_getElem? (i := 334) (by decide +kernel)) rfl
theorem w_634 : Cond.fieldLink RX3 17 "HatNet$History" "next" "I" ∈ wsL_law := wsL_of (List.mem_of_getElem? (i := 335) (by decide +kernel)) rfl
theorem w_635 : Cond.methodLink RX3 25 yX2_copy ∈ wsL_law := wsL_of (List.mem_of_getElem? (i := 1262) (by decide +kernel)) rfl
theorem w_636 : Cond.methodLink RX3 29 Lib.Math.min.name ∈ wsL_law := wsL_of (List.mem_of_getElem? (i := 1268) (by decide +kernel)) rfl
theorem w_637 : Cond.code yX3_note cX3_note 2 none ∈ wsL_law := wsL_of (List.mem_of_getElem? (i := 1261) (by decide +kernel)) rfl
theorem w_638 : Cond.methodLink RX10 335 yX3_note ∈ wsL_law := wsL_of (List.mem_of_getElem? (i := 1258) (by decide +kernel)) rfl
theorem w_639 : Cond.instanceMethod yX3_note ∈ wsL_law := wsL_of (List.mem_of_getElem? (i := 1259) (by decide +kernel)) rfl
theorem w_640 : Cond.selects RX3 yX3_note yX3_note ∈ wsL_law := wsL_of (List.mem_of_getElem? (i := 1260) (by decide +kernel)) rfl
theorem w_641 : Cond.methodLink RX10 338 yX2_tell ∈ wsL_law := wsL_of (List.mem_of_getElem? (i := 1263) (by decide +kernel)) rfl
theorem w_642 : Cond.code yX3_keep cX3_keep 1 none ∈ wsL_law := wsL_of (List.mem_of_getElem? (i := 1267) (by decide +kernel)) rfl
theorem w_643 : Cond.methodLink RX10 342 yX3_keep ∈ wsL_law := wsL_of (List.mem_of_getElem? (i := 1264) (by decide +kernel)) rfl
theorem w_644 : Cond.instanceMethod yX3_keep ∈ wsL_law := wsL_of (List.mem_of_getElem? (i := 1265) (by decide +kernel)) rfl
theorem w_645 : Cond.selects RX3 yX3_keep yX3_keep ∈ wsL_law := wsL_of (List.mem_of_getElem? (i := 1266) (by decide +kernel)) rfl
theorem w_646 : Cond.methodLink RX10 345 yX1_judgeAgain ∈ wsL_law := wsL_of (List.mem_of_getElem? (i := 1269) (by decide +kernel)) rfl
theorem w_647 : Cond.methodLink RX10 348 yX1_takeBest ∈ wsL_law := wsL_of (List.mem_of_getElem? (i := 1274) (by decide +kernel)) rfl
theorem w_648 : Cond.fieldLink RX0 7 "HatNet$Acts" "game" "LHatNet$Game;" ∈ wsL_law := wsL_of (List.mem_of_getElem? (i := 280) (by decide +kernel)) rfl
theorem w_649 : Cond.fieldLink RX0 13 "HatNet$Game" "players" "I" ∈ wsL_law := wsL_of (List.mem_of_getElem? (i := 179) (by decide +kernel)) rfl
theorem w_650 : Cond.methodLink RX0 47 yX2_colourIn ∈ wsL_law := wsL_of (List.mem_of_getElem? (i := 1297) (by decide +kernel)) rfl
theorem w_651 : Cond.fieldLink RX0 23 "HatNet$Game" "hats" "[I" ∈ wsL_law := wsL_of (List.mem_of_getElem? (i := 185) (by decide +kernel)) rfl
theorem w_652 : Cond.methodLink RX0 27 yX2_situations ∈ wsL_law := wsL_of (List.mem_of_getElem? (i := 1292) (by decide +kernel)) rfl
theorem w_653 : Cond.code yX0_sumSeen cX0_sumSeen 6 (some .int) ∈ wsL_law := wsL_of (List.mem_of_getElem? (i := 1296) (by decide +kernel)) rfl
theorem w_654 : Cond.initialized RX0 ∈ wsL_law := wsL_of (List.mem_of_getElem? (i := 145) (by decide +kernel)) rfl
theorem w_655 : Cond.methodLink RX0 31 yX0_sumSeen ∈ wsL_law := wsL_of (List.mem_of_getElem? (i := 1293) (by decide +kernel)) rfl
theorem w_656 : Cond.instanceMethod yX0_sumSeen ∈ wsL_law := wsL_of (List.mem_of_getElem? (i := 1295) (by decide +kernel)) rfl
theorem w_657 : Cond.selects RX0 yX0_sumSeen yX0_sumSeen ∈ wsL_law := wsL_of (List.mem_of_getElem? (i := 54) (by decide +kernel)) rfl
theorem w_658 : Cond.methodLink RX0 34 yJ9_floorMod_7cf53 ∈ wsL_law := wsL_of (List.mem_of_getElem? (i := 1298) (by decide +kernel)) rfl
theorem w_659 : Cond.methodLink RX0 40 yX2_told ∈ wsL_law := wsL_of (List.mem_of_getElem? (i := 1299) (by decide +kernel)) rfl
theorem w_660 : Cond.methodLink RX0 43 yX2_tell ∈ wsL_law := wsL_of (List.mem_of_getElem? (i := 1300) (by decide +kernel)) rfl
theorem w_661 : Cond.code yX0_tellMember cX0_tellMember 11 (some .int) ∈ wsL_law := wsL_of (List.mem_of_getElem? (i := 1291) (by decide +kernel)) rfl
theorem w_662 : Cond.methodLink RX0 19 yX0_tellMember ∈ wsL_law := wsL_of (List.mem_of_getElem? (i := 1288) (by decide +kernel)) rfl
theorem w_663 : Cond.instanceMethod yX0_tellMember ∈ wsL_law := wsL_of (List.mem_of_getElem? (i := 1290) (by decide +kernel)) rfl
theorem w_664 : Cond.selects RX0 yX0_tellMember yX0_tellMember ∈ wsL_law := wsL_of (List.mem_of_getElem? (i := 53) (by decide +kernel)) rfl
theorem w_665 : Cond.methodLink RX10 351 yX4_isClique ∈ wsL_law := wsL_of (List.mem_of_getElem? (i := 1283) (by decide +kernel)) rfl
theorem w_666 : Cond.fieldLink RX10 42 "HatNet" "acts" "LHatNet$Acts;" ∈ wsL_law := wsL_of (List.mem_of_getElem? (i := 439) (by decide +kernel)) rfl
theorem w_667 : Cond.code yX0_tellClique cX0_tellClique 5 (some .int) ∈ wsL_law := wsL_of (List.mem_of_getElem? (i := 1287) (by decide +kernel)) rfl
theorem w_668 : Cond.methodLink RX10 354 yX0_tellClique ∈ wsL_law := wsL_of (List.mem_of_getElem? (i := 1284) (by decide +kernel)) rfl
theorem w_669 : Cond.instanceMethod yX0_tellClique ∈ wsL_law := wsL_of (List.mem_of_getElem? (i := 1285) (by decide +kernel)) rfl
theorem w_670 : Cond.selects RX0 yX0_tellClique yX0_tellClique ∈ wsL_law := wsL_of (List.mem_of_getElem? (i := 1286) (by decide +kernel)) rfl
theorem w_671 : Cond.methodLink RX0 58 yX2_weight ∈ wsL_law := wsL_of (List.mem_of_getElem? (i := 1314) (by decide +kernel)) rfl
theorem w_672 : Cond.methodLink RX0 50 yX2_watches ∈ wsL_law := wsL_of (List.mem_of_getElem? (i := 1309) (by decide +kernel)) rfl
theorem w_673 : Cond.code yX0_swapSeen cX0_swapSeen 10 (some .int) ∈ wsL_law := wsL_of (List.mem_of_getElem? (i := 1313) (by decide +kernel)) rfl
theorem w_674 : Cond.methodLink RX0 54 yX0_swapSeen ∈ wsL_law := wsL_of (List.mem_of_getElem? (i := 1310) (by decide +kernel)) rfl
theorem w_675 : Cond.instanceMethod yX0_swapSeen ∈ wsL_law := wsL_of (List.mem_of_getElem? (i := 1312) (by decide +kernel)) rfl
theorem w_676 : Cond.selects RX0 yX0_swapSeen yX0_swapSeen ∈ wsL_law := wsL_of (List.mem_of_getElem? (i := 55) (by decide +kernel)) rfl
theorem w_677 : Cond.code yX0_swapNames cX0_swapNames 8 (some .int) ∈ wsL_law := wsL_of (List.mem_of_getElem? (i := 1308) (by decide +kernel)) rfl
theorem w_678 : Cond.methodLink RX10 357 yX0_swapNames ∈ wsL_law := wsL_of (List.mem_of_getElem? (i := 1305) (by decide +kernel)) rfl
theorem w_679 : Cond.instanceMethod yX0_swapNames ∈ wsL_law := wsL_of (List.mem_of_getElem? (i := 1306) (by decide +kernel)) rfl
theorem w_680 : Cond.selects RX0 yX0_swapNames yX0_swapNames ∈ wsL_law := wsL_of (List.mem_of_getElem? (i := 1307) (by decide +kernel)) rfl
theorem w_681 : Cond.fieldLink RX0 61 "HatNet$Game" "sees" "[I" ∈ wsL_law := wsL_of (List.mem_of_getElem? (i := 194) (by decide +kernel)) rfl
theorem w_682 : Cond.methodLink RX0 64 yX2_weightBehind ∈ wsL_law := wsL_of (List.mem_of_getElem? (i := 1323) (by decide +kernel)) rfl
theorem w_683 : Cond.code yX0_closeEyes cX0_closeEyes 7 none ∈ wsL_law := wsL_of (List.mem_of_getElem? (i := 1327) (by decide +kernel)) rfl
theorem w_684 : Cond.methodLink RX10 365 yX0_closeEyes ∈ wsL_law := wsL_of (List.mem_of_getElem? (i := 1324) (by decide +kernel)) rfl
theorem w_685 : Cond.instanceMethod yX0_closeEyes ∈ wsL_law := wsL_of (List.mem_of_getElem? (i := 1325) (by decide +kernel)) rfl
theorem w_686 : Cond.selects RX0 yX0_closeEyes yX0_closeEyes ∈ wsL_law := wsL_of (List.mem_of_getElem? (i := 1326) (by decide +kernel)) rfl
theorem w_687 : Cond.code yX0_openEyes cX0_openEyes 6 none ∈ wsL_law := wsL_of (List.mem_of_getElem? (i := 1322) (by decide +kernel)) rfl
theorem w_688 : Cond.methodLink RX10 361 yX0_openEyes ∈ wsL_law := wsL_of (List.mem_of_getElem? (i := 1319) (by decide +kernel)) rfl
theorem w_689 : Cond.instanceMethod yX0_openEyes ∈ wsL_law := wsL_of (List.mem_of_getElem? (i := 1320) (by decide +kernel)) rfl
theorem w_690 : Cond.selects RX0 yX0_openEyes yX0_openEyes ∈ wsL_law := wsL_of (List.mem_of_getElem? (i := 1321) (by decide +kernel)) rfl
theorem w_691 : Cond.code yX3_goBack cX3_goBack 2 none ∈ wsL_law := wsL_of (List.mem_of_getElem? (i := 1339) (by decide +kernel)) rfl
theorem w_692 : Cond.methodLink RX10 368 yX3_goBack ∈ wsL_law := wsL_of (List.mem_of_getElem? (i := 1336) (by decide +kernel)) rfl
theorem w_693 : Cond.instanceMethod yX3_goBack ∈ wsL_law := wsL_of (List.mem_of_getElem? (i := 1337) (by decide +kernel)) rfl
theorem w_694 : Cond.selects RX3 yX3_goBack yX3_goBack ∈ wsL_law := wsL_of (List.mem_of_getElem? (i := 1338) (by decide +kernel)) rfl
theorem w_695 : Cond.fieldLink RX5 22 "HatNet$Printer" "drafted" "I" ∈ wsL_law := wsL_of (List.mem_of_getElem? (i := 421) (by decide +kernel)) rfl
theorem w_696 : Cond.fieldLink RX5 19 "HatNet$Printer" "draft" "[B" ∈ wsL_law := wsL_of (List.mem_of_getElem? (i := 420) (by decide +kernel)) rfl
theorem w_697 : Cond.methodLink RX5 76 yJ0_length_8abf5 ∈ wsL_law := wsL_of (List.mem_of_getElem? (i := 1353) (by decide +kernel)) rfl
theorem w_698 : Cond.methodLink RX5 81 yJ0_charAt_5068e ∈ wsL_law := wsL_of (List.mem_of_getElem? (i := 1354) (by decide +kernel)) rfl
theorem w_699 : Cond.code yX5_addByte cX5_addByte 2 none ∈ wsL_law := wsL_of (List.mem_of_getElem? (i := 1358) (by decide +kernel)) rfl
theorem w_700 : Cond.initialized RX5 ∈ wsL_law := wsL_of (List.mem_of_getElem? (i := 150) (by decide +kernel)) rfl
theorem w_701 : Cond.methodLink RX5 39 yX5_addByte ∈ wsL_law := wsL_of (List.mem_of_getElem? (i := 1355) (by decide +kernel)) rfl
theorem w_702 : Cond.instanceMethod yX5_addByte ∈ wsL_law := wsL_of (List.mem_of_getElem? (i := 1357) (by decide +kernel)) rfl
theorem w_703 : Cond.selects RX5 yX5_addByte yX5_addByte ∈ wsL_law := wsL_of (List.mem_of_getElem? (i := 57) (by decide +kernel)) rfl
theorem w_704 : Cond.fieldLink RX5 25 "HatNet$Game" "players" "I" ∈ wsL_law := wsL_of (List.mem_of_getElem? (i := 177) (by decide +kernel)) rfl
theorem w_705 : Cond.code yX5_addWord cX5_addWord 3 none ∈ wsL_law := wsL_of (List.mem_of_getElem? (i := 1352) (by decide +kernel)) rfl
theorem w_706 : Cond.methodLink RX5 31 yX5_addWord ∈ wsL_law := wsL_of (List.mem_of_getElem? (i := 1349) (by decide +kernel)) rfl
theorem w_707 : Cond.instanceMethod yX5_addWord ∈ wsL_law := wsL_of (List.mem_of_getElem? (i := 1351) (by decide +kernel)) rfl
theorem w_708 : Cond.selects RX5 yX5_addWord yX5_addWord ∈ wsL_law := wsL_of (List.mem_of_getElem? (i := 56) (by decide +kernel)) rfl
theorem w_709 : Cond.code yX5_addNumber cX5_addNumber 2 none ∈ wsL_law := wsL_of (List.mem_of_getElem? (i := 1362) (by decide +kernel)) rfl
theorem w_710 : Cond.methodLink RX5 35 yX5_addNumber ∈ wsL_law := wsL_of (List.mem_of_getElem? (i := 1359) (by decide +kernel)) rfl
theorem w_711 : Cond.instanceMethod yX5_addNumber ∈ wsL_law := wsL_of (List.mem_of_getElem? (i := 1361) (by decide +kernel)) rfl
theorem w_712 : Cond.selects RX5 yX5_addNumber yX5_addNumber ∈ wsL_law := wsL_of (List.mem_of_getElem? (i := 58) (by decide +kernel)) rfl
theorem w_713 : Cond.fieldLink RX5 55 "HatNet$Game" "hats" "[I" ∈ wsL_law := wsL_of (List.mem_of_getElem? (i := 187) (by decide +kernel)) rfl
theorem w_714 : Cond.methodLink RX5 58 yX2_watches ∈ wsL_law := wsL_of (List.mem_of_getElem? (i := 1372) (by decide +kernel)) rfl
theorem w_715 : Cond.methodLink RX5 68 yX2_situations ∈ wsL_law := wsL_of (List.mem_of_getElem? (i := 1380) (by decide +kernel)) rfl
theorem w_716 : Cond.methodLink RX5 72 yX2_told ∈ wsL_law := wsL_of (List.mem_of_getElem? (i := 1381) (by decide +kernel)) rfl
theorem w_717 : Cond.code yX5_addHats cX5_addHats 3 none ∈ wsL_law := wsL_of (List.mem_of_getElem? (i := 1366) (by decide +kernel)) rfl
theorem w_718 : Cond.methodLink RX5 43 yX5_addHats ∈ wsL_law := wsL_of (List.mem_of_getElem? (i := 1363) (by decide +kernel)) rfl
theorem w_719 : Cond.instanceMethod yX5_addHats ∈ wsL_law := wsL_of (List.mem_of_getElem? (i := 1365) (by decide +kernel)) rfl
theorem w_720 : Cond.selects RX5 yX5_addHats yX5_addHats ∈ wsL_law := wsL_of (List.mem_of_getElem? (i := 59) (by decide +kernel)) rfl
theorem w_721 : Cond.code yX5_addSights cX5_addSights 4 none ∈ wsL_law := wsL_of (List.mem_of_getElem? (i := 1371) (by decide +kernel)) rfl
theorem w_722 : Cond.methodLink RX5 47 yX5_addSights ∈ wsL_law := wsL_of (List.mem_of_getElem? (i := 1368) (by decide +kernel)) rfl
theorem w_723 : Cond.instanceMethod yX5_addSights ∈ wsL_law := wsL_of (List.mem_of_getElem? (i := 1370) (by decide +kernel)) rfl
theorem w_724 : Cond.selects RX5 yX5_addSights yX5_addSights ∈ wsL_law := wsL_of (List.mem_of_getElem? (i := 60) (by decide +kernel)) rfl
theorem w_725 : Cond.code yX5_addTables cX5_addTables 5 none ∈ wsL_law := wsL_of (List.mem_of_getElem? (i := 1377) (by decide +kernel)) rfl
theorem w_726 : Cond.methodLink RX5 50 yX5_addTables ∈ wsL_law := wsL_of (List.mem_of_getElem? (i := 1374) (by decide +kernel)) rfl
theorem w_727 : Cond.instanceMethod yX5_addTables ∈ wsL_law := wsL_of (List.mem_of_getElem? (i := 1376) (by decide +kernel)) rfl
theorem w_728 : Cond.selects RX5 yX5_addTables yX5_addTables ∈ wsL_law := wsL_of (List.mem_of_getElem? (i := 61) (by decide +kernel)) rfl
theorem w_729 : Cond.fieldLink RX5 9 "HatNet$Printer" "text" "[B" ∈ wsL_law := wsL_of (List.mem_of_getElem? (i := 416) (by decide +kernel)) rfl
theorem w_730 : Cond.fieldLink RX5 15 "HatNet$Printer" "length" "I" ∈ wsL_law := wsL_of (List.mem_of_getElem? (i := 418) (by decide +kernel)) rfl
theorem w_731 : Cond.fieldLink RX10 78 "HatNet" "printer" "LHatNet$Printer;" ∈ wsL_law := wsL_of (List.mem_of_getElem? (i := 444) (by decide +kernel)) rfl
theorem w_732 : Cond.code yX5_write cX5_write 3 (some .boolean) ∈ wsL_law := wsL_of (List.mem_of_getElem? (i := 1347) (by decide +kernel)) rfl
theorem w_733 : Cond.methodLink RX10 371 yX5_write ∈ wsL_law := wsL_of (List.mem_of_getElem? (i := 1344) (by decide +kernel)) rfl
theorem w_734 : Cond.instanceMethod yX5_write ∈ wsL_law := wsL_of (List.mem_of_getElem? (i := 1345) (by decide +kernel)) rfl
theorem w_735 : Cond.selects RX5 yX5_write yX5_write ∈ wsL_law := wsL_of (List.mem_of_getElem? (i := 1346) (by decide +kernel)) rfl
theorem w_736 : Cond.fieldLink RX10 375 "HatNet$Printer" "length" "I" ∈ wsL_law := wsL_of (List.mem_of_getElem? (i := 419) (by decide +kernel)) rfl
theorem w_737 : Cond.fieldLink RX10 378 "HatNet$Printer" "text" "[B" ∈ wsL_law := wsL_of (List.mem_of_getElem? (i := 417) (by decide +kernel)) rfl
theorem w_738 : Cond.fieldLink RX11 82 "HatNetModel" "thrown" "I" ∈ wsL_law := wsL_of (List.mem_of_getElem? (i := 1404) (by decide +kernel)) rfl
theorem w_739 : Cond.fieldLink RX11 85 "HatNetModel" "status" "I" ∈ wsL_law := wsL_of (List.mem_of_getElem? (i := 1403) (by decide +kernel)) rfl
theorem w_740 : Cond.fieldLink RX11 7 "HatNetModel" "now" "[I" ∈ wsL_law := wsL_of (List.mem_of_getElem? (i := 1405) (by decide +kernel)) rfl
theorem w_741 : Cond.code yX11_has cX11_has 2 (some .boolean) ∈ wsL_law := wsL_of (List.mem_of_getElem? (i := 1556) (by decide +kernel)) rfl
theorem w_742 : Cond.initialized RX11 ∈ wsL_law := wsL_of (List.mem_of_getElem? (i := 151) (by decide +kernel)) rfl
theorem w_743 : Cond.methodLink RX11 88 yX11_has ∈ wsL_law := wsL_of (List.mem_of_getElem? (i := 1554) (by decide +kernel)) rfl
theorem w_744 : Cond.static yX11_has ∈ wsL_law := wsL_of (List.mem_of_getElem? (i := 1555) (by decide +kernel)) rfl
theorem w_745 : Cond.code yX11_isIn cX11_isIn 6 (some .boolean) ∈ wsL_law := wsL_of (List.mem_of_getElem? (i := 1523) (by decide +kernel)) rfl
theorem w_746 : Cond.methodLink RX11 92 yX11_isIn ∈ wsL_law := wsL_of (List.mem_of_getElem? (i := 1521) (by decide +kernel)) rfl
theorem w_747 : Cond.static yX11_isIn ∈ wsL_law := wsL_of (List.mem_of_getElem? (i := 1522) (by decide +kernel)) rfl
theorem w_748 : Cond.code yX11_all cX11_all 1 (some .int) ∈ wsL_law := wsL_of (List.mem_of_getElem? (i := 1709) (by decide +kernel)) rfl
theorem w_749 : Cond.methodLink RX11 96 yX11_all ∈ wsL_law := wsL_of (List.mem_of_getElem? (i := 1706) (by decide +kernel)) rfl
theorem w_750 : Cond.instanceMethod yX11_all ∈ wsL_law := wsL_of (List.mem_of_getElem? (i := 1708) (by decide +kernel)) rfl
theorem w_751 : Cond.selects RX11 yX11_all yX11_all ∈ wsL_law := wsL_of (List.mem_of_getElem? (i := 89) (by decide +kernel)) rfl
theorem w_752 : Cond.code yX11_colourings cX11_colourings 3 (some .int) ∈ wsL_law := wsL_of (List.mem_of_getElem? (i := 1541) (by decide +kernel)) rfl
theorem w_753 : Cond.methodLink RX11 100 yX11_colourings ∈ wsL_law := wsL_of (List.mem_of_getElem? (i := 1539) (by decide +kernel)) rfl
theorem w_754 : Cond.static yX11_colourings ∈ wsL_law := wsL_of (List.mem_of_getElem? (i := 1540) (by decide +kernel)) rfl
theorem w_755 : Cond.code yX11_situations cX11_situations 4 (some .int) ∈ wsL_law := wsL_of (List.mem_of_getElem? (i := 1588) (by decide +kernel)) rfl
theorem w_756 : Cond.methodLink RX11 104 yX11_situations ∈ wsL_law := wsL_of (List.mem_of_getElem? (i := 1586) (by decide +kernel)) rfl
theorem w_757 : Cond.static yX11_situations ∈ wsL_law := wsL_of (List.mem_of_getElem? (i := 1587) (by decide +kernel)) rfl
theorem w_758 : Cond.code yX11_players cX11_players 1 (some .int) ∈ wsL_law := wsL_of (List.mem_of_getElem? (i := 1531) (by decide +kernel)) rfl
theorem w_759 : Cond.methodLink RX11 108 yX11_players ∈ wsL_law := wsL_of (List.mem_of_getElem? (i := 1528) (by decide +kernel)) rfl
theorem w_760 : Cond.instanceMethod yX11_players ∈ wsL_law := wsL_of (List.mem_of_getElem? (i := 1530) (by decide +kernel)) rfl
theorem w_761 : Cond.selects RX11 yX11_players yX11_players ∈ wsL_law := wsL_of (List.mem_of_getElem? (i := 63) (by decide +kernel)) rfl
theorem w_762 : Cond.fieldLink RX11 23 "HatNetModel" "colour" "[I" ∈ wsL_law := wsL_of (List.mem_of_getElem? (i := 1410) (by decide +kernel)) rfl
theorem w_763 : Cond.code yX11_hats cX11_hats 2 (some .int) ∈ wsL_law := wsL_of (List.mem_of_getElem? (i := 1577) (by decide +kernel)) rfl
theorem w_764 : Cond.methodLink RX11 111 yX11_hats ∈ wsL_law := wsL_of (List.mem_of_getElem? (i := 1574) (by decide +kernel)) rfl
theorem w_765 : Cond.instanceMethod yX11_hats ∈ wsL_law := wsL_of (List.mem_of_getElem? (i := 1576) (by decide +kernel)) rfl
theorem w_766 : Cond.selects RX11 yX11_hats yX11_hats ∈ wsL_law := wsL_of (List.mem_of_getElem? (i := 71) (by decide +kernel)) rfl
theorem w_767 : Cond.code yX11_sees cX11_sees 3 (some .boolean) ∈ wsL_law := wsL_of (List.mem_of_getElem? (i := 1553) (by decide +kernel)) rfl
theorem w_768 : Cond.methodLink RX11 115 yX11_sees ∈ wsL_law := wsL_of (List.mem_of_getElem? (i := 1550) (by decide +kernel)) rfl
theorem w_769 : Cond.instanceMethod yX11_sees ∈ wsL_law := wsL_of (List.mem_of_getElem? (i := 1552) (by decide +kernel)) rfl
theorem w_770 : Cond.selects RX11 yX11_sees yX11_sees ∈ wsL_law := wsL_of (List.mem_of_getElem? (i := 67) (by decide +kernel)) rfl
theorem w_771 : Cond.code yX11_situationOf cX11_situationOf 4 (some .int) ∈ wsL_law := wsL_of (List.mem_of_getElem? (i := 1616) (by decide +kernel)) rfl
theorem w_772 : Cond.methodLink RX11 118 yX11_situationOf ∈ wsL_law := wsL_of (List.mem_of_getElem? (i := 1613) (by decide +kernel)) rfl
theorem w_773 : Cond.instanceMethod yX11_situationOf ∈ wsL_law := wsL_of (List.mem_of_getElem? (i := 1615) (by decide +kernel)) rfl
theorem w_774 : Cond.selects RX11 yX11_situationOf yX11_situationOf ∈ wsL_law := wsL_of (List.mem_of_getElem? (i := 78) (by decide +kernel)) rfl
theorem w_775 : Cond.code yX11_entry cX11_entry 3 (some .int) ∈ wsL_law := wsL_of (List.mem_of_getElem? (i := 1600) (by decide +kernel)) rfl
theorem w_776 : Cond.methodLink RX11 121 yX11_entry ∈ wsL_law := wsL_of (List.mem_of_getElem? (i := 1597) (by decide +kernel)) rfl
theorem w_777 : Cond.instanceMethod yX11_entry ∈ wsL_law := wsL_of (List.mem_of_getElem? (i := 1599) (by decide +kernel)) rfl
theorem w_778 : Cond.selects RX11 yX11_entry yX11_entry ∈ wsL_law := wsL_of (List.mem_of_getElem? (i := 75) (by decide +kernel)) rfl
theorem w_779 : Cond.code yX11_colourings_ cX11_colourings_ 1 (some .int) ∈ wsL_law := wsL_of (List.mem_of_getElem? (i := 1538) (by decide +kernel)) rfl
theorem w_780 : Cond.methodLink RX11 125 yX11_colourings_ ∈ wsL_law := wsL_of (List.mem_of_getElem? (i := 1535) (by decide +kernel)) rfl
theorem w_781 : Cond.instanceMethod yX11_colourings_ ∈ wsL_law := wsL_of (List.mem_of_getElem? (i := 1537) (by decide +kernel)) rfl
theorem w_782 : Cond.selects RX11 yX11_colourings_ yX11_colourings_ ∈ wsL_law := wsL_of (List.mem_of_getElem? (i := 64) (by decide +kernel)) rfl
theorem w_783 : Cond.code yX11_lays cX11_lays 4 none ∈ wsL_law := wsL_of (List.mem_of_getElem? (i := 1612) (by decide +kernel)) rfl
theorem w_784 : Cond.methodLink RX11 127 yX11_lays ∈ wsL_law := wsL_of (List.mem_of_getElem? (i := 1609) (by decide +kernel)) rfl
theorem w_785 : Cond.instanceMethod yX11_lays ∈ wsL_law := wsL_of (List.mem_of_getElem? (i := 1611) (by decide +kernel)) rfl
theorem w_786 : Cond.selects RX11 yX11_lays yX11_lays ∈ wsL_law := wsL_of (List.mem_of_getElem? (i := 77) (by decide +kernel)) rfl
theorem w_787 : Cond.fieldLink RX11 26 "HatNetModel" "right" "[I" ∈ wsL_law := wsL_of (List.mem_of_getElem? (i := 1411) (by decide +kernel)) rfl
theorem w_788 : Cond.code yX11_rightNow cX11_rightNow 3 (some .int) ∈ wsL_law := wsL_of (List.mem_of_getElem? (i := 1660) (by decide +kernel)) rfl
theorem w_789 : Cond.methodLink RX11 131 yX11_rightNow ∈ wsL_law := wsL_of (List.mem_of_getElem? (i := 1657) (by decide +kernel)) rfl
theorem w_790 : Cond.instanceMethod yX11_rightNow ∈ wsL_law := wsL_of (List.mem_of_getElem? (i := 1659) (by decide +kernel)) rfl
theorem w_791 : Cond.selects RX11 yX11_rightNow yX11_rightNow ∈ wsL_law := wsL_of (List.mem_of_getElem? (i := 83) (by decide +kernel)) rfl
theorem w_792 : Cond.code yX11_laysRight cX11_laysRight 2 none ∈ wsL_law := wsL_of (List.mem_of_getElem? (i := 1668) (by decide +kernel)) rfl
theorem w_793 : Cond.methodLink RX11 134 yX11_laysRight ∈ wsL_law := wsL_of (List.mem_of_getElem? (i := 1665) (by decide +kernel)) rfl
theorem w_794 : Cond.instanceMethod yX11_laysRight ∈ wsL_law := wsL_of (List.mem_of_getElem? (i := 1667) (by decide +kernel)) rfl
theorem w_795 : Cond.selects RX11 yX11_laysRight yX11_laysRight ∈ wsL_law := wsL_of (List.mem_of_getElem? (i := 84) (by decide +kernel)) rfl
theorem w_796 : Cond.code yX11_lostBy cX11_lostBy 4 (some .int) ∈ wsL_law := wsL_of (List.mem_of_getElem? (i := 1713) (by decide +kernel)) rfl
theorem w_797 : Cond.methodLink RX11 137 yX11_lostBy ∈ wsL_law := wsL_of (List.mem_of_getElem? (i := 1710) (by decide +kernel)) rfl
theorem w_798 : Cond.instanceMethod yX11_lostBy ∈ wsL_law := wsL_of (List.mem_of_getElem? (i := 1712) (by decide +kernel)) rfl
theorem w_799 : Cond.selects RX11 yX11_lostBy yX11_lostBy ∈ wsL_law := wsL_of (List.mem_of_getElem? (i := 90) (by decide +kernel)) rfl
theorem w_800 : Cond.code yX11_isLink cX11_isLink 3 (some .boolean) ∈ wsL_law := wsL_of (List.mem_of_getElem? (i := 1549) (by decide +kernel)) rfl
theorem w_801 : Cond.methodLink RX11 140 yX11_isLink ∈ wsL_law := wsL_of (List.mem_of_getElem? (i := 1546) (by decide +kernel)) rfl
theorem w_802 : Cond.instanceMethod yX11_isLink ∈ wsL_law := wsL_of (List.mem_of_getElem? (i := 1548) (by decide +kernel)) rfl
theorem w_803 : Cond.selects RX11 yX11_isLink yX11_isLink ∈ wsL_law := wsL_of (List.mem_of_getElem? (i := 66) (by decide +kernel)) rfl
theorem w_804 : Cond.constantLong RX11 143 (5) ∈ wsL_law := wsL_of (List.mem_of_getElem? (i := 1520) (by decide +kernel)) rfl
theorem w_805 : Cond.code yX11_is cX11_is 2 (some .boolean) ∈ wsL_law := wsL_of (List.mem_of_getElem? (i := 1527) (by decide +kernel)) rfl
theorem w_806 : Cond.methodLink RX11 145 yX11_is ∈ wsL_law := wsL_of (List.mem_of_getElem? (i := 1524) (by decide +kernel)) rfl
theorem w_807 : Cond.instanceMethod yX11_is ∈ wsL_law := wsL_of (List.mem_of_getElem? (i := 1526) (by decide +kernel)) rfl
theorem w_808 : Cond.selects RX11 yX11_is yX11_is ∈ wsL_law := wsL_of (List.mem_of_getElem? (i := 62) (by decide +kernel)) rfl
theorem w_809 : Cond.code yX11_ones cX11_ones 3 (some .int) ∈ wsL_law := wsL_of (List.mem_of_getElem? (i := 1534) (by decide +kernel)) rfl
theorem w_810 : Cond.methodLink RX11 149 yX11_ones ∈ wsL_law := wsL_of (List.mem_of_getElem? (i := 1532) (by decide +kernel)) rfl
theorem w_811 : Cond.static yX11_ones ∈ wsL_law := wsL_of (List.mem_of_getElem? (i := 1533) (by decide +kernel)) rfl
theorem w_812 : Cond.code yX11_links cX11_links 4 (some .int) ∈ wsL_law := wsL_of (List.mem_of_getElem? (i := 1545) (by decide +kernel)) rfl
theorem w_813 : Cond.methodLink RX11 152 yX11_links ∈ wsL_law := wsL_of (List.mem_of_getElem? (i := 1542) (by decide +kernel)) rfl
theorem w_814 : Cond.instanceMethod yX11_links ∈ wsL_law := wsL_of (List.mem_of_getElem? (i := 1544) (by decide +kernel)) rfl
theorem w_815 : Cond.selects RX11 yX11_links yX11_links ∈ wsL_law := wsL_of (List.mem_of_getElem? (i := 65) (by decide +kernel)) rfl
theorem w_816 : Cond.fieldLink RX11 155 "HatNetModel" "pastMany" "I" ∈ wsL_law := wsL_of (List.mem_of_getElem? (i := 1409) (by decide +kernel)) rfl
theorem w_817 : Cond.code yX11_isMutual cX11_isMutual 3 (some .boolean) ∈ wsL_law := wsL_of (List.mem_of_getElem? (i := 1560) (by decide +kernel)) rfl
theorem w_818 : Cond.methodLink RX11 158 yX11_isMutual ∈ wsL_law := wsL_of (List.mem_of_getElem? (i := 1557) (by decide +kernel)) rfl
theorem w_819 : Cond.instanceMethod yX11_isMutual ∈ wsL_law := wsL_of (List.mem_of_getElem? (i := 1559) (by decide +kernel)) rfl
theorem w_820 : Cond.selects RX11 yX11_isMutual yX11_isMutual ∈ wsL_law := wsL_of (List.mem_of_getElem? (i := 68) (by decide +kernel)) rfl
theorem w_821 : Cond.constantLong RX11 162 (3) ∈ wsL_law := wsL_of (List.mem_of_getElem? (i := 1565) (by decide +kernel)) rfl
theorem w_822 : Cond.code yX11_isPlayer cX11_isPlayer 2 (some .boolean) ∈ wsL_law := wsL_of (List.mem_of_getElem? (i := 1569) (by decide +kernel)) rfl
theorem w_823 : Cond.methodLink RX11 164 yX11_isPlayer ∈ wsL_law := wsL_of (List.mem_of_getElem? (i := 1566) (by decide +kernel)) rfl
theorem w_824 : Cond.instanceMethod yX11_isPlayer ∈ wsL_law := wsL_of (List.mem_of_getElem? (i := 1568) (by decide +kernel)) rfl
theorem w_825 : Cond.selects RX11 yX11_isPlayer yX11_isPlayer ∈ wsL_law := wsL_of (List.mem_of_getElem? (i := 69) (by decide +kernel)) rfl
theorem w_826 : Cond.code yX11_why cX11_why 3 (some .int) ∈ wsL_law := wsL_of (List.mem_of_getElem? (i := 1573) (by decide +kernel)) rfl
theorem w_827 : Cond.methodLink RX11 167 yX11_why ∈ wsL_law := wsL_of (List.mem_of_getElem? (i := 1570) (by decide +kernel)) rfl
theorem w_828 : Cond.instanceMethod yX11_why ∈ wsL_law := wsL_of (List.mem_of_getElem? (i := 1572) (by decide +kernel)) rfl
theorem w_829 : Cond.selects RX11 yX11_why yX11_why ∈ wsL_law := wsL_of (List.mem_of_getElem? (i := 70) (by decide +kernel)) rfl
theorem w_830 : Cond.code yX11_seenBy cX11_seenBy 4 (some .int) ∈ wsL_law := wsL_of (List.mem_of_getElem? (i := 1581) (by decide +kernel)) rfl
theorem w_831 : Cond.methodLink RX11 171 yX11_seenBy ∈ wsL_law := wsL_of (List.mem_of_getElem? (i := 1578) (by decide +kernel)) rfl
theorem w_832 : Cond.instanceMethod yX11_seenBy ∈ wsL_law := wsL_of (List.mem_of_getElem? (i := 1580) (by decide +kernel)) rfl
theorem w_833 : Cond.selects RX11 yX11_seenBy yX11_seenBy ∈ wsL_law := wsL_of (List.mem_of_getElem? (i := 72) (by decide +kernel)) rfl
theorem w_834 : Cond.code yX11_situations_ cX11_situations_ 2 (some .int) ∈ wsL_law := wsL_of (List.mem_of_getElem? (i := 1585) (by decide +kernel)) rfl
theorem w_835 : Cond.methodLink RX11 174 yX11_situations_ ∈ wsL_law := wsL_of (List.mem_of_getElem? (i := 1582) (by decide +kernel)) rfl
theorem w_836 : Cond.instanceMethod yX11_situations_ ∈ wsL_law := wsL_of (List.mem_of_getElem? (i := 1584) (by decide +kernel)) rfl
theorem w_837 : Cond.selects RX11 yX11_situations_ yX11_situations_ ∈ wsL_law := wsL_of (List.mem_of_getElem? (i := 73) (by decide +kernel)) rfl
theorem w_838 : Cond.code yX11_isSituation cX11_isSituation 3 (some .boolean) ∈ wsL_law := wsL_of (List.mem_of_getElem? (i := 1596) (by decide +kernel)) rfl
theorem w_839 : Cond.methodLink RX11 176 yX11_isSituation ∈ wsL_law := wsL_of (List.mem_of_getElem? (i := 1593) (by decide +kernel)) rfl
theorem w_840 : Cond.instanceMethod yX11_isSituation ∈ wsL_law := wsL_of (List.mem_of_getElem? (i := 1595) (by decide +kernel)) rfl
theorem w_841 : Cond.selects RX11 yX11_isSituation yX11_isSituation ∈ wsL_law := wsL_of (List.mem_of_getElem? (i := 74) (by decide +kernel)) rfl
theorem w_842 : Cond.code yX11_isColouring cX11_isColouring 2 (some .boolean) ∈ wsL_law := wsL_of (List.mem_of_getElem? (i := 1608) (by decide +kernel)) rfl
theorem w_843 : Cond.methodLink RX11 179 yX11_isColouring ∈ wsL_law := wsL_of (List.mem_of_getElem? (i := 1605) (by decide +kernel)) rfl
theorem w_844 : Cond.instanceMethod yX11_isColouring ∈ wsL_law := wsL_of (List.mem_of_getElem? (i := 1607) (by decide +kernel)) rfl
theorem w_845 : Cond.selects RX11 yX11_isColouring yX11_isColouring ∈ wsL_law := wsL_of (List.mem_of_getElem? (i := 76) (by decide +kernel)) rfl
theorem w_846 : Cond.code yX11_isColour cX11_isColour 3 (some .boolean) ∈ wsL_law := wsL_of (List.mem_of_getElem? (i := 1628) (by decide +kernel)) rfl
theorem w_847 : Cond.methodLink RX11 182 yX11_isColour ∈ wsL_law := wsL_of (List.mem_of_getElem? (i := 1625) (by decide +kernel)) rfl
theorem w_848 : Cond.instanceMethod yX11_isColour ∈ wsL_law := wsL_of (List.mem_of_getElem? (i := 1627) (by decide +kernel)) rfl
theorem w_849 : Cond.selects RX11 yX11_isColour yX11_isColour ∈ wsL_law := wsL_of (List.mem_of_getElem? (i := 79) (by decide +kernel)) rfl
theorem w_850 : Cond.code yX11_laysSeen cX11_laysSeen 5 none ∈ wsL_law := wsL_of (List.mem_of_getElem? (i := 1644) (by decide +kernel)) rfl
theorem w_851 : Cond.methodLink RX11 185 yX11_laysSeen ∈ wsL_law := wsL_of (List.mem_of_getElem? (i := 1641) (by decide +kernel)) rfl
theorem w_852 : Cond.instanceMethod yX11_laysSeen ∈ wsL_law := wsL_of (List.mem_of_getElem? (i := 1643) (by decide +kernel)) rfl
theorem w_853 : Cond.selects RX11 yX11_laysSeen yX11_laysSeen ∈ wsL_law := wsL_of (List.mem_of_getElem? (i := 82) (by decide +kernel)) rfl
theorem w_854 : Cond.code yX11_whySight cX11_whySight 3 (some .int) ∈ wsL_law := wsL_of (List.mem_of_getElem? (i := 1636) (by decide +kernel)) rfl
theorem w_855 : Cond.methodLink RX11 189 yX11_whySight ∈ wsL_law := wsL_of (List.mem_of_getElem? (i := 1633) (by decide +kernel)) rfl
theorem w_856 : Cond.instanceMethod yX11_whySight ∈ wsL_law := wsL_of (List.mem_of_getElem? (i := 1635) (by decide +kernel)) rfl
theorem w_857 : Cond.selects RX11 yX11_whySight yX11_whySight ∈ wsL_law := wsL_of (List.mem_of_getElem? (i := 80) (by decide +kernel)) rfl
theorem w_858 : Cond.code yX11_isHeeding cX11_isHeeding 4 (some .boolean) ∈ wsL_law := wsL_of (List.mem_of_getElem? (i := 1640) (by decide +kernel)) rfl
theorem w_859 : Cond.methodLink RX11 192 yX11_isHeeding ∈ wsL_law := wsL_of (List.mem_of_getElem? (i := 1637) (by decide +kernel)) rfl
theorem w_860 : Cond.instanceMethod yX11_isHeeding ∈ wsL_law := wsL_of (List.mem_of_getElem? (i := 1639) (by decide +kernel)) rfl
theorem w_861 : Cond.selects RX11 yX11_isHeeding yX11_isHeeding ∈ wsL_law := wsL_of (List.mem_of_getElem? (i := 81) (by decide +kernel)) rfl
theorem w_862 : Cond.code yX11_refuse cX11_refuse 2 (some .int) ∈ wsL_law := wsL_of (List.mem_of_getElem? (i := 1672) (by decide +kernel)) rfl
theorem w_863 : Cond.methodLink RX11 195 yX11_refuse ∈ wsL_law := wsL_of (List.mem_of_getElem? (i := 1669) (by decide +kernel)) rfl
theorem w_864 : Cond.instanceMethod yX11_refuse ∈ wsL_law := wsL_of (List.mem_of_getElem? (i := 1671) (by decide +kernel)) rfl
theorem w_865 : Cond.selects RX11 yX11_refuse yX11_refuse ∈ wsL_law := wsL_of (List.mem_of_getElem? (i := 85) (by decide +kernel)) rfl
theorem w_866 : Cond.constantLong RX11 198 (6) ∈ wsL_law := wsL_of (List.mem_of_getElem? (i := 1677) (by decide +kernel)) rfl
theorem w_867 : Cond.code yX11_rightOf cX11_rightOf 5 (some .int) ∈ wsL_law := wsL_of (List.mem_of_getElem? (i := 1681) (by decide +kernel)) rfl
theorem w_868 : Cond.methodLink RX11 200 yX11_rightOf ∈ wsL_law := wsL_of (List.mem_of_getElem? (i := 1678) (by decide +kernel)) rfl
theorem w_869 : Cond.instanceMethod yX11_rightOf ∈ wsL_law := wsL_of (List.mem_of_getElem? (i := 1680) (by decide +kernel)) rfl
theorem w_870 : Cond.selects RX11 yX11_rightOf yX11_rightOf ∈ wsL_law := wsL_of (List.mem_of_getElem? (i := 86) (by decide +kernel)) rfl
theorem w_871 : Cond.code yX11_whyPair cX11_whyPair 3 (some .int) ∈ wsL_law := wsL_of (List.mem_of_getElem? (i := 1697) (by decide +kernel)) rfl
theorem w_872 : Cond.methodLink RX11 203 yX11_whyPair ∈ wsL_law := wsL_of (List.mem_of_getElem? (i := 1694) (by decide +kernel)) rfl
theorem w_873 : Cond.instanceMethod yX11_whyPair ∈ wsL_law := wsL_of (List.mem_of_getElem? (i := 1696) (by decide +kernel)) rfl
theorem w_874 : Cond.selects RX11 yX11_whyPair yX11_whyPair ∈ wsL_law := wsL_of (List.mem_of_getElem? (i := 87) (by decide +kernel)) rfl
theorem w_875 : Cond.code yX11_isSet cX11_isSet 2 (some .boolean) ∈ wsL_law := wsL_of (List.mem_of_getElem? (i := 1705) (by decide +kernel)) rfl
theorem w_876 : Cond.methodLink RX11 206 yX11_isSet ∈ wsL_law := wsL_of (List.mem_of_getElem? (i := 1702) (by decide +kernel)) rfl
theorem w_877 : Cond.instanceMethod yX11_isSet ∈ wsL_law := wsL_of (List.mem_of_getElem? (i := 1704) (by decide +kernel)) rfl
theorem w_878 : Cond.selects RX11 yX11_isSet yX11_isSet ∈ wsL_law := wsL_of (List.mem_of_getElem? (i := 88) (by decide +kernel)) rfl
theorem w_879 : Cond.constantLong RX11 209 (2) ∈ wsL_law := wsL_of (List.mem_of_getElem? (i := 1722) (by decide +kernel)) rfl
theorem w_880 : Cond.code yX11_lostBlinded cX11_lostBlinded 7 (some .int) ∈ wsL_law := wsL_of (List.mem_of_getElem? (i := 1734) (by decide +kernel)) rfl
theorem w_881 : Cond.methodLink RX11 211 yX11_lostBlinded ∈ wsL_law := wsL_of (List.mem_of_getElem? (i := 1731) (by decide +kernel)) rfl
theorem w_882 : Cond.instanceMethod yX11_lostBlinded ∈ wsL_law := wsL_of (List.mem_of_getElem? (i := 1733) (by decide +kernel)) rfl
theorem w_883 : Cond.selects RX11 yX11_lostBlinded yX11_lostBlinded ∈ wsL_law := wsL_of (List.mem_of_getElem? (i := 91) (by decide +kernel)) rfl
theorem w_884 : Cond.code yX11_lostNow cX11_lostNow 1 (some .int) ∈ wsL_law := wsL_of (List.mem_of_getElem? (i := 1746) (by decide +kernel)) rfl
theorem w_885 : Cond.methodLink RX11 214 yX11_lostNow ∈ wsL_law := wsL_of (List.mem_of_getElem? (i := 1743) (by decide +kernel)) rfl
theorem w_886 : Cond.instanceMethod yX11_lostNow ∈ wsL_law := wsL_of (List.mem_of_getElem? (i := 1745) (by decide +kernel)) rfl
theorem w_887 : Cond.selects RX11 yX11_lostNow yX11_lostNow ∈ wsL_law := wsL_of (List.mem_of_getElem? (i := 92) (by decide +kernel)) rfl
theorem w_888 : Cond.fieldLink RX11 29 "HatNetModel" "colour2" "[I" ∈ wsL_law := wsL_of (List.mem_of_getElem? (i := 1412) (by decide +kernel)) rfl
theorem w_889 : Cond.code yX11_comesFrom cX11_comesFrom 5 (some .int) ∈ wsL_law := wsL_of (List.mem_of_getElem? (i := 1766) (by decide +kernel)) rfl
theorem w_890 : Cond.methodLink RX11 217 yX11_comesFrom ∈ wsL_law := wsL_of (List.mem_of_getElem? (i := 1763) (by decide +kernel)) rfl
theorem w_891 : Cond.instanceMethod yX11_comesFrom ∈ wsL_law := wsL_of (List.mem_of_getElem? (i := 1765) (by decide +kernel)) rfl
theorem w_892 : Cond.selects RX11 yX11_comesFrom yX11_comesFrom ∈ wsL_law := wsL_of (List.mem_of_getElem? (i := 94) (by decide +kernel)) rfl
theorem w_893 : Cond.code yX11_isAcyclic cX11_isAcyclic 2 (some .boolean) ∈ wsL_law := wsL_of (List.mem_of_getElem? (i := 1762) (by decide +kernel)) rfl
theorem w_894 : Cond.methodLink RX11 220 yX11_isAcyclic ∈ wsL_law := wsL_of (List.mem_of_getElem? (i := 1759) (by decide +kernel)) rfl
theorem w_895 : Cond.instanceMethod yX11_isAcyclic ∈ wsL_law := wsL_of (List.mem_of_getElem? (i := 1761) (by decide +kernel)) rfl
theorem w_896 : Cond.selects RX11 yX11_isAcyclic yX11_isAcyclic ∈ wsL_law := wsL_of (List.mem_of_getElem? (i := 93) (by decide +kernel)) rfl
theorem w_897 : Cond.code yX11_isBlind cX11_isBlind 3 (some .boolean) ∈ wsL_law := wsL_of (List.mem_of_getElem? (i := 1778) (by decide +kernel)) rfl
theorem w_898 : Cond.methodLink RX11 223 yX11_isBlind ∈ wsL_law := wsL_of (List.mem_of_getElem? (i := 1775) (by decide +kernel)) rfl
theorem w_899 : Cond.instanceMethod yX11_isBlind ∈ wsL_law := wsL_of (List.mem_of_getElem? (i := 1777) (by decide +kernel)) rfl
theorem w_900 : Cond.selects RX11 yX11_isBlind yX11_isBlind ∈ wsL_law := wsL_of (List.mem_of_getElem? (i := 95) (by decide +kernel)) rfl
theorem w_901 : Cond.code yX11_twelfths cX11_twelfths 4 (some .int) ∈ wsL_law := wsL_of (List.mem_of_getElem? (i := 1786) (by decide +kernel)) rfl
theorem w_902 : Cond.methodLink RX11 226 yX11_twelfths ∈ wsL_law := wsL_of (List.mem_of_getElem? (i := 1783) (by decide +kernel)) rfl
theorem w_903 : Cond.instanceMethod yX11_twelfths ∈ wsL_law := wsL_of (List.mem_of_getElem? (i := 1785) (by decide +kernel)) rfl
theorem w_904 : Cond.selects RX11 yX11_twelfths yX11_twelfths ∈ wsL_law := wsL_of (List.mem_of_getElem? (i := 96) (by decide +kernel)) rfl
theorem w_905 : Cond.code yX11_common cX11_common 5 (some .int) ∈ wsL_law := wsL_of (List.mem_of_getElem? (i := 1789) (by decide +kernel)) rfl
theorem w_906 : Cond.methodLink RX11 229 yX11_common ∈ wsL_law := wsL_of (List.mem_of_getElem? (i := 1787) (by decide +kernel)) rfl
theorem w_907 : Cond.static yX11_common ∈ wsL_law := wsL_of (List.mem_of_getElem? (i := 1788) (by decide +kernel)) rfl
theorem w_908 : Cond.code yX11_isClique cX11_isClique 3 (some .boolean) ∈ wsL_law := wsL_of (List.mem_of_getElem? (i := 1801) (by decide +kernel)) rfl
theorem w_909 : Cond.methodLink RX11 232 yX11_isClique ∈ wsL_law := wsL_of (List.mem_of_getElem? (i := 1798) (by decide +kernel)) rfl
theorem w_910 : Cond.instanceMethod yX11_isClique ∈ wsL_law := wsL_of (List.mem_of_getElem? (i := 1800) (by decide +kernel)) rfl
theorem w_911 : Cond.selects RX11 yX11_isClique yX11_isClique ∈ wsL_law := wsL_of (List.mem_of_getElem? (i := 97) (by decide +kernel)) rfl
theorem w_912 : Cond.fieldLink RX11 32 "HatNetModel" "lone" "[I" ∈ wsL_law := wsL_of (List.mem_of_getElem? (i := 1413) (by decide +kernel)) rfl
theorem w_913 : Cond.code yX11_laysLone cX11_laysLone 3 none ∈ wsL_law := wsL_of (List.mem_of_getElem? (i := 1821) (by decide +kernel)) rfl
theorem w_914 : Cond.methodLink RX11 235 yX11_laysLone ∈ wsL_law := wsL_of (List.mem_of_getElem? (i := 1818) (by decide +kernel)) rfl
theorem w_915 : Cond.instanceMethod yX11_laysLone ∈ wsL_law := wsL_of (List.mem_of_getElem? (i := 1820) (by decide +kernel)) rfl
theorem w_916 : Cond.selects RX11 yX11_laysLone yX11_laysLone ∈ wsL_law := wsL_of (List.mem_of_getElem? (i := 99) (by decide +kernel)) rfl
theorem w_917 : Cond.code yX11_bestIn cX11_bestIn 5 (some .int) ∈ wsL_law := wsL_of (List.mem_of_getElem? (i := 1825) (by decide +kernel)) rfl
theorem w_918 : Cond.methodLink RX11 238 yX11_bestIn ∈ wsL_law := wsL_of (List.mem_of_getElem? (i := 1822) (by decide +kernel)) rfl
theorem w_919 : Cond.instanceMethod yX11_bestIn ∈ wsL_law := wsL_of (List.mem_of_getElem? (i := 1824) (by decide +kernel)) rfl
theorem w_920 : Cond.selects RX11 yX11_bestIn yX11_bestIn ∈ wsL_law := wsL_of (List.mem_of_getElem? (i := 100) (by decide +kernel)) rfl
theorem w_921 : Cond.code yX11_lostWithBest cX11_lostWithBest 5 (some .int) ∈ wsL_law := wsL_of (List.mem_of_getElem? (i := 1817) (by decide +kernel)) rfl
theorem w_922 : Cond.methodLink RX11 241 yX11_lostWithBest ∈ wsL_law := wsL_of (List.mem_of_getElem? (i := 1814) (by decide +kernel)) rfl
theorem w_923 : Cond.instanceMethod yX11_lostWithBest ∈ wsL_law := wsL_of (List.mem_of_getElem? (i := 1816) (by decide +kernel)) rfl
theorem w_924 : Cond.selects RX11 yX11_lostWithBest yX11_lostWithBest ∈ wsL_law := wsL_of (List.mem_of_getElem? (i := 98) (by decide +kernel)) rfl
theorem w_925 : Cond.code yX11_enters cX11_enters 4 none ∈ wsL_law := wsL_of (List.mem_of_getElem? (i := 1854) (by decide +kernel)) rfl
theorem w_926 : Cond.methodLink RX11 244 yX11_enters ∈ wsL_law := wsL_of (List.mem_of_getElem? (i := 1851) (by decide +kernel)) rfl
theorem w_927 : Cond.instanceMethod yX11_enters ∈ wsL_law := wsL_of (List.mem_of_getElem? (i := 1853) (by decide +kernel)) rfl
theorem w_928 : Cond.selects RX11 yX11_enters yX11_enters ∈ wsL_law := wsL_of (List.mem_of_getElem? (i := 104) (by decide +kernel)) rfl
theorem w_929 : Cond.code yX11_takes cX11_takes 5 (some .int) ∈ wsL_law := wsL_of (List.mem_of_getElem? (i := 1874) (by decide +kernel)) rfl
theorem w_930 : Cond.methodLink RX11 248 yX11_takes ∈ wsL_law := wsL_of (List.mem_of_getElem? (i := 1871) (by decide +kernel)) rfl
theorem w_931 : Cond.instanceMethod yX11_takes ∈ wsL_law := wsL_of (List.mem_of_getElem? (i := 1873) (by decide +kernel)) rfl
theorem w_932 : Cond.selects RX11 yX11_takes yX11_takes ∈ wsL_law := wsL_of (List.mem_of_getElem? (i := 107) (by decide +kernel)) rfl
theorem w_933 : Cond.constantLong RX11 251 (20000) ∈ wsL_law := wsL_of (List.mem_of_getElem? (i := 1842) (by decide +kernel)) rfl
theorem w_934 : Cond.code yX11_waysMany cX11_waysMany 5 (some .int) ∈ wsL_law := wsL_of (List.mem_of_getElem? (i := 1841) (by decide +kernel)) rfl
theorem w_935 : Cond.methodLink RX11 253 yX11_waysMany ∈ wsL_law := wsL_of (List.mem_of_getElem? (i := 1838) (by decide +kernel)) rfl
theorem w_936 : Cond.instanceMethod yX11_waysMany ∈ wsL_law := wsL_of (List.mem_of_getElem? (i := 1840) (by decide +kernel)) rfl
theorem w_937 : Cond.selects RX11 yX11_waysMany yX11_waysMany ∈ wsL_law := wsL_of (List.mem_of_getElem? (i := 101) (by decide +kernel)) rfl
theorem w_938 : Cond.fieldLink RX11 20 "HatNetModel" "aside" "[I" ∈ wsL_law := wsL_of (List.mem_of_getElem? (i := 1408) (by decide +kernel)) rfl
theorem w_939 : Cond.code yX11_copies cX11_copies 4 none ∈ wsL_law := wsL_of (List.mem_of_getElem? (i := 1846) (by decide +kernel)) rfl
theorem w_940 : Cond.methodLink RX11 256 yX11_copies ∈ wsL_law := wsL_of (List.mem_of_getElem? (i := 1843) (by decide +kernel)) rfl
theorem w_941 : Cond.instanceMethod yX11_copies ∈ wsL_law := wsL_of (List.mem_of_getElem? (i := 1845) (by decide +kernel)) rfl
theorem w_942 : Cond.selects RX11 yX11_copies yX11_copies ∈ wsL_law := wsL_of (List.mem_of_getElem? (i := 102) (by decide +kernel)) rfl
theorem w_943 : Cond.fieldLink RX11 260 "HatNetModel" "waysWon" "I" ∈ wsL_law := wsL_of (List.mem_of_getElem? (i := 1414) (by decide +kernel)) rfl
theorem w_944 : Cond.fieldLink RX11 263 "HatNetModel" "waysLeast" "I" ∈ wsL_law := wsL_of (List.mem_of_getElem? (i := 1415) (by decide +kernel)) rfl
theorem w_945 : Cond.code yX11_nextWay cX11_nextWay 3 (some .boolean) ∈ wsL_law := wsL_of (List.mem_of_getElem? (i := 1850) (by decide +kernel)) rfl
theorem w_946 : Cond.methodLink RX11 266 yX11_nextWay ∈ wsL_law := wsL_of (List.mem_of_getElem? (i := 1847) (by decide +kernel)) rfl
theorem w_947 : Cond.instanceMethod yX11_nextWay ∈ wsL_law := wsL_of (List.mem_of_getElem? (i := 1849) (by decide +kernel)) rfl
theorem w_948 : Cond.selects RX11 yX11_nextWay yX11_nextWay ∈ wsL_law := wsL_of (List.mem_of_getElem? (i := 103) (by decide +kernel)) rfl
theorem w_949 : Cond.constantLong RX11 269 (6364136223846793005) ∈ wsL_law := wsL_of (List.mem_of_getElem? (i := 1865) (by decide +kernel)) rfl
theorem w_950 : Cond.constantLong RX11 271 (1442695040888963407) ∈ wsL_law := wsL_of (List.mem_of_getElem? (i := 1866) (by decide +kernel)) rfl
theorem w_951 : Cond.constantLong RX11 273 (999999999) ∈ wsL_law := wsL_of (List.mem_of_getElem? (i := 1859) (by decide +kernel)) rfl
theorem w_952 : Cond.constantLong RX11 275 (10) ∈ wsL_law := wsL_of (List.mem_of_getElem? (i := 1860) (by decide +kernel)) rfl
theorem w_953 : Cond.code yX11_draws cX11_draws 6 none ∈ wsL_law := wsL_of (List.mem_of_getElem? (i := 1864) (by decide +kernel)) rfl
theorem w_954 : Cond.methodLink RX11 277 yX11_draws ∈ wsL_law := wsL_of (List.mem_of_getElem? (i := 1861) (by decide +kernel)) rfl
theorem w_955 : Cond.instanceMethod yX11_draws ∈ wsL_law := wsL_of (List.mem_of_getElem? (i := 1863) (by decide +kernel)) rfl
theorem w_956 : Cond.selects RX11 yX11_draws yX11_draws ∈ wsL_law := wsL_of (List.mem_of_getElem? (i := 105) (by decide +kernel)) rfl
theorem w_957 : Cond.code yX11_betters cX11_betters 4 (some .int) ∈ wsL_law := wsL_of (List.mem_of_getElem? (i := 1870) (by decide +kernel)) rfl
theorem w_958 : Cond.methodLink RX11 280 yX11_betters ∈ wsL_law := wsL_of (List.mem_of_getElem? (i := 1867) (by decide +kernel)) rfl
theorem w_959 : Cond.instanceMethod yX11_betters ∈ wsL_law := wsL_of (List.mem_of_getElem? (i := 1869) (by decide +kernel)) rfl
theorem w_960 : Cond.selects RX11 yX11_betters yX11_betters ∈ wsL_law := wsL_of (List.mem_of_getElem? (i := 106) (by decide +kernel)) rfl
theorem w_961 : Cond.fieldLink RX11 35 "HatNetModel" "becomes" "[I" ∈ wsL_law := wsL_of (List.mem_of_getElem? (i := 1416) (by decide +kernel)) rfl
theorem w_962 : Cond.fieldLink RX11 38 "HatNetModel" "colour3" "[I" ∈ wsL_law := wsL_of (List.mem_of_getElem? (i := 1419) (by decide +kernel)) rfl
theorem w_963 : Cond.code yX11_isRenumbering cX11_isRenumbering 3 (some .boolean) ∈ wsL_law := wsL_of (List.mem_of_getElem? (i := 1886) (by decide +kernel)) rfl
theorem w_964 : Cond.methodLink RX11 283 yX11_isRenumbering ∈ wsL_law := wsL_of (List.mem_of_getElem? (i := 1883) (by decide +kernel)) rfl
theorem w_965 : Cond.instanceMethod yX11_isRenumbering ∈ wsL_law := wsL_of (List.mem_of_getElem? (i := 1885) (by decide +kernel)) rfl
theorem w_966 : Cond.selects RX11 yX11_isRenumbering yX11_isRenumbering ∈ wsL_law := wsL_of (List.mem_of_getElem? (i := 109) (by decide +kernel)) rfl
theorem w_967 : Cond.fieldLink RX11 286 "HatNetModel" "renumberings" "I" ∈ wsL_law := wsL_of (List.mem_of_getElem? (i := 1417) (by decide +kernel)) rfl
theorem w_968 : Cond.fieldLink RX11 289 "HatNetModel" "keeping" "I" ∈ wsL_law := wsL_of (List.mem_of_getElem? (i := 1418) (by decide +kernel)) rfl
theorem w_969 : Cond.code yX11_isKeeping cX11_isKeeping 3 (some .boolean) ∈ wsL_law := wsL_of (List.mem_of_getElem? (i := 1890) (by decide +kernel)) rfl
theorem w_970 : Cond.methodLink RX11 292 yX11_isKeeping ∈ wsL_law := wsL_of (List.mem_of_getElem? (i := 1887) (by decide +kernel)) rfl
theorem w_971 : Cond.instanceMethod yX11_isKeeping ∈ wsL_law := wsL_of (List.mem_of_getElem? (i := 1889) (by decide +kernel)) rfl
theorem w_972 : Cond.selects RX11 yX11_isKeeping yX11_isKeeping ∈ wsL_law := wsL_of (List.mem_of_getElem? (i := 110) (by decide +kernel)) rfl
theorem w_973 : Cond.code yX11_renumbers cX11_renumbers 4 none ∈ wsL_law := wsL_of (List.mem_of_getElem? (i := 1882) (by decide +kernel)) rfl
theorem w_974 : Cond.methodLink RX11 295 yX11_renumbers ∈ wsL_law := wsL_of (List.mem_of_getElem? (i := 1879) (by decide +kernel)) rfl
theorem w_975 : Cond.instanceMethod yX11_renumbers ∈ wsL_law := wsL_of (List.mem_of_getElem? (i := 1881) (by decide +kernel)) rfl
theorem w_976 : Cond.selects RX11 yX11_renumbers yX11_renumbers ∈ wsL_law := wsL_of (List.mem_of_getElem? (i := 108) (by decide +kernel)) rfl
theorem w_977 : Cond.code yX11_along cX11_along 7 (some .int) ∈ wsL_law := wsL_of (List.mem_of_getElem? (i := 1906) (by decide +kernel)) rfl
theorem w_978 : Cond.methodLink RX11 298 yX11_along ∈ wsL_law := wsL_of (List.mem_of_getElem? (i := 1903) (by decide +kernel)) rfl
theorem w_979 : Cond.instanceMethod yX11_along ∈ wsL_law := wsL_of (List.mem_of_getElem? (i := 1905) (by decide +kernel)) rfl
theorem w_980 : Cond.selects RX11 yX11_along yX11_along ∈ wsL_law := wsL_of (List.mem_of_getElem? (i := 111) (by decide +kernel)) rfl
theorem w_981 : Cond.code yX11_isRing cX11_isRing 4 (some .boolean) ∈ wsL_law := wsL_of (List.mem_of_getElem? (i := 1918) (by decide +kernel)) rfl
theorem w_982 : Cond.methodLink RX11 301 yX11_isRing ∈ wsL_law := wsL_of (List.mem_of_getElem? (i := 1915) (by decide +kernel)) rfl
theorem w_983 : Cond.instanceMethod yX11_isRing ∈ wsL_law := wsL_of (List.mem_of_getElem? (i := 1917) (by decide +kernel)) rfl
theorem w_984 : Cond.selects RX11 yX11_isRing yX11_isRing ∈ wsL_law := wsL_of (List.mem_of_getElem? (i := 113) (by decide +kernel)) rfl
theorem w_985 : Cond.code yX11_hubOf cX11_hubOf 3 (some .int) ∈ wsL_law := wsL_of (List.mem_of_getElem? (i := 1914) (by decide +kernel)) rfl
theorem w_986 : Cond.methodLink RX11 304 yX11_hubOf ∈ wsL_law := wsL_of (List.mem_of_getElem? (i := 1911) (by decide +kernel)) rfl
theorem w_987 : Cond.instanceMethod yX11_hubOf ∈ wsL_law := wsL_of (List.mem_of_getElem? (i := 1913) (by decide +kernel)) rfl
theorem w_988 : Cond.selects RX11 yX11_hubOf yX11_hubOf ∈ wsL_law := wsL_of (List.mem_of_getElem? (i := 112) (by decide +kernel)) rfl
theorem w_989 : Cond.code yX11_isTree cX11_isTree 1 (some .boolean) ∈ wsL_law := wsL_of (List.mem_of_getElem? (i := 1922) (by decide +kernel)) rfl
theorem w_990 : Cond.methodLink RX11 307 yX11_isTree ∈ wsL_law := wsL_of (List.mem_of_getElem? (i := 1919) (by decide +kernel)) rfl
theorem w_991 : Cond.instanceMethod yX11_isTree ∈ wsL_law := wsL_of (List.mem_of_getElem? (i := 1921) (by decide +kernel)) rfl
theorem w_992 : Cond.selects RX11 yX11_isTree yX11_isTree ∈ wsL_law := wsL_of (List.mem_of_getElem? (i := 114) (by decide +kernel)) rfl
theorem w_993 : Cond.fieldLink RX11 17 "HatNetModel" "past" "[I" ∈ wsL_law := wsL_of (List.mem_of_getElem? (i := 1407) (by decide +kernel)) rfl
theorem w_994 : Cond.code yX11_remembers cX11_remembers 2 none ∈ wsL_law := wsL_of (List.mem_of_getElem? (i := 1934) (by decide +kernel)) rfl
theorem w_995 : Cond.methodLink RX11 310 yX11_remembers ∈ wsL_law := wsL_of (List.mem_of_getElem? (i := 1931) (by decide +kernel)) rfl
theorem w_996 : Cond.instanceMethod yX11_remembers ∈ wsL_law := wsL_of (List.mem_of_getElem? (i := 1933) (by decide +kernel)) rfl
theorem w_997 : Cond.selects RX11 yX11_remembers yX11_remembers ∈ wsL_law := wsL_of (List.mem_of_getElem? (i := 115) (by decide +kernel)) rfl
theorem w_998 : Cond.fieldLink RX11 13 "HatNetModel" "read" "[I" ∈ wsL_law := wsL_of (List.mem_of_getElem? (i := 1406) (by decide +kernel)) rfl
theorem w_999 : Cond.code yX11_isAct cX11_isAct 1 none ∈ wsL_law := wsL_of (List.mem_of_getElem? (i := 1942) (by decide +kernel)) rfl
theorem w_1000 : Cond.methodLink RX11 313 yX11_isAct ∈ wsL_law := wsL_of (List.mem_of_getElem? (i := 1939) (by decide +kernel)) rfl
theorem w_1001 : Cond.instanceMethod yX11_isAct ∈ wsL_law := wsL_of (List.mem_of_getElem? (i := 1941) (by decide +kernel)) rfl
theorem w_1002 : Cond.selects RX11 yX11_isAct yX11_isAct ∈ wsL_law := wsL_of (List.mem_of_getElem? (i := 116) (by decide +kernel)) rfl
theorem w_1003 : Cond.code yX11_isOther cX11_isOther 2 (some .boolean) ∈ wsL_law := wsL_of (List.mem_of_getElem? (i := 1958) (by decide +kernel)) rfl
theorem w_1004 : Cond.methodLink RX11 320 yX11_isOther ∈ wsL_law := wsL_of (List.mem_of_getElem? (i := 1955) (by decide +kernel)) rfl
theorem w_1005 : Cond.instanceMethod yX11_isOther ∈ wsL_law := wsL_of (List.mem_of_getElem? (i := 1957) (by decide +kernel)) rfl
theorem w_1006 : Cond.selects RX11 yX11_isOther yX11_isOther ∈ wsL_law := wsL_of (List.mem_of_getElem? (i := 118) (by decide +kernel)) rfl
theorem w_1007 : Cond.code yX11_cliqueGuess cX11_cliqueGuess 8 (some .int) ∈ wsL_law := wsL_of (List.mem_of_getElem? (i := 1954) (by decide +kernel)) rfl
theorem w_1008 : Cond.methodLink RX11 316 yX11_cliqueGuess ∈ wsL_law := wsL_of (List.mem_of_getElem? (i := 1951) (by decide +kernel)) rfl
theorem w_1009 : Cond.instanceMethod yX11_cliqueGuess ∈ wsL_law := wsL_of (List.mem_of_getElem? (i := 1953) (by decide +kernel)) rfl
theorem w_1010 : Cond.selects RX11 yX11_cliqueGuess yX11_cliqueGuess ∈ wsL_law := wsL_of (List.mem_of_getElem? (i := 117) (by decide +kernel)) rfl
theorem w_1011 : Cond.code yX11_renamed cX11_renamed 3 (some .int) ∈ wsL_law := wsL_of (List.mem_of_getElem? (i := 1965) (by decide +kernel)) rfl
theorem w_1012 : Cond.methodLink RX11 323 yX11_renamed ∈ wsL_law := wsL_of (List.mem_of_getElem? (i := 1963) (by decide +kernel)) rfl
theorem w_1013 : Cond.static yX11_renamed ∈ wsL_law := wsL_of (List.mem_of_getElem? (i := 1964) (by decide +kernel)) rfl
theorem w_1014 : Cond.fieldLink RX11 41 "HatNetModel" "out" "[I" ∈ wsL_law := wsL_of (List.mem_of_getElem? (i := 1420) (by decide +kernel)) rfl
theorem w_1015 : Cond.fieldLink RX11 327 "HatNetModel" "outLong" "I" ∈ wsL_law := wsL_of (List.mem_of_getElem? (i := 1423) (by decide +kernel)) rfl
theorem w_1016 : Cond.methodLink RX11 330 yJ0_length_8abf5 ∈ wsL_law := wsL_of (List.mem_of_getElem? (i := 1991) (by decide +kernel)) rfl
theorem w_1017 : Cond.methodLink RX11 335 yJ0_charAt_5068e ∈ wsL_law := wsL_of (List.mem_of_getElem? (i := 1992) (by decide +kernel)) rfl
theorem w_1018 : Cond.code yX11_says cX11_says 2 none ∈ wsL_law := wsL_of (List.mem_of_getElem? (i := 1996) (by decide +kernel)) rfl
theorem w_1019 : Cond.methodLink RX11 339 yX11_says ∈ wsL_law := wsL_of (List.mem_of_getElem? (i := 1993) (by decide +kernel)) rfl
theorem w_1020 : Cond.instanceMethod yX11_says ∈ wsL_law := wsL_of (List.mem_of_getElem? (i := 1995) (by decide +kernel)) rfl
theorem w_1021 : Cond.selects RX11 yX11_says yX11_says ∈ wsL_law := wsL_of (List.mem_of_getElem? (i := 121) (by decide +kernel)) rfl
theorem w_1022 : Cond.code yX11_saysWord cX11_saysWord 3 none ∈ wsL_law := wsL_of (List.mem_of_getElem? (i := 1990) (by decide +kernel)) rfl
theorem w_1023 : Cond.methodLink RX11 342 yX11_saysWord ∈ wsL_law := wsL_of (List.mem_of_getElem? (i := 1987) (by decide +kernel)) rfl
theorem w_1024 : Cond.instanceMethod yX11_saysWord ∈ wsL_law := wsL_of (List.mem_of_getElem? (i := 1989) (by decide +kernel)) rfl
theorem w_1025 : Cond.selects RX11 yX11_saysWord yX11_saysWord ∈ wsL_law := wsL_of (List.mem_of_getElem? (i := 120) (by decide +kernel)) rfl
theorem w_1026 : Cond.code yX11_saysNumber cX11_saysNumber 2 none ∈ wsL_law := wsL_of (List.mem_of_getElem? (i := 2000) (by decide +kernel)) rfl
theorem w_1027 : Cond.methodLink RX11 346 yX11_saysNumber ∈ wsL_law := wsL_of (List.mem_of_getElem? (i := 1997) (by decide +kernel)) rfl
theorem w_1028 : Cond.instanceMethod yX11_saysNumber ∈ wsL_law := wsL_of (List.mem_of_getElem? (i := 1999) (by decide +kernel)) rfl
theorem w_1029 : Cond.selects RX11 yX11_saysNumber yX11_saysNumber ∈ wsL_law := wsL_of (List.mem_of_getElem? (i := 122) (by decide +kernel)) rfl
theorem w_1030 : Cond.code yX11_saysTwo cX11_saysTwo 4 none ∈ wsL_law := wsL_of (List.mem_of_getElem? (i := 2005) (by decide +kernel)) rfl
theorem w_1031 : Cond.methodLink RX11 351 yX11_saysTwo ∈ wsL_law := wsL_of (List.mem_of_getElem? (i := 2002) (by decide +kernel)) rfl
theorem w_1032 : Cond.instanceMethod yX11_saysTwo ∈ wsL_law := wsL_of (List.mem_of_getElem? (i := 2004) (by decide +kernel)) rfl
theorem w_1033 : Cond.selects RX11 yX11_saysTwo yX11_saysTwo ∈ wsL_law := wsL_of (List.mem_of_getElem? (i := 123) (by decide +kernel)) rfl
theorem w_1034 : Cond.code yX11_saysGame cX11_saysGame 3 none ∈ wsL_law := wsL_of (List.mem_of_getElem? (i := 1985) (by decide +kernel)) rfl
theorem w_1035 : Cond.methodLink RX11 360 yX11_saysGame ∈ wsL_law := wsL_of (List.mem_of_getElem? (i := 1982) (by decide +kernel)) rfl
theorem w_1036 : Cond.instanceMethod yX11_saysGame ∈ wsL_law := wsL_of (List.mem_of_getElem? (i := 1984) (by decide +kernel)) rfl
theorem w_1037 : Cond.selects RX11 yX11_saysGame yX11_saysGame ∈ wsL_law := wsL_of (List.mem_of_getElem? (i := 119) (by decide +kernel)) rfl
theorem w_1038 : Cond.fieldLink RX11 44 "HatNetModel" "outAside" "[I" ∈ wsL_law := wsL_of (List.mem_of_getElem? (i := 1421) (by decide +kernel)) rfl
theorem w_1039 : Cond.fieldLink RX11 363 "HatNetModel" "outMany" "I" ∈ wsL_law := wsL_of (List.mem_of_getElem? (i := 1422) (by decide +kernel)) rfl
theorem w_1040 : Cond.fieldLink RX11 47 "HatNetModel" "tape" "[B" ∈ wsL_law := wsL_of (List.mem_of_getElem? (i := 1424) (by decide +kernel)) rfl
theorem w_1041 : Cond.fieldLink RX11 366 "HatNetModel" "taped" "I" ∈ wsL_law := wsL_of (List.mem_of_getElem? (i := 1425) (by decide +kernel)) rfl
theorem w_1042 : Cond.code yX11_feeds cX11_feeds 3 none ∈ wsL_law := wsL_of (List.mem_of_getElem? (i := 2020) (by decide +kernel)) rfl
theorem w_1043 : Cond.methodLink RX11 369 yX11_feeds ∈ wsL_law := wsL_of (List.mem_of_getElem? (i := 2017) (by decide +kernel)) rfl
theorem w_1044 : Cond.instanceMethod yX11_feeds ∈ wsL_law := wsL_of (List.mem_of_getElem? (i := 2019) (by decide +kernel)) rfl
theorem w_1045 : Cond.selects RX11 yX11_feeds yX11_feeds ∈ wsL_law := wsL_of (List.mem_of_getElem? (i := 124) (by decide +kernel)) rfl
theorem w_1046 : Cond.fieldLink RX11 372 "HatNetModel" "last" "I" ∈ wsL_law := wsL_of (List.mem_of_getElem? (i := 1434) (by decide +kernel)) rfl
theorem w_1047 : Cond.fieldLink RX11 375 "HatNetModel" "then" "I" ∈ wsL_law := wsL_of (List.mem_of_getElem? (i := 1431) (by decide +kernel)) rfl
theorem w_1048 : Cond.fieldLink RX11 378 "HatNetModel" "place" "I" ∈ wsL_law := wsL_of (List.mem_of_getElem? (i := 1430) (by decide +kernel)) rfl
theorem w_1049 : Cond.code yX11_isOf cX11_isOf 4 (some .boolean) ∈ wsL_law := wsL_of (List.mem_of_getElem? (i := 2032) (by decide +kernel)) rfl
theorem w_1050 : Cond.methodLink RX11 381 yX11_isOf ∈ wsL_law := wsL_of (List.mem_of_getElem? (i := 2029) (by decide +kernel)) rfl
theorem w_1051 : Cond.instanceMethod yX11_isOf ∈ wsL_law := wsL_of (List.mem_of_getElem? (i := 2031) (by decide +kernel)) rfl
theorem w_1052 : Cond.selects RX11 yX11_isOf yX11_isOf ∈ wsL_law := wsL_of (List.mem_of_getElem? (i := 126) (by decide +kernel)) rfl
theorem w_1053 : Cond.fieldLink RX11 385 "HatNetModel" "sort" "I" ∈ wsL_law := wsL_of (List.mem_of_getElem? (i := 1432) (by decide +kernel)) rfl
theorem w_1054 : Cond.fieldLink RX11 396 "HatNetModel" "number" "I" ∈ wsL_law := wsL_of (List.mem_of_getElem? (i := 1433) (by decide +kernel)) rfl
theorem w_1055 : Cond.fieldLink RX11 388 "HatNetModel" "word" "J" ∈ wsL_law := wsL_of (List.mem_of_getElem? (i := 1437) (by decide +kernel)) rfl
theorem w_1056 : Cond.constantLong RX11 392 (27) ∈ wsL_law := wsL_of (List.mem_of_getElem? (i := 2033) (by decide +kernel)) rfl
theorem w_1057 : Cond.constantLong RX11 394 (96) ∈ wsL_law := wsL_of (List.mem_of_getElem? (i := 2034) (by decide +kernel)) rfl
theorem w_1058 : Cond.fieldLink RX11 399 "HatNetModel" "wrong" "I" ∈ wsL_law := wsL_of (List.mem_of_getElem? (i := 1428) (by decide +kernel)) rfl
theorem w_1059 : Cond.fieldLink RX11 402 "HatNetModel" "wrongAt" "I" ∈ wsL_law := wsL_of (List.mem_of_getElem? (i := 1429) (by decide +kernel)) rfl
theorem w_1060 : Cond.code yX11_good cX11_good 1 (some .boolean) ∈ wsL_law := wsL_of (List.mem_of_getElem? (i := 2038) (by decide +kernel)) rfl
theorem w_1061 : Cond.methodLink RX11 405 yX11_good ∈ wsL_law := wsL_of (List.mem_of_getElem? (i := 2035) (by decide +kernel)) rfl
theorem w_1062 : Cond.instanceMethod yX11_good ∈ wsL_law := wsL_of (List.mem_of_getElem? (i := 2037) (by decide +kernel)) rfl
theorem w_1063 : Cond.selects RX11 yX11_good yX11_good ∈ wsL_law := wsL_of (List.mem_of_getElem? (i := 127) (by decide +kernel)) rfl
theorem w_1064 : Cond.code yX11_reads cX11_reads 1 none ∈ wsL_law := wsL_of (List.mem_of_getElem? (i := 2028) (by decide +kernel)) rfl
theorem w_1065 : Cond.methodLink RX11 408 yX11_reads ∈ wsL_law := wsL_of (List.mem_of_getElem? (i := 2025) (by decide +kernel)) rfl
theorem w_1066 : Cond.instanceMethod yX11_reads ∈ wsL_law := wsL_of (List.mem_of_getElem? (i := 2027) (by decide +kernel)) rfl
theorem w_1067 : Cond.selects RX11 yX11_reads yX11_reads ∈ wsL_law := wsL_of (List.mem_of_getElem? (i := 125) (by decide +kernel)) rfl
theorem w_1068 : Cond.fieldLink RX11 78 "HatNetModel" "words" "[J" ∈ wsL_law := wsL_of (List.mem_of_getElem? (i := 1438) (by decide +kernel)) rfl
theorem w_1069 : Cond.code yX11_must cX11_must 3 none ∈ wsL_law := wsL_of (List.mem_of_getElem? (i := 2050) (by decide +kernel)) rfl
theorem w_1070 : Cond.methodLink RX11 411 yX11_must ∈ wsL_law := wsL_of (List.mem_of_getElem? (i := 2047) (by decide +kernel)) rfl
theorem w_1071 : Cond.instanceMethod yX11_must ∈ wsL_law := wsL_of (List.mem_of_getElem? (i := 2049) (by decide +kernel)) rfl
theorem w_1072 : Cond.selects RX11 yX11_must yX11_must ∈ wsL_law := wsL_of (List.mem_of_getElem? (i := 130) (by decide +kernel)) rfl
theorem w_1073 : Cond.code yX11_goesOn cX11_goesOn 1 none ∈ wsL_law := wsL_of (List.mem_of_getElem? (i := 2054) (by decide +kernel)) rfl
theorem w_1074 : Cond.methodLink RX11 415 yX11_goesOn ∈ wsL_law := wsL_of (List.mem_of_getElem? (i := 2051) (by decide +kernel)) rfl
theorem w_1075 : Cond.instanceMethod yX11_goesOn ∈ wsL_law := wsL_of (List.mem_of_getElem? (i := 2053) (by decide +kernel)) rfl
theorem w_1076 : Cond.selects RX11 yX11_goesOn yX11_goesOn ∈ wsL_law := wsL_of (List.mem_of_getElem? (i := 131) (by decide +kernel)) rfl
theorem w_1077 : Cond.fieldLink RX11 418 "HatNetModel" "hatsTold" "I" ∈ wsL_law := wsL_of (List.mem_of_getElem? (i := 1435) (by decide +kernel)) rfl
theorem w_1078 : Cond.code yX11_takesPlayer cX11_takesPlayer 3 (some .int) ∈ wsL_law := wsL_of (List.mem_of_getElem? (i := 2066) (by decide +kernel)) rfl
theorem w_1079 : Cond.methodLink RX11 421 yX11_takesPlayer ∈ wsL_law := wsL_of (List.mem_of_getElem? (i := 2063) (by decide +kernel)) rfl
theorem w_1080 : Cond.instanceMethod yX11_takesPlayer ∈ wsL_law := wsL_of (List.mem_of_getElem? (i := 2065) (by decide +kernel)) rfl
theorem w_1081 : Cond.selects RX11 yX11_takesPlayer yX11_takesPlayer ∈ wsL_law := wsL_of (List.mem_of_getElem? (i := 134) (by decide +kernel)) rfl
theorem w_1082 : Cond.code yX11_takesNumber cX11_takesNumber 4 (some .int) ∈ wsL_law := wsL_of (List.mem_of_getElem? (i := 2058) (by decide +kernel)) rfl
theorem w_1083 : Cond.methodLink RX11 424 yX11_takesNumber ∈ wsL_law := wsL_of (List.mem_of_getElem? (i := 2055) (by decide +kernel)) rfl
theorem w_1084 : Cond.instanceMethod yX11_takesNumber ∈ wsL_law := wsL_of (List.mem_of_getElem? (i := 2057) (by decide +kernel)) rfl
theorem w_1085 : Cond.selects RX11 yX11_takesNumber yX11_takesNumber ∈ wsL_law := wsL_of (List.mem_of_getElem? (i := 132) (by decide +kernel)) rfl
theorem w_1086 : Cond.fieldLink RX11 427 "HatNetModel" "guessTold" "I" ∈ wsL_law := wsL_of (List.mem_of_getElem? (i := 1436) (by decide +kernel)) rfl
theorem w_1087 : Cond.code yX11_isWord cX11_isWord 2 (some .boolean) ∈ wsL_law := wsL_of (List.mem_of_getElem? (i := 2046) (by decide +kernel)) rfl
theorem w_1088 : Cond.methodLink RX11 430 yX11_isWord ∈ wsL_law := wsL_of (List.mem_of_getElem? (i := 2043) (by decide +kernel)) rfl
theorem w_1089 : Cond.instanceMethod yX11_isWord ∈ wsL_law := wsL_of (List.mem_of_getElem? (i := 2045) (by decide +kernel)) rfl
theorem w_1090 : Cond.selects RX11 yX11_isWord yX11_isWord ∈ wsL_law := wsL_of (List.mem_of_getElem? (i := 129) (by decide +kernel)) rfl
theorem w_1091 : Cond.code yX11_readsTable cX11_readsTable 3 none ∈ wsL_law := wsL_of (List.mem_of_getElem? (i := 2070) (by decide +kernel)) rfl
theorem w_1092 : Cond.methodLink RX11 433 yX11_readsTable ∈ wsL_law := wsL_of (List.mem_of_getElem? (i := 2067) (by decide +kernel)) rfl
theorem w_1093 : Cond.instanceMethod yX11_readsTable ∈ wsL_law := wsL_of (List.mem_of_getElem? (i := 2069) (by decide +kernel)) rfl
theorem w_1094 : Cond.selects RX11 yX11_readsTable yX11_readsTable ∈ wsL_law := wsL_of (List.mem_of_getElem? (i := 135) (by decide +kernel)) rfl
theorem w_1095 : Cond.code yX11_fills cX11_fills 10 none ∈ wsL_law := wsL_of (List.mem_of_getElem? (i := 2074) (by decide +kernel)) rfl
theorem w_1096 : Cond.methodLink RX11 436 yX11_fills ∈ wsL_law := wsL_of (List.mem_of_getElem? (i := 2071) (by decide +kernel)) rfl
theorem w_1097 : Cond.instanceMethod yX11_fills ∈ wsL_law := wsL_of (List.mem_of_getElem? (i := 2073) (by decide +kernel)) rfl
theorem w_1098 : Cond.selects RX11 yX11_fills yX11_fills ∈ wsL_law := wsL_of (List.mem_of_getElem? (i := 136) (by decide +kernel)) rfl
theorem w_1099 : Cond.code yX11_readsGuess cX11_readsGuess 4 none ∈ wsL_law := wsL_of (List.mem_of_getElem? (i := 2062) (by decide +kernel)) rfl
theorem w_1100 : Cond.methodLink RX11 439 yX11_readsGuess ∈ wsL_law := wsL_of (List.mem_of_getElem? (i := 2059) (by decide +kernel)) rfl
theorem w_1101 : Cond.instanceMethod yX11_readsGuess ∈ wsL_law := wsL_of (List.mem_of_getElem? (i := 2061) (by decide +kernel)) rfl
theorem w_1102 : Cond.selects RX11 yX11_readsGuess yX11_readsGuess ∈ wsL_law := wsL_of (List.mem_of_getElem? (i := 133) (by decide +kernel)) rfl
theorem w_1103 : Cond.code yX11_readsSight cX11_readsSight 4 none ∈ wsL_law := wsL_of (List.mem_of_getElem? (i := 2082) (by decide +kernel)) rfl
theorem w_1104 : Cond.methodLink RX11 445 yX11_readsSight ∈ wsL_law := wsL_of (List.mem_of_getElem? (i := 2079) (by decide +kernel)) rfl
theorem w_1105 : Cond.instanceMethod yX11_readsSight ∈ wsL_law := wsL_of (List.mem_of_getElem? (i := 2081) (by decide +kernel)) rfl
theorem w_1106 : Cond.selects RX11 yX11_readsSight yX11_readsSight ∈ wsL_law := wsL_of (List.mem_of_getElem? (i := 138) (by decide +kernel)) rfl
theorem w_1107 : Cond.code yX11_readsHats cX11_readsHats 3 none ∈ wsL_law := wsL_of (List.mem_of_getElem? (i := 2078) (by decide +kernel)) rfl
theorem w_1108 : Cond.methodLink RX11 442 yX11_readsHats ∈ wsL_law := wsL_of (List.mem_of_getElem? (i := 2075) (by decide +kernel)) rfl
theorem w_1109 : Cond.instanceMethod yX11_readsHats ∈ wsL_law := wsL_of (List.mem_of_getElem? (i := 2077) (by decide +kernel)) rfl
theorem w_1110 : Cond.selects RX11 yX11_readsHats yX11_readsHats ∈ wsL_law := wsL_of (List.mem_of_getElem? (i := 137) (by decide +kernel)) rfl
theorem w_1111 : Cond.code yX11_line cX11_line 3 none ∈ wsL_law := wsL_of (List.mem_of_getElem? (i := 2042) (by decide +kernel)) rfl
theorem w_1112 : Cond.methodLink RX11 449 yX11_line ∈ wsL_law := wsL_of (List.mem_of_getElem? (i := 2039) (by decide +kernel)) rfl
theorem w_1113 : Cond.instanceMethod yX11_line ∈ wsL_law := wsL_of (List.mem_of_getElem? (i := 2041) (by decide +kernel)) rfl
theorem w_1114 : Cond.selects RX11 yX11_line yX11_line ∈ wsL_law := wsL_of (List.mem_of_getElem? (i := 128) (by decide +kernel)) rfl
theorem w_1115 : Cond.fieldLink RX11 51 "HatNetModel" "faultKind" "I" ∈ wsL_law := wsL_of (List.mem_of_getElem? (i := 1426) (by decide +kernel)) rfl
theorem w_1116 : Cond.fieldLink RX11 55 "HatNetModel" "faultAt" "I" ∈ wsL_law := wsL_of (List.mem_of_getElem? (i := 1427) (by decide +kernel)) rfl
theorem w_1117 : Cond.code yJ0_coder_7d493 cJ0_coder_7d493 1 (some .byte) ∈ wsL_law := wsL_of (List.mem_of_getElem? (i := 555) (by decide +kernel)) rfl
theorem w_1118 : Cond.methodLink RJ0 335 yJ0_coder_7d493 ∈ wsL_law := wsL_of (List.mem_of_getElem? (i := 552) (by decide +kernel)) rfl
theorem w_1119 : Cond.instanceMethod yJ0_coder_7d493 ∈ wsL_law := wsL_of (List.mem_of_getElem? (i := 553) (by decide +kernel)) rfl
theorem w_1120 : Cond.selects RJ0 yJ0_coder_7d493 yJ0_coder_7d493 ∈ wsL_law := wsL_of (List.mem_of_getElem? (i := 554) (by decide +kernel)) rfl
theorem w_1121 : Cond.code yJ0_isLatin1_aae02 cJ0_isLatin1_aae02 1 (some .boolean) ∈ wsL_law := wsL_of (List.mem_of_getElem? (i := 565) (by decide +kernel)) rfl
theorem w_1122 : Cond.methodLink RJ0 492 yJ0_isLatin1_aae02 ∈ wsL_law := wsL_of (List.mem_of_getElem? (i := 562) (by decide +kernel)) rfl
theorem w_1123 : Cond.instanceMethod yJ0_isLatin1_aae02 ∈ wsL_law := wsL_of (List.mem_of_getElem? (i := 563) (by decide +kernel)) rfl
theorem w_1124 : Cond.selects RJ0 yJ0_isLatin1_aae02 yJ0_isLatin1_aae02 ∈ wsL_law := wsL_of (List.mem_of_getElem? (i := 564) (by decide +kernel)) rfl
theorem w_1125 : Cond.code yJ1_charAt_3b067 cJ1_charAt_3b067 2 (some .char) ∈ wsL_law := wsL_of (List.mem_of_getElem? (i := 568) (by decide +kernel)) rfl
theorem w_1126 : Cond.initialized RJ1 ∈ wsL_law := wsL_of (List.mem_of_getElem? (i := 154) (by decide +kernel)) rfl
theorem w_1127 : Cond.methodLink RJ0 495 yJ1_charAt_3b067 ∈ wsL_law := wsL_of (List.mem_of_getElem? (i := 566) (by decide +kernel)) rfl
theorem w_1128 : Cond.static yJ1_charAt_3b067 ∈ wsL_law := wsL_of (List.mem_of_getElem? (i := 567) (by decide +kernel)) rfl
theorem w_1129 : Cond.code yJ0_checkIndex_df160 cJ0_checkIndex_df160 2 none ∈ wsL_law := wsL_of (List.mem_of_getElem? (i := 571) (by decide +kernel)) rfl
theorem w_1130 : Cond.methodLink RJ1 9 yJ0_checkIndex_df160 ∈ wsL_law := wsL_of (List.mem_of_getElem? (i := 569) (by decide +kernel)) rfl
theorem w_1131 : Cond.static yJ0_checkIndex_df160 ∈ wsL_law := wsL_of (List.mem_of_getElem? (i := 570) (by decide +kernel)) rfl
theorem w_1132 : Cond.code yJ3_checkIndex_8e157 cJ3_checkIndex_8e157 3 (some .int) ∈ wsL_law := wsL_of (List.mem_of_getElem? (i := 576) (by decide +kernel)) rfl
theorem w_1133 : Cond.initialized RJ3 ∈ wsL_law := wsL_of (List.mem_of_getElem? (i := 155) (by decide +kernel)) rfl
theorem w_1134 : Cond.methodLink RJ0 1059 yJ3_checkIndex_8e157 ∈ wsL_law := wsL_of (List.mem_of_getElem? (i := 574) (by decide +kernel)) rfl
theorem w_1135 : Cond.static yJ3_checkIndex_8e157 ∈ wsL_law := wsL_of (List.mem_of_getElem? (i := 575) (by decide +kernel)) rfl
theorem w_1136 : Cond.fieldLink RJ0 38 "java/lang/String" "COMPACT_STRINGS" "Z" ∈ wsL_law := wsL_of (List.mem_of_getElem? (i := 556) (by decide +kernel)) rfl
theorem w_1137 : Cond.fieldLink RJ0 15 "java/lang/String" "coder" "B" ∈ wsL_law := wsL_of (List.mem_of_getElem? (i := 2088) (by decide +kernel)) rfl
theorem w_1138 : Cond.fieldLink RJ0 9 "java/lang/String" "value" "[B" ∈ wsL_law := wsL_of (List.mem_of_getElem? (i := 2087) (by decide +kernel)) rfl
theorem w_1139 : Cond.fieldLink RJ0 1053 "jdk/internal/util/Preconditions" "SIOOBE_FORMATTER" "Ljava/util/function/BiFunction;" ∈ wsL_law := wsL_of (List.mem_of_getElem? (i := 572) (by decide +kernel)) rfl
