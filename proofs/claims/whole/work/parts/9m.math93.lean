/-! THE LAW'S WALK: words (laid by wip/gen/lawgen.py) -/
theorem lq_0 : Cond.methodLink RL 13 yX10_status ∈ wsL_law := wsL_of (List.mem_of_getElem? (i := 481) (by decide +kernel)) rfl
theorem lq_1 : Cond.instanceMethod yX10_status ∈ wsL_law := wsL_of (List.mem_of_getElem? (i := 482) (by decide +kernel)) rfl
theorem lq_2 : Cond.selects RX10 yX10_status yX10_status ∈ wsL_law := wsL_of (List.mem_of_getElem? (i := 483) (by decide +kernel)) rfl
theorem lq_3 : Cond.initialized RX10 ∈ wsL_law := wsL_of (List.mem_of_getElem? (i := 140) (by decide +kernel)) rfl
theorem lq_4 : Cond.code yX10_status cX10_status 1 (some .int) ∈ wsL_law := wsL_of (List.mem_of_getElem? (i := 484) (by decide +kernel)) rfl
theorem lq_5 : Cond.methodLink RL 17 yX11_status ∈ wsL_law := wsL_of (List.mem_of_getElem? (i := 1512) (by decide +kernel)) rfl
theorem lq_6 : Cond.instanceMethod yX11_status ∈ wsL_law := wsL_of (List.mem_of_getElem? (i := 1513) (by decide +kernel)) rfl
theorem lq_7 : Cond.selects RX11 yX11_status yX11_status ∈ wsL_law := wsL_of (List.mem_of_getElem? (i := 1514) (by decide +kernel)) rfl
theorem lq_8 : Cond.initialized RX11 ∈ wsL_law := wsL_of (List.mem_of_getElem? (i := 151) (by decide +kernel)) rfl
theorem lq_9 : Cond.code yX11_status cX11_status 1 (some .int) ∈ wsL_law := wsL_of (List.mem_of_getElem? (i := 1515) (by decide +kernel)) rfl
theorem lq_10 : Cond.methodLink RL 18 yX10_feed ∈ wsL_law := wsL_of (List.mem_of_getElem? (i := 485) (by decide +kernel)) rfl
theorem lq_11 : Cond.instanceMethod yX10_feed ∈ wsL_law := wsL_of (List.mem_of_getElem? (i := 486) (by decide +kernel)) rfl
theorem lq_12 : Cond.selects RX10 yX10_feed yX10_feed ∈ wsL_law := wsL_of (List.mem_of_getElem? (i := 487) (by decide +kernel)) rfl
theorem lq_13 : Cond.code yX10_feed cX10_feed 6 (some .int) ∈ wsL_law := wsL_of (List.mem_of_getElem? (i := 488) (by decide +kernel)) rfl
theorem lq_14 : Cond.methodLink RL 22 yX11_feed ∈ wsL_law := wsL_of (List.mem_of_getElem? (i := 2013) (by decide +kernel)) rfl
theorem lq_15 : Cond.instanceMethod yX11_feed ∈ wsL_law := wsL_of (List.mem_of_getElem? (i := 2014) (by decide +kernel)) rfl
theorem lq_16 : Cond.selects RX11 yX11_feed yX11_feed ∈ wsL_law := wsL_of (List.mem_of_getElem? (i := 2015) (by decide +kernel)) rfl
theorem lq_17 : Cond.code yX11_feed cX11_feed 6 (some .int) ∈ wsL_law := wsL_of (List.mem_of_getElem? (i := 2016) (by decide +kernel)) rfl
theorem lq_18 : Cond.methodLink RL 23 yX10_load ∈ wsL_law := wsL_of (List.mem_of_getElem? (i := 493) (by decide +kernel)) rfl
theorem lq_19 : Cond.instanceMethod yX10_load ∈ wsL_law := wsL_of (List.mem_of_getElem? (i := 494) (by decide +kernel)) rfl
theorem lq_20 : Cond.selects RX10 yX10_load yX10_load ∈ wsL_law := wsL_of (List.mem_of_getElem? (i := 495) (by decide +kernel)) rfl
theorem lq_21 : Cond.code yX10_load cX10_load 3 (some .int) ∈ wsL_law := wsL_of (List.mem_of_getElem? (i := 496) (by decide +kernel)) rfl
theorem lq_22 : Cond.methodLink RL 27 yX11_load ∈ wsL_law := wsL_of (List.mem_of_getElem? (i := 2021) (by decide +kernel)) rfl
theorem lq_23 : Cond.instanceMethod yX11_load ∈ wsL_law := wsL_of (List.mem_of_getElem? (i := 2022) (by decide +kernel)) rfl
theorem lq_24 : Cond.selects RX11 yX11_load yX11_load ∈ wsL_law := wsL_of (List.mem_of_getElem? (i := 2023) (by decide +kernel)) rfl
theorem lq_25 : Cond.code yX11_load cX11_load 3 (some .int) ∈ wsL_law := wsL_of (List.mem_of_getElem? (i := 2024) (by decide +kernel)) rfl
theorem lq_26 : Cond.methodLink RL 28 yX10_fault ∈ wsL_law := wsL_of (List.mem_of_getElem? (i := 733) (by decide +kernel)) rfl
theorem lq_27 : Cond.instanceMethod yX10_fault ∈ wsL_law := wsL_of (List.mem_of_getElem? (i := 734) (by decide +kernel)) rfl
theorem lq_28 : Cond.selects RX10 yX10_fault yX10_fault ∈ wsL_law := wsL_of (List.mem_of_getElem? (i := 735) (by decide +kernel)) rfl
theorem lq_29 : Cond.code yX10_fault cX10_fault 2 (some .int) ∈ wsL_law := wsL_of (List.mem_of_getElem? (i := 736) (by decide +kernel)) rfl
theorem lq_30 : Cond.methodLink RL 31 yX11_fault ∈ wsL_law := wsL_of (List.mem_of_getElem? (i := 2083) (by decide +kernel)) rfl
theorem lq_31 : Cond.instanceMethod yX11_fault ∈ wsL_law := wsL_of (List.mem_of_getElem? (i := 2084) (by decide +kernel)) rfl
theorem lq_32 : Cond.selects RX11 yX11_fault yX11_fault ∈ wsL_law := wsL_of (List.mem_of_getElem? (i := 2085) (by decide +kernel)) rfl
theorem lq_33 : Cond.code yX11_fault cX11_fault 2 (some .int) ∈ wsL_law := wsL_of (List.mem_of_getElem? (i := 2086) (by decide +kernel)) rfl
theorem lq_34 : Cond.methodLink RL 32 yX10_many ∈ wsL_law := wsL_of (List.mem_of_getElem? (i := 737) (by decide +kernel)) rfl
theorem lq_35 : Cond.instanceMethod yX10_many ∈ wsL_law := wsL_of (List.mem_of_getElem? (i := 738) (by decide +kernel)) rfl
theorem lq_36 : Cond.selects RX10 yX10_many yX10_many ∈ wsL_law := wsL_of (List.mem_of_getElem? (i := 739) (by decide +kernel)) rfl
theorem lq_37 : Cond.code yX10_many cX10_many 2 (some .int) ∈ wsL_law := wsL_of (List.mem_of_getElem? (i := 740) (by decide +kernel)) rfl
theorem lq_38 : Cond.methodLink RL 35 yX11_many ∈ wsL_law := wsL_of (List.mem_of_getElem? (i := 1516) (by decide +kernel)) rfl
theorem lq_39 : Cond.instanceMethod yX11_many ∈ wsL_law := wsL_of (List.mem_of_getElem? (i := 1517) (by decide +kernel)) rfl
theorem lq_40 : Cond.selects RX11 yX11_many yX11_many ∈ wsL_law := wsL_of (List.mem_of_getElem? (i := 1518) (by decide +kernel)) rfl
theorem lq_41 : Cond.code yX11_many cX11_many 4 (some .int) ∈ wsL_law := wsL_of (List.mem_of_getElem? (i := 1519) (by decide +kernel)) rfl
theorem lq_42 : Cond.methodLink RL 36 yX10_player ∈ wsL_law := wsL_of (List.mem_of_getElem? (i := 769) (by decide +kernel)) rfl
theorem lq_43 : Cond.instanceMethod yX10_player ∈ wsL_law := wsL_of (List.mem_of_getElem? (i := 770) (by decide +kernel)) rfl
theorem lq_44 : Cond.selects RX10 yX10_player yX10_player ∈ wsL_law := wsL_of (List.mem_of_getElem? (i := 771) (by decide +kernel)) rfl
theorem lq_45 : Cond.code yX10_player cX10_player 3 (some .int) ∈ wsL_law := wsL_of (List.mem_of_getElem? (i := 772) (by decide +kernel)) rfl
theorem lq_46 : Cond.methodLink RL 40 yX11_player ∈ wsL_law := wsL_of (List.mem_of_getElem? (i := 1561) (by decide +kernel)) rfl
theorem lq_47 : Cond.instanceMethod yX11_player ∈ wsL_law := wsL_of (List.mem_of_getElem? (i := 1562) (by decide +kernel)) rfl
theorem lq_48 : Cond.selects RX11 yX11_player yX11_player ∈ wsL_law := wsL_of (List.mem_of_getElem? (i := 1563) (by decide +kernel)) rfl
theorem lq_49 : Cond.code yX11_player cX11_player 3 (some .int) ∈ wsL_law := wsL_of (List.mem_of_getElem? (i := 1564) (by decide +kernel)) rfl
theorem lq_50 : Cond.methodLink RL 41 yX10_guess ∈ wsL_law := wsL_of (List.mem_of_getElem? (i := 779) (by decide +kernel)) rfl
theorem lq_51 : Cond.instanceMethod yX10_guess ∈ wsL_law := wsL_of (List.mem_of_getElem? (i := 780) (by decide +kernel)) rfl
theorem lq_52 : Cond.selects RX10 yX10_guess yX10_guess ∈ wsL_law := wsL_of (List.mem_of_getElem? (i := 781) (by decide +kernel)) rfl
theorem lq_53 : Cond.code yX10_guess cX10_guess 3 (some .int) ∈ wsL_law := wsL_of (List.mem_of_getElem? (i := 782) (by decide +kernel)) rfl
theorem lq_54 : Cond.methodLink RL 44 yX11_guess ∈ wsL_law := wsL_of (List.mem_of_getElem? (i := 1589) (by decide +kernel)) rfl
theorem lq_55 : Cond.instanceMethod yX11_guess ∈ wsL_law := wsL_of (List.mem_of_getElem? (i := 1590) (by decide +kernel)) rfl
theorem lq_56 : Cond.selects RX11 yX11_guess yX11_guess ∈ wsL_law := wsL_of (List.mem_of_getElem? (i := 1591) (by decide +kernel)) rfl
theorem lq_57 : Cond.code yX11_guess cX11_guess 3 (some .int) ∈ wsL_law := wsL_of (List.mem_of_getElem? (i := 1592) (by decide +kernel)) rfl
theorem lq_58 : Cond.methodLink RL 45 yX10_situation ∈ wsL_law := wsL_of (List.mem_of_getElem? (i := 788) (by decide +kernel)) rfl
theorem lq_59 : Cond.instanceMethod yX10_situation ∈ wsL_law := wsL_of (List.mem_of_getElem? (i := 789) (by decide +kernel)) rfl
theorem lq_60 : Cond.selects RX10 yX10_situation yX10_situation ∈ wsL_law := wsL_of (List.mem_of_getElem? (i := 790) (by decide +kernel)) rfl
theorem lq_61 : Cond.code yX10_situation cX10_situation 3 (some .int) ∈ wsL_law := wsL_of (List.mem_of_getElem? (i := 791) (by decide +kernel)) rfl
theorem lq_62 : Cond.methodLink RL 48 yX11_situation ∈ wsL_law := wsL_of (List.mem_of_getElem? (i := 1601) (by decide +kernel)) rfl
theorem lq_63 : Cond.instanceMethod yX11_situation ∈ wsL_law := wsL_of (List.mem_of_getElem? (i := 1602) (by decide +kernel)) rfl
theorem lq_64 : Cond.selects RX11 yX11_situation yX11_situation ∈ wsL_law := wsL_of (List.mem_of_getElem? (i := 1603) (by decide +kernel)) rfl
theorem lq_65 : Cond.code yX11_situation cX11_situation 3 (some .int) ∈ wsL_law := wsL_of (List.mem_of_getElem? (i := 1604) (by decide +kernel)) rfl
theorem lq_66 : Cond.methodLink RL 49 yX10_colour ∈ wsL_law := wsL_of (List.mem_of_getElem? (i := 800) (by decide +kernel)) rfl
theorem lq_67 : Cond.instanceMethod yX10_colour ∈ wsL_law := wsL_of (List.mem_of_getElem? (i := 801) (by decide +kernel)) rfl
theorem lq_68 : Cond.selects RX10 yX10_colour yX10_colour ∈ wsL_law := wsL_of (List.mem_of_getElem? (i := 802) (by decide +kernel)) rfl
theorem lq_69 : Cond.code yX10_colour cX10_colour 3 (some .int) ∈ wsL_law := wsL_of (List.mem_of_getElem? (i := 803) (by decide +kernel)) rfl
theorem lq_70 : Cond.methodLink RL 52 yX11_colour ∈ wsL_law := wsL_of (List.mem_of_getElem? (i := 1617) (by decide +kernel)) rfl
theorem lq_71 : Cond.instanceMethod yX11_colour ∈ wsL_law := wsL_of (List.mem_of_getElem? (i := 1618) (by decide +kernel)) rfl
theorem lq_72 : Cond.selects RX11 yX11_colour yX11_colour ∈ wsL_law := wsL_of (List.mem_of_getElem? (i := 1619) (by decide +kernel)) rfl
theorem lq_73 : Cond.code yX11_colour cX11_colour 3 (some .int) ∈ wsL_law := wsL_of (List.mem_of_getElem? (i := 1620) (by decide +kernel)) rfl
theorem lq_74 : Cond.methodLink RL 53 yX10_often ∈ wsL_law := wsL_of (List.mem_of_getElem? (i := 805) (by decide +kernel)) rfl
theorem lq_75 : Cond.instanceMethod yX10_often ∈ wsL_law := wsL_of (List.mem_of_getElem? (i := 806) (by decide +kernel)) rfl
theorem lq_76 : Cond.selects RX10 yX10_often yX10_often ∈ wsL_law := wsL_of (List.mem_of_getElem? (i := 807) (by decide +kernel)) rfl
theorem lq_77 : Cond.code yX10_often cX10_often 3 (some .int) ∈ wsL_law := wsL_of (List.mem_of_getElem? (i := 808) (by decide +kernel)) rfl
theorem lq_78 : Cond.methodLink RL 56 yX11_often ∈ wsL_law := wsL_of (List.mem_of_getElem? (i := 1621) (by decide +kernel)) rfl
theorem lq_79 : Cond.instanceMethod yX11_often ∈ wsL_law := wsL_of (List.mem_of_getElem? (i := 1622) (by decide +kernel)) rfl
theorem lq_80 : Cond.selects RX11 yX11_often yX11_often ∈ wsL_law := wsL_of (List.mem_of_getElem? (i := 1623) (by decide +kernel)) rfl
theorem lq_81 : Cond.code yX11_often cX11_often 5 (some .int) ∈ wsL_law := wsL_of (List.mem_of_getElem? (i := 1624) (by decide +kernel)) rfl
theorem lq_82 : Cond.methodLink RL 57 yX10_heeds ∈ wsL_law := wsL_of (List.mem_of_getElem? (i := 819) (by decide +kernel)) rfl
theorem lq_83 : Cond.instanceMethod yX10_heeds ∈ wsL_law := wsL_of (List.mem_of_getElem? (i := 820) (by decide +kernel)) rfl
theorem lq_84 : Cond.selects RX10 yX10_heeds yX10_heeds ∈ wsL_law := wsL_of (List.mem_of_getElem? (i := 821) (by decide +kernel)) rfl
theorem lq_85 : Cond.code yX10_heeds cX10_heeds 4 (some .int) ∈ wsL_law := wsL_of (List.mem_of_getElem? (i := 822) (by decide +kernel)) rfl
theorem lq_86 : Cond.methodLink RL 60 yX11_heeds ∈ wsL_law := wsL_of (List.mem_of_getElem? (i := 1629) (by decide +kernel)) rfl
theorem lq_87 : Cond.instanceMethod yX11_heeds ∈ wsL_law := wsL_of (List.mem_of_getElem? (i := 1630) (by decide +kernel)) rfl
theorem lq_88 : Cond.selects RX11 yX11_heeds yX11_heeds ∈ wsL_law := wsL_of (List.mem_of_getElem? (i := 1631) (by decide +kernel)) rfl
theorem lq_89 : Cond.code yX11_heeds cX11_heeds 3 (some .int) ∈ wsL_law := wsL_of (List.mem_of_getElem? (i := 1632) (by decide +kernel)) rfl
theorem lq_90 : Cond.methodLink RL 61 yX10_heeded ∈ wsL_law := wsL_of (List.mem_of_getElem? (i := 841) (by decide +kernel)) rfl
theorem lq_91 : Cond.instanceMethod yX10_heeded ∈ wsL_law := wsL_of (List.mem_of_getElem? (i := 842) (by decide +kernel)) rfl
theorem lq_92 : Cond.selects RX10 yX10_heeded yX10_heeded ∈ wsL_law := wsL_of (List.mem_of_getElem? (i := 843) (by decide +kernel)) rfl
theorem lq_93 : Cond.code yX10_heeded cX10_heeded 4 (some .int) ∈ wsL_law := wsL_of (List.mem_of_getElem? (i := 844) (by decide +kernel)) rfl
theorem lq_94 : Cond.methodLink RL 64 yX11_heeded ∈ wsL_law := wsL_of (List.mem_of_getElem? (i := 1645) (by decide +kernel)) rfl
theorem lq_95 : Cond.instanceMethod yX11_heeded ∈ wsL_law := wsL_of (List.mem_of_getElem? (i := 1646) (by decide +kernel)) rfl
theorem lq_96 : Cond.selects RX11 yX11_heeded yX11_heeded ∈ wsL_law := wsL_of (List.mem_of_getElem? (i := 1647) (by decide +kernel)) rfl
theorem lq_97 : Cond.code yX11_heeded cX11_heeded 4 (some .int) ∈ wsL_law := wsL_of (List.mem_of_getElem? (i := 1648) (by decide +kernel)) rfl
theorem lq_98 : Cond.methodLink RL 65 yX10_fooled ∈ wsL_law := wsL_of (List.mem_of_getElem? (i := 845) (by decide +kernel)) rfl
theorem lq_99 : Cond.instanceMethod yX10_fooled ∈ wsL_law := wsL_of (List.mem_of_getElem? (i := 846) (by decide +kernel)) rfl
theorem lq_100 : Cond.selects RX10 yX10_fooled yX10_fooled ∈ wsL_law := wsL_of (List.mem_of_getElem? (i := 847) (by decide +kernel)) rfl
theorem lq_101 : Cond.code yX10_fooled cX10_fooled 4 (some .int) ∈ wsL_law := wsL_of (List.mem_of_getElem? (i := 848) (by decide +kernel)) rfl
theorem lq_102 : Cond.methodLink RL 68 yX11_fooled ∈ wsL_law := wsL_of (List.mem_of_getElem? (i := 1649) (by decide +kernel)) rfl
theorem lq_103 : Cond.instanceMethod yX11_fooled ∈ wsL_law := wsL_of (List.mem_of_getElem? (i := 1650) (by decide +kernel)) rfl
theorem lq_104 : Cond.selects RX11 yX11_fooled yX11_fooled ∈ wsL_law := wsL_of (List.mem_of_getElem? (i := 1651) (by decide +kernel)) rfl
theorem lq_105 : Cond.code yX11_fooled cX11_fooled 8 (some .int) ∈ wsL_law := wsL_of (List.mem_of_getElem? (i := 1652) (by decide +kernel)) rfl
theorem lq_106 : Cond.methodLink RL 69 yX10_right ∈ wsL_law := wsL_of (List.mem_of_getElem? (i := 854) (by decide +kernel)) rfl
theorem lq_107 : Cond.instanceMethod yX10_right ∈ wsL_law := wsL_of (List.mem_of_getElem? (i := 855) (by decide +kernel)) rfl
theorem lq_108 : Cond.selects RX10 yX10_right yX10_right ∈ wsL_law := wsL_of (List.mem_of_getElem? (i := 856) (by decide +kernel)) rfl
theorem lq_109 : Cond.code yX10_right cX10_right 2 (some .int) ∈ wsL_law := wsL_of (List.mem_of_getElem? (i := 857) (by decide +kernel)) rfl
theorem lq_110 : Cond.methodLink RL 72 yX11_right ∈ wsL_law := wsL_of (List.mem_of_getElem? (i := 1653) (by decide +kernel)) rfl
theorem lq_111 : Cond.instanceMethod yX11_right ∈ wsL_law := wsL_of (List.mem_of_getElem? (i := 1654) (by decide +kernel)) rfl
theorem lq_112 : Cond.selects RX11 yX11_right yX11_right ∈ wsL_law := wsL_of (List.mem_of_getElem? (i := 1655) (by decide +kernel)) rfl
theorem lq_113 : Cond.code yX11_right cX11_right 2 (some .int) ∈ wsL_law := wsL_of (List.mem_of_getElem? (i := 1656) (by decide +kernel)) rfl
theorem lq_114 : Cond.methodLink RL 73 yX10_lost ∈ wsL_law := wsL_of (List.mem_of_getElem? (i := 858) (by decide +kernel)) rfl
theorem lq_115 : Cond.instanceMethod yX10_lost ∈ wsL_law := wsL_of (List.mem_of_getElem? (i := 859) (by decide +kernel)) rfl
theorem lq_116 : Cond.selects RX10 yX10_lost yX10_lost ∈ wsL_law := wsL_of (List.mem_of_getElem? (i := 860) (by decide +kernel)) rfl
theorem lq_117 : Cond.code yX10_lost cX10_lost 3 (some .int) ∈ wsL_law := wsL_of (List.mem_of_getElem? (i := 861) (by decide +kernel)) rfl
theorem lq_118 : Cond.methodLink RL 76 yX11_lost ∈ wsL_law := wsL_of (List.mem_of_getElem? (i := 1661) (by decide +kernel)) rfl
theorem lq_119 : Cond.instanceMethod yX11_lost ∈ wsL_law := wsL_of (List.mem_of_getElem? (i := 1662) (by decide +kernel)) rfl
theorem lq_120 : Cond.selects RX11 yX11_lost yX11_lost ∈ wsL_law := wsL_of (List.mem_of_getElem? (i := 1663) (by decide +kernel)) rfl
theorem lq_121 : Cond.code yX11_lost cX11_lost 4 (some .int) ∈ wsL_law := wsL_of (List.mem_of_getElem? (i := 1664) (by decide +kernel)) rfl
theorem lq_122 : Cond.methodLink RL 77 yX10_exact ∈ wsL_law := wsL_of (List.mem_of_getElem? (i := 870) (by decide +kernel)) rfl
theorem lq_123 : Cond.instanceMethod yX10_exact ∈ wsL_law := wsL_of (List.mem_of_getElem? (i := 871) (by decide +kernel)) rfl
theorem lq_124 : Cond.selects RX10 yX10_exact yX10_exact ∈ wsL_law := wsL_of (List.mem_of_getElem? (i := 872) (by decide +kernel)) rfl
theorem lq_125 : Cond.code yX10_exact cX10_exact 2 (some .int) ∈ wsL_law := wsL_of (List.mem_of_getElem? (i := 873) (by decide +kernel)) rfl
theorem lq_126 : Cond.methodLink RL 80 yX11_exact ∈ wsL_law := wsL_of (List.mem_of_getElem? (i := 1673) (by decide +kernel)) rfl
theorem lq_127 : Cond.instanceMethod yX11_exact ∈ wsL_law := wsL_of (List.mem_of_getElem? (i := 1674) (by decide +kernel)) rfl
theorem lq_128 : Cond.selects RX11 yX11_exact yX11_exact ∈ wsL_law := wsL_of (List.mem_of_getElem? (i := 1675) (by decide +kernel)) rfl
theorem lq_129 : Cond.code yX11_exact cX11_exact 2 (some .int) ∈ wsL_law := wsL_of (List.mem_of_getElem? (i := 1676) (by decide +kernel)) rfl
theorem lq_130 : Cond.methodLink RL 81 yX10_alone ∈ wsL_law := wsL_of (List.mem_of_getElem? (i := 883) (by decide +kernel)) rfl
theorem lq_131 : Cond.instanceMethod yX10_alone ∈ wsL_law := wsL_of (List.mem_of_getElem? (i := 884) (by decide +kernel)) rfl
theorem lq_132 : Cond.selects RX10 yX10_alone yX10_alone ∈ wsL_law := wsL_of (List.mem_of_getElem? (i := 885) (by decide +kernel)) rfl
theorem lq_133 : Cond.code yX10_alone cX10_alone 2 (some .int) ∈ wsL_law := wsL_of (List.mem_of_getElem? (i := 886) (by decide +kernel)) rfl
theorem lq_134 : Cond.methodLink RL 84 yX11_alone ∈ wsL_law := wsL_of (List.mem_of_getElem? (i := 1686) (by decide +kernel)) rfl
theorem lq_135 : Cond.instanceMethod yX11_alone ∈ wsL_law := wsL_of (List.mem_of_getElem? (i := 1687) (by decide +kernel)) rfl
theorem lq_136 : Cond.selects RX11 yX11_alone yX11_alone ∈ wsL_law := wsL_of (List.mem_of_getElem? (i := 1688) (by decide +kernel)) rfl
theorem lq_137 : Cond.code yX11_alone cX11_alone 4 (some .int) ∈ wsL_law := wsL_of (List.mem_of_getElem? (i := 1689) (by decide +kernel)) rfl
theorem lq_138 : Cond.methodLink RL 85 yX10_both ∈ wsL_law := wsL_of (List.mem_of_getElem? (i := 887) (by decide +kernel)) rfl
theorem lq_139 : Cond.instanceMethod yX10_both ∈ wsL_law := wsL_of (List.mem_of_getElem? (i := 888) (by decide +kernel)) rfl
theorem lq_140 : Cond.selects RX10 yX10_both yX10_both ∈ wsL_law := wsL_of (List.mem_of_getElem? (i := 889) (by decide +kernel)) rfl
theorem lq_141 : Cond.code yX10_both cX10_both 4 (some .int) ∈ wsL_law := wsL_of (List.mem_of_getElem? (i := 890) (by decide +kernel)) rfl
theorem lq_142 : Cond.methodLink RL 88 yX11_both ∈ wsL_law := wsL_of (List.mem_of_getElem? (i := 1690) (by decide +kernel)) rfl
theorem lq_143 : Cond.instanceMethod yX11_both ∈ wsL_law := wsL_of (List.mem_of_getElem? (i := 1691) (by decide +kernel)) rfl
theorem lq_144 : Cond.selects RX11 yX11_both yX11_both ∈ wsL_law := wsL_of (List.mem_of_getElem? (i := 1692) (by decide +kernel)) rfl
theorem lq_145 : Cond.code yX11_both cX11_both 5 (some .int) ∈ wsL_law := wsL_of (List.mem_of_getElem? (i := 1693) (by decide +kernel)) rfl
theorem lq_146 : Cond.methodLink RL 89 yX10_without ∈ wsL_law := wsL_of (List.mem_of_getElem? (i := 895) (by decide +kernel)) rfl
theorem lq_147 : Cond.instanceMethod yX10_without ∈ wsL_law := wsL_of (List.mem_of_getElem? (i := 896) (by decide +kernel)) rfl
theorem lq_148 : Cond.selects RX10 yX10_without yX10_without ∈ wsL_law := wsL_of (List.mem_of_getElem? (i := 897) (by decide +kernel)) rfl
theorem lq_149 : Cond.code yX10_without cX10_without 2 (some .int) ∈ wsL_law := wsL_of (List.mem_of_getElem? (i := 898) (by decide +kernel)) rfl
theorem lq_150 : Cond.methodLink RL 92 yX11_without ∈ wsL_law := wsL_of (List.mem_of_getElem? (i := 1698) (by decide +kernel)) rfl
theorem lq_151 : Cond.instanceMethod yX11_without ∈ wsL_law := wsL_of (List.mem_of_getElem? (i := 1699) (by decide +kernel)) rfl
theorem lq_152 : Cond.selects RX11 yX11_without yX11_without ∈ wsL_law := wsL_of (List.mem_of_getElem? (i := 1700) (by decide +kernel)) rfl
theorem lq_153 : Cond.code yX11_without cX11_without 2 (some .int) ∈ wsL_law := wsL_of (List.mem_of_getElem? (i := 1701) (by decide +kernel)) rfl
theorem lq_154 : Cond.methodLink RL 93 yX10_together ∈ wsL_law := wsL_of (List.mem_of_getElem? (i := 907) (by decide +kernel)) rfl
theorem lq_155 : Cond.instanceMethod yX10_together ∈ wsL_law := wsL_of (List.mem_of_getElem? (i := 908) (by decide +kernel)) rfl
theorem lq_156 : Cond.selects RX10 yX10_together yX10_together ∈ wsL_law := wsL_of (List.mem_of_getElem? (i := 909) (by decide +kernel)) rfl
theorem lq_157 : Cond.code yX10_together cX10_together 2 (some .int) ∈ wsL_law := wsL_of (List.mem_of_getElem? (i := 910) (by decide +kernel)) rfl
theorem lq_158 : Cond.methodLink RL 96 yX11_together ∈ wsL_law := wsL_of (List.mem_of_getElem? (i := 1714) (by decide +kernel)) rfl
theorem lq_159 : Cond.instanceMethod yX11_together ∈ wsL_law := wsL_of (List.mem_of_getElem? (i := 1715) (by decide +kernel)) rfl
theorem lq_160 : Cond.selects RX11 yX11_together yX11_together ∈ wsL_law := wsL_of (List.mem_of_getElem? (i := 1716) (by decide +kernel)) rfl
theorem lq_161 : Cond.code yX11_together cX11_together 4 (some .int) ∈ wsL_law := wsL_of (List.mem_of_getElem? (i := 1717) (by decide +kernel)) rfl
theorem lq_162 : Cond.methodLink RL 97 yX10_crowd ∈ wsL_law := wsL_of (List.mem_of_getElem? (i := 911) (by decide +kernel)) rfl
theorem lq_163 : Cond.instanceMethod yX10_crowd ∈ wsL_law := wsL_of (List.mem_of_getElem? (i := 912) (by decide +kernel)) rfl
theorem lq_164 : Cond.selects RX10 yX10_crowd yX10_crowd ∈ wsL_law := wsL_of (List.mem_of_getElem? (i := 913) (by decide +kernel)) rfl
theorem lq_165 : Cond.code yX10_crowd cX10_crowd 3 (some .int) ∈ wsL_law := wsL_of (List.mem_of_getElem? (i := 914) (by decide +kernel)) rfl
theorem lq_166 : Cond.methodLink RL 100 yX11_crowd ∈ wsL_law := wsL_of (List.mem_of_getElem? (i := 1718) (by decide +kernel)) rfl
theorem lq_167 : Cond.instanceMethod yX11_crowd ∈ wsL_law := wsL_of (List.mem_of_getElem? (i := 1719) (by decide +kernel)) rfl
theorem lq_168 : Cond.selects RX11 yX11_crowd yX11_crowd ∈ wsL_law := wsL_of (List.mem_of_getElem? (i := 1720) (by decide +kernel)) rfl
theorem lq_169 : Cond.code yX11_crowd cX11_crowd 7 (some .int) ∈ wsL_law := wsL_of (List.mem_of_getElem? (i := 1721) (by decide +kernel)) rfl
theorem lq_170 : Cond.methodLink RL 101 yX10_twice ∈ wsL_law := wsL_of (List.mem_of_getElem? (i := 926) (by decide +kernel)) rfl
theorem lq_171 : Cond.instanceMethod yX10_twice ∈ wsL_law := wsL_of (List.mem_of_getElem? (i := 927) (by decide +kernel)) rfl
theorem lq_172 : Cond.selects RX10 yX10_twice yX10_twice ∈ wsL_law := wsL_of (List.mem_of_getElem? (i := 928) (by decide +kernel)) rfl
theorem lq_173 : Cond.code yX10_twice cX10_twice 1 (some .int) ∈ wsL_law := wsL_of (List.mem_of_getElem? (i := 929) (by decide +kernel)) rfl
theorem lq_174 : Cond.methodLink RL 104 yX11_twice ∈ wsL_law := wsL_of (List.mem_of_getElem? (i := 1723) (by decide +kernel)) rfl
theorem lq_175 : Cond.instanceMethod yX11_twice ∈ wsL_law := wsL_of (List.mem_of_getElem? (i := 1724) (by decide +kernel)) rfl
theorem lq_176 : Cond.selects RX11 yX11_twice yX11_twice ∈ wsL_law := wsL_of (List.mem_of_getElem? (i := 1725) (by decide +kernel)) rfl
theorem lq_177 : Cond.code yX11_twice cX11_twice 6 (some .int) ∈ wsL_law := wsL_of (List.mem_of_getElem? (i := 1726) (by decide +kernel)) rfl
theorem lq_178 : Cond.methodLink RL 105 yX10_blinded ∈ wsL_law := wsL_of (List.mem_of_getElem? (i := 938) (by decide +kernel)) rfl
theorem lq_179 : Cond.instanceMethod yX10_blinded ∈ wsL_law := wsL_of (List.mem_of_getElem? (i := 939) (by decide +kernel)) rfl
theorem lq_180 : Cond.selects RX10 yX10_blinded yX10_blinded ∈ wsL_law := wsL_of (List.mem_of_getElem? (i := 940) (by decide +kernel)) rfl
theorem lq_181 : Cond.code yX10_blinded cX10_blinded 4 (some .int) ∈ wsL_law := wsL_of (List.mem_of_getElem? (i := 941) (by decide +kernel)) rfl
theorem lq_182 : Cond.methodLink RL 108 yX11_blinded ∈ wsL_law := wsL_of (List.mem_of_getElem? (i := 1727) (by decide +kernel)) rfl
theorem lq_183 : Cond.instanceMethod yX11_blinded ∈ wsL_law := wsL_of (List.mem_of_getElem? (i := 1728) (by decide +kernel)) rfl
theorem lq_184 : Cond.selects RX11 yX11_blinded yX11_blinded ∈ wsL_law := wsL_of (List.mem_of_getElem? (i := 1729) (by decide +kernel)) rfl
theorem lq_185 : Cond.code yX11_blinded cX11_blinded 3 (some .int) ∈ wsL_law := wsL_of (List.mem_of_getElem? (i := 1730) (by decide +kernel)) rfl
theorem lq_186 : Cond.methodLink RL 109 yX10_weakest ∈ wsL_law := wsL_of (List.mem_of_getElem? (i := 946) (by decide +kernel)) rfl
theorem lq_187 : Cond.instanceMethod yX10_weakest ∈ wsL_law := wsL_of (List.mem_of_getElem? (i := 947) (by decide +kernel)) rfl
theorem lq_188 : Cond.selects RX10 yX10_weakest yX10_weakest ∈ wsL_law := wsL_of (List.mem_of_getElem? (i := 948) (by decide +kernel)) rfl
theorem lq_189 : Cond.code yX10_weakest cX10_weakest 7 (some .int) ∈ wsL_law := wsL_of (List.mem_of_getElem? (i := 949) (by decide +kernel)) rfl
theorem lq_190 : Cond.methodLink RL 113 yX11_weakest ∈ wsL_law := wsL_of (List.mem_of_getElem? (i := 1735) (by decide +kernel)) rfl
theorem lq_191 : Cond.instanceMethod yX11_weakest ∈ wsL_law := wsL_of (List.mem_of_getElem? (i := 1736) (by decide +kernel)) rfl
theorem lq_192 : Cond.selects RX11 yX11_weakest yX11_weakest ∈ wsL_law := wsL_of (List.mem_of_getElem? (i := 1737) (by decide +kernel)) rfl
theorem lq_193 : Cond.code yX11_weakest cX11_weakest 7 (some .int) ∈ wsL_law := wsL_of (List.mem_of_getElem? (i := 1738) (by decide +kernel)) rfl
theorem lq_194 : Cond.methodLink RL 114 yX10_needed ∈ wsL_law := wsL_of (List.mem_of_getElem? (i := 950) (by decide +kernel)) rfl
theorem lq_195 : Cond.instanceMethod yX10_needed ∈ wsL_law := wsL_of (List.mem_of_getElem? (i := 951) (by decide +kernel)) rfl
theorem lq_196 : Cond.selects RX10 yX10_needed yX10_needed ∈ wsL_law := wsL_of (List.mem_of_getElem? (i := 952) (by decide +kernel)) rfl
theorem lq_197 : Cond.code yX10_needed cX10_needed 1 (some .int) ∈ wsL_law := wsL_of (List.mem_of_getElem? (i := 953) (by decide +kernel)) rfl
theorem lq_198 : Cond.methodLink RL 117 yX11_needed ∈ wsL_law := wsL_of (List.mem_of_getElem? (i := 1739) (by decide +kernel)) rfl
theorem lq_199 : Cond.instanceMethod yX11_needed ∈ wsL_law := wsL_of (List.mem_of_getElem? (i := 1740) (by decide +kernel)) rfl
theorem lq_200 : Cond.selects RX11 yX11_needed yX11_needed ∈ wsL_law := wsL_of (List.mem_of_getElem? (i := 1741) (by decide +kernel)) rfl
theorem lq_201 : Cond.code yX11_needed cX11_needed 4 (some .int) ∈ wsL_law := wsL_of (List.mem_of_getElem? (i := 1742) (by decide +kernel)) rfl
theorem lq_202 : Cond.methodLink RL 118 yX10_known ∈ wsL_law := wsL_of (List.mem_of_getElem? (i := 960) (by decide +kernel)) rfl
theorem lq_203 : Cond.instanceMethod yX10_known ∈ wsL_law := wsL_of (List.mem_of_getElem? (i := 961) (by decide +kernel)) rfl
theorem lq_204 : Cond.selects RX10 yX10_known yX10_known ∈ wsL_law := wsL_of (List.mem_of_getElem? (i := 962) (by decide +kernel)) rfl
theorem lq_205 : Cond.code yX10_known cX10_known 3 (some .int) ∈ wsL_law := wsL_of (List.mem_of_getElem? (i := 963) (by decide +kernel)) rfl
theorem lq_206 : Cond.methodLink RL 121 yX11_known ∈ wsL_law := wsL_of (List.mem_of_getElem? (i := 1747) (by decide +kernel)) rfl
theorem lq_207 : Cond.instanceMethod yX11_known ∈ wsL_law := wsL_of (List.mem_of_getElem? (i := 1748) (by decide +kernel)) rfl
theorem lq_208 : Cond.selects RX11 yX11_known yX11_known ∈ wsL_law := wsL_of (List.mem_of_getElem? (i := 1749) (by decide +kernel)) rfl
theorem lq_209 : Cond.code yX11_known cX11_known 5 (some .int) ∈ wsL_law := wsL_of (List.mem_of_getElem? (i := 1750) (by decide +kernel)) rfl
theorem lq_210 : Cond.methodLink RL 122 yX10_nearest ∈ wsL_law := wsL_of (List.mem_of_getElem? (i := 968) (by decide +kernel)) rfl
theorem lq_211 : Cond.instanceMethod yX10_nearest ∈ wsL_law := wsL_of (List.mem_of_getElem? (i := 969) (by decide +kernel)) rfl
theorem lq_212 : Cond.selects RX10 yX10_nearest yX10_nearest ∈ wsL_law := wsL_of (List.mem_of_getElem? (i := 970) (by decide +kernel)) rfl
theorem lq_213 : Cond.code yX10_nearest cX10_nearest 4 (some .int) ∈ wsL_law := wsL_of (List.mem_of_getElem? (i := 971) (by decide +kernel)) rfl
theorem lq_214 : Cond.methodLink RL 125 yX11_nearest ∈ wsL_law := wsL_of (List.mem_of_getElem? (i := 1751) (by decide +kernel)) rfl
theorem lq_215 : Cond.instanceMethod yX11_nearest ∈ wsL_law := wsL_of (List.mem_of_getElem? (i := 1752) (by decide +kernel)) rfl
theorem lq_216 : Cond.selects RX11 yX11_nearest yX11_nearest ∈ wsL_law := wsL_of (List.mem_of_getElem? (i := 1753) (by decide +kernel)) rfl
theorem lq_217 : Cond.code yX11_nearest cX11_nearest 8 (some .int) ∈ wsL_law := wsL_of (List.mem_of_getElem? (i := 1754) (by decide +kernel)) rfl
theorem lq_218 : Cond.methodLink RL 126 yX10_atLeast ∈ wsL_law := wsL_of (List.mem_of_getElem? (i := 981) (by decide +kernel)) rfl
theorem lq_219 : Cond.instanceMethod yX10_atLeast ∈ wsL_law := wsL_of (List.mem_of_getElem? (i := 982) (by decide +kernel)) rfl
theorem lq_220 : Cond.selects RX10 yX10_atLeast yX10_atLeast ∈ wsL_law := wsL_of (List.mem_of_getElem? (i := 983) (by decide +kernel)) rfl
theorem lq_221 : Cond.code yX10_atLeast cX10_atLeast 2 (some .int) ∈ wsL_law := wsL_of (List.mem_of_getElem? (i := 984) (by decide +kernel)) rfl
theorem lq_222 : Cond.methodLink RL 129 yX11_atLeast ∈ wsL_law := wsL_of (List.mem_of_getElem? (i := 1682) (by decide +kernel)) rfl
theorem lq_223 : Cond.instanceMethod yX11_atLeast ∈ wsL_law := wsL_of (List.mem_of_getElem? (i := 1683) (by decide +kernel)) rfl
theorem lq_224 : Cond.selects RX11 yX11_atLeast yX11_atLeast ∈ wsL_law := wsL_of (List.mem_of_getElem? (i := 1684) (by decide +kernel)) rfl
theorem lq_225 : Cond.code yX11_atLeast cX11_atLeast 2 (some .int) ∈ wsL_law := wsL_of (List.mem_of_getElem? (i := 1685) (by decide +kernel)) rfl
theorem lq_226 : Cond.methodLink RL 130 yX10_acyclic ∈ wsL_law := wsL_of (List.mem_of_getElem? (i := 985) (by decide +kernel)) rfl
theorem lq_227 : Cond.instanceMethod yX10_acyclic ∈ wsL_law := wsL_of (List.mem_of_getElem? (i := 986) (by decide +kernel)) rfl
theorem lq_228 : Cond.selects RX10 yX10_acyclic yX10_acyclic ∈ wsL_law := wsL_of (List.mem_of_getElem? (i := 987) (by decide +kernel)) rfl
theorem lq_229 : Cond.code yX10_acyclic cX10_acyclic 1 (some .int) ∈ wsL_law := wsL_of (List.mem_of_getElem? (i := 988) (by decide +kernel)) rfl
theorem lq_230 : Cond.methodLink RL 133 yX11_acyclic ∈ wsL_law := wsL_of (List.mem_of_getElem? (i := 1755) (by decide +kernel)) rfl
theorem lq_231 : Cond.instanceMethod yX11_acyclic ∈ wsL_law := wsL_of (List.mem_of_getElem? (i := 1756) (by decide +kernel)) rfl
theorem lq_232 : Cond.selects RX11 yX11_acyclic yX11_acyclic ∈ wsL_law := wsL_of (List.mem_of_getElem? (i := 1757) (by decide +kernel)) rfl
theorem lq_233 : Cond.code yX11_acyclic cX11_acyclic 1 (some .int) ∈ wsL_law := wsL_of (List.mem_of_getElem? (i := 1758) (by decide +kernel)) rfl
theorem lq_234 : Cond.methodLink RL 134 yX10_always ∈ wsL_law := wsL_of (List.mem_of_getElem? (i := 997) (by decide +kernel)) rfl
theorem lq_235 : Cond.instanceMethod yX10_always ∈ wsL_law := wsL_of (List.mem_of_getElem? (i := 998) (by decide +kernel)) rfl
theorem lq_236 : Cond.selects RX10 yX10_always yX10_always ∈ wsL_law := wsL_of (List.mem_of_getElem? (i := 999) (by decide +kernel)) rfl
theorem lq_237 : Cond.code yX10_always cX10_always 3 (some .int) ∈ wsL_law := wsL_of (List.mem_of_getElem? (i := 1000) (by decide +kernel)) rfl
theorem lq_238 : Cond.methodLink RL 137 yX11_always ∈ wsL_law := wsL_of (List.mem_of_getElem? (i := 1767) (by decide +kernel)) rfl
theorem lq_239 : Cond.instanceMethod yX11_always ∈ wsL_law := wsL_of (List.mem_of_getElem? (i := 1768) (by decide +kernel)) rfl
theorem lq_240 : Cond.selects RX11 yX11_always yX11_always ∈ wsL_law := wsL_of (List.mem_of_getElem? (i := 1769) (by decide +kernel)) rfl
theorem lq_241 : Cond.code yX11_always cX11_always 3 (some .int) ∈ wsL_law := wsL_of (List.mem_of_getElem? (i := 1770) (by decide +kernel)) rfl
theorem lq_242 : Cond.methodLink RL 138 yX10_blind ∈ wsL_law := wsL_of (List.mem_of_getElem? (i := 1001) (by decide +kernel)) rfl
theorem lq_243 : Cond.instanceMethod yX10_blind ∈ wsL_law := wsL_of (List.mem_of_getElem? (i := 1002) (by decide +kernel)) rfl
theorem lq_244 : Cond.selects RX10 yX10_blind yX10_blind ∈ wsL_law := wsL_of (List.mem_of_getElem? (i := 1003) (by decide +kernel)) rfl
theorem lq_245 : Cond.code yX10_blind cX10_blind 1 (some .int) ∈ wsL_law := wsL_of (List.mem_of_getElem? (i := 1004) (by decide +kernel)) rfl
theorem lq_246 : Cond.methodLink RL 141 yX11_blind ∈ wsL_law := wsL_of (List.mem_of_getElem? (i := 1771) (by decide +kernel)) rfl
theorem lq_247 : Cond.instanceMethod yX11_blind ∈ wsL_law := wsL_of (List.mem_of_getElem? (i := 1772) (by decide +kernel)) rfl
theorem lq_248 : Cond.selects RX11 yX11_blind yX11_blind ∈ wsL_law := wsL_of (List.mem_of_getElem? (i := 1773) (by decide +kernel)) rfl
theorem lq_249 : Cond.code yX11_blind cX11_blind 3 (some .int) ∈ wsL_law := wsL_of (List.mem_of_getElem? (i := 1774) (by decide +kernel)) rfl
theorem lq_250 : Cond.methodLink RL 142 yX10_share ∈ wsL_law := wsL_of (List.mem_of_getElem? (i := 1013) (by decide +kernel)) rfl
theorem lq_251 : Cond.instanceMethod yX10_share ∈ wsL_law := wsL_of (List.mem_of_getElem? (i := 1014) (by decide +kernel)) rfl
theorem lq_252 : Cond.selects RX10 yX10_share yX10_share ∈ wsL_law := wsL_of (List.mem_of_getElem? (i := 1015) (by decide +kernel)) rfl
theorem lq_253 : Cond.code yX10_share cX10_share 5 (some .int) ∈ wsL_law := wsL_of (List.mem_of_getElem? (i := 1016) (by decide +kernel)) rfl
theorem lq_254 : Cond.methodLink RL 145 yX11_share ∈ wsL_law := wsL_of (List.mem_of_getElem? (i := 1779) (by decide +kernel)) rfl
theorem lq_255 : Cond.instanceMethod yX11_share ∈ wsL_law := wsL_of (List.mem_of_getElem? (i := 1780) (by decide +kernel)) rfl
theorem lq_256 : Cond.selects RX11 yX11_share yX11_share ∈ wsL_law := wsL_of (List.mem_of_getElem? (i := 1781) (by decide +kernel)) rfl
theorem lq_257 : Cond.code yX11_share cX11_share 4 (some .int) ∈ wsL_law := wsL_of (List.mem_of_getElem? (i := 1782) (by decide +kernel)) rfl
theorem lq_258 : Cond.methodLink RL 146 yX10_least ∈ wsL_law := wsL_of (List.mem_of_getElem? (i := 1024) (by decide +kernel)) rfl
theorem lq_259 : Cond.instanceMethod yX10_least ∈ wsL_law := wsL_of (List.mem_of_getElem? (i := 1025) (by decide +kernel)) rfl
theorem lq_260 : Cond.selects RX10 yX10_least yX10_least ∈ wsL_law := wsL_of (List.mem_of_getElem? (i := 1026) (by decide +kernel)) rfl
theorem lq_261 : Cond.code yX10_least cX10_least 3 (some .int) ∈ wsL_law := wsL_of (List.mem_of_getElem? (i := 1027) (by decide +kernel)) rfl
theorem lq_262 : Cond.methodLink RL 149 yX11_least ∈ wsL_law := wsL_of (List.mem_of_getElem? (i := 1790) (by decide +kernel)) rfl
theorem lq_263 : Cond.instanceMethod yX11_least ∈ wsL_law := wsL_of (List.mem_of_getElem? (i := 1791) (by decide +kernel)) rfl
theorem lq_264 : Cond.selects RX11 yX11_least yX11_least ∈ wsL_law := wsL_of (List.mem_of_getElem? (i := 1792) (by decide +kernel)) rfl
theorem lq_265 : Cond.code yX11_least cX11_least 3 (some .int) ∈ wsL_law := wsL_of (List.mem_of_getElem? (i := 1793) (by decide +kernel)) rfl
theorem lq_266 : Cond.methodLink RL 150 yX10_clique ∈ wsL_law := wsL_of (List.mem_of_getElem? (i := 1029) (by decide +kernel)) rfl
theorem lq_267 : Cond.instanceMethod yX10_clique ∈ wsL_law := wsL_of (List.mem_of_getElem? (i := 1030) (by decide +kernel)) rfl
theorem lq_268 : Cond.selects RX10 yX10_clique yX10_clique ∈ wsL_law := wsL_of (List.mem_of_getElem? (i := 1031) (by decide +kernel)) rfl
theorem lq_269 : Cond.code yX10_clique cX10_clique 1 (some .int) ∈ wsL_law := wsL_of (List.mem_of_getElem? (i := 1032) (by decide +kernel)) rfl
theorem lq_270 : Cond.methodLink RL 153 yX11_clique ∈ wsL_law := wsL_of (List.mem_of_getElem? (i := 1794) (by decide +kernel)) rfl
theorem lq_271 : Cond.instanceMethod yX11_clique ∈ wsL_law := wsL_of (List.mem_of_getElem? (i := 1795) (by decide +kernel)) rfl
theorem lq_272 : Cond.selects RX11 yX11_clique yX11_clique ∈ wsL_law := wsL_of (List.mem_of_getElem? (i := 1796) (by decide +kernel)) rfl
theorem lq_273 : Cond.code yX11_clique cX11_clique 3 (some .int) ∈ wsL_law := wsL_of (List.mem_of_getElem? (i := 1797) (by decide +kernel)) rfl
theorem lq_274 : Cond.methodLink RL 154 yX10_strongest ∈ wsL_law := wsL_of (List.mem_of_getElem? (i := 1041) (by decide +kernel)) rfl
theorem lq_275 : Cond.instanceMethod yX10_strongest ∈ wsL_law := wsL_of (List.mem_of_getElem? (i := 1042) (by decide +kernel)) rfl
theorem lq_276 : Cond.selects RX10 yX10_strongest yX10_strongest ∈ wsL_law := wsL_of (List.mem_of_getElem? (i := 1043) (by decide +kernel)) rfl
theorem lq_277 : Cond.code yX10_strongest cX10_strongest 1 (some .int) ∈ wsL_law := wsL_of (List.mem_of_getElem? (i := 1044) (by decide +kernel)) rfl
theorem lq_278 : Cond.methodLink RL 157 yX11_strongest ∈ wsL_law := wsL_of (List.mem_of_getElem? (i := 1802) (by decide +kernel)) rfl
theorem lq_279 : Cond.instanceMethod yX11_strongest ∈ wsL_law := wsL_of (List.mem_of_getElem? (i := 1803) (by decide +kernel)) rfl
theorem lq_280 : Cond.selects RX11 yX11_strongest yX11_strongest ∈ wsL_law := wsL_of (List.mem_of_getElem? (i := 1804) (by decide +kernel)) rfl
theorem lq_281 : Cond.code yX11_strongest cX11_strongest 3 (some .int) ∈ wsL_law := wsL_of (List.mem_of_getElem? (i := 1805) (by decide +kernel)) rfl
theorem lq_282 : Cond.methodLink RL 158 yX10_sure ∈ wsL_law := wsL_of (List.mem_of_getElem? (i := 1050) (by decide +kernel)) rfl
theorem lq_283 : Cond.instanceMethod yX10_sure ∈ wsL_law := wsL_of (List.mem_of_getElem? (i := 1051) (by decide +kernel)) rfl
theorem lq_284 : Cond.selects RX10 yX10_sure yX10_sure ∈ wsL_law := wsL_of (List.mem_of_getElem? (i := 1052) (by decide +kernel)) rfl
theorem lq_285 : Cond.code yX10_sure cX10_sure 1 (some .int) ∈ wsL_law := wsL_of (List.mem_of_getElem? (i := 1053) (by decide +kernel)) rfl
theorem lq_286 : Cond.methodLink RL 161 yX11_sure ∈ wsL_law := wsL_of (List.mem_of_getElem? (i := 1806) (by decide +kernel)) rfl
theorem lq_287 : Cond.instanceMethod yX11_sure ∈ wsL_law := wsL_of (List.mem_of_getElem? (i := 1807) (by decide +kernel)) rfl
theorem lq_288 : Cond.selects RX11 yX11_sure yX11_sure ∈ wsL_law := wsL_of (List.mem_of_getElem? (i := 1808) (by decide +kernel)) rfl
theorem lq_289 : Cond.code yX11_sure cX11_sure 3 (some .int) ∈ wsL_law := wsL_of (List.mem_of_getElem? (i := 1809) (by decide +kernel)) rfl
theorem lq_290 : Cond.methodLink RL 162 yX10_best ∈ wsL_law := wsL_of (List.mem_of_getElem? (i := 1058) (by decide +kernel)) rfl
theorem lq_291 : Cond.instanceMethod yX10_best ∈ wsL_law := wsL_of (List.mem_of_getElem? (i := 1059) (by decide +kernel)) rfl
theorem lq_292 : Cond.selects RX10 yX10_best yX10_best ∈ wsL_law := wsL_of (List.mem_of_getElem? (i := 1060) (by decide +kernel)) rfl
theorem lq_293 : Cond.code yX10_best cX10_best 2 (some .int) ∈ wsL_law := wsL_of (List.mem_of_getElem? (i := 1061) (by decide +kernel)) rfl
theorem lq_294 : Cond.methodLink RL 165 yX11_best ∈ wsL_law := wsL_of (List.mem_of_getElem? (i := 1810) (by decide +kernel)) rfl
theorem lq_295 : Cond.instanceMethod yX11_best ∈ wsL_law := wsL_of (List.mem_of_getElem? (i := 1811) (by decide +kernel)) rfl
theorem lq_296 : Cond.selects RX11 yX11_best yX11_best ∈ wsL_law := wsL_of (List.mem_of_getElem? (i := 1812) (by decide +kernel)) rfl
theorem lq_297 : Cond.code yX11_best cX11_best 2 (some .int) ∈ wsL_law := wsL_of (List.mem_of_getElem? (i := 1813) (by decide +kernel)) rfl
theorem lq_298 : Cond.methodLink RL 166 yX10_bestAt ∈ wsL_law := wsL_of (List.mem_of_getElem? (i := 1070) (by decide +kernel)) rfl
theorem lq_299 : Cond.instanceMethod yX10_bestAt ∈ wsL_law := wsL_of (List.mem_of_getElem? (i := 1071) (by decide +kernel)) rfl
theorem lq_300 : Cond.selects RX10 yX10_bestAt yX10_bestAt ∈ wsL_law := wsL_of (List.mem_of_getElem? (i := 1072) (by decide +kernel)) rfl
theorem lq_301 : Cond.code yX10_bestAt cX10_bestAt 3 (some .int) ∈ wsL_law := wsL_of (List.mem_of_getElem? (i := 1073) (by decide +kernel)) rfl
theorem lq_302 : Cond.methodLink RL 169 yX11_bestAt ∈ wsL_law := wsL_of (List.mem_of_getElem? (i := 1826) (by decide +kernel)) rfl
theorem lq_303 : Cond.instanceMethod yX11_bestAt ∈ wsL_law := wsL_of (List.mem_of_getElem? (i := 1827) (by decide +kernel)) rfl
theorem lq_304 : Cond.selects RX11 yX11_bestAt yX11_bestAt ∈ wsL_law := wsL_of (List.mem_of_getElem? (i := 1828) (by decide +kernel)) rfl
theorem lq_305 : Cond.code yX11_bestAt cX11_bestAt 3 (some .int) ∈ wsL_law := wsL_of (List.mem_of_getElem? (i := 1829) (by decide +kernel)) rfl
theorem lq_306 : Cond.methodLink RL 170 yX10_bettered ∈ wsL_law := wsL_of (List.mem_of_getElem? (i := 1074) (by decide +kernel)) rfl
theorem lq_307 : Cond.instanceMethod yX10_bettered ∈ wsL_law := wsL_of (List.mem_of_getElem? (i := 1075) (by decide +kernel)) rfl
theorem lq_308 : Cond.selects RX10 yX10_bettered yX10_bettered ∈ wsL_law := wsL_of (List.mem_of_getElem? (i := 1076) (by decide +kernel)) rfl
theorem lq_309 : Cond.code yX10_bettered cX10_bettered 5 (some .int) ∈ wsL_law := wsL_of (List.mem_of_getElem? (i := 1077) (by decide +kernel)) rfl
theorem lq_310 : Cond.methodLink RL 173 yX11_bettered ∈ wsL_law := wsL_of (List.mem_of_getElem? (i := 1830) (by decide +kernel)) rfl
theorem lq_311 : Cond.instanceMethod yX11_bettered ∈ wsL_law := wsL_of (List.mem_of_getElem? (i := 1831) (by decide +kernel)) rfl
theorem lq_312 : Cond.selects RX11 yX11_bettered yX11_bettered ∈ wsL_law := wsL_of (List.mem_of_getElem? (i := 1832) (by decide +kernel)) rfl
theorem lq_313 : Cond.code yX11_bettered cX11_bettered 5 (some .int) ∈ wsL_law := wsL_of (List.mem_of_getElem? (i := 1833) (by decide +kernel)) rfl
theorem lq_314 : Cond.methodLink RL 174 yX10_ways ∈ wsL_law := wsL_of (List.mem_of_getElem? (i := 1078) (by decide +kernel)) rfl
theorem lq_315 : Cond.instanceMethod yX10_ways ∈ wsL_law := wsL_of (List.mem_of_getElem? (i := 1079) (by decide +kernel)) rfl
theorem lq_316 : Cond.selects RX10 yX10_ways yX10_ways ∈ wsL_law := wsL_of (List.mem_of_getElem? (i := 1080) (by decide +kernel)) rfl
theorem lq_317 : Cond.code yX10_ways cX10_ways 2 (some .int) ∈ wsL_law := wsL_of (List.mem_of_getElem? (i := 1081) (by decide +kernel)) rfl
theorem lq_318 : Cond.methodLink RL 177 yX11_ways ∈ wsL_law := wsL_of (List.mem_of_getElem? (i := 1834) (by decide +kernel)) rfl
theorem lq_319 : Cond.instanceMethod yX11_ways ∈ wsL_law := wsL_of (List.mem_of_getElem? (i := 1835) (by decide +kernel)) rfl
theorem lq_320 : Cond.selects RX11 yX11_ways yX11_ways ∈ wsL_law := wsL_of (List.mem_of_getElem? (i := 1836) (by decide +kernel)) rfl
theorem lq_321 : Cond.code yX11_ways cX11_ways 4 (some .int) ∈ wsL_law := wsL_of (List.mem_of_getElem? (i := 1837) (by decide +kernel)) rfl
theorem lq_322 : Cond.methodLink RL 178 yX10_search ∈ wsL_law := wsL_of (List.mem_of_getElem? (i := 1126) (by decide +kernel)) rfl
theorem lq_323 : Cond.instanceMethod yX10_search ∈ wsL_law := wsL_of (List.mem_of_getElem? (i := 1127) (by decide +kernel)) rfl
theorem lq_324 : Cond.selects RX10 yX10_search yX10_search ∈ wsL_law := wsL_of (List.mem_of_getElem? (i := 1128) (by decide +kernel)) rfl
theorem lq_325 : Cond.code yX10_search cX10_search 7 (some .int) ∈ wsL_law := wsL_of (List.mem_of_getElem? (i := 1129) (by decide +kernel)) rfl
theorem lq_326 : Cond.methodLink RL 182 yX11_search ∈ wsL_law := wsL_of (List.mem_of_getElem? (i := 1855) (by decide +kernel)) rfl
theorem lq_327 : Cond.instanceMethod yX11_search ∈ wsL_law := wsL_of (List.mem_of_getElem? (i := 1856) (by decide +kernel)) rfl
theorem lq_328 : Cond.selects RX11 yX11_search yX11_search ∈ wsL_law := wsL_of (List.mem_of_getElem? (i := 1857) (by decide +kernel)) rfl
theorem lq_329 : Cond.code yX11_search cX11_search 9 (some .int) ∈ wsL_law := wsL_of (List.mem_of_getElem? (i := 1858) (by decide +kernel)) rfl
theorem lq_330 : Cond.methodLink RL 183 yX10_renumber ∈ wsL_law := wsL_of (List.mem_of_getElem? (i := 1158) (by decide +kernel)) rfl
theorem lq_331 : Cond.instanceMethod yX10_renumber ∈ wsL_law := wsL_of (List.mem_of_getElem? (i := 1159) (by decide +kernel)) rfl
theorem lq_332 : Cond.selects RX10 yX10_renumber yX10_renumber ∈ wsL_law := wsL_of (List.mem_of_getElem? (i := 1160) (by decide +kernel)) rfl
theorem lq_333 : Cond.code yX10_renumber cX10_renumber 2 (some .int) ∈ wsL_law := wsL_of (List.mem_of_getElem? (i := 1161) (by decide +kernel)) rfl
theorem lq_334 : Cond.methodLink RL 186 yX11_renumber ∈ wsL_law := wsL_of (List.mem_of_getElem? (i := 1875) (by decide +kernel)) rfl
theorem lq_335 : Cond.instanceMethod yX11_renumber ∈ wsL_law := wsL_of (List.mem_of_getElem? (i := 1876) (by decide +kernel)) rfl
theorem lq_336 : Cond.selects RX11 yX11_renumber yX11_renumber ∈ wsL_law := wsL_of (List.mem_of_getElem? (i := 1877) (by decide +kernel)) rfl
theorem lq_337 : Cond.code yX11_renumber cX11_renumber 2 (some .int) ∈ wsL_law := wsL_of (List.mem_of_getElem? (i := 1878) (by decide +kernel)) rfl
theorem lq_338 : Cond.methodLink RL 187 yX10_alike ∈ wsL_law := wsL_of (List.mem_of_getElem? (i := 1198) (by decide +kernel)) rfl
theorem lq_339 : Cond.instanceMethod yX10_alike ∈ wsL_law := wsL_of (List.mem_of_getElem? (i := 1199) (by decide +kernel)) rfl
theorem lq_340 : Cond.selects RX10 yX10_alike yX10_alike ∈ wsL_law := wsL_of (List.mem_of_getElem? (i := 1200) (by decide +kernel)) rfl
theorem lq_341 : Cond.code yX10_alike cX10_alike 4 (some .int) ∈ wsL_law := wsL_of (List.mem_of_getElem? (i := 1201) (by decide +kernel)) rfl
theorem lq_342 : Cond.methodLink RL 190 yX11_alike ∈ wsL_law := wsL_of (List.mem_of_getElem? (i := 1891) (by decide +kernel)) rfl
theorem lq_343 : Cond.instanceMethod yX11_alike ∈ wsL_law := wsL_of (List.mem_of_getElem? (i := 1892) (by decide +kernel)) rfl
theorem lq_344 : Cond.selects RX11 yX11_alike yX11_alike ∈ wsL_law := wsL_of (List.mem_of_getElem? (i := 1893) (by decide +kernel)) rfl
theorem lq_345 : Cond.code yX11_alike cX11_alike 4 (some .int) ∈ wsL_law := wsL_of (List.mem_of_getElem? (i := 1894) (by decide +kernel)) rfl
theorem lq_346 : Cond.methodLink RL 191 yX10_far ∈ wsL_law := wsL_of (List.mem_of_getElem? (i := 1206) (by decide +kernel)) rfl
theorem lq_347 : Cond.instanceMethod yX10_far ∈ wsL_law := wsL_of (List.mem_of_getElem? (i := 1207) (by decide +kernel)) rfl
theorem lq_348 : Cond.selects RX10 yX10_far yX10_far ∈ wsL_law := wsL_of (List.mem_of_getElem? (i := 1208) (by decide +kernel)) rfl
theorem lq_349 : Cond.code yX10_far cX10_far 4 (some .int) ∈ wsL_law := wsL_of (List.mem_of_getElem? (i := 1209) (by decide +kernel)) rfl
theorem lq_350 : Cond.methodLink RL 194 yX11_far ∈ wsL_law := wsL_of (List.mem_of_getElem? (i := 1895) (by decide +kernel)) rfl
theorem lq_351 : Cond.instanceMethod yX11_far ∈ wsL_law := wsL_of (List.mem_of_getElem? (i := 1896) (by decide +kernel)) rfl
theorem lq_352 : Cond.selects RX11 yX11_far yX11_far ∈ wsL_law := wsL_of (List.mem_of_getElem? (i := 1897) (by decide +kernel)) rfl
theorem lq_353 : Cond.code yX11_far cX11_far 7 (some .int) ∈ wsL_law := wsL_of (List.mem_of_getElem? (i := 1898) (by decide +kernel)) rfl
theorem lq_354 : Cond.methodLink RL 195 yX10_shape ∈ wsL_law := wsL_of (List.mem_of_getElem? (i := 1214) (by decide +kernel)) rfl
theorem lq_355 : Cond.instanceMethod yX10_shape ∈ wsL_law := wsL_of (List.mem_of_getElem? (i := 1215) (by decide +kernel)) rfl
theorem lq_356 : Cond.selects RX10 yX10_shape yX10_shape ∈ wsL_law := wsL_of (List.mem_of_getElem? (i := 1216) (by decide +kernel)) rfl
theorem lq_357 : Cond.code yX10_shape cX10_shape 1 (some .int) ∈ wsL_law := wsL_of (List.mem_of_getElem? (i := 1217) (by decide +kernel)) rfl
theorem lq_358 : Cond.methodLink RL 198 yX11_shape ∈ wsL_law := wsL_of (List.mem_of_getElem? (i := 1907) (by decide +kernel)) rfl
theorem lq_359 : Cond.instanceMethod yX11_shape ∈ wsL_law := wsL_of (List.mem_of_getElem? (i := 1908) (by decide +kernel)) rfl
theorem lq_360 : Cond.selects RX11 yX11_shape yX11_shape ∈ wsL_law := wsL_of (List.mem_of_getElem? (i := 1909) (by decide +kernel)) rfl
theorem lq_361 : Cond.code yX11_shape cX11_shape 1 (some .int) ∈ wsL_law := wsL_of (List.mem_of_getElem? (i := 1910) (by decide +kernel)) rfl
theorem lq_362 : Cond.methodLink RL 199 yX10_hub ∈ wsL_law := wsL_of (List.mem_of_getElem? (i := 1243) (by decide +kernel)) rfl
theorem lq_363 : Cond.instanceMethod yX10_hub ∈ wsL_law := wsL_of (List.mem_of_getElem? (i := 1244) (by decide +kernel)) rfl
theorem lq_364 : Cond.selects RX10 yX10_hub yX10_hub ∈ wsL_law := wsL_of (List.mem_of_getElem? (i := 1245) (by decide +kernel)) rfl
theorem lq_365 : Cond.code yX10_hub cX10_hub 2 (some .int) ∈ wsL_law := wsL_of (List.mem_of_getElem? (i := 1246) (by decide +kernel)) rfl
theorem lq_366 : Cond.methodLink RL 202 yX11_hub ∈ wsL_law := wsL_of (List.mem_of_getElem? (i := 1923) (by decide +kernel)) rfl
theorem lq_367 : Cond.instanceMethod yX11_hub ∈ wsL_law := wsL_of (List.mem_of_getElem? (i := 1924) (by decide +kernel)) rfl
theorem lq_368 : Cond.selects RX11 yX11_hub yX11_hub ∈ wsL_law := wsL_of (List.mem_of_getElem? (i := 1925) (by decide +kernel)) rfl
theorem lq_369 : Cond.code yX11_hub cX11_hub 2 (some .int) ∈ wsL_law := wsL_of (List.mem_of_getElem? (i := 1926) (by decide +kernel)) rfl
theorem lq_370 : Cond.methodLink RL 203 yX10_part ∈ wsL_law := wsL_of (List.mem_of_getElem? (i := 1248) (by decide +kernel)) rfl
theorem lq_371 : Cond.instanceMethod yX10_part ∈ wsL_law := wsL_of (List.mem_of_getElem? (i := 1249) (by decide +kernel)) rfl
theorem lq_372 : Cond.selects RX10 yX10_part yX10_part ∈ wsL_law := wsL_of (List.mem_of_getElem? (i := 1250) (by decide +kernel)) rfl
theorem lq_373 : Cond.code yX10_part cX10_part 2 (some .int) ∈ wsL_law := wsL_of (List.mem_of_getElem? (i := 1251) (by decide +kernel)) rfl
theorem lq_374 : Cond.methodLink RL 206 yX11_part ∈ wsL_law := wsL_of (List.mem_of_getElem? (i := 1899) (by decide +kernel)) rfl
theorem lq_375 : Cond.instanceMethod yX11_part ∈ wsL_law := wsL_of (List.mem_of_getElem? (i := 1900) (by decide +kernel)) rfl
theorem lq_376 : Cond.selects RX11 yX11_part yX11_part ∈ wsL_law := wsL_of (List.mem_of_getElem? (i := 1901) (by decide +kernel)) rfl
theorem lq_377 : Cond.code yX11_part cX11_part 2 (some .int) ∈ wsL_law := wsL_of (List.mem_of_getElem? (i := 1902) (by decide +kernel)) rfl
theorem lq_378 : Cond.methodLink RL 207 yX10_set ∈ wsL_law := wsL_of (List.mem_of_getElem? (i := 1254) (by decide +kernel)) rfl
theorem lq_379 : Cond.instanceMethod yX10_set ∈ wsL_law := wsL_of (List.mem_of_getElem? (i := 1255) (by decide +kernel)) rfl
theorem lq_380 : Cond.selects RX10 yX10_set yX10_set ∈ wsL_law := wsL_of (List.mem_of_getElem? (i := 1256) (by decide +kernel)) rfl
theorem lq_381 : Cond.code yX10_set cX10_set 4 (some .int) ∈ wsL_law := wsL_of (List.mem_of_getElem? (i := 1257) (by decide +kernel)) rfl
theorem lq_382 : Cond.methodLink RL 210 yX11_set ∈ wsL_law := wsL_of (List.mem_of_getElem? (i := 1927) (by decide +kernel)) rfl
theorem lq_383 : Cond.instanceMethod yX11_set ∈ wsL_law := wsL_of (List.mem_of_getElem? (i := 1928) (by decide +kernel)) rfl
theorem lq_384 : Cond.selects RX11 yX11_set yX11_set ∈ wsL_law := wsL_of (List.mem_of_getElem? (i := 1929) (by decide +kernel)) rfl
theorem lq_385 : Cond.code yX11_set cX11_set 4 (some .int) ∈ wsL_law := wsL_of (List.mem_of_getElem? (i := 1930) (by decide +kernel)) rfl
theorem lq_386 : Cond.methodLink RL 211 yX10_take ∈ wsL_law := wsL_of (List.mem_of_getElem? (i := 1270) (by decide +kernel)) rfl
theorem lq_387 : Cond.instanceMethod yX10_take ∈ wsL_law := wsL_of (List.mem_of_getElem? (i := 1271) (by decide +kernel)) rfl
theorem lq_388 : Cond.selects RX10 yX10_take yX10_take ∈ wsL_law := wsL_of (List.mem_of_getElem? (i := 1272) (by decide +kernel)) rfl
theorem lq_389 : Cond.code yX10_take cX10_take 3 (some .int) ∈ wsL_law := wsL_of (List.mem_of_getElem? (i := 1273) (by decide +kernel)) rfl
theorem lq_390 : Cond.methodLink RL 214 yX11_take ∈ wsL_law := wsL_of (List.mem_of_getElem? (i := 1935) (by decide +kernel)) rfl
theorem lq_391 : Cond.instanceMethod yX11_take ∈ wsL_law := wsL_of (List.mem_of_getElem? (i := 1936) (by decide +kernel)) rfl
theorem lq_392 : Cond.selects RX11 yX11_take yX11_take ∈ wsL_law := wsL_of (List.mem_of_getElem? (i := 1937) (by decide +kernel)) rfl
theorem lq_393 : Cond.code yX11_take cX11_take 3 (some .int) ∈ wsL_law := wsL_of (List.mem_of_getElem? (i := 1938) (by decide +kernel)) rfl
theorem lq_394 : Cond.methodLink RL 215 yX10_better ∈ wsL_law := wsL_of (List.mem_of_getElem? (i := 1275) (by decide +kernel)) rfl
theorem lq_395 : Cond.instanceMethod yX10_better ∈ wsL_law := wsL_of (List.mem_of_getElem? (i := 1276) (by decide +kernel)) rfl
theorem lq_396 : Cond.selects RX10 yX10_better yX10_better ∈ wsL_law := wsL_of (List.mem_of_getElem? (i := 1277) (by decide +kernel)) rfl
theorem lq_397 : Cond.code yX10_better cX10_better 2 (some .int) ∈ wsL_law := wsL_of (List.mem_of_getElem? (i := 1278) (by decide +kernel)) rfl
theorem lq_398 : Cond.methodLink RL 218 yX11_better ∈ wsL_law := wsL_of (List.mem_of_getElem? (i := 1943) (by decide +kernel)) rfl
theorem lq_399 : Cond.instanceMethod yX11_better ∈ wsL_law := wsL_of (List.mem_of_getElem? (i := 1944) (by decide +kernel)) rfl
theorem lq_400 : Cond.selects RX11 yX11_better yX11_better ∈ wsL_law := wsL_of (List.mem_of_getElem? (i := 1945) (by decide +kernel)) rfl
theorem lq_401 : Cond.code yX11_better cX11_better 2 (some .int) ∈ wsL_law := wsL_of (List.mem_of_getElem? (i := 1946) (by decide +kernel)) rfl
theorem lq_402 : Cond.methodLink RL 219 yX10_build ∈ wsL_law := wsL_of (List.mem_of_getElem? (i := 1279) (by decide +kernel)) rfl
theorem lq_403 : Cond.instanceMethod yX10_build ∈ wsL_law := wsL_of (List.mem_of_getElem? (i := 1280) (by decide +kernel)) rfl
theorem lq_404 : Cond.selects RX10 yX10_build yX10_build ∈ wsL_law := wsL_of (List.mem_of_getElem? (i := 1281) (by decide +kernel)) rfl
theorem lq_405 : Cond.code yX10_build cX10_build 2 (some .int) ∈ wsL_law := wsL_of (List.mem_of_getElem? (i := 1282) (by decide +kernel)) rfl
theorem lq_406 : Cond.methodLink RL 222 yX11_build ∈ wsL_law := wsL_of (List.mem_of_getElem? (i := 1947) (by decide +kernel)) rfl
theorem lq_407 : Cond.instanceMethod yX11_build ∈ wsL_law := wsL_of (List.mem_of_getElem? (i := 1948) (by decide +kernel)) rfl
theorem lq_408 : Cond.selects RX11 yX11_build yX11_build ∈ wsL_law := wsL_of (List.mem_of_getElem? (i := 1949) (by decide +kernel)) rfl
theorem lq_409 : Cond.code yX11_build cX11_build 6 (some .int) ∈ wsL_law := wsL_of (List.mem_of_getElem? (i := 1950) (by decide +kernel)) rfl
theorem lq_410 : Cond.methodLink RL 223 yX10_rename ∈ wsL_law := wsL_of (List.mem_of_getElem? (i := 1301) (by decide +kernel)) rfl
theorem lq_411 : Cond.instanceMethod yX10_rename ∈ wsL_law := wsL_of (List.mem_of_getElem? (i := 1302) (by decide +kernel)) rfl
theorem lq_412 : Cond.selects RX10 yX10_rename yX10_rename ∈ wsL_law := wsL_of (List.mem_of_getElem? (i := 1303) (by decide +kernel)) rfl
theorem lq_413 : Cond.code yX10_rename cX10_rename 5 (some .int) ∈ wsL_law := wsL_of (List.mem_of_getElem? (i := 1304) (by decide +kernel)) rfl
theorem lq_414 : Cond.methodLink RL 226 yX11_rename ∈ wsL_law := wsL_of (List.mem_of_getElem? (i := 1959) (by decide +kernel)) rfl
theorem lq_415 : Cond.instanceMethod yX11_rename ∈ wsL_law := wsL_of (List.mem_of_getElem? (i := 1960) (by decide +kernel)) rfl
theorem lq_416 : Cond.selects RX11 yX11_rename yX11_rename ∈ wsL_law := wsL_of (List.mem_of_getElem? (i := 1961) (by decide +kernel)) rfl
theorem lq_417 : Cond.code yX11_rename cX11_rename 6 (some .int) ∈ wsL_law := wsL_of (List.mem_of_getElem? (i := 1962) (by decide +kernel)) rfl
theorem lq_418 : Cond.methodLink RL 227 yX10_see ∈ wsL_law := wsL_of (List.mem_of_getElem? (i := 1315) (by decide +kernel)) rfl
theorem lq_419 : Cond.instanceMethod yX10_see ∈ wsL_law := wsL_of (List.mem_of_getElem? (i := 1316) (by decide +kernel)) rfl
theorem lq_420 : Cond.selects RX10 yX10_see yX10_see ∈ wsL_law := wsL_of (List.mem_of_getElem? (i := 1317) (by decide +kernel)) rfl
theorem lq_421 : Cond.code yX10_see cX10_see 5 (some .int) ∈ wsL_law := wsL_of (List.mem_of_getElem? (i := 1318) (by decide +kernel)) rfl
theorem lq_422 : Cond.methodLink RL 231 yX11_see ∈ wsL_law := wsL_of (List.mem_of_getElem? (i := 1966) (by decide +kernel)) rfl
theorem lq_423 : Cond.instanceMethod yX11_see ∈ wsL_law := wsL_of (List.mem_of_getElem? (i := 1967) (by decide +kernel)) rfl
theorem lq_424 : Cond.selects RX11 yX11_see yX11_see ∈ wsL_law := wsL_of (List.mem_of_getElem? (i := 1968) (by decide +kernel)) rfl
theorem lq_425 : Cond.code yX11_see cX11_see 8 (some .int) ∈ wsL_law := wsL_of (List.mem_of_getElem? (i := 1969) (by decide +kernel)) rfl
theorem lq_426 : Cond.methodLink RL 232 yX10_shuffle ∈ wsL_law := wsL_of (List.mem_of_getElem? (i := 1328) (by decide +kernel)) rfl
theorem lq_427 : Cond.instanceMethod yX10_shuffle ∈ wsL_law := wsL_of (List.mem_of_getElem? (i := 1329) (by decide +kernel)) rfl
theorem lq_428 : Cond.selects RX10 yX10_shuffle yX10_shuffle ∈ wsL_law := wsL_of (List.mem_of_getElem? (i := 1330) (by decide +kernel)) rfl
theorem lq_429 : Cond.code yX10_shuffle cX10_shuffle 2 (some .int) ∈ wsL_law := wsL_of (List.mem_of_getElem? (i := 1331) (by decide +kernel)) rfl
theorem lq_430 : Cond.methodLink RL 235 yX11_shuffle ∈ wsL_law := wsL_of (List.mem_of_getElem? (i := 1970) (by decide +kernel)) rfl
theorem lq_431 : Cond.instanceMethod yX11_shuffle ∈ wsL_law := wsL_of (List.mem_of_getElem? (i := 1971) (by decide +kernel)) rfl
theorem lq_432 : Cond.selects RX11 yX11_shuffle yX11_shuffle ∈ wsL_law := wsL_of (List.mem_of_getElem? (i := 1972) (by decide +kernel)) rfl
theorem lq_433 : Cond.code yX11_shuffle cX11_shuffle 2 (some .int) ∈ wsL_law := wsL_of (List.mem_of_getElem? (i := 1973) (by decide +kernel)) rfl
theorem lq_434 : Cond.methodLink RL 236 yX10_undo ∈ wsL_law := wsL_of (List.mem_of_getElem? (i := 1332) (by decide +kernel)) rfl
theorem lq_435 : Cond.instanceMethod yX10_undo ∈ wsL_law := wsL_of (List.mem_of_getElem? (i := 1333) (by decide +kernel)) rfl
theorem lq_436 : Cond.selects RX10 yX10_undo yX10_undo ∈ wsL_law := wsL_of (List.mem_of_getElem? (i := 1334) (by decide +kernel)) rfl
theorem lq_437 : Cond.code yX10_undo cX10_undo 1 (some .int) ∈ wsL_law := wsL_of (List.mem_of_getElem? (i := 1335) (by decide +kernel)) rfl
theorem lq_438 : Cond.methodLink RL 239 yX11_undo ∈ wsL_law := wsL_of (List.mem_of_getElem? (i := 1974) (by decide +kernel)) rfl
theorem lq_439 : Cond.instanceMethod yX11_undo ∈ wsL_law := wsL_of (List.mem_of_getElem? (i := 1975) (by decide +kernel)) rfl
theorem lq_440 : Cond.selects RX11 yX11_undo yX11_undo ∈ wsL_law := wsL_of (List.mem_of_getElem? (i := 1976) (by decide +kernel)) rfl
theorem lq_441 : Cond.code yX11_undo cX11_undo 2 (some .int) ∈ wsL_law := wsL_of (List.mem_of_getElem? (i := 1977) (by decide +kernel)) rfl
theorem lq_442 : Cond.methodLink RL 240 yX10_print ∈ wsL_law := wsL_of (List.mem_of_getElem? (i := 1340) (by decide +kernel)) rfl
theorem lq_443 : Cond.instanceMethod yX10_print ∈ wsL_law := wsL_of (List.mem_of_getElem? (i := 1341) (by decide +kernel)) rfl
theorem lq_444 : Cond.selects RX10 yX10_print yX10_print ∈ wsL_law := wsL_of (List.mem_of_getElem? (i := 1342) (by decide +kernel)) rfl
theorem lq_445 : Cond.code yX10_print cX10_print 1 (some .int) ∈ wsL_law := wsL_of (List.mem_of_getElem? (i := 1343) (by decide +kernel)) rfl
theorem lq_446 : Cond.methodLink RL 243 yX11_print ∈ wsL_law := wsL_of (List.mem_of_getElem? (i := 1978) (by decide +kernel)) rfl
theorem lq_447 : Cond.instanceMethod yX11_print ∈ wsL_law := wsL_of (List.mem_of_getElem? (i := 1979) (by decide +kernel)) rfl
theorem lq_448 : Cond.selects RX11 yX11_print yX11_print ∈ wsL_law := wsL_of (List.mem_of_getElem? (i := 1980) (by decide +kernel)) rfl
theorem lq_449 : Cond.code yX11_print cX11_print 2 (some .int) ∈ wsL_law := wsL_of (List.mem_of_getElem? (i := 1981) (by decide +kernel)) rfl
theorem lq_450 : Cond.methodLink RL 244 yX10_out ∈ wsL_law := wsL_of (List.mem_of_getElem? (i := 1382) (by decide +kernel)) rfl
theorem lq_451 : Cond.instanceMethod yX10_out ∈ wsL_law := wsL_of (List.mem_of_getElem? (i := 1383) (by decide +kernel)) rfl
theorem lq_452 : Cond.selects RX10 yX10_out yX10_out ∈ wsL_law := wsL_of (List.mem_of_getElem? (i := 1384) (by decide +kernel)) rfl
theorem lq_453 : Cond.code yX10_out cX10_out 2 (some .int) ∈ wsL_law := wsL_of (List.mem_of_getElem? (i := 1385) (by decide +kernel)) rfl
theorem lq_454 : Cond.methodLink RL 247 yX11_out ∈ wsL_law := wsL_of (List.mem_of_getElem? (i := 2009) (by decide +kernel)) rfl
theorem lq_455 : Cond.instanceMethod yX11_out ∈ wsL_law := wsL_of (List.mem_of_getElem? (i := 2010) (by decide +kernel)) rfl
theorem lq_456 : Cond.selects RX11 yX11_out yX11_out ∈ wsL_law := wsL_of (List.mem_of_getElem? (i := 2011) (by decide +kernel)) rfl
theorem lq_457 : Cond.code yX11_out cX11_out 2 (some .int) ∈ wsL_law := wsL_of (List.mem_of_getElem? (i := 2012) (by decide +kernel)) rfl
theorem lk_13 : kwV RL 13 RX10 yX10_status cX10_status 1 (some .int) 0 := ⟨⟨lq_0, lq_1, lq_2, lq_3, lq_4⟩, by decide +kernel⟩
theorem lk_17 : kwV RL 17 RX11 yX11_status cX11_status 1 (some .int) 0 := ⟨⟨lq_5, lq_6, lq_7, lq_8, lq_9⟩, by decide +kernel⟩
theorem lk_18 : kwV RL 18 RX10 yX10_feed cX10_feed 6 (some .int) 5 := ⟨⟨lq_10, lq_11, lq_12, lq_3, lq_13⟩, by decide +kernel⟩
theorem lk_22 : kwV RL 22 RX11 yX11_feed cX11_feed 6 (some .int) 5 := ⟨⟨lq_14, lq_15, lq_16, lq_8, lq_17⟩, by decide +kernel⟩
theorem lk_23 : kwV RL 23 RX10 yX10_load cX10_load 3 (some .int) 1 := ⟨⟨lq_18, lq_19, lq_20, lq_3, lq_21⟩, by decide +kernel⟩
theorem lk_27 : kwV RL 27 RX11 yX11_load cX11_load 3 (some .int) 1 := ⟨⟨lq_22, lq_23, lq_24, lq_8, lq_25⟩, by decide +kernel⟩
theorem lk_28 : kwV RL 28 RX10 yX10_fault cX10_fault 2 (some .int) 1 := ⟨⟨lq_26, lq_27, lq_28, lq_3, lq_29⟩, by decide +kernel⟩
theorem lk_31 : kwV RL 31 RX11 yX11_fault cX11_fault 2 (some .int) 1 := ⟨⟨lq_30, lq_31, lq_32, lq_8, lq_33⟩, by decide +kernel⟩
theorem lk_32 : kwV RL 32 RX10 yX10_many cX10_many 2 (some .int) 1 := ⟨⟨lq_34, lq_35, lq_36, lq_3, lq_37⟩, by decide +kernel⟩
theorem lk_35 : kwV RL 35 RX11 yX11_many cX11_many 4 (some .int) 1 := ⟨⟨lq_38, lq_39, lq_40, lq_8, lq_41⟩, by decide +kernel⟩
theorem lk_36 : kwV RL 36 RX10 yX10_player cX10_player 3 (some .int) 2 := ⟨⟨lq_42, lq_43, lq_44, lq_3, lq_45⟩, by decide +kernel⟩
theorem lk_40 : kwV RL 40 RX11 yX11_player cX11_player 3 (some .int) 2 := ⟨⟨lq_46, lq_47, lq_48, lq_8, lq_49⟩, by decide +kernel⟩
theorem lk_41 : kwV RL 41 RX10 yX10_guess cX10_guess 3 (some .int) 2 := ⟨⟨lq_50, lq_51, lq_52, lq_3, lq_53⟩, by decide +kernel⟩
theorem lk_44 : kwV RL 44 RX11 yX11_guess cX11_guess 3 (some .int) 2 := ⟨⟨lq_54, lq_55, lq_56, lq_8, lq_57⟩, by decide +kernel⟩
theorem lk_45 : kwV RL 45 RX10 yX10_situation cX10_situation 3 (some .int) 2 := ⟨⟨lq_58, lq_59, lq_60, lq_3, lq_61⟩, by decide +kernel⟩
theorem lk_48 : kwV RL 48 RX11 yX11_situation cX11_situation 3 (some .int) 2 := ⟨⟨lq_62, lq_63, lq_64, lq_8, lq_65⟩, by decide +kernel⟩
theorem lk_49 : kwV RL 49 RX10 yX10_colour cX10_colour 3 (some .int) 2 := ⟨⟨lq_66, lq_67, lq_68, lq_3, lq_69⟩, by decide +kernel⟩
theorem lk_52 : kwV RL 52 RX11 yX11_colour cX11_colour 3 (some .int) 2 := ⟨⟨lq_70, lq_71, lq_72, lq_8, lq_73⟩, by decide +kernel⟩
theorem lk_53 : kwV RL 53 RX10 yX10_often cX10_often 3 (some .int) 2 := ⟨⟨lq_74, lq_75, lq_76, lq_3, lq_77⟩, by decide +kernel⟩
theorem lk_56 : kwV RL 56 RX11 yX11_often cX11_often 5 (some .int) 2 := ⟨⟨lq_78, lq_79, lq_80, lq_8, lq_81⟩, by decide +kernel⟩
theorem lk_57 : kwV RL 57 RX10 yX10_heeds cX10_heeds 4 (some .int) 2 := ⟨⟨lq_82, lq_83, lq_84, lq_3, lq_85⟩, by decide +kernel⟩
theorem lk_60 : kwV RL 60 RX11 yX11_heeds cX11_heeds 3 (some .int) 2 := ⟨⟨lq_86, lq_87, lq_88, lq_8, lq_89⟩, by decide +kernel⟩
theorem lk_61 : kwV RL 61 RX10 yX10_heeded cX10_heeded 4 (some .int) 1 := ⟨⟨lq_90, lq_91, lq_92, lq_3, lq_93⟩, by decide +kernel⟩
theorem lk_64 : kwV RL 64 RX11 yX11_heeded cX11_heeded 4 (some .int) 1 := ⟨⟨lq_94, lq_95, lq_96, lq_8, lq_97⟩, by decide +kernel⟩
theorem lk_65 : kwV RL 65 RX10 yX10_fooled cX10_fooled 4 (some .int) 2 := ⟨⟨lq_98, lq_99, lq_100, lq_3, lq_101⟩, by decide +kernel⟩
theorem lk_68 : kwV RL 68 RX11 yX11_fooled cX11_fooled 8 (some .int) 2 := ⟨⟨lq_102, lq_103, lq_104, lq_8, lq_105⟩, by decide +kernel⟩
theorem lk_69 : kwV RL 69 RX10 yX10_right cX10_right 2 (some .int) 1 := ⟨⟨lq_106, lq_107, lq_108, lq_3, lq_109⟩, by decide +kernel⟩
theorem lk_72 : kwV RL 72 RX11 yX11_right cX11_right 2 (some .int) 1 := ⟨⟨lq_110, lq_111, lq_112, lq_8, lq_113⟩, by decide +kernel⟩
theorem lk_73 : kwV RL 73 RX10 yX10_lost cX10_lost 3 (some .int) 1 := ⟨⟨lq_114, lq_115, lq_116, lq_3, lq_117⟩, by decide +kernel⟩
theorem lk_76 : kwV RL 76 RX11 yX11_lost cX11_lost 4 (some .int) 1 := ⟨⟨lq_118, lq_119, lq_120, lq_8, lq_121⟩, by decide +kernel⟩
theorem lk_77 : kwV RL 77 RX10 yX10_exact cX10_exact 2 (some .int) 1 := ⟨⟨lq_122, lq_123, lq_124, lq_3, lq_125⟩, by decide +kernel⟩
theorem lk_80 : kwV RL 80 RX11 yX11_exact cX11_exact 2 (some .int) 1 := ⟨⟨lq_126, lq_127, lq_128, lq_8, lq_129⟩, by decide +kernel⟩
theorem lk_81 : kwV RL 81 RX10 yX10_alone cX10_alone 2 (some .int) 1 := ⟨⟨lq_130, lq_131, lq_132, lq_3, lq_133⟩, by decide +kernel⟩
theorem lk_84 : kwV RL 84 RX11 yX11_alone cX11_alone 4 (some .int) 1 := ⟨⟨lq_134, lq_135, lq_136, lq_8, lq_137⟩, by decide +kernel⟩
theorem lk_85 : kwV RL 85 RX10 yX10_both cX10_both 4 (some .int) 2 := ⟨⟨lq_138, lq_139, lq_140, lq_3, lq_141⟩, by decide +kernel⟩
theorem lk_88 : kwV RL 88 RX11 yX11_both cX11_both 5 (some .int) 2 := ⟨⟨lq_142, lq_143, lq_144, lq_8, lq_145⟩, by decide +kernel⟩
theorem lk_89 : kwV RL 89 RX10 yX10_without cX10_without 2 (some .int) 1 := ⟨⟨lq_146, lq_147, lq_148, lq_3, lq_149⟩, by decide +kernel⟩
theorem lk_92 : kwV RL 92 RX11 yX11_without cX11_without 2 (some .int) 1 := ⟨⟨lq_150, lq_151, lq_152, lq_8, lq_153⟩, by decide +kernel⟩
theorem lk_93 : kwV RL 93 RX10 yX10_together cX10_together 2 (some .int) 1 := ⟨⟨lq_154, lq_155, lq_156, lq_3, lq_157⟩, by decide +kernel⟩
theorem lk_96 : kwV RL 96 RX11 yX11_together cX11_together 4 (some .int) 1 := ⟨⟨lq_158, lq_159, lq_160, lq_8, lq_161⟩, by decide +kernel⟩
theorem lk_97 : kwV RL 97 RX10 yX10_crowd cX10_crowd 3 (some .int) 1 := ⟨⟨lq_162, lq_163, lq_164, lq_3, lq_165⟩, by decide +kernel⟩
theorem lk_100 : kwV RL 100 RX11 yX11_crowd cX11_crowd 7 (some .int) 1 := ⟨⟨lq_166, lq_167, lq_168, lq_8, lq_169⟩, by decide +kernel⟩
theorem lk_101 : kwV RL 101 RX10 yX10_twice cX10_twice 1 (some .int) 0 := ⟨⟨lq_170, lq_171, lq_172, lq_3, lq_173⟩, by decide +kernel⟩
theorem lk_104 : kwV RL 104 RX11 yX11_twice cX11_twice 6 (some .int) 0 := ⟨⟨lq_174, lq_175, lq_176, lq_8, lq_177⟩, by decide +kernel⟩
theorem lk_105 : kwV RL 105 RX10 yX10_blinded cX10_blinded 4 (some .int) 2 := ⟨⟨lq_178, lq_179, lq_180, lq_3, lq_181⟩, by decide +kernel⟩
theorem lk_108 : kwV RL 108 RX11 yX11_blinded cX11_blinded 3 (some .int) 2 := ⟨⟨lq_182, lq_183, lq_184, lq_8, lq_185⟩, by decide +kernel⟩
theorem lk_109 : kwV RL 109 RX10 yX10_weakest cX10_weakest 7 (some .int) 1 := ⟨⟨lq_186, lq_187, lq_188, lq_3, lq_189⟩, by decide +kernel⟩
theorem lk_113 : kwV RL 113 RX11 yX11_weakest cX11_weakest 7 (some .int) 1 := ⟨⟨lq_190, lq_191, lq_192, lq_8, lq_193⟩, by decide +kernel⟩
theorem lk_114 : kwV RL 114 RX10 yX10_needed cX10_needed 1 (some .int) 0 := ⟨⟨lq_194, lq_195, lq_196, lq_3, lq_197⟩, by decide +kernel⟩
theorem lk_117 : kwV RL 117 RX11 yX11_needed cX11_needed 4 (some .int) 0 := ⟨⟨lq_198, lq_199, lq_200, lq_8, lq_201⟩, by decide +kernel⟩
theorem lk_118 : kwV RL 118 RX10 yX10_known cX10_known 3 (some .int) 2 := ⟨⟨lq_202, lq_203, lq_204, lq_3, lq_205⟩, by decide +kernel⟩
theorem lk_121 : kwV RL 121 RX11 yX11_known cX11_known 5 (some .int) 2 := ⟨⟨lq_206, lq_207, lq_208, lq_8, lq_209⟩, by decide +kernel⟩
theorem lk_122 : kwV RL 122 RX10 yX10_nearest cX10_nearest 4 (some .int) 2 := ⟨⟨lq_210, lq_211, lq_212, lq_3, lq_213⟩, by decide +kernel⟩
theorem lk_125 : kwV RL 125 RX11 yX11_nearest cX11_nearest 8 (some .int) 2 := ⟨⟨lq_214, lq_215, lq_216, lq_8, lq_217⟩, by decide +kernel⟩
theorem lk_126 : kwV RL 126 RX10 yX10_atLeast cX10_atLeast 2 (some .int) 1 := ⟨⟨lq_218, lq_219, lq_220, lq_3, lq_221⟩, by decide +kernel⟩
theorem lk_129 : kwV RL 129 RX11 yX11_atLeast cX11_atLeast 2 (some .int) 1 := ⟨⟨lq_222, lq_223, lq_224, lq_8, lq_225⟩, by decide +kernel⟩
theorem lk_130 : kwV RL 130 RX10 yX10_acyclic cX10_acyclic 1 (some .int) 0 := ⟨⟨lq_226, lq_227, lq_228, lq_3, lq_229⟩, by decide +kernel⟩
theorem lk_133 : kwV RL 133 RX11 yX11_acyclic cX11_acyclic 1 (some .int) 0 := ⟨⟨lq_230, lq_231, lq_232, lq_8, lq_233⟩, by decide +kernel⟩
theorem lk_134 : kwV RL 134 RX10 yX10_always cX10_always 3 (some .int) 0 := ⟨⟨lq_234, lq_235, lq_236, lq_3, lq_237⟩, by decide +kernel⟩
theorem lk_137 : kwV RL 137 RX11 yX11_always cX11_always 3 (some .int) 0 := ⟨⟨lq_238, lq_239, lq_240, lq_8, lq_241⟩, by decide +kernel⟩
theorem lk_138 : kwV RL 138 RX10 yX10_blind cX10_blind 1 (some .int) 0 := ⟨⟨lq_242, lq_243, lq_244, lq_3, lq_245⟩, by decide +kernel⟩
theorem lk_141 : kwV RL 141 RX11 yX11_blind cX11_blind 3 (some .int) 0 := ⟨⟨lq_246, lq_247, lq_248, lq_8, lq_249⟩, by decide +kernel⟩
theorem lk_142 : kwV RL 142 RX10 yX10_share cX10_share 5 (some .int) 2 := ⟨⟨lq_250, lq_251, lq_252, lq_3, lq_253⟩, by decide +kernel⟩
theorem lk_145 : kwV RL 145 RX11 yX11_share cX11_share 4 (some .int) 2 := ⟨⟨lq_254, lq_255, lq_256, lq_8, lq_257⟩, by decide +kernel⟩
theorem lk_146 : kwV RL 146 RX10 yX10_least cX10_least 3 (some .int) 0 := ⟨⟨lq_258, lq_259, lq_260, lq_3, lq_261⟩, by decide +kernel⟩
theorem lk_149 : kwV RL 149 RX11 yX11_least cX11_least 3 (some .int) 0 := ⟨⟨lq_262, lq_263, lq_264, lq_8, lq_265⟩, by decide +kernel⟩
theorem lk_150 : kwV RL 150 RX10 yX10_clique cX10_clique 1 (some .int) 0 := ⟨⟨lq_266, lq_267, lq_268, lq_3, lq_269⟩, by decide +kernel⟩
theorem lk_153 : kwV RL 153 RX11 yX11_clique cX11_clique 3 (some .int) 0 := ⟨⟨lq_270, lq_271, lq_272, lq_8, lq_273⟩, by decide +kernel⟩
theorem lk_154 : kwV RL 154 RX10 yX10_strongest cX10_strongest 1 (some .int) 0 := ⟨⟨lq_274, lq_275, lq_276, lq_3, lq_277⟩, by decide +kernel⟩
theorem lk_157 : kwV RL 157 RX11 yX11_strongest cX11_strongest 3 (some .int) 0 := ⟨⟨lq_278, lq_279, lq_280, lq_8, lq_281⟩, by decide +kernel⟩
theorem lk_158 : kwV RL 158 RX10 yX10_sure cX10_sure 1 (some .int) 0 := ⟨⟨lq_282, lq_283, lq_284, lq_3, lq_285⟩, by decide +kernel⟩
theorem lk_161 : kwV RL 161 RX11 yX11_sure cX11_sure 3 (some .int) 0 := ⟨⟨lq_286, lq_287, lq_288, lq_8, lq_289⟩, by decide +kernel⟩
theorem lk_162 : kwV RL 162 RX10 yX10_best cX10_best 2 (some .int) 1 := ⟨⟨lq_290, lq_291, lq_292, lq_3, lq_293⟩, by decide +kernel⟩
theorem lk_165 : kwV RL 165 RX11 yX11_best cX11_best 2 (some .int) 1 := ⟨⟨lq_294, lq_295, lq_296, lq_8, lq_297⟩, by decide +kernel⟩
theorem lk_166 : kwV RL 166 RX10 yX10_bestAt cX10_bestAt 3 (some .int) 2 := ⟨⟨lq_298, lq_299, lq_300, lq_3, lq_301⟩, by decide +kernel⟩
theorem lk_169 : kwV RL 169 RX11 yX11_bestAt cX11_bestAt 3 (some .int) 2 := ⟨⟨lq_302, lq_303, lq_304, lq_8, lq_305⟩, by decide +kernel⟩
theorem lk_170 : kwV RL 170 RX10 yX10_bettered cX10_bettered 5 (some .int) 0 := ⟨⟨lq_306, lq_307, lq_308, lq_3, lq_309⟩, by decide +kernel⟩
theorem lk_173 : kwV RL 173 RX11 yX11_bettered cX11_bettered 5 (some .int) 0 := ⟨⟨lq_310, lq_311, lq_312, lq_8, lq_313⟩, by decide +kernel⟩
theorem lk_174 : kwV RL 174 RX10 yX10_ways cX10_ways 2 (some .int) 1 := ⟨⟨lq_314, lq_315, lq_316, lq_3, lq_317⟩, by decide +kernel⟩
theorem lk_177 : kwV RL 177 RX11 yX11_ways cX11_ways 4 (some .int) 1 := ⟨⟨lq_318, lq_319, lq_320, lq_8, lq_321⟩, by decide +kernel⟩
theorem lk_178 : kwV RL 178 RX10 yX10_search cX10_search 7 (some .int) 3 := ⟨⟨lq_322, lq_323, lq_324, lq_3, lq_325⟩, by decide +kernel⟩
theorem lk_182 : kwV RL 182 RX11 yX11_search cX11_search 9 (some .int) 3 := ⟨⟨lq_326, lq_327, lq_328, lq_8, lq_329⟩, by decide +kernel⟩
theorem lk_183 : kwV RL 183 RX10 yX10_renumber cX10_renumber 2 (some .int) 1 := ⟨⟨lq_330, lq_331, lq_332, lq_3, lq_333⟩, by decide +kernel⟩
theorem lk_186 : kwV RL 186 RX11 yX11_renumber cX11_renumber 2 (some .int) 1 := ⟨⟨lq_334, lq_335, lq_336, lq_8, lq_337⟩, by decide +kernel⟩
theorem lk_187 : kwV RL 187 RX10 yX10_alike cX10_alike 4 (some .int) 2 := ⟨⟨lq_338, lq_339, lq_340, lq_3, lq_341⟩, by decide +kernel⟩
theorem lk_190 : kwV RL 190 RX11 yX11_alike cX11_alike 4 (some .int) 2 := ⟨⟨lq_342, lq_343, lq_344, lq_8, lq_345⟩, by decide +kernel⟩
theorem lk_191 : kwV RL 191 RX10 yX10_far cX10_far 4 (some .int) 2 := ⟨⟨lq_346, lq_347, lq_348, lq_3, lq_349⟩, by decide +kernel⟩
theorem lk_194 : kwV RL 194 RX11 yX11_far cX11_far 7 (some .int) 2 := ⟨⟨lq_350, lq_351, lq_352, lq_8, lq_353⟩, by decide +kernel⟩
theorem lk_195 : kwV RL 195 RX10 yX10_shape cX10_shape 1 (some .int) 0 := ⟨⟨lq_354, lq_355, lq_356, lq_3, lq_357⟩, by decide +kernel⟩
theorem lk_198 : kwV RL 198 RX11 yX11_shape cX11_shape 1 (some .int) 0 := ⟨⟨lq_358, lq_359, lq_360, lq_8, lq_361⟩, by decide +kernel⟩
theorem lk_199 : kwV RL 199 RX10 yX10_hub cX10_hub 2 (some .int) 0 := ⟨⟨lq_362, lq_363, lq_364, lq_3, lq_365⟩, by decide +kernel⟩
theorem lk_202 : kwV RL 202 RX11 yX11_hub cX11_hub 2 (some .int) 0 := ⟨⟨lq_366, lq_367, lq_368, lq_8, lq_369⟩, by decide +kernel⟩
theorem lk_203 : kwV RL 203 RX10 yX10_part cX10_part 2 (some .int) 1 := ⟨⟨lq_370, lq_371, lq_372, lq_3, lq_373⟩, by decide +kernel⟩
theorem lk_206 : kwV RL 206 RX11 yX11_part cX11_part 2 (some .int) 1 := ⟨⟨lq_374, lq_375, lq_376, lq_8, lq_377⟩, by decide +kernel⟩
theorem lk_207 : kwV RL 207 RX10 yX10_set cX10_set 4 (some .int) 3 := ⟨⟨lq_378, lq_379, lq_380, lq_3, lq_381⟩, by decide +kernel⟩
theorem lk_210 : kwV RL 210 RX11 yX11_set cX11_set 4 (some .int) 3 := ⟨⟨lq_382, lq_383, lq_384, lq_8, lq_385⟩, by decide +kernel⟩
theorem lk_211 : kwV RL 211 RX10 yX10_take cX10_take 3 (some .int) 1 := ⟨⟨lq_386, lq_387, lq_388, lq_3, lq_389⟩, by decide +kernel⟩
theorem lk_214 : kwV RL 214 RX11 yX11_take cX11_take 3 (some .int) 1 := ⟨⟨lq_390, lq_391, lq_392, lq_8, lq_393⟩, by decide +kernel⟩
theorem lk_215 : kwV RL 215 RX10 yX10_better cX10_better 2 (some .int) 0 := ⟨⟨lq_394, lq_395, lq_396, lq_3, lq_397⟩, by decide +kernel⟩
theorem lk_218 : kwV RL 218 RX11 yX11_better cX11_better 2 (some .int) 0 := ⟨⟨lq_398, lq_399, lq_400, lq_8, lq_401⟩, by decide +kernel⟩
theorem lk_219 : kwV RL 219 RX10 yX10_build cX10_build 2 (some .int) 1 := ⟨⟨lq_402, lq_403, lq_404, lq_3, lq_405⟩, by decide +kernel⟩
theorem lk_222 : kwV RL 222 RX11 yX11_build cX11_build 6 (some .int) 1 := ⟨⟨lq_406, lq_407, lq_408, lq_8, lq_409⟩, by decide +kernel⟩
theorem lk_223 : kwV RL 223 RX10 yX10_rename cX10_rename 5 (some .int) 3 := ⟨⟨lq_410, lq_411, lq_412, lq_3, lq_413⟩, by decide +kernel⟩
theorem lk_226 : kwV RL 226 RX11 yX11_rename cX11_rename 6 (some .int) 3 := ⟨⟨lq_414, lq_415, lq_416, lq_8, lq_417⟩, by decide +kernel⟩
theorem lk_227 : kwV RL 227 RX10 yX10_see cX10_see 5 (some .int) 3 := ⟨⟨lq_418, lq_419, lq_420, lq_3, lq_421⟩, by decide +kernel⟩
theorem lk_231 : kwV RL 231 RX11 yX11_see cX11_see 8 (some .int) 3 := ⟨⟨lq_422, lq_423, lq_424, lq_8, lq_425⟩, by decide +kernel⟩
theorem lk_232 : kwV RL 232 RX10 yX10_shuffle cX10_shuffle 2 (some .int) 1 := ⟨⟨lq_426, lq_427, lq_428, lq_3, lq_429⟩, by decide +kernel⟩
theorem lk_235 : kwV RL 235 RX11 yX11_shuffle cX11_shuffle 2 (some .int) 1 := ⟨⟨lq_430, lq_431, lq_432, lq_8, lq_433⟩, by decide +kernel⟩
theorem lk_236 : kwV RL 236 RX10 yX10_undo cX10_undo 1 (some .int) 0 := ⟨⟨lq_434, lq_435, lq_436, lq_3, lq_437⟩, by decide +kernel⟩
theorem lk_239 : kwV RL 239 RX11 yX11_undo cX11_undo 2 (some .int) 0 := ⟨⟨lq_438, lq_439, lq_440, lq_8, lq_441⟩, by decide +kernel⟩
theorem lk_240 : kwV RL 240 RX10 yX10_print cX10_print 1 (some .int) 0 := ⟨⟨lq_442, lq_443, lq_444, lq_3, lq_445⟩, by decide +kernel⟩
theorem lk_243 : kwV RL 243 RX11 yX11_print cX11_print 2 (some .int) 0 := ⟨⟨lq_446, lq_447, lq_448, lq_8, lq_449⟩, by decide +kernel⟩
theorem lk_244 : kwV RL 244 RX10 yX10_out cX10_out 2 (some .int) 1 := ⟨⟨lq_450, lq_451, lq_452, lq_3, lq_453⟩, by decide +kernel⟩
theorem lk_247 : kwV RL 247 RX11 yX11_out cX11_out 2 (some .int) 1 := ⟨⟨lq_454, lq_455, lq_456, lq_8, lq_457⟩, by decide +kernel⟩
