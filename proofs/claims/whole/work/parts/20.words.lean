/-! words, by program: wip/mk_code.py -/
set_option maxRecDepth 100000 in
theorem zbX0 : ∀ w ∈ u_ws RX0 TX0 6, w ∈ zBig := zb_all (by decide +kernel)
set_option maxRecDepth 100000 in
theorem zbX1 : ∀ w ∈ u_ws RX1 TX1 9, w ∈ zBig := zb_all (by decide +kernel)
set_option maxRecDepth 100000 in
theorem zbX2 : ∀ w ∈ u_ws RX2 TX2 2, w ∈ zBig := zb_all (by decide +kernel)
set_option maxRecDepth 100000 in
theorem zbX3 : ∀ w ∈ u_ws RX3 TX3 7, w ∈ zBig := zb_all (by decide +kernel)
set_option maxRecDepth 100000 in
theorem zbX4 : ∀ w ∈ u_ws RX4 TX4 8, w ∈ zBig := zb_all (by decide +kernel)
set_option maxRecDepth 100000 in
theorem zbX5 : ∀ w ∈ u_ws RX5 TX5 4, w ∈ zBig := zb_all (by decide +kernel)
set_option maxRecDepth 100000 in
theorem zbX6 : ∀ w ∈ u_ws RX6 TX6 13, w ∈ zBig := zb_all (by decide +kernel)
set_option maxRecDepth 100000 in
theorem zbX7 : ∀ w ∈ u_ws RX7 TX7 4, w ∈ zBig := zb_all (by decide +kernel)
set_option maxRecDepth 100000 in
theorem zbX8 : ∀ w ∈ u_ws RX8 TX8 6, w ∈ zBig := zb_all (by decide +kernel)
set_option maxRecDepth 100000 in
theorem zbX9 : ∀ w ∈ u_ws RX9 TX9 8, w ∈ zBig := zb_all (by decide +kernel)
set_option maxRecDepth 100000 in
theorem zbX10 : ∀ w ∈ u_ws RX10 TX10 43, w ∈ zBig := zb_all (by decide +kernel)
set_option maxRecDepth 100000 in
theorem zb_0 : Cond.fieldLink RX0 15 "PatternHouse$Automaton" "ways" "[I" ∈ zBig := zb_of (by decide +kernel) (by decide +kernel)
set_option maxRecDepth 100000 in
theorem zb_1 : Cond.fieldLink RX7 22 "PatternHouse$Register" "size" "I" ∈ zBig := zb_of (by decide +kernel) (by decide +kernel)
set_option maxRecDepth 100000 in
theorem zb_2 : Cond.fieldLink RX7 19 "PatternHouse$Register" "slots" "[I" ∈ zBig := zb_of (by decide +kernel) (by decide +kernel)
set_option maxRecDepth 100000 in
theorem zb_3 : Cond.fieldLink RX7 15 "PatternHouse$Register" "slotOf" "[I" ∈ zBig := zb_of (by decide +kernel) (by decide +kernel)
set_option maxRecDepth 100000 in
theorem zb_4 : Cond.constantLong RX7 34 (-7046029254386353131) ∈ zBig := zb_of (by decide +kernel) (by decide +kernel)
set_option maxRecDepth 100000 in
theorem zb_5 : Cond.fieldLink RX7 9 "PatternHouse$Register" "keys" "[J" ∈ zBig := zb_of (by decide +kernel) (by decide +kernel)
set_option maxRecDepth 100000 in
theorem zb_6 : Cond.code yX7_enter cX7_enter 5 (some .int) ∈ zBig := zb_of (by decide +kernel) (by decide +kernel)
set_option maxRecDepth 100000 in
theorem zb_7 : Cond.methodLink RX7 30 yX7_enter ∈ zBig := zb_of (by decide +kernel) (by decide +kernel)
set_option maxRecDepth 100000 in
theorem zb_8 : Cond.instanceMethod yX7_enter ∈ zBig := zb_of (by decide +kernel) (by decide +kernel)
set_option maxRecDepth 100000 in
theorem zb_9 : Cond.selects RX7 yX7_enter yX7_enter ∈ zBig := zb_of (by decide +kernel) (by decide +kernel)
set_option maxRecDepth 100000 in
theorem zb_10 : Cond.initialized RX7 ∈ zBig := zb_of (by decide +kernel) (by decide +kernel)
set_option maxRecDepth 100000 in
theorem zb_11 : Cond.code yX7_homeOf cX7_homeOf 4 (some .int) ∈ zBig := zb_of (by decide +kernel) (by decide +kernel)
set_option maxRecDepth 100000 in
theorem zb_12 : Cond.methodLink RX7 26 yX7_homeOf ∈ zBig := zb_of (by decide +kernel) (by decide +kernel)
set_option maxRecDepth 100000 in
theorem zb_13 : Cond.static yX7_homeOf ∈ zBig := zb_of (by decide +kernel) (by decide +kernel)
set_option maxRecDepth 100000 in
theorem zb_14 : Cond.fieldLink RX0 24 "PatternHouse$Automaton" "goesBeyond" "Z" ∈ zBig := zb_of (by decide +kernel) (by decide +kernel)
set_option maxRecDepth 100000 in
theorem zb_15 : Cond.fieldLink RX0 69 "PatternHouse$Register" "size" "I" ∈ zBig := zb_of (by decide +kernel) (by decide +kernel)
set_option maxRecDepth 100000 in
theorem zb_16 : Cond.fieldLink RX0 32 "PatternHouse$Automaton" "size" "I" ∈ zBig := zb_of (by decide +kernel) (by decide +kernel)
set_option maxRecDepth 100000 in
theorem zb_17 : Cond.fieldLink RX0 62 "PatternHouse$Pattern" "havers" "[J" ∈ zBig := zb_of (by decide +kernel) (by decide +kernel)
set_option maxRecDepth 100000 in
theorem zb_18 : Cond.code yX7_numberOf cX7_numberOf 8 (some .int) ∈ zBig := zb_of (by decide +kernel) (by decide +kernel)
set_option maxRecDepth 100000 in
theorem zb_19 : Cond.methodLink RX0 65 yX7_numberOf ∈ zBig := zb_of (by decide +kernel) (by decide +kernel)
set_option maxRecDepth 100000 in
theorem zb_20 : Cond.instanceMethod yX7_numberOf ∈ zBig := zb_of (by decide +kernel) (by decide +kernel)
set_option maxRecDepth 100000 in
theorem zb_21 : Cond.selects RX7 yX7_numberOf yX7_numberOf ∈ zBig := zb_of (by decide +kernel) (by decide +kernel)
set_option maxRecDepth 100000 in
theorem zb_22 : Cond.fieldLink RX4 28 "PatternHouse$Pattern" "size" "I" ∈ zBig := zb_of (by decide +kernel) (by decide +kernel)
set_option maxRecDepth 100000 in
theorem zb_23 : Cond.code yX9_holds cX9_holds 3 (some .boolean) ∈ zBig := zb_of (by decide +kernel) (by decide +kernel)
set_option maxRecDepth 100000 in
theorem zb_24 : Cond.static yX9_holds ∈ zBig := zb_of (by decide +kernel) (by decide +kernel)
set_option maxRecDepth 100000 in
theorem zb_25 : Cond.initialized RX9 ∈ zBig := zb_of (by decide +kernel) (by decide +kernel)
set_option maxRecDepth 100000 in
theorem zb_26 : Cond.fieldLink RX4 9 "PatternHouse$Pattern" "behind" "[J" ∈ zBig := zb_of (by decide +kernel) (by decide +kernel)
set_option maxRecDepth 100000 in
theorem zb_27 : Cond.code yX4_behindAny cX4_behindAny 6 (some .long) ∈ zBig := zb_of (by decide +kernel) (by decide +kernel)
set_option maxRecDepth 100000 in
theorem zb_28 : Cond.methodLink RX0 55 yX4_behindAny ∈ zBig := zb_of (by decide +kernel) (by decide +kernel)
set_option maxRecDepth 100000 in
theorem zb_29 : Cond.instanceMethod yX4_behindAny ∈ zBig := zb_of (by decide +kernel) (by decide +kernel)
set_option maxRecDepth 100000 in
theorem zb_30 : Cond.selects RX4 yX4_behindAny yX4_behindAny ∈ zBig := zb_of (by decide +kernel) (by decide +kernel)
set_option maxRecDepth 100000 in
theorem zb_31 : Cond.initialized RX4 ∈ zBig := zb_of (by decide +kernel) (by decide +kernel)
set_option maxRecDepth 100000 in
theorem zb_32 : Cond.code yX0_layWays cX0_layWays 8 none ∈ zBig := zb_of (by decide +kernel) (by decide +kernel)
set_option maxRecDepth 100000 in
theorem zb_33 : Cond.methodLink RX0 44 yX0_layWays ∈ zBig := zb_of (by decide +kernel) (by decide +kernel)
set_option maxRecDepth 100000 in
theorem zb_34 : Cond.instanceMethod yX0_layWays ∈ zBig := zb_of (by decide +kernel) (by decide +kernel)
set_option maxRecDepth 100000 in
theorem zb_35 : Cond.selects RX0 yX0_layWays yX0_layWays ∈ zBig := zb_of (by decide +kernel) (by decide +kernel)
set_option maxRecDepth 100000 in
theorem zb_36 : Cond.initialized RX0 ∈ zBig := zb_of (by decide +kernel) (by decide +kernel)
set_option maxRecDepth 100000 in
theorem zb_37 : Cond.fieldLink RX0 59 "PatternHouse$Automaton" "isBuilt" "Z" ∈ zBig := zb_of (by decide +kernel) (by decide +kernel)
set_option maxRecDepth 100000 in
theorem zb_38 : Cond.fieldLink RX0 48 "PatternHouse$Register" "keys" "[J" ∈ zBig := zb_of (by decide +kernel) (by decide +kernel)
set_option maxRecDepth 100000 in
theorem zb_39 : Cond.fieldLink RX0 9 "PatternHouse$Automaton" "isGood" "[Z" ∈ zBig := zb_of (by decide +kernel) (by decide +kernel)
set_option maxRecDepth 100000 in
theorem zb_40 : Cond.fieldLink RX0 52 "PatternHouse$Pattern" "lasts" "J" ∈ zBig := zb_of (by decide +kernel) (by decide +kernel)
set_option maxRecDepth 100000 in
theorem zb_41 : Cond.code yX7_forgetAll cX7_forgetAll 2 none ∈ zBig := zb_of (by decide +kernel) (by decide +kernel)
set_option maxRecDepth 100000 in
theorem zb_42 : Cond.methodLink RX0 19 yX7_forgetAll ∈ zBig := zb_of (by decide +kernel) (by decide +kernel)
set_option maxRecDepth 100000 in
theorem zb_43 : Cond.instanceMethod yX7_forgetAll ∈ zBig := zb_of (by decide +kernel) (by decide +kernel)
set_option maxRecDepth 100000 in
theorem zb_44 : Cond.selects RX7 yX7_forgetAll yX7_forgetAll ∈ zBig := zb_of (by decide +kernel) (by decide +kernel)
set_option maxRecDepth 100000 in
theorem zb_45 : Cond.fieldLink RX0 28 "PatternHouse$Automaton" "groups" "I" ∈ zBig := zb_of (by decide +kernel) (by decide +kernel)
set_option maxRecDepth 100000 in
theorem zb_46 : Cond.fieldLink RX0 35 "PatternHouse$Pattern" "hasEmptyWord" "Z" ∈ zBig := zb_of (by decide +kernel) (by decide +kernel)
set_option maxRecDepth 100000 in
theorem zb_47 : Cond.fieldLink RX0 40 "PatternHouse$Pattern" "firsts" "J" ∈ zBig := zb_of (by decide +kernel) (by decide +kernel)
set_option maxRecDepth 100000 in
theorem zb_48 : Cond.fieldLink RX1 15 "PatternHouse$Comparison" "familyOf" "[I" ∈ zBig := zb_of (by decide +kernel) (by decide +kernel)
set_option maxRecDepth 100000 in
theorem zb_49 : Cond.fieldLink RX1 18 "PatternHouse$Comparison" "lefts" "[I" ∈ zBig := zb_of (by decide +kernel) (by decide +kernel)
set_option maxRecDepth 100000 in
theorem zb_50 : Cond.fieldLink RX1 50 "PatternHouse$Comparison" "pairs" "I" ∈ zBig := zb_of (by decide +kernel) (by decide +kernel)
set_option maxRecDepth 100000 in
theorem zb_51 : Cond.fieldLink RX1 21 "PatternHouse$Comparison" "rights" "[I" ∈ zBig := zb_of (by decide +kernel) (by decide +kernel)
set_option maxRecDepth 100000 in
theorem zb_52 : Cond.code yX1_join cX1_join 6 none ∈ zBig := zb_of (by decide +kernel) (by decide +kernel)
set_option maxRecDepth 100000 in
theorem zb_53 : Cond.methodLink RX1 61 yX1_join ∈ zBig := zb_of (by decide +kernel) (by decide +kernel)
set_option maxRecDepth 100000 in
theorem zb_54 : Cond.instanceMethod yX1_join ∈ zBig := zb_of (by decide +kernel) (by decide +kernel)
set_option maxRecDepth 100000 in
theorem zb_55 : Cond.selects RX1 yX1_join yX1_join ∈ zBig := zb_of (by decide +kernel) (by decide +kernel)
set_option maxRecDepth 100000 in
theorem zb_56 : Cond.initialized RX1 ∈ zBig := zb_of (by decide +kernel) (by decide +kernel)
set_option maxRecDepth 100000 in
theorem zb_57 : Cond.fieldLink RX1 30 "PatternHouse$Comparison" "lengths" "[I" ∈ zBig := zb_of (by decide +kernel) (by decide +kernel)
set_option maxRecDepth 100000 in
theorem zb_58 : Cond.code yX0_wayFrom cX0_wayFrom 3 (some .int) ∈ zBig := zb_of (by decide +kernel) (by decide +kernel)
set_option maxRecDepth 100000 in
theorem zb_59 : Cond.methodLink RX1 65 yX0_wayFrom ∈ zBig := zb_of (by decide +kernel) (by decide +kernel)
set_option maxRecDepth 100000 in
theorem zb_60 : Cond.instanceMethod yX0_wayFrom ∈ zBig := zb_of (by decide +kernel) (by decide +kernel)
set_option maxRecDepth 100000 in
theorem zb_61 : Cond.selects RX0 yX0_wayFrom yX0_wayFrom ∈ zBig := zb_of (by decide +kernel) (by decide +kernel)
set_option maxRecDepth 100000 in
theorem zb_62 : Cond.fieldLink RX1 24 "PatternHouse$Comparison" "cameFrom" "[I" ∈ zBig := zb_of (by decide +kernel) (by decide +kernel)
set_option maxRecDepth 100000 in
theorem zb_63 : Cond.fieldLink RX1 27 "PatternHouse$Comparison" "byLetter" "[I" ∈ zBig := zb_of (by decide +kernel) (by decide +kernel)
set_option maxRecDepth 100000 in
theorem zb_64 : Cond.fieldLink RX1 46 "PatternHouse$Automaton" "isGood" "[Z" ∈ zBig := zb_of (by decide +kernel) (by decide +kernel)
set_option maxRecDepth 100000 in
theorem zb_65 : Cond.fieldLink RX1 11 "PatternHouse$Comparison" "word" "[I" ∈ zBig := zb_of (by decide +kernel) (by decide +kernel)
set_option maxRecDepth 100000 in
theorem zb_66 : Cond.fieldLink RX1 33 "PatternHouse$Comparison" "wordLength" "I" ∈ zBig := zb_of (by decide +kernel) (by decide +kernel)
set_option maxRecDepth 100000 in
theorem zb_67 : Cond.code yX1_tellsApart cX1_tellsApart 7 (some .boolean) ∈ zBig := zb_of (by decide +kernel) (by decide +kernel)
set_option maxRecDepth 100000 in
theorem zb_68 : Cond.methodLink RX1 53 yX1_tellsApart ∈ zBig := zb_of (by decide +kernel) (by decide +kernel)
set_option maxRecDepth 100000 in
theorem zb_69 : Cond.instanceMethod yX1_tellsApart ∈ zBig := zb_of (by decide +kernel) (by decide +kernel)
set_option maxRecDepth 100000 in
theorem zb_70 : Cond.selects RX1 yX1_tellsApart yX1_tellsApart ∈ zBig := zb_of (by decide +kernel) (by decide +kernel)
set_option maxRecDepth 100000 in
theorem zb_71 : Cond.code yX1_spell cX1_spell 4 none ∈ zBig := zb_of (by decide +kernel) (by decide +kernel)
set_option maxRecDepth 100000 in
theorem zb_72 : Cond.methodLink RX1 57 yX1_spell ∈ zBig := zb_of (by decide +kernel) (by decide +kernel)
set_option maxRecDepth 100000 in
theorem zb_73 : Cond.instanceMethod yX1_spell ∈ zBig := zb_of (by decide +kernel) (by decide +kernel)
set_option maxRecDepth 100000 in
theorem zb_74 : Cond.selects RX1 yX1_spell yX1_spell ∈ zBig := zb_of (by decide +kernel) (by decide +kernel)
set_option maxRecDepth 100000 in
theorem zb_75 : Cond.fieldLink RX1 37 "PatternHouse$Automaton" "goesBeyond" "Z" ∈ zBig := zb_of (by decide +kernel) (by decide +kernel)
set_option maxRecDepth 100000 in
theorem zb_76 : Cond.code yX1_begin cX1_begin 2 none ∈ zBig := zb_of (by decide +kernel) (by decide +kernel)
set_option maxRecDepth 100000 in
theorem zb_77 : Cond.methodLink RX1 43 yX1_begin ∈ zBig := zb_of (by decide +kernel) (by decide +kernel)
set_option maxRecDepth 100000 in
theorem zb_78 : Cond.instanceMethod yX1_begin ∈ zBig := zb_of (by decide +kernel) (by decide +kernel)
set_option maxRecDepth 100000 in
theorem zb_79 : Cond.selects RX1 yX1_begin yX1_begin ∈ zBig := zb_of (by decide +kernel) (by decide +kernel)
set_option maxRecDepth 100000 in
theorem zb_80 : Cond.methodLink RX2 41 yX7_numberOf ∈ zBig := zb_of (by decide +kernel) (by decide +kernel)
set_option maxRecDepth 100000 in
theorem zb_81 : Cond.fieldLink RX2 22 "PatternHouse$Automaton" "size" "I" ∈ zBig := zb_of (by decide +kernel) (by decide +kernel)
set_option maxRecDepth 100000 in
theorem zb_82 : Cond.fieldLink RX2 45 "PatternHouse$Register" "size" "I" ∈ zBig := zb_of (by decide +kernel) (by decide +kernel)
set_option maxRecDepth 100000 in
theorem zb_83 : Cond.fieldLink RX2 9 "PatternHouse$Grouping" "groupOf" "[I" ∈ zBig := zb_of (by decide +kernel) (by decide +kernel)
set_option maxRecDepth 100000 in
theorem zb_84 : Cond.fieldLink RX2 37 "PatternHouse$Automaton" "isGood" "[Z" ∈ zBig := zb_of (by decide +kernel) (by decide +kernel)
set_option maxRecDepth 100000 in
theorem zb_85 : Cond.methodLink RX2 32 yX7_forgetAll ∈ zBig := zb_of (by decide +kernel) (by decide +kernel)
set_option maxRecDepth 100000 in
theorem zb_86 : Cond.fieldLink RX2 15 "PatternHouse$Grouping" "finerOf" "[I" ∈ zBig := zb_of (by decide +kernel) (by decide +kernel)
set_option maxRecDepth 100000 in
theorem zb_87 : Cond.methodLink RX2 52 arraycopyName ∈ zBig := zb_of (by decide +kernel) (by decide +kernel)
set_option maxRecDepth 100000 in
theorem zb_88 : Cond.native arraycopyName ∈ zBig := zb_of (by decide +kernel) (by decide +kernel)
set_option maxRecDepth 100000 in
theorem zb_89 : Cond.static arraycopyName ∈ zBig := zb_of (by decide +kernel) (by decide +kernel)
set_option maxRecDepth 100000 in
theorem zb_90 : Cond.initialized "java/lang/System" ∈ zBig := zb_of (by decide +kernel) (by decide +kernel)
set_option maxRecDepth 100000 in
theorem zb_91 : Cond.methodLink RX2 46 yX0_wayFrom ∈ zBig := zb_of (by decide +kernel) (by decide +kernel)
set_option maxRecDepth 100000 in
theorem zb_92 : Cond.constantLong RX2 50 (300) ∈ zBig := zb_of (by decide +kernel) (by decide +kernel)
set_option maxRecDepth 100000 in
theorem zb_93 : Cond.code yX2_groupByWay cX2_groupByWay 7 (some .int) ∈ zBig := zb_of (by decide +kernel) (by decide +kernel)
set_option maxRecDepth 100000 in
theorem zb_94 : Cond.methodLink RX2 28 yX2_groupByWay ∈ zBig := zb_of (by decide +kernel) (by decide +kernel)
set_option maxRecDepth 100000 in
theorem zb_95 : Cond.instanceMethod yX2_groupByWay ∈ zBig := zb_of (by decide +kernel) (by decide +kernel)
set_option maxRecDepth 100000 in
theorem zb_96 : Cond.selects RX2 yX2_groupByWay yX2_groupByWay ∈ zBig := zb_of (by decide +kernel) (by decide +kernel)
set_option maxRecDepth 100000 in
theorem zb_97 : Cond.initialized RX2 ∈ zBig := zb_of (by decide +kernel) (by decide +kernel)
set_option maxRecDepth 100000 in
theorem zb_98 : Cond.code yX2_groupByGood cX2_groupByGood 4 (some .int) ∈ zBig := zb_of (by decide +kernel) (by decide +kernel)
set_option maxRecDepth 100000 in
theorem zb_99 : Cond.methodLink RX2 18 yX2_groupByGood ∈ zBig := zb_of (by decide +kernel) (by decide +kernel)
set_option maxRecDepth 100000 in
theorem zb_100 : Cond.instanceMethod yX2_groupByGood ∈ zBig := zb_of (by decide +kernel) (by decide +kernel)
set_option maxRecDepth 100000 in
theorem zb_101 : Cond.selects RX2 yX2_groupByGood yX2_groupByGood ∈ zBig := zb_of (by decide +kernel) (by decide +kernel)
set_option maxRecDepth 100000 in
theorem zb_102 : Cond.fieldLink RX4 24 "PatternHouse$Pattern" "automaton" "LPatternHouse$Automaton;" ∈ zBig := zb_of (by decide +kernel) (by decide +kernel)
set_option maxRecDepth 100000 in
theorem zb_103 : Cond.fieldLink RX4 32 "PatternHouse$Automaton" "isBuilt" "Z" ∈ zBig := zb_of (by decide +kernel) (by decide +kernel)
set_option maxRecDepth 100000 in
theorem zb_104 : Cond.fieldLink RX5 7 "PatternHouse$Piece" "from" "I" ∈ zBig := zb_of (by decide +kernel) (by decide +kernel)
set_option maxRecDepth 100000 in
theorem zb_105 : Cond.fieldLink RX5 13 "PatternHouse$Piece" "hasEmptyWord" "Z" ∈ zBig := zb_of (by decide +kernel) (by decide +kernel)
set_option maxRecDepth 100000 in
theorem zb_106 : Cond.fieldLink RX5 17 "PatternHouse$Piece" "firsts" "J" ∈ zBig := zb_of (by decide +kernel) (by decide +kernel)
set_option maxRecDepth 100000 in
theorem zb_107 : Cond.fieldLink RX5 21 "PatternHouse$Piece" "lasts" "J" ∈ zBig := zb_of (by decide +kernel) (by decide +kernel)
set_option maxRecDepth 100000 in
theorem zb_108 : Cond.fieldLink RX3 21 "PatternHouse$Layer" "rows" "[LPatternHouse$Piece;" ∈ zBig := zb_of (by decide +kernel) (by decide +kernel)
set_option maxRecDepth 100000 in
theorem zb_109 : Cond.fieldLink RX3 37 "PatternHouse$Layer" "depth" "I" ∈ zBig := zb_of (by decide +kernel) (by decide +kernel)
set_option maxRecDepth 100000 in
theorem zb_110 : Cond.fieldLink RX3 28 "PatternHouse$Layer" "pattern" "LPatternHouse$Pattern;" ∈ zBig := zb_of (by decide +kernel) (by decide +kernel)
set_option maxRecDepth 100000 in
theorem zb_111 : Cond.fieldLink RX3 44 "PatternHouse$Pattern" "size" "I" ∈ zBig := zb_of (by decide +kernel) (by decide +kernel)
set_option maxRecDepth 100000 in
theorem zb_112 : Cond.code yX5_set cX5_set 7 none ∈ zBig := zb_of (by decide +kernel) (by decide +kernel)
set_option maxRecDepth 100000 in
theorem zb_113 : Cond.methodLink RX3 47 yX5_set ∈ zBig := zb_of (by decide +kernel) (by decide +kernel)
set_option maxRecDepth 100000 in
theorem zb_114 : Cond.instanceMethod yX5_set ∈ zBig := zb_of (by decide +kernel) (by decide +kernel)
set_option maxRecDepth 100000 in
theorem zb_115 : Cond.selects RX5 yX5_set yX5_set ∈ zBig := zb_of (by decide +kernel) (by decide +kernel)
set_option maxRecDepth 100000 in
theorem zb_116 : Cond.initialized RX5 ∈ zBig := zb_of (by decide +kernel) (by decide +kernel)
set_option maxRecDepth 100000 in
theorem zb_117 : Cond.fieldLink RX3 54 "PatternHouse$Layer" "hasPart" "Z" ∈ zBig := zb_of (by decide +kernel) (by decide +kernel)
set_option maxRecDepth 100000 in
theorem zb_118 : Cond.fieldLink RX3 25 "PatternHouse$Layer" "choices" "[LPatternHouse$Piece;" ∈ zBig := zb_of (by decide +kernel) (by decide +kernel)
set_option maxRecDepth 100000 in
theorem zb_119 : Cond.code yX3_beginRow cX3_beginRow 1 none ∈ zBig := zb_of (by decide +kernel) (by decide +kernel)
set_option maxRecDepth 100000 in
theorem zb_120 : Cond.methodLink RX3 51 yX3_beginRow ∈ zBig := zb_of (by decide +kernel) (by decide +kernel)
set_option maxRecDepth 100000 in
theorem zb_121 : Cond.instanceMethod yX3_beginRow ∈ zBig := zb_of (by decide +kernel) (by decide +kernel)
set_option maxRecDepth 100000 in
theorem zb_122 : Cond.selects RX3 yX3_beginRow yX3_beginRow ∈ zBig := zb_of (by decide +kernel) (by decide +kernel)
set_option maxRecDepth 100000 in
theorem zb_123 : Cond.initialized RX3 ∈ zBig := zb_of (by decide +kernel) (by decide +kernel)
set_option maxRecDepth 100000 in
theorem zb_124 : Cond.code yX4_wipe cX4_wipe 1 none ∈ zBig := zb_of (by decide +kernel) (by decide +kernel)
set_option maxRecDepth 100000 in
theorem zb_125 : Cond.methodLink RX3 32 yX4_wipe ∈ zBig := zb_of (by decide +kernel) (by decide +kernel)
set_option maxRecDepth 100000 in
theorem zb_126 : Cond.instanceMethod yX4_wipe ∈ zBig := zb_of (by decide +kernel) (by decide +kernel)
set_option maxRecDepth 100000 in
theorem zb_127 : Cond.selects RX4 yX4_wipe yX4_wipe ∈ zBig := zb_of (by decide +kernel) (by decide +kernel)
set_option maxRecDepth 100000 in
theorem zb_128 : Cond.code yX3_beginChoices cX3_beginChoices 1 none ∈ zBig := zb_of (by decide +kernel) (by decide +kernel)
set_option maxRecDepth 100000 in
theorem zb_129 : Cond.methodLink RX3 41 yX3_beginChoices ∈ zBig := zb_of (by decide +kernel) (by decide +kernel)
set_option maxRecDepth 100000 in
theorem zb_130 : Cond.instanceMethod yX3_beginChoices ∈ zBig := zb_of (by decide +kernel) (by decide +kernel)
set_option maxRecDepth 100000 in
theorem zb_131 : Cond.selects RX3 yX3_beginChoices yX3_beginChoices ∈ zBig := zb_of (by decide +kernel) (by decide +kernel)
set_option maxRecDepth 100000 in
theorem zb_132 : Cond.code yX4_connect cX4_connect 6 none ∈ zBig := zb_of (by decide +kernel) (by decide +kernel)
set_option maxRecDepth 100000 in
theorem zb_133 : Cond.methodLink RX5 24 yX4_connect ∈ zBig := zb_of (by decide +kernel) (by decide +kernel)
set_option maxRecDepth 100000 in
theorem zb_134 : Cond.instanceMethod yX4_connect ∈ zBig := zb_of (by decide +kernel) (by decide +kernel)
set_option maxRecDepth 100000 in
theorem zb_135 : Cond.selects RX4 yX4_connect yX4_connect ∈ zBig := zb_of (by decide +kernel) (by decide +kernel)
set_option maxRecDepth 100000 in
theorem zb_136 : Cond.fieldLink RX3 12 "PatternHouse$Layer" "part" "LPatternHouse$Piece;" ∈ zBig := zb_of (by decide +kernel) (by decide +kernel)
set_option maxRecDepth 100000 in
theorem zb_137 : Cond.code yX5_append cX5_append 3 none ∈ zBig := zb_of (by decide +kernel) (by decide +kernel)
set_option maxRecDepth 100000 in
theorem zb_138 : Cond.methodLink RX3 58 yX5_append ∈ zBig := zb_of (by decide +kernel) (by decide +kernel)
set_option maxRecDepth 100000 in
theorem zb_139 : Cond.instanceMethod yX5_append ∈ zBig := zb_of (by decide +kernel) (by decide +kernel)
set_option maxRecDepth 100000 in
theorem zb_140 : Cond.selects RX5 yX5_append yX5_append ∈ zBig := zb_of (by decide +kernel) (by decide +kernel)
set_option maxRecDepth 100000 in
theorem zb_141 : Cond.code yX3_endPart cX3_endPart 1 none ∈ zBig := zb_of (by decide +kernel) (by decide +kernel)
set_option maxRecDepth 100000 in
theorem zb_142 : Cond.methodLink RX3 62 yX3_endPart ∈ zBig := zb_of (by decide +kernel) (by decide +kernel)
set_option maxRecDepth 100000 in
theorem zb_143 : Cond.instanceMethod yX3_endPart ∈ zBig := zb_of (by decide +kernel) (by decide +kernel)
set_option maxRecDepth 100000 in
theorem zb_144 : Cond.selects RX3 yX3_endPart yX3_endPart ∈ zBig := zb_of (by decide +kernel) (by decide +kernel)
set_option maxRecDepth 100000 in
theorem zb_145 : Cond.code yX5_orElse cX5_orElse 2 none ∈ zBig := zb_of (by decide +kernel) (by decide +kernel)
set_option maxRecDepth 100000 in
theorem zb_146 : Cond.methodLink RX3 65 yX5_orElse ∈ zBig := zb_of (by decide +kernel) (by decide +kernel)
set_option maxRecDepth 100000 in
theorem zb_147 : Cond.instanceMethod yX5_orElse ∈ zBig := zb_of (by decide +kernel) (by decide +kernel)
set_option maxRecDepth 100000 in
theorem zb_148 : Cond.selects RX5 yX5_orElse yX5_orElse ∈ zBig := zb_of (by decide +kernel) (by decide +kernel)
set_option maxRecDepth 100000 in
theorem zb_149 : Cond.fieldLink RX4 15 "PatternHouse$Pattern" "lettersOf" "[J" ∈ zBig := zb_of (by decide +kernel) (by decide +kernel)
set_option maxRecDepth 100000 in
theorem zb_150 : Cond.code yX4_addPosition cX4_addPosition 3 none ∈ zBig := zb_of (by decide +kernel) (by decide +kernel)
set_option maxRecDepth 100000 in
theorem zb_151 : Cond.methodLink RX3 69 yX4_addPosition ∈ zBig := zb_of (by decide +kernel) (by decide +kernel)
set_option maxRecDepth 100000 in
theorem zb_152 : Cond.instanceMethod yX4_addPosition ∈ zBig := zb_of (by decide +kernel) (by decide +kernel)
set_option maxRecDepth 100000 in
theorem zb_153 : Cond.selects RX4 yX4_addPosition yX4_addPosition ∈ zBig := zb_of (by decide +kernel) (by decide +kernel)
set_option maxRecDepth 100000 in
theorem zb_154 : Cond.fieldLink RX3 73 "PatternHouse$Piece" "from" "I" ∈ zBig := zb_of (by decide +kernel) (by decide +kernel)
set_option maxRecDepth 100000 in
theorem zb_155 : Cond.fieldLink RX3 76 "PatternHouse$Piece" "hasEmptyWord" "Z" ∈ zBig := zb_of (by decide +kernel) (by decide +kernel)
set_option maxRecDepth 100000 in
theorem zb_156 : Cond.fieldLink RX3 79 "PatternHouse$Piece" "firsts" "J" ∈ zBig := zb_of (by decide +kernel) (by decide +kernel)
set_option maxRecDepth 100000 in
theorem zb_157 : Cond.fieldLink RX3 83 "PatternHouse$Piece" "lasts" "J" ∈ zBig := zb_of (by decide +kernel) (by decide +kernel)
set_option maxRecDepth 100000 in
theorem zb_158 : Cond.methodLink RX3 86 yX4_connect ∈ zBig := zb_of (by decide +kernel) (by decide +kernel)
set_option maxRecDepth 100000 in
theorem zb_159 : Cond.fieldLink RX3 18 "PatternHouse$Layer" "copy" "LPatternHouse$Piece;" ∈ zBig := zb_of (by decide +kernel) (by decide +kernel)
set_option maxRecDepth 100000 in
theorem zb_160 : Cond.code yX4_copyPositions cX4_copyPositions 6 none ∈ zBig := zb_of (by decide +kernel) (by decide +kernel)
set_option maxRecDepth 100000 in
theorem zb_161 : Cond.methodLink RX3 90 yX4_copyPositions ∈ zBig := zb_of (by decide +kernel) (by decide +kernel)
set_option maxRecDepth 100000 in
theorem zb_162 : Cond.instanceMethod yX4_copyPositions ∈ zBig := zb_of (by decide +kernel) (by decide +kernel)
set_option maxRecDepth 100000 in
theorem zb_163 : Cond.selects RX4 yX4_copyPositions yX4_copyPositions ∈ zBig := zb_of (by decide +kernel) (by decide +kernel)
set_option maxRecDepth 100000 in
theorem zb_164 : Cond.fieldLink RX4 18 "PatternHouse$Pattern" "havers" "[J" ∈ zBig := zb_of (by decide +kernel) (by decide +kernel)
set_option maxRecDepth 100000 in
theorem zb_165 : Cond.code yX4_haversOf cX4_haversOf 5 (some .long) ∈ zBig := zb_of (by decide +kernel) (by decide +kernel)
set_option maxRecDepth 100000 in
theorem zb_166 : Cond.methodLink RX4 51 yX4_haversOf ∈ zBig := zb_of (by decide +kernel) (by decide +kernel)
set_option maxRecDepth 100000 in
theorem zb_167 : Cond.instanceMethod yX4_haversOf ∈ zBig := zb_of (by decide +kernel) (by decide +kernel)
set_option maxRecDepth 100000 in
theorem zb_168 : Cond.selects RX4 yX4_haversOf yX4_haversOf ∈ zBig := zb_of (by decide +kernel) (by decide +kernel)
set_option maxRecDepth 100000 in
theorem zb_169 : Cond.fieldLink RX4 36 "PatternHouse$Piece" "hasEmptyWord" "Z" ∈ zBig := zb_of (by decide +kernel) (by decide +kernel)
set_option maxRecDepth 100000 in
theorem zb_170 : Cond.fieldLink RX4 41 "PatternHouse$Pattern" "hasEmptyWord" "Z" ∈ zBig := zb_of (by decide +kernel) (by decide +kernel)
set_option maxRecDepth 100000 in
theorem zb_171 : Cond.fieldLink RX4 42 "PatternHouse$Piece" "firsts" "J" ∈ zBig := zb_of (by decide +kernel) (by decide +kernel)
set_option maxRecDepth 100000 in
theorem zb_172 : Cond.fieldLink RX4 46 "PatternHouse$Pattern" "firsts" "J" ∈ zBig := zb_of (by decide +kernel) (by decide +kernel)
set_option maxRecDepth 100000 in
theorem zb_173 : Cond.fieldLink RX4 47 "PatternHouse$Piece" "lasts" "J" ∈ zBig := zb_of (by decide +kernel) (by decide +kernel)
set_option maxRecDepth 100000 in
theorem zb_174 : Cond.fieldLink RX4 50 "PatternHouse$Pattern" "lasts" "J" ∈ zBig := zb_of (by decide +kernel) (by decide +kernel)
set_option maxRecDepth 100000 in
theorem zb_175 : Cond.code yX3_endRow cX3_endRow 1 none ∈ zBig := zb_of (by decide +kernel) (by decide +kernel)
set_option maxRecDepth 100000 in
theorem zb_176 : Cond.methodLink RX3 94 yX3_endRow ∈ zBig := zb_of (by decide +kernel) (by decide +kernel)
set_option maxRecDepth 100000 in
theorem zb_177 : Cond.instanceMethod yX3_endRow ∈ zBig := zb_of (by decide +kernel) (by decide +kernel)
set_option maxRecDepth 100000 in
theorem zb_178 : Cond.selects RX3 yX3_endRow yX3_endRow ∈ zBig := zb_of (by decide +kernel) (by decide +kernel)
set_option maxRecDepth 100000 in
theorem zb_179 : Cond.code yX4_complete cX4_complete 3 none ∈ zBig := zb_of (by decide +kernel) (by decide +kernel)
set_option maxRecDepth 100000 in
theorem zb_180 : Cond.methodLink RX3 97 yX4_complete ∈ zBig := zb_of (by decide +kernel) (by decide +kernel)
set_option maxRecDepth 100000 in
theorem zb_181 : Cond.instanceMethod yX4_complete ∈ zBig := zb_of (by decide +kernel) (by decide +kernel)
set_option maxRecDepth 100000 in
theorem zb_182 : Cond.selects RX4 yX4_complete yX4_complete ∈ zBig := zb_of (by decide +kernel) (by decide +kernel)
set_option maxRecDepth 100000 in
theorem zb_183 : Cond.fieldLink RX6 26 "PatternHouse$Reader" "length" "I" ∈ zBig := zb_of (by decide +kernel) (by decide +kernel)
set_option maxRecDepth 100000 in
theorem zb_184 : Cond.fieldLink RX6 15 "PatternHouse$Reader" "characters" "[I" ∈ zBig := zb_of (by decide +kernel) (by decide +kernel)
set_option maxRecDepth 100000 in
theorem zb_185 : Cond.code yX9_byteOf cX9_byteOf 3 (some .int) ∈ zBig := zb_of (by decide +kernel) (by decide +kernel)
set_option maxRecDepth 100000 in
theorem zb_186 : Cond.static yX9_byteOf ∈ zBig := zb_of (by decide +kernel) (by decide +kernel)
set_option maxRecDepth 100000 in
theorem zb_187 : Cond.fieldLink RX6 33 "PatternHouse$Reader" "fault" "I" ∈ zBig := zb_of (by decide +kernel) (by decide +kernel)
set_option maxRecDepth 100000 in
theorem zb_188 : Cond.fieldLink RX6 9 "PatternHouse$Reader" "faultPlace" "I" ∈ zBig := zb_of (by decide +kernel) (by decide +kernel)
set_option maxRecDepth 100000 in
theorem zb_189 : Cond.code yX6_fail cX6_fail 3 none ∈ zBig := zb_of (by decide +kernel) (by decide +kernel)
set_option maxRecDepth 100000 in
theorem zb_190 : Cond.methodLink RX6 56 yX6_fail ∈ zBig := zb_of (by decide +kernel) (by decide +kernel)
set_option maxRecDepth 100000 in
theorem zb_191 : Cond.instanceMethod yX6_fail ∈ zBig := zb_of (by decide +kernel) (by decide +kernel)
set_option maxRecDepth 100000 in
theorem zb_192 : Cond.selects RX6 yX6_fail yX6_fail ∈ zBig := zb_of (by decide +kernel) (by decide +kernel)
set_option maxRecDepth 100000 in
theorem zb_193 : Cond.initialized RX6 ∈ zBig := zb_of (by decide +kernel) (by decide +kernel)
set_option maxRecDepth 100000 in
theorem zb_194 : Cond.fieldLink RX6 103 "PatternHouse$Reader" "openedAt" "I" ∈ zBig := zb_of (by decide +kernel) (by decide +kernel)
set_option maxRecDepth 100000 in
theorem zb_195 : Cond.fieldLink RX6 106 "PatternHouse$Reader" "set" "J" ∈ zBig := zb_of (by decide +kernel) (by decide +kernel)
set_option maxRecDepth 100000 in
theorem zb_196 : Cond.fieldLink RX6 110 "PatternHouse$Reader" "negated" "Z" ∈ zBig := zb_of (by decide +kernel) (by decide +kernel)
set_option maxRecDepth 100000 in
theorem zb_197 : Cond.fieldLink RX6 36 "PatternHouse$Reader" "mode" "I" ∈ zBig := zb_of (by decide +kernel) (by decide +kernel)
set_option maxRecDepth 100000 in
theorem zb_198 : Cond.fieldLink RX6 22 "PatternHouse$Reader" "layer" "LPatternHouse$Layer;" ∈ zBig := zb_of (by decide +kernel) (by decide +kernel)
set_option maxRecDepth 100000 in
theorem zb_199 : Cond.code yX3_allowNone cX3_allowNone 1 none ∈ zBig := zb_of (by decide +kernel) (by decide +kernel)
set_option maxRecDepth 100000 in
theorem zb_200 : Cond.methodLink RX6 100 yX3_allowNone ∈ zBig := zb_of (by decide +kernel) (by decide +kernel)
set_option maxRecDepth 100000 in
theorem zb_201 : Cond.instanceMethod yX3_allowNone ∈ zBig := zb_of (by decide +kernel) (by decide +kernel)
set_option maxRecDepth 100000 in
theorem zb_202 : Cond.selects RX3 yX3_allowNone yX3_allowNone ∈ zBig := zb_of (by decide +kernel) (by decide +kernel)
set_option maxRecDepth 100000 in
theorem zb_203 : Cond.code yX3_allowMore cX3_allowMore 1 none ∈ zBig := zb_of (by decide +kernel) (by decide +kernel)
set_option maxRecDepth 100000 in
theorem zb_204 : Cond.methodLink RX6 97 yX3_allowMore ∈ zBig := zb_of (by decide +kernel) (by decide +kernel)
set_option maxRecDepth 100000 in
theorem zb_205 : Cond.instanceMethod yX3_allowMore ∈ zBig := zb_of (by decide +kernel) (by decide +kernel)
set_option maxRecDepth 100000 in
theorem zb_206 : Cond.selects RX3 yX3_allowMore yX3_allowMore ∈ zBig := zb_of (by decide +kernel) (by decide +kernel)
set_option maxRecDepth 100000 in
theorem zb_207 : Cond.fieldLink RX6 90 "PatternHouse$Layer" "hasPart" "Z" ∈ zBig := zb_of (by decide +kernel) (by decide +kernel)
set_option maxRecDepth 100000 in
theorem zb_208 : Cond.code yX6_takeSuffix cX6_takeSuffix 3 none ∈ zBig := zb_of (by decide +kernel) (by decide +kernel)
set_option maxRecDepth 100000 in
theorem zb_209 : Cond.methodLink RX6 94 yX6_takeSuffix ∈ zBig := zb_of (by decide +kernel) (by decide +kernel)
set_option maxRecDepth 100000 in
theorem zb_210 : Cond.instanceMethod yX6_takeSuffix ∈ zBig := zb_of (by decide +kernel) (by decide +kernel)
set_option maxRecDepth 100000 in
theorem zb_211 : Cond.selects RX6 yX6_takeSuffix yX6_takeSuffix ∈ zBig := zb_of (by decide +kernel) (by decide +kernel)
set_option maxRecDepth 100000 in
theorem zb_212 : Cond.code yX9_letterOf cX9_letterOf 1 (some .int) ∈ zBig := zb_of (by decide +kernel) (by decide +kernel)
set_option maxRecDepth 100000 in
theorem zb_213 : Cond.static yX9_letterOf ∈ zBig := zb_of (by decide +kernel) (by decide +kernel)
set_option maxRecDepth 100000 in
theorem zb_214 : Cond.fieldLink RX6 53 "PatternHouse$Layer" "depth" "I" ∈ zBig := zb_of (by decide +kernel) (by decide +kernel)
set_option maxRecDepth 100000 in
theorem zb_215 : Cond.methodLink RX6 84 yX3_endRow ∈ zBig := zb_of (by decide +kernel) (by decide +kernel)
set_option maxRecDepth 100000 in
theorem zb_216 : Cond.code yX3_closeBracket cX3_closeBracket 2 none ∈ zBig := zb_of (by decide +kernel) (by decide +kernel)
set_option maxRecDepth 100000 in
theorem zb_217 : Cond.methodLink RX6 87 yX3_closeBracket ∈ zBig := zb_of (by decide +kernel) (by decide +kernel)
set_option maxRecDepth 100000 in
theorem zb_218 : Cond.instanceMethod yX3_closeBracket ∈ zBig := zb_of (by decide +kernel) (by decide +kernel)
set_option maxRecDepth 100000 in
theorem zb_219 : Cond.selects RX3 yX3_closeBracket yX3_closeBracket ∈ zBig := zb_of (by decide +kernel) (by decide +kernel)
set_option maxRecDepth 100000 in
theorem zb_220 : Cond.code yX3_openBracket cX3_openBracket 1 (some .boolean) ∈ zBig := zb_of (by decide +kernel) (by decide +kernel)
set_option maxRecDepth 100000 in
theorem zb_221 : Cond.methodLink RX6 80 yX3_openBracket ∈ zBig := zb_of (by decide +kernel) (by decide +kernel)
set_option maxRecDepth 100000 in
theorem zb_222 : Cond.instanceMethod yX3_openBracket ∈ zBig := zb_of (by decide +kernel) (by decide +kernel)
set_option maxRecDepth 100000 in
theorem zb_223 : Cond.selects RX3 yX3_openBracket yX3_openBracket ∈ zBig := zb_of (by decide +kernel) (by decide +kernel)
set_option maxRecDepth 100000 in
theorem zb_224 : Cond.code yX6_failUnless cX6_failUnless 4 none ∈ zBig := zb_of (by decide +kernel) (by decide +kernel)
set_option maxRecDepth 100000 in
theorem zb_225 : Cond.methodLink RX6 70 yX6_failUnless ∈ zBig := zb_of (by decide +kernel) (by decide +kernel)
set_option maxRecDepth 100000 in
theorem zb_226 : Cond.instanceMethod yX6_failUnless ∈ zBig := zb_of (by decide +kernel) (by decide +kernel)
set_option maxRecDepth 100000 in
theorem zb_227 : Cond.selects RX6 yX6_failUnless yX6_failUnless ∈ zBig := zb_of (by decide +kernel) (by decide +kernel)
set_option maxRecDepth 100000 in
theorem zb_228 : Cond.code yX6_openSet cX6_openSet 2 none ∈ zBig := zb_of (by decide +kernel) (by decide +kernel)
set_option maxRecDepth 100000 in
theorem zb_229 : Cond.methodLink RX6 76 yX6_openSet ∈ zBig := zb_of (by decide +kernel) (by decide +kernel)
set_option maxRecDepth 100000 in
theorem zb_230 : Cond.instanceMethod yX6_openSet ∈ zBig := zb_of (by decide +kernel) (by decide +kernel)
set_option maxRecDepth 100000 in
theorem zb_231 : Cond.selects RX6 yX6_openSet yX6_openSet ∈ zBig := zb_of (by decide +kernel) (by decide +kernel)
set_option maxRecDepth 100000 in
theorem zb_232 : Cond.constantLong RX6 74 (68719476735) ∈ zBig := zb_of (by decide +kernel) (by decide +kernel)
set_option maxRecDepth 100000 in
theorem zb_233 : Cond.code yX3_addAtom cX3_addAtom 5 (some .boolean) ∈ zBig := zb_of (by decide +kernel) (by decide +kernel)
set_option maxRecDepth 100000 in
theorem zb_234 : Cond.methodLink RX6 66 yX3_addAtom ∈ zBig := zb_of (by decide +kernel) (by decide +kernel)
set_option maxRecDepth 100000 in
theorem zb_235 : Cond.instanceMethod yX3_addAtom ∈ zBig := zb_of (by decide +kernel) (by decide +kernel)
set_option maxRecDepth 100000 in
theorem zb_236 : Cond.selects RX3 yX3_addAtom yX3_addAtom ∈ zBig := zb_of (by decide +kernel) (by decide +kernel)
set_option maxRecDepth 100000 in
theorem zb_237 : Cond.fieldLink RX6 118 "PatternHouse$Reader" "latestLetter" "I" ∈ zBig := zb_of (by decide +kernel) (by decide +kernel)
set_option maxRecDepth 100000 in
theorem zb_238 : Cond.constantLong RX6 124 (2) ∈ zBig := zb_of (by decide +kernel) (by decide +kernel)
set_option maxRecDepth 100000 in
theorem zb_239 : Cond.fieldLink RX6 121 "PatternHouse$Reader" "latestAt" "I" ∈ zBig := zb_of (by decide +kernel) (by decide +kernel)
set_option maxRecDepth 100000 in
theorem zb_240 : Cond.constantLong RX6 116 (-1) ∈ zBig := zb_of (by decide +kernel) (by decide +kernel)
set_option maxRecDepth 100000 in
theorem zb_241 : Cond.code yX6_takeSetLetter cX6_takeSetLetter 3 none ∈ zBig := zb_of (by decide +kernel) (by decide +kernel)
set_option maxRecDepth 100000 in
theorem zb_242 : Cond.methodLink RX6 113 yX6_takeSetLetter ∈ zBig := zb_of (by decide +kernel) (by decide +kernel)
set_option maxRecDepth 100000 in
theorem zb_243 : Cond.instanceMethod yX6_takeSetLetter ∈ zBig := zb_of (by decide +kernel) (by decide +kernel)
set_option maxRecDepth 100000 in
theorem zb_244 : Cond.selects RX6 yX6_takeSetLetter yX6_takeSetLetter ∈ zBig := zb_of (by decide +kernel) (by decide +kernel)
set_option maxRecDepth 100000 in
theorem zb_245 : Cond.fieldLink RX6 126 "PatternHouse$Reader" "least" "I" ∈ zBig := zb_of (by decide +kernel) (by decide +kernel)
set_option maxRecDepth 100000 in
theorem zb_246 : Cond.fieldLink RX6 129 "PatternHouse$Reader" "most" "I" ∈ zBig := zb_of (by decide +kernel) (by decide +kernel)
set_option maxRecDepth 100000 in
theorem zb_247 : Cond.code yX3_repeat cX3_repeat 11 (some .boolean) ∈ zBig := zb_of (by decide +kernel) (by decide +kernel)
set_option maxRecDepth 100000 in
theorem zb_248 : Cond.methodLink RX6 135 yX3_repeat ∈ zBig := zb_of (by decide +kernel) (by decide +kernel)
set_option maxRecDepth 100000 in
theorem zb_249 : Cond.instanceMethod yX3_repeat ∈ zBig := zb_of (by decide +kernel) (by decide +kernel)
set_option maxRecDepth 100000 in
theorem zb_250 : Cond.selects RX3 yX3_repeat yX3_repeat ∈ zBig := zb_of (by decide +kernel) (by decide +kernel)
set_option maxRecDepth 100000 in
theorem zb_251 : Cond.code yX6_closeTimes cX6_closeTimes 1 none ∈ zBig := zb_of (by decide +kernel) (by decide +kernel)
set_option maxRecDepth 100000 in
theorem zb_252 : Cond.methodLink RX6 132 yX6_closeTimes ∈ zBig := zb_of (by decide +kernel) (by decide +kernel)
set_option maxRecDepth 100000 in
theorem zb_253 : Cond.instanceMethod yX6_closeTimes ∈ zBig := zb_of (by decide +kernel) (by decide +kernel)
set_option maxRecDepth 100000 in
theorem zb_254 : Cond.selects RX6 yX6_closeTimes yX6_closeTimes ∈ zBig := zb_of (by decide +kernel) (by decide +kernel)
set_option maxRecDepth 100000 in
theorem zb_255 : Cond.code yX3_finish cX3_finish 1 none ∈ zBig := zb_of (by decide +kernel) (by decide +kernel)
set_option maxRecDepth 100000 in
theorem zb_256 : Cond.methodLink RX6 59 yX3_finish ∈ zBig := zb_of (by decide +kernel) (by decide +kernel)
set_option maxRecDepth 100000 in
theorem zb_257 : Cond.instanceMethod yX3_finish ∈ zBig := zb_of (by decide +kernel) (by decide +kernel)
set_option maxRecDepth 100000 in
theorem zb_258 : Cond.selects RX3 yX3_finish yX3_finish ∈ zBig := zb_of (by decide +kernel) (by decide +kernel)
set_option maxRecDepth 100000 in
theorem zb_259 : Cond.code yX6_takeInTimes cX6_takeInTimes 4 none ∈ zBig := zb_of (by decide +kernel) (by decide +kernel)
set_option maxRecDepth 100000 in
theorem zb_260 : Cond.methodLink RX6 50 yX6_takeInTimes ∈ zBig := zb_of (by decide +kernel) (by decide +kernel)
set_option maxRecDepth 100000 in
theorem zb_261 : Cond.instanceMethod yX6_takeInTimes ∈ zBig := zb_of (by decide +kernel) (by decide +kernel)
set_option maxRecDepth 100000 in
theorem zb_262 : Cond.selects RX6 yX6_takeInTimes yX6_takeInTimes ∈ zBig := zb_of (by decide +kernel) (by decide +kernel)
set_option maxRecDepth 100000 in
theorem zb_263 : Cond.code yX6_takeInSet cX6_takeInSet 4 none ∈ zBig := zb_of (by decide +kernel) (by decide +kernel)
set_option maxRecDepth 100000 in
theorem zb_264 : Cond.methodLink RX6 47 yX6_takeInSet ∈ zBig := zb_of (by decide +kernel) (by decide +kernel)
set_option maxRecDepth 100000 in
theorem zb_265 : Cond.instanceMethod yX6_takeInSet ∈ zBig := zb_of (by decide +kernel) (by decide +kernel)
set_option maxRecDepth 100000 in
theorem zb_266 : Cond.selects RX6 yX6_takeInSet yX6_takeInSet ∈ zBig := zb_of (by decide +kernel) (by decide +kernel)
set_option maxRecDepth 100000 in
theorem zb_267 : Cond.code yX6_takeInRow cX6_takeInRow 4 none ∈ zBig := zb_of (by decide +kernel) (by decide +kernel)
set_option maxRecDepth 100000 in
theorem zb_268 : Cond.methodLink RX6 43 yX6_takeInRow ∈ zBig := zb_of (by decide +kernel) (by decide +kernel)
set_option maxRecDepth 100000 in
theorem zb_269 : Cond.instanceMethod yX6_takeInRow ∈ zBig := zb_of (by decide +kernel) (by decide +kernel)
set_option maxRecDepth 100000 in
theorem zb_270 : Cond.selects RX6 yX6_takeInRow yX6_takeInRow ∈ zBig := zb_of (by decide +kernel) (by decide +kernel)
set_option maxRecDepth 100000 in
theorem zb_271 : Cond.code yX3_begin cX3_begin 2 none ∈ zBig := zb_of (by decide +kernel) (by decide +kernel)
set_option maxRecDepth 100000 in
theorem zb_272 : Cond.methodLink RX6 39 yX3_begin ∈ zBig := zb_of (by decide +kernel) (by decide +kernel)
set_option maxRecDepth 100000 in
theorem zb_273 : Cond.instanceMethod yX3_begin ∈ zBig := zb_of (by decide +kernel) (by decide +kernel)
set_option maxRecDepth 100000 in
theorem zb_274 : Cond.selects RX3 yX3_begin yX3_begin ∈ zBig := zb_of (by decide +kernel) (by decide +kernel)
set_option maxRecDepth 100000 in
theorem zb_275 : Cond.fieldLink RX8 33 "PatternHouse$Text" "looked" "Z" ∈ zBig := zb_of (by decide +kernel) (by decide +kernel)
set_option maxRecDepth 100000 in
theorem zb_276 : Cond.fieldLink RX8 21 "PatternHouse$Text" "length" "I" ∈ zBig := zb_of (by decide +kernel) (by decide +kernel)
set_option maxRecDepth 100000 in
theorem zb_277 : Cond.fieldLink RX8 18 "PatternHouse$Text" "letters" "[I" ∈ zBig := zb_of (by decide +kernel) (by decide +kernel)
set_option maxRecDepth 100000 in
theorem zb_278 : Cond.methodLink RX8 53 yX4_behindAny ∈ zBig := zb_of (by decide +kernel) (by decide +kernel)
set_option maxRecDepth 100000 in
theorem zb_279 : Cond.fieldLink RX8 46 "PatternHouse$Pattern" "havers" "[J" ∈ zBig := zb_of (by decide +kernel) (by decide +kernel)
set_option maxRecDepth 100000 in
theorem zb_280 : Cond.fieldLink RX8 50 "PatternHouse$Pattern" "lasts" "J" ∈ zBig := zb_of (by decide +kernel) (by decide +kernel)
set_option maxRecDepth 100000 in
theorem zb_281 : Cond.fieldLink RX8 37 "PatternHouse$Pattern" "hasEmptyWord" "Z" ∈ zBig := zb_of (by decide +kernel) (by decide +kernel)
set_option maxRecDepth 100000 in
theorem zb_282 : Cond.fieldLink RX8 42 "PatternHouse$Pattern" "firsts" "J" ∈ zBig := zb_of (by decide +kernel) (by decide +kernel)
set_option maxRecDepth 100000 in
theorem zb_283 : Cond.fieldLink RX8 9 "PatternHouse$Text" "begins" "[I" ∈ zBig := zb_of (by decide +kernel) (by decide +kernel)
set_option maxRecDepth 100000 in
theorem zb_284 : Cond.fieldLink RX8 57 "PatternHouse$Text" "found" "I" ∈ zBig := zb_of (by decide +kernel) (by decide +kernel)
set_option maxRecDepth 100000 in
theorem zb_285 : Cond.fieldLink RX8 15 "PatternHouse$Text" "ends" "[I" ∈ zBig := zb_of (by decide +kernel) (by decide +kernel)
set_option maxRecDepth 100000 in
theorem zb_286 : Cond.code yX8_longestEnd cX8_longestEnd 9 (some .int) ∈ zBig := zb_of (by decide +kernel) (by decide +kernel)
set_option maxRecDepth 100000 in
theorem zb_287 : Cond.methodLink RX8 60 yX8_longestEnd ∈ zBig := zb_of (by decide +kernel) (by decide +kernel)
set_option maxRecDepth 100000 in
theorem zb_288 : Cond.instanceMethod yX8_longestEnd ∈ zBig := zb_of (by decide +kernel) (by decide +kernel)
set_option maxRecDepth 100000 in
theorem zb_289 : Cond.selects RX8 yX8_longestEnd yX8_longestEnd ∈ zBig := zb_of (by decide +kernel) (by decide +kernel)
set_option maxRecDepth 100000 in
theorem zb_290 : Cond.initialized RX8 ∈ zBig := zb_of (by decide +kernel) (by decide +kernel)
set_option maxRecDepth 100000 in
theorem zb_291 : Cond.fieldLink RX9 10 "PatternHouse" "reader" "LPatternHouse$Reader;" ∈ zBig := zb_of (by decide +kernel) (by decide +kernel)
set_option maxRecDepth 100000 in
theorem zb_292 : Cond.fieldLink RX9 54 "PatternHouse$Reader" "length" "I" ∈ zBig := zb_of (by decide +kernel) (by decide +kernel)
set_option maxRecDepth 100000 in
theorem zb_293 : Cond.code yX6_append cX6_append 5 none ∈ zBig := zb_of (by decide +kernel) (by decide +kernel)
set_option maxRecDepth 100000 in
theorem zb_294 : Cond.methodLink RX9 61 yX6_append ∈ zBig := zb_of (by decide +kernel) (by decide +kernel)
set_option maxRecDepth 100000 in
theorem zb_295 : Cond.instanceMethod yX6_append ∈ zBig := zb_of (by decide +kernel) (by decide +kernel)
set_option maxRecDepth 100000 in
theorem zb_296 : Cond.selects RX6 yX6_append yX6_append ∈ zBig := zb_of (by decide +kernel) (by decide +kernel)
set_option maxRecDepth 100000 in
theorem zb_297 : Cond.fieldLink RX9 47 "PatternHouse" "patterns" "[LPatternHouse$Pattern;" ∈ zBig := zb_of (by decide +kernel) (by decide +kernel)
set_option maxRecDepth 100000 in
theorem zb_298 : Cond.fieldLink RX9 73 "PatternHouse" "current" "LPatternHouse$Pattern;" ∈ zBig := zb_of (by decide +kernel) (by decide +kernel)
set_option maxRecDepth 100000 in
theorem zb_299 : Cond.fieldLink RX9 165 "PatternHouse" "kept" "LPatternHouse$Pattern;" ∈ zBig := zb_of (by decide +kernel) (by decide +kernel)
set_option maxRecDepth 100000 in
theorem zb_300 : Cond.code yX9_freePattern cX9_freePattern 3 (some (.object "PatternHouse$Pattern")) ∈ zBig := zb_of (by decide +kernel) (by decide +kernel)
set_option maxRecDepth 100000 in
theorem zb_301 : Cond.methodLink RX9 65 yX9_freePattern ∈ zBig := zb_of (by decide +kernel) (by decide +kernel)
set_option maxRecDepth 100000 in
theorem zb_302 : Cond.instanceMethod yX9_freePattern ∈ zBig := zb_of (by decide +kernel) (by decide +kernel)
set_option maxRecDepth 100000 in
theorem zb_303 : Cond.selects RX9 yX9_freePattern yX9_freePattern ∈ zBig := zb_of (by decide +kernel) (by decide +kernel)
set_option maxRecDepth 100000 in
theorem zb_304 : Cond.code yX6_layOut cX6_layOut 4 (some .int) ∈ zBig := zb_of (by decide +kernel) (by decide +kernel)
set_option maxRecDepth 100000 in
theorem zb_305 : Cond.methodLink RX9 69 yX6_layOut ∈ zBig := zb_of (by decide +kernel) (by decide +kernel)
set_option maxRecDepth 100000 in
theorem zb_306 : Cond.instanceMethod yX6_layOut ∈ zBig := zb_of (by decide +kernel) (by decide +kernel)
set_option maxRecDepth 100000 in
theorem zb_307 : Cond.selects RX6 yX6_layOut yX6_layOut ∈ zBig := zb_of (by decide +kernel) (by decide +kernel)
set_option maxRecDepth 100000 in
theorem zb_308 : Cond.fieldLink RX9 19 "PatternHouse" "text" "LPatternHouse$Text;" ∈ zBig := zb_of (by decide +kernel) (by decide +kernel)
set_option maxRecDepth 100000 in
theorem zb_309 : Cond.code yX8_forgetFinds cX8_forgetFinds 1 none ∈ zBig := zb_of (by decide +kernel) (by decide +kernel)
set_option maxRecDepth 100000 in
theorem zb_310 : Cond.methodLink RX9 77 yX8_forgetFinds ∈ zBig := zb_of (by decide +kernel) (by decide +kernel)
set_option maxRecDepth 100000 in
theorem zb_311 : Cond.instanceMethod yX8_forgetFinds ∈ zBig := zb_of (by decide +kernel) (by decide +kernel)
set_option maxRecDepth 100000 in
theorem zb_312 : Cond.selects RX8 yX8_forgetFinds yX8_forgetFinds ∈ zBig := zb_of (by decide +kernel) (by decide +kernel)
set_option maxRecDepth 100000 in
theorem zb_313 : Cond.fieldLink RX9 80 "PatternHouse$Reader" "faultPlace" "I" ∈ zBig := zb_of (by decide +kernel) (by decide +kernel)
set_option maxRecDepth 100000 in
theorem zb_314 : Cond.code yX9_thePattern cX9_thePattern 1 (some (.object "PatternHouse$Pattern")) ∈ zBig := zb_of (by decide +kernel) (by decide +kernel)
set_option maxRecDepth 100000 in
theorem zb_315 : Cond.methodLink RX9 83 yX9_thePattern ∈ zBig := zb_of (by decide +kernel) (by decide +kernel)
set_option maxRecDepth 100000 in
theorem zb_316 : Cond.instanceMethod yX9_thePattern ∈ zBig := zb_of (by decide +kernel) (by decide +kernel)
set_option maxRecDepth 100000 in
theorem zb_317 : Cond.selects RX9 yX9_thePattern yX9_thePattern ∈ zBig := zb_of (by decide +kernel) (by decide +kernel)
set_option maxRecDepth 100000 in
theorem zb_318 : Cond.fieldLink RX9 86 "PatternHouse$Pattern" "size" "I" ∈ zBig := zb_of (by decide +kernel) (by decide +kernel)
set_option maxRecDepth 100000 in
theorem zb_319 : Cond.fieldLink RX9 89 "PatternHouse$Pattern" "hasEmptyWord" "Z" ∈ zBig := zb_of (by decide +kernel) (by decide +kernel)
set_option maxRecDepth 100000 in
theorem zb_320 : Cond.methodLink RX9 103 yX9_holds ∈ zBig := zb_of (by decide +kernel) (by decide +kernel)
set_option maxRecDepth 100000 in
theorem zb_321 : Cond.fieldLink RX9 100 "PatternHouse$Pattern" "lasts" "J" ∈ zBig := zb_of (by decide +kernel) (by decide +kernel)
set_option maxRecDepth 100000 in
theorem zb_322 : Cond.fieldLink RX9 96 "PatternHouse$Pattern" "firsts" "J" ∈ zBig := zb_of (by decide +kernel) (by decide +kernel)
set_option maxRecDepth 100000 in
theorem zb_323 : Cond.fieldLink RX9 107 "PatternHouse$Pattern" "behind" "[J" ∈ zBig := zb_of (by decide +kernel) (by decide +kernel)
set_option maxRecDepth 100000 in
theorem zb_324 : Cond.fieldLink RX9 111 "PatternHouse$Pattern" "lettersOf" "[J" ∈ zBig := zb_of (by decide +kernel) (by decide +kernel)
set_option maxRecDepth 100000 in
theorem zb_325 : Cond.methodLink RX9 189 yX9_byteOf ∈ zBig := zb_of (by decide +kernel) (by decide +kernel)
set_option maxRecDepth 100000 in
theorem zb_326 : Cond.methodLink RX9 193 yX9_letterOf ∈ zBig := zb_of (by decide +kernel) (by decide +kernel)
set_option maxRecDepth 100000 in
theorem zb_327 : Cond.code yX9_allLetters cX9_allLetters 4 (some .boolean) ∈ zBig := zb_of (by decide +kernel) (by decide +kernel)
set_option maxRecDepth 100000 in
theorem zb_328 : Cond.methodLink RX9 114 yX9_allLetters ∈ zBig := zb_of (by decide +kernel) (by decide +kernel)
set_option maxRecDepth 100000 in
theorem zb_329 : Cond.static yX9_allLetters ∈ zBig := zb_of (by decide +kernel) (by decide +kernel)
set_option maxRecDepth 100000 in
theorem zb_330 : Cond.fieldLink RX9 117 "PatternHouse$Text" "length" "I" ∈ zBig := zb_of (by decide +kernel) (by decide +kernel)
set_option maxRecDepth 100000 in
theorem zb_331 : Cond.code yX8_append cX8_append 5 none ∈ zBig := zb_of (by decide +kernel) (by decide +kernel)
set_option maxRecDepth 100000 in
theorem zb_332 : Cond.methodLink RX9 118 yX8_append ∈ zBig := zb_of (by decide +kernel) (by decide +kernel)
set_option maxRecDepth 100000 in
theorem zb_333 : Cond.instanceMethod yX8_append ∈ zBig := zb_of (by decide +kernel) (by decide +kernel)
set_option maxRecDepth 100000 in
theorem zb_334 : Cond.selects RX8 yX8_append yX8_append ∈ zBig := zb_of (by decide +kernel) (by decide +kernel)
set_option maxRecDepth 100000 in
theorem zb_335 : Cond.code yX8_cutOff cX8_cutOff 1 none ∈ zBig := zb_of (by decide +kernel) (by decide +kernel)
set_option maxRecDepth 100000 in
theorem zb_336 : Cond.methodLink RX9 119 yX8_cutOff ∈ zBig := zb_of (by decide +kernel) (by decide +kernel)
set_option maxRecDepth 100000 in
theorem zb_337 : Cond.instanceMethod yX8_cutOff ∈ zBig := zb_of (by decide +kernel) (by decide +kernel)
set_option maxRecDepth 100000 in
theorem zb_338 : Cond.selects RX8 yX8_cutOff yX8_cutOff ∈ zBig := zb_of (by decide +kernel) (by decide +kernel)
set_option maxRecDepth 100000 in
theorem zb_339 : Cond.code yX8_isWordOf cX8_isWordOf 8 (some .boolean) ∈ zBig := zb_of (by decide +kernel) (by decide +kernel)
set_option maxRecDepth 100000 in
theorem zb_340 : Cond.methodLink RX9 122 yX8_isWordOf ∈ zBig := zb_of (by decide +kernel) (by decide +kernel)
set_option maxRecDepth 100000 in
theorem zb_341 : Cond.instanceMethod yX8_isWordOf ∈ zBig := zb_of (by decide +kernel) (by decide +kernel)
set_option maxRecDepth 100000 in
theorem zb_342 : Cond.selects RX8 yX8_isWordOf yX8_isWordOf ∈ zBig := zb_of (by decide +kernel) (by decide +kernel)
set_option maxRecDepth 100000 in
theorem zb_343 : Cond.code yX8_lookFor cX8_lookFor 5 none ∈ zBig := zb_of (by decide +kernel) (by decide +kernel)
set_option maxRecDepth 100000 in
theorem zb_344 : Cond.methodLink RX9 126 yX8_lookFor ∈ zBig := zb_of (by decide +kernel) (by decide +kernel)
set_option maxRecDepth 100000 in
theorem zb_345 : Cond.instanceMethod yX8_lookFor ∈ zBig := zb_of (by decide +kernel) (by decide +kernel)
set_option maxRecDepth 100000 in
theorem zb_346 : Cond.selects RX8 yX8_lookFor yX8_lookFor ∈ zBig := zb_of (by decide +kernel) (by decide +kernel)
set_option maxRecDepth 100000 in
theorem zb_347 : Cond.fieldLink RX9 130 "PatternHouse$Text" "found" "I" ∈ zBig := zb_of (by decide +kernel) (by decide +kernel)
set_option maxRecDepth 100000 in
theorem zb_348 : Cond.fieldLink RX9 137 "PatternHouse$Text" "begins" "[I" ∈ zBig := zb_of (by decide +kernel) (by decide +kernel)
set_option maxRecDepth 100000 in
theorem zb_349 : Cond.fieldLink RX9 133 "PatternHouse$Text" "ends" "[I" ∈ zBig := zb_of (by decide +kernel) (by decide +kernel)
set_option maxRecDepth 100000 in
theorem zb_350 : Cond.fieldLink RX9 178 "PatternHouse$Pattern" "automaton" "LPatternHouse$Automaton;" ∈ zBig := zb_of (by decide +kernel) (by decide +kernel)
set_option maxRecDepth 100000 in
theorem zb_351 : Cond.fieldLink RX9 182 "PatternHouse$Automaton" "isBuilt" "Z" ∈ zBig := zb_of (by decide +kernel) (by decide +kernel)
set_option maxRecDepth 100000 in
theorem zb_352 : Cond.fieldLink RX9 26 "PatternHouse" "register" "LPatternHouse$Register;" ∈ zBig := zb_of (by decide +kernel) (by decide +kernel)
set_option maxRecDepth 100000 in
theorem zb_353 : Cond.code yX0_build cX0_build 6 none ∈ zBig := zb_of (by decide +kernel) (by decide +kernel)
set_option maxRecDepth 100000 in
theorem zb_354 : Cond.methodLink RX9 185 yX0_build ∈ zBig := zb_of (by decide +kernel) (by decide +kernel)
set_option maxRecDepth 100000 in
theorem zb_355 : Cond.instanceMethod yX0_build ∈ zBig := zb_of (by decide +kernel) (by decide +kernel)
set_option maxRecDepth 100000 in
theorem zb_356 : Cond.selects RX0 yX0_build yX0_build ∈ zBig := zb_of (by decide +kernel) (by decide +kernel)
set_option maxRecDepth 100000 in
theorem zb_357 : Cond.code yX9_automatonOf cX9_automatonOf 3 (some (.object "PatternHouse$Automaton")) ∈ zBig := zb_of (by decide +kernel) (by decide +kernel)
set_option maxRecDepth 100000 in
theorem zb_358 : Cond.methodLink RX9 140 yX9_automatonOf ∈ zBig := zb_of (by decide +kernel) (by decide +kernel)
set_option maxRecDepth 100000 in
theorem zb_359 : Cond.instanceMethod yX9_automatonOf ∈ zBig := zb_of (by decide +kernel) (by decide +kernel)
set_option maxRecDepth 100000 in
theorem zb_360 : Cond.selects RX9 yX9_automatonOf yX9_automatonOf ∈ zBig := zb_of (by decide +kernel) (by decide +kernel)
set_option maxRecDepth 100000 in
theorem zb_361 : Cond.fieldLink RX9 144 "PatternHouse$Automaton" "size" "I" ∈ zBig := zb_of (by decide +kernel) (by decide +kernel)
set_option maxRecDepth 100000 in
theorem zb_362 : Cond.methodLink RX9 147 yX0_wayFrom ∈ zBig := zb_of (by decide +kernel) (by decide +kernel)
set_option maxRecDepth 100000 in
theorem zb_363 : Cond.fieldLink RX9 151 "PatternHouse$Automaton" "isGood" "[Z" ∈ zBig := zb_of (by decide +kernel) (by decide +kernel)
set_option maxRecDepth 100000 in
theorem zb_364 : Cond.fieldLink RX9 155 "PatternHouse$Automaton" "goesBeyond" "Z" ∈ zBig := zb_of (by decide +kernel) (by decide +kernel)
set_option maxRecDepth 100000 in
theorem zb_365 : Cond.fieldLink RX9 158 "PatternHouse$Automaton" "groups" "I" ∈ zBig := zb_of (by decide +kernel) (by decide +kernel)
set_option maxRecDepth 100000 in
theorem zb_366 : Cond.fieldLink RX9 33 "PatternHouse" "grouping" "LPatternHouse$Grouping;" ∈ zBig := zb_of (by decide +kernel) (by decide +kernel)
set_option maxRecDepth 100000 in
theorem zb_367 : Cond.code yX2_countGroups cX2_countGroups 7 (some .int) ∈ zBig := zb_of (by decide +kernel) (by decide +kernel)
set_option maxRecDepth 100000 in
theorem zb_368 : Cond.methodLink RX9 161 yX2_countGroups ∈ zBig := zb_of (by decide +kernel) (by decide +kernel)
set_option maxRecDepth 100000 in
theorem zb_369 : Cond.instanceMethod yX2_countGroups ∈ zBig := zb_of (by decide +kernel) (by decide +kernel)
set_option maxRecDepth 100000 in
theorem zb_370 : Cond.selects RX2 yX2_countGroups yX2_countGroups ∈ zBig := zb_of (by decide +kernel) (by decide +kernel)
set_option maxRecDepth 100000 in
theorem zb_371 : Cond.fieldLink RX9 40 "PatternHouse" "comparison" "LPatternHouse$Comparison;" ∈ zBig := zb_of (by decide +kernel) (by decide +kernel)
set_option maxRecDepth 100000 in
theorem zb_372 : Cond.code yX1_compare cX1_compare 4 (some .int) ∈ zBig := zb_of (by decide +kernel) (by decide +kernel)
set_option maxRecDepth 100000 in
theorem zb_373 : Cond.methodLink RX9 168 yX1_compare ∈ zBig := zb_of (by decide +kernel) (by decide +kernel)
set_option maxRecDepth 100000 in
theorem zb_374 : Cond.instanceMethod yX1_compare ∈ zBig := zb_of (by decide +kernel) (by decide +kernel)
set_option maxRecDepth 100000 in
theorem zb_375 : Cond.selects RX1 yX1_compare yX1_compare ∈ zBig := zb_of (by decide +kernel) (by decide +kernel)
set_option maxRecDepth 100000 in
theorem zb_376 : Cond.fieldLink RX9 172 "PatternHouse$Comparison" "wordLength" "I" ∈ zBig := zb_of (by decide +kernel) (by decide +kernel)
set_option maxRecDepth 100000 in
theorem zb_377 : Cond.fieldLink RX9 175 "PatternHouse$Comparison" "word" "[I" ∈ zBig := zb_of (by decide +kernel) (by decide +kernel)
set_option maxRecDepth 100000 in
theorem zb_378 : Cond.fieldLink RX10 116 "PatternHouseModel" "code" "I" ∈ zBig := zb_of (by decide +kernel) (by decide +kernel)
set_option maxRecDepth 100000 in
theorem zb_379 : Cond.fieldLink RX10 119 "PatternHouseModel" "typedSize" "I" ∈ zBig := zb_of (by decide +kernel) (by decide +kernel)
set_option maxRecDepth 100000 in
theorem zb_380 : Cond.fieldLink RX10 7 "PatternHouseModel" "typed" "[I" ∈ zBig := zb_of (by decide +kernel) (by decide +kernel)
set_option maxRecDepth 100000 in
theorem zb_381 : Cond.constantLong RX10 122 (255) ∈ zBig := zb_of (by decide +kernel) (by decide +kernel)
set_option maxRecDepth 100000 in
theorem zb_382 : Cond.fieldLink RX10 124 "PatternHouseModel" "fault" "I" ∈ zBig := zb_of (by decide +kernel) (by decide +kernel)
set_option maxRecDepth 100000 in
theorem zb_383 : Cond.fieldLink RX10 16 "PatternHouseModel" "where" "I" ∈ zBig := zb_of (by decide +kernel) (by decide +kernel)
set_option maxRecDepth 100000 in
theorem zb_384 : Cond.fieldLink RX10 127 "PatternHouseModel" "at" "I" ∈ zBig := zb_of (by decide +kernel) (by decide +kernel)
set_option maxRecDepth 100000 in
theorem zb_385 : Cond.code yX10_fail cX10_fail 3 none ∈ zBig := zb_of (by decide +kernel) (by decide +kernel)
set_option maxRecDepth 100000 in
theorem zb_386 : Cond.methodLink RX10 130 yX10_fail ∈ zBig := zb_of (by decide +kernel) (by decide +kernel)
set_option maxRecDepth 100000 in
theorem zb_387 : Cond.instanceMethod yX10_fail ∈ zBig := zb_of (by decide +kernel) (by decide +kernel)
set_option maxRecDepth 100000 in
theorem zb_388 : Cond.selects RX10 yX10_fail yX10_fail ∈ zBig := zb_of (by decide +kernel) (by decide +kernel)
set_option maxRecDepth 100000 in
theorem zb_389 : Cond.initialized RX10 ∈ zBig := zb_of (by decide +kernel) (by decide +kernel)
set_option maxRecDepth 100000 in
theorem zb_390 : Cond.fieldLink RX10 43 "PatternHouseModel" "rowEmpty" "[Z" ∈ zBig := zb_of (by decide +kernel) (by decide +kernel)
set_option maxRecDepth 100000 in
theorem zb_391 : Cond.fieldLink RX10 134 "PatternHouseModel" "depth" "I" ∈ zBig := zb_of (by decide +kernel) (by decide +kernel)
set_option maxRecDepth 100000 in
theorem zb_392 : Cond.fieldLink RX10 46 "PatternHouseModel" "rowFirst" "[J" ∈ zBig := zb_of (by decide +kernel) (by decide +kernel)
set_option maxRecDepth 100000 in
theorem zb_393 : Cond.fieldLink RX10 49 "PatternHouseModel" "rowLast" "[J" ∈ zBig := zb_of (by decide +kernel) (by decide +kernel)
set_option maxRecDepth 100000 in
theorem zb_394 : Cond.fieldLink RX10 52 "PatternHouseModel" "partIs" "[Z" ∈ zBig := zb_of (by decide +kernel) (by decide +kernel)
set_option maxRecDepth 100000 in
theorem zb_395 : Cond.fieldLink RX10 67 "PatternHouseModel" "choiceEmpty" "[Z" ∈ zBig := zb_of (by decide +kernel) (by decide +kernel)
set_option maxRecDepth 100000 in
theorem zb_396 : Cond.fieldLink RX10 70 "PatternHouseModel" "choiceFirst" "[J" ∈ zBig := zb_of (by decide +kernel) (by decide +kernel)
set_option maxRecDepth 100000 in
theorem zb_397 : Cond.fieldLink RX10 73 "PatternHouseModel" "choiceLast" "[J" ∈ zBig := zb_of (by decide +kernel) (by decide +kernel)
set_option maxRecDepth 100000 in
theorem zb_398 : Cond.fieldLink RX10 76 "PatternHouseModel" "openBase" "[I" ∈ zBig := zb_of (by decide +kernel) (by decide +kernel)
set_option maxRecDepth 100000 in
theorem zb_399 : Cond.fieldLink RX10 137 "PatternHouseModel" "total" "I" ∈ zBig := zb_of (by decide +kernel) (by decide +kernel)
set_option maxRecDepth 100000 in
theorem zb_400 : Cond.code yX10_beginRow cX10_beginRow 1 none ∈ zBig := zb_of (by decide +kernel) (by decide +kernel)
set_option maxRecDepth 100000 in
theorem zb_401 : Cond.methodLink RX10 140 yX10_beginRow ∈ zBig := zb_of (by decide +kernel) (by decide +kernel)
set_option maxRecDepth 100000 in
theorem zb_402 : Cond.instanceMethod yX10_beginRow ∈ zBig := zb_of (by decide +kernel) (by decide +kernel)
set_option maxRecDepth 100000 in
theorem zb_403 : Cond.selects RX10 yX10_beginRow yX10_beginRow ∈ zBig := zb_of (by decide +kernel) (by decide +kernel)
set_option maxRecDepth 100000 in
theorem zb_404 : Cond.code yX10_hasBit cX10_hasBit 3 (some .boolean) ∈ zBig := zb_of (by decide +kernel) (by decide +kernel)
set_option maxRecDepth 100000 in
theorem zb_405 : Cond.methodLink RX10 143 yX10_hasBit ∈ zBig := zb_of (by decide +kernel) (by decide +kernel)
set_option maxRecDepth 100000 in
theorem zb_406 : Cond.static yX10_hasBit ∈ zBig := zb_of (by decide +kernel) (by decide +kernel)
set_option maxRecDepth 100000 in
theorem zb_407 : Cond.fieldLink RX10 37 "PatternHouseModel" "follow" "[J" ∈ zBig := zb_of (by decide +kernel) (by decide +kernel)
set_option maxRecDepth 100000 in
theorem zb_408 : Cond.fieldLink RX10 58 "PatternHouseModel" "partEmpty" "[Z" ∈ zBig := zb_of (by decide +kernel) (by decide +kernel)
set_option maxRecDepth 100000 in
theorem zb_409 : Cond.fieldLink RX10 64 "PatternHouseModel" "partLast" "[J" ∈ zBig := zb_of (by decide +kernel) (by decide +kernel)
set_option maxRecDepth 100000 in
theorem zb_410 : Cond.fieldLink RX10 61 "PatternHouseModel" "partFirst" "[J" ∈ zBig := zb_of (by decide +kernel) (by decide +kernel)
set_option maxRecDepth 100000 in
theorem zb_411 : Cond.code yX10_link cX10_link 6 none ∈ zBig := zb_of (by decide +kernel) (by decide +kernel)
set_option maxRecDepth 100000 in
theorem zb_412 : Cond.methodLink RX10 147 yX10_link ∈ zBig := zb_of (by decide +kernel) (by decide +kernel)
set_option maxRecDepth 100000 in
theorem zb_413 : Cond.instanceMethod yX10_link ∈ zBig := zb_of (by decide +kernel) (by decide +kernel)
set_option maxRecDepth 100000 in
theorem zb_414 : Cond.selects RX10 yX10_link yX10_link ∈ zBig := zb_of (by decide +kernel) (by decide +kernel)
set_option maxRecDepth 100000 in
theorem zb_415 : Cond.code yX10_joinPart cX10_joinPart 2 none ∈ zBig := zb_of (by decide +kernel) (by decide +kernel)
set_option maxRecDepth 100000 in
theorem zb_416 : Cond.methodLink RX10 151 yX10_joinPart ∈ zBig := zb_of (by decide +kernel) (by decide +kernel)
set_option maxRecDepth 100000 in
theorem zb_417 : Cond.instanceMethod yX10_joinPart ∈ zBig := zb_of (by decide +kernel) (by decide +kernel)
set_option maxRecDepth 100000 in
theorem zb_418 : Cond.selects RX10 yX10_joinPart yX10_joinPart ∈ zBig := zb_of (by decide +kernel) (by decide +kernel)
set_option maxRecDepth 100000 in
theorem zb_419 : Cond.fieldLink RX10 55 "PatternHouseModel" "partBase" "[I" ∈ zBig := zb_of (by decide +kernel) (by decide +kernel)
set_option maxRecDepth 100000 in
theorem zb_420 : Cond.fieldLink RX10 40 "PatternHouseModel" "sets" "[J" ∈ zBig := zb_of (by decide +kernel) (by decide +kernel)
set_option maxRecDepth 100000 in
theorem zb_421 : Cond.code yX10_setPart cX10_setPart 7 none ∈ zBig := zb_of (by decide +kernel) (by decide +kernel)
set_option maxRecDepth 100000 in
theorem zb_422 : Cond.methodLink RX10 154 yX10_setPart ∈ zBig := zb_of (by decide +kernel) (by decide +kernel)
set_option maxRecDepth 100000 in
theorem zb_423 : Cond.instanceMethod yX10_setPart ∈ zBig := zb_of (by decide +kernel) (by decide +kernel)
set_option maxRecDepth 100000 in
theorem zb_424 : Cond.selects RX10 yX10_setPart yX10_setPart ∈ zBig := zb_of (by decide +kernel) (by decide +kernel)
set_option maxRecDepth 100000 in
theorem zb_425 : Cond.code yX10_atom cX10_atom 4 none ∈ zBig := zb_of (by decide +kernel) (by decide +kernel)
set_option maxRecDepth 100000 in
theorem zb_426 : Cond.methodLink RX10 175 yX10_atom ∈ zBig := zb_of (by decide +kernel) (by decide +kernel)
set_option maxRecDepth 100000 in
theorem zb_427 : Cond.instanceMethod yX10_atom ∈ zBig := zb_of (by decide +kernel) (by decide +kernel)
set_option maxRecDepth 100000 in
theorem zb_428 : Cond.selects RX10 yX10_atom yX10_atom ∈ zBig := zb_of (by decide +kernel) (by decide +kernel)
set_option maxRecDepth 100000 in
theorem zb_429 : Cond.code yX10_upTo cX10_upTo 5 (some .long) ∈ zBig := zb_of (by decide +kernel) (by decide +kernel)
set_option maxRecDepth 100000 in
theorem zb_430 : Cond.methodLink RX10 169 yX10_upTo ∈ zBig := zb_of (by decide +kernel) (by decide +kernel)
set_option maxRecDepth 100000 in
theorem zb_431 : Cond.static yX10_upTo ∈ zBig := zb_of (by decide +kernel) (by decide +kernel)
set_option maxRecDepth 100000 in
theorem zb_432 : Cond.constantLong RX10 173 (-1) ∈ zBig := zb_of (by decide +kernel) (by decide +kernel)
set_option maxRecDepth 100000 in
theorem zb_433 : Cond.code yX10_failHere cX10_failHere 1 none ∈ zBig := zb_of (by decide +kernel) (by decide +kernel)
set_option maxRecDepth 100000 in
theorem zb_434 : Cond.methodLink RX10 166 yX10_failHere ∈ zBig := zb_of (by decide +kernel) (by decide +kernel)
set_option maxRecDepth 100000 in
theorem zb_435 : Cond.instanceMethod yX10_failHere ∈ zBig := zb_of (by decide +kernel) (by decide +kernel)
set_option maxRecDepth 100000 in
theorem zb_436 : Cond.selects RX10 yX10_failHere yX10_failHere ∈ zBig := zb_of (by decide +kernel) (by decide +kernel)
set_option maxRecDepth 100000 in
theorem zb_437 : Cond.code yX10_here cX10_here 1 (some .int) ∈ zBig := zb_of (by decide +kernel) (by decide +kernel)
set_option maxRecDepth 100000 in
theorem zb_438 : Cond.methodLink RX10 158 yX10_here ∈ zBig := zb_of (by decide +kernel) (by decide +kernel)
set_option maxRecDepth 100000 in
theorem zb_439 : Cond.instanceMethod yX10_here ∈ zBig := zb_of (by decide +kernel) (by decide +kernel)
set_option maxRecDepth 100000 in
theorem zb_440 : Cond.selects RX10 yX10_here yX10_here ∈ zBig := zb_of (by decide +kernel) (by decide +kernel)
set_option maxRecDepth 100000 in
theorem zb_441 : Cond.code yX10_letterOf cX10_letterOf 1 (some .int) ∈ zBig := zb_of (by decide +kernel) (by decide +kernel)
set_option maxRecDepth 100000 in
theorem zb_442 : Cond.methodLink RX10 162 yX10_letterOf ∈ zBig := zb_of (by decide +kernel) (by decide +kernel)
set_option maxRecDepth 100000 in
theorem zb_443 : Cond.static yX10_letterOf ∈ zBig := zb_of (by decide +kernel) (by decide +kernel)
set_option maxRecDepth 100000 in
theorem zb_444 : Cond.fieldLink RX10 79 "PatternHouseModel" "spare" "[J" ∈ zBig := zb_of (by decide +kernel) (by decide +kernel)
set_option maxRecDepth 100000 in
theorem zb_445 : Cond.code yX10_times cX10_times 19 none ∈ zBig := zb_of (by decide +kernel) (by decide +kernel)
set_option maxRecDepth 100000 in
theorem zb_446 : Cond.methodLink RX10 182 yX10_times ∈ zBig := zb_of (by decide +kernel) (by decide +kernel)
set_option maxRecDepth 100000 in
theorem zb_447 : Cond.instanceMethod yX10_times ∈ zBig := zb_of (by decide +kernel) (by decide +kernel)
set_option maxRecDepth 100000 in
theorem zb_448 : Cond.selects RX10 yX10_times yX10_times ∈ zBig := zb_of (by decide +kernel) (by decide +kernel)
set_option maxRecDepth 100000 in
theorem zb_449 : Cond.code yX10_digit cX10_digit 2 (some .int) ∈ zBig := zb_of (by decide +kernel) (by decide +kernel)
set_option maxRecDepth 100000 in
theorem zb_450 : Cond.methodLink RX10 179 yX10_digit ∈ zBig := zb_of (by decide +kernel) (by decide +kernel)
set_option maxRecDepth 100000 in
theorem zb_451 : Cond.instanceMethod yX10_digit ∈ zBig := zb_of (by decide +kernel) (by decide +kernel)
set_option maxRecDepth 100000 in
theorem zb_452 : Cond.selects RX10 yX10_digit yX10_digit ∈ zBig := zb_of (by decide +kernel) (by decide +kernel)
set_option maxRecDepth 100000 in
theorem zb_453 : Cond.code yX10_readTimes cX10_readTimes 5 none ∈ zBig := zb_of (by decide +kernel) (by decide +kernel)
set_option maxRecDepth 100000 in
theorem zb_454 : Cond.methodLink RX10 186 yX10_readTimes ∈ zBig := zb_of (by decide +kernel) (by decide +kernel)
set_option maxRecDepth 100000 in
theorem zb_455 : Cond.instanceMethod yX10_readTimes ∈ zBig := zb_of (by decide +kernel) (by decide +kernel)
set_option maxRecDepth 100000 in
theorem zb_456 : Cond.selects RX10 yX10_readTimes yX10_readTimes ∈ zBig := zb_of (by decide +kernel) (by decide +kernel)
set_option maxRecDepth 100000 in
theorem zb_457 : Cond.code yX10_endRow cX10_endRow 1 none ∈ zBig := zb_of (by decide +kernel) (by decide +kernel)
set_option maxRecDepth 100000 in
theorem zb_458 : Cond.methodLink RX10 189 yX10_endRow ∈ zBig := zb_of (by decide +kernel) (by decide +kernel)
set_option maxRecDepth 100000 in
theorem zb_459 : Cond.instanceMethod yX10_endRow ∈ zBig := zb_of (by decide +kernel) (by decide +kernel)
set_option maxRecDepth 100000 in
theorem zb_460 : Cond.selects RX10 yX10_endRow yX10_endRow ∈ zBig := zb_of (by decide +kernel) (by decide +kernel)
set_option maxRecDepth 100000 in
theorem zb_461 : Cond.code yX10_suffix cX10_suffix 3 none ∈ zBig := zb_of (by decide +kernel) (by decide +kernel)
set_option maxRecDepth 100000 in
theorem zb_462 : Cond.methodLink RX10 201 yX10_suffix ∈ zBig := zb_of (by decide +kernel) (by decide +kernel)
set_option maxRecDepth 100000 in
theorem zb_463 : Cond.instanceMethod yX10_suffix ∈ zBig := zb_of (by decide +kernel) (by decide +kernel)
set_option maxRecDepth 100000 in
theorem zb_464 : Cond.selects RX10 yX10_suffix yX10_suffix ∈ zBig := zb_of (by decide +kernel) (by decide +kernel)
set_option maxRecDepth 100000 in
theorem zb_465 : Cond.code yX10_close cX10_close 7 none ∈ zBig := zb_of (by decide +kernel) (by decide +kernel)
set_option maxRecDepth 100000 in
theorem zb_466 : Cond.methodLink RX10 198 yX10_close ∈ zBig := zb_of (by decide +kernel) (by decide +kernel)
set_option maxRecDepth 100000 in
theorem zb_467 : Cond.instanceMethod yX10_close ∈ zBig := zb_of (by decide +kernel) (by decide +kernel)
set_option maxRecDepth 100000 in
theorem zb_468 : Cond.selects RX10 yX10_close yX10_close ∈ zBig := zb_of (by decide +kernel) (by decide +kernel)
set_option maxRecDepth 100000 in
theorem zb_469 : Cond.code yX10_beginChoices cX10_beginChoices 1 none ∈ zBig := zb_of (by decide +kernel) (by decide +kernel)
set_option maxRecDepth 100000 in
theorem zb_470 : Cond.methodLink RX10 195 yX10_beginChoices ∈ zBig := zb_of (by decide +kernel) (by decide +kernel)
set_option maxRecDepth 100000 in
theorem zb_471 : Cond.instanceMethod yX10_beginChoices ∈ zBig := zb_of (by decide +kernel) (by decide +kernel)
set_option maxRecDepth 100000 in
theorem zb_472 : Cond.selects RX10 yX10_beginChoices yX10_beginChoices ∈ zBig := zb_of (by decide +kernel) (by decide +kernel)
set_option maxRecDepth 100000 in
theorem zb_473 : Cond.code yX10_readSet cX10_readSet 10 none ∈ zBig := zb_of (by decide +kernel) (by decide +kernel)
set_option maxRecDepth 100000 in
theorem zb_474 : Cond.methodLink RX10 192 yX10_readSet ∈ zBig := zb_of (by decide +kernel) (by decide +kernel)
set_option maxRecDepth 100000 in
theorem zb_475 : Cond.instanceMethod yX10_readSet ∈ zBig := zb_of (by decide +kernel) (by decide +kernel)
set_option maxRecDepth 100000 in
theorem zb_476 : Cond.selects RX10 yX10_readSet yX10_readSet ∈ zBig := zb_of (by decide +kernel) (by decide +kernel)
set_option maxRecDepth 100000 in
theorem zb_477 : Cond.fieldLink RX10 20 "PatternHouseModel" "is" "[Z" ∈ zBig := zb_of (by decide +kernel) (by decide +kernel)
set_option maxRecDepth 100000 in
theorem zb_478 : Cond.fieldLink RX10 24 "PatternHouseModel" "count" "[I" ∈ zBig := zb_of (by decide +kernel) (by decide +kernel)
set_option maxRecDepth 100000 in
theorem zb_479 : Cond.fieldLink RX10 27 "PatternHouseModel" "hasEmpty" "[Z" ∈ zBig := zb_of (by decide +kernel) (by decide +kernel)
set_option maxRecDepth 100000 in
theorem zb_480 : Cond.fieldLink RX10 30 "PatternHouseModel" "first" "[J" ∈ zBig := zb_of (by decide +kernel) (by decide +kernel)
set_option maxRecDepth 100000 in
theorem zb_481 : Cond.fieldLink RX10 34 "PatternHouseModel" "last" "[J" ∈ zBig := zb_of (by decide +kernel) (by decide +kernel)
set_option maxRecDepth 100000 in
theorem zb_482 : Cond.code yX10_copy cX10_copy 4 none ∈ zBig := zb_of (by decide +kernel) (by decide +kernel)
set_option maxRecDepth 100000 in
theorem zb_483 : Cond.methodLink RX10 208 yX10_copy ∈ zBig := zb_of (by decide +kernel) (by decide +kernel)
set_option maxRecDepth 100000 in
theorem zb_484 : Cond.instanceMethod yX10_copy ∈ zBig := zb_of (by decide +kernel) (by decide +kernel)
set_option maxRecDepth 100000 in
theorem zb_485 : Cond.selects RX10 yX10_copy yX10_copy ∈ zBig := zb_of (by decide +kernel) (by decide +kernel)
set_option maxRecDepth 100000 in
theorem zb_486 : Cond.code yX10_readOne cX10_readOne 2 none ∈ zBig := zb_of (by decide +kernel) (by decide +kernel)
set_option maxRecDepth 100000 in
theorem zb_487 : Cond.methodLink RX10 205 yX10_readOne ∈ zBig := zb_of (by decide +kernel) (by decide +kernel)
set_option maxRecDepth 100000 in
theorem zb_488 : Cond.instanceMethod yX10_readOne ∈ zBig := zb_of (by decide +kernel) (by decide +kernel)
set_option maxRecDepth 100000 in
theorem zb_489 : Cond.selects RX10 yX10_readOne yX10_readOne ∈ zBig := zb_of (by decide +kernel) (by decide +kernel)
set_option maxRecDepth 100000 in
theorem zb_490 : Cond.code yX10_none cX10_none 1 (some .boolean) ∈ zBig := zb_of (by decide +kernel) (by decide +kernel)
set_option maxRecDepth 100000 in
theorem zb_491 : Cond.methodLink RX10 211 yX10_none ∈ zBig := zb_of (by decide +kernel) (by decide +kernel)
set_option maxRecDepth 100000 in
theorem zb_492 : Cond.instanceMethod yX10_none ∈ zBig := zb_of (by decide +kernel) (by decide +kernel)
set_option maxRecDepth 100000 in
theorem zb_493 : Cond.selects RX10 yX10_none yX10_none ∈ zBig := zb_of (by decide +kernel) (by decide +kernel)
set_option maxRecDepth 100000 in
theorem zb_494 : Cond.code yX10_noPosition cX10_noPosition 2 (some .boolean) ∈ zBig := zb_of (by decide +kernel) (by decide +kernel)
set_option maxRecDepth 100000 in
theorem zb_495 : Cond.methodLink RX10 215 yX10_noPosition ∈ zBig := zb_of (by decide +kernel) (by decide +kernel)
set_option maxRecDepth 100000 in
theorem zb_496 : Cond.instanceMethod yX10_noPosition ∈ zBig := zb_of (by decide +kernel) (by decide +kernel)
set_option maxRecDepth 100000 in
theorem zb_497 : Cond.selects RX10 yX10_noPosition yX10_noPosition ∈ zBig := zb_of (by decide +kernel) (by decide +kernel)
set_option maxRecDepth 100000 in
theorem zb_498 : Cond.fieldLink RX10 219 "PatternHouseModel" "textSize" "I" ∈ zBig := zb_of (by decide +kernel) (by decide +kernel)
set_option maxRecDepth 100000 in
theorem zb_499 : Cond.fieldLink RX10 13 "PatternHouseModel" "text" "[I" ∈ zBig := zb_of (by decide +kernel) (by decide +kernel)
set_option maxRecDepth 100000 in
theorem zb_500 : Cond.code yX10_goOn cX10_goOn 9 (some .long) ∈ zBig := zb_of (by decide +kernel) (by decide +kernel)
set_option maxRecDepth 100000 in
theorem zb_501 : Cond.methodLink RX10 222 yX10_goOn ∈ zBig := zb_of (by decide +kernel) (by decide +kernel)
set_option maxRecDepth 100000 in
theorem zb_502 : Cond.instanceMethod yX10_goOn ∈ zBig := zb_of (by decide +kernel) (by decide +kernel)
set_option maxRecDepth 100000 in
theorem zb_503 : Cond.selects RX10 yX10_goOn yX10_goOn ∈ zBig := zb_of (by decide +kernel) (by decide +kernel)
set_option maxRecDepth 100000 in
theorem zb_504 : Cond.code yX10_longest cX10_longest 6 (some .int) ∈ zBig := zb_of (by decide +kernel) (by decide +kernel)
set_option maxRecDepth 100000 in
theorem zb_505 : Cond.methodLink RX10 229 yX10_longest ∈ zBig := zb_of (by decide +kernel) (by decide +kernel)
set_option maxRecDepth 100000 in
theorem zb_506 : Cond.instanceMethod yX10_longest ∈ zBig := zb_of (by decide +kernel) (by decide +kernel)
set_option maxRecDepth 100000 in
theorem zb_507 : Cond.selects RX10 yX10_longest yX10_longest ∈ zBig := zb_of (by decide +kernel) (by decide +kernel)
set_option maxRecDepth 100000 in
theorem zb_508 : Cond.fieldLink RX10 113 "PatternHouseModel" "begins" "[I" ∈ zBig := zb_of (by decide +kernel) (by decide +kernel)
set_option maxRecDepth 100000 in
theorem zb_509 : Cond.fieldLink RX10 226 "PatternHouseModel" "findCount" "I" ∈ zBig := zb_of (by decide +kernel) (by decide +kernel)
set_option maxRecDepth 100000 in
theorem zb_510 : Cond.fieldLink RX10 110 "PatternHouseModel" "ends" "[I" ∈ zBig := zb_of (by decide +kernel) (by decide +kernel)
set_option maxRecDepth 100000 in
theorem zb_511 : Cond.code yX10_findAll cX10_findAll 3 none ∈ zBig := zb_of (by decide +kernel) (by decide +kernel)
set_option maxRecDepth 100000 in
theorem zb_512 : Cond.methodLink RX10 232 yX10_findAll ∈ zBig := zb_of (by decide +kernel) (by decide +kernel)
set_option maxRecDepth 100000 in
theorem zb_513 : Cond.instanceMethod yX10_findAll ∈ zBig := zb_of (by decide +kernel) (by decide +kernel)
set_option maxRecDepth 100000 in
theorem zb_514 : Cond.selects RX10 yX10_findAll yX10_findAll ∈ zBig := zb_of (by decide +kernel) (by decide +kernel)
set_option maxRecDepth 100000 in
theorem zb_515 : Cond.fieldLink RX10 88 "PatternHouseModel" "stateCount" "[I" ∈ zBig := zb_of (by decide +kernel) (by decide +kernel)
set_option maxRecDepth 100000 in
theorem zb_516 : Cond.fieldLink RX10 82 "PatternHouseModel" "states" "[J" ∈ zBig := zb_of (by decide +kernel) (by decide +kernel)
set_option maxRecDepth 100000 in
theorem zb_517 : Cond.fieldLink RX10 91 "PatternHouseModel" "beyond" "[Z" ∈ zBig := zb_of (by decide +kernel) (by decide +kernel)
set_option maxRecDepth 100000 in
theorem zb_518 : Cond.fieldLink RX10 85 "PatternHouseModel" "ways" "[I" ∈ zBig := zb_of (by decide +kernel) (by decide +kernel)
set_option maxRecDepth 100000 in
theorem zb_519 : Cond.code yX10_stateOf cX10_stateOf 5 (some .int) ∈ zBig := zb_of (by decide +kernel) (by decide +kernel)
set_option maxRecDepth 100000 in
theorem zb_520 : Cond.methodLink RX10 235 yX10_stateOf ∈ zBig := zb_of (by decide +kernel) (by decide +kernel)
set_option maxRecDepth 100000 in
theorem zb_521 : Cond.instanceMethod yX10_stateOf ∈ zBig := zb_of (by decide +kernel) (by decide +kernel)
set_option maxRecDepth 100000 in
theorem zb_522 : Cond.selects RX10 yX10_stateOf yX10_stateOf ∈ zBig := zb_of (by decide +kernel) (by decide +kernel)
set_option maxRecDepth 100000 in
theorem zb_523 : Cond.code yX10_build cX10_build 6 none ∈ zBig := zb_of (by decide +kernel) (by decide +kernel)
set_option maxRecDepth 100000 in
theorem zb_524 : Cond.methodLink RX10 239 yX10_build ∈ zBig := zb_of (by decide +kernel) (by decide +kernel)
set_option maxRecDepth 100000 in
theorem zb_525 : Cond.instanceMethod yX10_build ∈ zBig := zb_of (by decide +kernel) (by decide +kernel)
set_option maxRecDepth 100000 in
theorem zb_526 : Cond.selects RX10 yX10_build yX10_build ∈ zBig := zb_of (by decide +kernel) (by decide +kernel)
set_option maxRecDepth 100000 in
theorem zb_527 : Cond.code yX10_noState cX10_noState 2 (some .boolean) ∈ zBig := zb_of (by decide +kernel) (by decide +kernel)
set_option maxRecDepth 100000 in
theorem zb_528 : Cond.methodLink RX10 242 yX10_noState ∈ zBig := zb_of (by decide +kernel) (by decide +kernel)
set_option maxRecDepth 100000 in
theorem zb_529 : Cond.instanceMethod yX10_noState ∈ zBig := zb_of (by decide +kernel) (by decide +kernel)
set_option maxRecDepth 100000 in
theorem zb_530 : Cond.selects RX10 yX10_noState yX10_noState ∈ zBig := zb_of (by decide +kernel) (by decide +kernel)
set_option maxRecDepth 100000 in
theorem zb_531 : Cond.code yX10_isGood cX10_isGood 3 (some .boolean) ∈ zBig := zb_of (by decide +kernel) (by decide +kernel)
set_option maxRecDepth 100000 in
theorem zb_532 : Cond.methodLink RX10 245 yX10_isGood ∈ zBig := zb_of (by decide +kernel) (by decide +kernel)
set_option maxRecDepth 100000 in
theorem zb_533 : Cond.instanceMethod yX10_isGood ∈ zBig := zb_of (by decide +kernel) (by decide +kernel)
set_option maxRecDepth 100000 in
theorem zb_534 : Cond.selects RX10 yX10_isGood yX10_isGood ∈ zBig := zb_of (by decide +kernel) (by decide +kernel)
set_option maxRecDepth 100000 in
theorem zb_535 : Cond.fieldLink RX10 95 "PatternHouseModel" "apart" "[Z" ∈ zBig := zb_of (by decide +kernel) (by decide +kernel)
set_option maxRecDepth 100000 in
theorem zb_536 : Cond.code yX10_nowApart cX10_nowApart 5 (some .boolean) ∈ zBig := zb_of (by decide +kernel) (by decide +kernel)
set_option maxRecDepth 100000 in
theorem zb_537 : Cond.methodLink RX10 249 yX10_nowApart ∈ zBig := zb_of (by decide +kernel) (by decide +kernel)
set_option maxRecDepth 100000 in
theorem zb_538 : Cond.instanceMethod yX10_nowApart ∈ zBig := zb_of (by decide +kernel) (by decide +kernel)
set_option maxRecDepth 100000 in
theorem zb_539 : Cond.selects RX10 yX10_nowApart yX10_nowApart ∈ zBig := zb_of (by decide +kernel) (by decide +kernel)
set_option maxRecDepth 100000 in
theorem zb_540 : Cond.code yX10_partMore cX10_partMore 5 (some .boolean) ∈ zBig := zb_of (by decide +kernel) (by decide +kernel)
set_option maxRecDepth 100000 in
theorem zb_541 : Cond.methodLink RX10 252 yX10_partMore ∈ zBig := zb_of (by decide +kernel) (by decide +kernel)
set_option maxRecDepth 100000 in
theorem zb_542 : Cond.instanceMethod yX10_partMore ∈ zBig := zb_of (by decide +kernel) (by decide +kernel)
set_option maxRecDepth 100000 in
theorem zb_543 : Cond.selects RX10 yX10_partMore yX10_partMore ∈ zBig := zb_of (by decide +kernel) (by decide +kernel)
set_option maxRecDepth 100000 in
theorem zb_544 : Cond.constant RX10 94 (90000) ∈ zBig := zb_of (by decide +kernel) (by decide +kernel)
set_option maxRecDepth 100000 in
theorem zb_545 : Cond.fieldLink RX10 107 "PatternHouseModel" "word" "[I" ∈ zBig := zb_of (by decide +kernel) (by decide +kernel)
set_option maxRecDepth 100000 in
theorem zb_546 : Cond.fieldLink RX10 104 "PatternHouseModel" "by" "[I" ∈ zBig := zb_of (by decide +kernel) (by decide +kernel)
set_option maxRecDepth 100000 in
theorem zb_547 : Cond.fieldLink RX10 101 "PatternHouseModel" "before" "[I" ∈ zBig := zb_of (by decide +kernel) (by decide +kernel)
set_option maxRecDepth 100000 in
theorem zb_548 : Cond.fieldLink RX10 255 "PatternHouseModel" "wordSize" "I" ∈ zBig := zb_of (by decide +kernel) (by decide +kernel)
set_option maxRecDepth 100000 in
theorem zb_549 : Cond.fieldLink RX10 98 "PatternHouseModel" "pairs" "[I" ∈ zBig := zb_of (by decide +kernel) (by decide +kernel)
set_option maxRecDepth 100000 in
theorem zb_550 : Cond.code yX10_spell cX10_spell 4 none ∈ zBig := zb_of (by decide +kernel) (by decide +kernel)
set_option maxRecDepth 100000 in
theorem zb_551 : Cond.methodLink RX10 258 yX10_spell ∈ zBig := zb_of (by decide +kernel) (by decide +kernel)
set_option maxRecDepth 100000 in
theorem zb_552 : Cond.instanceMethod yX10_spell ∈ zBig := zb_of (by decide +kernel) (by decide +kernel)
set_option maxRecDepth 100000 in
theorem zb_553 : Cond.selects RX10 yX10_spell yX10_spell ∈ zBig := zb_of (by decide +kernel) (by decide +kernel)
