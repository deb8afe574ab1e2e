/-! the words of the tables, by their places; what is known of each class -/
theorem wd_0 : Cond.selects "KnotRopes" yX10_refuse yX10_refuse ∈ pm_gw := pm_gw_of (i := 0) (by decide +kernel) rfl
theorem wd_1 : Cond.selects "KnotRopes" yX10_refusalOfPlace yX10_refusalOfPlace ∈ pm_gw := pm_gw_of (i := 1) (by decide +kernel) rfl
theorem wd_2 : Cond.selects "KnotRopes$CraftText" yX2_skipBlanks yX2_skipBlanks ∈ pm_gw := pm_gw_of (i := 2) (by decide +kernel) rfl
theorem wd_3 : Cond.selects "KnotRopes$CraftText" yX2_twoFigures yX2_twoFigures ∈ pm_gw := pm_gw_of (i := 3) (by decide +kernel) rfl
theorem wd_4 : Cond.selects "KnotRopes$CraftText" yX2_figure yX2_figure ∈ pm_gw := pm_gw_of (i := 4) (by decide +kernel) rfl
theorem wd_5 : Cond.selects "KnotRopes$CraftText" yX2_faultOfItems yX2_faultOfItems ∈ pm_gw := pm_gw_of (i := 5) (by decide +kernel) rfl
theorem wd_6 : Cond.selects "KnotRopes$CraftText" yX2_takeItem yX2_takeItem ∈ pm_gw := pm_gw_of (i := 6) (by decide +kernel) rfl
theorem wd_7 : Cond.selects "KnotRopes$CraftText" yX2_takeKnot yX2_takeKnot ∈ pm_gw := pm_gw_of (i := 7) (by decide +kernel) rfl
theorem wd_8 : Cond.selects "KnotRopes$CraftText" yX2_takeLawOrPair yX2_takeLawOrPair ∈ pm_gw := pm_gw_of (i := 8) (by decide +kernel) rfl
theorem wd_9 : Cond.selects "KnotRopes$Craft" yX1_barByLaws yX1_barByLaws ∈ pm_gw := pm_gw_of (i := 9) (by decide +kernel) rfl
theorem wd_10 : Cond.selects "KnotRopes$Craft" yX1_workOutTakes yX1_workOutTakes ∈ pm_gw := pm_gw_of (i := 10) (by decide +kernel) rfl
theorem wd_11 : Cond.selects "KnotRopes$Craft" yX1_workOutPairs yX1_workOutPairs ∈ pm_gw := pm_gw_of (i := 11) (by decide +kernel) rfl
theorem wd_12 : Cond.selects "KnotRopes" yX10_refusalOfKnots yX10_refusalOfKnots ∈ pm_gw := pm_gw_of (i := 12) (by decide +kernel) rfl
theorem wd_13 : Cond.selects "KnotRopes" yX10_refusalOfRows yX10_refusalOfRows ∈ pm_gw := pm_gw_of (i := 13) (by decide +kernel) rfl
theorem wd_14 : Cond.selects "KnotRopes$Tally" yX8_workOut yX8_workOut ∈ pm_gw := pm_gw_of (i := 14) (by decide +kernel) rfl
theorem wd_15 : Cond.selects "KnotRopes$Tally" yX8_workOutSpot yX8_workOutSpot ∈ pm_gw := pm_gw_of (i := 15) (by decide +kernel) rfl
theorem wd_16 : Cond.selects "KnotRopes" yX10_refusalOfMessage yX10_refusalOfMessage ∈ pm_gw := pm_gw_of (i := 16) (by decide +kernel) rfl
theorem wd_17 : Cond.selects "KnotRopes$Saying" yX6_placesForPairs yX6_placesForPairs ∈ pm_gw := pm_gw_of (i := 17) (by decide +kernel) rfl
theorem wd_18 : Cond.selects "KnotRopes$Saying" yX6_canBe yX6_canBe ∈ pm_gw := pm_gw_of (i := 18) (by decide +kernel) rfl
theorem wd_19 : Cond.selects "KnotRopes$Saying" yX6_leastBy yX6_leastBy ∈ pm_gw := pm_gw_of (i := 19) (by decide +kernel) rfl
theorem wd_20 : Cond.selects "KnotRopes$Saying" yX6_leastWith yX6_leastWith ∈ pm_gw := pm_gw_of (i := 20) (by decide +kernel) rfl
theorem wd_21 : Cond.selects "KnotRopes$Saying" yX6_firstOfLeast yX6_firstOfLeast ∈ pm_gw := pm_gw_of (i := 21) (by decide +kernel) rfl
theorem wd_22 : Cond.selects "KnotRopes$Saying" yX6_countWays yX6_countWays ∈ pm_gw := pm_gw_of (i := 22) (by decide +kernel) rfl
theorem wd_23 : Cond.selects "KnotRopes$SignSwap" yX7_assign yX7_assign ∈ pm_gw := pm_gw_of (i := 23) (by decide +kernel) rfl
theorem wd_24 : Cond.selects "KnotRopes$SignSwap" yX7_hasLikeAhead yX7_hasLikeAhead ∈ pm_gw := pm_gw_of (i := 24) (by decide +kernel) rfl
theorem wd_25 : Cond.selects "KnotRopes$SignSwap" yX7_doesAsWell yX7_doesAsWell ∈ pm_gw := pm_gw_of (i := 25) (by decide +kernel) rfl
theorem wd_26 : Cond.selects "KnotRopes$BothEnds" yX0_goOn yX0_goOn ∈ pm_gw := pm_gw_of (i := 26) (by decide +kernel) rfl
theorem wd_27 : Cond.selects "KnotRopes$BothEnds" yX0_readsBackward yX0_readsBackward ∈ pm_gw := pm_gw_of (i := 27) (by decide +kernel) rfl
theorem wd_28 : Cond.selects "KnotRopes" yX10_readWithout yX10_readWithout ∈ pm_gw := pm_gw_of (i := 28) (by decide +kernel) rfl
theorem wd_29 : Cond.selects "KnotRopes$Packing" yX3_firstRope yX3_firstRope ∈ pm_gw := pm_gw_of (i := 29) (by decide +kernel) rfl
theorem wd_30 : Cond.selects "KnotRopes" yX10_knotsThatFit yX10_knotsThatFit ∈ pm_gw := pm_gw_of (i := 30) (by decide +kernel) rfl
theorem wd_31 : Cond.selects "KnotRopes" yX10_textsThere yX10_textsThere ∈ pm_gw := pm_gw_of (i := 31) (by decide +kernel) rfl
theorem wd_32 : Cond.selects "KnotRopesModel" yX11_meets yX11_meets ∈ pm_gw := pm_gw_of (i := 32) (by decide +kernel) rfl
theorem wd_33 : Cond.selects "KnotRopesModel" yX11_rowAt yX11_rowAt ∈ pm_gw := pm_gw_of (i := 33) (by decide +kernel) rfl
theorem wd_34 : Cond.selects "KnotRopesModel" yX11_tells yX11_tells ∈ pm_gw := pm_gw_of (i := 34) (by decide +kernel) rfl
theorem wd_35 : Cond.selects "KnotRopesModel" yX11_faultOf yX11_faultOf ∈ pm_gw := pm_gw_of (i := 35) (by decide +kernel) rfl
theorem wd_36 : Cond.selects "KnotRopesModel" yX11_byteAt yX11_byteAt ∈ pm_gw := pm_gw_of (i := 36) (by decide +kernel) rfl
theorem wd_37 : Cond.selects "KnotRopesModel" yX11_readsLength yX11_readsLength ∈ pm_gw := pm_gw_of (i := 37) (by decide +kernel) rfl
theorem wd_38 : Cond.selects "KnotRopesModel" yX11_figure yX11_figure ∈ pm_gw := pm_gw_of (i := 38) (by decide +kernel) rfl
theorem wd_39 : Cond.selects "KnotRopesModel" yX11_readsLaw yX11_readsLaw ∈ pm_gw := pm_gw_of (i := 39) (by decide +kernel) rfl
theorem wd_40 : Cond.selects "KnotRopesModel" yX11_readsPair yX11_readsPair ∈ pm_gw := pm_gw_of (i := 40) (by decide +kernel) rfl
theorem wd_41 : Cond.selects "KnotRopesModel" yX11_readsKnot yX11_readsKnot ∈ pm_gw := pm_gw_of (i := 41) (by decide +kernel) rfl
theorem wd_42 : Cond.selects "KnotRopesModel" yX11_isKnot yX11_isKnot ∈ pm_gw := pm_gw_of (i := 42) (by decide +kernel) rfl
theorem wd_43 : Cond.selects "KnotRopesModel" yX11_knotTells yX11_knotTells ∈ pm_gw := pm_gw_of (i := 43) (by decide +kernel) rfl
theorem wd_44 : Cond.selects "KnotRopesModel" yX11_takeOf yX11_takeOf ∈ pm_gw := pm_gw_of (i := 44) (by decide +kernel) rfl
theorem wd_45 : Cond.selects "KnotRopesModel" yX11_isLoop yX11_isLoop ∈ pm_gw := pm_gw_of (i := 45) (by decide +kernel) rfl
theorem wd_46 : Cond.selects "KnotRopesModel" yX11_isBend yX11_isBend ∈ pm_gw := pm_gw_of (i := 46) (by decide +kernel) rfl
theorem wd_47 : Cond.selects "KnotRopesModel" yX11_pairsOf yX11_pairsOf ∈ pm_gw := pm_gw_of (i := 47) (by decide +kernel) rfl
theorem wd_48 : Cond.selects "KnotRopesModel" yX11_ofRope yX11_ofRope ∈ pm_gw := pm_gw_of (i := 48) (by decide +kernel) rfl
theorem wd_49 : Cond.selects "KnotRopesModel" yX11_lookAtRope yX11_lookAtRope ∈ pm_gw := pm_gw_of (i := 49) (by decide +kernel) rfl
theorem wd_50 : Cond.selects "KnotRopesModel" yX11_lookRight yX11_lookRight ∈ pm_gw := pm_gw_of (i := 50) (by decide +kernel) rfl
theorem wd_51 : Cond.selects "KnotRopesModel" yX11_lookLaws yX11_lookLaws ∈ pm_gw := pm_gw_of (i := 51) (by decide +kernel) rfl
theorem wd_52 : Cond.selects "KnotRopesModel" yX11_lookTakes yX11_lookTakes ∈ pm_gw := pm_gw_of (i := 52) (by decide +kernel) rfl
theorem wd_53 : Cond.selects "KnotRopesModel" yX11_endOf yX11_endOf ∈ pm_gw := pm_gw_of (i := 53) (by decide +kernel) rfl
theorem wd_54 : Cond.selects "KnotRopesModel" yX11_roomNow yX11_roomNow ∈ pm_gw := pm_gw_of (i := 54) (by decide +kernel) rfl
theorem wd_55 : Cond.selects "KnotRopesModel" yX11_loose yX11_loose ∈ pm_gw := pm_gw_of (i := 55) (by decide +kernel) rfl
theorem wd_56 : Cond.selects "KnotRopesModel" yX11_readLook yX11_readLook ∈ pm_gw := pm_gw_of (i := 56) (by decide +kernel) rfl
theorem wd_57 : Cond.selects "KnotRopesModel" yX11_pairSign yX11_pairSign ∈ pm_gw := pm_gw_of (i := 57) (by decide +kernel) rfl
theorem wd_58 : Cond.selects "KnotRopesModel" yX11_layRow yX11_layRow ∈ pm_gw := pm_gw_of (i := 58) (by decide +kernel) rfl
theorem wd_59 : Cond.selects "KnotRopesModel" yX11_isThere yX11_isThere ∈ pm_gw := pm_gw_of (i := 59) (by decide +kernel) rfl
theorem wd_60 : Cond.selects "KnotRopesModel" yX11_needRope yX11_needRope ∈ pm_gw := pm_gw_of (i := 60) (by decide +kernel) rfl
theorem wd_61 : Cond.selects "KnotRopesModel" yX11_needSize yX11_needSize ∈ pm_gw := pm_gw_of (i := 61) (by decide +kernel) rfl
theorem wd_62 : Cond.selects "KnotRopesModel" yX11_areKnots yX11_areKnots ∈ pm_gw := pm_gw_of (i := 62) (by decide +kernel) rfl
theorem wd_63 : Cond.selects "KnotRopesModel" yX11_lookAtRow yX11_lookAtRow ∈ pm_gw := pm_gw_of (i := 63) (by decide +kernel) rfl
theorem wd_64 : Cond.selects "KnotRopesModel" yX11_layRest yX11_layRest ∈ pm_gw := pm_gw_of (i := 64) (by decide +kernel) rfl
theorem wd_65 : Cond.selects "KnotRopesModel" yX11_restBy yX11_restBy ∈ pm_gw := pm_gw_of (i := 65) (by decide +kernel) rfl
theorem wd_66 : Cond.selects "KnotRopesModel" yX11_needMessage yX11_needMessage ∈ pm_gw := pm_gw_of (i := 66) (by decide +kernel) rfl
theorem wd_67 : Cond.selects "KnotRopesModel" yX11_areSigns yX11_areSigns ∈ pm_gw := pm_gw_of (i := 67) (by decide +kernel) rfl
theorem wd_68 : Cond.selects "KnotRopesModel" yX11_layMessage yX11_layMessage ∈ pm_gw := pm_gw_of (i := 68) (by decide +kernel) rfl
theorem wd_69 : Cond.selects "KnotRopesModel" yX11_shortestNow yX11_shortestNow ∈ pm_gw := pm_gw_of (i := 69) (by decide +kernel) rfl
theorem wd_70 : Cond.selects "KnotRopesModel" yX11_layLeast yX11_layLeast ∈ pm_gw := pm_gw_of (i := 70) (by decide +kernel) rfl
theorem wd_71 : Cond.selects "KnotRopesModel" yX11_isState yX11_isState ∈ pm_gw := pm_gw_of (i := 71) (by decide +kernel) rfl
theorem wd_72 : Cond.selects "KnotRopesModel" yX11_isSaid yX11_isSaid ∈ pm_gw := pm_gw_of (i := 72) (by decide +kernel) rfl
theorem wd_73 : Cond.selects "KnotRopesModel" yX11_stateBehind yX11_stateBehind ∈ pm_gw := pm_gw_of (i := 73) (by decide +kernel) rfl
theorem wd_74 : Cond.selects "KnotRopesModel" yX11_goOnLeast yX11_goOnLeast ∈ pm_gw := pm_gw_of (i := 74) (by decide +kernel) rfl
theorem wd_75 : Cond.selects "KnotRopesModel" yX11_isNext yX11_isNext ∈ pm_gw := pm_gw_of (i := 75) (by decide +kernel) rfl
theorem wd_76 : Cond.selects "KnotRopesModel" yX11_countStates yX11_countStates ∈ pm_gw := pm_gw_of (i := 76) (by decide +kernel) rfl
theorem wd_77 : Cond.selects "KnotRopesModel" yX11_countBehind yX11_countBehind ∈ pm_gw := pm_gw_of (i := 77) (by decide +kernel) rfl
theorem wd_78 : Cond.selects "KnotRopesModel" yX11_laySigns yX11_laySigns ∈ pm_gw := pm_gw_of (i := 78) (by decide +kernel) rfl
theorem wd_79 : Cond.selects "KnotRopesModel" yX11_layBoth yX11_layBoth ∈ pm_gw := pm_gw_of (i := 79) (by decide +kernel) rfl
theorem wd_80 : Cond.selects "KnotRopesModel" yX11_isBoth yX11_isBoth ∈ pm_gw := pm_gw_of (i := 80) (by decide +kernel) rfl
theorem wd_81 : Cond.selects "KnotRopesModel" yX11_isReadAs yX11_isReadAs ∈ pm_gw := pm_gw_of (i := 81) (by decide +kernel) rfl
theorem wd_82 : Cond.selects "KnotRopesModel" yX11_turnLook yX11_turnLook ∈ pm_gw := pm_gw_of (i := 82) (by decide +kernel) rfl
theorem wd_83 : Cond.selects "KnotRopesModel" yX11_laySlip yX11_laySlip ∈ pm_gw := pm_gw_of (i := 83) (by decide +kernel) rfl
theorem wd_84 : Cond.selects "KnotRopesModel" yX11_areLike yX11_areLike ∈ pm_gw := pm_gw_of (i := 84) (by decide +kernel) rfl
theorem wd_85 : Cond.selects "KnotRopesModel" yX11_needRopes yX11_needRopes ∈ pm_gw := pm_gw_of (i := 85) (by decide +kernel) rfl
theorem wd_86 : Cond.selects "KnotRopesModel" yX11_lookWith yX11_lookWith ∈ pm_gw := pm_gw_of (i := 86) (by decide +kernel) rfl
theorem wd_87 : Cond.selects "KnotRopesModel" yX11_signsOfLook yX11_signsOfLook ∈ pm_gw := pm_gw_of (i := 87) (by decide +kernel) rfl
theorem wd_88 : Cond.selects "KnotRopesModel" yX11_lookCut yX11_lookCut ∈ pm_gw := pm_gw_of (i := 88) (by decide +kernel) rfl
theorem wd_89 : Cond.selects "KnotRopesModel" yX11_sumOf yX11_sumOf ∈ pm_gw := pm_gw_of (i := 89) (by decide +kernel) rfl
theorem wd_90 : Cond.selects "KnotRopesModel" yX11_canTie yX11_canTie ∈ pm_gw := pm_gw_of (i := 90) (by decide +kernel) rfl
theorem wd_91 : Cond.selects "KnotRopesModel" yX11_counted yX11_counted ∈ pm_gw := pm_gw_of (i := 91) (by decide +kernel) rfl
theorem wd_92 : Cond.selects "KnotRopesModel" yX11_mix yX11_mix ∈ pm_gw := pm_gw_of (i := 92) (by decide +kernel) rfl
theorem wd_93 : Cond.selects "KnotRopesModel" yX11_mixCraft yX11_mixCraft ∈ pm_gw := pm_gw_of (i := 93) (by decide +kernel) rfl
theorem wd_95 : Cond.initialized "KnotRopes" ∈ pm_gw := pm_gw_of (i := 95) (by decide +kernel) rfl
theorem wd_96 : Cond.initialized "KnotRopes$Row" ∈ pm_gw := pm_gw_of (i := 96) (by decide +kernel) rfl
theorem wd_97 : Cond.initialized "KnotRopes$Craft" ∈ pm_gw := pm_gw_of (i := 97) (by decide +kernel) rfl
theorem wd_98 : Cond.initialized "KnotRopes$CraftText" ∈ pm_gw := pm_gw_of (i := 98) (by decide +kernel) rfl
theorem wd_99 : Cond.initialized "KnotRopes$Tally" ∈ pm_gw := pm_gw_of (i := 99) (by decide +kernel) rfl
theorem wd_100 : Cond.initialized "KnotRopes$Saying" ∈ pm_gw := pm_gw_of (i := 100) (by decide +kernel) rfl
theorem wd_101 : Cond.initialized "KnotRopes$SignSwap" ∈ pm_gw := pm_gw_of (i := 101) (by decide +kernel) rfl
theorem wd_102 : Cond.initialized "KnotRopes$BothEnds" ∈ pm_gw := pm_gw_of (i := 102) (by decide +kernel) rfl
theorem wd_103 : Cond.initialized "KnotRopes$Packing" ∈ pm_gw := pm_gw_of (i := 103) (by decide +kernel) rfl
theorem wd_104 : Cond.initialized "KnotRopes$Readings" ∈ pm_gw := pm_gw_of (i := 104) (by decide +kernel) rfl
theorem wd_105 : Cond.initialized "KnotRopes$Text" ∈ pm_gw := pm_gw_of (i := 105) (by decide +kernel) rfl
theorem wd_106 : Cond.initialized "KnotRopesModel" ∈ pm_gw := pm_gw_of (i := 106) (by decide +kernel) rfl
theorem wd_107 : Cond.initialized "java/util/Arrays" ∈ pm_gw := pm_gw_of (i := 107) (by decide +kernel) rfl
theorem wd_108 : Cond.initialized "java/lang/System" ∈ pm_gw := pm_gw_of (i := 108) (by decide +kernel) rfl
theorem wd_109 : Cond.initialized "java/lang/Math" ∈ pm_gw := pm_gw_of (i := 109) (by decide +kernel) rfl
theorem wd_110 : Cond.initialized "java/lang/Integer" ∈ pm_gw := pm_gw_of (i := 110) (by decide +kernel) rfl
theorem wd_116 : Cond.methodLink "KnotRopes" 3 Lib.objectInit ∈ pm_gw := pm_gw_of (i := 116) (by decide +kernel) rfl
theorem wd_117 : Cond.instanceMethod Lib.objectInit ∈ pm_gw := pm_gw_of (i := 117) (by decide +kernel) rfl
theorem wd_118 : Cond.code Lib.objectInit ⟨#[0xb1]⟩ 1 none ∈ pm_gw := pm_gw_of (i := 118) (by decide +kernel) rfl
theorem wd_119 : Cond.classLink "KnotRopes" 9 "KnotRopes$Row" ∈ pm_gw := pm_gw_of (i := 119) (by decide +kernel) rfl
theorem wd_121 : Cond.classLink "KnotRopes" 15 "KnotRopes$Text" ∈ pm_gw := pm_gw_of (i := 121) (by decide +kernel) rfl
theorem wd_123 : Cond.instantiable "KnotRopes$Row" 2 ∈ pm_gw := pm_gw_of (i := 123) (by decide +kernel) rfl
theorem wd_125 : Cond.instanceMethod yX5_init ∈ pm_gw := pm_gw_of (i := 125) (by decide +kernel) rfl
theorem wd_126 : Cond.code yX5_init cX5_init 1 none ∈ pm_gw := pm_gw_of (i := 126) (by decide +kernel) rfl
theorem wd_127 : Cond.methodLink "KnotRopes$Row" 3 Lib.objectInit ∈ pm_gw := pm_gw_of (i := 127) (by decide +kernel) rfl
theorem wd_128 : Cond.fieldLink "KnotRopes$Row" 9 "KnotRopes$Row" "places" "[I" ∈ pm_gw := pm_gw_of (i := 128) (by decide +kernel) rfl
theorem wd_129 : Cond.fieldLink "KnotRopes" 118 "KnotRopes$Row" "places" "[I" ∈ pm_gw := pm_gw_of (i := 129) (by decide +kernel) rfl
theorem wd_130 : Cond.fieldLink "KnotRopes$Packing" 38 "KnotRopes$Row" "places" "[I" ∈ pm_gw := pm_gw_of (i := 130) (by decide +kernel) rfl
theorem wd_131 : Cond.fieldLink "KnotRopes$Saying" 70 "KnotRopes$Row" "places" "[I" ∈ pm_gw := pm_gw_of (i := 131) (by decide +kernel) rfl
theorem wd_132 : Cond.fieldLink "KnotRopes$Craft" 119 "KnotRopes$Row" "places" "[I" ∈ pm_gw := pm_gw_of (i := 132) (by decide +kernel) rfl
theorem wd_133 : Cond.fieldLink "KnotRopes" 105 "KnotRopes$Row" "size" "I" ∈ pm_gw := pm_gw_of (i := 133) (by decide +kernel) rfl
theorem wd_134 : Cond.fieldLink "KnotRopes$Row" 15 "KnotRopes$Row" "size" "I" ∈ pm_gw := pm_gw_of (i := 134) (by decide +kernel) rfl
theorem wd_135 : Cond.fieldLink "KnotRopes$Packing" 22 "KnotRopes$Row" "size" "I" ∈ pm_gw := pm_gw_of (i := 135) (by decide +kernel) rfl
theorem wd_136 : Cond.fieldLink "KnotRopes$Saying" 43 "KnotRopes$Row" "size" "I" ∈ pm_gw := pm_gw_of (i := 136) (by decide +kernel) rfl
theorem wd_137 : Cond.fieldLink "KnotRopes$BothEnds" 77 "KnotRopes$Row" "size" "I" ∈ pm_gw := pm_gw_of (i := 137) (by decide +kernel) rfl
theorem wd_138 : Cond.fieldLink "KnotRopes$SignSwap" 86 "KnotRopes$Row" "size" "I" ∈ pm_gw := pm_gw_of (i := 138) (by decide +kernel) rfl
theorem wd_139 : Cond.fieldLink "KnotRopes$Craft" 114 "KnotRopes$Row" "size" "I" ∈ pm_gw := pm_gw_of (i := 139) (by decide +kernel) rfl
theorem wd_145 : Cond.arrayClass .int ∈ pm_gw := pm_gw_of (i := 145) (by decide +kernel) rfl
theorem wd_146 : Cond.classLink "KnotRopes" 33 "KnotRopes$Craft" ∈ pm_gw := pm_gw_of (i := 146) (by decide +kernel) rfl
theorem wd_147 : Cond.instantiable "KnotRopes$Craft" 17 ∈ pm_gw := pm_gw_of (i := 147) (by decide +kernel) rfl
theorem wd_149 : Cond.instanceMethod yX1_init ∈ pm_gw := pm_gw_of (i := 149) (by decide +kernel) rfl
theorem wd_150 : Cond.code yX1_init cX1_init 1 none ∈ pm_gw := pm_gw_of (i := 150) (by decide +kernel) rfl
theorem wd_151 : Cond.methodLink "KnotRopes$Craft" 3 Lib.objectInit ∈ pm_gw := pm_gw_of (i := 151) (by decide +kernel) rfl
theorem wd_152 : Cond.fieldLink "KnotRopes$Craft" 54 "KnotRopes$Craft" "length" "I" ∈ pm_gw := pm_gw_of (i := 152) (by decide +kernel) rfl
theorem wd_153 : Cond.fieldLink "KnotRopes" 196 "KnotRopes$Craft" "length" "I" ∈ pm_gw := pm_gw_of (i := 153) (by decide +kernel) rfl
theorem wd_154 : Cond.fieldLink "KnotRopes$Craft" 58 "KnotRopes$Craft" "girth" "I" ∈ pm_gw := pm_gw_of (i := 154) (by decide +kernel) rfl
theorem wd_155 : Cond.fieldLink "KnotRopes" 193 "KnotRopes$Craft" "girth" "I" ∈ pm_gw := pm_gw_of (i := 155) (by decide +kernel) rfl
theorem wd_156 : Cond.fieldLink "KnotRopes$Craft" 62 "KnotRopes$Craft" "knotCount" "I" ∈ pm_gw := pm_gw_of (i := 156) (by decide +kernel) rfl
theorem wd_157 : Cond.fieldLink "KnotRopes$SignSwap" 59 "KnotRopes$Craft" "knotCount" "I" ∈ pm_gw := pm_gw_of (i := 157) (by decide +kernel) rfl
theorem wd_158 : Cond.fieldLink "KnotRopes$Saying" 62 "KnotRopes$Craft" "knotCount" "I" ∈ pm_gw := pm_gw_of (i := 158) (by decide +kernel) rfl
theorem wd_159 : Cond.fieldLink "KnotRopes$BothEnds" 80 "KnotRopes$Craft" "knotCount" "I" ∈ pm_gw := pm_gw_of (i := 159) (by decide +kernel) rfl
theorem wd_160 : Cond.fieldLink "KnotRopes$Tally" 42 "KnotRopes$Craft" "knotCount" "I" ∈ pm_gw := pm_gw_of (i := 160) (by decide +kernel) rfl
theorem wd_161 : Cond.fieldLink "KnotRopes" 166 "KnotRopes$Craft" "knotCount" "I" ∈ pm_gw := pm_gw_of (i := 161) (by decide +kernel) rfl
theorem wd_162 : Cond.fieldLink "KnotRopes$Craft" 65 "KnotRopes$Craft" "lawCount" "I" ∈ pm_gw := pm_gw_of (i := 162) (by decide +kernel) rfl
theorem wd_163 : Cond.fieldLink "KnotRopes" 344 "KnotRopes$Craft" "lawCount" "I" ∈ pm_gw := pm_gw_of (i := 163) (by decide +kernel) rfl
theorem wd_164 : Cond.fieldLink "KnotRopes$Craft" 68 "KnotRopes$Craft" "pairCount" "I" ∈ pm_gw := pm_gw_of (i := 164) (by decide +kernel) rfl
theorem wd_165 : Cond.fieldLink "KnotRopes" 347 "KnotRopes$Craft" "pairCount" "I" ∈ pm_gw := pm_gw_of (i := 165) (by decide +kernel) rfl
theorem wd_166 : Cond.fieldLink "KnotRopes$Craft" 9 "KnotRopes$Craft" "kinds" "[I" ∈ pm_gw := pm_gw_of (i := 166) (by decide +kernel) rfl
theorem wd_167 : Cond.fieldLink "KnotRopes$Craft" 15 "KnotRopes$Craft" "sizes" "[I" ∈ pm_gw := pm_gw_of (i := 167) (by decide +kernel) rfl
theorem wd_168 : Cond.fieldLink "KnotRopes" 181 "KnotRopes$Craft" "sizes" "[I" ∈ pm_gw := pm_gw_of (i := 168) (by decide +kernel) rfl
theorem wd_169 : Cond.fieldLink "KnotRopes$Craft" 18 "KnotRopes$Craft" "signs" "[I" ∈ pm_gw := pm_gw_of (i := 169) (by decide +kernel) rfl
theorem wd_170 : Cond.fieldLink "KnotRopes$BothEnds" 51 "KnotRopes$Craft" "signs" "[I" ∈ pm_gw := pm_gw_of (i := 170) (by decide +kernel) rfl
theorem wd_171 : Cond.fieldLink "KnotRopes$SignSwap" 79 "KnotRopes$Craft" "signs" "[I" ∈ pm_gw := pm_gw_of (i := 171) (by decide +kernel) rfl
theorem wd_172 : Cond.fieldLink "KnotRopes" 199 "KnotRopes$Craft" "signs" "[I" ∈ pm_gw := pm_gw_of (i := 172) (by decide +kernel) rfl
theorem wd_173 : Cond.fieldLink "KnotRopes$Craft" 21 "KnotRopes$Craft" "pairFirsts" "[I" ∈ pm_gw := pm_gw_of (i := 173) (by decide +kernel) rfl
theorem wd_174 : Cond.fieldLink "KnotRopes$Craft" 24 "KnotRopes$Craft" "pairSeconds" "[I" ∈ pm_gw := pm_gw_of (i := 174) (by decide +kernel) rfl
theorem wd_175 : Cond.fieldLink "KnotRopes$Craft" 27 "KnotRopes$Craft" "pairSigns" "[I" ∈ pm_gw := pm_gw_of (i := 175) (by decide +kernel) rfl
theorem wd_176 : Cond.fieldLink "KnotRopes$Craft" 30 "KnotRopes$Craft" "barred" "[I" ∈ pm_gw := pm_gw_of (i := 176) (by decide +kernel) rfl
theorem wd_177 : Cond.fieldLink "KnotRopes$Craft" 33 "KnotRopes$Craft" "endMore" "[I" ∈ pm_gw := pm_gw_of (i := 177) (by decide +kernel) rfl
theorem wd_178 : Cond.fieldLink "KnotRopes$Tally" 59 "KnotRopes$Craft" "endMore" "[I" ∈ pm_gw := pm_gw_of (i := 178) (by decide +kernel) rfl
theorem wd_179 : Cond.fieldLink "KnotRopes$Saying" 76 "KnotRopes$Craft" "endMore" "[I" ∈ pm_gw := pm_gw_of (i := 179) (by decide +kernel) rfl
theorem wd_180 : Cond.fieldLink "KnotRopes" 184 "KnotRopes$Craft" "endMore" "[I" ∈ pm_gw := pm_gw_of (i := 180) (by decide +kernel) rfl
theorem wd_181 : Cond.fieldLink "KnotRopes$Craft" 36 "KnotRopes$Craft" "takenBehind" "[I" ∈ pm_gw := pm_gw_of (i := 181) (by decide +kernel) rfl
theorem wd_182 : Cond.fieldLink "KnotRopes$Craft" 39 "KnotRopes$Craft" "pairedSigns" "[I" ∈ pm_gw := pm_gw_of (i := 182) (by decide +kernel) rfl
theorem wd_183 : Cond.fieldLink "KnotRopes$Craft" 42 "KnotRopes$Craft" "pairsBegun" "[I" ∈ pm_gw := pm_gw_of (i := 183) (by decide +kernel) rfl
theorem wd_184 : Cond.fieldLink "KnotRopes$Saying" 67 "KnotRopes$Craft" "pairsBegun" "[I" ∈ pm_gw := pm_gw_of (i := 184) (by decide +kernel) rfl
theorem wd_185 : Cond.fieldLink "KnotRopes$Craft" 45 "KnotRopes$Craft" "pairsEnded" "[I" ∈ pm_gw := pm_gw_of (i := 185) (by decide +kernel) rfl
theorem wd_186 : Cond.fieldLink "KnotRopes$Saying" 124 "KnotRopes$Craft" "pairsEnded" "[I" ∈ pm_gw := pm_gw_of (i := 186) (by decide +kernel) rfl
theorem wd_222 : Cond.classLink "KnotRopes" 40 "KnotRopes$CraftText" ∈ pm_gw := pm_gw_of (i := 222) (by decide +kernel) rfl
theorem wd_223 : Cond.instantiable "KnotRopes$CraftText" 8 ∈ pm_gw := pm_gw_of (i := 223) (by decide +kernel) rfl
theorem wd_225 : Cond.instanceMethod yX2_init ∈ pm_gw := pm_gw_of (i := 225) (by decide +kernel) rfl
theorem wd_226 : Cond.code yX2_init cX2_init 1 none ∈ pm_gw := pm_gw_of (i := 226) (by decide +kernel) rfl
theorem wd_227 : Cond.methodLink "KnotRopes$CraftText" 3 Lib.objectInit ∈ pm_gw := pm_gw_of (i := 227) (by decide +kernel) rfl
theorem wd_228 : Cond.fieldLink "KnotRopes$CraftText" 11 "KnotRopes$CraftText" "first" "[I" ∈ pm_gw := pm_gw_of (i := 228) (by decide +kernel) rfl
theorem wd_229 : Cond.fieldLink "KnotRopes$Craft" 71 "KnotRopes$CraftText" "first" "[I" ∈ pm_gw := pm_gw_of (i := 229) (by decide +kernel) rfl
theorem wd_230 : Cond.fieldLink "KnotRopes$CraftText" 15 "KnotRopes$CraftText" "second" "[I" ∈ pm_gw := pm_gw_of (i := 230) (by decide +kernel) rfl
theorem wd_231 : Cond.fieldLink "KnotRopes$Craft" 80 "KnotRopes$CraftText" "second" "[I" ∈ pm_gw := pm_gw_of (i := 231) (by decide +kernel) rfl
theorem wd_232 : Cond.fieldLink "KnotRopes$CraftText" 18 "KnotRopes$CraftText" "third" "[I" ∈ pm_gw := pm_gw_of (i := 232) (by decide +kernel) rfl
theorem wd_233 : Cond.fieldLink "KnotRopes$Craft" 83 "KnotRopes$CraftText" "third" "[I" ∈ pm_gw := pm_gw_of (i := 233) (by decide +kernel) rfl
theorem wd_234 : Cond.fieldLink "KnotRopes$CraftText" 21 "KnotRopes$CraftText" "counts" "[I" ∈ pm_gw := pm_gw_of (i := 234) (by decide +kernel) rfl
theorem wd_235 : Cond.fieldLink "KnotRopes$Craft" 59 "KnotRopes$CraftText" "counts" "[I" ∈ pm_gw := pm_gw_of (i := 235) (by decide +kernel) rfl
theorem wd_236 : Cond.fieldLink "KnotRopes$Craft" 48 "KnotRopes$CraftText" "length" "I" ∈ pm_gw := pm_gw_of (i := 236) (by decide +kernel) rfl
theorem wd_237 : Cond.fieldLink "KnotRopes$CraftText" 54 "KnotRopes$CraftText" "length" "I" ∈ pm_gw := pm_gw_of (i := 237) (by decide +kernel) rfl
theorem wd_238 : Cond.fieldLink "KnotRopes$Craft" 55 "KnotRopes$CraftText" "girth" "I" ∈ pm_gw := pm_gw_of (i := 238) (by decide +kernel) rfl
theorem wd_239 : Cond.fieldLink "KnotRopes$CraftText" 57 "KnotRopes$CraftText" "girth" "I" ∈ pm_gw := pm_gw_of (i := 239) (by decide +kernel) rfl
theorem wd_240 : Cond.fieldLink "KnotRopes$CraftText" 30 "KnotRopes$CraftText" "place" "I" ∈ pm_gw := pm_gw_of (i := 240) (by decide +kernel) rfl
theorem wd_241 : Cond.fieldLink "KnotRopes$CraftText" 34 "KnotRopes$CraftText" "turn" "I" ∈ pm_gw := pm_gw_of (i := 241) (by decide +kernel) rfl
theorem wd_259 : Cond.classLink "KnotRopes" 47 "KnotRopes$Tally" ∈ pm_gw := pm_gw_of (i := 259) (by decide +kernel) rfl
theorem wd_260 : Cond.instantiable "KnotRopes$Tally" 3 ∈ pm_gw := pm_gw_of (i := 260) (by decide +kernel) rfl
theorem wd_261 : Cond.methodLink "KnotRopes" 49 yX8_init ∈ pm_gw := pm_gw_of (i := 261) (by decide +kernel) rfl
theorem wd_262 : Cond.instanceMethod yX8_init ∈ pm_gw := pm_gw_of (i := 262) (by decide +kernel) rfl
theorem wd_263 : Cond.code yX8_init cX8_init 2 none ∈ pm_gw := pm_gw_of (i := 263) (by decide +kernel) rfl
theorem wd_264 : Cond.methodLink "KnotRopes$Tally" 3 Lib.objectInit ∈ pm_gw := pm_gw_of (i := 264) (by decide +kernel) rfl
theorem wd_265 : Cond.fieldLink "KnotRopes$Tally" 15 "KnotRopes$Tally" "craft" "LKnotRopes$Craft;" ∈ pm_gw := pm_gw_of (i := 265) (by decide +kernel) rfl
theorem wd_266 : Cond.fieldLink "KnotRopes$Tally" 9 "KnotRopes$Tally" "goingOn" "[J" ∈ pm_gw := pm_gw_of (i := 266) (by decide +kernel) rfl
theorem wd_267 : Cond.fieldLink "KnotRopes$Tally" 19 "KnotRopes$Tally" "levels" "I" ∈ pm_gw := pm_gw_of (i := 267) (by decide +kernel) rfl
theorem wd_275 : Cond.arrayClass .long ∈ pm_gw := pm_gw_of (i := 275) (by decide +kernel) rfl
theorem wd_276 : Cond.classLink "KnotRopes" 56 "KnotRopes$Saying" ∈ pm_gw := pm_gw_of (i := 276) (by decide +kernel) rfl
theorem wd_277 : Cond.instantiable "KnotRopes$Saying" 6 ∈ pm_gw := pm_gw_of (i := 277) (by decide +kernel) rfl
theorem wd_278 : Cond.methodLink "KnotRopes" 58 yX6_init ∈ pm_gw := pm_gw_of (i := 278) (by decide +kernel) rfl
theorem wd_279 : Cond.instanceMethod yX6_init ∈ pm_gw := pm_gw_of (i := 279) (by decide +kernel) rfl
theorem wd_280 : Cond.code yX6_init cX6_init 2 none ∈ pm_gw := pm_gw_of (i := 280) (by decide +kernel) rfl
theorem wd_281 : Cond.methodLink "KnotRopes$Saying" 5 Lib.objectInit ∈ pm_gw := pm_gw_of (i := 281) (by decide +kernel) rfl
theorem wd_282 : Cond.classLink "KnotRopes$Saying" 11 "KnotRopes$Row" ∈ pm_gw := pm_gw_of (i := 282) (by decide +kernel) rfl
theorem wd_284 : Cond.fieldLink "KnotRopes$Saying" 29 "KnotRopes$Saying" "craft" "LKnotRopes$Craft;" ∈ pm_gw := pm_gw_of (i := 284) (by decide +kernel) rfl
theorem wd_285 : Cond.fieldLink "KnotRopes$Saying" 14 "KnotRopes$Saying" "message" "LKnotRopes$Row;" ∈ pm_gw := pm_gw_of (i := 285) (by decide +kernel) rfl
theorem wd_286 : Cond.fieldLink "KnotRopes$Saying" 18 "KnotRopes$Saying" "signs" "[I" ∈ pm_gw := pm_gw_of (i := 286) (by decide +kernel) rfl
theorem wd_287 : Cond.fieldLink "KnotRopes$Saying" 51 "KnotRopes$Saying" "pairCounts" "I" ∈ pm_gw := pm_gw_of (i := 287) (by decide +kernel) rfl
theorem wd_288 : Cond.fieldLink "KnotRopes$Saying" 22 "KnotRopes$Saying" "least" "[I" ∈ pm_gw := pm_gw_of (i := 288) (by decide +kernel) rfl
theorem wd_289 : Cond.fieldLink "KnotRopes$Saying" 25 "KnotRopes$Saying" "goingOn" "[J" ∈ pm_gw := pm_gw_of (i := 289) (by decide +kernel) rfl
theorem wd_303 : Cond.classLink "KnotRopes" 63 "KnotRopes$SignSwap" ∈ pm_gw := pm_gw_of (i := 303) (by decide +kernel) rfl
theorem wd_304 : Cond.instantiable "KnotRopes$SignSwap" 8 ∈ pm_gw := pm_gw_of (i := 304) (by decide +kernel) rfl
theorem wd_305 : Cond.methodLink "KnotRopes" 65 yX7_init ∈ pm_gw := pm_gw_of (i := 305) (by decide +kernel) rfl
theorem wd_306 : Cond.instanceMethod yX7_init ∈ pm_gw := pm_gw_of (i := 306) (by decide +kernel) rfl
theorem wd_307 : Cond.code yX7_init cX7_init 3 none ∈ pm_gw := pm_gw_of (i := 307) (by decide +kernel) rfl
theorem wd_308 : Cond.methodLink "KnotRopes$SignSwap" 3 Lib.objectInit ∈ pm_gw := pm_gw_of (i := 308) (by decide +kernel) rfl
theorem wd_309 : Cond.classLink "KnotRopes$SignSwap" 15 "KnotRopes$Row" ∈ pm_gw := pm_gw_of (i := 309) (by decide +kernel) rfl
theorem wd_311 : Cond.fieldLink "KnotRopes$SignSwap" 28 "KnotRopes$SignSwap" "craft" "LKnotRopes$Craft;" ∈ pm_gw := pm_gw_of (i := 311) (by decide +kernel) rfl
theorem wd_312 : Cond.fieldLink "KnotRopes$SignSwap" 32 "KnotRopes$SignSwap" "saying" "LKnotRopes$Saying;" ∈ pm_gw := pm_gw_of (i := 312) (by decide +kernel) rfl
theorem wd_313 : Cond.fieldLink "KnotRopes$SignSwap" 9 "KnotRopes$SignSwap" "signsNow" "[I" ∈ pm_gw := pm_gw_of (i := 313) (by decide +kernel) rfl
theorem wd_314 : Cond.fieldLink "KnotRopes$SignSwap" 18 "KnotRopes$SignSwap" "whose" "LKnotRopes$Row;" ∈ pm_gw := pm_gw_of (i := 314) (by decide +kernel) rfl
theorem wd_315 : Cond.fieldLink "KnotRopes$SignSwap" 22 "KnotRopes$SignSwap" "message" "LKnotRopes$Row;" ∈ pm_gw := pm_gw_of (i := 315) (by decide +kernel) rfl
theorem wd_316 : Cond.fieldLink "KnotRopes$SignSwap" 40 "KnotRopes$SignSwap" "signBits" "I" ∈ pm_gw := pm_gw_of (i := 316) (by decide +kernel) rfl
theorem wd_317 : Cond.fieldLink "KnotRopes$SignSwap" 49 "KnotRopes$SignSwap" "leastYet" "I" ∈ pm_gw := pm_gw_of (i := 317) (by decide +kernel) rfl
theorem wd_318 : Cond.fieldLink "KnotRopes$SignSwap" 25 "KnotRopes$SignSwap" "best" "LKnotRopes$Row;" ∈ pm_gw := pm_gw_of (i := 318) (by decide +kernel) rfl
theorem wd_319 : Cond.fieldLink "KnotRopes" 278 "KnotRopes$SignSwap" "best" "LKnotRopes$Row;" ∈ pm_gw := pm_gw_of (i := 319) (by decide +kernel) rfl
theorem wd_337 : Cond.classLink "KnotRopes" 72 "KnotRopes$BothEnds" ∈ pm_gw := pm_gw_of (i := 337) (by decide +kernel) rfl
theorem wd_338 : Cond.instantiable "KnotRopes$BothEnds" 8 ∈ pm_gw := pm_gw_of (i := 338) (by decide +kernel) rfl
theorem wd_339 : Cond.methodLink "KnotRopes" 74 yX0_init ∈ pm_gw := pm_gw_of (i := 339) (by decide +kernel) rfl
theorem wd_340 : Cond.instanceMethod yX0_init ∈ pm_gw := pm_gw_of (i := 340) (by decide +kernel) rfl
theorem wd_341 : Cond.code yX0_init cX0_init 3 none ∈ pm_gw := pm_gw_of (i := 341) (by decide +kernel) rfl
theorem wd_342 : Cond.methodLink "KnotRopes$BothEnds" 3 Lib.objectInit ∈ pm_gw := pm_gw_of (i := 342) (by decide +kernel) rfl
theorem wd_343 : Cond.classLink "KnotRopes$BothEnds" 9 "KnotRopes$Row" ∈ pm_gw := pm_gw_of (i := 343) (by decide +kernel) rfl
theorem wd_345 : Cond.fieldLink "KnotRopes$BothEnds" 30 "KnotRopes$BothEnds" "craft" "LKnotRopes$Craft;" ∈ pm_gw := pm_gw_of (i := 345) (by decide +kernel) rfl
theorem wd_346 : Cond.fieldLink "KnotRopes$BothEnds" 34 "KnotRopes$BothEnds" "saying" "LKnotRopes$Saying;" ∈ pm_gw := pm_gw_of (i := 346) (by decide +kernel) rfl
theorem wd_347 : Cond.fieldLink "KnotRopes$BothEnds" 12 "KnotRopes$BothEnds" "knots" "LKnotRopes$Row;" ∈ pm_gw := pm_gw_of (i := 347) (by decide +kernel) rfl
theorem wd_348 : Cond.fieldLink "KnotRopes$BothEnds" 18 "KnotRopes$BothEnds" "turned" "LKnotRopes$Row;" ∈ pm_gw := pm_gw_of (i := 348) (by decide +kernel) rfl
theorem wd_349 : Cond.fieldLink "KnotRopes$BothEnds" 21 "KnotRopes$BothEnds" "line" "LKnotRopes$Row;" ∈ pm_gw := pm_gw_of (i := 349) (by decide +kernel) rfl
theorem wd_350 : Cond.fieldLink "KnotRopes$BothEnds" 24 "KnotRopes$BothEnds" "backward" "LKnotRopes$Row;" ∈ pm_gw := pm_gw_of (i := 350) (by decide +kernel) rfl
theorem wd_351 : Cond.fieldLink "KnotRopes$BothEnds" 44 "KnotRopes$BothEnds" "leastYet" "I" ∈ pm_gw := pm_gw_of (i := 351) (by decide +kernel) rfl
theorem wd_352 : Cond.fieldLink "KnotRopes$BothEnds" 27 "KnotRopes$BothEnds" "best" "LKnotRopes$Row;" ∈ pm_gw := pm_gw_of (i := 352) (by decide +kernel) rfl
theorem wd_353 : Cond.fieldLink "KnotRopes" 287 "KnotRopes$BothEnds" "best" "LKnotRopes$Row;" ∈ pm_gw := pm_gw_of (i := 353) (by decide +kernel) rfl
theorem wd_371 : Cond.classLink "KnotRopes" 79 "KnotRopes$Packing" ∈ pm_gw := pm_gw_of (i := 371) (by decide +kernel) rfl
theorem wd_372 : Cond.instantiable "KnotRopes$Packing" 4 ∈ pm_gw := pm_gw_of (i := 372) (by decide +kernel) rfl
theorem wd_374 : Cond.instanceMethod yX3_init ∈ pm_gw := pm_gw_of (i := 374) (by decide +kernel) rfl
theorem wd_375 : Cond.code yX3_init cX3_init 1 none ∈ pm_gw := pm_gw_of (i := 375) (by decide +kernel) rfl
theorem wd_376 : Cond.methodLink "KnotRopes$Packing" 3 Lib.objectInit ∈ pm_gw := pm_gw_of (i := 376) (by decide +kernel) rfl
theorem wd_377 : Cond.fieldLink "KnotRopes$Packing" 11 "KnotRopes$Packing" "taken" "[I" ∈ pm_gw := pm_gw_of (i := 377) (by decide +kernel) rfl
theorem wd_378 : Cond.fieldLink "KnotRopes$Packing" 15 "KnotRopes$Packing" "ropesFor" "[I" ∈ pm_gw := pm_gw_of (i := 378) (by decide +kernel) rfl
theorem wd_379 : Cond.fieldLink "KnotRopes$Packing" 35 "KnotRopes$Packing" "fewest" "I" ∈ pm_gw := pm_gw_of (i := 379) (by decide +kernel) rfl
theorem wd_380 : Cond.fieldLink "KnotRopes" 323 "KnotRopes$Packing" "fewest" "I" ∈ pm_gw := pm_gw_of (i := 380) (by decide +kernel) rfl
theorem wd_381 : Cond.fieldLink "KnotRopes$Packing" 18 "KnotRopes$Packing" "withFirst" "I" ∈ pm_gw := pm_gw_of (i := 381) (by decide +kernel) rfl
theorem wd_382 : Cond.fieldLink "KnotRopes" 320 "KnotRopes$Packing" "withFirst" "I" ∈ pm_gw := pm_gw_of (i := 382) (by decide +kernel) rfl
theorem wd_392 : Cond.classLink "KnotRopes" 86 "KnotRopes$Readings" ∈ pm_gw := pm_gw_of (i := 392) (by decide +kernel) rfl
theorem wd_393 : Cond.instantiable "KnotRopes$Readings" 2 ∈ pm_gw := pm_gw_of (i := 393) (by decide +kernel) rfl
theorem wd_394 : Cond.methodLink "KnotRopes" 88 yX4_init ∈ pm_gw := pm_gw_of (i := 394) (by decide +kernel) rfl
theorem wd_395 : Cond.instanceMethod yX4_init ∈ pm_gw := pm_gw_of (i := 395) (by decide +kernel) rfl
theorem wd_396 : Cond.code yX4_init cX4_init 2 none ∈ pm_gw := pm_gw_of (i := 396) (by decide +kernel) rfl
theorem wd_397 : Cond.methodLink "KnotRopes$Readings" 3 Lib.objectInit ∈ pm_gw := pm_gw_of (i := 397) (by decide +kernel) rfl
theorem wd_398 : Cond.classLink "KnotRopes$Readings" 9 "KnotRopes$Row" ∈ pm_gw := pm_gw_of (i := 398) (by decide +kernel) rfl
theorem wd_400 : Cond.fieldLink "KnotRopes$Readings" 11 "KnotRopes$Readings" "lines" "[LKnotRopes$Row;" ∈ pm_gw := pm_gw_of (i := 400) (by decide +kernel) rfl
theorem wd_401 : Cond.fieldLink "KnotRopes$Readings" 18 "KnotRopes$Readings" "size" "I" ∈ pm_gw := pm_gw_of (i := 401) (by decide +kernel) rfl
theorem wd_402 : Cond.fieldLink "KnotRopes" 299 "KnotRopes$Readings" "size" "I" ∈ pm_gw := pm_gw_of (i := 402) (by decide +kernel) rfl
theorem wd_408 : Cond.instantiable "KnotRopes$Text" 2 ∈ pm_gw := pm_gw_of (i := 408) (by decide +kernel) rfl
theorem wd_410 : Cond.instanceMethod yX9_init ∈ pm_gw := pm_gw_of (i := 410) (by decide +kernel) rfl
theorem wd_411 : Cond.code yX9_init cX9_init 1 none ∈ pm_gw := pm_gw_of (i := 411) (by decide +kernel) rfl
theorem wd_412 : Cond.methodLink "KnotRopes$Text" 3 Lib.objectInit ∈ pm_gw := pm_gw_of (i := 412) (by decide +kernel) rfl
theorem wd_413 : Cond.fieldLink "KnotRopes$Text" 9 "KnotRopes$Text" "bytes" "[B" ∈ pm_gw := pm_gw_of (i := 413) (by decide +kernel) rfl
theorem wd_414 : Cond.fieldLink "KnotRopes$CraftText" 46 "KnotRopes$Text" "bytes" "[B" ∈ pm_gw := pm_gw_of (i := 414) (by decide +kernel) rfl
theorem wd_415 : Cond.fieldLink "KnotRopes" 147 "KnotRopes$Text" "bytes" "[B" ∈ pm_gw := pm_gw_of (i := 415) (by decide +kernel) rfl
theorem wd_416 : Cond.fieldLink "KnotRopes$Text" 15 "KnotRopes$Text" "size" "I" ∈ pm_gw := pm_gw_of (i := 416) (by decide +kernel) rfl
theorem wd_417 : Cond.fieldLink "KnotRopes$CraftText" 41 "KnotRopes$Text" "size" "I" ∈ pm_gw := pm_gw_of (i := 417) (by decide +kernel) rfl
theorem wd_418 : Cond.fieldLink "KnotRopes" 154 "KnotRopes$Text" "size" "I" ∈ pm_gw := pm_gw_of (i := 418) (by decide +kernel) rfl
theorem wd_424 : Cond.arrayClass .byte ∈ pm_gw := pm_gw_of (i := 424) (by decide +kernel) rfl
theorem wd_425 : Cond.fieldLink "KnotRopes" 11 "KnotRopes" "rows" "[LKnotRopes$Row;" ∈ pm_gw := pm_gw_of (i := 425) (by decide +kernel) rfl
theorem wd_426 : Cond.fieldLink "KnotRopes" 17 "KnotRopes" "texts" "[LKnotRopes$Text;" ∈ pm_gw := pm_gw_of (i := 426) (by decide +kernel) rfl
theorem wd_427 : Cond.fieldLink "KnotRopes" 22 "KnotRopes" "theRope" "LKnotRopes$Row;" ∈ pm_gw := pm_gw_of (i := 427) (by decide +kernel) rfl
theorem wd_428 : Cond.fieldLink "KnotRopes" 26 "KnotRopes" "keptRopes" "[LKnotRopes$Row;" ∈ pm_gw := pm_gw_of (i := 428) (by decide +kernel) rfl
theorem wd_429 : Cond.fieldLink "KnotRopes" 29 "KnotRopes" "keptLengths" "[I" ∈ pm_gw := pm_gw_of (i := 429) (by decide +kernel) rfl
theorem wd_430 : Cond.fieldLink "KnotRopes" 36 "KnotRopes" "theCraft" "LKnotRopes$Craft;" ∈ pm_gw := pm_gw_of (i := 430) (by decide +kernel) rfl
theorem wd_431 : Cond.fieldLink "KnotRopes" 43 "KnotRopes" "reader" "LKnotRopes$CraftText;" ∈ pm_gw := pm_gw_of (i := 431) (by decide +kernel) rfl
theorem wd_432 : Cond.fieldLink "KnotRopes" 52 "KnotRopes" "tally" "LKnotRopes$Tally;" ∈ pm_gw := pm_gw_of (i := 432) (by decide +kernel) rfl
theorem wd_433 : Cond.fieldLink "KnotRopes" 59 "KnotRopes" "saying" "LKnotRopes$Saying;" ∈ pm_gw := pm_gw_of (i := 433) (by decide +kernel) rfl
theorem wd_434 : Cond.fieldLink "KnotRopes" 68 "KnotRopes" "swap" "LKnotRopes$SignSwap;" ∈ pm_gw := pm_gw_of (i := 434) (by decide +kernel) rfl
theorem wd_435 : Cond.fieldLink "KnotRopes" 75 "KnotRopes" "bothEnds" "LKnotRopes$BothEnds;" ∈ pm_gw := pm_gw_of (i := 435) (by decide +kernel) rfl
theorem wd_436 : Cond.fieldLink "KnotRopes" 82 "KnotRopes" "packing" "LKnotRopes$Packing;" ∈ pm_gw := pm_gw_of (i := 436) (by decide +kernel) rfl
theorem wd_437 : Cond.fieldLink "KnotRopes" 89 "KnotRopes" "readings" "LKnotRopes$Readings;" ∈ pm_gw := pm_gw_of (i := 437) (by decide +kernel) rfl
theorem wd_438 : Cond.fieldLink "KnotRopes" 93 "KnotRopes" "attempt" "LKnotRopes$Row;" ∈ pm_gw := pm_gw_of (i := 438) (by decide +kernel) rfl
theorem wd_439 : Cond.fieldLink "KnotRopes" 96 "KnotRopes" "line" "LKnotRopes$Row;" ∈ pm_gw := pm_gw_of (i := 439) (by decide +kernel) rfl
theorem wd_440 : Cond.fieldLink "KnotRopes" 99 "KnotRopes" "wholeLine" "LKnotRopes$Row;" ∈ pm_gw := pm_gw_of (i := 440) (by decide +kernel) rfl
theorem wd_441 : Cond.fieldLink "KnotRopes" 102 "KnotRopes" "findingCounts" "[I" ∈ pm_gw := pm_gw_of (i := 441) (by decide +kernel) rfl
theorem wd_442 : Cond.fieldLink "KnotRopes" 357 "KnotRopes" "latestFinding" "I" ∈ pm_gw := pm_gw_of (i := 442) (by decide +kernel) rfl
theorem wd_443 : Cond.fieldLink "KnotRopes" 131 "KnotRopes" "told" "I" ∈ pm_gw := pm_gw_of (i := 443) (by decide +kernel) rfl
theorem wd_444 : Cond.fieldLink "KnotRopes" 246 "KnotRopes" "toldUpper" "J" ∈ pm_gw := pm_gw_of (i := 444) (by decide +kernel) rfl
theorem wd_490 : Cond.methodLink "KnotRopes" 110 yX10_isRow ∈ pm_gw := pm_gw_of (i := 490) (by decide +kernel) rfl
theorem wd_491 : Cond.static yX10_isRow ∈ pm_gw := pm_gw_of (i := 491) (by decide +kernel) rfl
theorem wd_492 : Cond.code yX10_isRow cX10_isRow 1 (some .boolean) ∈ pm_gw := pm_gw_of (i := 492) (by decide +kernel) rfl
theorem wd_493 : Cond.methodLink "KnotRopes" 114 yX10_refuse ∈ pm_gw := pm_gw_of (i := 493) (by decide +kernel) rfl
theorem wd_495 : Cond.instanceMethod yX10_refuse ∈ pm_gw := pm_gw_of (i := 495) (by decide +kernel) rfl
theorem wd_496 : Cond.code yX10_refuse cX10_refuse 2 (some .int) ∈ pm_gw := pm_gw_of (i := 496) (by decide +kernel) rfl
theorem wd_497 : Cond.methodLink "KnotRopes" 121 yJ7_fill_53178 ∈ pm_gw := pm_gw_of (i := 497) (by decide +kernel) rfl
theorem wd_498 : Cond.static yJ7_fill_53178 ∈ pm_gw := pm_gw_of (i := 498) (by decide +kernel) rfl
theorem wd_499 : Cond.code yJ7_fill_53178 cJ7_fill_53178 4 none ∈ pm_gw := pm_gw_of (i := 499) (by decide +kernel) rfl
theorem wd_504 : Cond.methodLink "KnotRopes" 127 yX10_refusalOfPlace ∈ pm_gw := pm_gw_of (i := 504) (by decide +kernel) rfl
theorem wd_506 : Cond.instanceMethod yX10_refusalOfPlace ∈ pm_gw := pm_gw_of (i := 506) (by decide +kernel) rfl
theorem wd_507 : Cond.code yX10_refusalOfPlace cX10_refusalOfPlace 3 (some .int) ∈ pm_gw := pm_gw_of (i := 507) (by decide +kernel) rfl
theorem wd_520 : Cond.methodLink "KnotRopes" 134 yX5_hasStretch ∈ pm_gw := pm_gw_of (i := 520) (by decide +kernel) rfl
theorem wd_521 : Cond.instanceMethod yX5_hasStretch ∈ pm_gw := pm_gw_of (i := 521) (by decide +kernel) rfl
theorem wd_522 : Cond.selects "KnotRopes$Row" yX5_hasStretch yX5_hasStretch ∈ pm_gw := pm_gw_of (i := 522) (by decide +kernel) rfl
theorem wd_523 : Cond.code yX5_hasStretch cX5_hasStretch 3 (some .boolean) ∈ pm_gw := pm_gw_of (i := 523) (by decide +kernel) rfl
theorem wd_524 : Cond.methodLink "KnotRopes" 138 arraycopyName ∈ pm_gw := pm_gw_of (i := 524) (by decide +kernel) rfl
theorem wd_525 : Cond.static arraycopyName ∈ pm_gw := pm_gw_of (i := 525) (by decide +kernel) rfl
theorem wd_526 : Cond.native arraycopyName ∈ pm_gw := pm_gw_of (i := 526) (by decide +kernel) rfl
theorem wd_535 : Cond.methodLink "KnotRopes" 144 yX10_isText ∈ pm_gw := pm_gw_of (i := 535) (by decide +kernel) rfl
theorem wd_536 : Cond.static yX10_isText ∈ pm_gw := pm_gw_of (i := 536) (by decide +kernel) rfl
theorem wd_537 : Cond.code yX10_isText cX10_isText 1 (some .boolean) ∈ pm_gw := pm_gw_of (i := 537) (by decide +kernel) rfl
theorem wd_538 : Cond.methodLink "KnotRopes" 151 yJ7_fill_031fb ∈ pm_gw := pm_gw_of (i := 538) (by decide +kernel) rfl
theorem wd_539 : Cond.static yJ7_fill_031fb ∈ pm_gw := pm_gw_of (i := 539) (by decide +kernel) rfl
theorem wd_540 : Cond.code yJ7_fill_031fb cJ7_fill_031fb 4 none ∈ pm_gw := pm_gw_of (i := 540) (by decide +kernel) rfl
theorem wd_549 : Cond.methodLink "KnotRopes" 155 yX2_faultOf ∈ pm_gw := pm_gw_of (i := 549) (by decide +kernel) rfl
theorem wd_550 : Cond.instanceMethod yX2_faultOf ∈ pm_gw := pm_gw_of (i := 550) (by decide +kernel) rfl
theorem wd_551 : Cond.selects "KnotRopes$CraftText" yX2_faultOf yX2_faultOf ∈ pm_gw := pm_gw_of (i := 551) (by decide +kernel) rfl
theorem wd_552 : Cond.code yX2_faultOf cX2_faultOf 3 (some .int) ∈ pm_gw := pm_gw_of (i := 552) (by decide +kernel) rfl
theorem wd_553 : Cond.methodLink "KnotRopes$CraftText" 24 yJ7_fill_53178 ∈ pm_gw := pm_gw_of (i := 553) (by decide +kernel) rfl
theorem wd_554 : Cond.methodLink "KnotRopes$CraftText" 37 yX2_skipBlanks ∈ pm_gw := pm_gw_of (i := 554) (by decide +kernel) rfl
theorem wd_556 : Cond.instanceMethod yX2_skipBlanks ∈ pm_gw := pm_gw_of (i := 556) (by decide +kernel) rfl
theorem wd_557 : Cond.code yX2_skipBlanks cX2_skipBlanks 3 none ∈ pm_gw := pm_gw_of (i := 557) (by decide +kernel) rfl
theorem wd_558 : Cond.methodLink "KnotRopes$CraftText" 50 yX2_twoFigures ∈ pm_gw := pm_gw_of (i := 558) (by decide +kernel) rfl
theorem wd_560 : Cond.instanceMethod yX2_twoFigures ∈ pm_gw := pm_gw_of (i := 560) (by decide +kernel) rfl
theorem wd_561 : Cond.code yX2_twoFigures cX2_twoFigures 4 (some .int) ∈ pm_gw := pm_gw_of (i := 561) (by decide +kernel) rfl
theorem wd_562 : Cond.methodLink "KnotRopes$CraftText" 82 yX2_figure ∈ pm_gw := pm_gw_of (i := 562) (by decide +kernel) rfl
theorem wd_564 : Cond.instanceMethod yX2_figure ∈ pm_gw := pm_gw_of (i := 564) (by decide +kernel) rfl
theorem wd_565 : Cond.code yX2_figure cX2_figure 5 (some .int) ∈ pm_gw := pm_gw_of (i := 565) (by decide +kernel) rfl
theorem wd_566 : Cond.methodLink "KnotRopes$CraftText" 60 yX2_faultOfItems ∈ pm_gw := pm_gw_of (i := 566) (by decide +kernel) rfl
theorem wd_568 : Cond.instanceMethod yX2_faultOfItems ∈ pm_gw := pm_gw_of (i := 568) (by decide +kernel) rfl
theorem wd_569 : Cond.code yX2_faultOfItems cX2_faultOfItems 3 (some .int) ∈ pm_gw := pm_gw_of (i := 569) (by decide +kernel) rfl
theorem wd_570 : Cond.methodLink "KnotRopes$CraftText" 63 yX2_takeItem ∈ pm_gw := pm_gw_of (i := 570) (by decide +kernel) rfl
theorem wd_572 : Cond.instanceMethod yX2_takeItem ∈ pm_gw := pm_gw_of (i := 572) (by decide +kernel) rfl
theorem wd_573 : Cond.code yX2_takeItem cX2_takeItem 7 (some .boolean) ∈ pm_gw := pm_gw_of (i := 573) (by decide +kernel) rfl
theorem wd_574 : Cond.methodLink "KnotRopes$CraftText" 67 yX2_kindOf ∈ pm_gw := pm_gw_of (i := 574) (by decide +kernel) rfl
theorem wd_575 : Cond.static yX2_kindOf ∈ pm_gw := pm_gw_of (i := 575) (by decide +kernel) rfl
theorem wd_576 : Cond.code yX2_kindOf cX2_kindOf 1 (some .int) ∈ pm_gw := pm_gw_of (i := 576) (by decide +kernel) rfl
theorem wd_577 : Cond.methodLink "KnotRopes$CraftText" 71 yX2_sortOf ∈ pm_gw := pm_gw_of (i := 577) (by decide +kernel) rfl
theorem wd_578 : Cond.static yX2_sortOf ∈ pm_gw := pm_gw_of (i := 578) (by decide +kernel) rfl
theorem wd_579 : Cond.code yX2_sortOf cX2_sortOf 2 (some .int) ∈ pm_gw := pm_gw_of (i := 579) (by decide +kernel) rfl
theorem wd_580 : Cond.methodLink "KnotRopes$CraftText" 75 yX2_takeKnot ∈ pm_gw := pm_gw_of (i := 580) (by decide +kernel) rfl
theorem wd_582 : Cond.instanceMethod yX2_takeKnot ∈ pm_gw := pm_gw_of (i := 582) (by decide +kernel) rfl
theorem wd_583 : Cond.code yX2_takeKnot cX2_takeKnot 4 (some .boolean) ∈ pm_gw := pm_gw_of (i := 583) (by decide +kernel) rfl
theorem wd_584 : Cond.methodLink "KnotRopes$CraftText" 79 yX2_takeLawOrPair ∈ pm_gw := pm_gw_of (i := 584) (by decide +kernel) rfl
theorem wd_586 : Cond.instanceMethod yX2_takeLawOrPair ∈ pm_gw := pm_gw_of (i := 586) (by decide +kernel) rfl
theorem wd_587 : Cond.code yX2_takeLawOrPair cX2_takeLawOrPair 5 (some .boolean) ∈ pm_gw := pm_gw_of (i := 587) (by decide +kernel) rfl
theorem wd_592 : Cond.methodLink "KnotRopes" 159 yX1_beAs ∈ pm_gw := pm_gw_of (i := 592) (by decide +kernel) rfl
theorem wd_593 : Cond.instanceMethod yX1_beAs ∈ pm_gw := pm_gw_of (i := 593) (by decide +kernel) rfl
theorem wd_594 : Cond.selects "KnotRopes$Craft" yX1_beAs yX1_beAs ∈ pm_gw := pm_gw_of (i := 594) (by decide +kernel) rfl
theorem wd_595 : Cond.code yX1_beAs cX1_beAs 3 none ∈ pm_gw := pm_gw_of (i := 595) (by decide +kernel) rfl
theorem wd_596 : Cond.methodLink "KnotRopes$Craft" 74 arraycopyName ∈ pm_gw := pm_gw_of (i := 596) (by decide +kernel) rfl
theorem wd_597 : Cond.methodLink "KnotRopes$Craft" 86 yX1_barByLaws ∈ pm_gw := pm_gw_of (i := 597) (by decide +kernel) rfl
theorem wd_599 : Cond.instanceMethod yX1_barByLaws ∈ pm_gw := pm_gw_of (i := 599) (by decide +kernel) rfl
theorem wd_600 : Cond.code yX1_barByLaws cX1_barByLaws 4 none ∈ pm_gw := pm_gw_of (i := 600) (by decide +kernel) rfl
theorem wd_601 : Cond.methodLink "KnotRopes$Craft" 96 yJ7_fill_53178 ∈ pm_gw := pm_gw_of (i := 601) (by decide +kernel) rfl
theorem wd_602 : Cond.methodLink "KnotRopes$Craft" 90 yX1_workOutTakes ∈ pm_gw := pm_gw_of (i := 602) (by decide +kernel) rfl
theorem wd_604 : Cond.instanceMethod yX1_workOutTakes ∈ pm_gw := pm_gw_of (i := 604) (by decide +kernel) rfl
theorem wd_605 : Cond.code yX1_workOutTakes cX1_workOutTakes 4 none ∈ pm_gw := pm_gw_of (i := 605) (by decide +kernel) rfl
theorem wd_606 : Cond.methodLink "KnotRopes$Craft" 102 yX1_takesAlone ∈ pm_gw := pm_gw_of (i := 606) (by decide +kernel) rfl
theorem wd_607 : Cond.instanceMethod yX1_takesAlone ∈ pm_gw := pm_gw_of (i := 607) (by decide +kernel) rfl
theorem wd_608 : Cond.selects "KnotRopes$Craft" yX1_takesAlone yX1_takesAlone ∈ pm_gw := pm_gw_of (i := 608) (by decide +kernel) rfl
theorem wd_609 : Cond.code yX1_takesAlone cX1_takesAlone 2 (some .int) ∈ pm_gw := pm_gw_of (i := 609) (by decide +kernel) rfl
theorem wd_610 : Cond.methodLink "KnotRopes$Craft" 106 yX1_isOfKind ∈ pm_gw := pm_gw_of (i := 610) (by decide +kernel) rfl
theorem wd_611 : Cond.instanceMethod yX1_isOfKind ∈ pm_gw := pm_gw_of (i := 611) (by decide +kernel) rfl
theorem wd_612 : Cond.selects "KnotRopes$Craft" yX1_isOfKind yX1_isOfKind ∈ pm_gw := pm_gw_of (i := 612) (by decide +kernel) rfl
theorem wd_613 : Cond.code yX1_isOfKind cX1_isOfKind 4 (some .boolean) ∈ pm_gw := pm_gw_of (i := 613) (by decide +kernel) rfl
theorem wd_614 : Cond.methodLink "KnotRopes$Craft" 93 yX1_workOutPairs ∈ pm_gw := pm_gw_of (i := 614) (by decide +kernel) rfl
theorem wd_616 : Cond.instanceMethod yX1_workOutPairs ∈ pm_gw := pm_gw_of (i := 616) (by decide +kernel) rfl
theorem wd_617 : Cond.code yX1_workOutPairs cX1_workOutPairs 5 none ∈ pm_gw := pm_gw_of (i := 617) (by decide +kernel) rfl
theorem wd_618 : Cond.methodLink "KnotRopes$Craft" 110 yX1_pairedSign ∈ pm_gw := pm_gw_of (i := 618) (by decide +kernel) rfl
theorem wd_619 : Cond.instanceMethod yX1_pairedSign ∈ pm_gw := pm_gw_of (i := 619) (by decide +kernel) rfl
theorem wd_620 : Cond.selects "KnotRopes$Craft" yX1_pairedSign yX1_pairedSign ∈ pm_gw := pm_gw_of (i := 620) (by decide +kernel) rfl
theorem wd_621 : Cond.code yX1_pairedSign cX1_pairedSign 3 (some .int) ∈ pm_gw := pm_gw_of (i := 621) (by decide +kernel) rfl
theorem wd_622 : Cond.methodLink "KnotRopes" 163 yX8_forget ∈ pm_gw := pm_gw_of (i := 622) (by decide +kernel) rfl
theorem wd_623 : Cond.instanceMethod yX8_forget ∈ pm_gw := pm_gw_of (i := 623) (by decide +kernel) rfl
theorem wd_624 : Cond.selects "KnotRopes$Tally" yX8_forget yX8_forget ∈ pm_gw := pm_gw_of (i := 624) (by decide +kernel) rfl
theorem wd_625 : Cond.code yX8_forget cX8_forget 1 none ∈ pm_gw := pm_gw_of (i := 625) (by decide +kernel) rfl
theorem wd_630 : Cond.methodLink "KnotRopes" 169 yX1_hasKnot ∈ pm_gw := pm_gw_of (i := 630) (by decide +kernel) rfl
theorem wd_631 : Cond.instanceMethod yX1_hasKnot ∈ pm_gw := pm_gw_of (i := 631) (by decide +kernel) rfl
theorem wd_632 : Cond.selects "KnotRopes$Craft" yX1_hasKnot yX1_hasKnot ∈ pm_gw := pm_gw_of (i := 632) (by decide +kernel) rfl
theorem wd_633 : Cond.code yX1_hasKnot cX1_hasKnot 2 (some .boolean) ∈ pm_gw := pm_gw_of (i := 633) (by decide +kernel) rfl
theorem wd_634 : Cond.methodLink "KnotRopes" 172 yX1_knotFact ∈ pm_gw := pm_gw_of (i := 634) (by decide +kernel) rfl
theorem wd_635 : Cond.instanceMethod yX1_knotFact ∈ pm_gw := pm_gw_of (i := 635) (by decide +kernel) rfl
theorem wd_636 : Cond.selects "KnotRopes$Craft" yX1_knotFact yX1_knotFact ∈ pm_gw := pm_gw_of (i := 636) (by decide +kernel) rfl
theorem wd_637 : Cond.code yX1_knotFact cX1_knotFact 3 (some .int) ∈ pm_gw := pm_gw_of (i := 637) (by decide +kernel) rfl
theorem wd_642 : Cond.methodLink "KnotRopes" 175 yX1_isOfKind ∈ pm_gw := pm_gw_of (i := 642) (by decide +kernel) rfl
theorem wd_643 : Cond.methodLink "KnotRopes" 178 yX1_takesAlone ∈ pm_gw := pm_gw_of (i := 643) (by decide +kernel) rfl
theorem wd_644 : Cond.methodLink "KnotRopes" 187 yX1_pairsWith ∈ pm_gw := pm_gw_of (i := 644) (by decide +kernel) rfl
theorem wd_645 : Cond.instanceMethod yX1_pairsWith ∈ pm_gw := pm_gw_of (i := 645) (by decide +kernel) rfl
theorem wd_646 : Cond.selects "KnotRopes$Craft" yX1_pairsWith yX1_pairsWith ∈ pm_gw := pm_gw_of (i := 646) (by decide +kernel) rfl
theorem wd_647 : Cond.code yX1_pairsWith cX1_pairsWith 4 (some .int) ∈ pm_gw := pm_gw_of (i := 647) (by decide +kernel) rfl
theorem wd_648 : Cond.methodLink "KnotRopes" 190 yX5_howMany ∈ pm_gw := pm_gw_of (i := 648) (by decide +kernel) rfl
theorem wd_649 : Cond.instanceMethod yX5_howMany ∈ pm_gw := pm_gw_of (i := 649) (by decide +kernel) rfl
theorem wd_650 : Cond.selects "KnotRopes$Row" yX5_howMany yX5_howMany ∈ pm_gw := pm_gw_of (i := 650) (by decide +kernel) rfl
theorem wd_651 : Cond.code yX5_howMany cX5_howMany 4 (some .int) ∈ pm_gw := pm_gw_of (i := 651) (by decide +kernel) rfl
theorem wd_664 : Cond.methodLink "KnotRopes" 202 yX5_become ∈ pm_gw := pm_gw_of (i := 664) (by decide +kernel) rfl
theorem wd_665 : Cond.instanceMethod yX5_become ∈ pm_gw := pm_gw_of (i := 665) (by decide +kernel) rfl
theorem wd_666 : Cond.selects "KnotRopes$Row" yX5_become yX5_become ∈ pm_gw := pm_gw_of (i := 666) (by decide +kernel) rfl
theorem wd_667 : Cond.code yX5_become cX5_become 2 none ∈ pm_gw := pm_gw_of (i := 667) (by decide +kernel) rfl
theorem wd_668 : Cond.methodLink "KnotRopes$Row" 19 Lib.Math.max.name ∈ pm_gw := pm_gw_of (i := 668) (by decide +kernel) rfl
theorem wd_669 : Cond.static Lib.Math.max.name ∈ pm_gw := pm_gw_of (i := 669) (by decide +kernel) rfl
theorem wd_670 : Cond.code Lib.Math.max.name Lib.Math.max.code 2 (some .int) ∈ pm_gw := pm_gw_of (i := 670) (by decide +kernel) rfl
theorem wd_671 : Cond.methodLink "KnotRopes$Row" 25 arraycopyName ∈ pm_gw := pm_gw_of (i := 671) (by decide +kernel) rfl
theorem wd_672 : Cond.methodLink "KnotRopes" 206 yX5_add ∈ pm_gw := pm_gw_of (i := 672) (by decide +kernel) rfl
theorem wd_673 : Cond.instanceMethod yX5_add ∈ pm_gw := pm_gw_of (i := 673) (by decide +kernel) rfl
theorem wd_674 : Cond.selects "KnotRopes$Row" yX5_add yX5_add ∈ pm_gw := pm_gw_of (i := 674) (by decide +kernel) rfl
theorem wd_675 : Cond.code yX5_add cX5_add 2 none ∈ pm_gw := pm_gw_of (i := 675) (by decide +kernel) rfl
theorem wd_676 : Cond.methodLink "KnotRopes" 210 yX1_isRight ∈ pm_gw := pm_gw_of (i := 676) (by decide +kernel) rfl
theorem wd_677 : Cond.instanceMethod yX1_isRight ∈ pm_gw := pm_gw_of (i := 677) (by decide +kernel) rfl
theorem wd_678 : Cond.selects "KnotRopes$Craft" yX1_isRight yX1_isRight ∈ pm_gw := pm_gw_of (i := 678) (by decide +kernel) rfl
theorem wd_679 : Cond.code yX1_isRight cX1_isRight 3 (some .boolean) ∈ pm_gw := pm_gw_of (i := 679) (by decide +kernel) rfl
theorem wd_680 : Cond.methodLink "KnotRopes$Craft" 129 yX1_isBarred ∈ pm_gw := pm_gw_of (i := 680) (by decide +kernel) rfl
theorem wd_681 : Cond.instanceMethod yX1_isBarred ∈ pm_gw := pm_gw_of (i := 681) (by decide +kernel) rfl
theorem wd_682 : Cond.selects "KnotRopes$Craft" yX1_isBarred yX1_isBarred ∈ pm_gw := pm_gw_of (i := 682) (by decide +kernel) rfl
theorem wd_683 : Cond.code yX1_isBarred cX1_isBarred 3 (some .boolean) ∈ pm_gw := pm_gw_of (i := 683) (by decide +kernel) rfl
theorem wd_684 : Cond.methodLink "KnotRopes$Craft" 125 yX1_measure ∈ pm_gw := pm_gw_of (i := 684) (by decide +kernel) rfl
theorem wd_685 : Cond.instanceMethod yX1_measure ∈ pm_gw := pm_gw_of (i := 685) (by decide +kernel) rfl
theorem wd_686 : Cond.selects "KnotRopes$Craft" yX1_measure yX1_measure ∈ pm_gw := pm_gw_of (i := 686) (by decide +kernel) rfl
theorem wd_687 : Cond.code yX1_measure cX1_measure 5 (some .int) ∈ pm_gw := pm_gw_of (i := 687) (by decide +kernel) rfl
theorem wd_688 : Cond.methodLink "KnotRopes$Craft" 122 yX1_takesBehind ∈ pm_gw := pm_gw_of (i := 688) (by decide +kernel) rfl
theorem wd_689 : Cond.instanceMethod yX1_takesBehind ∈ pm_gw := pm_gw_of (i := 689) (by decide +kernel) rfl
theorem wd_690 : Cond.selects "KnotRopes$Craft" yX1_takesBehind yX1_takesBehind ∈ pm_gw := pm_gw_of (i := 690) (by decide +kernel) rfl
theorem wd_691 : Cond.code yX1_takesBehind cX1_takesBehind 3 (some .int) ∈ pm_gw := pm_gw_of (i := 691) (by decide +kernel) rfl
theorem wd_692 : Cond.methodLink "KnotRopes$Craft" 132 yX1_room ∈ pm_gw := pm_gw_of (i := 692) (by decide +kernel) rfl
theorem wd_693 : Cond.instanceMethod yX1_room ∈ pm_gw := pm_gw_of (i := 693) (by decide +kernel) rfl
theorem wd_694 : Cond.selects "KnotRopes$Craft" yX1_room yX1_room ∈ pm_gw := pm_gw_of (i := 694) (by decide +kernel) rfl
theorem wd_695 : Cond.code yX1_room cX1_room 1 (some .int) ∈ pm_gw := pm_gw_of (i := 695) (by decide +kernel) rfl
theorem wd_696 : Cond.methodLink "KnotRopes" 214 yX1_spareOf ∈ pm_gw := pm_gw_of (i := 696) (by decide +kernel) rfl
theorem wd_697 : Cond.instanceMethod yX1_spareOf ∈ pm_gw := pm_gw_of (i := 697) (by decide +kernel) rfl
theorem wd_698 : Cond.selects "KnotRopes$Craft" yX1_spareOf yX1_spareOf ∈ pm_gw := pm_gw_of (i := 698) (by decide +kernel) rfl
theorem wd_699 : Cond.code yX1_spareOf cX1_spareOf 2 (some .int) ∈ pm_gw := pm_gw_of (i := 699) (by decide +kernel) rfl
theorem wd_704 : Cond.methodLink "KnotRopes" 218 yX1_isWill ∈ pm_gw := pm_gw_of (i := 704) (by decide +kernel) rfl
theorem wd_705 : Cond.instanceMethod yX1_isWill ∈ pm_gw := pm_gw_of (i := 705) (by decide +kernel) rfl
theorem wd_706 : Cond.selects "KnotRopes$Craft" yX1_isWill yX1_isWill ∈ pm_gw := pm_gw_of (i := 706) (by decide +kernel) rfl
theorem wd_707 : Cond.code yX1_isWill cX1_isWill 2 (some .boolean) ∈ pm_gw := pm_gw_of (i := 707) (by decide +kernel) rfl
theorem wd_720 : Cond.methodLink "KnotRopes" 221 yX1_read ∈ pm_gw := pm_gw_of (i := 720) (by decide +kernel) rfl
theorem wd_721 : Cond.instanceMethod yX1_read ∈ pm_gw := pm_gw_of (i := 721) (by decide +kernel) rfl
theorem wd_722 : Cond.selects "KnotRopes$Craft" yX1_read yX1_read ∈ pm_gw := pm_gw_of (i := 722) (by decide +kernel) rfl
theorem wd_723 : Cond.code yX1_read cX1_read 7 none ∈ pm_gw := pm_gw_of (i := 723) (by decide +kernel) rfl
theorem wd_724 : Cond.methodLink "KnotRopes$Craft" 136 yX5_clear ∈ pm_gw := pm_gw_of (i := 724) (by decide +kernel) rfl
theorem wd_725 : Cond.instanceMethod yX5_clear ∈ pm_gw := pm_gw_of (i := 725) (by decide +kernel) rfl
theorem wd_726 : Cond.selects "KnotRopes$Row" yX5_clear yX5_clear ∈ pm_gw := pm_gw_of (i := 726) (by decide +kernel) rfl
theorem wd_727 : Cond.code yX5_clear cX5_clear 1 none ∈ pm_gw := pm_gw_of (i := 727) (by decide +kernel) rfl
theorem wd_728 : Cond.methodLink "KnotRopes$Craft" 139 yX5_add ∈ pm_gw := pm_gw_of (i := 728) (by decide +kernel) rfl
theorem wd_745 : Cond.methodLink "KnotRopes" 225 yX10_refusalOfKnots ∈ pm_gw := pm_gw_of (i := 745) (by decide +kernel) rfl
theorem wd_747 : Cond.instanceMethod yX10_refusalOfKnots ∈ pm_gw := pm_gw_of (i := 747) (by decide +kernel) rfl
theorem wd_748 : Cond.code yX10_refusalOfKnots cX10_refusalOfKnots 5 (some .int) ∈ pm_gw := pm_gw_of (i := 748) (by decide +kernel) rfl
theorem wd_749 : Cond.methodLink "KnotRopes" 313 yX10_refusalOfRows ∈ pm_gw := pm_gw_of (i := 749) (by decide +kernel) rfl
theorem wd_751 : Cond.instanceMethod yX10_refusalOfRows ∈ pm_gw := pm_gw_of (i := 751) (by decide +kernel) rfl
theorem wd_752 : Cond.code yX10_refusalOfRows cX10_refusalOfRows 8 (some .int) ∈ pm_gw := pm_gw_of (i := 752) (by decide +kernel) rfl
theorem wd_753 : Cond.methodLink "KnotRopes" 373 yX5_isBelow ∈ pm_gw := pm_gw_of (i := 753) (by decide +kernel) rfl
theorem wd_754 : Cond.instanceMethod yX5_isBelow ∈ pm_gw := pm_gw_of (i := 754) (by decide +kernel) rfl
theorem wd_755 : Cond.selects "KnotRopes$Row" yX5_isBelow yX5_isBelow ∈ pm_gw := pm_gw_of (i := 755) (by decide +kernel) rfl
theorem wd_756 : Cond.code yX5_isBelow cX5_isBelow 3 (some .boolean) ∈ pm_gw := pm_gw_of (i := 756) (by decide +kernel) rfl
theorem wd_757 : Cond.methodLink "KnotRopes" 229 yX1_takesBehind ∈ pm_gw := pm_gw_of (i := 757) (by decide +kernel) rfl
theorem wd_758 : Cond.methodLink "KnotRopes" 232 yX1_isBarred ∈ pm_gw := pm_gw_of (i := 758) (by decide +kernel) rfl
theorem wd_759 : Cond.methodLink "KnotRopes" 235 yX1_room ∈ pm_gw := pm_gw_of (i := 759) (by decide +kernel) rfl
theorem wd_764 : Cond.methodLink "KnotRopes" 239 yX1_measure ∈ pm_gw := pm_gw_of (i := 764) (by decide +kernel) rfl
theorem wd_773 : Cond.methodLink "KnotRopes" 242 yX8_ropesOf ∈ pm_gw := pm_gw_of (i := 773) (by decide +kernel) rfl
theorem wd_774 : Cond.instanceMethod yX8_ropesOf ∈ pm_gw := pm_gw_of (i := 774) (by decide +kernel) rfl
theorem wd_775 : Cond.selects "KnotRopes$Tally" yX8_ropesOf yX8_ropesOf ∈ pm_gw := pm_gw_of (i := 775) (by decide +kernel) rfl
theorem wd_776 : Cond.code yX8_ropesOf cX8_ropesOf 2 (some .long) ∈ pm_gw := pm_gw_of (i := 776) (by decide +kernel) rfl
theorem wd_777 : Cond.methodLink "KnotRopes$Tally" 23 yX8_workOut ∈ pm_gw := pm_gw_of (i := 777) (by decide +kernel) rfl
theorem wd_779 : Cond.instanceMethod yX8_workOut ∈ pm_gw := pm_gw_of (i := 779) (by decide +kernel) rfl
theorem wd_780 : Cond.code yX8_workOut cX8_workOut 4 none ∈ pm_gw := pm_gw_of (i := 780) (by decide +kernel) rfl
theorem wd_781 : Cond.methodLink "KnotRopes$Tally" 55 yX8_workOutSpot ∈ pm_gw := pm_gw_of (i := 781) (by decide +kernel) rfl
theorem wd_783 : Cond.instanceMethod yX8_workOutSpot ∈ pm_gw := pm_gw_of (i := 783) (by decide +kernel) rfl
theorem wd_784 : Cond.code yX8_workOutSpot cX8_workOutSpot 5 none ∈ pm_gw := pm_gw_of (i := 784) (by decide +kernel) rfl
theorem wd_785 : Cond.methodLink "KnotRopes$Tally" 27 yX8_spot ∈ pm_gw := pm_gw_of (i := 785) (by decide +kernel) rfl
theorem wd_786 : Cond.static yX8_spot ∈ pm_gw := pm_gw_of (i := 786) (by decide +kernel) rfl
theorem wd_787 : Cond.code yX8_spot cX8_spot 2 (some .int) ∈ pm_gw := pm_gw_of (i := 787) (by decide +kernel) rfl
theorem wd_789 : Cond.static yX10_setWays ∈ pm_gw := pm_gw_of (i := 789) (by decide +kernel) rfl
theorem wd_790 : Cond.code yX10_setWays cX10_setWays 4 none ∈ pm_gw := pm_gw_of (i := 790) (by decide +kernel) rfl
theorem wd_791 : Cond.methodLink "KnotRopes$Tally" 48 yX1_isBarred ∈ pm_gw := pm_gw_of (i := 791) (by decide +kernel) rfl
theorem wd_792 : Cond.methodLink "KnotRopes$Tally" 45 yX1_takesBehind ∈ pm_gw := pm_gw_of (i := 792) (by decide +kernel) rfl
theorem wd_794 : Cond.static yX10_addWays ∈ pm_gw := pm_gw_of (i := 794) (by decide +kernel) rfl
theorem wd_795 : Cond.code yX10_addWays cX10_addWays 5 none ∈ pm_gw := pm_gw_of (i := 795) (by decide +kernel) rfl
theorem wd_796 : Cond.methodLink "KnotRopes$Tally" 31 yX1_room ∈ pm_gw := pm_gw_of (i := 796) (by decide +kernel) rfl
theorem wd_801 : Cond.methodLink "KnotRopes" 250 yX8_find ∈ pm_gw := pm_gw_of (i := 801) (by decide +kernel) rfl
theorem wd_802 : Cond.instanceMethod yX8_find ∈ pm_gw := pm_gw_of (i := 802) (by decide +kernel) rfl
theorem wd_803 : Cond.selects "KnotRopes$Tally" yX8_find yX8_find ∈ pm_gw := pm_gw_of (i := 803) (by decide +kernel) rfl
theorem wd_804 : Cond.code yX8_find cX8_find 14 none ∈ pm_gw := pm_gw_of (i := 804) (by decide +kernel) rfl
theorem wd_805 : Cond.methodLink "KnotRopes$Tally" 37 yX5_clear ∈ pm_gw := pm_gw_of (i := 805) (by decide +kernel) rfl
theorem wd_806 : Cond.methodLink "KnotRopes$Tally" 52 yX5_add ∈ pm_gw := pm_gw_of (i := 806) (by decide +kernel) rfl
theorem wd_811 : Cond.methodLink "KnotRopes" 254 yX10_refusalOfMessage ∈ pm_gw := pm_gw_of (i := 811) (by decide +kernel) rfl
theorem wd_813 : Cond.instanceMethod yX10_refusalOfMessage ∈ pm_gw := pm_gw_of (i := 813) (by decide +kernel) rfl
theorem wd_814 : Cond.code yX10_refusalOfMessage cX10_refusalOfMessage 4 (some .int) ∈ pm_gw := pm_gw_of (i := 814) (by decide +kernel) rfl
theorem wd_815 : Cond.methodLink "KnotRopes" 258 yX6_begin ∈ pm_gw := pm_gw_of (i := 815) (by decide +kernel) rfl
theorem wd_816 : Cond.instanceMethod yX6_begin ∈ pm_gw := pm_gw_of (i := 816) (by decide +kernel) rfl
theorem wd_817 : Cond.selects "KnotRopes$Saying" yX6_begin yX6_begin ∈ pm_gw := pm_gw_of (i := 817) (by decide +kernel) rfl
theorem wd_818 : Cond.code yX6_begin cX6_begin 7 none ∈ pm_gw := pm_gw_of (i := 818) (by decide +kernel) rfl
theorem wd_819 : Cond.methodLink "KnotRopes$Saying" 33 yX5_become ∈ pm_gw := pm_gw_of (i := 819) (by decide +kernel) rfl
theorem wd_820 : Cond.methodLink "KnotRopes$Saying" 37 arraycopyName ∈ pm_gw := pm_gw_of (i := 820) (by decide +kernel) rfl
theorem wd_821 : Cond.methodLink "KnotRopes$Saying" 47 yX6_placesForPairs ∈ pm_gw := pm_gw_of (i := 821) (by decide +kernel) rfl
theorem wd_823 : Cond.instanceMethod yX6_placesForPairs ∈ pm_gw := pm_gw_of (i := 823) (by decide +kernel) rfl
theorem wd_824 : Cond.code yX6_placesForPairs cX6_placesForPairs 4 (some .int) ∈ pm_gw := pm_gw_of (i := 824) (by decide +kernel) rfl
theorem wd_825 : Cond.methodLink "KnotRopes$Saying" 54 yX6_canBe ∈ pm_gw := pm_gw_of (i := 825) (by decide +kernel) rfl
theorem wd_827 : Cond.instanceMethod yX6_canBe ∈ pm_gw := pm_gw_of (i := 827) (by decide +kernel) rfl
theorem wd_828 : Cond.code yX6_canBe cX6_canBe 5 (some .boolean) ∈ pm_gw := pm_gw_of (i := 828) (by decide +kernel) rfl
theorem wd_829 : Cond.methodLink "KnotRopes$Saying" 73 yX6_isShut ∈ pm_gw := pm_gw_of (i := 829) (by decide +kernel) rfl
theorem wd_830 : Cond.static yX6_isShut ∈ pm_gw := pm_gw_of (i := 830) (by decide +kernel) rfl
theorem wd_831 : Cond.code yX6_isShut cX6_isShut 1 (some .boolean) ∈ pm_gw := pm_gw_of (i := 831) (by decide +kernel) rfl
theorem wd_832 : Cond.methodLink "KnotRopes$Saying" 58 yX6_leastBy ∈ pm_gw := pm_gw_of (i := 832) (by decide +kernel) rfl
theorem wd_834 : Cond.instanceMethod yX6_leastBy ∈ pm_gw := pm_gw_of (i := 834) (by decide +kernel) rfl
theorem wd_835 : Cond.code yX6_leastBy cX6_leastBy 4 (some .int) ∈ pm_gw := pm_gw_of (i := 835) (by decide +kernel) rfl
theorem wd_836 : Cond.methodLink "KnotRopes$Saying" 87 yX6_ending ∈ pm_gw := pm_gw_of (i := 836) (by decide +kernel) rfl
theorem wd_837 : Cond.instanceMethod yX6_ending ∈ pm_gw := pm_gw_of (i := 837) (by decide +kernel) rfl
theorem wd_838 : Cond.selects "KnotRopes$Saying" yX6_ending yX6_ending ∈ pm_gw := pm_gw_of (i := 838) (by decide +kernel) rfl
theorem wd_839 : Cond.code yX6_ending cX6_ending 5 (some .int) ∈ pm_gw := pm_gw_of (i := 839) (by decide +kernel) rfl
theorem wd_840 : Cond.methodLink "KnotRopes$Saying" 127 yX6_leastWith ∈ pm_gw := pm_gw_of (i := 840) (by decide +kernel) rfl
theorem wd_842 : Cond.instanceMethod yX6_leastWith ∈ pm_gw := pm_gw_of (i := 842) (by decide +kernel) rfl
theorem wd_843 : Cond.code yX6_leastWith cX6_leastWith 4 (some .int) ∈ pm_gw := pm_gw_of (i := 843) (by decide +kernel) rfl
theorem wd_844 : Cond.methodLink "KnotRopes$Saying" 97 yX6_onward ∈ pm_gw := pm_gw_of (i := 844) (by decide +kernel) rfl
theorem wd_845 : Cond.instanceMethod yX6_onward ∈ pm_gw := pm_gw_of (i := 845) (by decide +kernel) rfl
theorem wd_846 : Cond.selects "KnotRopes$Saying" yX6_onward yX6_onward ∈ pm_gw := pm_gw_of (i := 846) (by decide +kernel) rfl
theorem wd_847 : Cond.code yX6_onward cX6_onward 8 (some .int) ∈ pm_gw := pm_gw_of (i := 847) (by decide +kernel) rfl
theorem wd_848 : Cond.methodLink "KnotRopes$Saying" 79 yX1_isBarred ∈ pm_gw := pm_gw_of (i := 848) (by decide +kernel) rfl
theorem wd_849 : Cond.methodLink "KnotRopes$Saying" 83 yX1_pairedSign ∈ pm_gw := pm_gw_of (i := 849) (by decide +kernel) rfl
theorem wd_850 : Cond.methodLink "KnotRopes$Saying" 100 yX1_takesBehind ∈ pm_gw := pm_gw_of (i := 850) (by decide +kernel) rfl
theorem wd_851 : Cond.methodLink "KnotRopes$Saying" 130 Lib.Math.min.name ∈ pm_gw := pm_gw_of (i := 851) (by decide +kernel) rfl
theorem wd_852 : Cond.static Lib.Math.min.name ∈ pm_gw := pm_gw_of (i := 852) (by decide +kernel) rfl
theorem wd_853 : Cond.code Lib.Math.min.name Lib.Math.min.code 2 (some .int) ∈ pm_gw := pm_gw_of (i := 853) (by decide +kernel) rfl
theorem wd_854 : Cond.methodLink "KnotRopes" 262 yX6_leastOfAll ∈ pm_gw := pm_gw_of (i := 854) (by decide +kernel) rfl
theorem wd_855 : Cond.instanceMethod yX6_leastOfAll ∈ pm_gw := pm_gw_of (i := 855) (by decide +kernel) rfl
theorem wd_856 : Cond.selects "KnotRopes$Saying" yX6_leastOfAll yX6_leastOfAll ∈ pm_gw := pm_gw_of (i := 856) (by decide +kernel) rfl
theorem wd_857 : Cond.code yX6_leastOfAll cX6_leastOfAll 1 (some .int) ∈ pm_gw := pm_gw_of (i := 857) (by decide +kernel) rfl
theorem wd_858 : Cond.methodLink "KnotRopes" 265 yX5_clear ∈ pm_gw := pm_gw_of (i := 858) (by decide +kernel) rfl
theorem wd_859 : Cond.methodLink "KnotRopes" 268 yX6_spell ∈ pm_gw := pm_gw_of (i := 859) (by decide +kernel) rfl
theorem wd_860 : Cond.instanceMethod yX6_spell ∈ pm_gw := pm_gw_of (i := 860) (by decide +kernel) rfl
theorem wd_861 : Cond.selects "KnotRopes$Saying" yX6_spell yX6_spell ∈ pm_gw := pm_gw_of (i := 861) (by decide +kernel) rfl
theorem wd_862 : Cond.code yX6_spell cX6_spell 6 none ∈ pm_gw := pm_gw_of (i := 862) (by decide +kernel) rfl
theorem wd_863 : Cond.methodLink "KnotRopes$Saying" 90 yX6_firstOfLeast ∈ pm_gw := pm_gw_of (i := 863) (by decide +kernel) rfl
theorem wd_865 : Cond.instanceMethod yX6_firstOfLeast ∈ pm_gw := pm_gw_of (i := 865) (by decide +kernel) rfl
theorem wd_866 : Cond.code yX6_firstOfLeast cX6_firstOfLeast 3 (some .int) ∈ pm_gw := pm_gw_of (i := 866) (by decide +kernel) rfl
theorem wd_867 : Cond.methodLink "KnotRopes$Saying" 93 yX5_add ∈ pm_gw := pm_gw_of (i := 867) (by decide +kernel) rfl
theorem wd_872 : Cond.methodLink "KnotRopes" 272 yX6_howManyWays ∈ pm_gw := pm_gw_of (i := 872) (by decide +kernel) rfl
theorem wd_873 : Cond.instanceMethod yX6_howManyWays ∈ pm_gw := pm_gw_of (i := 873) (by decide +kernel) rfl
theorem wd_874 : Cond.selects "KnotRopes$Saying" yX6_howManyWays yX6_howManyWays ∈ pm_gw := pm_gw_of (i := 874) (by decide +kernel) rfl
theorem wd_875 : Cond.code yX6_howManyWays cX6_howManyWays 5 (some .long) ∈ pm_gw := pm_gw_of (i := 875) (by decide +kernel) rfl
theorem wd_876 : Cond.methodLink "KnotRopes$Saying" 110 yX6_countWays ∈ pm_gw := pm_gw_of (i := 876) (by decide +kernel) rfl
theorem wd_878 : Cond.instanceMethod yX6_countWays ∈ pm_gw := pm_gw_of (i := 878) (by decide +kernel) rfl
theorem wd_879 : Cond.code yX6_countWays cX6_countWays 5 none ∈ pm_gw := pm_gw_of (i := 879) (by decide +kernel) rfl
theorem wd_880 : Cond.methodLink "KnotRopes$Saying" 113 yX6_spot ∈ pm_gw := pm_gw_of (i := 880) (by decide +kernel) rfl
theorem wd_881 : Cond.static yX6_spot ∈ pm_gw := pm_gw_of (i := 881) (by decide +kernel) rfl
theorem wd_882 : Cond.code yX6_spot cX6_spot 1 (some .int) ∈ pm_gw := pm_gw_of (i := 882) (by decide +kernel) rfl
theorem wd_889 : Cond.methodLink "KnotRopes" 275 yX7_search ∈ pm_gw := pm_gw_of (i := 889) (by decide +kernel) rfl
theorem wd_890 : Cond.instanceMethod yX7_search ∈ pm_gw := pm_gw_of (i := 890) (by decide +kernel) rfl
theorem wd_891 : Cond.selects "KnotRopes$SignSwap" yX7_search yX7_search ∈ pm_gw := pm_gw_of (i := 891) (by decide +kernel) rfl
theorem wd_892 : Cond.code yX7_search cX7_search 2 (some .int) ∈ pm_gw := pm_gw_of (i := 892) (by decide +kernel) rfl
theorem wd_893 : Cond.methodLink "KnotRopes$SignSwap" 36 yX5_bits ∈ pm_gw := pm_gw_of (i := 893) (by decide +kernel) rfl
theorem wd_894 : Cond.instanceMethod yX5_bits ∈ pm_gw := pm_gw_of (i := 894) (by decide +kernel) rfl
theorem wd_895 : Cond.selects "KnotRopes$Row" yX5_bits yX5_bits ∈ pm_gw := pm_gw_of (i := 895) (by decide +kernel) rfl
theorem wd_896 : Cond.code yX5_bits cX5_bits 3 (some .int) ∈ pm_gw := pm_gw_of (i := 896) (by decide +kernel) rfl
theorem wd_897 : Cond.methodLink "KnotRopes$SignSwap" 44 yX1_room ∈ pm_gw := pm_gw_of (i := 897) (by decide +kernel) rfl
theorem wd_898 : Cond.methodLink "KnotRopes$SignSwap" 52 yX5_clear ∈ pm_gw := pm_gw_of (i := 898) (by decide +kernel) rfl
theorem wd_899 : Cond.methodLink "KnotRopes$SignSwap" 55 yX7_assign ∈ pm_gw := pm_gw_of (i := 899) (by decide +kernel) rfl
theorem wd_901 : Cond.instanceMethod yX7_assign ∈ pm_gw := pm_gw_of (i := 901) (by decide +kernel) rfl
theorem wd_902 : Cond.code yX7_assign cX7_assign 4 none ∈ pm_gw := pm_gw_of (i := 902) (by decide +kernel) rfl
theorem wd_903 : Cond.methodLink "KnotRopes$SignSwap" 62 yX6_begin ∈ pm_gw := pm_gw_of (i := 903) (by decide +kernel) rfl
theorem wd_904 : Cond.methodLink "KnotRopes$SignSwap" 68 yX6_leastOfAll ∈ pm_gw := pm_gw_of (i := 904) (by decide +kernel) rfl
theorem wd_905 : Cond.methodLink "KnotRopes$SignSwap" 71 yX5_become ∈ pm_gw := pm_gw_of (i := 905) (by decide +kernel) rfl
theorem wd_906 : Cond.methodLink "KnotRopes$SignSwap" 75 yX7_hasLikeAhead ∈ pm_gw := pm_gw_of (i := 906) (by decide +kernel) rfl
theorem wd_908 : Cond.instanceMethod yX7_hasLikeAhead ∈ pm_gw := pm_gw_of (i := 908) (by decide +kernel) rfl
theorem wd_909 : Cond.code yX7_hasLikeAhead cX7_hasLikeAhead 4 (some .boolean) ∈ pm_gw := pm_gw_of (i := 909) (by decide +kernel) rfl
theorem wd_910 : Cond.methodLink "KnotRopes$SignSwap" 89 yX7_doesAsWell ∈ pm_gw := pm_gw_of (i := 910) (by decide +kernel) rfl
theorem wd_912 : Cond.instanceMethod yX7_doesAsWell ∈ pm_gw := pm_gw_of (i := 912) (by decide +kernel) rfl
theorem wd_913 : Cond.code yX7_doesAsWell cX7_doesAsWell 4 (some .boolean) ∈ pm_gw := pm_gw_of (i := 913) (by decide +kernel) rfl
theorem wd_914 : Cond.methodLink "KnotRopes$SignSwap" 82 yX5_add ∈ pm_gw := pm_gw_of (i := 914) (by decide +kernel) rfl
theorem wd_919 : Cond.methodLink "KnotRopes" 281 yX6_goOnFrom ∈ pm_gw := pm_gw_of (i := 919) (by decide +kernel) rfl
theorem wd_920 : Cond.instanceMethod yX6_goOnFrom ∈ pm_gw := pm_gw_of (i := 920) (by decide +kernel) rfl
theorem wd_921 : Cond.selects "KnotRopes$Saying" yX6_goOnFrom yX6_goOnFrom ∈ pm_gw := pm_gw_of (i := 921) (by decide +kernel) rfl
theorem wd_922 : Cond.code yX6_goOnFrom cX6_goOnFrom 7 (some .boolean) ∈ pm_gw := pm_gw_of (i := 922) (by decide +kernel) rfl
theorem wd_923 : Cond.methodLink "KnotRopes$Saying" 103 yX1_room ∈ pm_gw := pm_gw_of (i := 923) (by decide +kernel) rfl
theorem wd_924 : Cond.methodLink "KnotRopes$Saying" 106 yX6_spell ∈ pm_gw := pm_gw_of (i := 924) (by decide +kernel) rfl
theorem wd_929 : Cond.methodLink "KnotRopes" 284 yX0_search ∈ pm_gw := pm_gw_of (i := 929) (by decide +kernel) rfl
theorem wd_930 : Cond.instanceMethod yX0_search ∈ pm_gw := pm_gw_of (i := 930) (by decide +kernel) rfl
theorem wd_931 : Cond.selects "KnotRopes$BothEnds" yX0_search yX0_search ∈ pm_gw := pm_gw_of (i := 931) (by decide +kernel) rfl
theorem wd_932 : Cond.code yX0_search cX0_search 3 (some .int) ∈ pm_gw := pm_gw_of (i := 932) (by decide +kernel) rfl
theorem wd_933 : Cond.methodLink "KnotRopes$BothEnds" 38 yX1_room ∈ pm_gw := pm_gw_of (i := 933) (by decide +kernel) rfl
theorem wd_934 : Cond.methodLink "KnotRopes$BothEnds" 48 yX5_clear ∈ pm_gw := pm_gw_of (i := 934) (by decide +kernel) rfl
theorem wd_935 : Cond.methodLink "KnotRopes$BothEnds" 55 yX6_begin ∈ pm_gw := pm_gw_of (i := 935) (by decide +kernel) rfl
theorem wd_936 : Cond.methodLink "KnotRopes$BothEnds" 61 yX0_goOn ∈ pm_gw := pm_gw_of (i := 936) (by decide +kernel) rfl
theorem wd_938 : Cond.instanceMethod yX0_goOn ∈ pm_gw := pm_gw_of (i := 938) (by decide +kernel) rfl
theorem wd_939 : Cond.code yX0_goOn cX0_goOn 8 none ∈ pm_gw := pm_gw_of (i := 939) (by decide +kernel) rfl
theorem wd_940 : Cond.methodLink "KnotRopes$BothEnds" 65 yX6_ending ∈ pm_gw := pm_gw_of (i := 940) (by decide +kernel) rfl
theorem wd_941 : Cond.methodLink "KnotRopes$BothEnds" 69 yX0_readsBackward ∈ pm_gw := pm_gw_of (i := 941) (by decide +kernel) rfl
theorem wd_943 : Cond.instanceMethod yX0_readsBackward ∈ pm_gw := pm_gw_of (i := 943) (by decide +kernel) rfl
theorem wd_944 : Cond.code yX0_readsBackward cX0_readsBackward 1 (some .boolean) ∈ pm_gw := pm_gw_of (i := 944) (by decide +kernel) rfl
theorem wd_945 : Cond.methodLink "KnotRopes$BothEnds" 97 yX5_becomeReversed ∈ pm_gw := pm_gw_of (i := 945) (by decide +kernel) rfl
theorem wd_946 : Cond.instanceMethod yX5_becomeReversed ∈ pm_gw := pm_gw_of (i := 946) (by decide +kernel) rfl
theorem wd_947 : Cond.selects "KnotRopes$Row" yX5_becomeReversed yX5_becomeReversed ∈ pm_gw := pm_gw_of (i := 947) (by decide +kernel) rfl
theorem wd_948 : Cond.code yX5_becomeReversed cX5_becomeReversed 3 none ∈ pm_gw := pm_gw_of (i := 948) (by decide +kernel) rfl
theorem wd_949 : Cond.methodLink "KnotRopes$Row" 31 yX5_clear ∈ pm_gw := pm_gw_of (i := 949) (by decide +kernel) rfl
theorem wd_950 : Cond.methodLink "KnotRopes$Row" 34 yX5_add ∈ pm_gw := pm_gw_of (i := 950) (by decide +kernel) rfl
theorem wd_951 : Cond.methodLink "KnotRopes$BothEnds" 100 yX1_read ∈ pm_gw := pm_gw_of (i := 951) (by decide +kernel) rfl
theorem wd_952 : Cond.methodLink "KnotRopes$BothEnds" 104 yX5_isLike ∈ pm_gw := pm_gw_of (i := 952) (by decide +kernel) rfl
theorem wd_953 : Cond.instanceMethod yX5_isLike ∈ pm_gw := pm_gw_of (i := 953) (by decide +kernel) rfl
theorem wd_954 : Cond.selects "KnotRopes$Row" yX5_isLike yX5_isLike ∈ pm_gw := pm_gw_of (i := 954) (by decide +kernel) rfl
theorem wd_955 : Cond.code yX5_isLike cX5_isLike 3 (some .boolean) ∈ pm_gw := pm_gw_of (i := 955) (by decide +kernel) rfl
theorem wd_956 : Cond.methodLink "KnotRopes$BothEnds" 73 yX5_become ∈ pm_gw := pm_gw_of (i := 956) (by decide +kernel) rfl
theorem wd_957 : Cond.methodLink "KnotRopes$BothEnds" 83 yX6_onward ∈ pm_gw := pm_gw_of (i := 957) (by decide +kernel) rfl
theorem wd_958 : Cond.methodLink "KnotRopes$BothEnds" 87 yX1_takesBehind ∈ pm_gw := pm_gw_of (i := 958) (by decide +kernel) rfl
theorem wd_959 : Cond.methodLink "KnotRopes$BothEnds" 90 yX6_leastFrom ∈ pm_gw := pm_gw_of (i := 959) (by decide +kernel) rfl
theorem wd_960 : Cond.instanceMethod yX6_leastFrom ∈ pm_gw := pm_gw_of (i := 960) (by decide +kernel) rfl
theorem wd_961 : Cond.selects "KnotRopes$Saying" yX6_leastFrom yX6_leastFrom ∈ pm_gw := pm_gw_of (i := 961) (by decide +kernel) rfl
theorem wd_962 : Cond.code yX6_leastFrom cX6_leastFrom 2 (some .int) ∈ pm_gw := pm_gw_of (i := 962) (by decide +kernel) rfl
theorem wd_963 : Cond.methodLink "KnotRopes$BothEnds" 93 yX5_add ∈ pm_gw := pm_gw_of (i := 963) (by decide +kernel) rfl
theorem wd_968 : Cond.methodLink "KnotRopes" 288 yX4_clear ∈ pm_gw := pm_gw_of (i := 968) (by decide +kernel) rfl
theorem wd_969 : Cond.instanceMethod yX4_clear ∈ pm_gw := pm_gw_of (i := 969) (by decide +kernel) rfl
theorem wd_970 : Cond.selects "KnotRopes$Readings" yX4_clear yX4_clear ∈ pm_gw := pm_gw_of (i := 970) (by decide +kernel) rfl
theorem wd_971 : Cond.code yX4_clear cX4_clear 1 none ∈ pm_gw := pm_gw_of (i := 971) (by decide +kernel) rfl
theorem wd_972 : Cond.methodLink "KnotRopes" 289 yX10_readWithout ∈ pm_gw := pm_gw_of (i := 972) (by decide +kernel) rfl
theorem wd_974 : Cond.instanceMethod yX10_readWithout ∈ pm_gw := pm_gw_of (i := 974) (by decide +kernel) rfl
theorem wd_975 : Cond.code yX10_readWithout cX10_readWithout 3 none ∈ pm_gw := pm_gw_of (i := 975) (by decide +kernel) rfl
theorem wd_976 : Cond.methodLink "KnotRopes" 376 yX5_becomeWithout ∈ pm_gw := pm_gw_of (i := 976) (by decide +kernel) rfl
theorem wd_977 : Cond.instanceMethod yX5_becomeWithout ∈ pm_gw := pm_gw_of (i := 977) (by decide +kernel) rfl
theorem wd_978 : Cond.selects "KnotRopes$Row" yX5_becomeWithout yX5_becomeWithout ∈ pm_gw := pm_gw_of (i := 978) (by decide +kernel) rfl
theorem wd_979 : Cond.code yX5_becomeWithout cX5_becomeWithout 4 none ∈ pm_gw := pm_gw_of (i := 979) (by decide +kernel) rfl
theorem wd_980 : Cond.methodLink "KnotRopes" 293 yX4_addUnlike ∈ pm_gw := pm_gw_of (i := 980) (by decide +kernel) rfl
theorem wd_981 : Cond.instanceMethod yX4_addUnlike ∈ pm_gw := pm_gw_of (i := 981) (by decide +kernel) rfl
theorem wd_982 : Cond.selects "KnotRopes$Readings" yX4_addUnlike yX4_addUnlike ∈ pm_gw := pm_gw_of (i := 982) (by decide +kernel) rfl
theorem wd_983 : Cond.code yX4_addUnlike cX4_addUnlike 2 none ∈ pm_gw := pm_gw_of (i := 983) (by decide +kernel) rfl
theorem wd_984 : Cond.methodLink "KnotRopes$Readings" 26 yX4_has ∈ pm_gw := pm_gw_of (i := 984) (by decide +kernel) rfl
theorem wd_985 : Cond.instanceMethod yX4_has ∈ pm_gw := pm_gw_of (i := 985) (by decide +kernel) rfl
theorem wd_986 : Cond.selects "KnotRopes$Readings" yX4_has yX4_has ∈ pm_gw := pm_gw_of (i := 986) (by decide +kernel) rfl
theorem wd_987 : Cond.code yX4_has cX4_has 3 (some .boolean) ∈ pm_gw := pm_gw_of (i := 987) (by decide +kernel) rfl
theorem wd_988 : Cond.methodLink "KnotRopes$Readings" 22 yX5_isLike ∈ pm_gw := pm_gw_of (i := 988) (by decide +kernel) rfl
theorem wd_989 : Cond.methodLink "KnotRopes$Readings" 29 yX5_become ∈ pm_gw := pm_gw_of (i := 989) (by decide +kernel) rfl
theorem wd_990 : Cond.methodLink "KnotRopes" 296 yX5_isLike ∈ pm_gw := pm_gw_of (i := 990) (by decide +kernel) rfl
theorem wd_995 : Cond.methodLink "KnotRopes" 300 yX4_has ∈ pm_gw := pm_gw_of (i := 995) (by decide +kernel) rfl
theorem wd_1000 : Cond.methodLink "KnotRopes" 303 yX5_becomeWith ∈ pm_gw := pm_gw_of (i := 1000) (by decide +kernel) rfl
theorem wd_1001 : Cond.instanceMethod yX5_becomeWith ∈ pm_gw := pm_gw_of (i := 1001) (by decide +kernel) rfl
theorem wd_1002 : Cond.selects "KnotRopes$Row" yX5_becomeWith yX5_becomeWith ∈ pm_gw := pm_gw_of (i := 1002) (by decide +kernel) rfl
theorem wd_1003 : Cond.code yX5_becomeWith cX5_becomeWith 5 none ∈ pm_gw := pm_gw_of (i := 1003) (by decide +kernel) rfl
theorem wd_1004 : Cond.methodLink "KnotRopes" 307 yX5_bits ∈ pm_gw := pm_gw_of (i := 1004) (by decide +kernel) rfl
theorem wd_1009 : Cond.methodLink "KnotRopes" 310 yX5_becomeTurned ∈ pm_gw := pm_gw_of (i := 1009) (by decide +kernel) rfl
theorem wd_1010 : Cond.instanceMethod yX5_becomeTurned ∈ pm_gw := pm_gw_of (i := 1010) (by decide +kernel) rfl
theorem wd_1011 : Cond.selects "KnotRopes$Row" yX5_becomeTurned yX5_becomeTurned ∈ pm_gw := pm_gw_of (i := 1011) (by decide +kernel) rfl
theorem wd_1012 : Cond.code yX5_becomeTurned cX5_becomeTurned 4 none ∈ pm_gw := pm_gw_of (i := 1012) (by decide +kernel) rfl
theorem wd_1021 : Cond.methodLink "KnotRopes" 317 yX3_pack ∈ pm_gw := pm_gw_of (i := 1021) (by decide +kernel) rfl
theorem wd_1022 : Cond.instanceMethod yX3_pack ∈ pm_gw := pm_gw_of (i := 1022) (by decide +kernel) rfl
theorem wd_1023 : Cond.selects "KnotRopes$Packing" yX3_pack yX3_pack ∈ pm_gw := pm_gw_of (i := 1023) (by decide +kernel) rfl
theorem wd_1024 : Cond.code yX3_pack cX3_pack 5 none ∈ pm_gw := pm_gw_of (i := 1024) (by decide +kernel) rfl
theorem wd_1025 : Cond.methodLink "KnotRopes$Packing" 27 yX3_sumOf ∈ pm_gw := pm_gw_of (i := 1025) (by decide +kernel) rfl
theorem wd_1026 : Cond.static yX3_sumOf ∈ pm_gw := pm_gw_of (i := 1026) (by decide +kernel) rfl
theorem wd_1027 : Cond.code yX3_sumOf cX3_sumOf 4 (some .int) ∈ pm_gw := pm_gw_of (i := 1027) (by decide +kernel) rfl
theorem wd_1028 : Cond.methodLink "KnotRopes$Packing" 31 yX3_firstRope ∈ pm_gw := pm_gw_of (i := 1028) (by decide +kernel) rfl
theorem wd_1030 : Cond.instanceMethod yX3_firstRope ∈ pm_gw := pm_gw_of (i := 1030) (by decide +kernel) rfl
theorem wd_1031 : Cond.code yX3_firstRope cX3_firstRope 7 (some .int) ∈ pm_gw := pm_gw_of (i := 1031) (by decide +kernel) rfl
theorem wd_1036 : Cond.constantLong "KnotRopes" 326 (2147483647) ∈ pm_gw := pm_gw_of (i := 1036) (by decide +kernel) rfl
theorem wd_1037 : Cond.methodLink "KnotRopes" 328 yX10_knotsThatFit ∈ pm_gw := pm_gw_of (i := 1037) (by decide +kernel) rfl
theorem wd_1039 : Cond.instanceMethod yX10_knotsThatFit ∈ pm_gw := pm_gw_of (i := 1039) (by decide +kernel) rfl
theorem wd_1040 : Cond.code yX10_knotsThatFit cX10_knotsThatFit 4 (some .int) ∈ pm_gw := pm_gw_of (i := 1040) (by decide +kernel) rfl
theorem wd_1041 : Cond.methodLink "KnotRopes" 331 yJ6_bitCount_0f7a4 ∈ pm_gw := pm_gw_of (i := 1041) (by decide +kernel) rfl
theorem wd_1042 : Cond.static yJ6_bitCount_0f7a4 ∈ pm_gw := pm_gw_of (i := 1042) (by decide +kernel) rfl
theorem wd_1043 : Cond.code yJ6_bitCount_0f7a4 cJ6_bitCount_0f7a4 1 (some .int) ∈ pm_gw := pm_gw_of (i := 1043) (by decide +kernel) rfl
theorem wd_1044 : Cond.constant "java/lang/Integer" 265 (1431655765) ∈ pm_gw := pm_gw_of (i := 1044) (by decide +kernel) rfl
theorem wd_1045 : Cond.constant "java/lang/Integer" 266 (858993459) ∈ pm_gw := pm_gw_of (i := 1045) (by decide +kernel) rfl
theorem wd_1046 : Cond.constant "java/lang/Integer" 267 (252645135) ∈ pm_gw := pm_gw_of (i := 1046) (by decide +kernel) rfl
theorem wd_1047 : Cond.constantLong "KnotRopes" 336 (48271) ∈ pm_gw := pm_gw_of (i := 1047) (by decide +kernel) rfl
theorem wd_1048 : Cond.methodLink "KnotRopes" 338 yX10_numberOfBit ∈ pm_gw := pm_gw_of (i := 1048) (by decide +kernel) rfl
theorem wd_1049 : Cond.static yX10_numberOfBit ∈ pm_gw := pm_gw_of (i := 1049) (by decide +kernel) rfl
theorem wd_1050 : Cond.code yX10_numberOfBit cX10_numberOfBit 4 (some .int) ∈ pm_gw := pm_gw_of (i := 1050) (by decide +kernel) rfl
theorem wd_1064 : Cond.instanceMethod yX10_count ∈ pm_gw := pm_gw_of (i := 1064) (by decide +kernel) rfl
theorem wd_1065 : Cond.selects "KnotRopes" yX10_count yX10_count ∈ pm_gw := pm_gw_of (i := 1065) (by decide +kernel) rfl
theorem wd_1066 : Cond.code yX10_count cX10_count 2 (some .int) ∈ pm_gw := pm_gw_of (i := 1066) (by decide +kernel) rfl
theorem wd_1067 : Cond.methodLink "KnotRopes" 341 yX1_knotsOfKind ∈ pm_gw := pm_gw_of (i := 1067) (by decide +kernel) rfl
theorem wd_1068 : Cond.instanceMethod yX1_knotsOfKind ∈ pm_gw := pm_gw_of (i := 1068) (by decide +kernel) rfl
theorem wd_1069 : Cond.selects "KnotRopes$Craft" yX1_knotsOfKind yX1_knotsOfKind ∈ pm_gw := pm_gw_of (i := 1069) (by decide +kernel) rfl
theorem wd_1070 : Cond.code yX1_knotsOfKind cX1_knotsOfKind 4 (some .int) ∈ pm_gw := pm_gw_of (i := 1070) (by decide +kernel) rfl
theorem wd_1071 : Cond.methodLink "KnotRopes" 350 yX10_rowsThere ∈ pm_gw := pm_gw_of (i := 1071) (by decide +kernel) rfl
theorem wd_1072 : Cond.static yX10_rowsThere ∈ pm_gw := pm_gw_of (i := 1072) (by decide +kernel) rfl
theorem wd_1073 : Cond.code yX10_rowsThere cX10_rowsThere 3 (some .int) ∈ pm_gw := pm_gw_of (i := 1073) (by decide +kernel) rfl
theorem wd_1074 : Cond.methodLink "KnotRopes" 354 yX10_textsThere ∈ pm_gw := pm_gw_of (i := 1074) (by decide +kernel) rfl
theorem wd_1076 : Cond.instanceMethod yX10_textsThere ∈ pm_gw := pm_gw_of (i := 1076) (by decide +kernel) rfl
theorem wd_1077 : Cond.code yX10_textsThere cX10_textsThere 3 (some .int) ∈ pm_gw := pm_gw_of (i := 1077) (by decide +kernel) rfl
theorem wd_1090 : Cond.constantLong "KnotRopes" 360 (17) ∈ pm_gw := pm_gw_of (i := 1090) (by decide +kernel) rfl
theorem wd_1091 : Cond.constantLong "KnotRopes" 362 (31) ∈ pm_gw := pm_gw_of (i := 1091) (by decide +kernel) rfl
theorem wd_1092 : Cond.methodLink "KnotRopes" 364 yX10_count ∈ pm_gw := pm_gw_of (i := 1092) (by decide +kernel) rfl
theorem wd_1093 : Cond.methodLink "KnotRopes" 367 yX1_digestOn ∈ pm_gw := pm_gw_of (i := 1093) (by decide +kernel) rfl
theorem wd_1094 : Cond.instanceMethod yX1_digestOn ∈ pm_gw := pm_gw_of (i := 1094) (by decide +kernel) rfl
theorem wd_1095 : Cond.selects "KnotRopes$Craft" yX1_digestOn yX1_digestOn ∈ pm_gw := pm_gw_of (i := 1095) (by decide +kernel) rfl
theorem wd_1096 : Cond.code yX1_digestOn cX1_digestOn 5 (some .long) ∈ pm_gw := pm_gw_of (i := 1096) (by decide +kernel) rfl
theorem wd_1097 : Cond.constantLong "KnotRopes$Craft" 143 (31) ∈ pm_gw := pm_gw_of (i := 1097) (by decide +kernel) rfl
theorem wd_1098 : Cond.methodLink "KnotRopes$Craft" 145 yX1_knotFact ∈ pm_gw := pm_gw_of (i := 1098) (by decide +kernel) rfl
theorem wd_1099 : Cond.methodLink "KnotRopes" 371 yX5_digestOn ∈ pm_gw := pm_gw_of (i := 1099) (by decide +kernel) rfl
theorem wd_1100 : Cond.instanceMethod yX5_digestOn ∈ pm_gw := pm_gw_of (i := 1100) (by decide +kernel) rfl
theorem wd_1101 : Cond.selects "KnotRopes$Row" yX5_digestOn yX5_digestOn ∈ pm_gw := pm_gw_of (i := 1101) (by decide +kernel) rfl
theorem wd_1102 : Cond.code yX5_digestOn cX5_digestOn 4 (some .long) ∈ pm_gw := pm_gw_of (i := 1102) (by decide +kernel) rfl
theorem wd_1103 : Cond.constantLong "KnotRopes$Row" 38 (31) ∈ pm_gw := pm_gw_of (i := 1103) (by decide +kernel) rfl
theorem wd_1104 : Cond.methodLink "KnotRopes" 372 yX9_digestOn ∈ pm_gw := pm_gw_of (i := 1104) (by decide +kernel) rfl
theorem wd_1105 : Cond.instanceMethod yX9_digestOn ∈ pm_gw := pm_gw_of (i := 1105) (by decide +kernel) rfl
theorem wd_1106 : Cond.selects "KnotRopes$Text" yX9_digestOn yX9_digestOn ∈ pm_gw := pm_gw_of (i := 1106) (by decide +kernel) rfl
theorem wd_1107 : Cond.code yX9_digestOn cX9_digestOn 4 (some .long) ∈ pm_gw := pm_gw_of (i := 1107) (by decide +kernel) rfl
theorem wd_1108 : Cond.constantLong "KnotRopes$Text" 19 (31) ∈ pm_gw := pm_gw_of (i := 1108) (by decide +kernel) rfl
theorem wd_1114 : Cond.methodLink "KnotRopesModel" 1 Lib.objectInit ∈ pm_gw := pm_gw_of (i := 1114) (by decide +kernel) rfl
theorem wd_1115 : Cond.fieldLink "KnotRopesModel" 115 "KnotRopesModel" "latest" "I" ∈ pm_gw := pm_gw_of (i := 1115) (by decide +kernel) rfl
theorem wd_1116 : Cond.fieldLink "KnotRopesModel" 7 "KnotRopesModel" "came" "[I" ∈ pm_gw := pm_gw_of (i := 1116) (by decide +kernel) rfl
theorem wd_1117 : Cond.fieldLink "KnotRopesModel" 123 "KnotRopesModel" "asked" "I" ∈ pm_gw := pm_gw_of (i := 1117) (by decide +kernel) rfl
theorem wd_1118 : Cond.fieldLink "KnotRopesModel" 126 "KnotRopesModel" "upper" "J" ∈ pm_gw := pm_gw_of (i := 1118) (by decide +kernel) rfl
theorem wd_1119 : Cond.fieldLink "KnotRopesModel" 13 "KnotRopesModel" "sizes" "[I" ∈ pm_gw := pm_gw_of (i := 1119) (by decide +kernel) rfl
theorem wd_1120 : Cond.fieldLink "KnotRopesModel" 16 "KnotRopesModel" "rows" "[I" ∈ pm_gw := pm_gw_of (i := 1120) (by decide +kernel) rfl
theorem wd_1121 : Cond.fieldLink "KnotRopesModel" 19 "KnotRopesModel" "copied" "[I" ∈ pm_gw := pm_gw_of (i := 1121) (by decide +kernel) rfl
theorem wd_1122 : Cond.fieldLink "KnotRopesModel" 22 "KnotRopesModel" "textSizes" "[I" ∈ pm_gw := pm_gw_of (i := 1122) (by decide +kernel) rfl
theorem wd_1123 : Cond.fieldLink "KnotRopesModel" 25 "KnotRopesModel" "bytes" "[B" ∈ pm_gw := pm_gw_of (i := 1123) (by decide +kernel) rfl
theorem wd_1124 : Cond.fieldLink "KnotRopesModel" 193 "KnotRopesModel" "lengthNow" "I" ∈ pm_gw := pm_gw_of (i := 1124) (by decide +kernel) rfl
theorem wd_1125 : Cond.fieldLink "KnotRopesModel" 196 "KnotRopesModel" "girth" "I" ∈ pm_gw := pm_gw_of (i := 1125) (by decide +kernel) rfl
theorem wd_1126 : Cond.fieldLink "KnotRopesModel" 199 "KnotRopesModel" "n" "I" ∈ pm_gw := pm_gw_of (i := 1126) (by decide +kernel) rfl
theorem wd_1127 : Cond.fieldLink "KnotRopesModel" 29 "KnotRopesModel" "kinds" "[I" ∈ pm_gw := pm_gw_of (i := 1127) (by decide +kernel) rfl
theorem wd_1128 : Cond.fieldLink "KnotRopesModel" 32 "KnotRopesModel" "knotSizes" "[I" ∈ pm_gw := pm_gw_of (i := 1128) (by decide +kernel) rfl
theorem wd_1129 : Cond.fieldLink "KnotRopesModel" 35 "KnotRopesModel" "knotSigns" "[I" ∈ pm_gw := pm_gw_of (i := 1129) (by decide +kernel) rfl
theorem wd_1130 : Cond.fieldLink "KnotRopesModel" 202 "KnotRopesModel" "lawMany" "I" ∈ pm_gw := pm_gw_of (i := 1130) (by decide +kernel) rfl
theorem wd_1131 : Cond.fieldLink "KnotRopesModel" 38 "KnotRopesModel" "barred" "[I" ∈ pm_gw := pm_gw_of (i := 1131) (by decide +kernel) rfl
theorem wd_1132 : Cond.fieldLink "KnotRopesModel" 205 "KnotRopesModel" "pairMany" "I" ∈ pm_gw := pm_gw_of (i := 1132) (by decide +kernel) rfl
theorem wd_1133 : Cond.fieldLink "KnotRopesModel" 41 "KnotRopesModel" "pairs" "[I" ∈ pm_gw := pm_gw_of (i := 1133) (by decide +kernel) rfl
theorem wd_1134 : Cond.fieldLink "KnotRopesModel" 148 "KnotRopesModel" "readAt" "I" ∈ pm_gw := pm_gw_of (i := 1134) (by decide +kernel) rfl
theorem wd_1135 : Cond.fieldLink "KnotRopesModel" 154 "KnotRopesModel" "readNumber" "I" ∈ pm_gw := pm_gw_of (i := 1135) (by decide +kernel) rfl
theorem wd_1136 : Cond.fieldLink "KnotRopesModel" 160 "KnotRopesModel" "readLength" "I" ∈ pm_gw := pm_gw_of (i := 1136) (by decide +kernel) rfl
theorem wd_1137 : Cond.fieldLink "KnotRopesModel" 163 "KnotRopesModel" "readGirth" "I" ∈ pm_gw := pm_gw_of (i := 1137) (by decide +kernel) rfl
theorem wd_1138 : Cond.fieldLink "KnotRopesModel" 169 "KnotRopesModel" "readKnots" "I" ∈ pm_gw := pm_gw_of (i := 1138) (by decide +kernel) rfl
theorem wd_1139 : Cond.fieldLink "KnotRopesModel" 172 "KnotRopesModel" "readLaws" "I" ∈ pm_gw := pm_gw_of (i := 1139) (by decide +kernel) rfl
theorem wd_1140 : Cond.fieldLink "KnotRopesModel" 175 "KnotRopesModel" "readPairs" "I" ∈ pm_gw := pm_gw_of (i := 1140) (by decide +kernel) rfl
theorem wd_1141 : Cond.fieldLink "KnotRopesModel" 44 "KnotRopesModel" "readKnot" "[I" ∈ pm_gw := pm_gw_of (i := 1141) (by decide +kernel) rfl
theorem wd_1142 : Cond.fieldLink "KnotRopesModel" 47 "KnotRopesModel" "readLaw" "[I" ∈ pm_gw := pm_gw_of (i := 1142) (by decide +kernel) rfl
theorem wd_1143 : Cond.fieldLink "KnotRopesModel" 50 "KnotRopesModel" "readPair" "[I" ∈ pm_gw := pm_gw_of (i := 1143) (by decide +kernel) rfl
theorem wd_1144 : Cond.fieldLink "KnotRopesModel" 232 "KnotRopesModel" "lookMany" "I" ∈ pm_gw := pm_gw_of (i := 1144) (by decide +kernel) rfl
theorem wd_1145 : Cond.fieldLink "KnotRopesModel" 53 "KnotRopesModel" "look" "[I" ∈ pm_gw := pm_gw_of (i := 1145) (by decide +kernel) rfl
theorem wd_1146 : Cond.fieldLink "KnotRopesModel" 253 "KnotRopesModel" "readMany" "I" ∈ pm_gw := pm_gw_of (i := 1146) (by decide +kernel) rfl
theorem wd_1147 : Cond.fieldLink "KnotRopesModel" 56 "KnotRopesModel" "signsRead" "[I" ∈ pm_gw := pm_gw_of (i := 1147) (by decide +kernel) rfl
theorem wd_1148 : Cond.fieldLink "KnotRopesModel" 208 "KnotRopesModel" "ropeMany" "I" ∈ pm_gw := pm_gw_of (i := 1148) (by decide +kernel) rfl
theorem wd_1149 : Cond.fieldLink "KnotRopesModel" 59 "KnotRopesModel" "rope" "[I" ∈ pm_gw := pm_gw_of (i := 1149) (by decide +kernel) rfl
theorem wd_1150 : Cond.fieldLink "KnotRopesModel" 62 "KnotRopesModel" "keptMany" "[I" ∈ pm_gw := pm_gw_of (i := 1150) (by decide +kernel) rfl
theorem wd_1151 : Cond.fieldLink "KnotRopesModel" 65 "KnotRopesModel" "keptLength" "[I" ∈ pm_gw := pm_gw_of (i := 1151) (by decide +kernel) rfl
theorem wd_1152 : Cond.fieldLink "KnotRopesModel" 68 "KnotRopesModel" "keptRope" "[I" ∈ pm_gw := pm_gw_of (i := 1152) (by decide +kernel) rfl
theorem wd_1153 : Cond.fieldLink "KnotRopesModel" 71 "KnotRopesModel" "isKept" "[Z" ∈ pm_gw := pm_gw_of (i := 1153) (by decide +kernel) rfl
theorem wd_1154 : Cond.fieldLink "KnotRopesModel" 75 "KnotRopesModel" "rest" "[J" ∈ pm_gw := pm_gw_of (i := 1154) (by decide +kernel) rfl
theorem wd_1155 : Cond.fieldLink "KnotRopesModel" 302 "KnotRopesModel" "messageMany" "I" ∈ pm_gw := pm_gw_of (i := 1155) (by decide +kernel) rfl
theorem wd_1156 : Cond.fieldLink "KnotRopesModel" 79 "KnotRopesModel" "message" "[I" ∈ pm_gw := pm_gw_of (i := 1156) (by decide +kernel) rfl
theorem wd_1157 : Cond.fieldLink "KnotRopesModel" 82 "KnotRopesModel" "least" "[I" ∈ pm_gw := pm_gw_of (i := 1157) (by decide +kernel) rfl
theorem wd_1158 : Cond.fieldLink "KnotRopesModel" 85 "KnotRopesModel" "counts" "[J" ∈ pm_gw := pm_gw_of (i := 1158) (by decide +kernel) rfl
theorem wd_1159 : Cond.fieldLink "KnotRopesModel" 88 "KnotRopesModel" "then" "[J" ∈ pm_gw := pm_gw_of (i := 1159) (by decide +kernel) rfl
theorem wd_1160 : Cond.fieldLink "KnotRopesModel" 91 "KnotRopesModel" "ownSigns" "[I" ∈ pm_gw := pm_gw_of (i := 1160) (by decide +kernel) rfl
theorem wd_1161 : Cond.fieldLink "KnotRopesModel" 94 "KnotRopesModel" "whose" "[I" ∈ pm_gw := pm_gw_of (i := 1161) (by decide +kernel) rfl
theorem wd_1162 : Cond.fieldLink "KnotRopesModel" 97 "KnotRopesModel" "bestWhose" "[I" ∈ pm_gw := pm_gw_of (i := 1162) (by decide +kernel) rfl
theorem wd_1163 : Cond.fieldLink "KnotRopesModel" 352 "KnotRopesModel" "bestTakes" "I" ∈ pm_gw := pm_gw_of (i := 1163) (by decide +kernel) rfl
theorem wd_1164 : Cond.fieldLink "KnotRopesModel" 366 "KnotRopesModel" "otherMany" "I" ∈ pm_gw := pm_gw_of (i := 1164) (by decide +kernel) rfl
theorem wd_1165 : Cond.fieldLink "KnotRopesModel" 100 "KnotRopesModel" "other" "[I" ∈ pm_gw := pm_gw_of (i := 1165) (by decide +kernel) rfl
theorem wd_1166 : Cond.fieldLink "KnotRopesModel" 103 "KnotRopesModel" "bestLook" "[I" ∈ pm_gw := pm_gw_of (i := 1166) (by decide +kernel) rfl
theorem wd_1167 : Cond.fieldLink "KnotRopesModel" 372 "KnotRopesModel" "bestMany" "I" ∈ pm_gw := pm_gw_of (i := 1167) (by decide +kernel) rfl
theorem wd_1168 : Cond.fieldLink "KnotRopesModel" 106 "KnotRopesModel" "slipped" "[I" ∈ pm_gw := pm_gw_of (i := 1168) (by decide +kernel) rfl
theorem wd_1169 : Cond.fieldLink "KnotRopesModel" 109 "KnotRopesModel" "slipSigns" "[I" ∈ pm_gw := pm_gw_of (i := 1169) (by decide +kernel) rfl
theorem wd_1170 : Cond.fieldLink "KnotRopesModel" 112 "KnotRopesModel" "fewest" "[I" ∈ pm_gw := pm_gw_of (i := 1170) (by decide +kernel) rfl
theorem wd_1171 : Cond.fieldLink "KnotRopesModel" 413 "KnotRopesModel" "hash" "J" ∈ pm_gw := pm_gw_of (i := 1171) (by decide +kernel) rfl
theorem wd_1287 : Cond.arrayClass .boolean ∈ pm_gw := pm_gw_of (i := 1287) (by decide +kernel) rfl
theorem wd_1296 : Cond.methodLink "KnotRopesModel" 119 yX11_in ∈ pm_gw := pm_gw_of (i := 1296) (by decide +kernel) rfl
theorem wd_1297 : Cond.static yX11_in ∈ pm_gw := pm_gw_of (i := 1297) (by decide +kernel) rfl
theorem wd_1298 : Cond.code yX11_in cX11_in 3 (some .boolean) ∈ pm_gw := pm_gw_of (i := 1298) (by decide +kernel) rfl
theorem wd_1311 : Cond.methodLink "KnotRopesModel" 130 yX11_isRow ∈ pm_gw := pm_gw_of (i := 1311) (by decide +kernel) rfl
theorem wd_1312 : Cond.static yX11_isRow ∈ pm_gw := pm_gw_of (i := 1312) (by decide +kernel) rfl
theorem wd_1313 : Cond.code yX11_isRow cX11_isRow 1 (some .boolean) ∈ pm_gw := pm_gw_of (i := 1313) (by decide +kernel) rfl
theorem wd_1314 : Cond.methodLink "KnotRopesModel" 134 yX11_meets ∈ pm_gw := pm_gw_of (i := 1314) (by decide +kernel) rfl
theorem wd_1316 : Cond.instanceMethod yX11_meets ∈ pm_gw := pm_gw_of (i := 1316) (by decide +kernel) rfl
theorem wd_1317 : Cond.code yX11_meets cX11_meets 2 (some .int) ∈ pm_gw := pm_gw_of (i := 1317) (by decide +kernel) rfl
theorem wd_1322 : Cond.methodLink "KnotRopesModel" 138 yX11_rowAt ∈ pm_gw := pm_gw_of (i := 1322) (by decide +kernel) rfl
theorem wd_1324 : Cond.instanceMethod yX11_rowAt ∈ pm_gw := pm_gw_of (i := 1324) (by decide +kernel) rfl
theorem wd_1325 : Cond.code yX11_rowAt cX11_rowAt 3 (some .int) ∈ pm_gw := pm_gw_of (i := 1325) (by decide +kernel) rfl
theorem wd_1326 : Cond.methodLink "KnotRopesModel" 142 yX11_tells ∈ pm_gw := pm_gw_of (i := 1326) (by decide +kernel) rfl
theorem wd_1328 : Cond.instanceMethod yX11_tells ∈ pm_gw := pm_gw_of (i := 1328) (by decide +kernel) rfl
theorem wd_1329 : Cond.code yX11_tells cX11_tells 3 (some .int) ∈ pm_gw := pm_gw_of (i := 1329) (by decide +kernel) rfl
theorem wd_1350 : Cond.methodLink "KnotRopesModel" 145 yX11_isText ∈ pm_gw := pm_gw_of (i := 1350) (by decide +kernel) rfl
theorem wd_1351 : Cond.static yX11_isText ∈ pm_gw := pm_gw_of (i := 1351) (by decide +kernel) rfl
theorem wd_1352 : Cond.code yX11_isText cX11_isText 1 (some .boolean) ∈ pm_gw := pm_gw_of (i := 1352) (by decide +kernel) rfl
theorem wd_1361 : Cond.methodLink "KnotRopesModel" 190 yX11_faultOf ∈ pm_gw := pm_gw_of (i := 1361) (by decide +kernel) rfl
theorem wd_1363 : Cond.instanceMethod yX11_faultOf ∈ pm_gw := pm_gw_of (i := 1363) (by decide +kernel) rfl
theorem wd_1364 : Cond.code yX11_faultOf cX11_faultOf 3 (some .int) ∈ pm_gw := pm_gw_of (i := 1364) (by decide +kernel) rfl
theorem wd_1365 : Cond.methodLink "KnotRopesModel" 151 yX11_byteAt ∈ pm_gw := pm_gw_of (i := 1365) (by decide +kernel) rfl
theorem wd_1367 : Cond.instanceMethod yX11_byteAt ∈ pm_gw := pm_gw_of (i := 1367) (by decide +kernel) rfl
theorem wd_1368 : Cond.code yX11_byteAt cX11_byteAt 3 (some .int) ∈ pm_gw := pm_gw_of (i := 1368) (by decide +kernel) rfl
theorem wd_1369 : Cond.methodLink "KnotRopesModel" 178 yX11_readsLength ∈ pm_gw := pm_gw_of (i := 1369) (by decide +kernel) rfl
theorem wd_1371 : Cond.instanceMethod yX11_readsLength ∈ pm_gw := pm_gw_of (i := 1371) (by decide +kernel) rfl
theorem wd_1372 : Cond.code yX11_readsLength cX11_readsLength 4 (some .boolean) ∈ pm_gw := pm_gw_of (i := 1372) (by decide +kernel) rfl
theorem wd_1373 : Cond.methodLink "KnotRopesModel" 157 yX11_figure ∈ pm_gw := pm_gw_of (i := 1373) (by decide +kernel) rfl
theorem wd_1375 : Cond.instanceMethod yX11_figure ∈ pm_gw := pm_gw_of (i := 1375) (by decide +kernel) rfl
theorem wd_1376 : Cond.code yX11_figure cX11_figure 5 (some .boolean) ∈ pm_gw := pm_gw_of (i := 1376) (by decide +kernel) rfl
theorem wd_1377 : Cond.methodLink "KnotRopesModel" 181 yX11_readsLaw ∈ pm_gw := pm_gw_of (i := 1377) (by decide +kernel) rfl
theorem wd_1379 : Cond.instanceMethod yX11_readsLaw ∈ pm_gw := pm_gw_of (i := 1379) (by decide +kernel) rfl
theorem wd_1380 : Cond.code yX11_readsLaw cX11_readsLaw 3 (some .boolean) ∈ pm_gw := pm_gw_of (i := 1380) (by decide +kernel) rfl
theorem wd_1381 : Cond.methodLink "KnotRopesModel" 184 yX11_readsPair ∈ pm_gw := pm_gw_of (i := 1381) (by decide +kernel) rfl
theorem wd_1383 : Cond.instanceMethod yX11_readsPair ∈ pm_gw := pm_gw_of (i := 1383) (by decide +kernel) rfl
theorem wd_1384 : Cond.code yX11_readsPair cX11_readsPair 3 (some .boolean) ∈ pm_gw := pm_gw_of (i := 1384) (by decide +kernel) rfl
theorem wd_1385 : Cond.methodLink "KnotRopesModel" 187 yX11_readsKnot ∈ pm_gw := pm_gw_of (i := 1385) (by decide +kernel) rfl
theorem wd_1387 : Cond.instanceMethod yX11_readsKnot ∈ pm_gw := pm_gw_of (i := 1387) (by decide +kernel) rfl
theorem wd_1388 : Cond.code yX11_readsKnot cX11_readsKnot 4 (some .boolean) ∈ pm_gw := pm_gw_of (i := 1388) (by decide +kernel) rfl
theorem wd_1389 : Cond.methodLink "KnotRopesModel" 166 yX11_kindOf ∈ pm_gw := pm_gw_of (i := 1389) (by decide +kernel) rfl
theorem wd_1390 : Cond.static yX11_kindOf ∈ pm_gw := pm_gw_of (i := 1390) (by decide +kernel) rfl
theorem wd_1391 : Cond.code yX11_kindOf cX11_kindOf 1 (some .int) ∈ pm_gw := pm_gw_of (i := 1391) (by decide +kernel) rfl
theorem wd_1400 : Cond.methodLink "KnotRopesModel" 220 yX11_isKnot ∈ pm_gw := pm_gw_of (i := 1400) (by decide +kernel) rfl
theorem wd_1402 : Cond.instanceMethod yX11_isKnot ∈ pm_gw := pm_gw_of (i := 1402) (by decide +kernel) rfl
theorem wd_1403 : Cond.code yX11_isKnot cX11_isKnot 2 (some .boolean) ∈ pm_gw := pm_gw_of (i := 1403) (by decide +kernel) rfl
theorem wd_1404 : Cond.methodLink "KnotRopesModel" 223 yX11_knotTells ∈ pm_gw := pm_gw_of (i := 1404) (by decide +kernel) rfl
theorem wd_1406 : Cond.instanceMethod yX11_knotTells ∈ pm_gw := pm_gw_of (i := 1406) (by decide +kernel) rfl
theorem wd_1407 : Cond.code yX11_knotTells cX11_knotTells 3 (some .int) ∈ pm_gw := pm_gw_of (i := 1407) (by decide +kernel) rfl
theorem wd_1408 : Cond.methodLink "KnotRopesModel" 217 yX11_takeOf ∈ pm_gw := pm_gw_of (i := 1408) (by decide +kernel) rfl
theorem wd_1410 : Cond.instanceMethod yX11_takeOf ∈ pm_gw := pm_gw_of (i := 1410) (by decide +kernel) rfl
theorem wd_1411 : Cond.code yX11_takeOf cX11_takeOf 3 (some .int) ∈ pm_gw := pm_gw_of (i := 1411) (by decide +kernel) rfl
theorem wd_1412 : Cond.methodLink "KnotRopesModel" 211 yX11_isLoop ∈ pm_gw := pm_gw_of (i := 1412) (by decide +kernel) rfl
theorem wd_1414 : Cond.instanceMethod yX11_isLoop ∈ pm_gw := pm_gw_of (i := 1414) (by decide +kernel) rfl
theorem wd_1415 : Cond.code yX11_isLoop cX11_isLoop 2 (some .boolean) ∈ pm_gw := pm_gw_of (i := 1415) (by decide +kernel) rfl
theorem wd_1416 : Cond.methodLink "KnotRopesModel" 214 yX11_isBend ∈ pm_gw := pm_gw_of (i := 1416) (by decide +kernel) rfl
theorem wd_1418 : Cond.instanceMethod yX11_isBend ∈ pm_gw := pm_gw_of (i := 1418) (by decide +kernel) rfl
theorem wd_1419 : Cond.code yX11_isBend cX11_isBend 2 (some .boolean) ∈ pm_gw := pm_gw_of (i := 1419) (by decide +kernel) rfl
theorem wd_1424 : Cond.methodLink "KnotRopesModel" 226 yX11_pairsOf ∈ pm_gw := pm_gw_of (i := 1424) (by decide +kernel) rfl
theorem wd_1426 : Cond.instanceMethod yX11_pairsOf ∈ pm_gw := pm_gw_of (i := 1426) (by decide +kernel) rfl
theorem wd_1427 : Cond.code yX11_pairsOf cX11_pairsOf 4 (some .int) ∈ pm_gw := pm_gw_of (i := 1427) (by decide +kernel) rfl
theorem wd_1428 : Cond.methodLink "KnotRopesModel" 229 yX11_ofRope ∈ pm_gw := pm_gw_of (i := 1428) (by decide +kernel) rfl
theorem wd_1430 : Cond.instanceMethod yX11_ofRope ∈ pm_gw := pm_gw_of (i := 1430) (by decide +kernel) rfl
theorem wd_1431 : Cond.code yX11_ofRope cX11_ofRope 4 (some .int) ∈ pm_gw := pm_gw_of (i := 1431) (by decide +kernel) rfl
theorem wd_1444 : Cond.methodLink "KnotRopesModel" 259 yX11_lookAtRope ∈ pm_gw := pm_gw_of (i := 1444) (by decide +kernel) rfl
theorem wd_1446 : Cond.instanceMethod yX11_lookAtRope ∈ pm_gw := pm_gw_of (i := 1446) (by decide +kernel) rfl
theorem wd_1447 : Cond.code yX11_lookAtRope cX11_lookAtRope 2 none ∈ pm_gw := pm_gw_of (i := 1447) (by decide +kernel) rfl
theorem wd_1448 : Cond.methodLink "KnotRopesModel" 262 yX11_lookRight ∈ pm_gw := pm_gw_of (i := 1448) (by decide +kernel) rfl
theorem wd_1450 : Cond.instanceMethod yX11_lookRight ∈ pm_gw := pm_gw_of (i := 1450) (by decide +kernel) rfl
theorem wd_1451 : Cond.code yX11_lookRight cX11_lookRight 1 (some .boolean) ∈ pm_gw := pm_gw_of (i := 1451) (by decide +kernel) rfl
theorem wd_1452 : Cond.methodLink "KnotRopesModel" 242 yX11_lookLaws ∈ pm_gw := pm_gw_of (i := 1452) (by decide +kernel) rfl
theorem wd_1454 : Cond.instanceMethod yX11_lookLaws ∈ pm_gw := pm_gw_of (i := 1454) (by decide +kernel) rfl
theorem wd_1455 : Cond.code yX11_lookLaws cX11_lookLaws 3 (some .boolean) ∈ pm_gw := pm_gw_of (i := 1455) (by decide +kernel) rfl
theorem wd_1456 : Cond.methodLink "KnotRopesModel" 238 yX11_has ∈ pm_gw := pm_gw_of (i := 1456) (by decide +kernel) rfl
theorem wd_1457 : Cond.static yX11_has ∈ pm_gw := pm_gw_of (i := 1457) (by decide +kernel) rfl
theorem wd_1458 : Cond.code yX11_has cX11_has 2 (some .boolean) ∈ pm_gw := pm_gw_of (i := 1458) (by decide +kernel) rfl
theorem wd_1459 : Cond.methodLink "KnotRopesModel" 246 yX11_lookTakes ∈ pm_gw := pm_gw_of (i := 1459) (by decide +kernel) rfl
theorem wd_1461 : Cond.instanceMethod yX11_lookTakes ∈ pm_gw := pm_gw_of (i := 1461) (by decide +kernel) rfl
theorem wd_1462 : Cond.code yX11_lookTakes cX11_lookTakes 3 (some .int) ∈ pm_gw := pm_gw_of (i := 1462) (by decide +kernel) rfl
theorem wd_1463 : Cond.methodLink "KnotRopesModel" 235 yX11_endOf ∈ pm_gw := pm_gw_of (i := 1463) (by decide +kernel) rfl
theorem wd_1465 : Cond.instanceMethod yX11_endOf ∈ pm_gw := pm_gw_of (i := 1465) (by decide +kernel) rfl
theorem wd_1466 : Cond.code yX11_endOf cX11_endOf 2 (some .int) ∈ pm_gw := pm_gw_of (i := 1466) (by decide +kernel) rfl
theorem wd_1467 : Cond.methodLink "KnotRopesModel" 250 yX11_roomNow ∈ pm_gw := pm_gw_of (i := 1467) (by decide +kernel) rfl
theorem wd_1469 : Cond.instanceMethod yX11_roomNow ∈ pm_gw := pm_gw_of (i := 1469) (by decide +kernel) rfl
theorem wd_1470 : Cond.code yX11_roomNow cX11_roomNow 1 (some .int) ∈ pm_gw := pm_gw_of (i := 1470) (by decide +kernel) rfl
theorem wd_1475 : Cond.methodLink "KnotRopesModel" 265 yX11_loose ∈ pm_gw := pm_gw_of (i := 1475) (by decide +kernel) rfl
theorem wd_1477 : Cond.instanceMethod yX11_loose ∈ pm_gw := pm_gw_of (i := 1477) (by decide +kernel) rfl
theorem wd_1478 : Cond.code yX11_loose cX11_loose 2 (some .int) ∈ pm_gw := pm_gw_of (i := 1478) (by decide +kernel) rfl
theorem wd_1491 : Cond.methodLink "KnotRopesModel" 268 yX11_readLook ∈ pm_gw := pm_gw_of (i := 1491) (by decide +kernel) rfl
theorem wd_1493 : Cond.instanceMethod yX11_readLook ∈ pm_gw := pm_gw_of (i := 1493) (by decide +kernel) rfl
theorem wd_1494 : Cond.code yX11_readLook cX11_readLook 3 none ∈ pm_gw := pm_gw_of (i := 1494) (by decide +kernel) rfl
theorem wd_1495 : Cond.methodLink "KnotRopesModel" 256 yX11_pairSign ∈ pm_gw := pm_gw_of (i := 1495) (by decide +kernel) rfl
theorem wd_1497 : Cond.instanceMethod yX11_pairSign ∈ pm_gw := pm_gw_of (i := 1497) (by decide +kernel) rfl
theorem wd_1498 : Cond.code yX11_pairSign cX11_pairSign 4 (some .int) ∈ pm_gw := pm_gw_of (i := 1498) (by decide +kernel) rfl
theorem wd_1499 : Cond.methodLink "KnotRopesModel" 271 yX11_layRow ∈ pm_gw := pm_gw_of (i := 1499) (by decide +kernel) rfl
theorem wd_1501 : Cond.instanceMethod yX11_layRow ∈ pm_gw := pm_gw_of (i := 1501) (by decide +kernel) rfl
theorem wd_1502 : Cond.code yX11_layRow cX11_layRow 5 none ∈ pm_gw := pm_gw_of (i := 1502) (by decide +kernel) rfl
theorem wd_1515 : Cond.methodLink "KnotRopesModel" 275 yX11_isThere ∈ pm_gw := pm_gw_of (i := 1515) (by decide +kernel) rfl
theorem wd_1517 : Cond.instanceMethod yX11_isThere ∈ pm_gw := pm_gw_of (i := 1517) (by decide +kernel) rfl
theorem wd_1518 : Cond.code yX11_isThere cX11_isThere 2 (some .boolean) ∈ pm_gw := pm_gw_of (i := 1518) (by decide +kernel) rfl
theorem wd_1523 : Cond.methodLink "KnotRopesModel" 288 yX11_needRope ∈ pm_gw := pm_gw_of (i := 1523) (by decide +kernel) rfl
theorem wd_1525 : Cond.instanceMethod yX11_needRope ∈ pm_gw := pm_gw_of (i := 1525) (by decide +kernel) rfl
theorem wd_1526 : Cond.code yX11_needRope cX11_needRope 4 (some .int) ∈ pm_gw := pm_gw_of (i := 1526) (by decide +kernel) rfl
theorem wd_1527 : Cond.methodLink "KnotRopesModel" 278 yX11_needSize ∈ pm_gw := pm_gw_of (i := 1527) (by decide +kernel) rfl
theorem wd_1529 : Cond.instanceMethod yX11_needSize ∈ pm_gw := pm_gw_of (i := 1529) (by decide +kernel) rfl
theorem wd_1530 : Cond.code yX11_needSize cX11_needSize 3 (some .int) ∈ pm_gw := pm_gw_of (i := 1530) (by decide +kernel) rfl
theorem wd_1531 : Cond.methodLink "KnotRopesModel" 281 yX11_areKnots ∈ pm_gw := pm_gw_of (i := 1531) (by decide +kernel) rfl
theorem wd_1533 : Cond.instanceMethod yX11_areKnots ∈ pm_gw := pm_gw_of (i := 1533) (by decide +kernel) rfl
theorem wd_1534 : Cond.code yX11_areKnots cX11_areKnots 4 (some .boolean) ∈ pm_gw := pm_gw_of (i := 1534) (by decide +kernel) rfl
theorem wd_1535 : Cond.methodLink "KnotRopesModel" 284 yX11_lookAtRow ∈ pm_gw := pm_gw_of (i := 1535) (by decide +kernel) rfl
theorem wd_1537 : Cond.instanceMethod yX11_lookAtRow ∈ pm_gw := pm_gw_of (i := 1537) (by decide +kernel) rfl
theorem wd_1538 : Cond.code yX11_lookAtRow cX11_lookAtRow 3 none ∈ pm_gw := pm_gw_of (i := 1538) (by decide +kernel) rfl
theorem wd_1551 : Cond.methodLink "KnotRopesModel" 299 yX11_layRest ∈ pm_gw := pm_gw_of (i := 1551) (by decide +kernel) rfl
theorem wd_1553 : Cond.instanceMethod yX11_layRest ∈ pm_gw := pm_gw_of (i := 1553) (by decide +kernel) rfl
theorem wd_1554 : Cond.code yX11_layRest cX11_layRest 8 none ∈ pm_gw := pm_gw_of (i := 1554) (by decide +kernel) rfl
theorem wd_1555 : Cond.methodLink "KnotRopesModel" 291 yX11_restAt ∈ pm_gw := pm_gw_of (i := 1555) (by decide +kernel) rfl
theorem wd_1556 : Cond.static yX11_restAt ∈ pm_gw := pm_gw_of (i := 1556) (by decide +kernel) rfl
theorem wd_1557 : Cond.code yX11_restAt cX11_restAt 3 (some .int) ∈ pm_gw := pm_gw_of (i := 1557) (by decide +kernel) rfl
theorem wd_1558 : Cond.methodLink "KnotRopesModel" 295 yX11_restBy ∈ pm_gw := pm_gw_of (i := 1558) (by decide +kernel) rfl
theorem wd_1560 : Cond.instanceMethod yX11_restBy ∈ pm_gw := pm_gw_of (i := 1560) (by decide +kernel) rfl
theorem wd_1561 : Cond.code yX11_restBy cX11_restBy 6 (some .long) ∈ pm_gw := pm_gw_of (i := 1561) (by decide +kernel) rfl
theorem wd_1574 : Cond.methodLink "KnotRopesModel" 336 yX11_needMessage ∈ pm_gw := pm_gw_of (i := 1574) (by decide +kernel) rfl
theorem wd_1576 : Cond.instanceMethod yX11_needMessage ∈ pm_gw := pm_gw_of (i := 1576) (by decide +kernel) rfl
theorem wd_1577 : Cond.code yX11_needMessage cX11_needMessage 2 (some .int) ∈ pm_gw := pm_gw_of (i := 1577) (by decide +kernel) rfl
theorem wd_1578 : Cond.methodLink "KnotRopesModel" 305 yX11_areSigns ∈ pm_gw := pm_gw_of (i := 1578) (by decide +kernel) rfl
theorem wd_1580 : Cond.instanceMethod yX11_areSigns ∈ pm_gw := pm_gw_of (i := 1580) (by decide +kernel) rfl
theorem wd_1581 : Cond.code yX11_areSigns cX11_areSigns 4 (some .boolean) ∈ pm_gw := pm_gw_of (i := 1581) (by decide +kernel) rfl
theorem wd_1582 : Cond.methodLink "KnotRopesModel" 308 yX11_layMessage ∈ pm_gw := pm_gw_of (i := 1582) (by decide +kernel) rfl
theorem wd_1584 : Cond.instanceMethod yX11_layMessage ∈ pm_gw := pm_gw_of (i := 1584) (by decide +kernel) rfl
theorem wd_1585 : Cond.code yX11_layMessage cX11_layMessage 3 none ∈ pm_gw := pm_gw_of (i := 1585) (by decide +kernel) rfl
theorem wd_1586 : Cond.methodLink "KnotRopesModel" 339 yX11_shortestNow ∈ pm_gw := pm_gw_of (i := 1586) (by decide +kernel) rfl
theorem wd_1588 : Cond.instanceMethod yX11_shortestNow ∈ pm_gw := pm_gw_of (i := 1588) (by decide +kernel) rfl
theorem wd_1589 : Cond.code yX11_shortestNow cX11_shortestNow 1 (some .int) ∈ pm_gw := pm_gw_of (i := 1589) (by decide +kernel) rfl
theorem wd_1590 : Cond.methodLink "KnotRopesModel" 333 yX11_layLeast ∈ pm_gw := pm_gw_of (i := 1590) (by decide +kernel) rfl
theorem wd_1592 : Cond.instanceMethod yX11_layLeast ∈ pm_gw := pm_gw_of (i := 1592) (by decide +kernel) rfl
theorem wd_1593 : Cond.code yX11_layLeast cX11_layLeast 6 none ∈ pm_gw := pm_gw_of (i := 1593) (by decide +kernel) rfl
theorem wd_1594 : Cond.constant "KnotRopesModel" 317 (100000) ∈ pm_gw := pm_gw_of (i := 1594) (by decide +kernel) rfl
theorem wd_1595 : Cond.methodLink "KnotRopesModel" 318 yX11_isState ∈ pm_gw := pm_gw_of (i := 1595) (by decide +kernel) rfl
theorem wd_1597 : Cond.instanceMethod yX11_isState ∈ pm_gw := pm_gw_of (i := 1597) (by decide +kernel) rfl
theorem wd_1598 : Cond.code yX11_isState cX11_isState 2 (some .boolean) ∈ pm_gw := pm_gw_of (i := 1598) (by decide +kernel) rfl
theorem wd_1599 : Cond.methodLink "KnotRopesModel" 314 yX11_lastOf ∈ pm_gw := pm_gw_of (i := 1599) (by decide +kernel) rfl
theorem wd_1600 : Cond.static yX11_lastOf ∈ pm_gw := pm_gw_of (i := 1600) (by decide +kernel) rfl
theorem wd_1601 : Cond.code yX11_lastOf cX11_lastOf 1 (some .int) ∈ pm_gw := pm_gw_of (i := 1601) (by decide +kernel) rfl
theorem wd_1602 : Cond.methodLink "KnotRopesModel" 321 yX11_isSaid ∈ pm_gw := pm_gw_of (i := 1602) (by decide +kernel) rfl
theorem wd_1604 : Cond.instanceMethod yX11_isSaid ∈ pm_gw := pm_gw_of (i := 1604) (by decide +kernel) rfl
theorem wd_1605 : Cond.code yX11_isSaid cX11_isSaid 4 (some .boolean) ∈ pm_gw := pm_gw_of (i := 1605) (by decide +kernel) rfl
theorem wd_1606 : Cond.methodLink "KnotRopesModel" 324 yX11_stateBehind ∈ pm_gw := pm_gw_of (i := 1606) (by decide +kernel) rfl
theorem wd_1608 : Cond.instanceMethod yX11_stateBehind ∈ pm_gw := pm_gw_of (i := 1608) (by decide +kernel) rfl
theorem wd_1609 : Cond.code yX11_stateBehind cX11_stateBehind 6 (some .int) ∈ pm_gw := pm_gw_of (i := 1609) (by decide +kernel) rfl
theorem wd_1610 : Cond.methodLink "KnotRopesModel" 311 yX11_stateOf ∈ pm_gw := pm_gw_of (i := 1610) (by decide +kernel) rfl
theorem wd_1611 : Cond.static yX11_stateOf ∈ pm_gw := pm_gw_of (i := 1611) (by decide +kernel) rfl
theorem wd_1612 : Cond.code yX11_stateOf cX11_stateOf 3 (some .int) ∈ pm_gw := pm_gw_of (i := 1612) (by decide +kernel) rfl
theorem wd_1613 : Cond.methodLink "KnotRopesModel" 327 yX11_lesser ∈ pm_gw := pm_gw_of (i := 1613) (by decide +kernel) rfl
theorem wd_1614 : Cond.static yX11_lesser ∈ pm_gw := pm_gw_of (i := 1614) (by decide +kernel) rfl
theorem wd_1615 : Cond.code yX11_lesser cX11_lesser 2 (some .int) ∈ pm_gw := pm_gw_of (i := 1615) (by decide +kernel) rfl
theorem wd_1616 : Cond.methodLink "KnotRopesModel" 342 yX11_goOnLeast ∈ pm_gw := pm_gw_of (i := 1616) (by decide +kernel) rfl
theorem wd_1618 : Cond.instanceMethod yX11_goOnLeast ∈ pm_gw := pm_gw_of (i := 1618) (by decide +kernel) rfl
theorem wd_1619 : Cond.code yX11_goOnLeast cX11_goOnLeast 5 none ∈ pm_gw := pm_gw_of (i := 1619) (by decide +kernel) rfl
theorem wd_1620 : Cond.methodLink "KnotRopesModel" 330 yX11_isNext ∈ pm_gw := pm_gw_of (i := 1620) (by decide +kernel) rfl
theorem wd_1622 : Cond.instanceMethod yX11_isNext ∈ pm_gw := pm_gw_of (i := 1622) (by decide +kernel) rfl
theorem wd_1623 : Cond.code yX11_isNext cX11_isNext 5 (some .boolean) ∈ pm_gw := pm_gw_of (i := 1623) (by decide +kernel) rfl
theorem wd_1628 : Cond.methodLink "KnotRopesModel" 345 yX11_countStates ∈ pm_gw := pm_gw_of (i := 1628) (by decide +kernel) rfl
theorem wd_1630 : Cond.instanceMethod yX11_countStates ∈ pm_gw := pm_gw_of (i := 1630) (by decide +kernel) rfl
theorem wd_1631 : Cond.code yX11_countStates cX11_countStates 5 none ∈ pm_gw := pm_gw_of (i := 1631) (by decide +kernel) rfl
theorem wd_1632 : Cond.methodLink "KnotRopesModel" 348 yX11_countBehind ∈ pm_gw := pm_gw_of (i := 1632) (by decide +kernel) rfl
theorem wd_1634 : Cond.instanceMethod yX11_countBehind ∈ pm_gw := pm_gw_of (i := 1634) (by decide +kernel) rfl
theorem wd_1635 : Cond.code yX11_countBehind cX11_countBehind 8 none ∈ pm_gw := pm_gw_of (i := 1635) (by decide +kernel) rfl
theorem wd_1640 : Cond.methodLink "KnotRopesModel" 355 yX11_laySigns ∈ pm_gw := pm_gw_of (i := 1640) (by decide +kernel) rfl
theorem wd_1642 : Cond.instanceMethod yX11_laySigns ∈ pm_gw := pm_gw_of (i := 1642) (by decide +kernel) rfl
theorem wd_1643 : Cond.code yX11_laySigns cX11_laySigns 5 none ∈ pm_gw := pm_gw_of (i := 1643) (by decide +kernel) rfl
theorem wd_1652 : Cond.methodLink "KnotRopesModel" 375 yX11_layBoth ∈ pm_gw := pm_gw_of (i := 1652) (by decide +kernel) rfl
theorem wd_1654 : Cond.instanceMethod yX11_layBoth ∈ pm_gw := pm_gw_of (i := 1654) (by decide +kernel) rfl
theorem wd_1655 : Cond.code yX11_layBoth cX11_layBoth 2 none ∈ pm_gw := pm_gw_of (i := 1655) (by decide +kernel) rfl
theorem wd_1656 : Cond.methodLink "KnotRopesModel" 369 yX11_isBoth ∈ pm_gw := pm_gw_of (i := 1656) (by decide +kernel) rfl
theorem wd_1658 : Cond.instanceMethod yX11_isBoth ∈ pm_gw := pm_gw_of (i := 1658) (by decide +kernel) rfl
theorem wd_1659 : Cond.code yX11_isBoth cX11_isBoth 2 (some .boolean) ∈ pm_gw := pm_gw_of (i := 1659) (by decide +kernel) rfl
theorem wd_1660 : Cond.methodLink "KnotRopesModel" 359 yX11_isReadAs ∈ pm_gw := pm_gw_of (i := 1660) (by decide +kernel) rfl
theorem wd_1662 : Cond.instanceMethod yX11_isReadAs ∈ pm_gw := pm_gw_of (i := 1662) (by decide +kernel) rfl
theorem wd_1663 : Cond.code yX11_isReadAs cX11_isReadAs 5 (some .boolean) ∈ pm_gw := pm_gw_of (i := 1663) (by decide +kernel) rfl
theorem wd_1664 : Cond.methodLink "KnotRopesModel" 363 yX11_turnLook ∈ pm_gw := pm_gw_of (i := 1664) (by decide +kernel) rfl
theorem wd_1666 : Cond.instanceMethod yX11_turnLook ∈ pm_gw := pm_gw_of (i := 1666) (by decide +kernel) rfl
theorem wd_1667 : Cond.code yX11_turnLook cX11_turnLook 3 none ∈ pm_gw := pm_gw_of (i := 1667) (by decide +kernel) rfl
theorem wd_1672 : Cond.methodLink "KnotRopesModel" 378 yX11_laySlip ∈ pm_gw := pm_gw_of (i := 1672) (by decide +kernel) rfl
theorem wd_1674 : Cond.instanceMethod yX11_laySlip ∈ pm_gw := pm_gw_of (i := 1674) (by decide +kernel) rfl
theorem wd_1675 : Cond.code yX11_laySlip cX11_laySlip 5 none ∈ pm_gw := pm_gw_of (i := 1675) (by decide +kernel) rfl
theorem wd_1676 : Cond.methodLink "KnotRopesModel" 382 yX11_areLike ∈ pm_gw := pm_gw_of (i := 1676) (by decide +kernel) rfl
theorem wd_1678 : Cond.instanceMethod yX11_areLike ∈ pm_gw := pm_gw_of (i := 1678) (by decide +kernel) rfl
theorem wd_1679 : Cond.code yX11_areLike cX11_areLike 5 (some .boolean) ∈ pm_gw := pm_gw_of (i := 1679) (by decide +kernel) rfl
theorem wd_1684 : Cond.methodLink "KnotRopesModel" 385 yX11_needRopes ∈ pm_gw := pm_gw_of (i := 1684) (by decide +kernel) rfl
theorem wd_1686 : Cond.instanceMethod yX11_needRopes ∈ pm_gw := pm_gw_of (i := 1686) (by decide +kernel) rfl
theorem wd_1687 : Cond.code yX11_needRopes cX11_needRopes 3 (some .int) ∈ pm_gw := pm_gw_of (i := 1687) (by decide +kernel) rfl
theorem wd_1692 : Cond.methodLink "KnotRopesModel" 388 yX11_lookWith ∈ pm_gw := pm_gw_of (i := 1692) (by decide +kernel) rfl
theorem wd_1694 : Cond.instanceMethod yX11_lookWith ∈ pm_gw := pm_gw_of (i := 1694) (by decide +kernel) rfl
theorem wd_1695 : Cond.code yX11_lookWith cX11_lookWith 5 none ∈ pm_gw := pm_gw_of (i := 1695) (by decide +kernel) rfl
theorem wd_1696 : Cond.methodLink "KnotRopesModel" 391 yX11_signsOfLook ∈ pm_gw := pm_gw_of (i := 1696) (by decide +kernel) rfl
theorem wd_1698 : Cond.instanceMethod yX11_signsOfLook ∈ pm_gw := pm_gw_of (i := 1698) (by decide +kernel) rfl
theorem wd_1699 : Cond.code yX11_signsOfLook cX11_signsOfLook 3 (some .int) ∈ pm_gw := pm_gw_of (i := 1699) (by decide +kernel) rfl
theorem wd_1704 : Cond.methodLink "KnotRopesModel" 394 yX11_lookCut ∈ pm_gw := pm_gw_of (i := 1704) (by decide +kernel) rfl
theorem wd_1706 : Cond.instanceMethod yX11_lookCut ∈ pm_gw := pm_gw_of (i := 1706) (by decide +kernel) rfl
theorem wd_1707 : Cond.code yX11_lookCut cX11_lookCut 4 none ∈ pm_gw := pm_gw_of (i := 1707) (by decide +kernel) rfl
theorem wd_1716 : Cond.methodLink "KnotRopesModel" 397 yX11_sumOf ∈ pm_gw := pm_gw_of (i := 1716) (by decide +kernel) rfl
theorem wd_1718 : Cond.instanceMethod yX11_sumOf ∈ pm_gw := pm_gw_of (i := 1718) (by decide +kernel) rfl
theorem wd_1719 : Cond.code yX11_sumOf cX11_sumOf 5 (some .int) ∈ pm_gw := pm_gw_of (i := 1719) (by decide +kernel) rfl
theorem wd_1724 : Cond.constant "KnotRopesModel" 400 (2147483646) ∈ pm_gw := pm_gw_of (i := 1724) (by decide +kernel) rfl
theorem wd_1725 : Cond.methodLink "KnotRopesModel" 401 yX11_canTie ∈ pm_gw := pm_gw_of (i := 1725) (by decide +kernel) rfl
theorem wd_1727 : Cond.instanceMethod yX11_canTie ∈ pm_gw := pm_gw_of (i := 1727) (by decide +kernel) rfl
theorem wd_1728 : Cond.code yX11_canTie cX11_canTie 3 (some .boolean) ∈ pm_gw := pm_gw_of (i := 1728) (by decide +kernel) rfl
theorem wd_1729 : Cond.constantLong "KnotRopesModel" 404 (48271) ∈ pm_gw := pm_gw_of (i := 1729) (by decide +kernel) rfl
theorem wd_1730 : Cond.constantLong "KnotRopesModel" 406 (2147483647) ∈ pm_gw := pm_gw_of (i := 1730) (by decide +kernel) rfl
theorem wd_1735 : Cond.methodLink "KnotRopesModel" 408 yX11_counted ∈ pm_gw := pm_gw_of (i := 1735) (by decide +kernel) rfl
theorem wd_1737 : Cond.instanceMethod yX11_counted ∈ pm_gw := pm_gw_of (i := 1737) (by decide +kernel) rfl
theorem wd_1738 : Cond.code yX11_counted cX11_counted 4 (some .int) ∈ pm_gw := pm_gw_of (i := 1738) (by decide +kernel) rfl
theorem wd_1743 : Cond.constantLong "KnotRopesModel" 422 (17) ∈ pm_gw := pm_gw_of (i := 1743) (by decide +kernel) rfl
theorem wd_1744 : Cond.methodLink "KnotRopesModel" 416 yX11_mix ∈ pm_gw := pm_gw_of (i := 1744) (by decide +kernel) rfl
theorem wd_1746 : Cond.instanceMethod yX11_mix ∈ pm_gw := pm_gw_of (i := 1746) (by decide +kernel) rfl
theorem wd_1747 : Cond.code yX11_mix cX11_mix 3 none ∈ pm_gw := pm_gw_of (i := 1747) (by decide +kernel) rfl
theorem wd_1748 : Cond.constantLong "KnotRopesModel" 411 (31) ∈ pm_gw := pm_gw_of (i := 1748) (by decide +kernel) rfl
theorem wd_1749 : Cond.methodLink "KnotRopesModel" 424 yX11_mixCraft ∈ pm_gw := pm_gw_of (i := 1749) (by decide +kernel) rfl
theorem wd_1751 : Cond.instanceMethod yX11_mixCraft ∈ pm_gw := pm_gw_of (i := 1751) (by decide +kernel) rfl
theorem wd_1752 : Cond.code yX11_mixCraft cX11_mixCraft 3 none ∈ pm_gw := pm_gw_of (i := 1752) (by decide +kernel) rfl
theorem wd_1753 : Cond.constantLong "KnotRopesModel" 420 (-1) ∈ pm_gw := pm_gw_of (i := 1753) (by decide +kernel) rfl
theorem ck_0 : pm_CK 0 RX0 TX0 8 := ⟨by decide, rfl, fun w hw => List.mem_filter.mpr (by revert w; exact (by decide +kernel : ∀ w ∈ u_ws RX0 TX0 8, w ∈ lw_tbl ∧ goodWord w = true)), fun k hk => tyX0_ok k hk, nmX0, by decide⟩
theorem ck_1 : pm_CK 1 RX1 TX1 17 := ⟨by decide, rfl, fun w hw => List.mem_filter.mpr (by revert w; exact (by decide +kernel : ∀ w ∈ u_ws RX1 TX1 17, w ∈ lw_tbl ∧ goodWord w = true)), fun k hk => tyX1_ok k hk, nmX1, by decide⟩
theorem ck_2 : pm_CK 2 RX2 TX2 8 := ⟨by decide, rfl, fun w hw => List.mem_filter.mpr (by revert w; exact (by decide +kernel : ∀ w ∈ u_ws RX2 TX2 8, w ∈ lw_tbl ∧ goodWord w = true)), fun k hk => tyX2_ok k hk, nmX2, by decide⟩
theorem ck_3 : pm_CK 3 RX3 TX3 4 := ⟨by decide, rfl, fun w hw => List.mem_filter.mpr (by revert w; exact (by decide +kernel : ∀ w ∈ u_ws RX3 TX3 4, w ∈ lw_tbl ∧ goodWord w = true)), fun k hk => tyX3_ok k hk, nmX3, by decide⟩
theorem ck_4 : pm_CK 4 RX4 TX4 2 := ⟨by decide, rfl, fun w hw => List.mem_filter.mpr (by revert w; exact (by decide +kernel : ∀ w ∈ u_ws RX4 TX4 2, w ∈ lw_tbl ∧ goodWord w = true)), fun k hk => tyX4_ok k hk, nmX4, by decide⟩
theorem ck_5 : pm_CK 5 RX5 TX5 2 := ⟨by decide, rfl, fun w hw => List.mem_filter.mpr (by revert w; exact (by decide +kernel : ∀ w ∈ u_ws RX5 TX5 2, w ∈ lw_tbl ∧ goodWord w = true)), fun k hk => tyX5_ok k hk, nmX5, by decide⟩
theorem ck_6 : pm_CK 6 RX6 TX6 6 := ⟨by decide, rfl, fun w hw => List.mem_filter.mpr (by revert w; exact (by decide +kernel : ∀ w ∈ u_ws RX6 TX6 6, w ∈ lw_tbl ∧ goodWord w = true)), fun k hk => tyX6_ok k hk, nmX6, by decide⟩
theorem ck_7 : pm_CK 7 RX7 TX7 8 := ⟨by decide, rfl, fun w hw => List.mem_filter.mpr (by revert w; exact (by decide +kernel : ∀ w ∈ u_ws RX7 TX7 8, w ∈ lw_tbl ∧ goodWord w = true)), fun k hk => tyX7_ok k hk, nmX7, by decide⟩
theorem ck_8 : pm_CK 8 RX8 TX8 3 := ⟨by decide, rfl, fun w hw => List.mem_filter.mpr (by revert w; exact (by decide +kernel : ∀ w ∈ u_ws RX8 TX8 3, w ∈ lw_tbl ∧ goodWord w = true)), fun k hk => tyX8_ok k hk, nmX8, by decide⟩
theorem ck_9 : pm_CK 9 RX9 TX9 2 := ⟨by decide, rfl, fun w hw => List.mem_filter.mpr (by revert w; exact (by decide +kernel : ∀ w ∈ u_ws RX9 TX9 2, w ∈ lw_tbl ∧ goodWord w = true)), fun k hk => tyX9_ok k hk, nmX9, by decide⟩
theorem ck_10 : pm_CK 10 RX10 TX10 20 := ⟨by decide, rfl, fun w hw => List.mem_filter.mpr (by revert w; exact (by decide +kernel : ∀ w ∈ u_ws RX10 TX10 20, w ∈ lw_tbl ∧ goodWord w = true)), fun k hk => tyX10_ok k hk, nmX10, by decide⟩
theorem ck_11 : pm_CK 11 RX11 TX11 57 := ⟨by decide, rfl, fun w hw => List.mem_filter.mpr (by revert w; exact (by decide +kernel : ∀ w ∈ u_ws RX11 TX11 57, w ∈ lw_tbl ∧ goodWord w = true)), fun k hk => tyX11_ok k hk, nmX11, by decide⟩
/-! switches: where each number goes -/
theorem sw_X1_knotFact_1 : ∀ x : Int32, ((x.toInt < (0) ∨ (3) < x.toInt) ∧ ((1 : Nat) : Int) + (58) = (((fun x => if x = 0 then 32 else if x = 1 then 39 else if x = 2 then 46 else if x = 3 then 53 else 59) x : Nat) : Int)) ∨ (¬ x.toInt < (0) ∧ ¬ (3) < x.toInt ∧ ∃ off, (#[31, 38, 45, 52] : Array Int)[(x.toInt - (0)).toNat]? = some off ∧ ((1 : Nat) : Int) + off = (((fun x => if x = 0 then 32 else if x = 1 then 39 else if x = 2 then 46 else if x = 3 then 53 else 59) x : Nat) : Int)) := by
  intro x
  dsimp only
  by_cases h0 : x = 0
  · subst h0; right; exact ⟨by decide, by decide, 31, by decide, by decide⟩
  by_cases h1 : x = 1
  · subst h1; right; exact ⟨by decide, by decide, 38, by decide, by decide⟩
  by_cases h2 : x = 2
  · subst h2; right; exact ⟨by decide, by decide, 45, by decide, by decide⟩
  by_cases h3 : x = 3
  · subst h3; right; exact ⟨by decide, by decide, 52, by decide, by decide⟩
  left
  rw [if_neg h0, if_neg h1, if_neg h2, if_neg h3]
  refine ⟨?_, by decide⟩
  have e : ∀ k : Int32, ¬ x = k → x.toInt ≠ k.toInt := fun k hk q => hk (Int32.toInt_inj.mp q)
  have e0 : x.toInt ≠ 0 := e 0 h0
  have e1 : x.toInt ≠ 1 := e 1 h1
  have e2 : x.toInt ≠ 2 := e 2 h2
  have e3 : x.toInt ≠ 3 := e 3 h3
  omega
theorem sw_X2_kindOf_1 : ∀ x : Int32, ((1 : Nat) : Int) + Op.lookupswitch.offset (#[(98, 63), (104, 65), (107, 59), (111, 61), (115, 67), (119, 69)] : Array (Int × Int)).toList (71) x.toInt = (((fun x => if x = 98 then 64 else if x = 104 then 66 else if x = 107 then 60 else if x = 111 then 62 else if x = 115 then 68 else if x = 119 then 70 else 72) x : Nat) : Int) := by
  intro x
  dsimp only
  by_cases h0 : x = 98
  · subst h0; decide
  by_cases h1 : x = 104
  · subst h1; decide
  by_cases h2 : x = 107
  · subst h2; decide
  by_cases h3 : x = 111
  · subst h3; decide
  by_cases h4 : x = 115
  · subst h4; decide
  by_cases h5 : x = 119
  · subst h5; decide
  rw [if_neg h0, if_neg h1, if_neg h2, if_neg h3, if_neg h4, if_neg h5]
  have e : ∀ k : Int32, ¬ x = k → x.toInt ≠ k.toInt := fun k hk q => hk (Int32.toInt_inj.mp q)
  have e0 : x.toInt ≠ 98 := e 98 h0
  have e1 : x.toInt ≠ 104 := e 104 h1
  have e2 : x.toInt ≠ 107 := e 107 h2
  have e3 : x.toInt ≠ 111 := e 111 h3
  have e4 : x.toInt ≠ 115 := e 115 h4
  have e5 : x.toInt ≠ 119 := e 119 h5
  simp [Op.lookupswitch.offset, e0, e1, e2, e3, e4, e5, (Ne.symm e0), (Ne.symm e1), (Ne.symm e2), (Ne.symm e3), (Ne.symm e4), (Ne.symm e5)]
theorem sw_X10_mark_42 : ∀ x : Int32, ((x.toInt < (1) ∨ (4) < x.toInt) ∧ ((42 : Nat) : Int) + (88) = (((fun x => if x = 1 then 72 else if x = 2 then 91 else if x = 3 then 102 else if x = 4 then 121 else 130) x : Nat) : Int)) ∨ (¬ x.toInt < (1) ∧ ¬ (4) < x.toInt ∧ ∃ off, (#[30, 49, 60, 79] : Array Int)[(x.toInt - (1)).toNat]? = some off ∧ ((42 : Nat) : Int) + off = (((fun x => if x = 1 then 72 else if x = 2 then 91 else if x = 3 then 102 else if x = 4 then 121 else 130) x : Nat) : Int)) := by
  intro x
  dsimp only
  by_cases h0 : x = 1
  · subst h0; right; exact ⟨by decide, by decide, 30, by decide, by decide⟩
  by_cases h1 : x = 2
  · subst h1; right; exact ⟨by decide, by decide, 49, by decide, by decide⟩
  by_cases h2 : x = 3
  · subst h2; right; exact ⟨by decide, by decide, 60, by decide, by decide⟩
  by_cases h3 : x = 4
  · subst h3; right; exact ⟨by decide, by decide, 79, by decide, by decide⟩
  left
  rw [if_neg h0, if_neg h1, if_neg h2, if_neg h3]
  refine ⟨?_, by decide⟩
  have e : ∀ k : Int32, ¬ x = k → x.toInt ≠ k.toInt := fun k hk q => hk (Int32.toInt_inj.mp q)
  have e0 : x.toInt ≠ 1 := e 1 h0
  have e1 : x.toInt ≠ 2 := e 2 h1
  have e2 : x.toInt ≠ 3 := e 3 h2
  have e3 : x.toInt ≠ 4 := e 4 h3
  omega
theorem sw_X10_count_1 : ∀ x : Int32, ((x.toInt < (0) ∨ (8) < x.toInt) ∧ ((1 : Nat) : Int) + (122) = (((fun x => if x = 0 then 52 else if x = 1 then 60 else if x = 2 then 68 else if x = 3 then 77 else if x = 4 then 86 else if x = 5 then 94 else if x = 6 then 102 else if x = 7 then 110 else if x = 8 then 115 else 123) x : Nat) : Int)) ∨ (¬ x.toInt < (0) ∧ ¬ (8) < x.toInt ∧ ∃ off, (#[51, 59, 67, 76, 85, 93, 101, 109, 114] : Array Int)[(x.toInt - (0)).toNat]? = some off ∧ ((1 : Nat) : Int) + off = (((fun x => if x = 0 then 52 else if x = 1 then 60 else if x = 2 then 68 else if x = 3 then 77 else if x = 4 then 86 else if x = 5 then 94 else if x = 6 then 102 else if x = 7 then 110 else if x = 8 then 115 else 123) x : Nat) : Int)) := by
  intro x
  dsimp only
  by_cases h0 : x = 0
  · subst h0; right; exact ⟨by decide, by decide, 51, by decide, by decide⟩
  by_cases h1 : x = 1
  · subst h1; right; exact ⟨by decide, by decide, 59, by decide, by decide⟩
  by_cases h2 : x = 2
  · subst h2; right; exact ⟨by decide, by decide, 67, by decide, by decide⟩
  by_cases h3 : x = 3
  · subst h3; right; exact ⟨by decide, by decide, 76, by decide, by decide⟩
  by_cases h4 : x = 4
  · subst h4; right; exact ⟨by decide, by decide, 85, by decide, by decide⟩
  by_cases h5 : x = 5
  · subst h5; right; exact ⟨by decide, by decide, 93, by decide, by decide⟩
  by_cases h6 : x = 6
  · subst h6; right; exact ⟨by decide, by decide, 101, by decide, by decide⟩
  by_cases h7 : x = 7
  · subst h7; right; exact ⟨by decide, by decide, 109, by decide, by decide⟩
  by_cases h8 : x = 8
  · subst h8; right; exact ⟨by decide, by decide, 114, by decide, by decide⟩
  left
  rw [if_neg h0, if_neg h1, if_neg h2, if_neg h3, if_neg h4, if_neg h5, if_neg h6, if_neg h7, if_neg h8]
  refine ⟨?_, by decide⟩
  have e : ∀ k : Int32, ¬ x = k → x.toInt ≠ k.toInt := fun k hk q => hk (Int32.toInt_inj.mp q)
  have e0 : x.toInt ≠ 0 := e 0 h0
  have e1 : x.toInt ≠ 1 := e 1 h1
  have e2 : x.toInt ≠ 2 := e 2 h2
  have e3 : x.toInt ≠ 3 := e 3 h3
  have e4 : x.toInt ≠ 4 := e 4 h4
  have e5 : x.toInt ≠ 5 := e 5 h5
  have e6 : x.toInt ≠ 6 := e 6 h6
  have e7 : x.toInt ≠ 7 := e 7 h7
  have e8 : x.toInt ≠ 8 := e 8 h8
  omega
theorem sw_X11_kindOf_1 : ∀ x : Int32, ((1 : Nat) : Int) + Op.lookupswitch.offset (#[(98, 63), (104, 65), (107, 59), (111, 61), (115, 67), (119, 69)] : Array (Int × Int)).toList (71) x.toInt = (((fun x => if x = 98 then 64 else if x = 104 then 66 else if x = 107 then 60 else if x = 111 then 62 else if x = 115 then 68 else if x = 119 then 70 else 72) x : Nat) : Int) := by
  intro x
  dsimp only
  by_cases h0 : x = 98
  · subst h0; decide
  by_cases h1 : x = 104
  · subst h1; decide
  by_cases h2 : x = 107
  · subst h2; decide
  by_cases h3 : x = 111
  · subst h3; decide
  by_cases h4 : x = 115
  · subst h4; decide
  by_cases h5 : x = 119
  · subst h5; decide
  rw [if_neg h0, if_neg h1, if_neg h2, if_neg h3, if_neg h4, if_neg h5]
  have e : ∀ k : Int32, ¬ x = k → x.toInt ≠ k.toInt := fun k hk q => hk (Int32.toInt_inj.mp q)
  have e0 : x.toInt ≠ 98 := e 98 h0
  have e1 : x.toInt ≠ 104 := e 104 h1
  have e2 : x.toInt ≠ 107 := e 107 h2
  have e3 : x.toInt ≠ 111 := e 111 h3
  have e4 : x.toInt ≠ 115 := e 115 h4
  have e5 : x.toInt ≠ 119 := e 119 h5
  simp [Op.lookupswitch.offset, e0, e1, e2, e3, e4, e5, (Ne.symm e0), (Ne.symm e1), (Ne.symm e2), (Ne.symm e3), (Ne.symm e4), (Ne.symm e5)]
theorem sw_X11_knotTells_1 : ∀ x : Int32, ((x.toInt < (0) ∨ (3) < x.toInt) ∧ ((1 : Nat) : Int) + (59) = (((fun x => if x = 0 then 32 else if x = 1 then 39 else if x = 2 then 46 else if x = 3 then 53 else 60) x : Nat) : Int)) ∨ (¬ x.toInt < (0) ∧ ¬ (3) < x.toInt ∧ ∃ off, (#[31, 38, 45, 52] : Array Int)[(x.toInt - (0)).toNat]? = some off ∧ ((1 : Nat) : Int) + off = (((fun x => if x = 0 then 32 else if x = 1 then 39 else if x = 2 then 46 else if x = 3 then 53 else 60) x : Nat) : Int)) := by
  intro x
  dsimp only
  by_cases h0 : x = 0
  · subst h0; right; exact ⟨by decide, by decide, 31, by decide, by decide⟩
  by_cases h1 : x = 1
  · subst h1; right; exact ⟨by decide, by decide, 38, by decide, by decide⟩
  by_cases h2 : x = 2
  · subst h2; right; exact ⟨by decide, by decide, 45, by decide, by decide⟩
  by_cases h3 : x = 3
  · subst h3; right; exact ⟨by decide, by decide, 52, by decide, by decide⟩
  left
  rw [if_neg h0, if_neg h1, if_neg h2, if_neg h3]
  refine ⟨?_, by decide⟩
  have e : ∀ k : Int32, ¬ x = k → x.toInt ≠ k.toInt := fun k hk q => hk (Int32.toInt_inj.mp q)
  have e0 : x.toInt ≠ 0 := e 0 h0
  have e1 : x.toInt ≠ 1 := e 1 h1
  have e2 : x.toInt ≠ 2 := e 2 h2
  have e3 : x.toInt ≠ 3 := e 3 h3
  omega
theorem sw_X11_mark_58 : ∀ x : Int32, ((x.toInt < (1) ∨ (4) < x.toInt) ∧ ((58 : Nat) : Int) + (68) = (((fun x => if x = 1 then 88 else if x = 2 then 102 else if x = 3 then 111 else if x = 4 then 120 else 126) x : Nat) : Int)) ∨ (¬ x.toInt < (1) ∧ ¬ (4) < x.toInt ∧ ∃ off, (#[30, 44, 53, 62] : Array Int)[(x.toInt - (1)).toNat]? = some off ∧ ((58 : Nat) : Int) + off = (((fun x => if x = 1 then 88 else if x = 2 then 102 else if x = 3 then 111 else if x = 4 then 120 else 126) x : Nat) : Int)) := by
  intro x
  dsimp only
  by_cases h0 : x = 1
  · subst h0; right; exact ⟨by decide, by decide, 30, by decide, by decide⟩
  by_cases h1 : x = 2
  · subst h1; right; exact ⟨by decide, by decide, 44, by decide, by decide⟩
  by_cases h2 : x = 3
  · subst h2; right; exact ⟨by decide, by decide, 53, by decide, by decide⟩
  by_cases h3 : x = 4
  · subst h3; right; exact ⟨by decide, by decide, 62, by decide, by decide⟩
  left
  rw [if_neg h0, if_neg h1, if_neg h2, if_neg h3]
  refine ⟨?_, by decide⟩
  have e : ∀ k : Int32, ¬ x = k → x.toInt ≠ k.toInt := fun k hk q => hk (Int32.toInt_inj.mp q)
  have e0 : x.toInt ≠ 1 := e 1 h0
  have e1 : x.toInt ≠ 2 := e 2 h1
  have e2 : x.toInt ≠ 3 := e 3 h2
  have e3 : x.toInt ≠ 4 := e 4 h3
  omega
theorem sw_X11_counted_161 : ∀ x : Int32, ((x.toInt < (0) ∨ (5) < x.toInt) ∧ ((161 : Nat) : Int) + (59) = (((fun x => if x = 0 then 200 else if x = 1 then 205 else if x = 2 then 220 else if x = 3 then 220 else if x = 4 then 210 else if x = 5 then 215 else 220) x : Nat) : Int)) ∨ (¬ x.toInt < (0) ∧ ¬ (5) < x.toInt ∧ ∃ off, (#[39, 44, 59, 59, 49, 54] : Array Int)[(x.toInt - (0)).toNat]? = some off ∧ ((161 : Nat) : Int) + off = (((fun x => if x = 0 then 200 else if x = 1 then 205 else if x = 2 then 220 else if x = 3 then 220 else if x = 4 then 210 else if x = 5 then 215 else 220) x : Nat) : Int)) := by
  intro x
  dsimp only
  by_cases h0 : x = 0
  · subst h0; right; exact ⟨by decide, by decide, 39, by decide, by decide⟩
  by_cases h1 : x = 1
  · subst h1; right; exact ⟨by decide, by decide, 44, by decide, by decide⟩
  by_cases h2 : x = 2
  · subst h2; right; exact ⟨by decide, by decide, 59, by decide, by decide⟩
  by_cases h3 : x = 3
  · subst h3; right; exact ⟨by decide, by decide, 59, by decide, by decide⟩
  by_cases h4 : x = 4
  · subst h4; right; exact ⟨by decide, by decide, 49, by decide, by decide⟩
  by_cases h5 : x = 5
  · subst h5; right; exact ⟨by decide, by decide, 54, by decide, by decide⟩
  left
  rw [if_neg h0, if_neg h1, if_neg h2, if_neg h3, if_neg h4, if_neg h5]
  refine ⟨?_, by decide⟩
  have e : ∀ k : Int32, ¬ x = k → x.toInt ≠ k.toInt := fun k hk q => hk (Int32.toInt_inj.mp q)
  have e0 : x.toInt ≠ 0 := e 0 h0
  have e1 : x.toInt ≠ 1 := e 1 h1
  have e2 : x.toInt ≠ 2 := e 2 h2
  have e3 : x.toInt ≠ 3 := e 3 h3
  have e4 : x.toInt ≠ 4 := e 4 h4
  have e5 : x.toInt ≠ 5 := e 5 h5
  omega
