theorem q_0 : z_in (.selects RX10 yX10_measure yX10_measure) := ⟨List.mem_of_getElem? (i := 0) (by decide +kernel), good_of_word rfl⟩
theorem q_1 : z_in (.selects RX11 yX11_findMan yX11_findMan) := ⟨List.mem_of_getElem? (i := 1) (by decide +kernel), good_of_word rfl⟩
theorem q_2 : z_in (.selects RX3 yX3_moveAsOf yX3_moveAsOf) := ⟨List.mem_of_getElem? (i := 2) (by decide +kernel), good_of_word rfl⟩
theorem q_3 : z_in (.selects RX11 yX11_isPlace yX11_isPlace) := ⟨List.mem_of_getElem? (i := 3) (by decide +kernel), good_of_word rfl⟩
theorem q_4 : z_in (.selects RX11 yX11_findShip yX11_findShip) := ⟨List.mem_of_getElem? (i := 4) (by decide +kernel), good_of_word rfl⟩
theorem q_5 : z_in (.selects RX11 yX11_menIn yX11_menIn) := ⟨List.mem_of_getElem? (i := 5) (by decide +kernel), good_of_word rfl⟩
theorem q_6 : z_in (.selects RX11 yX11_hideTheShy yX11_hideTheShy) := ⟨List.mem_of_getElem? (i := 6) (by decide +kernel), good_of_word rfl⟩
theorem q_7 : z_in (.selects RX3 yX3_makeRoom yX3_makeRoom) := ⟨List.mem_of_getElem? (i := 7) (by decide +kernel), good_of_word rfl⟩
theorem q_8 : z_in (.selects RX11 yX11_sickenTheCrowd yX11_sickenTheCrowd) := ⟨List.mem_of_getElem? (i := 8) (by decide +kernel), good_of_word rfl⟩
theorem q_9 : z_in (.selects RX11 yX11_sendTheSickHome yX11_sendTheSickHome) := ⟨List.mem_of_getElem? (i := 9) (by decide +kernel), good_of_word rfl⟩
theorem q_10 : z_in (.selects RX11 yX11_findPaper yX11_findPaper) := ⟨List.mem_of_getElem? (i := 10) (by decide +kernel), good_of_word rfl⟩
theorem q_11 : z_in (.selects RX4 yX4_describes yX4_describes) := ⟨List.mem_of_getElem? (i := 11) (by decide +kernel), good_of_word rfl⟩
theorem q_12 : z_in (.selects RX11 yX11_findAct yX11_findAct) := ⟨List.mem_of_getElem? (i := 12) (by decide +kernel), good_of_word rfl⟩
theorem q_13 : z_in (.selects RX0 yX0_goesOnWith yX0_goesOnWith) := ⟨List.mem_of_getElem? (i := 13) (by decide +kernel), good_of_word rfl⟩
theorem q_14 : z_in (.selects RX0 yX0_takesDigit yX0_takesDigit) := ⟨List.mem_of_getElem? (i := 14) (by decide +kernel), good_of_word rfl⟩
theorem q_15 : z_in (.selects RX11 yX11_actInForce yX11_actInForce) := ⟨List.mem_of_getElem? (i := 15) (by decide +kernel), good_of_word rfl⟩
theorem q_16 : z_in (.selects RX11 yX11_isPaperOrNone yX11_isPaperOrNone) := ⟨List.mem_of_getElem? (i := 16) (by decide +kernel), good_of_word rfl⟩
theorem q_17 : z_in (.selects RX11 yX11_mayAsShown yX11_mayAsShown) := ⟨List.mem_of_getElem? (i := 17) (by decide +kernel), good_of_word rfl⟩
theorem q_18 : z_in (.selects RX0 yX0_testHolds yX0_testHolds) := ⟨List.mem_of_getElem? (i := 18) (by decide +kernel), good_of_word rfl⟩
theorem q_19 : z_in (.selects RX0 yX0_numberBehind yX0_numberBehind) := ⟨List.mem_of_getElem? (i := 19) (by decide +kernel), good_of_word rfl⟩
theorem q_20 : z_in (.selects RX11 yX11_mayInTruth yX11_mayInTruth) := ⟨List.mem_of_getElem? (i := 20) (by decide +kernel), good_of_word rfl⟩
theorem q_21 : z_in (.selects RX11 yX11_holdsInTruth yX11_holdsInTruth) := ⟨List.mem_of_getElem? (i := 21) (by decide +kernel), good_of_word rfl⟩
theorem q_22 : z_in (.selects RX11 yX11_isCoveredInTruth yX11_isCoveredInTruth) := ⟨List.mem_of_getElem? (i := 22) (by decide +kernel), good_of_word rfl⟩
theorem q_23 : z_in (.selects RX11 yX11_isWithinReach yX11_isWithinReach) := ⟨List.mem_of_getElem? (i := 23) (by decide +kernel), good_of_word rfl⟩
theorem q_24 : z_in (.selects RX11 yX11_isInShipAtHome yX11_isInShipAtHome) := ⟨List.mem_of_getElem? (i := 24) (by decide +kernel), good_of_word rfl⟩
theorem q_25 : z_in (.selects RX11 yX11_isInShipOf yX11_isInShipOf) := ⟨List.mem_of_getElem? (i := 25) (by decide +kernel), good_of_word rfl⟩
theorem q_26 : z_in (.selects RX11 yX11_isWronged yX11_isWronged) := ⟨List.mem_of_getElem? (i := 26) (by decide +kernel), good_of_word rfl⟩
theorem q_27 : z_in (.selects RX11 yX11_countTheTakeable yX11_countTheTakeable) := ⟨List.mem_of_getElem? (i := 27) (by decide +kernel), good_of_word rfl⟩
theorem q_28 : z_in (.selects RX1 yX1_findFirstWalks yX1_findFirstWalks) := ⟨List.mem_of_getElem? (i := 28) (by decide +kernel), good_of_word rfl⟩
theorem q_29 : z_in (.selects RX1 yX1_walkOut yX1_walkOut) := ⟨List.mem_of_getElem? (i := 29) (by decide +kernel), good_of_word rfl⟩
theorem q_30 : z_in (.selects RX1 yX1_kindWalked yX1_kindWalked) := ⟨List.mem_of_getElem? (i := 30) (by decide +kernel), good_of_word rfl⟩
theorem q_31 : z_in (.selects RX1 yX1_firstMate yX1_firstMate) := ⟨List.mem_of_getElem? (i := 31) (by decide +kernel), good_of_word rfl⟩
theorem q_32 : z_in (.selects RX1 yX1_menMet yX1_menMet) := ⟨List.mem_of_getElem? (i := 32) (by decide +kernel), good_of_word rfl⟩
theorem q_33 : z_in (.selects RX1 yX1_menMetByBoth yX1_menMetByBoth) := ⟨List.mem_of_getElem? (i := 33) (by decide +kernel), good_of_word rfl⟩
theorem q_34 : z_in (.selects RX11 yX11_seamenIn yX11_seamenIn) := ⟨List.mem_of_getElem? (i := 34) (by decide +kernel), good_of_word rfl⟩
theorem q_35 : z_in (.selects RX11 yX11_kingsAtHome yX11_kingsAtHome) := ⟨List.mem_of_getElem? (i := 35) (by decide +kernel), good_of_word rfl⟩
theorem q_36 : z_in (.selects RX11 yX11_musterLevy yX11_musterLevy) := ⟨List.mem_of_getElem? (i := 36) (by decide +kernel), good_of_word rfl⟩
theorem q_37 : z_in (.selects RX11 yX11_leastTaken yX11_leastTaken) := ⟨List.mem_of_getElem? (i := 37) (by decide +kernel), good_of_word rfl⟩
theorem q_38 : z_in (.selects RX11 yX11_findTicket yX11_findTicket) := ⟨List.mem_of_getElem? (i := 38) (by decide +kernel), good_of_word rfl⟩
theorem q_39 : z_in (.selects RX11 yX11_give yX11_give) := ⟨List.mem_of_getElem? (i := 39) (by decide +kernel), good_of_word rfl⟩
theorem q_40 : z_in (.selects RX11 yX11_owedTo yX11_owedTo) := ⟨List.mem_of_getElem? (i := 40) (by decide +kernel), good_of_word rfl⟩
theorem q_41 : z_in (.selects RX11 yX11_menOffTheStreets yX11_menOffTheStreets) := ⟨List.mem_of_getElem? (i := 41) (by decide +kernel), good_of_word rfl⟩
theorem q_42 : z_in (.selects RX12 yX12_noStreet yX12_noStreet) := ⟨List.mem_of_getElem? (i := 42) (by decide +kernel), good_of_word rfl⟩
theorem q_43 : z_in (.selects RX12 yX12_measure yX12_measure) := ⟨List.mem_of_getElem? (i := 43) (by decide +kernel), good_of_word rfl⟩
theorem q_44 : z_in (.selects RX12 yX12_noMan yX12_noMan) := ⟨List.mem_of_getElem? (i := 44) (by decide +kernel), good_of_word rfl⟩
theorem q_45 : z_in (.selects RX12 yX12_many yX12_many) := ⟨List.mem_of_getElem? (i := 45) (by decide +kernel), good_of_word rfl⟩
theorem q_46 : z_in (.selects RX12 yX12_placeOf yX12_placeOf) := ⟨List.mem_of_getElem? (i := 46) (by decide +kernel), good_of_word rfl⟩
theorem q_47 : z_in (.selects RX12 yX12_goOn yX12_goOn) := ⟨List.mem_of_getElem? (i := 47) (by decide +kernel), good_of_word rfl⟩
theorem q_48 : z_in (.selects RX12 yX12_heardAt yX12_heardAt) := ⟨List.mem_of_getElem? (i := 48) (by decide +kernel), good_of_word rfl⟩
theorem q_49 : z_in (.selects RX12 yX12_go yX12_go) := ⟨List.mem_of_getElem? (i := 49) (by decide +kernel), good_of_word rfl⟩
theorem q_50 : z_in (.selects RX12 yX12_noPaper yX12_noPaper) := ⟨List.mem_of_getElem? (i := 50) (by decide +kernel), good_of_word rfl⟩
theorem q_51 : z_in (.selects RX12 yX12_covers yX12_covers) := ⟨List.mem_of_getElem? (i := 51) (by decide +kernel), good_of_word rfl⟩
theorem q_52 : z_in (.selects RX12 yX12_faultOf yX12_faultOf) := ⟨List.mem_of_getElem? (i := 52) (by decide +kernel), good_of_word rfl⟩
theorem q_53 : z_in (.selects RX12 yX12_forceOf yX12_forceOf) := ⟨List.mem_of_getElem? (i := 53) (by decide +kernel), good_of_word rfl⟩
theorem q_54 : z_in (.selects RX12 yX12_asShown yX12_asShown) := ⟨List.mem_of_getElem? (i := 54) (by decide +kernel), good_of_word rfl⟩
theorem q_55 : z_in (.selects RX12 yX12_mayBe yX12_mayBe) := ⟨List.mem_of_getElem? (i := 55) (by decide +kernel), good_of_word rfl⟩
theorem q_56 : z_in (.selects RX12 yX12_test yX12_test) := ⟨List.mem_of_getElem? (i := 56) (by decide +kernel), good_of_word rfl⟩
theorem q_57 : z_in (.selects RX12 yX12_truly yX12_truly) := ⟨List.mem_of_getElem? (i := 57) (by decide +kernel), good_of_word rfl⟩
theorem q_58 : z_in (.selects RX12 yX12_isHere yX12_isHere) := ⟨List.mem_of_getElem? (i := 58) (by decide +kernel), good_of_word rfl⟩
theorem q_59 : z_in (.selects RX12 yX12_isWronged yX12_isWronged) := ⟨List.mem_of_getElem? (i := 59) (by decide +kernel), good_of_word rfl⟩
theorem q_60 : z_in (.selects RX12 yX12_look yX12_look) := ⟨List.mem_of_getElem? (i := 60) (by decide +kernel), good_of_word rfl⟩
theorem q_61 : z_in (.selects RX12 yX12_meet yX12_meet) := ⟨List.mem_of_getElem? (i := 61) (by decide +kernel), good_of_word rfl⟩
theorem q_62 : z_in (.selects RX12 yX12_noShip yX12_noShip) := ⟨List.mem_of_getElem? (i := 62) (by decide +kernel), good_of_word rfl⟩
theorem q_63 : z_in (.selects RX12 yX12_skilled yX12_skilled) := ⟨List.mem_of_getElem? (i := 63) (by decide +kernel), good_of_word rfl⟩
theorem q_64 : z_in (.selects RX12 yX12_spared yX12_spared) := ⟨List.mem_of_getElem? (i := 64) (by decide +kernel), good_of_word rfl⟩
theorem q_65 : z_in (.selects RX12 yX12_mayGo yX12_mayGo) := ⟨List.mem_of_getElem? (i := 65) (by decide +kernel), good_of_word rfl⟩
theorem q_66 : z_in (.selects RX12 yX12_fewest yX12_fewest) := ⟨List.mem_of_getElem? (i := 66) (by decide +kernel), good_of_word rfl⟩
theorem q_67 : z_in (.selects RX12 yX12_noTicket yX12_noTicket) := ⟨List.mem_of_getElem? (i := 67) (by decide +kernel), good_of_word rfl⟩
theorem q_68 : z_in (.selects RX12 yX12_give yX12_give) := ⟨List.mem_of_getElem? (i := 68) (by decide +kernel), good_of_word rfl⟩
theorem q_69 : z_in (.initialized RL) := ⟨List.mem_of_getElem? (i := 69) (by decide +kernel), good_of_word rfl⟩
theorem q_70 : z_in (.initialized RX11) := ⟨List.mem_of_getElem? (i := 70) (by decide +kernel), good_of_word rfl⟩
theorem q_71 : z_in (.initialized RX10) := ⟨List.mem_of_getElem? (i := 71) (by decide +kernel), good_of_word rfl⟩
theorem q_72 : z_in (.initialized RX5) := ⟨List.mem_of_getElem? (i := 72) (by decide +kernel), good_of_word rfl⟩
theorem q_73 : z_in (.initialized RX1) := ⟨List.mem_of_getElem? (i := 73) (by decide +kernel), good_of_word rfl⟩
theorem q_74 : z_in (.initialized RX2) := ⟨List.mem_of_getElem? (i := 74) (by decide +kernel), good_of_word rfl⟩
theorem q_75 : z_in (.initialized RJ7) := ⟨List.mem_of_getElem? (i := 75) (by decide +kernel), good_of_word rfl⟩
theorem q_76 : z_in (.initialized RX12) := ⟨List.mem_of_getElem? (i := 76) (by decide +kernel), good_of_word rfl⟩
theorem q_77 : z_in (.initialized RJ9) := ⟨List.mem_of_getElem? (i := 77) (by decide +kernel), good_of_word rfl⟩
theorem q_78 : z_in (.initialized RX3) := ⟨List.mem_of_getElem? (i := 78) (by decide +kernel), good_of_word rfl⟩
theorem q_79 : z_in (.initialized RJ10) := ⟨List.mem_of_getElem? (i := 79) (by decide +kernel), good_of_word rfl⟩
theorem q_80 : z_in (.initialized RX4) := ⟨List.mem_of_getElem? (i := 80) (by decide +kernel), good_of_word rfl⟩
theorem q_81 : z_in (.initialized RX7) := ⟨List.mem_of_getElem? (i := 81) (by decide +kernel), good_of_word rfl⟩
theorem q_82 : z_in (.initialized RJ13) := ⟨List.mem_of_getElem? (i := 82) (by decide +kernel), good_of_word rfl⟩
theorem q_83 : z_in (.initialized RX0) := ⟨List.mem_of_getElem? (i := 83) (by decide +kernel), good_of_word rfl⟩
theorem q_84 : z_in (.initialized RX8) := ⟨List.mem_of_getElem? (i := 84) (by decide +kernel), good_of_word rfl⟩
theorem q_85 : z_in (.initialized RX6) := ⟨List.mem_of_getElem? (i := 85) (by decide +kernel), good_of_word rfl⟩
theorem q_86 : z_in (.initialized RJ6) := ⟨List.mem_of_getElem? (i := 86) (by decide +kernel), good_of_word rfl⟩
theorem q_87 : z_in (.initialized RX9) := ⟨List.mem_of_getElem? (i := 87) (by decide +kernel), good_of_word rfl⟩
theorem q_88 : z_in (.classLink RL 7 RX11) := ⟨List.mem_of_getElem? (i := 88) (by decide +kernel), good_of_word rfl⟩
theorem q_89 : z_in (.instantiable RX11 19) := ⟨List.mem_of_getElem? (i := 89) (by decide +kernel), good_of_word rfl⟩
theorem q_90 : z_in (.methodLink RL 9 yX11_init) := ⟨List.mem_of_getElem? (i := 90) (by decide +kernel), good_of_word rfl⟩
theorem q_91 : z_in (.instanceMethod yX11_init) := ⟨List.mem_of_getElem? (i := 91) (by decide +kernel), good_of_word rfl⟩
theorem q_92 : z_in (.code yX11_init cX11_init 1 none) := ⟨List.mem_of_getElem? (i := 92) (by decide +kernel), good_of_word rfl⟩
theorem q_93 : z_in (.methodLink RX11 1 objectInit) := ⟨List.mem_of_getElem? (i := 93) (by decide +kernel), good_of_word rfl⟩
theorem q_94 : z_in (.instanceMethod objectInit) := ⟨List.mem_of_getElem? (i := 94) (by decide +kernel), good_of_word rfl⟩
theorem q_95 : z_in (.code objectInit ⟨#[0xb1]⟩ 1 none) := ⟨List.mem_of_getElem? (i := 95) (by decide +kernel), good_of_word rfl⟩
theorem q_96 : z_in (.classLink RX11 7 RX10) := ⟨List.mem_of_getElem? (i := 96) (by decide +kernel), good_of_word rfl⟩
theorem q_97 : z_in (.instantiable RX10 4) := ⟨List.mem_of_getElem? (i := 97) (by decide +kernel), good_of_word rfl⟩
theorem q_98 : Cond.methodLinkNest RX11 9 yX10_init "PressedMen" ∈ lw_tbl := List.mem_of_getElem? (i := 98) (by decide +kernel)
theorem q_99 : z_in (.instanceMethod yX10_init) := ⟨List.mem_of_getElem? (i := 99) (by decide +kernel), good_of_word rfl⟩
theorem q_100 : z_in (.code yX10_init cX10_init 1 none) := ⟨List.mem_of_getElem? (i := 100) (by decide +kernel), good_of_word rfl⟩
theorem q_101 : z_in (.methodLink RX10 3 objectInit) := ⟨List.mem_of_getElem? (i := 101) (by decide +kernel), good_of_word rfl⟩
theorem q_102 : z_in (.fieldLink RX10 9 (TX10 0).1 (TX10 0).2.1 (TX10 0).2.2.1) := ⟨List.mem_of_getElem? (i := 102) (by decide +kernel), good_of_word rfl⟩
theorem q_103 : z_in (.fieldLink RX11 97 (TX10 0).1 (TX10 0).2.1 (TX10 0).2.2.1) := ⟨List.mem_of_getElem? (i := 103) (by decide +kernel), good_of_word rfl⟩
theorem q_104 : z_in (.fieldLink RX1 37 (TX10 0).1 (TX10 0).2.1 (TX10 0).2.2.1) := ⟨List.mem_of_getElem? (i := 104) (by decide +kernel), good_of_word rfl⟩
theorem q_105 : z_in (.fieldLink RX10 15 (TX10 1).1 (TX10 1).2.1 (TX10 1).2.2.1) := ⟨List.mem_of_getElem? (i := 105) (by decide +kernel), good_of_word rfl⟩
theorem q_106 : z_in (.fieldLink RX10 19 (TX10 2).1 (TX10 2).2.1 (TX10 2).2.2.1) := ⟨List.mem_of_getElem? (i := 106) (by decide +kernel), good_of_word rfl⟩
theorem q_107 : z_in (.fieldLink RX10 27 (TX10 3).1 (TX10 3).2.1 (TX10 3).2.2.1) := ⟨List.mem_of_getElem? (i := 107) (by decide +kernel), good_of_word rfl⟩
theorem q_117 : z_in (.arrayClass .boolean) := ⟨List.mem_of_getElem? (i := 117) (by decide +kernel), good_of_word rfl⟩
theorem q_118 : z_in (.arrayClass .int) := ⟨List.mem_of_getElem? (i := 118) (by decide +kernel), good_of_word rfl⟩
theorem q_119 : z_in (.classLink RX11 16 RX3) := ⟨List.mem_of_getElem? (i := 119) (by decide +kernel), good_of_word rfl⟩
theorem q_120 : Cond.arrayOver (.object RX3) ∈ lw_tbl := List.mem_of_getElem? (i := 120) (by decide +kernel)
theorem q_121 : z_in (.classLink RX11 22 RX4) := ⟨List.mem_of_getElem? (i := 121) (by decide +kernel), good_of_word rfl⟩
theorem q_122 : Cond.arrayOver (.object RX4) ∈ lw_tbl := List.mem_of_getElem? (i := 122) (by decide +kernel)
theorem q_123 : z_in (.classLink RX11 28 RX0) := ⟨List.mem_of_getElem? (i := 123) (by decide +kernel), good_of_word rfl⟩
theorem q_124 : Cond.arrayOver (.object RX0) ∈ lw_tbl := List.mem_of_getElem? (i := 124) (by decide +kernel)
theorem q_125 : z_in (.classLink RX11 34 RX5) := ⟨List.mem_of_getElem? (i := 125) (by decide +kernel), good_of_word rfl⟩
theorem q_126 : z_in (.instantiable RX5 3) := ⟨List.mem_of_getElem? (i := 126) (by decide +kernel), good_of_word rfl⟩
theorem q_127 : Cond.methodLinkNest RX11 36 yX5_init "PressedMen" ∈ lw_tbl := List.mem_of_getElem? (i := 127) (by decide +kernel)
theorem q_128 : z_in (.instanceMethod yX5_init) := ⟨List.mem_of_getElem? (i := 128) (by decide +kernel), good_of_word rfl⟩
theorem q_129 : z_in (.code yX5_init cX5_init 1 none) := ⟨List.mem_of_getElem? (i := 129) (by decide +kernel), good_of_word rfl⟩
theorem q_130 : z_in (.methodLink RX5 3 objectInit) := ⟨List.mem_of_getElem? (i := 130) (by decide +kernel), good_of_word rfl⟩
theorem q_131 : z_in (.classLink RX5 9 RX8) := ⟨List.mem_of_getElem? (i := 131) (by decide +kernel), good_of_word rfl⟩
theorem q_132 : Cond.arrayOver (.object RX8) ∈ lw_tbl := List.mem_of_getElem? (i := 132) (by decide +kernel)
theorem q_133 : z_in (.fieldLink RX5 17 (TX5 0).1 (TX5 0).2.1 (TX5 0).2.2.1) := ⟨List.mem_of_getElem? (i := 133) (by decide +kernel), good_of_word rfl⟩
theorem q_134 : z_in (.fieldLink RX11 254 (TX5 0).1 (TX5 0).2.1 (TX5 0).2.2.1) := ⟨List.mem_of_getElem? (i := 134) (by decide +kernel), good_of_word rfl⟩
theorem q_135 : z_in (.fieldLink RX5 11 (TX5 1).1 (TX5 1).2.1 (TX5 1).2.2.1) := ⟨List.mem_of_getElem? (i := 135) (by decide +kernel), good_of_word rfl⟩
theorem q_136 : z_in (.fieldLink RX5 25 (TX5 2).1 (TX5 2).2.1 (TX5 2).2.2.1) := ⟨List.mem_of_getElem? (i := 136) (by decide +kernel), good_of_word rfl⟩
theorem q_144 : z_in (.classLink RX11 41 RX6) := ⟨List.mem_of_getElem? (i := 144) (by decide +kernel), good_of_word rfl⟩
theorem q_145 : Cond.arrayOver (.object RX6) ∈ lw_tbl := List.mem_of_getElem? (i := 145) (by decide +kernel)
theorem q_146 : z_in (.classLink RX11 47 RX9) := ⟨List.mem_of_getElem? (i := 146) (by decide +kernel), good_of_word rfl⟩
theorem q_147 : Cond.arrayOver (.object RX9) ∈ lw_tbl := List.mem_of_getElem? (i := 147) (by decide +kernel)
theorem q_148 : z_in (.classLink RX11 60 RX1) := ⟨List.mem_of_getElem? (i := 148) (by decide +kernel), good_of_word rfl⟩
theorem q_149 : z_in (.instantiable RX1 4) := ⟨List.mem_of_getElem? (i := 149) (by decide +kernel), good_of_word rfl⟩
theorem q_150 : z_in (.methodLink RX11 62 yX1_init) := ⟨List.mem_of_getElem? (i := 150) (by decide +kernel), good_of_word rfl⟩
theorem q_151 : z_in (.instanceMethod yX1_init) := ⟨List.mem_of_getElem? (i := 151) (by decide +kernel), good_of_word rfl⟩
theorem q_152 : z_in (.code yX1_init cX1_init 2 none) := ⟨List.mem_of_getElem? (i := 152) (by decide +kernel), good_of_word rfl⟩
theorem q_153 : z_in (.methodLink RX1 3 objectInit) := ⟨List.mem_of_getElem? (i := 153) (by decide +kernel), good_of_word rfl⟩
theorem q_154 : z_in (.fieldLink RX1 21 (TX1 0).1 (TX1 0).2.1 (TX1 0).2.2.1) := ⟨List.mem_of_getElem? (i := 154) (by decide +kernel), good_of_word rfl⟩
theorem q_155 : z_in (.fieldLink RX1 9 (TX1 1).1 (TX1 1).2.1 (TX1 1).2.2.1) := ⟨List.mem_of_getElem? (i := 155) (by decide +kernel), good_of_word rfl⟩
theorem q_156 : z_in (.fieldLink RX1 15 (TX1 2).1 (TX1 2).2.1 (TX1 2).2.2.1) := ⟨List.mem_of_getElem? (i := 156) (by decide +kernel), good_of_word rfl⟩
theorem q_157 : z_in (.fieldLink RX1 18 (TX1 3).1 (TX1 3).2.1 (TX1 3).2.2.1) := ⟨List.mem_of_getElem? (i := 157) (by decide +kernel), good_of_word rfl⟩
theorem q_167 : z_in (.classLink RX11 69 RX2) := ⟨List.mem_of_getElem? (i := 167) (by decide +kernel), good_of_word rfl⟩
theorem q_168 : z_in (.instantiable RX2 4) := ⟨List.mem_of_getElem? (i := 168) (by decide +kernel), good_of_word rfl⟩
theorem q_169 : Cond.methodLinkNest RX11 71 yX2_init "PressedMen" ∈ lw_tbl := List.mem_of_getElem? (i := 169) (by decide +kernel)
theorem q_170 : z_in (.instanceMethod yX2_init) := ⟨List.mem_of_getElem? (i := 170) (by decide +kernel), good_of_word rfl⟩
theorem q_171 : z_in (.code yX2_init cX2_init 1 none) := ⟨List.mem_of_getElem? (i := 171) (by decide +kernel), good_of_word rfl⟩
theorem q_172 : z_in (.methodLink RX2 3 objectInit) := ⟨List.mem_of_getElem? (i := 172) (by decide +kernel), good_of_word rfl⟩
theorem q_173 : z_in (.fieldLink RX2 9 (TX2 0).1 (TX2 0).2.1 (TX2 0).2.2.1) := ⟨List.mem_of_getElem? (i := 173) (by decide +kernel), good_of_word rfl⟩
theorem q_174 : z_in (.fieldLink RX2 15 (TX2 1).1 (TX2 1).2.1 (TX2 1).2.2.1) := ⟨List.mem_of_getElem? (i := 174) (by decide +kernel), good_of_word rfl⟩
theorem q_175 : z_in (.fieldLink RX2 18 (TX2 2).1 (TX2 2).2.1 (TX2 2).2.2.1) := ⟨List.mem_of_getElem? (i := 175) (by decide +kernel), good_of_word rfl⟩
theorem q_176 : z_in (.fieldLink RX2 21 (TX2 3).1 (TX2 3).2.1 (TX2 3).2.2.1) := ⟨List.mem_of_getElem? (i := 176) (by decide +kernel), good_of_word rfl⟩
theorem q_186 : z_in (.constant RX11 83 (10000000)) := ⟨List.mem_of_getElem? (i := 186) (by decide +kernel), good_of_word rfl⟩
theorem q_187 : z_in (.methodLink RX11 84 yJ7_fill_53178) := ⟨List.mem_of_getElem? (i := 187) (by decide +kernel), good_of_word rfl⟩
theorem q_188 : z_in (.static yJ7_fill_53178) := ⟨List.mem_of_getElem? (i := 188) (by decide +kernel), good_of_word rfl⟩
theorem q_189 : z_in (.code yJ7_fill_53178 cJ7_fill_53178 4 none) := ⟨List.mem_of_getElem? (i := 189) (by decide +kernel), good_of_word rfl⟩
theorem q_190 : z_in (.fieldLink RX11 10 (TX11 0).1 (TX11 0).2.1 (TX11 0).2.2.1) := ⟨List.mem_of_getElem? (i := 190) (by decide +kernel), good_of_word rfl⟩
theorem q_191 : z_in (.fieldLink RX11 18 (TX11 1).1 (TX11 1).2.1 (TX11 1).2.2.1) := ⟨List.mem_of_getElem? (i := 191) (by decide +kernel), good_of_word rfl⟩
theorem q_192 : z_in (.fieldLink RX11 94 (TX11 2).1 (TX11 2).2.1 (TX11 2).2.2.1) := ⟨List.mem_of_getElem? (i := 192) (by decide +kernel), good_of_word rfl⟩
theorem q_193 : z_in (.fieldLink RX11 24 (TX11 3).1 (TX11 3).2.1 (TX11 3).2.2.1) := ⟨List.mem_of_getElem? (i := 193) (by decide +kernel), good_of_word rfl⟩
theorem q_194 : z_in (.fieldLink RX11 193 (TX11 4).1 (TX11 4).2.1 (TX11 4).2.2.1) := ⟨List.mem_of_getElem? (i := 194) (by decide +kernel), good_of_word rfl⟩
theorem q_195 : z_in (.fieldLink RX11 30 (TX11 5).1 (TX11 5).2.1 (TX11 5).2.2.1) := ⟨List.mem_of_getElem? (i := 195) (by decide +kernel), good_of_word rfl⟩
theorem q_196 : z_in (.fieldLink RX11 219 (TX11 6).1 (TX11 6).2.1 (TX11 6).2.2.1) := ⟨List.mem_of_getElem? (i := 196) (by decide +kernel), good_of_word rfl⟩
theorem q_197 : z_in (.fieldLink RX11 37 (TX11 7).1 (TX11 7).2.1 (TX11 7).2.2.1) := ⟨List.mem_of_getElem? (i := 197) (by decide +kernel), good_of_word rfl⟩
theorem q_198 : z_in (.fieldLink RX11 43 (TX11 8).1 (TX11 8).2.1 (TX11 8).2.2.1) := ⟨List.mem_of_getElem? (i := 198) (by decide +kernel), good_of_word rfl⟩
theorem q_199 : z_in (.fieldLink RX11 314 (TX11 9).1 (TX11 9).2.1 (TX11 9).2.2.1) := ⟨List.mem_of_getElem? (i := 199) (by decide +kernel), good_of_word rfl⟩
theorem q_200 : z_in (.fieldLink RX11 49 (TX11 10).1 (TX11 10).2.1 (TX11 10).2.2.1) := ⟨List.mem_of_getElem? (i := 200) (by decide +kernel), good_of_word rfl⟩
theorem q_201 : z_in (.fieldLink RX11 369 (TX11 11).1 (TX11 11).2.1 (TX11 11).2.2.1) := ⟨List.mem_of_getElem? (i := 201) (by decide +kernel), good_of_word rfl⟩
theorem q_202 : z_in (.fieldLink RX11 53 (TX11 12).1 (TX11 12).2.1 (TX11 12).2.2.1) := ⟨List.mem_of_getElem? (i := 202) (by decide +kernel), good_of_word rfl⟩
theorem q_203 : z_in (.fieldLink RX11 57 (TX11 13).1 (TX11 13).2.1 (TX11 13).2.2.1) := ⟨List.mem_of_getElem? (i := 203) (by decide +kernel), good_of_word rfl⟩
theorem q_204 : z_in (.fieldLink RX11 65 (TX11 14).1 (TX11 14).2.1 (TX11 14).2.2.1) := ⟨List.mem_of_getElem? (i := 204) (by decide +kernel), good_of_word rfl⟩
theorem q_205 : z_in (.fieldLink RX11 72 (TX11 15).1 (TX11 15).2.1 (TX11 15).2.2.1) := ⟨List.mem_of_getElem? (i := 205) (by decide +kernel), good_of_word rfl⟩
theorem q_206 : z_in (.fieldLink RX11 152 (TX11 16).1 (TX11 16).2.1 (TX11 16).2.2.1) := ⟨List.mem_of_getElem? (i := 206) (by decide +kernel), good_of_word rfl⟩
theorem q_207 : z_in (.fieldLink RX11 76 (TX11 17).1 (TX11 17).2.1 (TX11 17).2.2.1) := ⟨List.mem_of_getElem? (i := 207) (by decide +kernel), good_of_word rfl⟩
theorem q_208 : z_in (.fieldLink RX11 80 (TX11 18).1 (TX11 18).2.1 (TX11 18).2.2.1) := ⟨List.mem_of_getElem? (i := 208) (by decide +kernel), good_of_word rfl⟩
theorem q_248 : z_in (.methodLink RL 13 yX11_streets) := ⟨List.mem_of_getElem? (i := 248) (by decide +kernel), good_of_word rfl⟩
theorem q_249 : z_in (.instanceMethod yX11_streets) := ⟨List.mem_of_getElem? (i := 249) (by decide +kernel), good_of_word rfl⟩
theorem q_250 : z_in (.selects RX11 yX11_streets yX11_streets) := ⟨List.mem_of_getElem? (i := 250) (by decide +kernel), good_of_word rfl⟩
theorem q_251 : z_in (.code yX11_streets cX11_streets 3 (some .int)) := ⟨List.mem_of_getElem? (i := 251) (by decide +kernel), good_of_word rfl⟩
theorem q_252 : z_in (.methodLink RX11 90 yX11_within) := ⟨List.mem_of_getElem? (i := 252) (by decide +kernel), good_of_word rfl⟩
theorem q_253 : z_in (.static yX11_within) := ⟨List.mem_of_getElem? (i := 253) (by decide +kernel), good_of_word rfl⟩
theorem q_254 : z_in (.code yX11_within cX11_within 3 (some .boolean)) := ⟨List.mem_of_getElem? (i := 254) (by decide +kernel), good_of_word rfl⟩
theorem q_255 : z_in (.methodLink RX11 100 yX10_resize) := ⟨List.mem_of_getElem? (i := 255) (by decide +kernel), good_of_word rfl⟩
theorem q_256 : z_in (.instanceMethod yX10_resize) := ⟨List.mem_of_getElem? (i := 256) (by decide +kernel), good_of_word rfl⟩
theorem q_257 : z_in (.selects RX10 yX10_resize yX10_resize) := ⟨List.mem_of_getElem? (i := 257) (by decide +kernel), good_of_word rfl⟩
theorem q_258 : z_in (.code yX10_resize cX10_resize 4 none) := ⟨List.mem_of_getElem? (i := 258) (by decide +kernel), good_of_word rfl⟩
theorem q_259 : z_in (.methodLink RX10 31 yX10_cell) := ⟨List.mem_of_getElem? (i := 259) (by decide +kernel), good_of_word rfl⟩
theorem q_260 : z_in (.static yX10_cell) := ⟨List.mem_of_getElem? (i := 260) (by decide +kernel), good_of_word rfl⟩
theorem q_261 : z_in (.code yX10_cell cX10_cell 2 (some .int)) := ⟨List.mem_of_getElem? (i := 261) (by decide +kernel), good_of_word rfl⟩
theorem q_262 : z_in (.methodLink RL 18 yX11_way) := ⟨List.mem_of_getElem? (i := 262) (by decide +kernel), good_of_word rfl⟩
theorem q_263 : z_in (.instanceMethod yX11_way) := ⟨List.mem_of_getElem? (i := 263) (by decide +kernel), good_of_word rfl⟩
theorem q_264 : z_in (.selects RX11 yX11_way yX11_way) := ⟨List.mem_of_getElem? (i := 264) (by decide +kernel), good_of_word rfl⟩
theorem q_265 : z_in (.code yX11_way cX11_way 4 (some .int)) := ⟨List.mem_of_getElem? (i := 265) (by decide +kernel), good_of_word rfl⟩
theorem q_266 : z_in (.methodLink RX11 104 yX10_has) := ⟨List.mem_of_getElem? (i := 266) (by decide +kernel), good_of_word rfl⟩
theorem q_267 : z_in (.instanceMethod yX10_has) := ⟨List.mem_of_getElem? (i := 267) (by decide +kernel), good_of_word rfl⟩
theorem q_268 : z_in (.selects RX10 yX10_has yX10_has) := ⟨List.mem_of_getElem? (i := 268) (by decide +kernel), good_of_word rfl⟩
theorem q_269 : z_in (.code yX10_has cX10_has 2 (some .boolean)) := ⟨List.mem_of_getElem? (i := 269) (by decide +kernel), good_of_word rfl⟩
theorem q_270 : Cond.methodLinkNest RX10 23 yX11_within "PressedMen" ∈ lw_tbl := List.mem_of_getElem? (i := 270) (by decide +kernel)
theorem q_271 : z_in (.methodLink RX11 108 yX10_setWay) := ⟨List.mem_of_getElem? (i := 271) (by decide +kernel), good_of_word rfl⟩
theorem q_272 : z_in (.instanceMethod yX10_setWay) := ⟨List.mem_of_getElem? (i := 272) (by decide +kernel), good_of_word rfl⟩
theorem q_273 : z_in (.selects RX10 yX10_setWay yX10_setWay) := ⟨List.mem_of_getElem? (i := 273) (by decide +kernel), good_of_word rfl⟩
theorem q_274 : z_in (.code yX10_setWay cX10_setWay 5 (some .boolean)) := ⟨List.mem_of_getElem? (i := 274) (by decide +kernel), good_of_word rfl⟩
theorem q_275 : z_in (.methodLink RX11 112 yX11_asNumber) := ⟨List.mem_of_getElem? (i := 275) (by decide +kernel), good_of_word rfl⟩
theorem q_276 : z_in (.static yX11_asNumber) := ⟨List.mem_of_getElem? (i := 276) (by decide +kernel), good_of_word rfl⟩
theorem q_277 : z_in (.code yX11_asNumber cX11_asNumber 1 (some .int)) := ⟨List.mem_of_getElem? (i := 277) (by decide +kernel), good_of_word rfl⟩
theorem q_278 : z_in (.methodLink RL 23 yX11_far) := ⟨List.mem_of_getElem? (i := 278) (by decide +kernel), good_of_word rfl⟩
theorem q_279 : z_in (.instanceMethod yX11_far) := ⟨List.mem_of_getElem? (i := 279) (by decide +kernel), good_of_word rfl⟩
theorem q_280 : z_in (.selects RX11 yX11_far yX11_far) := ⟨List.mem_of_getElem? (i := 280) (by decide +kernel), good_of_word rfl⟩
theorem q_281 : z_in (.code yX11_far cX11_far 4 (some .int)) := ⟨List.mem_of_getElem? (i := 281) (by decide +kernel), good_of_word rfl⟩
theorem q_282 : z_in (.methodLink RX11 116 yX10_hops) := ⟨List.mem_of_getElem? (i := 282) (by decide +kernel), good_of_word rfl⟩
theorem q_283 : z_in (.instanceMethod yX10_hops) := ⟨List.mem_of_getElem? (i := 283) (by decide +kernel), good_of_word rfl⟩
theorem q_284 : z_in (.selects RX10 yX10_hops yX10_hops) := ⟨List.mem_of_getElem? (i := 284) (by decide +kernel), good_of_word rfl⟩
theorem q_285 : z_in (.code yX10_hops cX10_hops 3 (some .int)) := ⟨List.mem_of_getElem? (i := 285) (by decide +kernel), good_of_word rfl⟩
theorem q_286 : z_in (.methodLink RX10 35 yX10_measure) := ⟨List.mem_of_getElem? (i := 286) (by decide +kernel), good_of_word rfl⟩
theorem q_288 : z_in (.instanceMethod yX10_measure) := ⟨List.mem_of_getElem? (i := 288) (by decide +kernel), good_of_word rfl⟩
theorem q_289 : z_in (.code yX10_measure cX10_measure 5 none) := ⟨List.mem_of_getElem? (i := 289) (by decide +kernel), good_of_word rfl⟩
theorem q_290 : z_in (.methodLink RX10 38 yJ9_min_7cf53) := ⟨List.mem_of_getElem? (i := 290) (by decide +kernel), good_of_word rfl⟩
theorem q_291 : z_in (.static yJ9_min_7cf53) := ⟨List.mem_of_getElem? (i := 291) (by decide +kernel), good_of_word rfl⟩
theorem q_292 : z_in (.code yJ9_min_7cf53 cJ9_min_7cf53 2 (some .int)) := ⟨List.mem_of_getElem? (i := 292) (by decide +kernel), good_of_word rfl⟩
theorem q_293 : z_in (.methodLink RL 28 yX11_man) := ⟨List.mem_of_getElem? (i := 293) (by decide +kernel), good_of_word rfl⟩
theorem q_294 : z_in (.instanceMethod yX11_man) := ⟨List.mem_of_getElem? (i := 294) (by decide +kernel), good_of_word rfl⟩
theorem q_295 : z_in (.selects RX11 yX11_man yX11_man) := ⟨List.mem_of_getElem? (i := 295) (by decide +kernel), good_of_word rfl⟩
theorem q_296 : z_in (.code yX11_man cX11_man 8 (some .int)) := ⟨List.mem_of_getElem? (i := 296) (by decide +kernel), good_of_word rfl⟩
theorem q_297 : z_in (.instantiable RX3 14) := ⟨List.mem_of_getElem? (i := 297) (by decide +kernel), good_of_word rfl⟩
theorem q_298 : z_in (.methodLink RX11 120 yX3_init) := ⟨List.mem_of_getElem? (i := 298) (by decide +kernel), good_of_word rfl⟩
theorem q_299 : z_in (.instanceMethod yX3_init) := ⟨List.mem_of_getElem? (i := 299) (by decide +kernel), good_of_word rfl⟩
theorem q_300 : z_in (.code yX3_init cX3_init 8 none) := ⟨List.mem_of_getElem? (i := 300) (by decide +kernel), good_of_word rfl⟩
theorem q_301 : z_in (.methodLink RX3 3 objectInit) := ⟨List.mem_of_getElem? (i := 301) (by decide +kernel), good_of_word rfl⟩
theorem q_302 : z_in (.fieldLink RX3 18 (TX3 0).1 (TX3 0).2.1 (TX3 0).2.2.1) := ⟨List.mem_of_getElem? (i := 302) (by decide +kernel), good_of_word rfl⟩
theorem q_303 : z_in (.fieldLink RX4 49 (TX3 0).1 (TX3 0).2.1 (TX3 0).2.2.1) := ⟨List.mem_of_getElem? (i := 303) (by decide +kernel), good_of_word rfl⟩
theorem q_304 : z_in (.fieldLink RX11 127 (TX3 0).1 (TX3 0).2.1 (TX3 0).2.2.1) := ⟨List.mem_of_getElem? (i := 304) (by decide +kernel), good_of_word rfl⟩
theorem q_305 : z_in (.fieldLink RX0 55 (TX3 0).1 (TX3 0).2.1 (TX3 0).2.2.1) := ⟨List.mem_of_getElem? (i := 305) (by decide +kernel), good_of_word rfl⟩
theorem q_306 : z_in (.fieldLink RX3 22 (TX3 1).1 (TX3 1).2.1 (TX3 1).2.2.1) := ⟨List.mem_of_getElem? (i := 306) (by decide +kernel), good_of_word rfl⟩
theorem q_307 : z_in (.fieldLink RX4 45 (TX3 1).1 (TX3 1).2.1 (TX3 1).2.2.1) := ⟨List.mem_of_getElem? (i := 307) (by decide +kernel), good_of_word rfl⟩
theorem q_308 : z_in (.fieldLink RX11 130 (TX3 1).1 (TX3 1).2.1 (TX3 1).2.2.1) := ⟨List.mem_of_getElem? (i := 308) (by decide +kernel), good_of_word rfl⟩
theorem q_309 : z_in (.fieldLink RX3 25 (TX3 2).1 (TX3 2).2.1 (TX3 2).2.2.1) := ⟨List.mem_of_getElem? (i := 309) (by decide +kernel), good_of_word rfl⟩
theorem q_310 : z_in (.fieldLink RX4 48 (TX3 2).1 (TX3 2).2.1 (TX3 2).2.2.1) := ⟨List.mem_of_getElem? (i := 310) (by decide +kernel), good_of_word rfl⟩
theorem q_311 : z_in (.fieldLink RX11 133 (TX3 2).1 (TX3 2).2.1 (TX3 2).2.2.1) := ⟨List.mem_of_getElem? (i := 311) (by decide +kernel), good_of_word rfl⟩
theorem q_312 : z_in (.fieldLink RX3 28 (TX3 3).1 (TX3 3).2.1 (TX3 3).2.2.1) := ⟨List.mem_of_getElem? (i := 312) (by decide +kernel), good_of_word rfl⟩
theorem q_313 : z_in (.fieldLink RX4 52 (TX3 3).1 (TX3 3).2.1 (TX3 3).2.2.1) := ⟨List.mem_of_getElem? (i := 313) (by decide +kernel), good_of_word rfl⟩
theorem q_314 : z_in (.fieldLink RX11 136 (TX3 3).1 (TX3 3).2.1 (TX3 3).2.2.1) := ⟨List.mem_of_getElem? (i := 314) (by decide +kernel), good_of_word rfl⟩
theorem q_315 : z_in (.fieldLink RX3 31 (TX3 4).1 (TX3 4).2.1 (TX3 4).2.2.1) := ⟨List.mem_of_getElem? (i := 315) (by decide +kernel), good_of_word rfl⟩
theorem q_316 : z_in (.fieldLink RX11 139 (TX3 4).1 (TX3 4).2.1 (TX3 4).2.2.1) := ⟨List.mem_of_getElem? (i := 316) (by decide +kernel), good_of_word rfl⟩
theorem q_317 : z_in (.fieldLink RX0 67 (TX3 4).1 (TX3 4).2.1 (TX3 4).2.2.1) := ⟨List.mem_of_getElem? (i := 317) (by decide +kernel), good_of_word rfl⟩
theorem q_318 : z_in (.fieldLink RX3 34 (TX3 5).1 (TX3 5).2.1 (TX3 5).2.2.1) := ⟨List.mem_of_getElem? (i := 318) (by decide +kernel), good_of_word rfl⟩
theorem q_319 : z_in (.fieldLink RX11 142 (TX3 5).1 (TX3 5).2.1 (TX3 5).2.2.1) := ⟨List.mem_of_getElem? (i := 319) (by decide +kernel), good_of_word rfl⟩
theorem q_320 : z_in (.fieldLink RX0 64 (TX3 5).1 (TX3 5).2.1 (TX3 5).2.2.1) := ⟨List.mem_of_getElem? (i := 320) (by decide +kernel), good_of_word rfl⟩
theorem q_321 : z_in (.fieldLink RX3 37 (TX3 6).1 (TX3 6).2.1 (TX3 6).2.2.1) := ⟨List.mem_of_getElem? (i := 321) (by decide +kernel), good_of_word rfl⟩
theorem q_322 : z_in (.fieldLink RX11 145 (TX3 6).1 (TX3 6).2.1 (TX3 6).2.2.1) := ⟨List.mem_of_getElem? (i := 322) (by decide +kernel), good_of_word rfl⟩
theorem q_323 : z_in (.fieldLink RX0 76 (TX3 6).1 (TX3 6).2.1 (TX3 6).2.2.1) := ⟨List.mem_of_getElem? (i := 323) (by decide +kernel), good_of_word rfl⟩
theorem q_324 : z_in (.fieldLink RX11 148 (TX3 7).1 (TX3 7).2.1 (TX3 7).2.2.1) := ⟨List.mem_of_getElem? (i := 324) (by decide +kernel), good_of_word rfl⟩
theorem q_325 : z_in (.fieldLink RX3 40 (TX3 8).1 (TX3 8).2.1 (TX3 8).2.2.1) := ⟨List.mem_of_getElem? (i := 325) (by decide +kernel), good_of_word rfl⟩
theorem q_326 : z_in (.fieldLink RX0 70 (TX3 8).1 (TX3 8).2.1 (TX3 8).2.2.1) := ⟨List.mem_of_getElem? (i := 326) (by decide +kernel), good_of_word rfl⟩
theorem q_327 : z_in (.fieldLink RX11 178 (TX3 8).1 (TX3 8).2.1 (TX3 8).2.2.1) := ⟨List.mem_of_getElem? (i := 327) (by decide +kernel), good_of_word rfl⟩
theorem q_328 : z_in (.fieldLink RX11 399 (TX3 9).1 (TX3 9).2.1 (TX3 9).2.2.1) := ⟨List.mem_of_getElem? (i := 328) (by decide +kernel), good_of_word rfl⟩
theorem q_329 : z_in (.fieldLink RX11 260 (TX3 10).1 (TX3 10).2.1 (TX3 10).2.2.1) := ⟨List.mem_of_getElem? (i := 329) (by decide +kernel), good_of_word rfl⟩
theorem q_330 : z_in (.fieldLink RX3 9 (TX3 11).1 (TX3 11).2.1 (TX3 11).2.2.1) := ⟨List.mem_of_getElem? (i := 330) (by decide +kernel), good_of_word rfl⟩
theorem q_331 : z_in (.fieldLink RX3 15 (TX3 12).1 (TX3 12).2.1 (TX3 12).2.2.1) := ⟨List.mem_of_getElem? (i := 331) (by decide +kernel), good_of_word rfl⟩
theorem q_332 : z_in (.fieldLink RX3 43 (TX3 13).1 (TX3 13).2.1 (TX3 13).2.2.1) := ⟨List.mem_of_getElem? (i := 332) (by decide +kernel), good_of_word rfl⟩
theorem q_362 : z_in (.methodLink RL 33 yX11_about) := ⟨List.mem_of_getElem? (i := 362) (by decide +kernel), good_of_word rfl⟩
theorem q_363 : z_in (.instanceMethod yX11_about) := ⟨List.mem_of_getElem? (i := 363) (by decide +kernel), good_of_word rfl⟩
theorem q_364 : z_in (.selects RX11 yX11_about yX11_about) := ⟨List.mem_of_getElem? (i := 364) (by decide +kernel), good_of_word rfl⟩
theorem q_365 : z_in (.code yX11_about cX11_about 4 (some .int)) := ⟨List.mem_of_getElem? (i := 365) (by decide +kernel), good_of_word rfl⟩
theorem q_366 : z_in (.methodLink RX11 123 yX11_findMan) := ⟨List.mem_of_getElem? (i := 366) (by decide +kernel), good_of_word rfl⟩
theorem q_368 : z_in (.instanceMethod yX11_findMan) := ⟨List.mem_of_getElem? (i := 368) (by decide +kernel), good_of_word rfl⟩
theorem q_369 : z_in (.code yX11_findMan cX11_findMan 2 (some (.object "PressedMen$Man"))) := ⟨List.mem_of_getElem? (i := 369) (by decide +kernel), good_of_word rfl⟩
theorem q_370 : z_in (.methodLink RL 37 yX11_shy) := ⟨List.mem_of_getElem? (i := 370) (by decide +kernel), good_of_word rfl⟩
theorem q_371 : z_in (.instanceMethod yX11_shy) := ⟨List.mem_of_getElem? (i := 371) (by decide +kernel), good_of_word rfl⟩
theorem q_372 : z_in (.selects RX11 yX11_shy yX11_shy) := ⟨List.mem_of_getElem? (i := 372) (by decide +kernel), good_of_word rfl⟩
theorem q_373 : z_in (.code yX11_shy cX11_shy 5 (some .int)) := ⟨List.mem_of_getElem? (i := 373) (by decide +kernel), good_of_word rfl⟩
theorem q_374 : z_in (.methodLink RL 42 yX11_where) := ⟨List.mem_of_getElem? (i := 374) (by decide +kernel), good_of_word rfl⟩
theorem q_375 : z_in (.instanceMethod yX11_where) := ⟨List.mem_of_getElem? (i := 375) (by decide +kernel), good_of_word rfl⟩
theorem q_376 : z_in (.selects RX11 yX11_where yX11_where) := ⟨List.mem_of_getElem? (i := 376) (by decide +kernel), good_of_word rfl⟩
theorem q_377 : z_in (.code yX11_where cX11_where 4 (some .int)) := ⟨List.mem_of_getElem? (i := 377) (by decide +kernel), good_of_word rfl⟩
theorem q_378 : z_in (.methodLink RX11 155 yX3_placeAsOf) := ⟨List.mem_of_getElem? (i := 378) (by decide +kernel), good_of_word rfl⟩
theorem q_379 : z_in (.instanceMethod yX3_placeAsOf) := ⟨List.mem_of_getElem? (i := 379) (by decide +kernel), good_of_word rfl⟩
theorem q_380 : z_in (.selects RX3 yX3_placeAsOf yX3_placeAsOf) := ⟨List.mem_of_getElem? (i := 380) (by decide +kernel), good_of_word rfl⟩
theorem q_381 : z_in (.code yX3_placeAsOf cX3_placeAsOf 3 (some .int)) := ⟨List.mem_of_getElem? (i := 381) (by decide +kernel), good_of_word rfl⟩
theorem q_382 : z_in (.methodLink RX3 55 yX3_moveAsOf) := ⟨List.mem_of_getElem? (i := 382) (by decide +kernel), good_of_word rfl⟩
theorem q_384 : z_in (.instanceMethod yX3_moveAsOf) := ⟨List.mem_of_getElem? (i := 384) (by decide +kernel), good_of_word rfl⟩
theorem q_385 : z_in (.code yX3_moveAsOf cX3_moveAsOf 3 (some .int)) := ⟨List.mem_of_getElem? (i := 385) (by decide +kernel), good_of_word rfl⟩
theorem q_386 : z_in (.methodLink RL 46 yX11_at) := ⟨List.mem_of_getElem? (i := 386) (by decide +kernel), good_of_word rfl⟩
theorem q_387 : z_in (.instanceMethod yX11_at) := ⟨List.mem_of_getElem? (i := 387) (by decide +kernel), good_of_word rfl⟩
theorem q_388 : z_in (.selects RX11 yX11_at yX11_at) := ⟨List.mem_of_getElem? (i := 388) (by decide +kernel), good_of_word rfl⟩
theorem q_389 : z_in (.code yX11_at cX11_at 2 (some .int)) := ⟨List.mem_of_getElem? (i := 389) (by decide +kernel), good_of_word rfl⟩
theorem q_390 : z_in (.methodLink RX11 159 yX11_isPlace) := ⟨List.mem_of_getElem? (i := 390) (by decide +kernel), good_of_word rfl⟩
theorem q_392 : z_in (.instanceMethod yX11_isPlace) := ⟨List.mem_of_getElem? (i := 392) (by decide +kernel), good_of_word rfl⟩
theorem q_393 : z_in (.code yX11_isPlace cX11_isPlace 2 (some .boolean)) := ⟨List.mem_of_getElem? (i := 393) (by decide +kernel), good_of_word rfl⟩
theorem q_394 : z_in (.methodLink RX11 320 yX11_findShip) := ⟨List.mem_of_getElem? (i := 394) (by decide +kernel), good_of_word rfl⟩
theorem q_396 : z_in (.instanceMethod yX11_findShip) := ⟨List.mem_of_getElem? (i := 396) (by decide +kernel), good_of_word rfl⟩
theorem q_397 : z_in (.code yX11_findShip cX11_findShip 2 (some (.object "PressedMen$Ship"))) := ⟨List.mem_of_getElem? (i := 397) (by decide +kernel), good_of_word rfl⟩
theorem q_398 : z_in (.methodLink RX11 162 yX11_menIn) := ⟨List.mem_of_getElem? (i := 398) (by decide +kernel), good_of_word rfl⟩
theorem q_400 : z_in (.instanceMethod yX11_menIn) := ⟨List.mem_of_getElem? (i := 400) (by decide +kernel), good_of_word rfl⟩
theorem q_401 : z_in (.code yX11_menIn cX11_menIn 4 (some .int)) := ⟨List.mem_of_getElem? (i := 401) (by decide +kernel), good_of_word rfl⟩
theorem q_402 : z_in (.methodLink RL 50 yX11_tide) := ⟨List.mem_of_getElem? (i := 402) (by decide +kernel), good_of_word rfl⟩
theorem q_403 : z_in (.instanceMethod yX11_tide) := ⟨List.mem_of_getElem? (i := 403) (by decide +kernel), good_of_word rfl⟩
theorem q_404 : z_in (.selects RX11 yX11_tide yX11_tide) := ⟨List.mem_of_getElem? (i := 404) (by decide +kernel), good_of_word rfl⟩
theorem q_405 : z_in (.code yX11_tide cX11_tide 1 (some .int)) := ⟨List.mem_of_getElem? (i := 405) (by decide +kernel), good_of_word rfl⟩
theorem q_406 : z_in (.methodLink RL 55 yX11_pass) := ⟨List.mem_of_getElem? (i := 406) (by decide +kernel), good_of_word rfl⟩
theorem q_407 : z_in (.instanceMethod yX11_pass) := ⟨List.mem_of_getElem? (i := 407) (by decide +kernel), good_of_word rfl⟩
theorem q_408 : z_in (.selects RX11 yX11_pass yX11_pass) := ⟨List.mem_of_getElem? (i := 408) (by decide +kernel), good_of_word rfl⟩
theorem q_409 : z_in (.code yX11_pass cX11_pass 3 (some .int)) := ⟨List.mem_of_getElem? (i := 409) (by decide +kernel), good_of_word rfl⟩
theorem q_410 : z_in (.methodLink RX11 165 yX5_firstHeard) := ⟨List.mem_of_getElem? (i := 410) (by decide +kernel), good_of_word rfl⟩
theorem q_411 : z_in (.instanceMethod yX5_firstHeard) := ⟨List.mem_of_getElem? (i := 411) (by decide +kernel), good_of_word rfl⟩
theorem q_412 : z_in (.selects RX5 yX5_firstHeard yX5_firstHeard) := ⟨List.mem_of_getElem? (i := 412) (by decide +kernel), good_of_word rfl⟩
theorem q_413 : z_in (.code yX5_firstHeard cX5_firstHeard 7 (some .int)) := ⟨List.mem_of_getElem? (i := 413) (by decide +kernel), good_of_word rfl⟩
theorem q_414 : Cond.methodLinkNest RX5 31 yX11_isStreet "PressedMen" ∈ lw_tbl := List.mem_of_getElem? (i := 414) (by decide +kernel)
theorem q_415 : z_in (.static yX11_isStreet) := ⟨List.mem_of_getElem? (i := 415) (by decide +kernel), good_of_word rfl⟩
theorem q_416 : z_in (.code yX11_isStreet cX11_isStreet 1 (some .boolean)) := ⟨List.mem_of_getElem? (i := 416) (by decide +kernel), good_of_word rfl⟩
theorem q_417 : z_in (.methodLink RX5 35 yX10_hops) := ⟨List.mem_of_getElem? (i := 417) (by decide +kernel), good_of_word rfl⟩
theorem q_418 : z_in (.methodLink RX5 44 yJ9_min_7cf53) := ⟨List.mem_of_getElem? (i := 418) (by decide +kernel), good_of_word rfl⟩
theorem q_419 : z_in (.methodLink RX11 169 yX11_hideTheShy) := ⟨List.mem_of_getElem? (i := 419) (by decide +kernel), good_of_word rfl⟩
theorem q_421 : z_in (.instanceMethod yX11_hideTheShy) := ⟨List.mem_of_getElem? (i := 421) (by decide +kernel), good_of_word rfl⟩
theorem q_422 : z_in (.code yX11_hideTheShy cX11_hideTheShy 3 none) := ⟨List.mem_of_getElem? (i := 422) (by decide +kernel), good_of_word rfl⟩
theorem q_423 : z_in (.methodLink RX11 349 yX11_isStreet) := ⟨List.mem_of_getElem? (i := 423) (by decide +kernel), good_of_word rfl⟩
theorem q_424 : z_in (.methodLink RX11 184 yX3_goTo) := ⟨List.mem_of_getElem? (i := 424) (by decide +kernel), good_of_word rfl⟩
theorem q_425 : z_in (.instanceMethod yX3_goTo) := ⟨List.mem_of_getElem? (i := 425) (by decide +kernel), good_of_word rfl⟩
theorem q_426 : z_in (.selects RX3 yX3_goTo yX3_goTo) := ⟨List.mem_of_getElem? (i := 426) (by decide +kernel), good_of_word rfl⟩
theorem q_427 : z_in (.code yX3_goTo cX3_goTo 4 (some .int)) := ⟨List.mem_of_getElem? (i := 427) (by decide +kernel), good_of_word rfl⟩
theorem q_428 : z_in (.methodLink RX3 46 yX3_makeRoom) := ⟨List.mem_of_getElem? (i := 428) (by decide +kernel), good_of_word rfl⟩
theorem q_430 : z_in (.instanceMethod yX3_makeRoom) := ⟨List.mem_of_getElem? (i := 430) (by decide +kernel), good_of_word rfl⟩
theorem q_431 : z_in (.code yX3_makeRoom cX3_makeRoom 1 none) := ⟨List.mem_of_getElem? (i := 431) (by decide +kernel), good_of_word rfl⟩
theorem q_432 : z_in (.methodLink RX3 49 yJ7_copyOf_59c91) := ⟨List.mem_of_getElem? (i := 432) (by decide +kernel), good_of_word rfl⟩
theorem q_433 : z_in (.static yJ7_copyOf_59c91) := ⟨List.mem_of_getElem? (i := 433) (by decide +kernel), good_of_word rfl⟩
theorem q_434 : z_in (.code yJ7_copyOf_59c91 cJ7_copyOf_59c91 3 (some (.array .int))) := ⟨List.mem_of_getElem? (i := 434) (by decide +kernel), good_of_word rfl⟩
theorem q_442 : z_in (.methodLink RJ7 304 yJ9_min_7cf53) := ⟨List.mem_of_getElem? (i := 442) (by decide +kernel), good_of_word rfl⟩
theorem q_443 : z_in (.methodLink RJ7 150 arraycopyName) := ⟨List.mem_of_getElem? (i := 443) (by decide +kernel), good_of_word rfl⟩
theorem q_444 : z_in (.static arraycopyName) := ⟨List.mem_of_getElem? (i := 444) (by decide +kernel), good_of_word rfl⟩
theorem q_445 : Cond.native arraycopyName ∈ lw_tbl := List.mem_of_getElem? (i := 445) (by decide +kernel)
theorem q_446 : z_in (.methodLink RX11 172 yX11_sickenTheCrowd) := ⟨List.mem_of_getElem? (i := 446) (by decide +kernel), good_of_word rfl⟩
theorem q_448 : z_in (.instanceMethod yX11_sickenTheCrowd) := ⟨List.mem_of_getElem? (i := 448) (by decide +kernel), good_of_word rfl⟩
theorem q_449 : z_in (.code yX11_sickenTheCrowd cX11_sickenTheCrowd 4 none) := ⟨List.mem_of_getElem? (i := 449) (by decide +kernel), good_of_word rfl⟩
theorem q_450 : z_in (.methodLink RX11 416 yJ9_max_7cf53) := ⟨List.mem_of_getElem? (i := 450) (by decide +kernel), good_of_word rfl⟩
theorem q_451 : z_in (.static yJ9_max_7cf53) := ⟨List.mem_of_getElem? (i := 451) (by decide +kernel), good_of_word rfl⟩
theorem q_452 : z_in (.code yJ9_max_7cf53 cJ9_max_7cf53 2 (some .int)) := ⟨List.mem_of_getElem? (i := 452) (by decide +kernel), good_of_word rfl⟩
theorem q_453 : z_in (.methodLink RX11 175 yX11_sendTheSickHome) := ⟨List.mem_of_getElem? (i := 453) (by decide +kernel), good_of_word rfl⟩
theorem q_455 : z_in (.instanceMethod yX11_sendTheSickHome) := ⟨List.mem_of_getElem? (i := 455) (by decide +kernel), good_of_word rfl⟩
theorem q_456 : z_in (.code yX11_sendTheSickHome cX11_sendTheSickHome 3 none) := ⟨List.mem_of_getElem? (i := 456) (by decide +kernel), good_of_word rfl⟩
theorem q_457 : z_in (.methodLink RX11 421 yX3_lastMoved) := ⟨List.mem_of_getElem? (i := 457) (by decide +kernel), good_of_word rfl⟩
theorem q_458 : z_in (.instanceMethod yX3_lastMoved) := ⟨List.mem_of_getElem? (i := 458) (by decide +kernel), good_of_word rfl⟩
theorem q_459 : z_in (.selects RX3 yX3_lastMoved yX3_lastMoved) := ⟨List.mem_of_getElem? (i := 459) (by decide +kernel), good_of_word rfl⟩
theorem q_460 : z_in (.code yX3_lastMoved cX3_lastMoved 1 (some .int)) := ⟨List.mem_of_getElem? (i := 460) (by decide +kernel), good_of_word rfl⟩
theorem q_461 : z_in (.methodLink RL 59 yX11_walk) := ⟨List.mem_of_getElem? (i := 461) (by decide +kernel), good_of_word rfl⟩
theorem q_462 : z_in (.instanceMethod yX11_walk) := ⟨List.mem_of_getElem? (i := 462) (by decide +kernel), good_of_word rfl⟩
theorem q_463 : z_in (.selects RX11 yX11_walk yX11_walk) := ⟨List.mem_of_getElem? (i := 463) (by decide +kernel), good_of_word rfl⟩
theorem q_464 : z_in (.code yX11_walk cX11_walk 4 (some .int)) := ⟨List.mem_of_getElem? (i := 464) (by decide +kernel), good_of_word rfl⟩
theorem q_465 : z_in (.methodLink RX11 181 yX11_isAshore) := ⟨List.mem_of_getElem? (i := 465) (by decide +kernel), good_of_word rfl⟩
theorem q_466 : z_in (.static yX11_isAshore) := ⟨List.mem_of_getElem? (i := 466) (by decide +kernel), good_of_word rfl⟩
theorem q_467 : z_in (.code yX11_isAshore cX11_isAshore 1 (some .boolean)) := ⟨List.mem_of_getElem? (i := 467) (by decide +kernel), good_of_word rfl⟩
theorem q_468 : z_in (.methodLink RL 63 yX11_run) := ⟨List.mem_of_getElem? (i := 468) (by decide +kernel), good_of_word rfl⟩
theorem q_469 : z_in (.instanceMethod yX11_run) := ⟨List.mem_of_getElem? (i := 469) (by decide +kernel), good_of_word rfl⟩
theorem q_470 : z_in (.selects RX11 yX11_run yX11_run) := ⟨List.mem_of_getElem? (i := 470) (by decide +kernel), good_of_word rfl⟩
theorem q_471 : z_in (.code yX11_run cX11_run 3 (some .int)) := ⟨List.mem_of_getElem? (i := 471) (by decide +kernel), good_of_word rfl⟩
theorem q_472 : z_in (.methodLink RL 67 yX11_paper) := ⟨List.mem_of_getElem? (i := 472) (by decide +kernel), good_of_word rfl⟩
theorem q_473 : z_in (.instanceMethod yX11_paper) := ⟨List.mem_of_getElem? (i := 473) (by decide +kernel), good_of_word rfl⟩
theorem q_474 : z_in (.selects RX11 yX11_paper yX11_paper) := ⟨List.mem_of_getElem? (i := 474) (by decide +kernel), good_of_word rfl⟩
theorem q_475 : z_in (.code yX11_paper cX11_paper 10 (some .int)) := ⟨List.mem_of_getElem? (i := 475) (by decide +kernel), good_of_word rfl⟩
theorem q_476 : z_in (.methodLink RX11 187 yX11_isMark) := ⟨List.mem_of_getElem? (i := 476) (by decide +kernel), good_of_word rfl⟩
theorem q_477 : z_in (.static yX11_isMark) := ⟨List.mem_of_getElem? (i := 477) (by decide +kernel), good_of_word rfl⟩
theorem q_478 : z_in (.code yX11_isMark cX11_isMark 1 (some .boolean)) := ⟨List.mem_of_getElem? (i := 478) (by decide +kernel), good_of_word rfl⟩
theorem q_479 : z_in (.methodLink RX11 190 yX11_isSpan) := ⟨List.mem_of_getElem? (i := 479) (by decide +kernel), good_of_word rfl⟩
theorem q_480 : z_in (.static yX11_isSpan) := ⟨List.mem_of_getElem? (i := 480) (by decide +kernel), good_of_word rfl⟩
theorem q_481 : z_in (.code yX11_isSpan cX11_isSpan 3 (some .boolean)) := ⟨List.mem_of_getElem? (i := 481) (by decide +kernel), good_of_word rfl⟩
theorem q_482 : z_in (.instantiable RX4 6) := ⟨List.mem_of_getElem? (i := 482) (by decide +kernel), good_of_word rfl⟩
theorem q_483 : z_in (.classLink RX11 196 RX7) := ⟨List.mem_of_getElem? (i := 483) (by decide +kernel), good_of_word rfl⟩
theorem q_484 : z_in (.instantiable RX7 2) := ⟨List.mem_of_getElem? (i := 484) (by decide +kernel), good_of_word rfl⟩
theorem q_485 : z_in (.methodLink RX11 198 yX7_init) := ⟨List.mem_of_getElem? (i := 485) (by decide +kernel), good_of_word rfl⟩
theorem q_486 : z_in (.instanceMethod yX7_init) := ⟨List.mem_of_getElem? (i := 486) (by decide +kernel), good_of_word rfl⟩
theorem q_487 : z_in (.code yX7_init cX7_init 3 none) := ⟨List.mem_of_getElem? (i := 487) (by decide +kernel), good_of_word rfl⟩
theorem q_488 : z_in (.methodLink RX7 1 objectInit) := ⟨List.mem_of_getElem? (i := 488) (by decide +kernel), good_of_word rfl⟩
theorem q_489 : z_in (.fieldLink RX7 7 (TX7 0).1 (TX7 0).2.1 (TX7 0).2.2.1) := ⟨List.mem_of_getElem? (i := 489) (by decide +kernel), good_of_word rfl⟩
theorem q_490 : z_in (.fieldLink RX7 13 (TX7 1).1 (TX7 1).2.1 (TX7 1).2.2.1) := ⟨List.mem_of_getElem? (i := 490) (by decide +kernel), good_of_word rfl⟩
theorem q_496 : z_in (.methodLink RX11 201 yX4_init) := ⟨List.mem_of_getElem? (i := 496) (by decide +kernel), good_of_word rfl⟩
theorem q_497 : z_in (.instanceMethod yX4_init) := ⟨List.mem_of_getElem? (i := 497) (by decide +kernel), good_of_word rfl⟩
theorem q_498 : z_in (.code yX4_init cX4_init 7 none) := ⟨List.mem_of_getElem? (i := 498) (by decide +kernel), good_of_word rfl⟩
theorem q_499 : z_in (.methodLink RX4 3 objectInit) := ⟨List.mem_of_getElem? (i := 499) (by decide +kernel), good_of_word rfl⟩
theorem q_500 : z_in (.fieldLink RX4 9 (TX4 0).1 (TX4 0).2.1 (TX4 0).2.2.1) := ⟨List.mem_of_getElem? (i := 500) (by decide +kernel), good_of_word rfl⟩
theorem q_501 : z_in (.fieldLink RX11 436 (TX4 0).1 (TX4 0).2.1 (TX4 0).2.2.1) := ⟨List.mem_of_getElem? (i := 501) (by decide +kernel), good_of_word rfl⟩
theorem q_502 : z_in (.fieldLink RX4 15 (TX4 1).1 (TX4 1).2.1 (TX4 1).2.2.1) := ⟨List.mem_of_getElem? (i := 502) (by decide +kernel), good_of_word rfl⟩
theorem q_503 : z_in (.fieldLink RX4 18 (TX4 2).1 (TX4 2).2.1 (TX4 2).2.2.1) := ⟨List.mem_of_getElem? (i := 503) (by decide +kernel), good_of_word rfl⟩
theorem q_504 : z_in (.fieldLink RX4 21 (TX4 3).1 (TX4 3).2.1 (TX4 3).2.2.1) := ⟨List.mem_of_getElem? (i := 504) (by decide +kernel), good_of_word rfl⟩
theorem q_505 : z_in (.fieldLink RX4 25 (TX4 4).1 (TX4 4).2.1 (TX4 4).2.2.1) := ⟨List.mem_of_getElem? (i := 505) (by decide +kernel), good_of_word rfl⟩
theorem q_506 : z_in (.fieldLink RX4 28 (TX4 5).1 (TX4 5).2.1 (TX4 5).2.2.1) := ⟨List.mem_of_getElem? (i := 506) (by decide +kernel), good_of_word rfl⟩
theorem q_520 : z_in (.methodLink RL 72 yX11_cover) := ⟨List.mem_of_getElem? (i := 520) (by decide +kernel), good_of_word rfl⟩
theorem q_521 : z_in (.instanceMethod yX11_cover) := ⟨List.mem_of_getElem? (i := 521) (by decide +kernel), good_of_word rfl⟩
theorem q_522 : z_in (.selects RX11 yX11_cover yX11_cover) := ⟨List.mem_of_getElem? (i := 522) (by decide +kernel), good_of_word rfl⟩
theorem q_523 : z_in (.code yX11_cover cX11_cover 6 (some .int)) := ⟨List.mem_of_getElem? (i := 523) (by decide +kernel), good_of_word rfl⟩
theorem q_524 : z_in (.methodLink RX11 204 yX11_findPaper) := ⟨List.mem_of_getElem? (i := 524) (by decide +kernel), good_of_word rfl⟩
theorem q_526 : z_in (.instanceMethod yX11_findPaper) := ⟨List.mem_of_getElem? (i := 526) (by decide +kernel), good_of_word rfl⟩
theorem q_527 : z_in (.code yX11_findPaper cX11_findPaper 2 (some (.object "PressedMen$Paper"))) := ⟨List.mem_of_getElem? (i := 527) (by decide +kernel), good_of_word rfl⟩
theorem q_528 : z_in (.methodLink RX11 208 yX11_isTide) := ⟨List.mem_of_getElem? (i := 528) (by decide +kernel), good_of_word rfl⟩
theorem q_529 : z_in (.static yX11_isTide) := ⟨List.mem_of_getElem? (i := 529) (by decide +kernel), good_of_word rfl⟩
theorem q_530 : z_in (.code yX11_isTide cX11_isTide 1 (some .boolean)) := ⟨List.mem_of_getElem? (i := 530) (by decide +kernel), good_of_word rfl⟩
theorem q_531 : z_in (.methodLink RX11 211 yX4_coverage) := ⟨List.mem_of_getElem? (i := 531) (by decide +kernel), good_of_word rfl⟩
theorem q_532 : z_in (.instanceMethod yX4_coverage) := ⟨List.mem_of_getElem? (i := 532) (by decide +kernel), good_of_word rfl⟩
theorem q_533 : z_in (.selects RX4 yX4_coverage yX4_coverage) := ⟨List.mem_of_getElem? (i := 533) (by decide +kernel), good_of_word rfl⟩
theorem q_534 : z_in (.code yX4_coverage cX4_coverage 4 (some .int)) := ⟨List.mem_of_getElem? (i := 534) (by decide +kernel), good_of_word rfl⟩
theorem q_535 : z_in (.methodLink RX4 31 yX7_holds) := ⟨List.mem_of_getElem? (i := 535) (by decide +kernel), good_of_word rfl⟩
theorem q_536 : z_in (.instanceMethod yX7_holds) := ⟨List.mem_of_getElem? (i := 536) (by decide +kernel), good_of_word rfl⟩
theorem q_537 : z_in (.selects RX7 yX7_holds yX7_holds) := ⟨List.mem_of_getElem? (i := 537) (by decide +kernel), good_of_word rfl⟩
theorem q_538 : z_in (.code yX7_holds cX7_holds 2 (some .boolean)) := ⟨List.mem_of_getElem? (i := 538) (by decide +kernel), good_of_word rfl⟩
theorem q_539 : Cond.methodLinkNest RX7 16 yX11_within "PressedMen" ∈ lw_tbl := List.mem_of_getElem? (i := 539) (by decide +kernel)
theorem q_540 : z_in (.methodLink RX4 37 yX4_describes) := ⟨List.mem_of_getElem? (i := 540) (by decide +kernel), good_of_word rfl⟩
theorem q_542 : z_in (.instanceMethod yX4_describes) := ⟨List.mem_of_getElem? (i := 542) (by decide +kernel), good_of_word rfl⟩
theorem q_543 : z_in (.code yX4_describes cX4_describes 2 (some .boolean)) := ⟨List.mem_of_getElem? (i := 543) (by decide +kernel), good_of_word rfl⟩
theorem q_544 : z_in (.methodLink RX4 41 yX7_width) := ⟨List.mem_of_getElem? (i := 544) (by decide +kernel), good_of_word rfl⟩
theorem q_545 : z_in (.instanceMethod yX7_width) := ⟨List.mem_of_getElem? (i := 545) (by decide +kernel), good_of_word rfl⟩
theorem q_546 : z_in (.selects RX7 yX7_width yX7_width) := ⟨List.mem_of_getElem? (i := 546) (by decide +kernel), good_of_word rfl⟩
theorem q_547 : z_in (.code yX7_width cX7_width 1 (some .int)) := ⟨List.mem_of_getElem? (i := 547) (by decide +kernel), good_of_word rfl⟩
theorem q_548 : z_in (.methodLink RL 77 yX11_same) := ⟨List.mem_of_getElem? (i := 548) (by decide +kernel), good_of_word rfl⟩
theorem q_549 : z_in (.instanceMethod yX11_same) := ⟨List.mem_of_getElem? (i := 549) (by decide +kernel), good_of_word rfl⟩
theorem q_550 : z_in (.selects RX11 yX11_same yX11_same) := ⟨List.mem_of_getElem? (i := 550) (by decide +kernel), good_of_word rfl⟩
theorem q_551 : z_in (.code yX11_same cX11_same 6 (some .int)) := ⟨List.mem_of_getElem? (i := 551) (by decide +kernel), good_of_word rfl⟩
theorem q_552 : z_in (.methodLink RL 81 yX11_shown) := ⟨List.mem_of_getElem? (i := 552) (by decide +kernel), good_of_word rfl⟩
theorem q_553 : z_in (.instanceMethod yX11_shown) := ⟨List.mem_of_getElem? (i := 553) (by decide +kernel), good_of_word rfl⟩
theorem q_554 : z_in (.selects RX11 yX11_shown yX11_shown) := ⟨List.mem_of_getElem? (i := 554) (by decide +kernel), good_of_word rfl⟩
theorem q_555 : z_in (.code yX11_shown cX11_shown 3 (some .int)) := ⟨List.mem_of_getElem? (i := 555) (by decide +kernel), good_of_word rfl⟩
theorem q_556 : z_in (.methodLink RX11 215 yX5_menWhoShowed) := ⟨List.mem_of_getElem? (i := 556) (by decide +kernel), good_of_word rfl⟩
theorem q_557 : z_in (.instanceMethod yX5_menWhoShowed) := ⟨List.mem_of_getElem? (i := 557) (by decide +kernel), good_of_word rfl⟩
theorem q_558 : z_in (.selects RX5 yX5_menWhoShowed yX5_menWhoShowed) := ⟨List.mem_of_getElem? (i := 558) (by decide +kernel), good_of_word rfl⟩
theorem q_559 : z_in (.code yX5_menWhoShowed cX5_menWhoShowed 8 (some .int)) := ⟨List.mem_of_getElem? (i := 559) (by decide +kernel), good_of_word rfl⟩
theorem q_560 : Cond.methodLinkNest RX5 21 yX11_within "PressedMen" ∈ lw_tbl := List.mem_of_getElem? (i := 560) (by decide +kernel)
theorem q_561 : z_in (.methodLink RX5 55 yJ13_bitCount_95d88) := ⟨List.mem_of_getElem? (i := 561) (by decide +kernel), good_of_word rfl⟩
theorem q_562 : z_in (.static yJ13_bitCount_95d88) := ⟨List.mem_of_getElem? (i := 562) (by decide +kernel), good_of_word rfl⟩
theorem q_563 : z_in (.code yJ13_bitCount_95d88 cJ13_bitCount_95d88 2 (some .int)) := ⟨List.mem_of_getElem? (i := 563) (by decide +kernel), good_of_word rfl⟩
theorem q_564 : z_in (.constantLong RJ13 314 (6148914691236517205)) := ⟨List.mem_of_getElem? (i := 564) (by decide +kernel), good_of_word rfl⟩
theorem q_565 : z_in (.constantLong RJ13 316 (3689348814741910323)) := ⟨List.mem_of_getElem? (i := 565) (by decide +kernel), good_of_word rfl⟩
theorem q_566 : z_in (.constantLong RJ13 318 (1085102592571150095)) := ⟨List.mem_of_getElem? (i := 566) (by decide +kernel), good_of_word rfl⟩
theorem q_567 : z_in (.methodLink RL 85 yX11_act) := ⟨List.mem_of_getElem? (i := 567) (by decide +kernel), good_of_word rfl⟩
theorem q_568 : z_in (.instanceMethod yX11_act) := ⟨List.mem_of_getElem? (i := 568) (by decide +kernel), good_of_word rfl⟩
theorem q_569 : z_in (.selects RX11 yX11_act yX11_act) := ⟨List.mem_of_getElem? (i := 569) (by decide +kernel), good_of_word rfl⟩
theorem q_570 : z_in (.code yX11_act cX11_act 2 (some .int)) := ⟨List.mem_of_getElem? (i := 570) (by decide +kernel), good_of_word rfl⟩
theorem q_571 : z_in (.instantiable RX0 6) := ⟨List.mem_of_getElem? (i := 571) (by decide +kernel), good_of_word rfl⟩
theorem q_572 : z_in (.methodLink RX11 222 yX0_init) := ⟨List.mem_of_getElem? (i := 572) (by decide +kernel), good_of_word rfl⟩
theorem q_573 : z_in (.instanceMethod yX0_init) := ⟨List.mem_of_getElem? (i := 573) (by decide +kernel), good_of_word rfl⟩
theorem q_574 : z_in (.code yX0_init cX0_init 2 none) := ⟨List.mem_of_getElem? (i := 574) (by decide +kernel), good_of_word rfl⟩
theorem q_575 : z_in (.methodLink RX0 3 objectInit) := ⟨List.mem_of_getElem? (i := 575) (by decide +kernel), good_of_word rfl⟩
theorem q_576 : z_in (.fieldLink RX0 22 (TX0 0).1 (TX0 0).2.1 (TX0 0).2.2.1) := ⟨List.mem_of_getElem? (i := 576) (by decide +kernel), good_of_word rfl⟩
theorem q_577 : z_in (.fieldLink RX11 424 (TX0 0).1 (TX0 0).2.1 (TX0 0).2.2.1) := ⟨List.mem_of_getElem? (i := 577) (by decide +kernel), good_of_word rfl⟩
theorem q_578 : z_in (.fieldLink RX0 25 (TX0 1).1 (TX0 1).2.1 (TX0 1).2.2.1) := ⟨List.mem_of_getElem? (i := 578) (by decide +kernel), good_of_word rfl⟩
theorem q_579 : z_in (.fieldLink RX11 228 (TX0 1).1 (TX0 1).2.1 (TX0 1).2.2.1) := ⟨List.mem_of_getElem? (i := 579) (by decide +kernel), good_of_word rfl⟩
theorem q_580 : z_in (.fieldLink RX0 9 (TX0 2).1 (TX0 2).2.1 (TX0 2).2.2.1) := ⟨List.mem_of_getElem? (i := 580) (by decide +kernel), good_of_word rfl⟩
theorem q_581 : z_in (.fieldLink RX0 15 (TX0 3).1 (TX0 3).2.1 (TX0 3).2.2.1) := ⟨List.mem_of_getElem? (i := 581) (by decide +kernel), good_of_word rfl⟩
theorem q_582 : z_in (.fieldLink RX0 32 (TX0 4).1 (TX0 4).2.1 (TX0 4).2.2.1) := ⟨List.mem_of_getElem? (i := 582) (by decide +kernel), good_of_word rfl⟩
theorem q_583 : z_in (.fieldLink RX0 19 (TX0 5).1 (TX0 5).2.1 (TX0 5).2.2.1) := ⟨List.mem_of_getElem? (i := 583) (by decide +kernel), good_of_word rfl⟩
theorem q_597 : z_in (.arrayClass .byte) := ⟨List.mem_of_getElem? (i := 597) (by decide +kernel), good_of_word rfl⟩
theorem q_598 : z_in (.methodLink RL 89 yX11_sign) := ⟨List.mem_of_getElem? (i := 598) (by decide +kernel), good_of_word rfl⟩
theorem q_599 : z_in (.instanceMethod yX11_sign) := ⟨List.mem_of_getElem? (i := 599) (by decide +kernel), good_of_word rfl⟩
theorem q_600 : z_in (.selects RX11 yX11_sign yX11_sign) := ⟨List.mem_of_getElem? (i := 600) (by decide +kernel), good_of_word rfl⟩
theorem q_601 : z_in (.code yX11_sign cX11_sign 4 (some .int)) := ⟨List.mem_of_getElem? (i := 601) (by decide +kernel), good_of_word rfl⟩
theorem q_602 : z_in (.methodLink RX11 224 yX11_findAct) := ⟨List.mem_of_getElem? (i := 602) (by decide +kernel), good_of_word rfl⟩
theorem q_604 : z_in (.instanceMethod yX11_findAct) := ⟨List.mem_of_getElem? (i := 604) (by decide +kernel), good_of_word rfl⟩
theorem q_605 : z_in (.code yX11_findAct cX11_findAct 2 (some (.object "PressedMen$Act"))) := ⟨List.mem_of_getElem? (i := 605) (by decide +kernel), good_of_word rfl⟩
theorem q_606 : z_in (.methodLink RX11 231 yX0_add) := ⟨List.mem_of_getElem? (i := 606) (by decide +kernel), good_of_word rfl⟩
theorem q_607 : z_in (.instanceMethod yX0_add) := ⟨List.mem_of_getElem? (i := 607) (by decide +kernel), good_of_word rfl⟩
theorem q_608 : z_in (.selects RX0 yX0_add yX0_add) := ⟨List.mem_of_getElem? (i := 608) (by decide +kernel), good_of_word rfl⟩
theorem q_609 : z_in (.code yX0_add cX0_add 2 none) := ⟨List.mem_of_getElem? (i := 609) (by decide +kernel), good_of_word rfl⟩
theorem q_610 : z_in (.methodLink RX0 28 yX0_goesOnWith) := ⟨List.mem_of_getElem? (i := 610) (by decide +kernel), good_of_word rfl⟩
theorem q_612 : z_in (.instanceMethod yX0_goesOnWith) := ⟨List.mem_of_getElem? (i := 612) (by decide +kernel), good_of_word rfl⟩
theorem q_613 : z_in (.code yX0_goesOnWith cX0_goesOnWith 2 (some .boolean)) := ⟨List.mem_of_getElem? (i := 613) (by decide +kernel), good_of_word rfl⟩
theorem q_614 : z_in (.methodLink RX0 35 yX0_takesDigit) := ⟨List.mem_of_getElem? (i := 614) (by decide +kernel), good_of_word rfl⟩
theorem q_616 : z_in (.instanceMethod yX0_takesDigit) := ⟨List.mem_of_getElem? (i := 616) (by decide +kernel), good_of_word rfl⟩
theorem q_617 : z_in (.code yX0_takesDigit cX0_takesDigit 2 (some .boolean)) := ⟨List.mem_of_getElem? (i := 617) (by decide +kernel), good_of_word rfl⟩
theorem q_618 : z_in (.methodLink RX0 38 yX0_isDigit) := ⟨List.mem_of_getElem? (i := 618) (by decide +kernel), good_of_word rfl⟩
theorem q_619 : z_in (.static yX0_isDigit) := ⟨List.mem_of_getElem? (i := 619) (by decide +kernel), good_of_word rfl⟩
theorem q_620 : z_in (.code yX0_isDigit cX0_isDigit 1 (some .boolean)) := ⟨List.mem_of_getElem? (i := 620) (by decide +kernel), good_of_word rfl⟩
theorem q_621 : Cond.methodLinkNest RX0 41 yX11_within "PressedMen" ∈ lw_tbl := List.mem_of_getElem? (i := 621) (by decide +kernel)
theorem q_622 : z_in (.methodLink RL 93 yX11_fault) := ⟨List.mem_of_getElem? (i := 622) (by decide +kernel), good_of_word rfl⟩
theorem q_623 : z_in (.instanceMethod yX11_fault) := ⟨List.mem_of_getElem? (i := 623) (by decide +kernel), good_of_word rfl⟩
theorem q_624 : z_in (.selects RX11 yX11_fault yX11_fault) := ⟨List.mem_of_getElem? (i := 624) (by decide +kernel), good_of_word rfl⟩
theorem q_625 : z_in (.code yX11_fault cX11_fault 3 (some .int)) := ⟨List.mem_of_getElem? (i := 625) (by decide +kernel), good_of_word rfl⟩
theorem q_626 : z_in (.methodLink RX11 234 yX0_faultAt) := ⟨List.mem_of_getElem? (i := 626) (by decide +kernel), good_of_word rfl⟩
theorem q_627 : z_in (.instanceMethod yX0_faultAt) := ⟨List.mem_of_getElem? (i := 627) (by decide +kernel), good_of_word rfl⟩
theorem q_628 : z_in (.selects RX0 yX0_faultAt yX0_faultAt) := ⟨List.mem_of_getElem? (i := 628) (by decide +kernel), good_of_word rfl⟩
theorem q_629 : z_in (.code yX0_faultAt cX0_faultAt 1 (some .int)) := ⟨List.mem_of_getElem? (i := 629) (by decide +kernel), good_of_word rfl⟩
theorem q_630 : z_in (.methodLink RL 97 yX11_force) := ⟨List.mem_of_getElem? (i := 630) (by decide +kernel), good_of_word rfl⟩
theorem q_631 : z_in (.instanceMethod yX11_force) := ⟨List.mem_of_getElem? (i := 631) (by decide +kernel), good_of_word rfl⟩
theorem q_632 : z_in (.selects RX11 yX11_force yX11_force) := ⟨List.mem_of_getElem? (i := 632) (by decide +kernel), good_of_word rfl⟩
theorem q_633 : z_in (.code yX11_force cX11_force 2 (some .int)) := ⟨List.mem_of_getElem? (i := 633) (by decide +kernel), good_of_word rfl⟩
theorem q_634 : z_in (.methodLink RX11 238 yX11_actInForce) := ⟨List.mem_of_getElem? (i := 634) (by decide +kernel), good_of_word rfl⟩
theorem q_636 : z_in (.instanceMethod yX11_actInForce) := ⟨List.mem_of_getElem? (i := 636) (by decide +kernel), good_of_word rfl⟩
theorem q_637 : z_in (.code yX11_actInForce cX11_actInForce 6 (some .int)) := ⟨List.mem_of_getElem? (i := 637) (by decide +kernel), good_of_word rfl⟩
theorem q_638 : z_in (.methodLink RL 101 yX11_may) := ⟨List.mem_of_getElem? (i := 638) (by decide +kernel), good_of_word rfl⟩
theorem q_639 : z_in (.instanceMethod yX11_may) := ⟨List.mem_of_getElem? (i := 639) (by decide +kernel), good_of_word rfl⟩
theorem q_640 : z_in (.selects RX11 yX11_may yX11_may) := ⟨List.mem_of_getElem? (i := 640) (by decide +kernel), good_of_word rfl⟩
theorem q_641 : z_in (.code yX11_may cX11_may 4 (some .int)) := ⟨List.mem_of_getElem? (i := 641) (by decide +kernel), good_of_word rfl⟩
theorem q_642 : z_in (.methodLink RX11 241 yX11_isPaperOrNone) := ⟨List.mem_of_getElem? (i := 642) (by decide +kernel), good_of_word rfl⟩
theorem q_644 : z_in (.instanceMethod yX11_isPaperOrNone) := ⟨List.mem_of_getElem? (i := 644) (by decide +kernel), good_of_word rfl⟩
theorem q_645 : z_in (.code yX11_isPaperOrNone cX11_isPaperOrNone 2 (some .boolean)) := ⟨List.mem_of_getElem? (i := 645) (by decide +kernel), good_of_word rfl⟩
theorem q_646 : z_in (.methodLink RX11 244 yX11_mayAsShown) := ⟨List.mem_of_getElem? (i := 646) (by decide +kernel), good_of_word rfl⟩
theorem q_648 : z_in (.instanceMethod yX11_mayAsShown) := ⟨List.mem_of_getElem? (i := 648) (by decide +kernel), good_of_word rfl⟩
theorem q_649 : z_in (.code yX11_mayAsShown cX11_mayAsShown 5 (some .boolean)) := ⟨List.mem_of_getElem? (i := 649) (by decide +kernel), good_of_word rfl⟩
theorem q_650 : z_in (.methodLink RX11 425 yX0_holds) := ⟨List.mem_of_getElem? (i := 650) (by decide +kernel), good_of_word rfl⟩
theorem q_651 : z_in (.instanceMethod yX0_holds) := ⟨List.mem_of_getElem? (i := 651) (by decide +kernel), good_of_word rfl⟩
theorem q_652 : z_in (.selects RX0 yX0_holds yX0_holds) := ⟨List.mem_of_getElem? (i := 652) (by decide +kernel), good_of_word rfl⟩
theorem q_653 : z_in (.code yX0_holds cX0_holds 9 (some .boolean)) := ⟨List.mem_of_getElem? (i := 653) (by decide +kernel), good_of_word rfl⟩
theorem q_654 : z_in (.constantLong RX0 45 (-2)) := ⟨List.mem_of_getElem? (i := 654) (by decide +kernel), good_of_word rfl⟩
theorem q_655 : z_in (.methodLink RX0 47 yX0_testHolds) := ⟨List.mem_of_getElem? (i := 655) (by decide +kernel), good_of_word rfl⟩
theorem q_657 : z_in (.instanceMethod yX0_testHolds) := ⟨List.mem_of_getElem? (i := 657) (by decide +kernel), good_of_word rfl⟩
theorem q_658 : z_in (.code yX0_testHolds cX0_testHolds 4 (some .boolean)) := ⟨List.mem_of_getElem? (i := 658) (by decide +kernel), good_of_word rfl⟩
theorem q_659 : z_in (.methodLink RX0 60 yX0_numberBehind) := ⟨List.mem_of_getElem? (i := 659) (by decide +kernel), good_of_word rfl⟩
theorem q_661 : z_in (.instanceMethod yX0_numberBehind) := ⟨List.mem_of_getElem? (i := 661) (by decide +kernel), good_of_word rfl⟩
theorem q_662 : z_in (.code yX0_numberBehind cX0_numberBehind 2 (some .int)) := ⟨List.mem_of_getElem? (i := 662) (by decide +kernel), good_of_word rfl⟩
theorem q_663 : Cond.methodLinkNest RX0 73 yX11_isShip "PressedMen" ∈ lw_tbl := List.mem_of_getElem? (i := 663) (by decide +kernel)
theorem q_664 : z_in (.static yX11_isShip) := ⟨List.mem_of_getElem? (i := 664) (by decide +kernel), good_of_word rfl⟩
theorem q_665 : z_in (.code yX11_isShip cX11_isShip 1 (some .boolean)) := ⟨List.mem_of_getElem? (i := 665) (by decide +kernel), good_of_word rfl⟩
theorem q_666 : Cond.methodLinkNest RX0 51 yX11_asNumber "PressedMen" ∈ lw_tbl := List.mem_of_getElem? (i := 666) (by decide +kernel)
theorem q_667 : z_in (.methodLink RL 105 yX11_mayTruly) := ⟨List.mem_of_getElem? (i := 667) (by decide +kernel), good_of_word rfl⟩
theorem q_668 : z_in (.instanceMethod yX11_mayTruly) := ⟨List.mem_of_getElem? (i := 668) (by decide +kernel), good_of_word rfl⟩
theorem q_669 : z_in (.selects RX11 yX11_mayTruly yX11_mayTruly) := ⟨List.mem_of_getElem? (i := 669) (by decide +kernel), good_of_word rfl⟩
theorem q_670 : z_in (.code yX11_mayTruly cX11_mayTruly 2 (some .int)) := ⟨List.mem_of_getElem? (i := 670) (by decide +kernel), good_of_word rfl⟩
theorem q_671 : z_in (.methodLink RX11 248 yX11_mayInTruth) := ⟨List.mem_of_getElem? (i := 671) (by decide +kernel), good_of_word rfl⟩
theorem q_673 : z_in (.instanceMethod yX11_mayInTruth) := ⟨List.mem_of_getElem? (i := 673) (by decide +kernel), good_of_word rfl⟩
theorem q_674 : z_in (.code yX11_mayInTruth cX11_mayInTruth 2 (some .boolean)) := ⟨List.mem_of_getElem? (i := 674) (by decide +kernel), good_of_word rfl⟩
theorem q_675 : z_in (.methodLink RX11 429 yX11_holdsInTruth) := ⟨List.mem_of_getElem? (i := 675) (by decide +kernel), good_of_word rfl⟩
theorem q_677 : z_in (.instanceMethod yX11_holdsInTruth) := ⟨List.mem_of_getElem? (i := 677) (by decide +kernel), good_of_word rfl⟩
theorem q_678 : z_in (.code yX11_holdsInTruth cX11_holdsInTruth 4 (some .boolean)) := ⟨List.mem_of_getElem? (i := 678) (by decide +kernel), good_of_word rfl⟩
theorem q_679 : z_in (.methodLink RX11 433 yX11_isCoveredInTruth) := ⟨List.mem_of_getElem? (i := 679) (by decide +kernel), good_of_word rfl⟩
theorem q_681 : z_in (.instanceMethod yX11_isCoveredInTruth) := ⟨List.mem_of_getElem? (i := 681) (by decide +kernel), good_of_word rfl⟩
theorem q_682 : z_in (.code yX11_isCoveredInTruth cX11_isCoveredInTruth 4 (some .boolean)) := ⟨List.mem_of_getElem? (i := 682) (by decide +kernel), good_of_word rfl⟩
theorem q_683 : z_in (.methodLink RL 109 yX11_take) := ⟨List.mem_of_getElem? (i := 683) (by decide +kernel), good_of_word rfl⟩
theorem q_684 : z_in (.instanceMethod yX11_take) := ⟨List.mem_of_getElem? (i := 684) (by decide +kernel), good_of_word rfl⟩
theorem q_685 : z_in (.selects RX11 yX11_take yX11_take) := ⟨List.mem_of_getElem? (i := 685) (by decide +kernel), good_of_word rfl⟩
theorem q_686 : z_in (.code yX11_take cX11_take 5 (some .int)) := ⟨List.mem_of_getElem? (i := 686) (by decide +kernel), good_of_word rfl⟩
theorem q_687 : z_in (.methodLink RX11 251 yX11_isWithinReach) := ⟨List.mem_of_getElem? (i := 687) (by decide +kernel), good_of_word rfl⟩
theorem q_689 : z_in (.instanceMethod yX11_isWithinReach) := ⟨List.mem_of_getElem? (i := 689) (by decide +kernel), good_of_word rfl⟩
theorem q_690 : z_in (.code yX11_isWithinReach cX11_isWithinReach 2 (some .boolean)) := ⟨List.mem_of_getElem? (i := 690) (by decide +kernel), good_of_word rfl⟩
theorem q_691 : z_in (.methodLink RX11 293 yX11_isInShipAtHome) := ⟨List.mem_of_getElem? (i := 691) (by decide +kernel), good_of_word rfl⟩
theorem q_693 : z_in (.instanceMethod yX11_isInShipAtHome) := ⟨List.mem_of_getElem? (i := 693) (by decide +kernel), good_of_word rfl⟩
theorem q_694 : z_in (.code yX11_isInShipAtHome cX11_isInShipAtHome 3 (some .boolean)) := ⟨List.mem_of_getElem? (i := 694) (by decide +kernel), good_of_word rfl⟩
theorem q_695 : z_in (.methodLink RX11 405 yX11_isShip) := ⟨List.mem_of_getElem? (i := 695) (by decide +kernel), good_of_word rfl⟩
theorem q_696 : z_in (.methodLink RX11 408 yX11_isInShipOf) := ⟨List.mem_of_getElem? (i := 696) (by decide +kernel), good_of_word rfl⟩
theorem q_698 : z_in (.instanceMethod yX11_isInShipOf) := ⟨List.mem_of_getElem? (i := 698) (by decide +kernel), good_of_word rfl⟩
theorem q_699 : z_in (.code yX11_isInShipOf cX11_isInShipOf 4 (some .boolean)) := ⟨List.mem_of_getElem? (i := 699) (by decide +kernel), good_of_word rfl⟩
theorem q_700 : z_in (.classLink RX11 255 RX8) := ⟨List.mem_of_getElem? (i := 700) (by decide +kernel), good_of_word rfl⟩
theorem q_701 : z_in (.instantiable RX8 6) := ⟨List.mem_of_getElem? (i := 701) (by decide +kernel), good_of_word rfl⟩
theorem q_702 : z_in (.methodLink RX11 257 yX8_init) := ⟨List.mem_of_getElem? (i := 702) (by decide +kernel), good_of_word rfl⟩
theorem q_703 : z_in (.instanceMethod yX8_init) := ⟨List.mem_of_getElem? (i := 703) (by decide +kernel), good_of_word rfl⟩
theorem q_704 : z_in (.code yX8_init cX8_init 7 none) := ⟨List.mem_of_getElem? (i := 704) (by decide +kernel), good_of_word rfl⟩
theorem q_705 : z_in (.methodLink RX8 1 objectInit) := ⟨List.mem_of_getElem? (i := 705) (by decide +kernel), good_of_word rfl⟩
theorem q_706 : z_in (.fieldLink RX8 7 (TX8 0).1 (TX8 0).2.1 (TX8 0).2.2.1) := ⟨List.mem_of_getElem? (i := 706) (by decide +kernel), good_of_word rfl⟩
theorem q_707 : z_in (.fieldLink RX5 41 (TX8 0).1 (TX8 0).2.1 (TX8 0).2.2.1) := ⟨List.mem_of_getElem? (i := 707) (by decide +kernel), good_of_word rfl⟩
theorem q_708 : z_in (.fieldLink RX11 271 (TX8 0).1 (TX8 0).2.1 (TX8 0).2.2.1) := ⟨List.mem_of_getElem? (i := 708) (by decide +kernel), good_of_word rfl⟩
theorem q_709 : z_in (.fieldLink RX8 13 (TX8 1).1 (TX8 1).2.1 (TX8 1).2.2.1) := ⟨List.mem_of_getElem? (i := 709) (by decide +kernel), good_of_word rfl⟩
theorem q_710 : z_in (.fieldLink RX5 52 (TX8 1).1 (TX8 1).2.1 (TX8 1).2.2.1) := ⟨List.mem_of_getElem? (i := 710) (by decide +kernel), good_of_word rfl⟩
theorem q_711 : z_in (.fieldLink RX11 274 (TX8 1).1 (TX8 1).2.1 (TX8 1).2.2.1) := ⟨List.mem_of_getElem? (i := 711) (by decide +kernel), good_of_word rfl⟩
theorem q_712 : z_in (.fieldLink RX8 16 (TX8 2).1 (TX8 2).2.1 (TX8 2).2.2.1) := ⟨List.mem_of_getElem? (i := 712) (by decide +kernel), good_of_word rfl⟩
theorem q_713 : z_in (.fieldLink RX5 49 (TX8 2).1 (TX8 2).2.1 (TX8 2).2.2.1) := ⟨List.mem_of_getElem? (i := 713) (by decide +kernel), good_of_word rfl⟩
theorem q_714 : z_in (.fieldLink RX11 277 (TX8 2).1 (TX8 2).2.1 (TX8 2).2.2.1) := ⟨List.mem_of_getElem? (i := 714) (by decide +kernel), good_of_word rfl⟩
theorem q_715 : z_in (.fieldLink RX8 19 (TX8 3).1 (TX8 3).2.1 (TX8 3).2.2.1) := ⟨List.mem_of_getElem? (i := 715) (by decide +kernel), good_of_word rfl⟩
theorem q_716 : z_in (.fieldLink RX5 28 (TX8 3).1 (TX8 3).2.1 (TX8 3).2.2.1) := ⟨List.mem_of_getElem? (i := 716) (by decide +kernel), good_of_word rfl⟩
theorem q_717 : z_in (.fieldLink RX11 280 (TX8 3).1 (TX8 3).2.1 (TX8 3).2.2.1) := ⟨List.mem_of_getElem? (i := 717) (by decide +kernel), good_of_word rfl⟩
theorem q_718 : z_in (.fieldLink RX8 22 (TX8 4).1 (TX8 4).2.1 (TX8 4).2.2.1) := ⟨List.mem_of_getElem? (i := 718) (by decide +kernel), good_of_word rfl⟩
theorem q_719 : z_in (.fieldLink RX11 283 (TX8 4).1 (TX8 4).2.1 (TX8 4).2.2.1) := ⟨List.mem_of_getElem? (i := 719) (by decide +kernel), good_of_word rfl⟩
theorem q_720 : z_in (.fieldLink RX8 26 (TX8 5).1 (TX8 5).2.1 (TX8 5).2.2.1) := ⟨List.mem_of_getElem? (i := 720) (by decide +kernel), good_of_word rfl⟩
theorem q_721 : z_in (.fieldLink RX11 286 (TX8 5).1 (TX8 5).2.1 (TX8 5).2.2.1) := ⟨List.mem_of_getElem? (i := 721) (by decide +kernel), good_of_word rfl⟩
theorem q_735 : z_in (.methodLink RX11 264 yX5_add) := ⟨List.mem_of_getElem? (i := 735) (by decide +kernel), good_of_word rfl⟩
theorem q_736 : z_in (.instanceMethod yX5_add) := ⟨List.mem_of_getElem? (i := 736) (by decide +kernel), good_of_word rfl⟩
theorem q_737 : z_in (.selects RX5 yX5_add yX5_add) := ⟨List.mem_of_getElem? (i := 737) (by decide +kernel), good_of_word rfl⟩
theorem q_738 : z_in (.code yX5_add cX5_add 2 none) := ⟨List.mem_of_getElem? (i := 738) (by decide +kernel), good_of_word rfl⟩
theorem q_739 : z_in (.methodLink RL 113 yX11_taking) := ⟨List.mem_of_getElem? (i := 739) (by decide +kernel), good_of_word rfl⟩
theorem q_740 : z_in (.instanceMethod yX11_taking) := ⟨List.mem_of_getElem? (i := 740) (by decide +kernel), good_of_word rfl⟩
theorem q_741 : z_in (.selects RX11 yX11_taking yX11_taking) := ⟨List.mem_of_getElem? (i := 741) (by decide +kernel), good_of_word rfl⟩
theorem q_742 : z_in (.code yX11_taking cX11_taking 4 (some .int)) := ⟨List.mem_of_getElem? (i := 742) (by decide +kernel), good_of_word rfl⟩
theorem q_743 : z_in (.methodLink RX11 267 yX5_find) := ⟨List.mem_of_getElem? (i := 743) (by decide +kernel), good_of_word rfl⟩
theorem q_744 : z_in (.instanceMethod yX5_find) := ⟨List.mem_of_getElem? (i := 744) (by decide +kernel), good_of_word rfl⟩
theorem q_745 : z_in (.selects RX5 yX5_find yX5_find) := ⟨List.mem_of_getElem? (i := 745) (by decide +kernel), good_of_word rfl⟩
theorem q_746 : z_in (.code yX5_find cX5_find 2 (some (.object "PressedMen$Taking"))) := ⟨List.mem_of_getElem? (i := 746) (by decide +kernel), good_of_word rfl⟩
theorem q_747 : z_in (.methodLink RL 117 yX11_wronged) := ⟨List.mem_of_getElem? (i := 747) (by decide +kernel), good_of_word rfl⟩
theorem q_748 : z_in (.instanceMethod yX11_wronged) := ⟨List.mem_of_getElem? (i := 748) (by decide +kernel), good_of_word rfl⟩
theorem q_749 : z_in (.selects RX11 yX11_wronged yX11_wronged) := ⟨List.mem_of_getElem? (i := 749) (by decide +kernel), good_of_word rfl⟩
theorem q_750 : z_in (.code yX11_wronged cX11_wronged 3 (some .int)) := ⟨List.mem_of_getElem? (i := 750) (by decide +kernel), good_of_word rfl⟩
theorem q_751 : z_in (.methodLink RX11 289 yX11_isWronged) := ⟨List.mem_of_getElem? (i := 751) (by decide +kernel), good_of_word rfl⟩
theorem q_753 : z_in (.instanceMethod yX11_isWronged) := ⟨List.mem_of_getElem? (i := 753) (by decide +kernel), good_of_word rfl⟩
theorem q_754 : z_in (.code yX11_isWronged cX11_isWronged 2 (some .boolean)) := ⟨List.mem_of_getElem? (i := 754) (by decide +kernel), good_of_word rfl⟩
theorem q_755 : z_in (.methodLink RL 121 yX11_wrongedMan) := ⟨List.mem_of_getElem? (i := 755) (by decide +kernel), good_of_word rfl⟩
theorem q_756 : z_in (.instanceMethod yX11_wrongedMan) := ⟨List.mem_of_getElem? (i := 756) (by decide +kernel), good_of_word rfl⟩
theorem q_757 : z_in (.selects RX11 yX11_wrongedMan yX11_wrongedMan) := ⟨List.mem_of_getElem? (i := 757) (by decide +kernel), good_of_word rfl⟩
theorem q_758 : z_in (.code yX11_wrongedMan cX11_wrongedMan 4 (some .int)) := ⟨List.mem_of_getElem? (i := 758) (by decide +kernel), good_of_word rfl⟩
theorem q_759 : z_in (.methodLink RL 125 yX11_letGo) := ⟨List.mem_of_getElem? (i := 759) (by decide +kernel), good_of_word rfl⟩
theorem q_760 : z_in (.instanceMethod yX11_letGo) := ⟨List.mem_of_getElem? (i := 760) (by decide +kernel), good_of_word rfl⟩
theorem q_761 : z_in (.selects RX11 yX11_letGo yX11_letGo) := ⟨List.mem_of_getElem? (i := 761) (by decide +kernel), good_of_word rfl⟩
theorem q_762 : z_in (.code yX11_letGo cX11_letGo 3 (some .int)) := ⟨List.mem_of_getElem? (i := 762) (by decide +kernel), good_of_word rfl⟩
theorem q_763 : z_in (.methodLink RL 129 yX11_quiet) := ⟨List.mem_of_getElem? (i := 763) (by decide +kernel), good_of_word rfl⟩
theorem q_764 : z_in (.instanceMethod yX11_quiet) := ⟨List.mem_of_getElem? (i := 764) (by decide +kernel), good_of_word rfl⟩
theorem q_765 : z_in (.selects RX11 yX11_quiet yX11_quiet) := ⟨List.mem_of_getElem? (i := 765) (by decide +kernel), good_of_word rfl⟩
theorem q_766 : z_in (.code yX11_quiet cX11_quiet 2 (some .int)) := ⟨List.mem_of_getElem? (i := 766) (by decide +kernel), good_of_word rfl⟩
theorem q_767 : z_in (.methodLink RX11 296 yX5_takingsInNews) := ⟨List.mem_of_getElem? (i := 767) (by decide +kernel), good_of_word rfl⟩
theorem q_768 : z_in (.instanceMethod yX5_takingsInNews) := ⟨List.mem_of_getElem? (i := 768) (by decide +kernel), good_of_word rfl⟩
theorem q_769 : z_in (.selects RX5 yX5_takingsInNews yX5_takingsInNews) := ⟨List.mem_of_getElem? (i := 769) (by decide +kernel), good_of_word rfl⟩
theorem q_770 : z_in (.code yX5_takingsInNews cX5_takingsInNews 3 (some .int)) := ⟨List.mem_of_getElem? (i := 770) (by decide +kernel), good_of_word rfl⟩
theorem q_771 : z_in (.methodLink RX11 299 yX5_hush) := ⟨List.mem_of_getElem? (i := 771) (by decide +kernel), good_of_word rfl⟩
theorem q_772 : z_in (.instanceMethod yX5_hush) := ⟨List.mem_of_getElem? (i := 772) (by decide +kernel), good_of_word rfl⟩
theorem q_773 : z_in (.selects RX5 yX5_hush yX5_hush) := ⟨List.mem_of_getElem? (i := 773) (by decide +kernel), good_of_word rfl⟩
theorem q_774 : z_in (.code yX5_hush cX5_hush 1 none) := ⟨List.mem_of_getElem? (i := 774) (by decide +kernel), good_of_word rfl⟩
theorem q_775 : z_in (.methodLink RL 133 yX11_heard) := ⟨List.mem_of_getElem? (i := 775) (by decide +kernel), good_of_word rfl⟩
theorem q_776 : z_in (.instanceMethod yX11_heard) := ⟨List.mem_of_getElem? (i := 776) (by decide +kernel), good_of_word rfl⟩
theorem q_777 : z_in (.selects RX11 yX11_heard yX11_heard) := ⟨List.mem_of_getElem? (i := 777) (by decide +kernel), good_of_word rfl⟩
theorem q_778 : z_in (.code yX11_heard cX11_heard 3 (some .int)) := ⟨List.mem_of_getElem? (i := 778) (by decide +kernel), good_of_word rfl⟩
theorem q_779 : z_in (.methodLink RL 137 yX11_tender) := ⟨List.mem_of_getElem? (i := 779) (by decide +kernel), good_of_word rfl⟩
theorem q_780 : z_in (.instanceMethod yX11_tender) := ⟨List.mem_of_getElem? (i := 780) (by decide +kernel), good_of_word rfl⟩
theorem q_781 : z_in (.selects RX11 yX11_tender yX11_tender) := ⟨List.mem_of_getElem? (i := 781) (by decide +kernel), good_of_word rfl⟩
theorem q_782 : z_in (.code yX11_tender cX11_tender 4 (some .int)) := ⟨List.mem_of_getElem? (i := 782) (by decide +kernel), good_of_word rfl⟩
theorem q_783 : z_in (.methodLink RL 141 yX11_met) := ⟨List.mem_of_getElem? (i := 783) (by decide +kernel), good_of_word rfl⟩
theorem q_784 : z_in (.instanceMethod yX11_met) := ⟨List.mem_of_getElem? (i := 784) (by decide +kernel), good_of_word rfl⟩
theorem q_785 : z_in (.selects RX11 yX11_met yX11_met) := ⟨List.mem_of_getElem? (i := 785) (by decide +kernel), good_of_word rfl⟩
theorem q_786 : z_in (.code yX11_met cX11_met 3 (some .int)) := ⟨List.mem_of_getElem? (i := 786) (by decide +kernel), good_of_word rfl⟩
theorem q_787 : z_in (.methodLink RX11 302 yX11_countTheTakeable) := ⟨List.mem_of_getElem? (i := 787) (by decide +kernel), good_of_word rfl⟩
theorem q_789 : z_in (.instanceMethod yX11_countTheTakeable) := ⟨List.mem_of_getElem? (i := 789) (by decide +kernel), good_of_word rfl⟩
theorem q_790 : z_in (.code yX11_countTheTakeable cX11_countTheTakeable 3 none) := ⟨List.mem_of_getElem? (i := 790) (by decide +kernel), good_of_word rfl⟩
theorem q_791 : z_in (.methodLink RX11 439 yX1_forgetMen) := ⟨List.mem_of_getElem? (i := 791) (by decide +kernel), good_of_word rfl⟩
theorem q_792 : z_in (.instanceMethod yX1_forgetMen) := ⟨List.mem_of_getElem? (i := 792) (by decide +kernel), good_of_word rfl⟩
theorem q_793 : z_in (.selects RX1 yX1_forgetMen yX1_forgetMen) := ⟨List.mem_of_getElem? (i := 793) (by decide +kernel), good_of_word rfl⟩
theorem q_794 : z_in (.code yX1_forgetMen cX1_forgetMen 1 none) := ⟨List.mem_of_getElem? (i := 794) (by decide +kernel), good_of_word rfl⟩
theorem q_795 : z_in (.methodLink RX1 25 yJ7_fill_53178) := ⟨List.mem_of_getElem? (i := 795) (by decide +kernel), good_of_word rfl⟩
theorem q_796 : z_in (.methodLink RX11 442 yX1_addMan) := ⟨List.mem_of_getElem? (i := 796) (by decide +kernel), good_of_word rfl⟩
theorem q_797 : z_in (.instanceMethod yX1_addMan) := ⟨List.mem_of_getElem? (i := 797) (by decide +kernel), good_of_word rfl⟩
theorem q_798 : z_in (.selects RX1 yX1_addMan yX1_addMan) := ⟨List.mem_of_getElem? (i := 798) (by decide +kernel), good_of_word rfl⟩
theorem q_799 : z_in (.code yX1_addMan cX1_addMan 2 none) := ⟨List.mem_of_getElem? (i := 799) (by decide +kernel), good_of_word rfl⟩
theorem q_800 : z_in (.methodLink RX1 31 yX10_has) := ⟨List.mem_of_getElem? (i := 800) (by decide +kernel), good_of_word rfl⟩
theorem q_801 : z_in (.methodLink RX11 305 yX1_mostMet) := ⟨List.mem_of_getElem? (i := 801) (by decide +kernel), good_of_word rfl⟩
theorem q_802 : z_in (.instanceMethod yX1_mostMet) := ⟨List.mem_of_getElem? (i := 802) (by decide +kernel), good_of_word rfl⟩
theorem q_803 : z_in (.selects RX1 yX1_mostMet yX1_mostMet) := ⟨List.mem_of_getElem? (i := 803) (by decide +kernel), good_of_word rfl⟩
theorem q_804 : z_in (.code yX1_mostMet cX1_mostMet 5 (some .int)) := ⟨List.mem_of_getElem? (i := 804) (by decide +kernel), good_of_word rfl⟩
theorem q_805 : z_in (.methodLink RL 145 yX11_laid) := ⟨List.mem_of_getElem? (i := 805) (by decide +kernel), good_of_word rfl⟩
theorem q_806 : z_in (.instanceMethod yX11_laid) := ⟨List.mem_of_getElem? (i := 806) (by decide +kernel), good_of_word rfl⟩
theorem q_807 : z_in (.selects RX11 yX11_laid yX11_laid) := ⟨List.mem_of_getElem? (i := 807) (by decide +kernel), good_of_word rfl⟩
theorem q_808 : z_in (.code yX11_laid cX11_laid 5 (some .int)) := ⟨List.mem_of_getElem? (i := 808) (by decide +kernel), good_of_word rfl⟩
theorem q_809 : z_in (.methodLink RX11 308 yX1_lay) := ⟨List.mem_of_getElem? (i := 809) (by decide +kernel), good_of_word rfl⟩
theorem q_810 : z_in (.instanceMethod yX1_lay) := ⟨List.mem_of_getElem? (i := 810) (by decide +kernel), good_of_word rfl⟩
theorem q_811 : z_in (.selects RX1 yX1_lay yX1_lay) := ⟨List.mem_of_getElem? (i := 811) (by decide +kernel), good_of_word rfl⟩
theorem q_812 : z_in (.code yX1_lay cX1_lay 8 none) := ⟨List.mem_of_getElem? (i := 812) (by decide +kernel), good_of_word rfl⟩
theorem q_813 : z_in (.methodLink RX1 41 yX1_mostMet) := ⟨List.mem_of_getElem? (i := 813) (by decide +kernel), good_of_word rfl⟩
theorem q_814 : z_in (.methodLink RX1 45 yX1_findFirstWalks) := ⟨List.mem_of_getElem? (i := 814) (by decide +kernel), good_of_word rfl⟩
theorem q_816 : z_in (.instanceMethod yX1_findFirstWalks) := ⟨List.mem_of_getElem? (i := 816) (by decide +kernel), good_of_word rfl⟩
theorem q_817 : z_in (.code yX1_findFirstWalks cX1_findFirstWalks 5 none) := ⟨List.mem_of_getElem? (i := 817) (by decide +kernel), good_of_word rfl⟩
theorem q_818 : z_in (.methodLink RX1 53 yX1_walkOut) := ⟨List.mem_of_getElem? (i := 818) (by decide +kernel), good_of_word rfl⟩
theorem q_820 : z_in (.instanceMethod yX1_walkOut) := ⟨List.mem_of_getElem? (i := 820) (by decide +kernel), good_of_word rfl⟩
theorem q_821 : z_in (.code yX1_walkOut cX1_walkOut 9 (some .boolean)) := ⟨List.mem_of_getElem? (i := 821) (by decide +kernel), good_of_word rfl⟩
theorem q_822 : z_in (.methodLink RX1 78 yX10_isStep) := ⟨List.mem_of_getElem? (i := 822) (by decide +kernel), good_of_word rfl⟩
theorem q_823 : z_in (.instanceMethod yX10_isStep) := ⟨List.mem_of_getElem? (i := 823) (by decide +kernel), good_of_word rfl⟩
theorem q_824 : z_in (.selects RX10 yX10_isStep yX10_isStep) := ⟨List.mem_of_getElem? (i := 824) (by decide +kernel), good_of_word rfl⟩
theorem q_825 : z_in (.code yX10_isStep cX10_isStep 3 (some .boolean)) := ⟨List.mem_of_getElem? (i := 825) (by decide +kernel), good_of_word rfl⟩
theorem q_826 : z_in (.methodLink RX1 75 yX1_kindWalked) := ⟨List.mem_of_getElem? (i := 826) (by decide +kernel), good_of_word rfl⟩
theorem q_828 : z_in (.instanceMethod yX1_kindWalked) := ⟨List.mem_of_getElem? (i := 828) (by decide +kernel), good_of_word rfl⟩
theorem q_829 : z_in (.code yX1_kindWalked cX1_kindWalked 4 (some .int)) := ⟨List.mem_of_getElem? (i := 829) (by decide +kernel), good_of_word rfl⟩
theorem q_830 : z_in (.methodLink RX1 82 yX1_streetOf) := ⟨List.mem_of_getElem? (i := 830) (by decide +kernel), good_of_word rfl⟩
theorem q_831 : z_in (.instanceMethod yX1_streetOf) := ⟨List.mem_of_getElem? (i := 831) (by decide +kernel), good_of_word rfl⟩
theorem q_832 : z_in (.selects RX1 yX1_streetOf yX1_streetOf) := ⟨List.mem_of_getElem? (i := 832) (by decide +kernel), good_of_word rfl⟩
theorem q_833 : z_in (.code yX1_streetOf cX1_streetOf 3 (some .int)) := ⟨List.mem_of_getElem? (i := 833) (by decide +kernel), good_of_word rfl⟩
theorem q_834 : z_in (.methodLink RX1 64 yJ9_min_7cf53) := ⟨List.mem_of_getElem? (i := 834) (by decide +kernel), good_of_word rfl⟩
theorem q_835 : z_in (.methodLink RX1 49 yX1_firstMate) := ⟨List.mem_of_getElem? (i := 835) (by decide +kernel), good_of_word rfl⟩
theorem q_837 : z_in (.instanceMethod yX1_firstMate) := ⟨List.mem_of_getElem? (i := 837) (by decide +kernel), good_of_word rfl⟩
theorem q_838 : z_in (.code yX1_firstMate cX1_firstMate 6 (some .int)) := ⟨List.mem_of_getElem? (i := 838) (by decide +kernel), good_of_word rfl⟩
theorem q_839 : z_in (.methodLink RX1 57 yX1_menMet) := ⟨List.mem_of_getElem? (i := 839) (by decide +kernel), good_of_word rfl⟩
theorem q_841 : z_in (.instanceMethod yX1_menMet) := ⟨List.mem_of_getElem? (i := 841) (by decide +kernel), good_of_word rfl⟩
theorem q_842 : z_in (.code yX1_menMet cX1_menMet 2 (some .int)) := ⟨List.mem_of_getElem? (i := 842) (by decide +kernel), good_of_word rfl⟩
theorem q_843 : z_in (.methodLink RX1 60 yX1_menMetByBoth) := ⟨List.mem_of_getElem? (i := 843) (by decide +kernel), good_of_word rfl⟩
theorem q_845 : z_in (.instanceMethod yX1_menMetByBoth) := ⟨List.mem_of_getElem? (i := 845) (by decide +kernel), good_of_word rfl⟩
theorem q_846 : z_in (.code yX1_menMetByBoth cX1_menMetByBoth 8 (some .int)) := ⟨List.mem_of_getElem? (i := 846) (by decide +kernel), good_of_word rfl⟩
theorem q_847 : z_in (.methodLink RX1 69 yJ9_max_7cf53) := ⟨List.mem_of_getElem? (i := 847) (by decide +kernel), good_of_word rfl⟩
theorem q_848 : z_in (.methodLink RX1 72 yX10_hops) := ⟨List.mem_of_getElem? (i := 848) (by decide +kernel), good_of_word rfl⟩
theorem q_849 : z_in (.methodLink RX11 311 yX1_streetOf) := ⟨List.mem_of_getElem? (i := 849) (by decide +kernel), good_of_word rfl⟩
theorem q_850 : z_in (.methodLink RL 150 yX11_ship) := ⟨List.mem_of_getElem? (i := 850) (by decide +kernel), good_of_word rfl⟩
theorem q_851 : z_in (.instanceMethod yX11_ship) := ⟨List.mem_of_getElem? (i := 851) (by decide +kernel), good_of_word rfl⟩
theorem q_852 : z_in (.selects RX11 yX11_ship yX11_ship) := ⟨List.mem_of_getElem? (i := 852) (by decide +kernel), good_of_word rfl⟩
theorem q_853 : z_in (.code yX11_ship cX11_ship 5 (some .int)) := ⟨List.mem_of_getElem? (i := 853) (by decide +kernel), good_of_word rfl⟩
theorem q_854 : z_in (.instantiable RX6 5) := ⟨List.mem_of_getElem? (i := 854) (by decide +kernel), good_of_word rfl⟩
theorem q_855 : z_in (.methodLink RX11 317 yX6_init) := ⟨List.mem_of_getElem? (i := 855) (by decide +kernel), good_of_word rfl⟩
theorem q_856 : z_in (.instanceMethod yX6_init) := ⟨List.mem_of_getElem? (i := 856) (by decide +kernel), good_of_word rfl⟩
theorem q_857 : z_in (.code yX6_init cX6_init 5 none) := ⟨List.mem_of_getElem? (i := 857) (by decide +kernel), good_of_word rfl⟩
theorem q_858 : z_in (.methodLink RX6 1 objectInit) := ⟨List.mem_of_getElem? (i := 858) (by decide +kernel), good_of_word rfl⟩
theorem q_859 : z_in (.fieldLink RX6 13 (TX6 0).1 (TX6 0).2.1 (TX6 0).2.2.1) := ⟨List.mem_of_getElem? (i := 859) (by decide +kernel), good_of_word rfl⟩
theorem q_860 : z_in (.fieldLink RX11 324 (TX6 0).1 (TX6 0).2.1 (TX6 0).2.2.1) := ⟨List.mem_of_getElem? (i := 860) (by decide +kernel), good_of_word rfl⟩
theorem q_861 : z_in (.fieldLink RX6 17 (TX6 1).1 (TX6 1).2.1 (TX6 1).2.2.1) := ⟨List.mem_of_getElem? (i := 861) (by decide +kernel), good_of_word rfl⟩
theorem q_862 : z_in (.fieldLink RX11 327 (TX6 1).1 (TX6 1).2.1 (TX6 1).2.2.1) := ⟨List.mem_of_getElem? (i := 862) (by decide +kernel), good_of_word rfl⟩
theorem q_863 : z_in (.fieldLink RX6 20 (TX6 2).1 (TX6 2).2.1 (TX6 2).2.2.1) := ⟨List.mem_of_getElem? (i := 863) (by decide +kernel), good_of_word rfl⟩
theorem q_864 : z_in (.fieldLink RX11 330 (TX6 2).1 (TX6 2).2.1 (TX6 2).2.2.1) := ⟨List.mem_of_getElem? (i := 864) (by decide +kernel), good_of_word rfl⟩
theorem q_865 : z_in (.fieldLink RX6 23 (TX6 3).1 (TX6 3).2.1 (TX6 3).2.2.1) := ⟨List.mem_of_getElem? (i := 865) (by decide +kernel), good_of_word rfl⟩
theorem q_866 : z_in (.fieldLink RX11 333 (TX6 3).1 (TX6 3).2.1 (TX6 3).2.2.1) := ⟨List.mem_of_getElem? (i := 866) (by decide +kernel), good_of_word rfl⟩
theorem q_867 : z_in (.fieldLink RX6 7 (TX6 4).1 (TX6 4).2.1 (TX6 4).2.2.1) := ⟨List.mem_of_getElem? (i := 867) (by decide +kernel), good_of_word rfl⟩
theorem q_868 : z_in (.fieldLink RX11 336 (TX6 4).1 (TX6 4).2.1 (TX6 4).2.2.1) := ⟨List.mem_of_getElem? (i := 868) (by decide +kernel), good_of_word rfl⟩
theorem q_880 : z_in (.methodLink RL 154 yX11_of) := ⟨List.mem_of_getElem? (i := 880) (by decide +kernel), good_of_word rfl⟩
theorem q_881 : z_in (.instanceMethod yX11_of) := ⟨List.mem_of_getElem? (i := 881) (by decide +kernel), good_of_word rfl⟩
theorem q_882 : z_in (.selects RX11 yX11_of yX11_of) := ⟨List.mem_of_getElem? (i := 882) (by decide +kernel), good_of_word rfl⟩
theorem q_883 : z_in (.code yX11_of cX11_of 4 (some .int)) := ⟨List.mem_of_getElem? (i := 883) (by decide +kernel), good_of_word rfl⟩
theorem q_884 : z_in (.methodLink RX11 339 yX11_seamenIn) := ⟨List.mem_of_getElem? (i := 884) (by decide +kernel), good_of_word rfl⟩
theorem q_886 : z_in (.instanceMethod yX11_seamenIn) := ⟨List.mem_of_getElem? (i := 886) (by decide +kernel), good_of_word rfl⟩
theorem q_887 : z_in (.code yX11_seamenIn cX11_seamenIn 4 (some .int)) := ⟨List.mem_of_getElem? (i := 887) (by decide +kernel), good_of_word rfl⟩
theorem q_888 : z_in (.methodLink RX11 412 yX3_isSeaman) := ⟨List.mem_of_getElem? (i := 888) (by decide +kernel), good_of_word rfl⟩
theorem q_889 : z_in (.instanceMethod yX3_isSeaman) := ⟨List.mem_of_getElem? (i := 889) (by decide +kernel), good_of_word rfl⟩
theorem q_890 : z_in (.selects RX3 yX3_isSeaman yX3_isSeaman) := ⟨List.mem_of_getElem? (i := 890) (by decide +kernel), good_of_word rfl⟩
theorem q_891 : z_in (.code yX3_isSeaman cX3_isSeaman 1 (some .boolean)) := ⟨List.mem_of_getElem? (i := 891) (by decide +kernel), good_of_word rfl⟩
theorem q_892 : z_in (.methodLink RL 158 yX11_spare) := ⟨List.mem_of_getElem? (i := 892) (by decide +kernel), good_of_word rfl⟩
theorem q_893 : z_in (.instanceMethod yX11_spare) := ⟨List.mem_of_getElem? (i := 893) (by decide +kernel), good_of_word rfl⟩
theorem q_894 : z_in (.selects RX11 yX11_spare yX11_spare) := ⟨List.mem_of_getElem? (i := 894) (by decide +kernel), good_of_word rfl⟩
theorem q_895 : z_in (.code yX11_spare cX11_spare 4 (some .int)) := ⟨List.mem_of_getElem? (i := 895) (by decide +kernel), good_of_word rfl⟩
theorem q_896 : z_in (.methodLink RX11 342 yX11_isWeather) := ⟨List.mem_of_getElem? (i := 896) (by decide +kernel), good_of_word rfl⟩
theorem q_897 : z_in (.static yX11_isWeather) := ⟨List.mem_of_getElem? (i := 897) (by decide +kernel), good_of_word rfl⟩
theorem q_898 : z_in (.code yX11_isWeather cX11_isWeather 1 (some .boolean)) := ⟨List.mem_of_getElem? (i := 898) (by decide +kernel), good_of_word rfl⟩
theorem q_899 : z_in (.methodLink RX11 345 yX11_spareOf) := ⟨List.mem_of_getElem? (i := 899) (by decide +kernel), good_of_word rfl⟩
theorem q_900 : z_in (.static yX11_spareOf) := ⟨List.mem_of_getElem? (i := 900) (by decide +kernel), good_of_word rfl⟩
theorem q_901 : z_in (.code yX11_spareOf cX11_spareOf 3 (some .int)) := ⟨List.mem_of_getElem? (i := 901) (by decide +kernel), good_of_word rfl⟩
theorem q_902 : z_in (.methodLink RL 162 yX11_board) := ⟨List.mem_of_getElem? (i := 902) (by decide +kernel), good_of_word rfl⟩
theorem q_903 : z_in (.instanceMethod yX11_board) := ⟨List.mem_of_getElem? (i := 903) (by decide +kernel), good_of_word rfl⟩
theorem q_904 : z_in (.selects RX11 yX11_board yX11_board) := ⟨List.mem_of_getElem? (i := 904) (by decide +kernel), good_of_word rfl⟩
theorem q_905 : z_in (.code yX11_board cX11_board 6 (some .int)) := ⟨List.mem_of_getElem? (i := 905) (by decide +kernel), good_of_word rfl⟩
theorem q_906 : z_in (.methodLink RL 166 yX11_turn) := ⟨List.mem_of_getElem? (i := 906) (by decide +kernel), good_of_word rfl⟩
theorem q_907 : z_in (.instanceMethod yX11_turn) := ⟨List.mem_of_getElem? (i := 907) (by decide +kernel), good_of_word rfl⟩
theorem q_908 : z_in (.selects RX11 yX11_turn yX11_turn) := ⟨List.mem_of_getElem? (i := 908) (by decide +kernel), good_of_word rfl⟩
theorem q_909 : z_in (.code yX11_turn cX11_turn 6 (some .int)) := ⟨List.mem_of_getElem? (i := 909) (by decide +kernel), good_of_word rfl⟩
theorem q_910 : z_in (.methodLink RL 170 yX11_notAshore) := ⟨List.mem_of_getElem? (i := 910) (by decide +kernel), good_of_word rfl⟩
theorem q_911 : z_in (.instanceMethod yX11_notAshore) := ⟨List.mem_of_getElem? (i := 911) (by decide +kernel), good_of_word rfl⟩
theorem q_912 : z_in (.selects RX11 yX11_notAshore yX11_notAshore) := ⟨List.mem_of_getElem? (i := 912) (by decide +kernel), good_of_word rfl⟩
theorem q_913 : z_in (.code yX11_notAshore cX11_notAshore 4 (some .int)) := ⟨List.mem_of_getElem? (i := 913) (by decide +kernel), good_of_word rfl⟩
theorem q_914 : z_in (.methodLink RX11 352 yX3_tidesOffShore) := ⟨List.mem_of_getElem? (i := 914) (by decide +kernel), good_of_word rfl⟩
theorem q_915 : z_in (.instanceMethod yX3_tidesOffShore) := ⟨List.mem_of_getElem? (i := 915) (by decide +kernel), good_of_word rfl⟩
theorem q_916 : z_in (.selects RX3 yX3_tidesOffShore yX3_tidesOffShore) := ⟨List.mem_of_getElem? (i := 916) (by decide +kernel), good_of_word rfl⟩
theorem q_917 : z_in (.code yX3_tidesOffShore cX3_tidesOffShore 4 (some .int)) := ⟨List.mem_of_getElem? (i := 917) (by decide +kernel), good_of_word rfl⟩
theorem q_918 : Cond.methodLinkNest RX3 59 yX11_isAshore "PressedMen" ∈ lw_tbl := List.mem_of_getElem? (i := 918) (by decide +kernel)
theorem q_919 : z_in (.methodLink RL 174 yX11_taken) := ⟨List.mem_of_getElem? (i := 919) (by decide +kernel), good_of_word rfl⟩
theorem q_920 : z_in (.instanceMethod yX11_taken) := ⟨List.mem_of_getElem? (i := 920) (by decide +kernel), good_of_word rfl⟩
theorem q_921 : z_in (.selects RX11 yX11_taken yX11_taken) := ⟨List.mem_of_getElem? (i := 921) (by decide +kernel), good_of_word rfl⟩
theorem q_922 : z_in (.code yX11_taken cX11_taken 4 (some .int)) := ⟨List.mem_of_getElem? (i := 922) (by decide +kernel), good_of_word rfl⟩
theorem q_923 : z_in (.methodLink RX11 355 yX11_kingsAtHome) := ⟨List.mem_of_getElem? (i := 923) (by decide +kernel), good_of_word rfl⟩
theorem q_925 : z_in (.instanceMethod yX11_kingsAtHome) := ⟨List.mem_of_getElem? (i := 925) (by decide +kernel), good_of_word rfl⟩
theorem q_926 : z_in (.code yX11_kingsAtHome cX11_kingsAtHome 3 (some .int)) := ⟨List.mem_of_getElem? (i := 926) (by decide +kernel), good_of_word rfl⟩
theorem q_927 : z_in (.methodLink RX11 358 yX11_musterLevy) := ⟨List.mem_of_getElem? (i := 927) (by decide +kernel), good_of_word rfl⟩
theorem q_929 : z_in (.instanceMethod yX11_musterLevy) := ⟨List.mem_of_getElem? (i := 929) (by decide +kernel), good_of_word rfl⟩
theorem q_930 : z_in (.code yX11_musterLevy cX11_musterLevy 6 none) := ⟨List.mem_of_getElem? (i := 930) (by decide +kernel), good_of_word rfl⟩
theorem q_931 : z_in (.methodLink RX11 445 yX2_begin) := ⟨List.mem_of_getElem? (i := 931) (by decide +kernel), good_of_word rfl⟩
theorem q_932 : z_in (.instanceMethod yX2_begin) := ⟨List.mem_of_getElem? (i := 932) (by decide +kernel), good_of_word rfl⟩
theorem q_933 : z_in (.selects RX2 yX2_begin yX2_begin) := ⟨List.mem_of_getElem? (i := 933) (by decide +kernel), good_of_word rfl⟩
theorem q_934 : z_in (.code yX2_begin cX2_begin 3 none) := ⟨List.mem_of_getElem? (i := 934) (by decide +kernel), good_of_word rfl⟩
theorem q_935 : z_in (.methodLink RX11 448 yX2_addCrew) := ⟨List.mem_of_getElem? (i := 935) (by decide +kernel), good_of_word rfl⟩
theorem q_936 : z_in (.instanceMethod yX2_addCrew) := ⟨List.mem_of_getElem? (i := 936) (by decide +kernel), good_of_word rfl⟩
theorem q_937 : z_in (.selects RX2 yX2_addCrew yX2_addCrew) := ⟨List.mem_of_getElem? (i := 937) (by decide +kernel), good_of_word rfl⟩
theorem q_938 : z_in (.code yX2_addCrew cX2_addCrew 3 none) := ⟨List.mem_of_getElem? (i := 938) (by decide +kernel), good_of_word rfl⟩
theorem q_939 : z_in (.methodLink RX11 451 yX2_addSpare) := ⟨List.mem_of_getElem? (i := 939) (by decide +kernel), good_of_word rfl⟩
theorem q_940 : z_in (.instanceMethod yX2_addSpare) := ⟨List.mem_of_getElem? (i := 940) (by decide +kernel), good_of_word rfl⟩
theorem q_941 : z_in (.selects RX2 yX2_addSpare yX2_addSpare) := ⟨List.mem_of_getElem? (i := 941) (by decide +kernel), good_of_word rfl⟩
theorem q_942 : z_in (.code yX2_addSpare cX2_addSpare 3 none) := ⟨List.mem_of_getElem? (i := 942) (by decide +kernel), good_of_word rfl⟩
theorem q_943 : z_in (.methodLink RX2 24 yJ9_min_7cf53) := ⟨List.mem_of_getElem? (i := 943) (by decide +kernel), good_of_word rfl⟩
theorem q_944 : z_in (.methodLink RX11 361 yX11_leastTaken) := ⟨List.mem_of_getElem? (i := 944) (by decide +kernel), good_of_word rfl⟩
theorem q_946 : z_in (.instanceMethod yX11_leastTaken) := ⟨List.mem_of_getElem? (i := 946) (by decide +kernel), good_of_word rfl⟩
theorem q_947 : z_in (.code yX11_leastTaken cX11_leastTaken 5 (some .int)) := ⟨List.mem_of_getElem? (i := 947) (by decide +kernel), good_of_word rfl⟩
theorem q_948 : z_in (.methodLink RX11 454 yX2_leastFor) := ⟨List.mem_of_getElem? (i := 948) (by decide +kernel), good_of_word rfl⟩
theorem q_949 : z_in (.instanceMethod yX2_leastFor) := ⟨List.mem_of_getElem? (i := 949) (by decide +kernel), good_of_word rfl⟩
theorem q_950 : z_in (.selects RX2 yX2_leastFor yX2_leastFor) := ⟨List.mem_of_getElem? (i := 950) (by decide +kernel), good_of_word rfl⟩
theorem q_951 : z_in (.code yX2_leastFor cX2_leastFor 5 (some .int)) := ⟨List.mem_of_getElem? (i := 951) (by decide +kernel), good_of_word rfl⟩
theorem q_952 : z_in (.methodLink RX2 30 yJ9_max_7cf53) := ⟨List.mem_of_getElem? (i := 952) (by decide +kernel), good_of_word rfl⟩
theorem q_953 : z_in (.methodLink RL 178 yX11_fleet) := ⟨List.mem_of_getElem? (i := 953) (by decide +kernel), good_of_word rfl⟩
theorem q_954 : z_in (.instanceMethod yX11_fleet) := ⟨List.mem_of_getElem? (i := 954) (by decide +kernel), good_of_word rfl⟩
theorem q_955 : z_in (.selects RX11 yX11_fleet yX11_fleet) := ⟨List.mem_of_getElem? (i := 955) (by decide +kernel), good_of_word rfl⟩
theorem q_956 : z_in (.code yX11_fleet cX11_fleet 9 (some .int)) := ⟨List.mem_of_getElem? (i := 956) (by decide +kernel), good_of_word rfl⟩
theorem q_957 : z_in (.methodLink RX11 364 yJ6_bitCount_0f7a4) := ⟨List.mem_of_getElem? (i := 957) (by decide +kernel), good_of_word rfl⟩
theorem q_958 : z_in (.static yJ6_bitCount_0f7a4) := ⟨List.mem_of_getElem? (i := 958) (by decide +kernel), good_of_word rfl⟩
theorem q_959 : z_in (.code yJ6_bitCount_0f7a4 cJ6_bitCount_0f7a4 1 (some .int)) := ⟨List.mem_of_getElem? (i := 959) (by decide +kernel), good_of_word rfl⟩
theorem q_960 : z_in (.constant RJ6 265 (1431655765)) := ⟨List.mem_of_getElem? (i := 960) (by decide +kernel), good_of_word rfl⟩
theorem q_961 : z_in (.constant RJ6 266 (858993459)) := ⟨List.mem_of_getElem? (i := 961) (by decide +kernel), good_of_word rfl⟩
theorem q_962 : z_in (.constant RJ6 267 (252645135)) := ⟨List.mem_of_getElem? (i := 962) (by decide +kernel), good_of_word rfl⟩
theorem q_963 : z_in (.methodLink RL 182 yX11_sail) := ⟨List.mem_of_getElem? (i := 963) (by decide +kernel), good_of_word rfl⟩
theorem q_964 : z_in (.instanceMethod yX11_sail) := ⟨List.mem_of_getElem? (i := 964) (by decide +kernel), good_of_word rfl⟩
theorem q_965 : z_in (.selects RX11 yX11_sail yX11_sail) := ⟨List.mem_of_getElem? (i := 965) (by decide +kernel), good_of_word rfl⟩
theorem q_966 : z_in (.code yX11_sail cX11_sail 4 (some .int)) := ⟨List.mem_of_getElem? (i := 966) (by decide +kernel), good_of_word rfl⟩
theorem q_967 : z_in (.methodLink RL 186 yX11_comeHome) := ⟨List.mem_of_getElem? (i := 967) (by decide +kernel), good_of_word rfl⟩
theorem q_968 : z_in (.instanceMethod yX11_comeHome) := ⟨List.mem_of_getElem? (i := 968) (by decide +kernel), good_of_word rfl⟩
theorem q_969 : z_in (.selects RX11 yX11_comeHome yX11_comeHome) := ⟨List.mem_of_getElem? (i := 969) (by decide +kernel), good_of_word rfl⟩
theorem q_970 : z_in (.code yX11_comeHome cX11_comeHome 3 (some .int)) := ⟨List.mem_of_getElem? (i := 970) (by decide +kernel), good_of_word rfl⟩
theorem q_971 : z_in (.methodLink RL 190 yX11_ticket) := ⟨List.mem_of_getElem? (i := 971) (by decide +kernel), good_of_word rfl⟩
theorem q_972 : z_in (.instanceMethod yX11_ticket) := ⟨List.mem_of_getElem? (i := 972) (by decide +kernel), good_of_word rfl⟩
theorem q_973 : z_in (.selects RX11 yX11_ticket yX11_ticket) := ⟨List.mem_of_getElem? (i := 973) (by decide +kernel), good_of_word rfl⟩
theorem q_974 : z_in (.code yX11_ticket cX11_ticket 5 (some .int)) := ⟨List.mem_of_getElem? (i := 974) (by decide +kernel), good_of_word rfl⟩
theorem q_975 : z_in (.instantiable RX9 5) := ⟨List.mem_of_getElem? (i := 975) (by decide +kernel), good_of_word rfl⟩
theorem q_976 : z_in (.methodLink RX11 372 yX9_init) := ⟨List.mem_of_getElem? (i := 976) (by decide +kernel), good_of_word rfl⟩
theorem q_977 : z_in (.instanceMethod yX9_init) := ⟨List.mem_of_getElem? (i := 977) (by decide +kernel), good_of_word rfl⟩
theorem q_978 : z_in (.code yX9_init cX9_init 3 none) := ⟨List.mem_of_getElem? (i := 978) (by decide +kernel), good_of_word rfl⟩
theorem q_979 : z_in (.methodLink RX9 3 objectInit) := ⟨List.mem_of_getElem? (i := 979) (by decide +kernel), good_of_word rfl⟩
theorem q_980 : z_in (.fieldLink RX9 15 (TX9 0).1 (TX9 0).2.1 (TX9 0).2.2.1) := ⟨List.mem_of_getElem? (i := 980) (by decide +kernel), good_of_word rfl⟩
theorem q_981 : z_in (.fieldLink RX11 457 (TX9 0).1 (TX9 0).2.1 (TX9 0).2.2.1) := ⟨List.mem_of_getElem? (i := 981) (by decide +kernel), good_of_word rfl⟩
theorem q_982 : z_in (.fieldLink RX9 18 (TX9 1).1 (TX9 1).2.1 (TX9 1).2.2.1) := ⟨List.mem_of_getElem? (i := 982) (by decide +kernel), good_of_word rfl⟩
theorem q_983 : z_in (.fieldLink RX11 386 (TX9 1).1 (TX9 1).2.1 (TX9 1).2.2.1) := ⟨List.mem_of_getElem? (i := 983) (by decide +kernel), good_of_word rfl⟩
theorem q_984 : z_in (.fieldLink RX9 9 (TX9 2).1 (TX9 2).2.1 (TX9 2).2.2.1) := ⟨List.mem_of_getElem? (i := 984) (by decide +kernel), good_of_word rfl⟩
theorem q_985 : z_in (.fieldLink RX11 383 (TX9 2).1 (TX9 2).2.1 (TX9 2).2.2.1) := ⟨List.mem_of_getElem? (i := 985) (by decide +kernel), good_of_word rfl⟩
theorem q_986 : z_in (.fieldLink RX11 380 (TX9 3).1 (TX9 3).2.1 (TX9 3).2.2.1) := ⟨List.mem_of_getElem? (i := 986) (by decide +kernel), good_of_word rfl⟩
theorem q_987 : z_in (.fieldLink RX11 393 (TX9 4).1 (TX9 4).2.1 (TX9 4).2.2.1) := ⟨List.mem_of_getElem? (i := 987) (by decide +kernel), good_of_word rfl⟩
theorem q_999 : z_in (.methodLink RL 194 yX11_sell) := ⟨List.mem_of_getElem? (i := 999) (by decide +kernel), good_of_word rfl⟩
theorem q_1000 : z_in (.instanceMethod yX11_sell) := ⟨List.mem_of_getElem? (i := 1000) (by decide +kernel), good_of_word rfl⟩
theorem q_1001 : z_in (.selects RX11 yX11_sell yX11_sell) := ⟨List.mem_of_getElem? (i := 1001) (by decide +kernel), good_of_word rfl⟩
theorem q_1002 : z_in (.code yX11_sell cX11_sell 6 (some .int)) := ⟨List.mem_of_getElem? (i := 1002) (by decide +kernel), good_of_word rfl⟩
theorem q_1003 : z_in (.methodLink RX11 373 yX11_findTicket) := ⟨List.mem_of_getElem? (i := 1003) (by decide +kernel), good_of_word rfl⟩
theorem q_1005 : z_in (.instanceMethod yX11_findTicket) := ⟨List.mem_of_getElem? (i := 1005) (by decide +kernel), good_of_word rfl⟩
theorem q_1006 : z_in (.code yX11_findTicket cX11_findTicket 2 (some (.object "PressedMen$Ticket"))) := ⟨List.mem_of_getElem? (i := 1006) (by decide +kernel), good_of_word rfl⟩
theorem q_1007 : z_in (.methodLink RX11 377 yX11_isHolder) := ⟨List.mem_of_getElem? (i := 1007) (by decide +kernel), good_of_word rfl⟩
theorem q_1008 : z_in (.static yX11_isHolder) := ⟨List.mem_of_getElem? (i := 1008) (by decide +kernel), good_of_word rfl⟩
theorem q_1009 : z_in (.code yX11_isHolder cX11_isHolder 1 (some .boolean)) := ⟨List.mem_of_getElem? (i := 1009) (by decide +kernel), good_of_word rfl⟩
theorem q_1010 : z_in (.methodLink RX11 389 yX11_give) := ⟨List.mem_of_getElem? (i := 1010) (by decide +kernel), good_of_word rfl⟩
theorem q_1012 : z_in (.instanceMethod yX11_give) := ⟨List.mem_of_getElem? (i := 1012) (by decide +kernel), good_of_word rfl⟩
theorem q_1013 : z_in (.code yX11_give cX11_give 5 none) := ⟨List.mem_of_getElem? (i := 1013) (by decide +kernel), good_of_word rfl⟩
theorem q_1014 : z_in (.methodLink RL 198 yX11_pay) := ⟨List.mem_of_getElem? (i := 1014) (by decide +kernel), good_of_word rfl⟩
theorem q_1015 : z_in (.instanceMethod yX11_pay) := ⟨List.mem_of_getElem? (i := 1015) (by decide +kernel), good_of_word rfl⟩
theorem q_1016 : z_in (.selects RX11 yX11_pay yX11_pay) := ⟨List.mem_of_getElem? (i := 1016) (by decide +kernel), good_of_word rfl⟩
theorem q_1017 : z_in (.code yX11_pay cX11_pay 4 (some .int)) := ⟨List.mem_of_getElem? (i := 1017) (by decide +kernel), good_of_word rfl⟩
theorem q_1018 : z_in (.methodLink RL 202 yX11_ticketOf) := ⟨List.mem_of_getElem? (i := 1018) (by decide +kernel), good_of_word rfl⟩
theorem q_1019 : z_in (.instanceMethod yX11_ticketOf) := ⟨List.mem_of_getElem? (i := 1019) (by decide +kernel), good_of_word rfl⟩
theorem q_1020 : z_in (.selects RX11 yX11_ticketOf yX11_ticketOf) := ⟨List.mem_of_getElem? (i := 1020) (by decide +kernel), good_of_word rfl⟩
theorem q_1021 : z_in (.code yX11_ticketOf cX11_ticketOf 4 (some .int)) := ⟨List.mem_of_getElem? (i := 1021) (by decide +kernel), good_of_word rfl⟩
theorem q_1022 : z_in (.methodLink RL 206 yX11_purse) := ⟨List.mem_of_getElem? (i := 1022) (by decide +kernel), good_of_word rfl⟩
theorem q_1023 : z_in (.instanceMethod yX11_purse) := ⟨List.mem_of_getElem? (i := 1023) (by decide +kernel), good_of_word rfl⟩
theorem q_1024 : z_in (.selects RX11 yX11_purse yX11_purse) := ⟨List.mem_of_getElem? (i := 1024) (by decide +kernel), good_of_word rfl⟩
theorem q_1025 : z_in (.code yX11_purse cX11_purse 2 (some .int)) := ⟨List.mem_of_getElem? (i := 1025) (by decide +kernel), good_of_word rfl⟩
theorem q_1026 : z_in (.methodLink RL 210 yX11_wages) := ⟨List.mem_of_getElem? (i := 1026) (by decide +kernel), good_of_word rfl⟩
theorem q_1027 : z_in (.instanceMethod yX11_wages) := ⟨List.mem_of_getElem? (i := 1027) (by decide +kernel), good_of_word rfl⟩
theorem q_1028 : z_in (.selects RX11 yX11_wages yX11_wages) := ⟨List.mem_of_getElem? (i := 1028) (by decide +kernel), good_of_word rfl⟩
theorem q_1029 : z_in (.code yX11_wages cX11_wages 4 (some .int)) := ⟨List.mem_of_getElem? (i := 1029) (by decide +kernel), good_of_word rfl⟩
theorem q_1030 : z_in (.methodLink RX11 396 yX11_owedTo) := ⟨List.mem_of_getElem? (i := 1030) (by decide +kernel), good_of_word rfl⟩
theorem q_1032 : z_in (.instanceMethod yX11_owedTo) := ⟨List.mem_of_getElem? (i := 1032) (by decide +kernel), good_of_word rfl⟩
theorem q_1033 : z_in (.code yX11_owedTo cX11_owedTo 5 (some .int)) := ⟨List.mem_of_getElem? (i := 1033) (by decide +kernel), good_of_word rfl⟩
theorem q_1034 : z_in (.methodLink RL 214 yX11_count) := ⟨List.mem_of_getElem? (i := 1034) (by decide +kernel), good_of_word rfl⟩
theorem q_1035 : z_in (.instanceMethod yX11_count) := ⟨List.mem_of_getElem? (i := 1035) (by decide +kernel), good_of_word rfl⟩
theorem q_1036 : z_in (.selects RX11 yX11_count yX11_count) := ⟨List.mem_of_getElem? (i := 1036) (by decide +kernel), good_of_word rfl⟩
theorem q_1037 : z_in (.code yX11_count cX11_count 2 (some .int)) := ⟨List.mem_of_getElem? (i := 1037) (by decide +kernel), good_of_word rfl⟩
theorem q_1038 : z_in (.methodLink RX11 402 yX11_menOffTheStreets) := ⟨List.mem_of_getElem? (i := 1038) (by decide +kernel), good_of_word rfl⟩
theorem q_1040 : z_in (.instanceMethod yX11_menOffTheStreets) := ⟨List.mem_of_getElem? (i := 1040) (by decide +kernel), good_of_word rfl⟩
theorem q_1041 : z_in (.code yX11_menOffTheStreets cX11_menOffTheStreets 3 (some .int)) := ⟨List.mem_of_getElem? (i := 1041) (by decide +kernel), good_of_word rfl⟩
theorem q_1042 : z_in (.classLink RL 10 RX12) := ⟨List.mem_of_getElem? (i := 1042) (by decide +kernel), good_of_word rfl⟩
theorem q_1043 : z_in (.instantiable RX12 39) := ⟨List.mem_of_getElem? (i := 1043) (by decide +kernel), good_of_word rfl⟩
theorem q_1044 : z_in (.methodLink RL 12 yX12_init) := ⟨List.mem_of_getElem? (i := 1044) (by decide +kernel), good_of_word rfl⟩
theorem q_1045 : z_in (.instanceMethod yX12_init) := ⟨List.mem_of_getElem? (i := 1045) (by decide +kernel), good_of_word rfl⟩
theorem q_1046 : z_in (.code yX12_init cX12_init 1 none) := ⟨List.mem_of_getElem? (i := 1046) (by decide +kernel), good_of_word rfl⟩
theorem q_1047 : z_in (.methodLink RX12 1 objectInit) := ⟨List.mem_of_getElem? (i := 1047) (by decide +kernel), good_of_word rfl⟩
theorem q_1048 : z_in (.constant RX12 27 (36000)) := ⟨List.mem_of_getElem? (i := 1048) (by decide +kernel), good_of_word rfl⟩
theorem q_1049 : z_in (.fieldLink RX12 100 (TX12 0).1 (TX12 0).2.1 (TX12 0).2.2.1) := ⟨List.mem_of_getElem? (i := 1049) (by decide +kernel), good_of_word rfl⟩
theorem q_1050 : z_in (.fieldLink RX12 7 (TX12 1).1 (TX12 1).2.1 (TX12 1).2.2.1) := ⟨List.mem_of_getElem? (i := 1050) (by decide +kernel), good_of_word rfl⟩
theorem q_1051 : z_in (.fieldLink RX12 13 (TX12 2).1 (TX12 2).2.1 (TX12 2).2.2.1) := ⟨List.mem_of_getElem? (i := 1051) (by decide +kernel), good_of_word rfl⟩
theorem q_1052 : z_in (.fieldLink RX12 17 (TX12 3).1 (TX12 3).2.1 (TX12 3).2.2.1) := ⟨List.mem_of_getElem? (i := 1052) (by decide +kernel), good_of_word rfl⟩
theorem q_1053 : z_in (.fieldLink RX12 141 (TX12 4).1 (TX12 4).2.1 (TX12 4).2.2.1) := ⟨List.mem_of_getElem? (i := 1053) (by decide +kernel), good_of_word rfl⟩
theorem q_1054 : z_in (.fieldLink RX12 107 (TX12 5).1 (TX12 5).2.1 (TX12 5).2.2.1) := ⟨List.mem_of_getElem? (i := 1054) (by decide +kernel), good_of_word rfl⟩
theorem q_1055 : z_in (.fieldLink RX12 21 (TX12 6).1 (TX12 6).2.1 (TX12 6).2.2.1) := ⟨List.mem_of_getElem? (i := 1055) (by decide +kernel), good_of_word rfl⟩
theorem q_1056 : z_in (.fieldLink RX12 24 (TX12 7).1 (TX12 7).2.1 (TX12 7).2.2.1) := ⟨List.mem_of_getElem? (i := 1056) (by decide +kernel), good_of_word rfl⟩
theorem q_1057 : z_in (.fieldLink RX12 28 (TX12 8).1 (TX12 8).2.1 (TX12 8).2.2.1) := ⟨List.mem_of_getElem? (i := 1057) (by decide +kernel), good_of_word rfl⟩
theorem q_1058 : z_in (.fieldLink RX12 110 (TX12 9).1 (TX12 9).2.1 (TX12 9).2.2.1) := ⟨List.mem_of_getElem? (i := 1058) (by decide +kernel), good_of_word rfl⟩
theorem q_1059 : z_in (.fieldLink RX12 31 (TX12 10).1 (TX12 10).2.1 (TX12 10).2.2.1) := ⟨List.mem_of_getElem? (i := 1059) (by decide +kernel), good_of_word rfl⟩
theorem q_1060 : z_in (.fieldLink RX12 34 (TX12 11).1 (TX12 11).2.1 (TX12 11).2.2.1) := ⟨List.mem_of_getElem? (i := 1060) (by decide +kernel), good_of_word rfl⟩
theorem q_1061 : z_in (.fieldLink RX12 37 (TX12 12).1 (TX12 12).2.1 (TX12 12).2.2.1) := ⟨List.mem_of_getElem? (i := 1061) (by decide +kernel), good_of_word rfl⟩
theorem q_1062 : z_in (.fieldLink RX12 40 (TX12 13).1 (TX12 13).2.1 (TX12 13).2.2.1) := ⟨List.mem_of_getElem? (i := 1062) (by decide +kernel), good_of_word rfl⟩
theorem q_1063 : z_in (.fieldLink RX12 43 (TX12 14).1 (TX12 14).2.1 (TX12 14).2.2.1) := ⟨List.mem_of_getElem? (i := 1063) (by decide +kernel), good_of_word rfl⟩
theorem q_1064 : z_in (.fieldLink RX12 113 (TX12 15).1 (TX12 15).2.1 (TX12 15).2.2.1) := ⟨List.mem_of_getElem? (i := 1064) (by decide +kernel), good_of_word rfl⟩
theorem q_1065 : z_in (.fieldLink RX12 46 (TX12 16).1 (TX12 16).2.1 (TX12 16).2.2.1) := ⟨List.mem_of_getElem? (i := 1065) (by decide +kernel), good_of_word rfl⟩
theorem q_1066 : z_in (.fieldLink RX12 201 (TX12 17).1 (TX12 17).2.1 (TX12 17).2.2.1) := ⟨List.mem_of_getElem? (i := 1066) (by decide +kernel), good_of_word rfl⟩
theorem q_1067 : z_in (.fieldLink RX12 49 (TX12 18).1 (TX12 18).2.1 (TX12 18).2.2.1) := ⟨List.mem_of_getElem? (i := 1067) (by decide +kernel), good_of_word rfl⟩
theorem q_1068 : z_in (.fieldLink RX12 52 (TX12 19).1 (TX12 19).2.1 (TX12 19).2.2.1) := ⟨List.mem_of_getElem? (i := 1068) (by decide +kernel), good_of_word rfl⟩
theorem q_1069 : z_in (.fieldLink RX12 55 (TX12 20).1 (TX12 20).2.1 (TX12 20).2.2.1) := ⟨List.mem_of_getElem? (i := 1069) (by decide +kernel), good_of_word rfl⟩
theorem q_1070 : z_in (.fieldLink RX12 58 (TX12 21).1 (TX12 21).2.1 (TX12 21).2.2.1) := ⟨List.mem_of_getElem? (i := 1070) (by decide +kernel), good_of_word rfl⟩
theorem q_1071 : z_in (.fieldLink RX12 168 (TX12 22).1 (TX12 22).2.1 (TX12 22).2.2.1) := ⟨List.mem_of_getElem? (i := 1071) (by decide +kernel), good_of_word rfl⟩
theorem q_1072 : z_in (.fieldLink RX12 61 (TX12 23).1 (TX12 23).2.1 (TX12 23).2.2.1) := ⟨List.mem_of_getElem? (i := 1072) (by decide +kernel), good_of_word rfl⟩
theorem q_1073 : z_in (.fieldLink RX12 165 (TX12 24).1 (TX12 24).2.1 (TX12 24).2.2.1) := ⟨List.mem_of_getElem? (i := 1073) (by decide +kernel), good_of_word rfl⟩
theorem q_1074 : z_in (.fieldLink RX12 64 (TX12 25).1 (TX12 25).2.1 (TX12 25).2.2.1) := ⟨List.mem_of_getElem? (i := 1074) (by decide +kernel), good_of_word rfl⟩
theorem q_1075 : z_in (.fieldLink RX12 67 (TX12 26).1 (TX12 26).2.1 (TX12 26).2.2.1) := ⟨List.mem_of_getElem? (i := 1075) (by decide +kernel), good_of_word rfl⟩
theorem q_1076 : z_in (.fieldLink RX12 70 (TX12 27).1 (TX12 27).2.1 (TX12 27).2.2.1) := ⟨List.mem_of_getElem? (i := 1076) (by decide +kernel), good_of_word rfl⟩
theorem q_1077 : z_in (.fieldLink RX12 73 (TX12 28).1 (TX12 28).2.1 (TX12 28).2.2.1) := ⟨List.mem_of_getElem? (i := 1077) (by decide +kernel), good_of_word rfl⟩
theorem q_1078 : z_in (.fieldLink RX12 76 (TX12 29).1 (TX12 29).2.1 (TX12 29).2.2.1) := ⟨List.mem_of_getElem? (i := 1078) (by decide +kernel), good_of_word rfl⟩
theorem q_1079 : z_in (.fieldLink RX12 247 (TX12 30).1 (TX12 30).2.1 (TX12 30).2.2.1) := ⟨List.mem_of_getElem? (i := 1079) (by decide +kernel), good_of_word rfl⟩
theorem q_1080 : z_in (.fieldLink RX12 277 (TX12 31).1 (TX12 31).2.1 (TX12 31).2.2.1) := ⟨List.mem_of_getElem? (i := 1080) (by decide +kernel), good_of_word rfl⟩
theorem q_1081 : z_in (.fieldLink RX12 79 (TX12 32).1 (TX12 32).2.1 (TX12 32).2.2.1) := ⟨List.mem_of_getElem? (i := 1081) (by decide +kernel), good_of_word rfl⟩
theorem q_1082 : z_in (.fieldLink RX12 82 (TX12 33).1 (TX12 33).2.1 (TX12 33).2.2.1) := ⟨List.mem_of_getElem? (i := 1082) (by decide +kernel), good_of_word rfl⟩
theorem q_1083 : z_in (.fieldLink RX12 85 (TX12 34).1 (TX12 34).2.1 (TX12 34).2.2.1) := ⟨List.mem_of_getElem? (i := 1083) (by decide +kernel), good_of_word rfl⟩
theorem q_1084 : z_in (.fieldLink RX12 88 (TX12 35).1 (TX12 35).2.1 (TX12 35).2.2.1) := ⟨List.mem_of_getElem? (i := 1084) (by decide +kernel), good_of_word rfl⟩
theorem q_1085 : z_in (.fieldLink RX12 91 (TX12 36).1 (TX12 36).2.1 (TX12 36).2.2.1) := ⟨List.mem_of_getElem? (i := 1085) (by decide +kernel), good_of_word rfl⟩
theorem q_1086 : z_in (.fieldLink RX12 94 (TX12 37).1 (TX12 37).2.1 (TX12 37).2.2.1) := ⟨List.mem_of_getElem? (i := 1086) (by decide +kernel), good_of_word rfl⟩
theorem q_1087 : z_in (.fieldLink RX12 97 (TX12 38).1 (TX12 38).2.1 (TX12 38).2.2.1) := ⟨List.mem_of_getElem? (i := 1087) (by decide +kernel), good_of_word rfl⟩
theorem q_1167 : z_in (.methodLink RL 17 yX12_streets) := ⟨List.mem_of_getElem? (i := 1167) (by decide +kernel), good_of_word rfl⟩
theorem q_1168 : z_in (.instanceMethod yX12_streets) := ⟨List.mem_of_getElem? (i := 1168) (by decide +kernel), good_of_word rfl⟩
theorem q_1169 : z_in (.selects RX12 yX12_streets yX12_streets) := ⟨List.mem_of_getElem? (i := 1169) (by decide +kernel), good_of_word rfl⟩
theorem q_1170 : z_in (.code yX12_streets cX12_streets 5 (some .int)) := ⟨List.mem_of_getElem? (i := 1170) (by decide +kernel), good_of_word rfl⟩
theorem q_1171 : z_in (.constantLong RX12 118 (8)) := ⟨List.mem_of_getElem? (i := 1171) (by decide +kernel), good_of_word rfl⟩
theorem q_1172 : z_in (.methodLink RX12 103 yX12_in) := ⟨List.mem_of_getElem? (i := 1172) (by decide +kernel), good_of_word rfl⟩
theorem q_1173 : z_in (.static yX12_in) := ⟨List.mem_of_getElem? (i := 1173) (by decide +kernel), good_of_word rfl⟩
theorem q_1174 : z_in (.code yX12_in cX12_in 6 (some .boolean)) := ⟨List.mem_of_getElem? (i := 1174) (by decide +kernel), good_of_word rfl⟩
theorem q_1175 : z_in (.methodLink RL 22 yX12_way) := ⟨List.mem_of_getElem? (i := 1175) (by decide +kernel), good_of_word rfl⟩
theorem q_1176 : z_in (.instanceMethod yX12_way) := ⟨List.mem_of_getElem? (i := 1176) (by decide +kernel), good_of_word rfl⟩
theorem q_1177 : z_in (.selects RX12 yX12_way yX12_way) := ⟨List.mem_of_getElem? (i := 1177) (by decide +kernel), good_of_word rfl⟩
theorem q_1178 : z_in (.code yX12_way cX12_way 5 (some .int)) := ⟨List.mem_of_getElem? (i := 1178) (by decide +kernel), good_of_word rfl⟩
theorem q_1179 : z_in (.methodLink RX12 120 yX12_noStreet) := ⟨List.mem_of_getElem? (i := 1179) (by decide +kernel), good_of_word rfl⟩
theorem q_1181 : z_in (.instanceMethod yX12_noStreet) := ⟨List.mem_of_getElem? (i := 1181) (by decide +kernel), good_of_word rfl⟩
theorem q_1182 : z_in (.code yX12_noStreet cX12_noStreet 2 (some .boolean)) := ⟨List.mem_of_getElem? (i := 1182) (by decide +kernel), good_of_word rfl⟩
theorem q_1183 : z_in (.methodLink RL 27 yX12_far) := ⟨List.mem_of_getElem? (i := 1183) (by decide +kernel), good_of_word rfl⟩
theorem q_1184 : z_in (.instanceMethod yX12_far) := ⟨List.mem_of_getElem? (i := 1184) (by decide +kernel), good_of_word rfl⟩
theorem q_1185 : z_in (.selects RX12 yX12_far yX12_far) := ⟨List.mem_of_getElem? (i := 1185) (by decide +kernel), good_of_word rfl⟩
theorem q_1186 : z_in (.code yX12_far cX12_far 3 (some .int)) := ⟨List.mem_of_getElem? (i := 1186) (by decide +kernel), good_of_word rfl⟩
theorem q_1187 : z_in (.methodLink RX12 124 yX12_measure) := ⟨List.mem_of_getElem? (i := 1187) (by decide +kernel), good_of_word rfl⟩
theorem q_1189 : z_in (.instanceMethod yX12_measure) := ⟨List.mem_of_getElem? (i := 1189) (by decide +kernel), good_of_word rfl⟩
theorem q_1190 : z_in (.code yX12_measure cX12_measure 5 none) := ⟨List.mem_of_getElem? (i := 1190) (by decide +kernel), good_of_word rfl⟩
theorem q_1191 : z_in (.methodLink RL 32 yX12_man) := ⟨List.mem_of_getElem? (i := 1191) (by decide +kernel), good_of_word rfl⟩
theorem q_1192 : z_in (.instanceMethod yX12_man) := ⟨List.mem_of_getElem? (i := 1192) (by decide +kernel), good_of_word rfl⟩
theorem q_1193 : z_in (.selects RX12 yX12_man yX12_man) := ⟨List.mem_of_getElem? (i := 1193) (by decide +kernel), good_of_word rfl⟩
theorem q_1194 : z_in (.code yX12_man cX12_man 10 (some .int)) := ⟨List.mem_of_getElem? (i := 1194) (by decide +kernel), good_of_word rfl⟩
theorem q_1195 : z_in (.constantLong RX12 127 (10)) := ⟨List.mem_of_getElem? (i := 1195) (by decide +kernel), good_of_word rfl⟩
theorem q_1196 : z_in (.constantLong RX12 129 (60)) := ⟨List.mem_of_getElem? (i := 1196) (by decide +kernel), good_of_word rfl⟩
theorem q_1197 : z_in (.constantLong RX12 131 (3)) := ⟨List.mem_of_getElem? (i := 1197) (by decide +kernel), good_of_word rfl⟩
theorem q_1198 : z_in (.constantLong RX12 133 (50)) := ⟨List.mem_of_getElem? (i := 1198) (by decide +kernel), good_of_word rfl⟩
theorem q_1199 : z_in (.constantLong RX12 135 (80)) := ⟨List.mem_of_getElem? (i := 1199) (by decide +kernel), good_of_word rfl⟩
theorem q_1200 : z_in (.constantLong RX12 137 (5)) := ⟨List.mem_of_getElem? (i := 1200) (by decide +kernel), good_of_word rfl⟩
theorem q_1201 : z_in (.constantLong RX12 139 (40)) := ⟨List.mem_of_getElem? (i := 1201) (by decide +kernel), good_of_word rfl⟩
theorem q_1202 : z_in (.methodLink RL 36 yX12_about) := ⟨List.mem_of_getElem? (i := 1202) (by decide +kernel), good_of_word rfl⟩
theorem q_1203 : z_in (.instanceMethod yX12_about) := ⟨List.mem_of_getElem? (i := 1203) (by decide +kernel), good_of_word rfl⟩
theorem q_1204 : z_in (.selects RX12 yX12_about yX12_about) := ⟨List.mem_of_getElem? (i := 1204) (by decide +kernel), good_of_word rfl⟩
theorem q_1205 : z_in (.code yX12_about cX12_about 3 (some .int)) := ⟨List.mem_of_getElem? (i := 1205) (by decide +kernel), good_of_word rfl⟩
theorem q_1206 : z_in (.methodLink RX12 144 yX12_noMan) := ⟨List.mem_of_getElem? (i := 1206) (by decide +kernel), good_of_word rfl⟩
theorem q_1208 : z_in (.instanceMethod yX12_noMan) := ⟨List.mem_of_getElem? (i := 1208) (by decide +kernel), good_of_word rfl⟩
theorem q_1209 : z_in (.code yX12_noMan cX12_noMan 2 (some .boolean)) := ⟨List.mem_of_getElem? (i := 1209) (by decide +kernel), good_of_word rfl⟩
theorem q_1210 : z_in (.constantLong RX12 147 (7)) := ⟨List.mem_of_getElem? (i := 1210) (by decide +kernel), good_of_word rfl⟩
theorem q_1211 : z_in (.methodLink RL 41 yX12_shy) := ⟨List.mem_of_getElem? (i := 1211) (by decide +kernel), good_of_word rfl⟩
theorem q_1212 : z_in (.instanceMethod yX12_shy) := ⟨List.mem_of_getElem? (i := 1212) (by decide +kernel), good_of_word rfl⟩
theorem q_1213 : z_in (.selects RX12 yX12_shy yX12_shy) := ⟨List.mem_of_getElem? (i := 1213) (by decide +kernel), good_of_word rfl⟩
theorem q_1214 : z_in (.code yX12_shy cX12_shy 4 (some .int)) := ⟨List.mem_of_getElem? (i := 1214) (by decide +kernel), good_of_word rfl⟩
theorem q_1215 : z_in (.methodLink RL 45 yX12_where) := ⟨List.mem_of_getElem? (i := 1215) (by decide +kernel), good_of_word rfl⟩
theorem q_1216 : z_in (.instanceMethod yX12_where) := ⟨List.mem_of_getElem? (i := 1216) (by decide +kernel), good_of_word rfl⟩
theorem q_1217 : z_in (.selects RX12 yX12_where yX12_where) := ⟨List.mem_of_getElem? (i := 1217) (by decide +kernel), good_of_word rfl⟩
theorem q_1218 : z_in (.code yX12_where cX12_where 3 (some .int)) := ⟨List.mem_of_getElem? (i := 1218) (by decide +kernel), good_of_word rfl⟩
theorem q_1219 : z_in (.methodLink RL 49 yX12_at) := ⟨List.mem_of_getElem? (i := 1219) (by decide +kernel), good_of_word rfl⟩
theorem q_1220 : z_in (.instanceMethod yX12_at) := ⟨List.mem_of_getElem? (i := 1220) (by decide +kernel), good_of_word rfl⟩
theorem q_1221 : z_in (.selects RX12 yX12_at yX12_at) := ⟨List.mem_of_getElem? (i := 1221) (by decide +kernel), good_of_word rfl⟩
theorem q_1222 : z_in (.code yX12_at cX12_at 2 (some .int)) := ⟨List.mem_of_getElem? (i := 1222) (by decide +kernel), good_of_word rfl⟩
theorem q_1223 : z_in (.constantLong RX12 158 (20)) := ⟨List.mem_of_getElem? (i := 1223) (by decide +kernel), good_of_word rfl⟩
theorem q_1224 : z_in (.constantLong RX12 160 (23)) := ⟨List.mem_of_getElem? (i := 1224) (by decide +kernel), good_of_word rfl⟩
theorem q_1225 : z_in (.methodLink RX12 162 yX12_many) := ⟨List.mem_of_getElem? (i := 1225) (by decide +kernel), good_of_word rfl⟩
theorem q_1227 : z_in (.instanceMethod yX12_many) := ⟨List.mem_of_getElem? (i := 1227) (by decide +kernel), good_of_word rfl⟩
theorem q_1228 : z_in (.code yX12_many cX12_many 4 (some .int)) := ⟨List.mem_of_getElem? (i := 1228) (by decide +kernel), good_of_word rfl⟩
theorem q_1229 : z_in (.methodLink RX12 154 yX12_placeOf) := ⟨List.mem_of_getElem? (i := 1229) (by decide +kernel), good_of_word rfl⟩
theorem q_1231 : z_in (.instanceMethod yX12_placeOf) := ⟨List.mem_of_getElem? (i := 1231) (by decide +kernel), good_of_word rfl⟩
theorem q_1232 : z_in (.code yX12_placeOf cX12_placeOf 2 (some .int)) := ⟨List.mem_of_getElem? (i := 1232) (by decide +kernel), good_of_word rfl⟩
theorem q_1233 : z_in (.methodLink RL 54 yX12_tide) := ⟨List.mem_of_getElem? (i := 1233) (by decide +kernel), good_of_word rfl⟩
theorem q_1234 : z_in (.instanceMethod yX12_tide) := ⟨List.mem_of_getElem? (i := 1234) (by decide +kernel), good_of_word rfl⟩
theorem q_1235 : z_in (.selects RX12 yX12_tide yX12_tide) := ⟨List.mem_of_getElem? (i := 1235) (by decide +kernel), good_of_word rfl⟩
theorem q_1236 : z_in (.code yX12_tide cX12_tide 1 (some .int)) := ⟨List.mem_of_getElem? (i := 1236) (by decide +kernel), good_of_word rfl⟩
theorem q_1237 : z_in (.methodLink RL 58 yX12_pass) := ⟨List.mem_of_getElem? (i := 1237) (by decide +kernel), good_of_word rfl⟩
theorem q_1238 : z_in (.instanceMethod yX12_pass) := ⟨List.mem_of_getElem? (i := 1238) (by decide +kernel), good_of_word rfl⟩
theorem q_1239 : z_in (.selects RX12 yX12_pass yX12_pass) := ⟨List.mem_of_getElem? (i := 1239) (by decide +kernel), good_of_word rfl⟩
theorem q_1240 : z_in (.code yX12_pass cX12_pass 3 (some .int)) := ⟨List.mem_of_getElem? (i := 1240) (by decide +kernel), good_of_word rfl⟩
theorem q_1241 : z_in (.methodLink RX12 181 yX12_goOn) := ⟨List.mem_of_getElem? (i := 1241) (by decide +kernel), good_of_word rfl⟩
theorem q_1243 : z_in (.instanceMethod yX12_goOn) := ⟨List.mem_of_getElem? (i := 1243) (by decide +kernel), good_of_word rfl⟩
theorem q_1244 : z_in (.code yX12_goOn cX12_goOn 4 none) := ⟨List.mem_of_getElem? (i := 1244) (by decide +kernel), good_of_word rfl⟩
theorem q_1245 : z_in (.methodLink RX12 171 yX12_isStreet) := ⟨List.mem_of_getElem? (i := 1245) (by decide +kernel), good_of_word rfl⟩
theorem q_1246 : z_in (.static yX12_isStreet) := ⟨List.mem_of_getElem? (i := 1246) (by decide +kernel), good_of_word rfl⟩
theorem q_1247 : z_in (.code yX12_isStreet cX12_isStreet 1 (some .boolean)) := ⟨List.mem_of_getElem? (i := 1247) (by decide +kernel), good_of_word rfl⟩
theorem q_1248 : z_in (.methodLink RX12 174 yX12_heardAt) := ⟨List.mem_of_getElem? (i := 1248) (by decide +kernel), good_of_word rfl⟩
theorem q_1250 : z_in (.instanceMethod yX12_heardAt) := ⟨List.mem_of_getElem? (i := 1250) (by decide +kernel), good_of_word rfl⟩
theorem q_1251 : z_in (.code yX12_heardAt cX12_heardAt 6 (some .int)) := ⟨List.mem_of_getElem? (i := 1251) (by decide +kernel), good_of_word rfl⟩
theorem q_1252 : z_in (.methodLink RX12 177 yX12_go) := ⟨List.mem_of_getElem? (i := 1252) (by decide +kernel), good_of_word rfl⟩
theorem q_1254 : z_in (.instanceMethod yX12_go) := ⟨List.mem_of_getElem? (i := 1254) (by decide +kernel), good_of_word rfl⟩
theorem q_1255 : z_in (.code yX12_go cX12_go 3 none) := ⟨List.mem_of_getElem? (i := 1255) (by decide +kernel), good_of_word rfl⟩
theorem q_1256 : z_in (.methodLink RL 62 yX12_walk) := ⟨List.mem_of_getElem? (i := 1256) (by decide +kernel), good_of_word rfl⟩
theorem q_1257 : z_in (.instanceMethod yX12_walk) := ⟨List.mem_of_getElem? (i := 1257) (by decide +kernel), good_of_word rfl⟩
theorem q_1258 : z_in (.selects RX12 yX12_walk yX12_walk) := ⟨List.mem_of_getElem? (i := 1258) (by decide +kernel), good_of_word rfl⟩
theorem q_1259 : z_in (.code yX12_walk cX12_walk 4 (some .int)) := ⟨List.mem_of_getElem? (i := 1259) (by decide +kernel), good_of_word rfl⟩
theorem q_1260 : z_in (.methodLink RL 66 yX12_run) := ⟨List.mem_of_getElem? (i := 1260) (by decide +kernel), good_of_word rfl⟩
theorem q_1261 : z_in (.instanceMethod yX12_run) := ⟨List.mem_of_getElem? (i := 1261) (by decide +kernel), good_of_word rfl⟩
theorem q_1262 : z_in (.selects RX12 yX12_run yX12_run) := ⟨List.mem_of_getElem? (i := 1262) (by decide +kernel), good_of_word rfl⟩
theorem q_1263 : z_in (.code yX12_run cX12_run 3 (some .int)) := ⟨List.mem_of_getElem? (i := 1263) (by decide +kernel), good_of_word rfl⟩
theorem q_1264 : z_in (.methodLink RL 71 yX12_paper) := ⟨List.mem_of_getElem? (i := 1264) (by decide +kernel), good_of_word rfl⟩
theorem q_1265 : z_in (.instanceMethod yX12_paper) := ⟨List.mem_of_getElem? (i := 1265) (by decide +kernel), good_of_word rfl⟩
theorem q_1266 : z_in (.selects RX12 yX12_paper yX12_paper) := ⟨List.mem_of_getElem? (i := 1266) (by decide +kernel), good_of_word rfl⟩
theorem q_1267 : z_in (.code yX12_paper cX12_paper 11 (some .int)) := ⟨List.mem_of_getElem? (i := 1267) (by decide +kernel), good_of_word rfl⟩
theorem q_1268 : z_in (.methodLink RX12 184 yX12_badLook) := ⟨List.mem_of_getElem? (i := 1268) (by decide +kernel), good_of_word rfl⟩
theorem q_1269 : z_in (.static yX12_badLook) := ⟨List.mem_of_getElem? (i := 1269) (by decide +kernel), good_of_word rfl⟩
theorem q_1270 : z_in (.code yX12_badLook cX12_badLook 1 (some .boolean)) := ⟨List.mem_of_getElem? (i := 1270) (by decide +kernel), good_of_word rfl⟩
theorem q_1271 : z_in (.methodLink RX12 187 yX12_badSpan) := ⟨List.mem_of_getElem? (i := 1271) (by decide +kernel), good_of_word rfl⟩
theorem q_1272 : z_in (.static yX12_badSpan) := ⟨List.mem_of_getElem? (i := 1272) (by decide +kernel), good_of_word rfl⟩
theorem q_1273 : z_in (.code yX12_badSpan cX12_badSpan 3 (some .boolean)) := ⟨List.mem_of_getElem? (i := 1273) (by decide +kernel), good_of_word rfl⟩
theorem q_1274 : z_in (.methodLink RL 76 yX12_cover) := ⟨List.mem_of_getElem? (i := 1274) (by decide +kernel), good_of_word rfl⟩
theorem q_1275 : z_in (.instanceMethod yX12_cover) := ⟨List.mem_of_getElem? (i := 1275) (by decide +kernel), good_of_word rfl⟩
theorem q_1276 : z_in (.selects RX12 yX12_cover yX12_cover) := ⟨List.mem_of_getElem? (i := 1276) (by decide +kernel), good_of_word rfl⟩
theorem q_1277 : z_in (.code yX12_cover cX12_cover 4 (some .int)) := ⟨List.mem_of_getElem? (i := 1277) (by decide +kernel), good_of_word rfl⟩
theorem q_1278 : z_in (.methodLink RX12 191 yX12_noPaper) := ⟨List.mem_of_getElem? (i := 1278) (by decide +kernel), good_of_word rfl⟩
theorem q_1280 : z_in (.instanceMethod yX12_noPaper) := ⟨List.mem_of_getElem? (i := 1280) (by decide +kernel), good_of_word rfl⟩
theorem q_1281 : z_in (.code yX12_noPaper cX12_noPaper 2 (some .boolean)) := ⟨List.mem_of_getElem? (i := 1281) (by decide +kernel), good_of_word rfl⟩
theorem q_1282 : z_in (.methodLink RX12 194 yX12_noTide) := ⟨List.mem_of_getElem? (i := 1282) (by decide +kernel), good_of_word rfl⟩
theorem q_1283 : z_in (.static yX12_noTide) := ⟨List.mem_of_getElem? (i := 1283) (by decide +kernel), good_of_word rfl⟩
theorem q_1284 : z_in (.code yX12_noTide cX12_noTide 1 (some .boolean)) := ⟨List.mem_of_getElem? (i := 1284) (by decide +kernel), good_of_word rfl⟩
theorem q_1285 : z_in (.constantLong RX12 116 (899)) := ⟨List.mem_of_getElem? (i := 1285) (by decide +kernel), good_of_word rfl⟩
theorem q_1286 : z_in (.methodLink RX12 197 yX12_covers) := ⟨List.mem_of_getElem? (i := 1286) (by decide +kernel), good_of_word rfl⟩
theorem q_1288 : z_in (.instanceMethod yX12_covers) := ⟨List.mem_of_getElem? (i := 1288) (by decide +kernel), good_of_word rfl⟩
theorem q_1289 : z_in (.code yX12_covers cX12_covers 9 (some .int)) := ⟨List.mem_of_getElem? (i := 1289) (by decide +kernel), good_of_word rfl⟩
theorem q_1290 : z_in (.methodLink RL 80 yX12_same) := ⟨List.mem_of_getElem? (i := 1290) (by decide +kernel), good_of_word rfl⟩
theorem q_1291 : z_in (.instanceMethod yX12_same) := ⟨List.mem_of_getElem? (i := 1291) (by decide +kernel), good_of_word rfl⟩
theorem q_1292 : z_in (.selects RX12 yX12_same yX12_same) := ⟨List.mem_of_getElem? (i := 1292) (by decide +kernel), good_of_word rfl⟩
theorem q_1293 : z_in (.code yX12_same cX12_same 5 (some .int)) := ⟨List.mem_of_getElem? (i := 1293) (by decide +kernel), good_of_word rfl⟩
theorem q_1294 : z_in (.methodLink RL 84 yX12_shown) := ⟨List.mem_of_getElem? (i := 1294) (by decide +kernel), good_of_word rfl⟩
theorem q_1295 : z_in (.instanceMethod yX12_shown) := ⟨List.mem_of_getElem? (i := 1295) (by decide +kernel), good_of_word rfl⟩
theorem q_1296 : z_in (.selects RX12 yX12_shown yX12_shown) := ⟨List.mem_of_getElem? (i := 1296) (by decide +kernel), good_of_word rfl⟩
theorem q_1297 : z_in (.code yX12_shown cX12_shown 7 (some .int)) := ⟨List.mem_of_getElem? (i := 1297) (by decide +kernel), good_of_word rfl⟩
theorem q_1298 : z_in (.methodLink RL 88 yX12_act) := ⟨List.mem_of_getElem? (i := 1298) (by decide +kernel), good_of_word rfl⟩
theorem q_1299 : z_in (.instanceMethod yX12_act) := ⟨List.mem_of_getElem? (i := 1299) (by decide +kernel), good_of_word rfl⟩
theorem q_1300 : z_in (.selects RX12 yX12_act yX12_act) := ⟨List.mem_of_getElem? (i := 1300) (by decide +kernel), good_of_word rfl⟩
theorem q_1301 : z_in (.code yX12_act cX12_act 2 (some .int)) := ⟨List.mem_of_getElem? (i := 1301) (by decide +kernel), good_of_word rfl⟩
theorem q_1302 : z_in (.methodLink RL 92 yX12_sign) := ⟨List.mem_of_getElem? (i := 1302) (by decide +kernel), good_of_word rfl⟩
theorem q_1303 : z_in (.instanceMethod yX12_sign) := ⟨List.mem_of_getElem? (i := 1303) (by decide +kernel), good_of_word rfl⟩
theorem q_1304 : z_in (.selects RX12 yX12_sign yX12_sign) := ⟨List.mem_of_getElem? (i := 1304) (by decide +kernel), good_of_word rfl⟩
theorem q_1305 : z_in (.code yX12_sign cX12_sign 3 (some .int)) := ⟨List.mem_of_getElem? (i := 1305) (by decide +kernel), good_of_word rfl⟩
theorem q_1306 : z_in (.constantLong RX12 204 (33)) := ⟨List.mem_of_getElem? (i := 1306) (by decide +kernel), good_of_word rfl⟩
theorem q_1307 : z_in (.constantLong RX12 206 (126)) := ⟨List.mem_of_getElem? (i := 1307) (by decide +kernel), good_of_word rfl⟩
theorem q_1308 : z_in (.methodLink RL 96 yX12_fault) := ⟨List.mem_of_getElem? (i := 1308) (by decide +kernel), good_of_word rfl⟩
theorem q_1309 : z_in (.instanceMethod yX12_fault) := ⟨List.mem_of_getElem? (i := 1309) (by decide +kernel), good_of_word rfl⟩
theorem q_1310 : z_in (.selects RX12 yX12_fault yX12_fault) := ⟨List.mem_of_getElem? (i := 1310) (by decide +kernel), good_of_word rfl⟩
theorem q_1311 : z_in (.code yX12_fault cX12_fault 2 (some .int)) := ⟨List.mem_of_getElem? (i := 1311) (by decide +kernel), good_of_word rfl⟩
theorem q_1312 : z_in (.methodLink RX12 215 yX12_faultOf) := ⟨List.mem_of_getElem? (i := 1312) (by decide +kernel), good_of_word rfl⟩
theorem q_1314 : z_in (.instanceMethod yX12_faultOf) := ⟨List.mem_of_getElem? (i := 1314) (by decide +kernel), good_of_word rfl⟩
theorem q_1315 : z_in (.code yX12_faultOf cX12_faultOf 6 (some .int)) := ⟨List.mem_of_getElem? (i := 1315) (by decide +kernel), good_of_word rfl⟩
theorem q_1316 : z_in (.constantLong RX12 208 (48)) := ⟨List.mem_of_getElem? (i := 1316) (by decide +kernel), good_of_word rfl⟩
theorem q_1317 : z_in (.constantLong RX12 210 (57)) := ⟨List.mem_of_getElem? (i := 1317) (by decide +kernel), good_of_word rfl⟩
theorem q_1318 : z_in (.methodLink RX12 212 yX12_hasDigits) := ⟨List.mem_of_getElem? (i := 1318) (by decide +kernel), good_of_word rfl⟩
theorem q_1319 : z_in (.static yX12_hasDigits) := ⟨List.mem_of_getElem? (i := 1319) (by decide +kernel), good_of_word rfl⟩
theorem q_1320 : z_in (.code yX12_hasDigits cX12_hasDigits 1 (some .boolean)) := ⟨List.mem_of_getElem? (i := 1320) (by decide +kernel), good_of_word rfl⟩
theorem q_1321 : z_in (.methodLink RL 100 yX12_force) := ⟨List.mem_of_getElem? (i := 1321) (by decide +kernel), good_of_word rfl⟩
theorem q_1322 : z_in (.instanceMethod yX12_force) := ⟨List.mem_of_getElem? (i := 1322) (by decide +kernel), good_of_word rfl⟩
theorem q_1323 : z_in (.selects RX12 yX12_force yX12_force) := ⟨List.mem_of_getElem? (i := 1323) (by decide +kernel), good_of_word rfl⟩
theorem q_1324 : z_in (.code yX12_force cX12_force 2 (some .int)) := ⟨List.mem_of_getElem? (i := 1324) (by decide +kernel), good_of_word rfl⟩
theorem q_1325 : z_in (.methodLink RX12 218 yX12_forceOf) := ⟨List.mem_of_getElem? (i := 1325) (by decide +kernel), good_of_word rfl⟩
theorem q_1327 : z_in (.instanceMethod yX12_forceOf) := ⟨List.mem_of_getElem? (i := 1327) (by decide +kernel), good_of_word rfl⟩
theorem q_1328 : z_in (.code yX12_forceOf cX12_forceOf 5 (some .int)) := ⟨List.mem_of_getElem? (i := 1328) (by decide +kernel), good_of_word rfl⟩
theorem q_1329 : z_in (.methodLink RL 104 yX12_may) := ⟨List.mem_of_getElem? (i := 1329) (by decide +kernel), good_of_word rfl⟩
theorem q_1330 : z_in (.instanceMethod yX12_may) := ⟨List.mem_of_getElem? (i := 1330) (by decide +kernel), good_of_word rfl⟩
theorem q_1331 : z_in (.selects RX12 yX12_may yX12_may) := ⟨List.mem_of_getElem? (i := 1331) (by decide +kernel), good_of_word rfl⟩
theorem q_1332 : z_in (.code yX12_may cX12_may 3 (some .int)) := ⟨List.mem_of_getElem? (i := 1332) (by decide +kernel), good_of_word rfl⟩
theorem q_1333 : z_in (.methodLink RX12 229 yX12_asShown) := ⟨List.mem_of_getElem? (i := 1333) (by decide +kernel), good_of_word rfl⟩
theorem q_1335 : z_in (.instanceMethod yX12_asShown) := ⟨List.mem_of_getElem? (i := 1335) (by decide +kernel), good_of_word rfl⟩
theorem q_1336 : z_in (.code yX12_asShown cX12_asShown 3 (some .boolean)) := ⟨List.mem_of_getElem? (i := 1336) (by decide +kernel), good_of_word rfl⟩
theorem q_1337 : z_in (.methodLink RX12 225 yX12_mayBe) := ⟨List.mem_of_getElem? (i := 1337) (by decide +kernel), good_of_word rfl⟩
theorem q_1339 : z_in (.instanceMethod yX12_mayBe) := ⟨List.mem_of_getElem? (i := 1339) (by decide +kernel), good_of_word rfl⟩
theorem q_1340 : z_in (.code yX12_mayBe cX12_mayBe 8 (some .boolean)) := ⟨List.mem_of_getElem? (i := 1340) (by decide +kernel), good_of_word rfl⟩
theorem q_1341 : z_in (.methodLink RX12 221 yX12_test) := ⟨List.mem_of_getElem? (i := 1341) (by decide +kernel), good_of_word rfl⟩
theorem q_1343 : z_in (.instanceMethod yX12_test) := ⟨List.mem_of_getElem? (i := 1343) (by decide +kernel), good_of_word rfl⟩
theorem q_1344 : z_in (.code yX12_test cX12_test 5 (some .boolean)) := ⟨List.mem_of_getElem? (i := 1344) (by decide +kernel), good_of_word rfl⟩
theorem q_1345 : z_in (.methodLink RX12 151 yX12_isAboard) := ⟨List.mem_of_getElem? (i := 1345) (by decide +kernel), good_of_word rfl⟩
theorem q_1346 : z_in (.static yX12_isAboard) := ⟨List.mem_of_getElem? (i := 1346) (by decide +kernel), good_of_word rfl⟩
theorem q_1347 : z_in (.code yX12_isAboard cX12_isAboard 1 (some .boolean)) := ⟨List.mem_of_getElem? (i := 1347) (by decide +kernel), good_of_word rfl⟩
theorem q_1348 : z_in (.constantLong RX12 149 (19)) := ⟨List.mem_of_getElem? (i := 1348) (by decide +kernel), good_of_word rfl⟩
theorem q_1349 : z_in (.methodLink RL 108 yX12_mayTruly) := ⟨List.mem_of_getElem? (i := 1349) (by decide +kernel), good_of_word rfl⟩
theorem q_1350 : z_in (.instanceMethod yX12_mayTruly) := ⟨List.mem_of_getElem? (i := 1350) (by decide +kernel), good_of_word rfl⟩
theorem q_1351 : z_in (.selects RX12 yX12_mayTruly yX12_mayTruly) := ⟨List.mem_of_getElem? (i := 1351) (by decide +kernel), good_of_word rfl⟩
theorem q_1352 : z_in (.code yX12_mayTruly cX12_mayTruly 2 (some .int)) := ⟨List.mem_of_getElem? (i := 1352) (by decide +kernel), good_of_word rfl⟩
theorem q_1353 : z_in (.methodLink RX12 233 yX12_truly) := ⟨List.mem_of_getElem? (i := 1353) (by decide +kernel), good_of_word rfl⟩
theorem q_1355 : z_in (.instanceMethod yX12_truly) := ⟨List.mem_of_getElem? (i := 1355) (by decide +kernel), good_of_word rfl⟩
theorem q_1356 : z_in (.code yX12_truly cX12_truly 4 (some .boolean)) := ⟨List.mem_of_getElem? (i := 1356) (by decide +kernel), good_of_word rfl⟩
theorem q_1357 : z_in (.methodLink RL 112 yX12_take) := ⟨List.mem_of_getElem? (i := 1357) (by decide +kernel), good_of_word rfl⟩
theorem q_1358 : z_in (.instanceMethod yX12_take) := ⟨List.mem_of_getElem? (i := 1358) (by decide +kernel), good_of_word rfl⟩
theorem q_1359 : z_in (.selects RX12 yX12_take yX12_take) := ⟨List.mem_of_getElem? (i := 1359) (by decide +kernel), good_of_word rfl⟩
theorem q_1360 : z_in (.code yX12_take cX12_take 5 (some .int)) := ⟨List.mem_of_getElem? (i := 1360) (by decide +kernel), good_of_word rfl⟩
theorem q_1361 : z_in (.methodLink RX12 236 yX12_isHere) := ⟨List.mem_of_getElem? (i := 1361) (by decide +kernel), good_of_word rfl⟩
theorem q_1363 : z_in (.instanceMethod yX12_isHere) := ⟨List.mem_of_getElem? (i := 1363) (by decide +kernel), good_of_word rfl⟩
theorem q_1364 : z_in (.code yX12_isHere cX12_isHere 2 (some .boolean)) := ⟨List.mem_of_getElem? (i := 1364) (by decide +kernel), good_of_word rfl⟩
theorem q_1365 : z_in (.methodLink RL 116 yX12_taking) := ⟨List.mem_of_getElem? (i := 1365) (by decide +kernel), good_of_word rfl⟩
theorem q_1366 : z_in (.instanceMethod yX12_taking) := ⟨List.mem_of_getElem? (i := 1366) (by decide +kernel), good_of_word rfl⟩
theorem q_1367 : z_in (.selects RX12 yX12_taking yX12_taking) := ⟨List.mem_of_getElem? (i := 1367) (by decide +kernel), good_of_word rfl⟩
theorem q_1368 : z_in (.code yX12_taking cX12_taking 3 (some .int)) := ⟨List.mem_of_getElem? (i := 1368) (by decide +kernel), good_of_word rfl⟩
theorem q_1369 : z_in (.methodLink RL 120 yX12_wronged) := ⟨List.mem_of_getElem? (i := 1369) (by decide +kernel), good_of_word rfl⟩
theorem q_1370 : z_in (.instanceMethod yX12_wronged) := ⟨List.mem_of_getElem? (i := 1370) (by decide +kernel), good_of_word rfl⟩
theorem q_1371 : z_in (.selects RX12 yX12_wronged yX12_wronged) := ⟨List.mem_of_getElem? (i := 1371) (by decide +kernel), good_of_word rfl⟩
theorem q_1372 : z_in (.code yX12_wronged cX12_wronged 3 (some .int)) := ⟨List.mem_of_getElem? (i := 1372) (by decide +kernel), good_of_word rfl⟩
theorem q_1373 : z_in (.methodLink RX12 239 yX12_isWronged) := ⟨List.mem_of_getElem? (i := 1373) (by decide +kernel), good_of_word rfl⟩
theorem q_1375 : z_in (.instanceMethod yX12_isWronged) := ⟨List.mem_of_getElem? (i := 1375) (by decide +kernel), good_of_word rfl⟩
theorem q_1376 : z_in (.code yX12_isWronged cX12_isWronged 5 (some .boolean)) := ⟨List.mem_of_getElem? (i := 1376) (by decide +kernel), good_of_word rfl⟩
theorem q_1377 : z_in (.methodLink RL 124 yX12_wrongedMan) := ⟨List.mem_of_getElem? (i := 1377) (by decide +kernel), good_of_word rfl⟩
theorem q_1378 : z_in (.instanceMethod yX12_wrongedMan) := ⟨List.mem_of_getElem? (i := 1378) (by decide +kernel), good_of_word rfl⟩
theorem q_1379 : z_in (.selects RX12 yX12_wrongedMan yX12_wrongedMan) := ⟨List.mem_of_getElem? (i := 1379) (by decide +kernel), good_of_word rfl⟩
theorem q_1380 : z_in (.code yX12_wrongedMan cX12_wrongedMan 4 (some .int)) := ⟨List.mem_of_getElem? (i := 1380) (by decide +kernel), good_of_word rfl⟩
theorem q_1381 : z_in (.methodLink RL 128 yX12_letGo) := ⟨List.mem_of_getElem? (i := 1381) (by decide +kernel), good_of_word rfl⟩
theorem q_1382 : z_in (.instanceMethod yX12_letGo) := ⟨List.mem_of_getElem? (i := 1382) (by decide +kernel), good_of_word rfl⟩
theorem q_1383 : z_in (.selects RX12 yX12_letGo yX12_letGo) := ⟨List.mem_of_getElem? (i := 1383) (by decide +kernel), good_of_word rfl⟩
theorem q_1384 : z_in (.code yX12_letGo cX12_letGo 3 (some .int)) := ⟨List.mem_of_getElem? (i := 1384) (by decide +kernel), good_of_word rfl⟩
theorem q_1385 : z_in (.methodLink RL 132 yX12_quiet) := ⟨List.mem_of_getElem? (i := 1385) (by decide +kernel), good_of_word rfl⟩
theorem q_1386 : z_in (.instanceMethod yX12_quiet) := ⟨List.mem_of_getElem? (i := 1386) (by decide +kernel), good_of_word rfl⟩
theorem q_1387 : z_in (.selects RX12 yX12_quiet yX12_quiet) := ⟨List.mem_of_getElem? (i := 1387) (by decide +kernel), good_of_word rfl⟩
theorem q_1388 : z_in (.code yX12_quiet cX12_quiet 3 (some .int)) := ⟨List.mem_of_getElem? (i := 1388) (by decide +kernel), good_of_word rfl⟩
theorem q_1389 : z_in (.methodLink RL 136 yX12_heard) := ⟨List.mem_of_getElem? (i := 1389) (by decide +kernel), good_of_word rfl⟩
theorem q_1390 : z_in (.instanceMethod yX12_heard) := ⟨List.mem_of_getElem? (i := 1390) (by decide +kernel), good_of_word rfl⟩
theorem q_1391 : z_in (.selects RX12 yX12_heard yX12_heard) := ⟨List.mem_of_getElem? (i := 1391) (by decide +kernel), good_of_word rfl⟩
theorem q_1392 : z_in (.code yX12_heard cX12_heard 2 (some .int)) := ⟨List.mem_of_getElem? (i := 1392) (by decide +kernel), good_of_word rfl⟩
theorem q_1393 : z_in (.methodLink RL 140 yX12_tender) := ⟨List.mem_of_getElem? (i := 1393) (by decide +kernel), good_of_word rfl⟩
theorem q_1394 : z_in (.instanceMethod yX12_tender) := ⟨List.mem_of_getElem? (i := 1394) (by decide +kernel), good_of_word rfl⟩
theorem q_1395 : z_in (.selects RX12 yX12_tender yX12_tender) := ⟨List.mem_of_getElem? (i := 1395) (by decide +kernel), good_of_word rfl⟩
theorem q_1396 : z_in (.code yX12_tender cX12_tender 4 (some .int)) := ⟨List.mem_of_getElem? (i := 1396) (by decide +kernel), good_of_word rfl⟩
theorem q_1397 : z_in (.constantLong RX12 242 (100)) := ⟨List.mem_of_getElem? (i := 1397) (by decide +kernel), good_of_word rfl⟩
theorem q_1398 : z_in (.methodLink RL 144 yX12_met) := ⟨List.mem_of_getElem? (i := 1398) (by decide +kernel), good_of_word rfl⟩
theorem q_1399 : z_in (.instanceMethod yX12_met) := ⟨List.mem_of_getElem? (i := 1399) (by decide +kernel), good_of_word rfl⟩
theorem q_1400 : z_in (.selects RX12 yX12_met yX12_met) := ⟨List.mem_of_getElem? (i := 1400) (by decide +kernel), good_of_word rfl⟩
theorem q_1401 : z_in (.code yX12_met cX12_met 3 (some .int)) := ⟨List.mem_of_getElem? (i := 1401) (by decide +kernel), good_of_word rfl⟩
theorem q_1402 : z_in (.methodLink RX12 252 yX12_badGangs) := ⟨List.mem_of_getElem? (i := 1402) (by decide +kernel), good_of_word rfl⟩
theorem q_1403 : z_in (.static yX12_badGangs) := ⟨List.mem_of_getElem? (i := 1403) (by decide +kernel), good_of_word rfl⟩
theorem q_1404 : z_in (.code yX12_badGangs cX12_badGangs 2 (some .boolean)) := ⟨List.mem_of_getElem? (i := 1404) (by decide +kernel), good_of_word rfl⟩
theorem q_1405 : z_in (.constantLong RX12 250 (2)) := ⟨List.mem_of_getElem? (i := 1405) (by decide +kernel), good_of_word rfl⟩
theorem q_1406 : z_in (.methodLink RX12 255 yX12_look) := ⟨List.mem_of_getElem? (i := 1406) (by decide +kernel), good_of_word rfl⟩
theorem q_1408 : z_in (.instanceMethod yX12_look) := ⟨List.mem_of_getElem? (i := 1408) (by decide +kernel), good_of_word rfl⟩
theorem q_1409 : z_in (.code yX12_look cX12_look 7 (some .int)) := ⟨List.mem_of_getElem? (i := 1409) (by decide +kernel), good_of_word rfl⟩
theorem q_1410 : z_in (.methodLink RX12 244 yX12_meet) := ⟨List.mem_of_getElem? (i := 1410) (by decide +kernel), good_of_word rfl⟩
theorem q_1412 : z_in (.instanceMethod yX12_meet) := ⟨List.mem_of_getElem? (i := 1412) (by decide +kernel), good_of_word rfl⟩
theorem q_1413 : z_in (.code yX12_meet cX12_meet 11 (some .int)) := ⟨List.mem_of_getElem? (i := 1413) (by decide +kernel), good_of_word rfl⟩
theorem q_1414 : z_in (.methodLink RL 149 yX12_laid) := ⟨List.mem_of_getElem? (i := 1414) (by decide +kernel), good_of_word rfl⟩
theorem q_1415 : z_in (.instanceMethod yX12_laid) := ⟨List.mem_of_getElem? (i := 1415) (by decide +kernel), good_of_word rfl⟩
theorem q_1416 : z_in (.selects RX12 yX12_laid yX12_laid) := ⟨List.mem_of_getElem? (i := 1416) (by decide +kernel), good_of_word rfl⟩
theorem q_1417 : z_in (.code yX12_laid cX12_laid 5 (some .int)) := ⟨List.mem_of_getElem? (i := 1417) (by decide +kernel), good_of_word rfl⟩
theorem q_1418 : z_in (.methodLink RL 153 yX12_ship) := ⟨List.mem_of_getElem? (i := 1418) (by decide +kernel), good_of_word rfl⟩
theorem q_1419 : z_in (.instanceMethod yX12_ship) := ⟨List.mem_of_getElem? (i := 1419) (by decide +kernel), good_of_word rfl⟩
theorem q_1420 : z_in (.selects RX12 yX12_ship yX12_ship) := ⟨List.mem_of_getElem? (i := 1420) (by decide +kernel), good_of_word rfl⟩
theorem q_1421 : z_in (.code yX12_ship cX12_ship 5 (some .int)) := ⟨List.mem_of_getElem? (i := 1421) (by decide +kernel), good_of_word rfl⟩
theorem q_1422 : z_in (.methodLink RL 157 yX12_of) := ⟨List.mem_of_getElem? (i := 1422) (by decide +kernel), good_of_word rfl⟩
theorem q_1423 : z_in (.instanceMethod yX12_of) := ⟨List.mem_of_getElem? (i := 1423) (by decide +kernel), good_of_word rfl⟩
theorem q_1424 : z_in (.selects RX12 yX12_of yX12_of) := ⟨List.mem_of_getElem? (i := 1424) (by decide +kernel), good_of_word rfl⟩
theorem q_1425 : z_in (.code yX12_of cX12_of 3 (some .int)) := ⟨List.mem_of_getElem? (i := 1425) (by decide +kernel), good_of_word rfl⟩
theorem q_1426 : z_in (.methodLink RX12 259 yX12_noShip) := ⟨List.mem_of_getElem? (i := 1426) (by decide +kernel), good_of_word rfl⟩
theorem q_1428 : z_in (.instanceMethod yX12_noShip) := ⟨List.mem_of_getElem? (i := 1428) (by decide +kernel), good_of_word rfl⟩
theorem q_1429 : z_in (.code yX12_noShip cX12_noShip 2 (some .boolean)) := ⟨List.mem_of_getElem? (i := 1429) (by decide +kernel), good_of_word rfl⟩
theorem q_1430 : z_in (.methodLink RX12 262 yX12_skilled) := ⟨List.mem_of_getElem? (i := 1430) (by decide +kernel), good_of_word rfl⟩
theorem q_1432 : z_in (.instanceMethod yX12_skilled) := ⟨List.mem_of_getElem? (i := 1432) (by decide +kernel), good_of_word rfl⟩
theorem q_1433 : z_in (.code yX12_skilled cX12_skilled 4 (some .int)) := ⟨List.mem_of_getElem? (i := 1433) (by decide +kernel), good_of_word rfl⟩
theorem q_1434 : z_in (.methodLink RL 161 yX12_spare) := ⟨List.mem_of_getElem? (i := 1434) (by decide +kernel), good_of_word rfl⟩
theorem q_1435 : z_in (.instanceMethod yX12_spare) := ⟨List.mem_of_getElem? (i := 1435) (by decide +kernel), good_of_word rfl⟩
theorem q_1436 : z_in (.selects RX12 yX12_spare yX12_spare) := ⟨List.mem_of_getElem? (i := 1436) (by decide +kernel), good_of_word rfl⟩
theorem q_1437 : z_in (.code yX12_spare cX12_spare 3 (some .int)) := ⟨List.mem_of_getElem? (i := 1437) (by decide +kernel), good_of_word rfl⟩
theorem q_1438 : z_in (.methodLink RX12 265 yX12_badWeather) := ⟨List.mem_of_getElem? (i := 1438) (by decide +kernel), good_of_word rfl⟩
theorem q_1439 : z_in (.static yX12_badWeather) := ⟨List.mem_of_getElem? (i := 1439) (by decide +kernel), good_of_word rfl⟩
theorem q_1440 : z_in (.code yX12_badWeather cX12_badWeather 1 (some .boolean)) := ⟨List.mem_of_getElem? (i := 1440) (by decide +kernel), good_of_word rfl⟩
theorem q_1441 : z_in (.methodLink RX12 268 yX12_spared) := ⟨List.mem_of_getElem? (i := 1441) (by decide +kernel), good_of_word rfl⟩
theorem q_1443 : z_in (.instanceMethod yX12_spared) := ⟨List.mem_of_getElem? (i := 1443) (by decide +kernel), good_of_word rfl⟩
theorem q_1444 : z_in (.code yX12_spared cX12_spared 4 (some .int)) := ⟨List.mem_of_getElem? (i := 1444) (by decide +kernel), good_of_word rfl⟩
theorem q_1445 : z_in (.methodLink RL 165 yX12_board) := ⟨List.mem_of_getElem? (i := 1445) (by decide +kernel), good_of_word rfl⟩
theorem q_1446 : z_in (.instanceMethod yX12_board) := ⟨List.mem_of_getElem? (i := 1446) (by decide +kernel), good_of_word rfl⟩
theorem q_1447 : z_in (.selects RX12 yX12_board yX12_board) := ⟨List.mem_of_getElem? (i := 1447) (by decide +kernel), good_of_word rfl⟩
theorem q_1448 : z_in (.code yX12_board cX12_board 3 (some .int)) := ⟨List.mem_of_getElem? (i := 1448) (by decide +kernel), good_of_word rfl⟩
theorem q_1449 : z_in (.methodLink RL 169 yX12_turn) := ⟨List.mem_of_getElem? (i := 1449) (by decide +kernel), good_of_word rfl⟩
theorem q_1450 : z_in (.instanceMethod yX12_turn) := ⟨List.mem_of_getElem? (i := 1450) (by decide +kernel), good_of_word rfl⟩
theorem q_1451 : z_in (.selects RX12 yX12_turn yX12_turn) := ⟨List.mem_of_getElem? (i := 1451) (by decide +kernel), good_of_word rfl⟩
theorem q_1452 : z_in (.code yX12_turn cX12_turn 4 (some .int)) := ⟨List.mem_of_getElem? (i := 1452) (by decide +kernel), good_of_word rfl⟩
theorem q_1453 : z_in (.methodLink RL 173 yX12_notAshore) := ⟨List.mem_of_getElem? (i := 1453) (by decide +kernel), good_of_word rfl⟩
theorem q_1454 : z_in (.instanceMethod yX12_notAshore) := ⟨List.mem_of_getElem? (i := 1454) (by decide +kernel), good_of_word rfl⟩
theorem q_1455 : z_in (.selects RX12 yX12_notAshore yX12_notAshore) := ⟨List.mem_of_getElem? (i := 1455) (by decide +kernel), good_of_word rfl⟩
theorem q_1456 : z_in (.code yX12_notAshore cX12_notAshore 4 (some .int)) := ⟨List.mem_of_getElem? (i := 1456) (by decide +kernel), good_of_word rfl⟩
theorem q_1457 : z_in (.methodLink RL 177 yX12_taken) := ⟨List.mem_of_getElem? (i := 1457) (by decide +kernel), good_of_word rfl⟩
theorem q_1458 : z_in (.instanceMethod yX12_taken) := ⟨List.mem_of_getElem? (i := 1458) (by decide +kernel), good_of_word rfl⟩
theorem q_1459 : z_in (.selects RX12 yX12_taken yX12_taken) := ⟨List.mem_of_getElem? (i := 1459) (by decide +kernel), good_of_word rfl⟩
theorem q_1460 : z_in (.code yX12_taken cX12_taken 4 (some .int)) := ⟨List.mem_of_getElem? (i := 1460) (by decide +kernel), good_of_word rfl⟩
theorem q_1461 : z_in (.methodLink RX12 271 yX12_mayGo) := ⟨List.mem_of_getElem? (i := 1461) (by decide +kernel), good_of_word rfl⟩
theorem q_1463 : z_in (.instanceMethod yX12_mayGo) := ⟨List.mem_of_getElem? (i := 1463) (by decide +kernel), good_of_word rfl⟩
theorem q_1464 : z_in (.code yX12_mayGo cX12_mayGo 2 (some .boolean)) := ⟨List.mem_of_getElem? (i := 1464) (by decide +kernel), good_of_word rfl⟩
theorem q_1465 : z_in (.methodLink RX12 274 yX12_fewest) := ⟨List.mem_of_getElem? (i := 1465) (by decide +kernel), good_of_word rfl⟩
theorem q_1467 : z_in (.instanceMethod yX12_fewest) := ⟨List.mem_of_getElem? (i := 1467) (by decide +kernel), good_of_word rfl⟩
theorem q_1468 : z_in (.code yX12_fewest cX12_fewest 10 (some .int)) := ⟨List.mem_of_getElem? (i := 1468) (by decide +kernel), good_of_word rfl⟩
theorem q_1469 : z_in (.methodLink RL 181 yX12_fleet) := ⟨List.mem_of_getElem? (i := 1469) (by decide +kernel), good_of_word rfl⟩
theorem q_1470 : z_in (.instanceMethod yX12_fleet) := ⟨List.mem_of_getElem? (i := 1470) (by decide +kernel), good_of_word rfl⟩
theorem q_1471 : z_in (.selects RX12 yX12_fleet yX12_fleet) := ⟨List.mem_of_getElem? (i := 1471) (by decide +kernel), good_of_word rfl⟩
theorem q_1472 : z_in (.code yX12_fleet cX12_fleet 9 (some .int)) := ⟨List.mem_of_getElem? (i := 1472) (by decide +kernel), good_of_word rfl⟩
theorem q_1473 : z_in (.methodLink RL 185 yX12_sail) := ⟨List.mem_of_getElem? (i := 1473) (by decide +kernel), good_of_word rfl⟩
theorem q_1474 : z_in (.instanceMethod yX12_sail) := ⟨List.mem_of_getElem? (i := 1474) (by decide +kernel), good_of_word rfl⟩
theorem q_1475 : z_in (.selects RX12 yX12_sail yX12_sail) := ⟨List.mem_of_getElem? (i := 1475) (by decide +kernel), good_of_word rfl⟩
theorem q_1476 : z_in (.code yX12_sail cX12_sail 2 (some .int)) := ⟨List.mem_of_getElem? (i := 1476) (by decide +kernel), good_of_word rfl⟩
theorem q_1477 : z_in (.methodLink RL 189 yX12_comeHome) := ⟨List.mem_of_getElem? (i := 1477) (by decide +kernel), good_of_word rfl⟩
theorem q_1478 : z_in (.instanceMethod yX12_comeHome) := ⟨List.mem_of_getElem? (i := 1478) (by decide +kernel), good_of_word rfl⟩
theorem q_1479 : z_in (.selects RX12 yX12_comeHome yX12_comeHome) := ⟨List.mem_of_getElem? (i := 1479) (by decide +kernel), good_of_word rfl⟩
theorem q_1480 : z_in (.code yX12_comeHome cX12_comeHome 2 (some .int)) := ⟨List.mem_of_getElem? (i := 1480) (by decide +kernel), good_of_word rfl⟩
theorem q_1481 : z_in (.methodLink RL 193 yX12_ticket) := ⟨List.mem_of_getElem? (i := 1481) (by decide +kernel), good_of_word rfl⟩
theorem q_1482 : z_in (.instanceMethod yX12_ticket) := ⟨List.mem_of_getElem? (i := 1482) (by decide +kernel), good_of_word rfl⟩
theorem q_1483 : z_in (.selects RX12 yX12_ticket yX12_ticket) := ⟨List.mem_of_getElem? (i := 1483) (by decide +kernel), good_of_word rfl⟩
theorem q_1484 : z_in (.code yX12_ticket cX12_ticket 4 (some .int)) := ⟨List.mem_of_getElem? (i := 1484) (by decide +kernel), good_of_word rfl⟩
theorem q_1485 : z_in (.constantLong RX12 282 (99)) := ⟨List.mem_of_getElem? (i := 1485) (by decide +kernel), good_of_word rfl⟩
theorem q_1486 : z_in (.methodLink RL 197 yX12_sell) := ⟨List.mem_of_getElem? (i := 1486) (by decide +kernel), good_of_word rfl⟩
theorem q_1487 : z_in (.instanceMethod yX12_sell) := ⟨List.mem_of_getElem? (i := 1487) (by decide +kernel), good_of_word rfl⟩
theorem q_1488 : z_in (.selects RX12 yX12_sell yX12_sell) := ⟨List.mem_of_getElem? (i := 1488) (by decide +kernel), good_of_word rfl⟩
theorem q_1489 : z_in (.code yX12_sell cX12_sell 5 (some .int)) := ⟨List.mem_of_getElem? (i := 1489) (by decide +kernel), good_of_word rfl⟩
theorem q_1490 : z_in (.methodLink RX12 284 yX12_noTicket) := ⟨List.mem_of_getElem? (i := 1490) (by decide +kernel), good_of_word rfl⟩
theorem q_1492 : z_in (.instanceMethod yX12_noTicket) := ⟨List.mem_of_getElem? (i := 1492) (by decide +kernel), good_of_word rfl⟩
theorem q_1493 : z_in (.code yX12_noTicket cX12_noTicket 2 (some .boolean)) := ⟨List.mem_of_getElem? (i := 1493) (by decide +kernel), good_of_word rfl⟩
theorem q_1494 : z_in (.methodLink RX12 287 yX12_noHolder) := ⟨List.mem_of_getElem? (i := 1494) (by decide +kernel), good_of_word rfl⟩
theorem q_1495 : z_in (.static yX12_noHolder) := ⟨List.mem_of_getElem? (i := 1495) (by decide +kernel), good_of_word rfl⟩
theorem q_1496 : z_in (.code yX12_noHolder cX12_noHolder 1 (some .boolean)) := ⟨List.mem_of_getElem? (i := 1496) (by decide +kernel), good_of_word rfl⟩
theorem q_1497 : z_in (.constantLong RX12 280 (9)) := ⟨List.mem_of_getElem? (i := 1497) (by decide +kernel), good_of_word rfl⟩
theorem q_1498 : z_in (.methodLink RX12 290 yX12_give) := ⟨List.mem_of_getElem? (i := 1498) (by decide +kernel), good_of_word rfl⟩
theorem q_1500 : z_in (.instanceMethod yX12_give) := ⟨List.mem_of_getElem? (i := 1500) (by decide +kernel), good_of_word rfl⟩
theorem q_1501 : z_in (.code yX12_give cX12_give 4 none) := ⟨List.mem_of_getElem? (i := 1501) (by decide +kernel), good_of_word rfl⟩
theorem q_1502 : z_in (.methodLink RL 201 yX12_pay) := ⟨List.mem_of_getElem? (i := 1502) (by decide +kernel), good_of_word rfl⟩
theorem q_1503 : z_in (.instanceMethod yX12_pay) := ⟨List.mem_of_getElem? (i := 1503) (by decide +kernel), good_of_word rfl⟩
theorem q_1504 : z_in (.selects RX12 yX12_pay yX12_pay) := ⟨List.mem_of_getElem? (i := 1504) (by decide +kernel), good_of_word rfl⟩
theorem q_1505 : z_in (.code yX12_pay cX12_pay 3 (some .int)) := ⟨List.mem_of_getElem? (i := 1505) (by decide +kernel), good_of_word rfl⟩
theorem q_1506 : z_in (.methodLink RL 205 yX12_ticketOf) := ⟨List.mem_of_getElem? (i := 1506) (by decide +kernel), good_of_word rfl⟩
theorem q_1507 : z_in (.instanceMethod yX12_ticketOf) := ⟨List.mem_of_getElem? (i := 1507) (by decide +kernel), good_of_word rfl⟩
theorem q_1508 : z_in (.selects RX12 yX12_ticketOf yX12_ticketOf) := ⟨List.mem_of_getElem? (i := 1508) (by decide +kernel), good_of_word rfl⟩
theorem q_1509 : z_in (.code yX12_ticketOf cX12_ticketOf 3 (some .int)) := ⟨List.mem_of_getElem? (i := 1509) (by decide +kernel), good_of_word rfl⟩
theorem q_1510 : z_in (.methodLink RL 209 yX12_purse) := ⟨List.mem_of_getElem? (i := 1510) (by decide +kernel), good_of_word rfl⟩
theorem q_1511 : z_in (.instanceMethod yX12_purse) := ⟨List.mem_of_getElem? (i := 1511) (by decide +kernel), good_of_word rfl⟩
theorem q_1512 : z_in (.selects RX12 yX12_purse yX12_purse) := ⟨List.mem_of_getElem? (i := 1512) (by decide +kernel), good_of_word rfl⟩
theorem q_1513 : z_in (.code yX12_purse cX12_purse 2 (some .int)) := ⟨List.mem_of_getElem? (i := 1513) (by decide +kernel), good_of_word rfl⟩
theorem q_1514 : z_in (.constant RX12 294 (10000000)) := ⟨List.mem_of_getElem? (i := 1514) (by decide +kernel), good_of_word rfl⟩
theorem q_1515 : z_in (.methodLink RL 213 yX12_wages) := ⟨List.mem_of_getElem? (i := 1515) (by decide +kernel), good_of_word rfl⟩
theorem q_1516 : z_in (.instanceMethod yX12_wages) := ⟨List.mem_of_getElem? (i := 1516) (by decide +kernel), good_of_word rfl⟩
theorem q_1517 : z_in (.selects RX12 yX12_wages yX12_wages) := ⟨List.mem_of_getElem? (i := 1517) (by decide +kernel), good_of_word rfl⟩
theorem q_1518 : z_in (.code yX12_wages cX12_wages 5 (some .int)) := ⟨List.mem_of_getElem? (i := 1518) (by decide +kernel), good_of_word rfl⟩
theorem q_1519 : z_in (.methodLink RL 217 yX12_count) := ⟨List.mem_of_getElem? (i := 1519) (by decide +kernel), good_of_word rfl⟩
theorem q_1520 : z_in (.instanceMethod yX12_count) := ⟨List.mem_of_getElem? (i := 1520) (by decide +kernel), good_of_word rfl⟩
theorem q_1521 : z_in (.selects RX12 yX12_count yX12_count) := ⟨List.mem_of_getElem? (i := 1521) (by decide +kernel), good_of_word rfl⟩
theorem q_1522 : z_in (.code yX12_count cX12_count 4 (some .int)) := ⟨List.mem_of_getElem? (i := 1522) (by decide +kernel), good_of_word rfl⟩
theorem z_gin (ws : List Cond) (ps : List Nat) (hp : ws = ps.filterMap (fun i => lw_tbl[i]?)) (h : ws.all goodWord = true) : GoodIn lw_tbl ws := by
  intro w hw
  have h1 := List.all_eq_true.mp h w hw
  rw [hp] at hw
  obtain ⟨i, -, hi⟩ := List.mem_filterMap.mp hw
  exact ⟨List.mem_of_getElem? hi, good_of_word h1⟩
theorem z_allN (N : Nat) (p : Nat → Prop) (d : ∀ n, Decidable (p n)) (h : (List.range N).all (fun n => @decide (p n) (d n)) = true) : ∀ n, n < N → p n := fun n hn => of_decide_eq_true (List.all_eq_true.mp h n (List.mem_range.mpr hn))
theorem gi_0 : GoodIn lw_tbl (u_ws RX0 TX0 6) := z_gin _ [584, 586, 588, 590, 592, 594] (by decide +kernel) (by decide +kernel)
theorem df_0 : ∀ j, j < 6 → defaultValue (tyX0 j) = match z_rk 0 j with | none => .int 0 | some _ => .null := by
  intro j hj
  match j, hj with
  | 0, _ => rfl
  | 1, _ => rfl
  | 2, _ => rfl
  | 3, _ => rfl
  | 4, _ => rfl
  | 5, _ => rfl
  | n + 6, h => omega
theorem ck_0 : z_CK 0 RX0 TX0 6 tyX0 := ⟨rfl, gi_0, rfl, by decide, tyX0_ok, nmX0, q_571, q_83, df_0⟩
theorem gi_1 : GoodIn lw_tbl (u_ws RX1 TX1 4) := z_gin _ [158, 160, 162, 164] (by decide +kernel) (by decide +kernel)
theorem df_1 : ∀ j, j < 4 → defaultValue (tyX1 j) = match z_rk 1 j with | none => .int 0 | some _ => .null := by
  intro j hj
  match j, hj with
  | 0, _ => rfl
  | 1, _ => rfl
  | 2, _ => rfl
  | 3, _ => rfl
  | n + 4, h => omega
theorem ck_1 : z_CK 1 RX1 TX1 4 tyX1 := ⟨rfl, gi_1, rfl, by decide, tyX1_ok, nmX1, q_149, q_73, df_1⟩
theorem gi_2 : GoodIn lw_tbl (u_ws RX2 TX2 4) := z_gin _ [177, 179, 181, 183] (by decide +kernel) (by decide +kernel)
theorem df_2 : ∀ j, j < 4 → defaultValue (tyX2 j) = match z_rk 2 j with | none => .int 0 | some _ => .null := by
  intro j hj
  match j, hj with
  | 0, _ => rfl
  | 1, _ => rfl
  | 2, _ => rfl
  | 3, _ => rfl
  | n + 4, h => omega
theorem ck_2 : z_CK 2 RX2 TX2 4 tyX2 := ⟨rfl, gi_2, rfl, by decide, tyX2_ok, nmX2, q_168, q_74, df_2⟩
theorem gi_3 : GoodIn lw_tbl (u_ws RX3 TX3 14) := z_gin _ [333, 335, 337, 339, 341, 343, 345, 347, 349, 351, 353, 355, 357, 359] (by decide +kernel) (by decide +kernel)
theorem df_3 : ∀ j, j < 14 → defaultValue (tyX3 j) = match z_rk 3 j with | none => .int 0 | some _ => .null := by
  intro j hj
  match j, hj with
  | 0, _ => rfl
  | 1, _ => rfl
  | 2, _ => rfl
  | 3, _ => rfl
  | 4, _ => rfl
  | 5, _ => rfl
  | 6, _ => rfl
  | 7, _ => rfl
  | 8, _ => rfl
  | 9, _ => rfl
  | 10, _ => rfl
  | 11, _ => rfl
  | 12, _ => rfl
  | 13, _ => rfl
  | n + 14, h => omega
theorem ck_3 : z_CK 3 RX3 TX3 14 tyX3 := ⟨rfl, gi_3, rfl, by decide, tyX3_ok, nmX3, q_297, q_78, df_3⟩
theorem gi_4 : GoodIn lw_tbl (u_ws RX4 TX4 6) := z_gin _ [507, 509, 511, 513, 515, 517] (by decide +kernel) (by decide +kernel)
theorem df_4 : ∀ j, j < 6 → defaultValue (tyX4 j) = match z_rk 4 j with | none => .int 0 | some _ => .null := by
  intro j hj
  match j, hj with
  | 0, _ => rfl
  | 1, _ => rfl
  | 2, _ => rfl
  | 3, _ => rfl
  | 4, _ => rfl
  | 5, _ => rfl
  | n + 6, h => omega
theorem ck_4 : z_CK 4 RX4 TX4 6 tyX4 := ⟨rfl, gi_4, rfl, by decide, tyX4_ok, nmX4, q_482, q_80, df_4⟩
theorem gi_5 : GoodIn lw_tbl (u_ws RX5 TX5 3) := z_gin _ [137, 139, 141] (by decide +kernel) (by decide +kernel)
theorem df_5 : ∀ j, j < 3 → defaultValue (tyX5 j) = match z_rk 5 j with | none => .int 0 | some _ => .null := by
  intro j hj
  match j, hj with
  | 0, _ => rfl
  | 1, _ => rfl
  | 2, _ => rfl
  | n + 3, h => omega
theorem ck_5 : z_CK 5 RX5 TX5 3 tyX5 := ⟨rfl, gi_5, rfl, by decide, tyX5_ok, nmX5, q_126, q_72, df_5⟩
theorem gi_6 : GoodIn lw_tbl (u_ws RX6 TX6 5) := z_gin _ [869, 871, 873, 875, 877] (by decide +kernel) (by decide +kernel)
theorem df_6 : ∀ j, j < 5 → defaultValue (tyX6 j) = match z_rk 6 j with | none => .int 0 | some _ => .null := by
  intro j hj
  match j, hj with
  | 0, _ => rfl
  | 1, _ => rfl
  | 2, _ => rfl
  | 3, _ => rfl
  | 4, _ => rfl
  | n + 5, h => omega
theorem ck_6 : z_CK 6 RX6 TX6 5 tyX6 := ⟨rfl, gi_6, rfl, by decide, tyX6_ok, nmX6, q_854, q_85, df_6⟩
theorem gi_7 : GoodIn lw_tbl (u_ws RX7 TX7 2) := z_gin _ [491, 493] (by decide +kernel) (by decide +kernel)
theorem df_7 : ∀ j, j < 2 → defaultValue (tyX7 j) = match z_rk 7 j with | none => .int 0 | some _ => .null := by
  intro j hj
  match j, hj with
  | 0, _ => rfl
  | 1, _ => rfl
  | n + 2, h => omega
theorem ck_7 : z_CK 7 RX7 TX7 2 tyX7 := ⟨rfl, gi_7, rfl, by decide, tyX7_ok, nmX7, q_484, q_81, df_7⟩
theorem gi_8 : GoodIn lw_tbl (u_ws RX8 TX8 6) := z_gin _ [722, 724, 726, 728, 730, 732] (by decide +kernel) (by decide +kernel)
theorem df_8 : ∀ j, j < 6 → defaultValue (tyX8 j) = match z_rk 8 j with | none => .int 0 | some _ => .null := by
  intro j hj
  match j, hj with
  | 0, _ => rfl
  | 1, _ => rfl
  | 2, _ => rfl
  | 3, _ => rfl
  | 4, _ => rfl
  | 5, _ => rfl
  | n + 6, h => omega
theorem ck_8 : z_CK 8 RX8 TX8 6 tyX8 := ⟨rfl, gi_8, rfl, by decide, tyX8_ok, nmX8, q_701, q_84, df_8⟩
theorem gi_9 : GoodIn lw_tbl (u_ws RX9 TX9 5) := z_gin _ [988, 990, 992, 994, 996] (by decide +kernel) (by decide +kernel)
theorem df_9 : ∀ j, j < 5 → defaultValue (tyX9 j) = match z_rk 9 j with | none => .int 0 | some _ => .null := by
  intro j hj
  match j, hj with
  | 0, _ => rfl
  | 1, _ => rfl
  | 2, _ => rfl
  | 3, _ => rfl
  | 4, _ => rfl
  | n + 5, h => omega
theorem ck_9 : z_CK 9 RX9 TX9 5 tyX9 := ⟨rfl, gi_9, rfl, by decide, tyX9_ok, nmX9, q_975, q_87, df_9⟩
theorem gi_10 : GoodIn lw_tbl (u_ws RX10 TX10 4) := z_gin _ [108, 110, 112, 114] (by decide +kernel) (by decide +kernel)
theorem df_10 : ∀ j, j < 4 → defaultValue (tyX10 j) = match z_rk 10 j with | none => .int 0 | some _ => .null := by
  intro j hj
  match j, hj with
  | 0, _ => rfl
  | 1, _ => rfl
  | 2, _ => rfl
  | 3, _ => rfl
  | n + 4, h => omega
theorem ck_10 : z_CK 10 RX10 TX10 4 tyX10 := ⟨rfl, gi_10, rfl, by decide, tyX10_ok, nmX10, q_97, q_71, df_10⟩
theorem gi_11 : GoodIn lw_tbl (u_ws RX11 TX11 19) := z_gin _ [209, 211, 213, 215, 217, 219, 221, 223, 225, 227, 229, 231, 233, 235, 237, 239, 241, 243, 245] (by decide +kernel) (by decide +kernel)
theorem df_11 : ∀ j, j < 19 → defaultValue (tyX11 j) = match z_rk 11 j with | none => .int 0 | some _ => .null := by
  intro j hj
  match j, hj with
  | 0, _ => rfl
  | 1, _ => rfl
  | 2, _ => rfl
  | 3, _ => rfl
  | 4, _ => rfl
  | 5, _ => rfl
  | 6, _ => rfl
  | 7, _ => rfl
  | 8, _ => rfl
  | 9, _ => rfl
  | 10, _ => rfl
  | 11, _ => rfl
  | 12, _ => rfl
  | 13, _ => rfl
  | 14, _ => rfl
  | 15, _ => rfl
  | 16, _ => rfl
  | 17, _ => rfl
  | 18, _ => rfl
  | n + 19, h => omega
theorem ck_11 : z_CK 11 RX11 TX11 19 tyX11 := ⟨rfl, gi_11, rfl, by decide, tyX11_ok, nmX11, q_89, q_70, df_11⟩
theorem gi_12 : GoodIn lw_tbl (u_ws RX12 TX12 39) := z_gin _ [1088, 1090, 1092, 1094, 1096, 1098, 1100, 1102, 1104, 1106, 1108, 1110, 1112, 1114, 1116, 1118, 1120, 1122, 1124, 1126, 1128, 1130, 1132, 1134, 1136, 1138, 1140, 1142, 1144, 1146, 1148, 1150, 1152, 1154, 1156, 1158, 1160, 1162, 1164] (by decide +kernel) (by decide +kernel)
theorem df_12 : ∀ j, j < 39 → defaultValue (tyX12 j) = match z_rk 12 j with | none => .int 0 | some _ => .null := by
  intro j hj
  match j, hj with
  | 0, _ => rfl
  | 1, _ => rfl
  | 2, _ => rfl
  | 3, _ => rfl
  | 4, _ => rfl
  | 5, _ => rfl
  | 6, _ => rfl
  | 7, _ => rfl
  | 8, _ => rfl
  | 9, _ => rfl
  | 10, _ => rfl
  | 11, _ => rfl
  | 12, _ => rfl
  | 13, _ => rfl
  | 14, _ => rfl
  | 15, _ => rfl
  | 16, _ => rfl
  | 17, _ => rfl
  | 18, _ => rfl
  | 19, _ => rfl
  | 20, _ => rfl
  | 21, _ => rfl
  | 22, _ => rfl
  | 23, _ => rfl
  | 24, _ => rfl
  | 25, _ => rfl
  | 26, _ => rfl
  | 27, _ => rfl
  | 28, _ => rfl
  | 29, _ => rfl
  | 30, _ => rfl
  | 31, _ => rfl
  | 32, _ => rfl
  | 33, _ => rfl
  | 34, _ => rfl
  | 35, _ => rfl
  | 36, _ => rfl
  | 37, _ => rfl
  | 38, _ => rfl
  | n + 39, h => omega
theorem ck_12 : z_CK 12 RX12 TX12 39 tyX12 := ⟨rfl, gi_12, rfl, by decide, tyX12_ok, nmX12, q_1043, q_76, df_12⟩
theorem ak_13 : z_AK 13 .byte := ⟨by decide, by decide, rfl, rfl⟩
theorem ak_14 : z_AK 14 .int := ⟨by decide, by decide, rfl, rfl⟩
theorem ak_15 : z_AK 15 .int := ⟨by decide, by decide, rfl, rfl⟩
theorem ak_16 : z_AK 16 .int := ⟨by decide, by decide, rfl, rfl⟩
theorem ak_17 : z_AK 17 .int := ⟨by decide, by decide, rfl, rfl⟩
theorem ak_18 : z_AK 18 .int := ⟨by decide, by decide, rfl, rfl⟩
theorem ak_19 : z_QK 19 8 RX8 := ⟨by decide, by decide, fun _ => rfl, rfl, by decide, rfl⟩
theorem ak_20 : z_AK 20 .boolean := ⟨by decide, by decide, rfl, rfl⟩
theorem ak_21 : z_AK 21 .int := ⟨by decide, by decide, rfl, rfl⟩
theorem ak_22 : z_QK 22 3 RX3 := ⟨by decide, by decide, fun _ => rfl, rfl, by decide, rfl⟩
theorem ak_23 : z_QK 23 4 RX4 := ⟨by decide, by decide, fun _ => rfl, rfl, by decide, rfl⟩
theorem ak_24 : z_QK 24 0 RX0 := ⟨by decide, by decide, fun _ => rfl, rfl, by decide, rfl⟩
theorem ak_25 : z_QK 25 6 RX6 := ⟨by decide, by decide, fun _ => rfl, rfl, by decide, rfl⟩
theorem ak_26 : z_QK 26 9 RX9 := ⟨by decide, by decide, fun _ => rfl, rfl, by decide, rfl⟩
theorem ak_27 : z_AK 27 .int := ⟨by decide, by decide, rfl, rfl⟩
theorem ak_28 : z_AK 28 .int := ⟨by decide, by decide, rfl, rfl⟩
theorem ak_29 : z_AK 29 .boolean := ⟨by decide, by decide, rfl, rfl⟩
theorem ak_30 : z_AK 30 .int := ⟨by decide, by decide, rfl, rfl⟩
theorem ak_31 : z_AK 31 .int := ⟨by decide, by decide, rfl, rfl⟩
theorem ak_32 : z_AK 32 .int := ⟨by decide, by decide, rfl, rfl⟩
theorem ak_33 : z_AK 33 .int := ⟨by decide, by decide, rfl, rfl⟩
theorem ak_34 : z_AK 34 .int := ⟨by decide, by decide, rfl, rfl⟩
theorem ak_35 : z_AK 35 .int := ⟨by decide, by decide, rfl, rfl⟩
theorem ak_36 : z_AK 36 .int := ⟨by decide, by decide, rfl, rfl⟩
theorem ak_37 : z_AK 37 .int := ⟨by decide, by decide, rfl, rfl⟩
theorem ak_38 : z_AK 38 .boolean := ⟨by decide, by decide, rfl, rfl⟩
theorem ak_39 : z_AK 39 .int := ⟨by decide, by decide, rfl, rfl⟩
theorem ak_40 : z_AK 40 .int := ⟨by decide, by decide, rfl, rfl⟩
theorem ak_41 : z_AK 41 .int := ⟨by decide, by decide, rfl, rfl⟩
theorem ak_42 : z_AK 42 .int := ⟨by decide, by decide, rfl, rfl⟩
theorem ak_43 : z_AK 43 .boolean := ⟨by decide, by decide, rfl, rfl⟩
theorem ak_44 : z_AK 44 .int := ⟨by decide, by decide, rfl, rfl⟩
theorem ak_45 : z_AK 45 .int := ⟨by decide, by decide, rfl, rfl⟩
theorem ak_46 : z_AK 46 .int := ⟨by decide, by decide, rfl, rfl⟩
theorem ak_47 : z_AK 47 .int := ⟨by decide, by decide, rfl, rfl⟩
theorem ak_48 : z_AK 48 .int := ⟨by decide, by decide, rfl, rfl⟩
theorem ak_49 : z_AK 49 .int := ⟨by decide, by decide, rfl, rfl⟩
theorem ak_50 : z_AK 50 .int := ⟨by decide, by decide, rfl, rfl⟩
theorem ak_51 : z_AK 51 .boolean := ⟨by decide, by decide, rfl, rfl⟩
theorem ak_52 : z_AK 52 .int := ⟨by decide, by decide, rfl, rfl⟩
theorem ak_53 : z_AK 53 .int := ⟨by decide, by decide, rfl, rfl⟩
theorem ak_54 : z_AK 54 .int := ⟨by decide, by decide, rfl, rfl⟩
theorem at_int : z_AT .int .int := ⟨rfl, fun _ _ => rfl, by decide, q_118, fun s c1 c2 h1 h2 => Option.some.inj ((show s.vm.findClass _ = some c1 from h1).symm.trans (show s.vm.findClass _ = some c2 from h2))⟩
theorem at_byte : z_AT .byte .byte := ⟨rfl, fun _ _ => rfl, by decide, q_597, fun s c1 c2 h1 h2 => Option.some.inj ((show s.vm.findClass _ = some c1 from h1).symm.trans (show s.vm.findClass _ = some c2 from h2))⟩
theorem at_boolean : z_AT .boolean .boolean := ⟨rfl, fun _ _ => rfl, by decide, q_117, fun s c1 c2 h1 h2 => Option.some.inj ((show s.vm.findClass _ = some c1 from h1).symm.trans (show s.vm.findClass _ = some c2 from h2))⟩
theorem z_neI {x k : Int32} (h : ¬ x = k) {n : Int} (hk : k.toInt = n) : x.toInt ≠ n := fun q => h (Int32.toInt_inj.mp (q.trans hk.symm))
