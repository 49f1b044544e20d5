def R_law : String := "MatchLatticeLaw"
theorem qw_0 : Cond.selects RX1 yX1_start yX1_start ∈ qm_tb := qm_tbl (i := 0) (by decide +kernel) rfl
theorem qw_1 : Cond.selects RX7 yX7_readLine yX7_readLine ∈ qm_tb := qm_tbl (i := 1) (by decide +kernel) rfl
theorem qw_2 : Cond.selects RX7 yX7_sideAt yX7_sideAt ∈ qm_tb := qm_tbl (i := 2) (by decide +kernel) rfl
theorem qw_3 : Cond.selects RX7 yX7_byteAt yX7_byteAt ∈ qm_tb := qm_tbl (i := 3) (by decide +kernel) rfl
theorem qw_4 : Cond.selects RX7 yX7_figureAt yX7_figureAt ∈ qm_tb := qm_tbl (i := 4) (by decide +kernel) rfl
theorem qw_5 : Cond.selects RX7 yX7_readFigures yX7_readFigures ∈ qm_tb := qm_tbl (i := 5) (by decide +kernel) rfl
theorem qw_6 : Cond.selects RX9 yX9_isOne yX9_isOne ∈ qm_tb := qm_tbl (i := 6) (by decide +kernel) rfl
theorem qw_7 : Cond.selects RX9 yX9_canStir yX9_canStir ∈ qm_tb := qm_tbl (i := 7) (by decide +kernel) rfl
theorem qw_8 : Cond.selects RX9 yX9_settle yX9_settle ∈ qm_tb := qm_tbl (i := 8) (by decide +kernel) rfl
theorem qw_9 : Cond.selects RX0 yX0_leastAlone yX0_leastAlone ∈ qm_tb := qm_tbl (i := 9) (by decide +kernel) rfl
theorem qw_10 : Cond.selects RX0 yX0_ask yX0_ask ∈ qm_tb := qm_tbl (i := 10) (by decide +kernel) rfl
theorem qw_11 : Cond.selects RX8 yX8_nextOf yX8_nextOf ∈ qm_tb := qm_tbl (i := 11) (by decide +kernel) rfl
theorem qw_12 : Cond.selects RX8 yX8_firstLeader yX8_firstLeader ∈ qm_tb := qm_tbl (i := 12) (by decide +kernel) rfl
theorem qw_13 : Cond.selects RX8 yX8_comesBack yX8_comesBack ∈ qm_tb := qm_tbl (i := 13) (by decide +kernel) rfl
theorem qw_14 : Cond.selects RX8 yX8_keepPairs yX8_keepPairs ∈ qm_tb := qm_tbl (i := 14) (by decide +kernel) rfl
theorem qw_15 : Cond.selects RX8 yX8_keepNeeds yX8_keepNeeds ∈ qm_tb := qm_tbl (i := 15) (by decide +kernel) rfl
theorem qw_16 : Cond.selects RX8 yX8_withNeeds yX8_withNeeds ∈ qm_tb := qm_tbl (i := 16) (by decide +kernel) rfl
theorem qw_17 : Cond.selects RX8 yX8_following yX8_following ∈ qm_tb := qm_tbl (i := 17) (by decide +kernel) rfl
theorem qw_18 : Cond.selects RX8 yX8_depthBehind yX8_depthBehind ∈ qm_tb := qm_tbl (i := 18) (by decide +kernel) rfl
theorem qw_19 : Cond.selects RX8 yX8_weigh yX8_weigh ∈ qm_tb := qm_tbl (i := 19) (by decide +kernel) rfl
theorem qw_20 : Cond.selects RX8 yX8_markPassed yX8_markPassed ∈ qm_tb := qm_tbl (i := 20) (by decide +kernel) rfl
theorem qw_21 : Cond.selects RX3 yX3_unused yX3_unused ∈ qm_tb := qm_tbl (i := 21) (by decide +kernel) rfl
theorem qw_22 : Cond.selects RX9 yX9_mend yX9_mend ∈ qm_tb := qm_tbl (i := 22) (by decide +kernel) rfl
theorem qw_23 : Cond.selects RX9 yX9_leftsAlone yX9_leftsAlone ∈ qm_tb := qm_tbl (i := 23) (by decide +kernel) rfl
theorem qw_24 : Cond.selects RX10 yX10_begins yX10_begins ∈ qm_tb := qm_tbl (i := 24) (by decide +kernel) rfl
theorem qw_25 : Cond.selects RX10 yX10_places yX10_places ∈ qm_tb := qm_tbl (i := 25) (by decide +kernel) rfl
theorem qw_26 : Cond.selects RX10 yX10_line yX10_line ∈ qm_tb := qm_tbl (i := 26) (by decide +kernel) rfl
theorem qw_27 : Cond.selects RX10 yX10_sees yX10_sees ∈ qm_tb := qm_tbl (i := 27) (by decide +kernel) rfl
theorem qw_28 : Cond.selects RX10 yX10_takes yX10_takes ∈ qm_tb := qm_tbl (i := 28) (by decide +kernel) rfl
theorem qw_29 : Cond.selects RX10 yX10_figure yX10_figure ∈ qm_tb := qm_tbl (i := 29) (by decide +kernel) rfl
theorem qw_30 : Cond.selects RX10 yX10_changes yX10_changes ∈ qm_tb := qm_tbl (i := 30) (by decide +kernel) rfl
theorem qw_31 : Cond.selects RX10 yX10_isOne yX10_isOne ∈ qm_tb := qm_tbl (i := 31) (by decide +kernel) rfl
theorem qw_32 : Cond.selects RX10 yX10_mayStir yX10_mayStir ∈ qm_tb := qm_tbl (i := 32) (by decide +kernel) rfl
theorem qw_33 : Cond.selects RX10 yX10_stirs yX10_stirs ∈ qm_tb := qm_tbl (i := 33) (by decide +kernel) rfl
theorem qw_34 : Cond.selects RX10 yX10_knows yX10_knows ∈ qm_tb := qm_tbl (i := 34) (by decide +kernel) rfl
theorem qw_35 : Cond.selects RX10 yX10_bests yX10_bests ∈ qm_tb := qm_tbl (i := 35) (by decide +kernel) rfl
theorem qw_36 : Cond.selects RX10 yX10_asks yX10_asks ∈ qm_tb := qm_tbl (i := 36) (by decide +kernel) rfl
theorem qw_37 : Cond.selects RX10 yX10_rather yX10_rather ∈ qm_tb := qm_tbl (i := 37) (by decide +kernel) rfl
theorem qw_38 : Cond.selects RX10 yX10_placeOf yX10_placeOf ∈ qm_tb := qm_tbl (i := 38) (by decide +kernel) rfl
theorem qw_39 : Cond.selects RX10 yX10_firstAlone yX10_firstAlone ∈ qm_tb := qm_tbl (i := 39) (by decide +kernel) rfl
theorem qw_40 : Cond.selects RX10 yX10_finds yX10_finds ∈ qm_tb := qm_tbl (i := 40) (by decide +kernel) rfl
theorem qw_41 : Cond.selects RX10 yX10_nexts yX10_nexts ∈ qm_tb := qm_tbl (i := 41) (by decide +kernel) rfl
theorem qw_42 : Cond.selects RX10 yX10_leftOf yX10_leftOf ∈ qm_tb := qm_tbl (i := 42) (by decide +kernel) rfl
theorem qw_43 : Cond.selects RX10 yX10_isFirst yX10_isFirst ∈ qm_tb := qm_tbl (i := 43) (by decide +kernel) rfl
theorem qw_44 : Cond.selects RX10 yX10_does yX10_does ∈ qm_tb := qm_tbl (i := 44) (by decide +kernel) rfl
theorem qw_45 : Cond.selects RX10 yX10_without yX10_without ∈ qm_tb := qm_tbl (i := 45) (by decide +kernel) rfl
theorem qw_46 : Cond.selects RX10 yX10_firstExposed yX10_firstExposed ∈ qm_tb := qm_tbl (i := 46) (by decide +kernel) rfl
theorem qw_47 : Cond.selects RX10 yX10_numberOf yX10_numberOf ∈ qm_tb := qm_tbl (i := 47) (by decide +kernel) rfl
theorem qw_48 : Cond.selects RX10 yX10_gain yX10_gain ∈ qm_tb := qm_tbl (i := 48) (by decide +kernel) rfl
theorem qw_49 : Cond.selects RX10 yX10_isMatch yX10_isMatch ∈ qm_tb := qm_tbl (i := 49) (by decide +kernel) rfl
theorem qw_50 : Cond.selects RX10 yX10_makes yX10_makes ∈ qm_tb := qm_tbl (i := 50) (by decide +kernel) rfl
theorem qw_51 : Cond.selects RX10 yX10_costOf yX10_costOf ∈ qm_tb := qm_tbl (i := 51) (by decide +kernel) rfl
theorem qw_52 : Cond.selects RX10 yX10_numberOf_ yX10_numberOf_ ∈ qm_tb := qm_tbl (i := 52) (by decide +kernel) rfl
theorem qw_53 : Cond.selects RX10 yX10_isLike yX10_isLike ∈ qm_tb := qm_tbl (i := 53) (by decide +kernel) rfl
theorem qw_54 : Cond.selects RX10 yX10_lies yX10_lies ∈ qm_tb := qm_tbl (i := 54) (by decide +kernel) rfl
theorem qw_55 : Cond.selects RX10 yX10_swaps yX10_swaps ∈ qm_tb := qm_tbl (i := 55) (by decide +kernel) rfl
theorem qw_56 : Cond.selects RX10 yX10_gives yX10_gives ∈ qm_tb := qm_tbl (i := 56) (by decide +kernel) rfl
theorem qw_57 : Cond.selects RX10 yX10_handLeft yX10_handLeft ∈ qm_tb := qm_tbl (i := 57) (by decide +kernel) rfl
theorem qw_58 : Cond.selects RX10 yX10_firstBlocking yX10_firstBlocking ∈ qm_tb := qm_tbl (i := 58) (by decide +kernel) rfl
theorem qw_59 : Cond.selects RX10 yX10_blocks yX10_blocks ∈ qm_tb := qm_tbl (i := 59) (by decide +kernel) rfl
theorem qw_61 : Cond.initialized RX9 ∈ qm_tb := qm_tbl (i := 61) (by decide +kernel) rfl
theorem qw_62 : Cond.initialized RX7 ∈ qm_tb := qm_tbl (i := 62) (by decide +kernel) rfl
theorem qw_63 : Cond.initialized RX6 ∈ qm_tb := qm_tbl (i := 63) (by decide +kernel) rfl
theorem qw_64 : Cond.initialized RX3 ∈ qm_tb := qm_tbl (i := 64) (by decide +kernel) rfl
theorem qw_65 : Cond.initialized RX1 ∈ qm_tb := qm_tbl (i := 65) (by decide +kernel) rfl
theorem qw_66 : Cond.initialized RX0 ∈ qm_tb := qm_tbl (i := 66) (by decide +kernel) rfl
theorem qw_67 : Cond.initialized RX5 ∈ qm_tb := qm_tbl (i := 67) (by decide +kernel) rfl
theorem qw_68 : Cond.initialized RX8 ∈ qm_tb := qm_tbl (i := 68) (by decide +kernel) rfl
theorem qw_69 : Cond.initialized RX4 ∈ qm_tb := qm_tbl (i := 69) (by decide +kernel) rfl
theorem qw_70 : Cond.initialized RX2 ∈ qm_tb := qm_tbl (i := 70) (by decide +kernel) rfl
theorem qw_71 : Cond.initialized RX10 ∈ qm_tb := qm_tbl (i := 71) (by decide +kernel) rfl
theorem qw_72 : Cond.initialized "java/lang/Math" ∈ qm_tb := qm_tbl (i := 72) (by decide +kernel) rfl
theorem qw_73 : Cond.classLink R_law 7 RX9 ∈ qm_tb := qm_tbl (i := 73) (by decide +kernel) rfl
theorem qw_74 : Cond.instantiable RX9 11 ∈ qm_tb := qm_tbl (i := 74) (by decide +kernel) rfl
theorem qw_75 : Cond.methodLink R_law 9 yX9_init ∈ qm_tb := qm_tbl (i := 75) (by decide +kernel) rfl
theorem qw_76 : Cond.instanceMethod yX9_init ∈ qm_tb := qm_tbl (i := 76) (by decide +kernel) rfl
theorem qw_77 : Cond.code yX9_init cX9_init 1 none ∈ qm_tb := qm_tbl (i := 77) (by decide +kernel) rfl
theorem qw_78 : Cond.methodLink RX9 1 Lib.objectInit ∈ qm_tb := qm_tbl (i := 78) (by decide +kernel) rfl
theorem qw_79 : Cond.instanceMethod Lib.objectInit ∈ qm_tb := qm_tbl (i := 79) (by decide +kernel) rfl
theorem qw_80 : Cond.code Lib.objectInit ⟨#[0xb1]⟩ 1 none ∈ qm_tb := qm_tbl (i := 80) (by decide +kernel) rfl
theorem qw_81 : Cond.classLink RX9 7 RX7 ∈ qm_tb := qm_tbl (i := 81) (by decide +kernel) rfl
theorem qw_82 : Cond.instantiable RX7 2 ∈ qm_tb := qm_tbl (i := 82) (by decide +kernel) rfl
theorem qw_83 : Cond.methodLink RX9 9 yX7_init ∈ qm_tb := qm_tbl (i := 83) (by decide +kernel) rfl
theorem qw_84 : Cond.instanceMethod yX7_init ∈ qm_tb := qm_tbl (i := 84) (by decide +kernel) rfl
theorem qw_85 : Cond.code yX7_init cX7_init 1 none ∈ qm_tb := qm_tbl (i := 85) (by decide +kernel) rfl
theorem qw_86 : Cond.methodLink RX7 3 Lib.objectInit ∈ qm_tb := qm_tbl (i := 86) (by decide +kernel) rfl
theorem qw_87 : Cond.classLink RX7 9 RX6 ∈ qm_tb := qm_tbl (i := 87) (by decide +kernel) rfl
theorem qw_88 : Cond.instantiable RX6 1 ∈ qm_tb := qm_tbl (i := 88) (by decide +kernel) rfl
theorem qw_89 : Cond.methodLink RX7 11 yX6_init ∈ qm_tb := qm_tbl (i := 89) (by decide +kernel) rfl
theorem qw_90 : Cond.instanceMethod yX6_init ∈ qm_tb := qm_tbl (i := 90) (by decide +kernel) rfl
theorem qw_91 : Cond.code yX6_init cX6_init 2 none ∈ qm_tb := qm_tbl (i := 91) (by decide +kernel) rfl
theorem qw_92 : Cond.methodLink RX6 3 Lib.objectInit ∈ qm_tb := qm_tbl (i := 92) (by decide +kernel) rfl
theorem qw_93 : Cond.fieldLink RX6 9 RX6 "cells" "[I" ∈ qm_tb := qm_tbl (i := 93) (by decide +kernel) rfl
theorem qw_98 : Cond.fieldLink RX7 14 RX7 "bytes" "LMatchLattice$Row;" ∈ qm_tb := qm_tbl (i := 98) (by decide +kernel) rfl
theorem qw_99 : Cond.fieldLink RX7 20 RX7 "length" "I" ∈ qm_tb := qm_tbl (i := 99) (by decide +kernel) rfl
theorem qw_105 : Cond.classLink RX9 16 RX3 ∈ qm_tb := qm_tbl (i := 105) (by decide +kernel) rfl
theorem qw_106 : Cond.instantiable RX3 3 ∈ qm_tb := qm_tbl (i := 106) (by decide +kernel) rfl
theorem qw_107 : Cond.methodLink RX9 18 yX3_init ∈ qm_tb := qm_tbl (i := 107) (by decide +kernel) rfl
theorem qw_108 : Cond.instanceMethod yX3_init ∈ qm_tb := qm_tbl (i := 108) (by decide +kernel) rfl
theorem qw_109 : Cond.code yX3_init cX3_init 1 none ∈ qm_tb := qm_tbl (i := 109) (by decide +kernel) rfl
theorem qw_110 : Cond.methodLink RX3 3 Lib.objectInit ∈ qm_tb := qm_tbl (i := 110) (by decide +kernel) rfl
theorem qw_111 : Cond.classLink RX3 9 RX6 ∈ qm_tb := qm_tbl (i := 111) (by decide +kernel) rfl
theorem qw_112 : Cond.methodLink RX3 11 yX6_init ∈ qm_tb := qm_tbl (i := 112) (by decide +kernel) rfl
theorem qw_113 : Cond.fieldLink RX3 14 RX3 "whos" "LMatchLattice$Row;" ∈ qm_tb := qm_tbl (i := 113) (by decide +kernel) rfl
theorem qw_114 : Cond.fieldLink RX3 20 RX3 "places" "LMatchLattice$Row;" ∈ qm_tb := qm_tbl (i := 114) (by decide +kernel) rfl
theorem qw_115 : Cond.fieldLink RX3 23 RX3 "each" "I" ∈ qm_tb := qm_tbl (i := 115) (by decide +kernel) rfl
theorem qw_123 : Cond.classLink RX9 26 RX1 ∈ qm_tb := qm_tbl (i := 123) (by decide +kernel) rfl
theorem qw_124 : Cond.instantiable RX1 4 ∈ qm_tb := qm_tbl (i := 124) (by decide +kernel) rfl
theorem qw_125 : Cond.methodLink RX9 28 yX1_init ∈ qm_tb := qm_tbl (i := 125) (by decide +kernel) rfl
theorem qw_126 : Cond.instanceMethod yX1_init ∈ qm_tb := qm_tbl (i := 126) (by decide +kernel) rfl
theorem qw_127 : Cond.code yX1_init cX1_init 1 none ∈ qm_tb := qm_tbl (i := 127) (by decide +kernel) rfl
theorem qw_128 : Cond.methodLink RX1 3 Lib.objectInit ∈ qm_tb := qm_tbl (i := 128) (by decide +kernel) rfl
theorem qw_129 : Cond.classLink RX1 9 RX6 ∈ qm_tb := qm_tbl (i := 129) (by decide +kernel) rfl
theorem qw_130 : Cond.methodLink RX1 13 yX6_init ∈ qm_tb := qm_tbl (i := 130) (by decide +kernel) rfl
theorem qw_131 : Cond.fieldLink RX1 16 RX1 "steps" "LMatchLattice$Row;" ∈ qm_tb := qm_tbl (i := 131) (by decide +kernel) rfl
theorem qw_132 : Cond.fieldLink RX1 20 RX1 "oldest" "I" ∈ qm_tb := qm_tbl (i := 132) (by decide +kernel) rfl
theorem qw_133 : Cond.fieldLink RX1 24 RX1 "behind" "I" ∈ qm_tb := qm_tbl (i := 133) (by decide +kernel) rfl
theorem qw_134 : Cond.fieldLink RX1 27 RX1 "before" "I" ∈ qm_tb := qm_tbl (i := 134) (by decide +kernel) rfl
theorem qw_144 : Cond.classLink RX9 33 RX0 ∈ qm_tb := qm_tbl (i := 144) (by decide +kernel) rfl
theorem qw_145 : Cond.instantiable RX0 4 ∈ qm_tb := qm_tbl (i := 145) (by decide +kernel) rfl
theorem qw_146 : Cond.methodLink RX9 35 yX0_init ∈ qm_tb := qm_tbl (i := 146) (by decide +kernel) rfl
theorem qw_147 : Cond.instanceMethod yX0_init ∈ qm_tb := qm_tbl (i := 147) (by decide +kernel) rfl
theorem qw_148 : Cond.code yX0_init cX0_init 1 none ∈ qm_tb := qm_tbl (i := 148) (by decide +kernel) rfl
theorem qw_149 : Cond.methodLink RX0 3 Lib.objectInit ∈ qm_tb := qm_tbl (i := 149) (by decide +kernel) rfl
theorem qw_150 : Cond.classLink RX0 9 RX5 ∈ qm_tb := qm_tbl (i := 150) (by decide +kernel) rfl
theorem qw_151 : Cond.instantiable RX5 1 ∈ qm_tb := qm_tbl (i := 151) (by decide +kernel) rfl
theorem qw_152 : Cond.methodLink RX0 11 yX5_init ∈ qm_tb := qm_tbl (i := 152) (by decide +kernel) rfl
theorem qw_153 : Cond.instanceMethod yX5_init ∈ qm_tb := qm_tbl (i := 153) (by decide +kernel) rfl
theorem qw_154 : Cond.code yX5_init cX5_init 1 none ∈ qm_tb := qm_tbl (i := 154) (by decide +kernel) rfl
theorem qw_155 : Cond.methodLink RX5 3 Lib.objectInit ∈ qm_tb := qm_tbl (i := 155) (by decide +kernel) rfl
theorem qw_156 : Cond.classLink RX5 9 RX6 ∈ qm_tb := qm_tbl (i := 156) (by decide +kernel) rfl
theorem qw_157 : Cond.methodLink RX5 11 yX6_init ∈ qm_tb := qm_tbl (i := 157) (by decide +kernel) rfl
theorem qw_158 : Cond.methodLink RX5 20 yX6_fill ∈ qm_tb := qm_tbl (i := 158) (by decide +kernel) rfl
theorem qw_159 : Cond.instanceMethod yX6_fill ∈ qm_tb := qm_tbl (i := 159) (by decide +kernel) rfl
theorem qw_160 : Cond.selects RX6 yX6_fill yX6_fill ∈ qm_tb := qm_tbl (i := 160) (by decide +kernel) rfl
theorem qw_161 : Cond.code yX6_fill cX6_fill 3 none ∈ qm_tb := qm_tbl (i := 161) (by decide +kernel) rfl
theorem qw_162 : Cond.fieldLink RX5 14 RX5 "partners" "LMatchLattice$Row;" ∈ qm_tb := qm_tbl (i := 162) (by decide +kernel) rfl
theorem qw_166 : Cond.classLink RX0 18 RX6 ∈ qm_tb := qm_tbl (i := 166) (by decide +kernel) rfl
theorem qw_167 : Cond.methodLink RX0 20 yX6_init ∈ qm_tb := qm_tbl (i := 167) (by decide +kernel) rfl
theorem qw_168 : Cond.fieldLink RX0 12 RX0 "outcome" "LMatchLattice$Pairing;" ∈ qm_tb := qm_tbl (i := 168) (by decide +kernel) rfl
theorem qw_169 : Cond.fieldLink RX0 23 RX0 "askedAlready" "LMatchLattice$Row;" ∈ qm_tb := qm_tbl (i := 169) (by decide +kernel) rfl
theorem qw_170 : Cond.fieldLink RX0 27 RX0 "told" "LMatchLattice$Row;" ∈ qm_tb := qm_tbl (i := 170) (by decide +kernel) rfl
theorem qw_171 : Cond.fieldLink RX0 30 RX0 "times" "I" ∈ qm_tb := qm_tbl (i := 171) (by decide +kernel) rfl
theorem qw_181 : Cond.classLink RX9 40 RX8 ∈ qm_tb := qm_tbl (i := 181) (by decide +kernel) rfl
theorem qw_182 : Cond.instantiable RX8 11 ∈ qm_tb := qm_tbl (i := 182) (by decide +kernel) rfl
theorem qw_183 : Cond.methodLink RX9 42 yX8_init ∈ qm_tb := qm_tbl (i := 183) (by decide +kernel) rfl
theorem qw_184 : Cond.instanceMethod yX8_init ∈ qm_tb := qm_tbl (i := 184) (by decide +kernel) rfl
theorem qw_185 : Cond.code yX8_init cX8_init 1 none ∈ qm_tb := qm_tbl (i := 185) (by decide +kernel) rfl
theorem qw_186 : Cond.methodLink RX8 3 Lib.objectInit ∈ qm_tb := qm_tbl (i := 186) (by decide +kernel) rfl
theorem qw_187 : Cond.classLink RX8 9 RX6 ∈ qm_tb := qm_tbl (i := 187) (by decide +kernel) rfl
theorem qw_188 : Cond.methodLink RX8 11 yX6_init ∈ qm_tb := qm_tbl (i := 188) (by decide +kernel) rfl
theorem qw_189 : Cond.classLink RX8 39 RX5 ∈ qm_tb := qm_tbl (i := 189) (by decide +kernel) rfl
theorem qw_190 : Cond.methodLink RX8 41 yX5_init ∈ qm_tb := qm_tbl (i := 190) (by decide +kernel) rfl
theorem qw_191 : Cond.fieldLink RX8 14 RX8 "lefts" "LMatchLattice$Row;" ∈ qm_tb := qm_tbl (i := 191) (by decide +kernel) rfl
theorem qw_192 : Cond.fieldLink RX8 20 RX8 "rights" "LMatchLattice$Row;" ∈ qm_tb := qm_tbl (i := 192) (by decide +kernel) rfl
theorem qw_193 : Cond.fieldLink RX8 23 RX8 "lengths" "LMatchLattice$Row;" ∈ qm_tb := qm_tbl (i := 193) (by decide +kernel) rfl
theorem qw_194 : Cond.fieldLink RX8 26 RX8 "gains" "LMatchLattice$Row;" ∈ qm_tb := qm_tbl (i := 194) (by decide +kernel) rfl
theorem qw_195 : Cond.fieldLink RX8 29 RX8 "needs" "LMatchLattice$Row;" ∈ qm_tb := qm_tbl (i := 195) (by decide +kernel) rfl
theorem qw_196 : Cond.fieldLink RX8 32 RX8 "depths" "LMatchLattice$Row;" ∈ qm_tb := qm_tbl (i := 196) (by decide +kernel) rfl
theorem qw_197 : Cond.fieldLink RX8 35 RX8 "total" "I" ∈ qm_tb := qm_tbl (i := 197) (by decide +kernel) rfl
theorem qw_198 : Cond.fieldLink RX8 42 RX8 "now" "LMatchLattice$Pairing;" ∈ qm_tb := qm_tbl (i := 198) (by decide +kernel) rfl
theorem qw_199 : Cond.fieldLink RX8 46 RX8 "followers" "LMatchLattice$Row;" ∈ qm_tb := qm_tbl (i := 199) (by decide +kernel) rfl
theorem qw_200 : Cond.fieldLink RX8 49 RX8 "broughtBy" "LMatchLattice$Row;" ∈ qm_tb := qm_tbl (i := 200) (by decide +kernel) rfl
theorem qw_201 : Cond.fieldLink RX8 52 RX8 "passedBy" "LMatchLattice$Row;" ∈ qm_tb := qm_tbl (i := 201) (by decide +kernel) rfl
theorem qw_225 : Cond.classLink RX9 47 RX4 ∈ qm_tb := qm_tbl (i := 225) (by decide +kernel) rfl
theorem qw_226 : Cond.instantiable RX4 4 ∈ qm_tb := qm_tbl (i := 226) (by decide +kernel) rfl
theorem qw_227 : Cond.methodLink RX9 49 yX4_init ∈ qm_tb := qm_tbl (i := 227) (by decide +kernel) rfl
theorem qw_228 : Cond.instanceMethod yX4_init ∈ qm_tb := qm_tbl (i := 228) (by decide +kernel) rfl
theorem qw_229 : Cond.code yX4_init cX4_init 1 none ∈ qm_tb := qm_tbl (i := 229) (by decide +kernel) rfl
theorem qw_230 : Cond.methodLink RX4 3 Lib.objectInit ∈ qm_tb := qm_tbl (i := 230) (by decide +kernel) rfl
theorem qw_231 : Cond.classLink RX4 9 RX6 ∈ qm_tb := qm_tbl (i := 231) (by decide +kernel) rfl
theorem qw_232 : Cond.methodLink RX4 11 yX6_init ∈ qm_tb := qm_tbl (i := 232) (by decide +kernel) rfl
theorem qw_233 : Cond.classLink RX4 24 RX5 ∈ qm_tb := qm_tbl (i := 233) (by decide +kernel) rfl
theorem qw_234 : Cond.methodLink RX4 26 yX5_init ∈ qm_tb := qm_tbl (i := 234) (by decide +kernel) rfl
theorem qw_235 : Cond.fieldLink RX4 14 RX4 "closed" "LMatchLattice$Row;" ∈ qm_tb := qm_tbl (i := 235) (by decide +kernel) rfl
theorem qw_236 : Cond.fieldLink RX4 20 RX4 "total" "I" ∈ qm_tb := qm_tbl (i := 236) (by decide +kernel) rfl
theorem qw_237 : Cond.fieldLink RX4 27 RX4 "first" "LMatchLattice$Pairing;" ∈ qm_tb := qm_tbl (i := 237) (by decide +kernel) rfl
theorem qw_238 : Cond.fieldLink RX4 31 RX4 "loaded" "LMatchLattice$Pairing;" ∈ qm_tb := qm_tbl (i := 238) (by decide +kernel) rfl
theorem qw_248 : Cond.classLink RX9 54 RX5 ∈ qm_tb := qm_tbl (i := 248) (by decide +kernel) rfl
theorem qw_249 : Cond.methodLink RX9 56 yX5_init ∈ qm_tb := qm_tbl (i := 249) (by decide +kernel) rfl
theorem qw_250 : Cond.classLink RX9 64 RX2 ∈ qm_tb := qm_tbl (i := 250) (by decide +kernel) rfl
theorem qw_251 : Cond.instantiable RX2 3 ∈ qm_tb := qm_tbl (i := 251) (by decide +kernel) rfl
theorem qw_252 : Cond.methodLink RX9 66 yX2_init ∈ qm_tb := qm_tbl (i := 252) (by decide +kernel) rfl
theorem qw_253 : Cond.instanceMethod yX2_init ∈ qm_tb := qm_tbl (i := 253) (by decide +kernel) rfl
theorem qw_254 : Cond.code yX2_init cX2_init 1 none ∈ qm_tb := qm_tbl (i := 254) (by decide +kernel) rfl
theorem qw_255 : Cond.methodLink RX2 1 Lib.objectInit ∈ qm_tb := qm_tbl (i := 255) (by decide +kernel) rfl
theorem qw_256 : Cond.classLink RX2 7 RX3 ∈ qm_tb := qm_tbl (i := 256) (by decide +kernel) rfl
theorem qw_257 : Cond.methodLink RX2 9 yX3_init ∈ qm_tb := qm_tbl (i := 257) (by decide +kernel) rfl
theorem qw_258 : Cond.classLink RX2 16 RX5 ∈ qm_tb := qm_tbl (i := 258) (by decide +kernel) rfl
theorem qw_259 : Cond.methodLink RX2 18 yX5_init ∈ qm_tb := qm_tbl (i := 259) (by decide +kernel) rfl
theorem qw_260 : Cond.fieldLink RX2 10 RX2 "lists" "LMatchLattice$Lists;" ∈ qm_tb := qm_tbl (i := 260) (by decide +kernel) rfl
theorem qw_261 : Cond.fieldLink RX2 19 RX2 "pairing" "LMatchLattice$Pairing;" ∈ qm_tb := qm_tbl (i := 261) (by decide +kernel) rfl
theorem qw_262 : Cond.fieldLink RX2 23 RX2 "there" "Z" ∈ qm_tb := qm_tbl (i := 262) (by decide +kernel) rfl
theorem qw_270 : Cond.methodLink RX9 71 yX3_begin ∈ qm_tb := qm_tbl (i := 270) (by decide +kernel) rfl
theorem qw_271 : Cond.instanceMethod yX3_begin ∈ qm_tb := qm_tbl (i := 271) (by decide +kernel) rfl
theorem qw_272 : Cond.selects RX3 yX3_begin yX3_begin ∈ qm_tb := qm_tbl (i := 272) (by decide +kernel) rfl
theorem qw_273 : Cond.code yX3_begin cX3_begin 4 none ∈ qm_tb := qm_tbl (i := 273) (by decide +kernel) rfl
theorem qw_274 : Cond.methodLink RX3 27 yX3_put ∈ qm_tb := qm_tbl (i := 274) (by decide +kernel) rfl
theorem qw_275 : Cond.instanceMethod yX3_put ∈ qm_tb := qm_tbl (i := 275) (by decide +kernel) rfl
theorem qw_276 : Cond.selects RX3 yX3_put yX3_put ∈ qm_tb := qm_tbl (i := 276) (by decide +kernel) rfl
theorem qw_277 : Cond.code yX3_put cX3_put 5 none ∈ qm_tb := qm_tbl (i := 277) (by decide +kernel) rfl
theorem qw_278 : Cond.methodLink RX3 35 yX3_cell ∈ qm_tb := qm_tbl (i := 278) (by decide +kernel) rfl
theorem qw_279 : Cond.static yX3_cell ∈ qm_tb := qm_tbl (i := 279) (by decide +kernel) rfl
theorem qw_280 : Cond.code yX3_cell cX3_cell 4 (some .int) ∈ qm_tb := qm_tbl (i := 280) (by decide +kernel) rfl
theorem qw_281 : Cond.methodLink RX3 46 yX6_set ∈ qm_tb := qm_tbl (i := 281) (by decide +kernel) rfl
theorem qw_282 : Cond.instanceMethod yX6_set ∈ qm_tb := qm_tbl (i := 282) (by decide +kernel) rfl
theorem qw_283 : Cond.selects RX6 yX6_set yX6_set ∈ qm_tb := qm_tbl (i := 283) (by decide +kernel) rfl
theorem qw_284 : Cond.code yX6_set cX6_set 3 none ∈ qm_tb := qm_tbl (i := 284) (by decide +kernel) rfl
theorem qw_285 : Cond.methodLink RX9 75 yX1_forget ∈ qm_tb := qm_tbl (i := 285) (by decide +kernel) rfl
theorem qw_286 : Cond.instanceMethod yX1_forget ∈ qm_tb := qm_tbl (i := 286) (by decide +kernel) rfl
theorem qw_287 : Cond.selects RX1 yX1_forget yX1_forget ∈ qm_tb := qm_tbl (i := 287) (by decide +kernel) rfl
theorem qw_288 : Cond.code yX1_forget cX1_forget 2 none ∈ qm_tb := qm_tbl (i := 288) (by decide +kernel) rfl
theorem qw_289 : Cond.methodLink RX1 30 yX1_start ∈ qm_tb := qm_tbl (i := 289) (by decide +kernel) rfl
theorem qw_291 : Cond.instanceMethod yX1_start ∈ qm_tb := qm_tbl (i := 291) (by decide +kernel) rfl
theorem qw_292 : Cond.code yX1_start cX1_start 1 (some .int) ∈ qm_tb := qm_tbl (i := 292) (by decide +kernel) rfl
theorem qw_293 : Cond.methodLink RX1 34 yX3_saveTo ∈ qm_tb := qm_tbl (i := 293) (by decide +kernel) rfl
theorem qw_294 : Cond.instanceMethod yX3_saveTo ∈ qm_tb := qm_tbl (i := 294) (by decide +kernel) rfl
theorem qw_295 : Cond.selects RX3 yX3_saveTo yX3_saveTo ∈ qm_tb := qm_tbl (i := 295) (by decide +kernel) rfl
theorem qw_296 : Cond.code yX3_saveTo cX3_saveTo 4 none ∈ qm_tb := qm_tbl (i := 296) (by decide +kernel) rfl
theorem qw_297 : Cond.methodLink RX3 39 yX6_get ∈ qm_tb := qm_tbl (i := 297) (by decide +kernel) rfl
theorem qw_298 : Cond.instanceMethod yX6_get ∈ qm_tb := qm_tbl (i := 298) (by decide +kernel) rfl
theorem qw_299 : Cond.selects RX6 yX6_get yX6_get ∈ qm_tb := qm_tbl (i := 299) (by decide +kernel) rfl
theorem qw_300 : Cond.code yX6_get cX6_get 2 (some .int) ∈ qm_tb := qm_tbl (i := 300) (by decide +kernel) rfl
theorem qw_301 : Cond.fieldLink RX9 10 RX9 "tape" "LMatchLattice$Tape;" ∈ qm_tb := qm_tbl (i := 301) (by decide +kernel) rfl
theorem qw_302 : Cond.fieldLink RX9 19 RX9 "told" "LMatchLattice$Lists;" ∈ qm_tb := qm_tbl (i := 302) (by decide +kernel) rfl
theorem qw_303 : Cond.fieldLink RX9 23 RX9 "draft" "LMatchLattice$Lists;" ∈ qm_tb := qm_tbl (i := 303) (by decide +kernel) rfl
theorem qw_304 : Cond.fieldLink RX9 29 RX9 "history" "LMatchLattice$History;" ∈ qm_tb := qm_tbl (i := 304) (by decide +kernel) rfl
theorem qw_305 : Cond.fieldLink RX9 36 RX9 "asked" "LMatchLattice$Asking;" ∈ qm_tb := qm_tbl (i := 305) (by decide +kernel) rfl
theorem qw_306 : Cond.fieldLink RX9 43 RX9 "turns" "LMatchLattice$Turns;" ∈ qm_tb := qm_tbl (i := 306) (by decide +kernel) rfl
theorem qw_307 : Cond.fieldLink RX9 50 RX9 "matches" "LMatchLattice$Matches;" ∈ qm_tb := qm_tbl (i := 307) (by decide +kernel) rfl
theorem qw_308 : Cond.fieldLink RX9 57 RX9 "byHand" "LMatchLattice$Pairing;" ∈ qm_tb := qm_tbl (i := 308) (by decide +kernel) rfl
theorem qw_309 : Cond.fieldLink RX9 61 RX9 "afterMending" "LMatchLattice$Pairing;" ∈ qm_tb := qm_tbl (i := 309) (by decide +kernel) rfl
theorem qw_310 : Cond.fieldLink RX9 67 RX9 "kept" "LMatchLattice$Image;" ∈ qm_tb := qm_tbl (i := 310) (by decide +kernel) rfl
theorem qw_311 : Cond.fieldLink RX9 79 RX9 "settled" "Z" ∈ qm_tb := qm_tbl (i := 311) (by decide +kernel) rfl
theorem qw_335 : Cond.methodLink R_law 13 yX9_size ∈ qm_tb := qm_tbl (i := 335) (by decide +kernel) rfl
theorem qw_336 : Cond.instanceMethod yX9_size ∈ qm_tb := qm_tbl (i := 336) (by decide +kernel) rfl
theorem qw_337 : Cond.selects RX9 yX9_size yX9_size ∈ qm_tb := qm_tbl (i := 337) (by decide +kernel) rfl
theorem qw_338 : Cond.code yX9_size cX9_size 3 (some .int) ∈ qm_tb := qm_tbl (i := 338) (by decide +kernel) rfl
theorem qw_339 : Cond.methodLink RX9 83 yX3_each ∈ qm_tb := qm_tbl (i := 339) (by decide +kernel) rfl
theorem qw_340 : Cond.instanceMethod yX3_each ∈ qm_tb := qm_tbl (i := 340) (by decide +kernel) rfl
theorem qw_341 : Cond.selects RX3 yX3_each yX3_each ∈ qm_tb := qm_tbl (i := 341) (by decide +kernel) rfl
theorem qw_342 : Cond.code yX3_each cX3_each 1 (some .int) ∈ qm_tb := qm_tbl (i := 342) (by decide +kernel) rfl
theorem qw_343 : Cond.methodLink RX9 87 yX5_clear ∈ qm_tb := qm_tbl (i := 343) (by decide +kernel) rfl
theorem qw_344 : Cond.instanceMethod yX5_clear ∈ qm_tb := qm_tbl (i := 344) (by decide +kernel) rfl
theorem qw_345 : Cond.selects RX5 yX5_clear yX5_clear ∈ qm_tb := qm_tbl (i := 345) (by decide +kernel) rfl
theorem qw_346 : Cond.code yX5_clear cX5_clear 1 none ∈ qm_tb := qm_tbl (i := 346) (by decide +kernel) rfl
theorem qw_347 : Cond.methodLink R_law 18 yX9_feed ∈ qm_tb := qm_tbl (i := 347) (by decide +kernel) rfl
theorem qw_348 : Cond.instanceMethod yX9_feed ∈ qm_tb := qm_tbl (i := 348) (by decide +kernel) rfl
theorem qw_349 : Cond.selects RX9 yX9_feed yX9_feed ∈ qm_tb := qm_tbl (i := 349) (by decide +kernel) rfl
theorem qw_350 : Cond.code yX9_feed cX9_feed 2 (some .int) ∈ qm_tb := qm_tbl (i := 350) (by decide +kernel) rfl
theorem qw_351 : Cond.methodLink RX9 90 yX7_add ∈ qm_tb := qm_tbl (i := 351) (by decide +kernel) rfl
theorem qw_352 : Cond.instanceMethod yX7_add ∈ qm_tb := qm_tbl (i := 352) (by decide +kernel) rfl
theorem qw_353 : Cond.selects RX7 yX7_add yX7_add ∈ qm_tb := qm_tbl (i := 353) (by decide +kernel) rfl
theorem qw_354 : Cond.code yX7_add cX7_add 2 (some .boolean) ∈ qm_tb := qm_tbl (i := 354) (by decide +kernel) rfl
theorem qw_355 : Cond.methodLink RX7 24 yX6_set ∈ qm_tb := qm_tbl (i := 355) (by decide +kernel) rfl
theorem qw_356 : Cond.methodLink RX9 94 yX7_length ∈ qm_tb := qm_tbl (i := 356) (by decide +kernel) rfl
theorem qw_357 : Cond.instanceMethod yX7_length ∈ qm_tb := qm_tbl (i := 357) (by decide +kernel) rfl
theorem qw_358 : Cond.selects RX7 yX7_length yX7_length ∈ qm_tb := qm_tbl (i := 358) (by decide +kernel) rfl
theorem qw_359 : Cond.code yX7_length cX7_length 1 (some .int) ∈ qm_tb := qm_tbl (i := 359) (by decide +kernel) rfl
theorem qw_360 : Cond.methodLink R_law 22 yX9_lists ∈ qm_tb := qm_tbl (i := 360) (by decide +kernel) rfl
theorem qw_361 : Cond.instanceMethod yX9_lists ∈ qm_tb := qm_tbl (i := 361) (by decide +kernel) rfl
theorem qw_362 : Cond.selects RX9 yX9_lists yX9_lists ∈ qm_tb := qm_tbl (i := 362) (by decide +kernel) rfl
theorem qw_363 : Cond.code yX9_lists cX9_lists 2 (some .int) ∈ qm_tb := qm_tbl (i := 363) (by decide +kernel) rfl
theorem qw_364 : Cond.methodLink RX9 97 yX3_copyFrom ∈ qm_tb := qm_tbl (i := 364) (by decide +kernel) rfl
theorem qw_365 : Cond.instanceMethod yX3_copyFrom ∈ qm_tb := qm_tbl (i := 365) (by decide +kernel) rfl
theorem qw_366 : Cond.selects RX3 yX3_copyFrom yX3_copyFrom ∈ qm_tb := qm_tbl (i := 366) (by decide +kernel) rfl
theorem qw_367 : Cond.code yX3_copyFrom cX3_copyFrom 2 none ∈ qm_tb := qm_tbl (i := 367) (by decide +kernel) rfl
theorem qw_368 : Cond.methodLink RX3 31 yX6_copyFrom ∈ qm_tb := qm_tbl (i := 368) (by decide +kernel) rfl
theorem qw_369 : Cond.instanceMethod yX6_copyFrom ∈ qm_tb := qm_tbl (i := 369) (by decide +kernel) rfl
theorem qw_370 : Cond.selects RX6 yX6_copyFrom yX6_copyFrom ∈ qm_tb := qm_tbl (i := 370) (by decide +kernel) rfl
theorem qw_371 : Cond.code yX6_copyFrom cX6_copyFrom 3 none ∈ qm_tb := qm_tbl (i := 371) (by decide +kernel) rfl
theorem qw_372 : Cond.methodLink RX6 15 yX6_get ∈ qm_tb := qm_tbl (i := 372) (by decide +kernel) rfl
theorem qw_373 : Cond.methodLink RX9 100 yX7_readInto ∈ qm_tb := qm_tbl (i := 373) (by decide +kernel) rfl
theorem qw_374 : Cond.instanceMethod yX7_readInto ∈ qm_tb := qm_tbl (i := 374) (by decide +kernel) rfl
theorem qw_375 : Cond.selects RX7 yX7_readInto yX7_readInto ∈ qm_tb := qm_tbl (i := 375) (by decide +kernel) rfl
theorem qw_376 : Cond.code yX7_readInto cX7_readInto 5 (some .int) ∈ qm_tb := qm_tbl (i := 376) (by decide +kernel) rfl
theorem qw_377 : Cond.methodLink RX7 28 yX7_readLine ∈ qm_tb := qm_tbl (i := 377) (by decide +kernel) rfl
theorem qw_379 : Cond.instanceMethod yX7_readLine ∈ qm_tb := qm_tbl (i := 379) (by decide +kernel) rfl
theorem qw_380 : Cond.code yX7_readLine cX7_readLine 5 (some .int) ∈ qm_tb := qm_tbl (i := 380) (by decide +kernel) rfl
theorem qw_381 : Cond.methodLink RX7 39 yX7_sideAt ∈ qm_tb := qm_tbl (i := 381) (by decide +kernel) rfl
theorem qw_383 : Cond.instanceMethod yX7_sideAt ∈ qm_tb := qm_tbl (i := 383) (by decide +kernel) rfl
theorem qw_384 : Cond.code yX7_sideAt cX7_sideAt 2 (some .int) ∈ qm_tb := qm_tbl (i := 384) (by decide +kernel) rfl
theorem qw_385 : Cond.methodLink RX7 32 yX7_byteAt ∈ qm_tb := qm_tbl (i := 385) (by decide +kernel) rfl
theorem qw_387 : Cond.instanceMethod yX7_byteAt ∈ qm_tb := qm_tbl (i := 387) (by decide +kernel) rfl
theorem qw_388 : Cond.code yX7_byteAt cX7_byteAt 2 (some .int) ∈ qm_tb := qm_tbl (i := 388) (by decide +kernel) rfl
theorem qw_389 : Cond.methodLink RX7 60 yX6_get ∈ qm_tb := qm_tbl (i := 389) (by decide +kernel) rfl
theorem qw_390 : Cond.methodLink RX7 36 yX7_faultAt ∈ qm_tb := qm_tbl (i := 390) (by decide +kernel) rfl
theorem qw_391 : Cond.static yX7_faultAt ∈ qm_tb := qm_tbl (i := 391) (by decide +kernel) rfl
theorem qw_392 : Cond.code yX7_faultAt cX7_faultAt 1 (some .int) ∈ qm_tb := qm_tbl (i := 392) (by decide +kernel) rfl
theorem qw_393 : Cond.methodLink RX7 42 yX3_each ∈ qm_tb := qm_tbl (i := 393) (by decide +kernel) rfl
theorem qw_394 : Cond.methodLink RX7 48 yX7_figureAt ∈ qm_tb := qm_tbl (i := 394) (by decide +kernel) rfl
theorem qw_396 : Cond.instanceMethod yX7_figureAt ∈ qm_tb := qm_tbl (i := 396) (by decide +kernel) rfl
theorem qw_397 : Cond.code yX7_figureAt cX7_figureAt 4 (some .int) ∈ qm_tb := qm_tbl (i := 397) (by decide +kernel) rfl
theorem qw_398 : Cond.methodLink RX7 52 yX7_readFigures ∈ qm_tb := qm_tbl (i := 398) (by decide +kernel) rfl
theorem qw_400 : Cond.instanceMethod yX7_readFigures ∈ qm_tb := qm_tbl (i := 400) (by decide +kernel) rfl
theorem qw_401 : Cond.code yX7_readFigures cX7_readFigures 8 (some .int) ∈ qm_tb := qm_tbl (i := 401) (by decide +kernel) rfl
theorem qw_402 : Cond.methodLink RX7 56 yX3_put ∈ qm_tb := qm_tbl (i := 402) (by decide +kernel) rfl
theorem qw_403 : Cond.methodLink RX9 104 yX7_clear ∈ qm_tb := qm_tbl (i := 403) (by decide +kernel) rfl
theorem qw_404 : Cond.instanceMethod yX7_clear ∈ qm_tb := qm_tbl (i := 404) (by decide +kernel) rfl
theorem qw_405 : Cond.selects RX7 yX7_clear yX7_clear ∈ qm_tb := qm_tbl (i := 405) (by decide +kernel) rfl
theorem qw_406 : Cond.code yX7_clear cX7_clear 1 none ∈ qm_tb := qm_tbl (i := 406) (by decide +kernel) rfl
theorem qw_407 : Cond.methodLink RX9 105 yX1_note ∈ qm_tb := qm_tbl (i := 407) (by decide +kernel) rfl
theorem qw_408 : Cond.instanceMethod yX1_note ∈ qm_tb := qm_tbl (i := 408) (by decide +kernel) rfl
theorem qw_409 : Cond.selects RX1 yX1_note yX1_note ∈ qm_tb := qm_tbl (i := 409) (by decide +kernel) rfl
theorem qw_410 : Cond.code yX1_note cX1_note 2 none ∈ qm_tb := qm_tbl (i := 410) (by decide +kernel) rfl
theorem qw_411 : Cond.methodLink R_law 27 yX9_list ∈ qm_tb := qm_tbl (i := 411) (by decide +kernel) rfl
theorem qw_412 : Cond.instanceMethod yX9_list ∈ qm_tb := qm_tbl (i := 412) (by decide +kernel) rfl
theorem qw_413 : Cond.selects RX9 yX9_list yX9_list ∈ qm_tb := qm_tbl (i := 413) (by decide +kernel) rfl
theorem qw_414 : Cond.code yX9_list cX9_list 4 (some .int) ∈ qm_tb := qm_tbl (i := 414) (by decide +kernel) rfl
theorem qw_415 : Cond.methodLink RX9 108 yX9_isSide ∈ qm_tb := qm_tbl (i := 415) (by decide +kernel) rfl
theorem qw_416 : Cond.static yX9_isSide ∈ qm_tb := qm_tbl (i := 416) (by decide +kernel) rfl
theorem qw_417 : Cond.code yX9_isSide cX9_isSide 1 (some .boolean) ∈ qm_tb := qm_tbl (i := 417) (by decide +kernel) rfl
theorem qw_418 : Cond.methodLink RX9 111 yX9_isOne ∈ qm_tb := qm_tbl (i := 418) (by decide +kernel) rfl
theorem qw_420 : Cond.instanceMethod yX9_isOne ∈ qm_tb := qm_tbl (i := 420) (by decide +kernel) rfl
theorem qw_421 : Cond.code yX9_isOne cX9_isOne 2 (some .boolean) ∈ qm_tb := qm_tbl (i := 421) (by decide +kernel) rfl
theorem qw_422 : Cond.methodLink RX9 114 yX3_who ∈ qm_tb := qm_tbl (i := 422) (by decide +kernel) rfl
theorem qw_423 : Cond.instanceMethod yX3_who ∈ qm_tb := qm_tbl (i := 423) (by decide +kernel) rfl
theorem qw_424 : Cond.selects RX3 yX3_who yX3_who ∈ qm_tb := qm_tbl (i := 424) (by decide +kernel) rfl
theorem qw_425 : Cond.code yX3_who cX3_who 4 (some .int) ∈ qm_tb := qm_tbl (i := 425) (by decide +kernel) rfl
theorem qw_426 : Cond.methodLink R_law 32 yX9_stir ∈ qm_tb := qm_tbl (i := 426) (by decide +kernel) rfl
theorem qw_427 : Cond.instanceMethod yX9_stir ∈ qm_tb := qm_tbl (i := 427) (by decide +kernel) rfl
theorem qw_428 : Cond.selects RX9 yX9_stir yX9_stir ∈ qm_tb := qm_tbl (i := 428) (by decide +kernel) rfl
theorem qw_429 : Cond.code yX9_stir cX9_stir 4 (some .int) ∈ qm_tb := qm_tbl (i := 429) (by decide +kernel) rfl
theorem qw_430 : Cond.methodLink RX9 118 yX9_canStir ∈ qm_tb := qm_tbl (i := 430) (by decide +kernel) rfl
theorem qw_432 : Cond.instanceMethod yX9_canStir ∈ qm_tb := qm_tbl (i := 432) (by decide +kernel) rfl
theorem qw_433 : Cond.code yX9_canStir cX9_canStir 4 (some .boolean) ∈ qm_tb := qm_tbl (i := 433) (by decide +kernel) rfl
theorem qw_434 : Cond.methodLink RX9 122 yX3_exchange ∈ qm_tb := qm_tbl (i := 434) (by decide +kernel) rfl
theorem qw_435 : Cond.instanceMethod yX3_exchange ∈ qm_tb := qm_tbl (i := 435) (by decide +kernel) rfl
theorem qw_436 : Cond.selects RX3 yX3_exchange yX3_exchange ∈ qm_tb := qm_tbl (i := 436) (by decide +kernel) rfl
theorem qw_437 : Cond.code yX3_exchange cX3_exchange 6 none ∈ qm_tb := qm_tbl (i := 437) (by decide +kernel) rfl
theorem qw_438 : Cond.methodLink RX3 50 yX3_who ∈ qm_tb := qm_tbl (i := 438) (by decide +kernel) rfl
theorem qw_439 : Cond.methodLink R_law 36 yX9_stirred ∈ qm_tb := qm_tbl (i := 439) (by decide +kernel) rfl
theorem qw_440 : Cond.instanceMethod yX9_stirred ∈ qm_tb := qm_tbl (i := 440) (by decide +kernel) rfl
theorem qw_441 : Cond.selects RX9 yX9_stirred yX9_stirred ∈ qm_tb := qm_tbl (i := 441) (by decide +kernel) rfl
theorem qw_442 : Cond.code yX9_stirred cX9_stirred 5 (some .int) ∈ qm_tb := qm_tbl (i := 442) (by decide +kernel) rfl
theorem qw_443 : Cond.methodLink RX9 126 yX9_settle ∈ qm_tb := qm_tbl (i := 443) (by decide +kernel) rfl
theorem qw_445 : Cond.instanceMethod yX9_settle ∈ qm_tb := qm_tbl (i := 445) (by decide +kernel) rfl
theorem qw_446 : Cond.code yX9_settle cX9_settle 1 none ∈ qm_tb := qm_tbl (i := 446) (by decide +kernel) rfl
theorem qw_447 : Cond.methodLink RX9 144 yX0_run ∈ qm_tb := qm_tbl (i := 447) (by decide +kernel) rfl
theorem qw_448 : Cond.instanceMethod yX0_run ∈ qm_tb := qm_tbl (i := 448) (by decide +kernel) rfl
theorem qw_449 : Cond.selects RX0 yX0_run yX0_run ∈ qm_tb := qm_tbl (i := 449) (by decide +kernel) rfl
theorem qw_450 : Cond.code yX0_run cX0_run 5 none ∈ qm_tb := qm_tbl (i := 450) (by decide +kernel) rfl
theorem qw_451 : Cond.methodLink RX0 38 yX5_clear ∈ qm_tb := qm_tbl (i := 451) (by decide +kernel) rfl
theorem qw_452 : Cond.methodLink RX0 41 yX6_fill ∈ qm_tb := qm_tbl (i := 452) (by decide +kernel) rfl
theorem qw_453 : Cond.methodLink RX0 44 yX3_each ∈ qm_tb := qm_tbl (i := 453) (by decide +kernel) rfl
theorem qw_454 : Cond.methodLink RX0 50 yX0_leastAlone ∈ qm_tb := qm_tbl (i := 454) (by decide +kernel) rfl
theorem qw_456 : Cond.instanceMethod yX0_leastAlone ∈ qm_tb := qm_tbl (i := 456) (by decide +kernel) rfl
theorem qw_457 : Cond.code yX0_leastAlone cX0_leastAlone 4 (some .int) ∈ qm_tb := qm_tbl (i := 457) (by decide +kernel) rfl
theorem qw_458 : Cond.methodLink RX0 58 yX5_partner ∈ qm_tb := qm_tbl (i := 458) (by decide +kernel) rfl
theorem qw_459 : Cond.instanceMethod yX5_partner ∈ qm_tb := qm_tbl (i := 459) (by decide +kernel) rfl
theorem qw_460 : Cond.selects RX5 yX5_partner yX5_partner ∈ qm_tb := qm_tbl (i := 460) (by decide +kernel) rfl
theorem qw_461 : Cond.code yX5_partner cX5_partner 3 (some .int) ∈ qm_tb := qm_tbl (i := 461) (by decide +kernel) rfl
theorem qw_462 : Cond.methodLink RX5 27 yX5_cell ∈ qm_tb := qm_tbl (i := 462) (by decide +kernel) rfl
theorem qw_463 : Cond.static yX5_cell ∈ qm_tb := qm_tbl (i := 463) (by decide +kernel) rfl
theorem qw_464 : Cond.code yX5_cell cX5_cell 3 (some .int) ∈ qm_tb := qm_tbl (i := 464) (by decide +kernel) rfl
theorem qw_465 : Cond.methodLink RX5 31 yX6_get ∈ qm_tb := qm_tbl (i := 465) (by decide +kernel) rfl
theorem qw_466 : Cond.methodLink RX0 54 yX0_ask ∈ qm_tb := qm_tbl (i := 466) (by decide +kernel) rfl
theorem qw_468 : Cond.instanceMethod yX0_ask ∈ qm_tb := qm_tbl (i := 468) (by decide +kernel) rfl
theorem qw_469 : Cond.code yX0_ask cX0_ask 7 none ∈ qm_tb := qm_tbl (i := 469) (by decide +kernel) rfl
theorem qw_470 : Cond.methodLink RX0 34 yX6_get ∈ qm_tb := qm_tbl (i := 470) (by decide +kernel) rfl
theorem qw_471 : Cond.methodLink RX0 61 yX3_who ∈ qm_tb := qm_tbl (i := 471) (by decide +kernel) rfl
theorem qw_472 : Cond.methodLink RX0 65 yX6_set ∈ qm_tb := qm_tbl (i := 472) (by decide +kernel) rfl
theorem qw_473 : Cond.methodLink RX0 69 yX3_wouldRather ∈ qm_tb := qm_tbl (i := 473) (by decide +kernel) rfl
theorem qw_474 : Cond.instanceMethod yX3_wouldRather ∈ qm_tb := qm_tbl (i := 474) (by decide +kernel) rfl
theorem qw_475 : Cond.selects RX3 yX3_wouldRather yX3_wouldRather ∈ qm_tb := qm_tbl (i := 475) (by decide +kernel) rfl
theorem qw_476 : Cond.code yX3_wouldRather cX3_wouldRather 5 (some .boolean) ∈ qm_tb := qm_tbl (i := 476) (by decide +kernel) rfl
theorem qw_477 : Cond.methodLink RX3 43 yX3_place ∈ qm_tb := qm_tbl (i := 477) (by decide +kernel) rfl
theorem qw_478 : Cond.instanceMethod yX3_place ∈ qm_tb := qm_tbl (i := 478) (by decide +kernel) rfl
theorem qw_479 : Cond.selects RX3 yX3_place yX3_place ∈ qm_tb := qm_tbl (i := 479) (by decide +kernel) rfl
theorem qw_480 : Cond.code yX3_place cX3_place 4 (some .int) ∈ qm_tb := qm_tbl (i := 480) (by decide +kernel) rfl
theorem qw_481 : Cond.methodLink RX0 73 yX5_join ∈ qm_tb := qm_tbl (i := 481) (by decide +kernel) rfl
theorem qw_482 : Cond.instanceMethod yX5_join ∈ qm_tb := qm_tbl (i := 482) (by decide +kernel) rfl
theorem qw_483 : Cond.selects RX5 yX5_join yX5_join ∈ qm_tb := qm_tbl (i := 483) (by decide +kernel) rfl
theorem qw_484 : Cond.code yX5_join cX5_join 4 none ∈ qm_tb := qm_tbl (i := 484) (by decide +kernel) rfl
theorem qw_485 : Cond.methodLink RX5 39 yX5_part ∈ qm_tb := qm_tbl (i := 485) (by decide +kernel) rfl
theorem qw_486 : Cond.instanceMethod yX5_part ∈ qm_tb := qm_tbl (i := 486) (by decide +kernel) rfl
theorem qw_487 : Cond.selects RX5 yX5_part yX5_part ∈ qm_tb := qm_tbl (i := 487) (by decide +kernel) rfl
theorem qw_488 : Cond.code yX5_part cX5_part 5 none ∈ qm_tb := qm_tbl (i := 488) (by decide +kernel) rfl
theorem qw_489 : Cond.methodLink RX5 35 yX6_set ∈ qm_tb := qm_tbl (i := 489) (by decide +kernel) rfl
theorem qw_490 : Cond.methodLink RX5 42 yX5_tie ∈ qm_tb := qm_tbl (i := 490) (by decide +kernel) rfl
theorem qw_491 : Cond.instanceMethod yX5_tie ∈ qm_tb := qm_tbl (i := 491) (by decide +kernel) rfl
theorem qw_492 : Cond.selects RX5 yX5_tie yX5_tie ∈ qm_tb := qm_tbl (i := 492) (by decide +kernel) rfl
theorem qw_493 : Cond.code yX5_tie cX5_tie 4 none ∈ qm_tb := qm_tbl (i := 493) (by decide +kernel) rfl
theorem qw_494 : Cond.methodLink RX9 148 yX0_outcome ∈ qm_tb := qm_tbl (i := 494) (by decide +kernel) rfl
theorem qw_495 : Cond.instanceMethod yX0_outcome ∈ qm_tb := qm_tbl (i := 495) (by decide +kernel) rfl
theorem qw_496 : Cond.selects RX0 yX0_outcome yX0_outcome ∈ qm_tb := qm_tbl (i := 496) (by decide +kernel) rfl
theorem qw_497 : Cond.code yX0_outcome cX0_outcome 1 (some (.object "MatchLattice$Pairing")) ∈ qm_tb := qm_tbl (i := 497) (by decide +kernel) rfl
theorem qw_498 : Cond.methodLink RX9 269 yX8_find ∈ qm_tb := qm_tbl (i := 498) (by decide +kernel) rfl
theorem qw_499 : Cond.instanceMethod yX8_find ∈ qm_tb := qm_tbl (i := 499) (by decide +kernel) rfl
theorem qw_500 : Cond.selects RX8 yX8_find yX8_find ∈ qm_tb := qm_tbl (i := 500) (by decide +kernel) rfl
theorem qw_501 : Cond.code yX8_find cX8_find 5 none ∈ qm_tb := qm_tbl (i := 501) (by decide +kernel) rfl
theorem qw_502 : Cond.methodLink RX8 94 yX5_copyFrom ∈ qm_tb := qm_tbl (i := 502) (by decide +kernel) rfl
theorem qw_503 : Cond.instanceMethod yX5_copyFrom ∈ qm_tb := qm_tbl (i := 503) (by decide +kernel) rfl
theorem qw_504 : Cond.selects RX5 yX5_copyFrom yX5_copyFrom ∈ qm_tb := qm_tbl (i := 504) (by decide +kernel) rfl
theorem qw_505 : Cond.code yX5_copyFrom cX5_copyFrom 2 none ∈ qm_tb := qm_tbl (i := 505) (by decide +kernel) rfl
theorem qw_506 : Cond.methodLink RX5 23 yX6_copyFrom ∈ qm_tb := qm_tbl (i := 506) (by decide +kernel) rfl
theorem qw_507 : Cond.methodLink RX8 98 yX6_fill ∈ qm_tb := qm_tbl (i := 507) (by decide +kernel) rfl
theorem qw_508 : Cond.methodLink RX8 101 yX3_each ∈ qm_tb := qm_tbl (i := 508) (by decide +kernel) rfl
theorem qw_509 : Cond.methodLink RX8 105 yX8_nextOf ∈ qm_tb := qm_tbl (i := 509) (by decide +kernel) rfl
theorem qw_511 : Cond.instanceMethod yX8_nextOf ∈ qm_tb := qm_tbl (i := 511) (by decide +kernel) rfl
theorem qw_512 : Cond.code yX8_nextOf cX8_nextOf 6 (some .int) ∈ qm_tb := qm_tbl (i := 512) (by decide +kernel) rfl
theorem qw_513 : Cond.methodLink RX8 78 yX5_partner ∈ qm_tb := qm_tbl (i := 513) (by decide +kernel) rfl
theorem qw_514 : Cond.methodLink RX8 81 yX3_place ∈ qm_tb := qm_tbl (i := 514) (by decide +kernel) rfl
theorem qw_515 : Cond.methodLink RX8 133 yX3_who ∈ qm_tb := qm_tbl (i := 515) (by decide +kernel) rfl
theorem qw_516 : Cond.methodLink RX8 136 yX3_wouldRather ∈ qm_tb := qm_tbl (i := 516) (by decide +kernel) rfl
theorem qw_517 : Cond.methodLink RX8 109 yX6_set ∈ qm_tb := qm_tbl (i := 517) (by decide +kernel) rfl
theorem qw_518 : Cond.methodLink RX8 113 yX8_firstLeader ∈ qm_tb := qm_tbl (i := 518) (by decide +kernel) rfl
theorem qw_520 : Cond.instanceMethod yX8_firstLeader ∈ qm_tb := qm_tbl (i := 520) (by decide +kernel) rfl
theorem qw_521 : Cond.code yX8_firstLeader cX8_firstLeader 3 (some .int) ∈ qm_tb := qm_tbl (i := 521) (by decide +kernel) rfl
theorem qw_522 : Cond.methodLink RX8 140 yX8_comesBack ∈ qm_tb := qm_tbl (i := 522) (by decide +kernel) rfl
theorem qw_524 : Cond.instanceMethod yX8_comesBack ∈ qm_tb := qm_tbl (i := 524) (by decide +kernel) rfl
theorem qw_525 : Cond.code yX8_comesBack cX8_comesBack 5 (some .boolean) ∈ qm_tb := qm_tbl (i := 525) (by decide +kernel) rfl
theorem qw_526 : Cond.methodLink RX8 55 yX6_get ∈ qm_tb := qm_tbl (i := 526) (by decide +kernel) rfl
theorem qw_527 : Cond.methodLink RX8 116 yX8_keepPairs ∈ qm_tb := qm_tbl (i := 527) (by decide +kernel) rfl
theorem qw_529 : Cond.instanceMethod yX8_keepPairs ∈ qm_tb := qm_tbl (i := 529) (by decide +kernel) rfl
theorem qw_530 : Cond.code yX8_keepPairs cX8_keepPairs 5 none ∈ qm_tb := qm_tbl (i := 530) (by decide +kernel) rfl
theorem qw_531 : Cond.methodLink RX8 119 yX8_keepNeeds ∈ qm_tb := qm_tbl (i := 531) (by decide +kernel) rfl
theorem qw_533 : Cond.instanceMethod yX8_keepNeeds ∈ qm_tb := qm_tbl (i := 533) (by decide +kernel) rfl
theorem qw_534 : Cond.code yX8_keepNeeds cX8_keepNeeds 8 none ∈ qm_tb := qm_tbl (i := 534) (by decide +kernel) rfl
theorem qw_535 : Cond.methodLink RX8 68 yX8_length ∈ qm_tb := qm_tbl (i := 535) (by decide +kernel) rfl
theorem qw_536 : Cond.instanceMethod yX8_length ∈ qm_tb := qm_tbl (i := 536) (by decide +kernel) rfl
theorem qw_537 : Cond.selects RX8 yX8_length yX8_length ∈ qm_tb := qm_tbl (i := 537) (by decide +kernel) rfl
theorem qw_538 : Cond.code yX8_length cX8_length 2 (some .int) ∈ qm_tb := qm_tbl (i := 538) (by decide +kernel) rfl
theorem qw_539 : Cond.methodLink RX8 71 yX8_left ∈ qm_tb := qm_tbl (i := 539) (by decide +kernel) rfl
theorem qw_540 : Cond.instanceMethod yX8_left ∈ qm_tb := qm_tbl (i := 540) (by decide +kernel) rfl
theorem qw_541 : Cond.selects RX8 yX8_left yX8_left ∈ qm_tb := qm_tbl (i := 541) (by decide +kernel) rfl
theorem qw_542 : Cond.code yX8_left cX8_left 3 (some .int) ∈ qm_tb := qm_tbl (i := 542) (by decide +kernel) rfl
theorem qw_543 : Cond.methodLink RX8 143 yX8_withNeeds ∈ qm_tb := qm_tbl (i := 543) (by decide +kernel) rfl
theorem qw_545 : Cond.instanceMethod yX8_withNeeds ∈ qm_tb := qm_tbl (i := 545) (by decide +kernel) rfl
theorem qw_546 : Cond.code yX8_withNeeds cX8_withNeeds 2 (some .int) ∈ qm_tb := qm_tbl (i := 546) (by decide +kernel) rfl
theorem qw_547 : Cond.methodLink RX8 63 yX8_needs ∈ qm_tb := qm_tbl (i := 547) (by decide +kernel) rfl
theorem qw_548 : Cond.instanceMethod yX8_needs ∈ qm_tb := qm_tbl (i := 548) (by decide +kernel) rfl
theorem qw_549 : Cond.selects RX8 yX8_needs yX8_needs ∈ qm_tb := qm_tbl (i := 549) (by decide +kernel) rfl
theorem qw_550 : Cond.code yX8_needs cX8_needs 2 (some .int) ∈ qm_tb := qm_tbl (i := 550) (by decide +kernel) rfl
theorem qw_551 : Cond.methodLink RX8 87 yX8_following ∈ qm_tb := qm_tbl (i := 551) (by decide +kernel) rfl
theorem qw_553 : Cond.instanceMethod yX8_following ∈ qm_tb := qm_tbl (i := 553) (by decide +kernel) rfl
theorem qw_554 : Cond.code yX8_following cX8_following 3 (some .int) ∈ qm_tb := qm_tbl (i := 554) (by decide +kernel) rfl
theorem qw_555 : Cond.methodLink RX8 75 yX8_right ∈ qm_tb := qm_tbl (i := 555) (by decide +kernel) rfl
theorem qw_556 : Cond.instanceMethod yX8_right ∈ qm_tb := qm_tbl (i := 556) (by decide +kernel) rfl
theorem qw_557 : Cond.selects RX8 yX8_right yX8_right ∈ qm_tb := qm_tbl (i := 557) (by decide +kernel) rfl
theorem qw_558 : Cond.code yX8_right cX8_right 3 (some .int) ∈ qm_tb := qm_tbl (i := 558) (by decide +kernel) rfl
theorem qw_559 : Cond.methodLink RX8 146 yX8_depthBehind ∈ qm_tb := qm_tbl (i := 559) (by decide +kernel) rfl
theorem qw_561 : Cond.instanceMethod yX8_depthBehind ∈ qm_tb := qm_tbl (i := 561) (by decide +kernel) rfl
theorem qw_562 : Cond.code yX8_depthBehind cX8_depthBehind 5 (some .int) ∈ qm_tb := qm_tbl (i := 562) (by decide +kernel) rfl
theorem qw_563 : Cond.methodLink RX8 149 yX8_depth ∈ qm_tb := qm_tbl (i := 563) (by decide +kernel) rfl
theorem qw_564 : Cond.instanceMethod yX8_depth ∈ qm_tb := qm_tbl (i := 564) (by decide +kernel) rfl
theorem qw_565 : Cond.selects RX8 yX8_depth yX8_depth ∈ qm_tb := qm_tbl (i := 565) (by decide +kernel) rfl
theorem qw_566 : Cond.code yX8_depth cX8_depth 2 (some .int) ∈ qm_tb := qm_tbl (i := 566) (by decide +kernel) rfl
theorem qw_567 : Cond.methodLink RX8 152 Lib.Math.max.name ∈ qm_tb := qm_tbl (i := 567) (by decide +kernel) rfl
theorem qw_568 : Cond.static Lib.Math.max.name ∈ qm_tb := qm_tbl (i := 568) (by decide +kernel) rfl
theorem qw_569 : Cond.code Lib.Math.max.name Lib.Math.max.code 2 (some .int) ∈ qm_tb := qm_tbl (i := 569) (by decide +kernel) rfl
theorem qw_570 : Cond.methodLink RX8 123 yX8_weigh ∈ qm_tb := qm_tbl (i := 570) (by decide +kernel) rfl
theorem qw_572 : Cond.instanceMethod yX8_weigh ∈ qm_tb := qm_tbl (i := 572) (by decide +kernel) rfl
theorem qw_573 : Cond.code yX8_weigh cX8_weigh 8 (some .int) ∈ qm_tb := qm_tbl (i := 573) (by decide +kernel) rfl
theorem qw_574 : Cond.methodLink RX8 126 yX8_markPassed ∈ qm_tb := qm_tbl (i := 574) (by decide +kernel) rfl
theorem qw_576 : Cond.instanceMethod yX8_markPassed ∈ qm_tb := qm_tbl (i := 576) (by decide +kernel) rfl
theorem qw_577 : Cond.code yX8_markPassed cX8_markPassed 8 none ∈ qm_tb := qm_tbl (i := 577) (by decide +kernel) rfl
theorem qw_578 : Cond.methodLink RX8 129 yX8_perform ∈ qm_tb := qm_tbl (i := 578) (by decide +kernel) rfl
theorem qw_579 : Cond.instanceMethod yX8_perform ∈ qm_tb := qm_tbl (i := 579) (by decide +kernel) rfl
theorem qw_580 : Cond.selects RX8 yX8_perform yX8_perform ∈ qm_tb := qm_tbl (i := 580) (by decide +kernel) rfl
theorem qw_581 : Cond.code yX8_perform cX8_perform 4 none ∈ qm_tb := qm_tbl (i := 581) (by decide +kernel) rfl
theorem qw_582 : Cond.methodLink RX8 90 yX5_tie ∈ qm_tb := qm_tbl (i := 582) (by decide +kernel) rfl
theorem qw_583 : Cond.methodLink RX9 272 yX4_find ∈ qm_tb := qm_tbl (i := 583) (by decide +kernel) rfl
theorem qw_584 : Cond.instanceMethod yX4_find ∈ qm_tb := qm_tbl (i := 584) (by decide +kernel) rfl
theorem qw_585 : Cond.selects RX4 yX4_find yX4_find ∈ qm_tb := qm_tbl (i := 585) (by decide +kernel) rfl
theorem qw_586 : Cond.code yX4_find cX4_find 6 none ∈ qm_tb := qm_tbl (i := 586) (by decide +kernel) rfl
theorem qw_587 : Cond.methodLink RX4 38 yX5_copyFrom ∈ qm_tb := qm_tbl (i := 587) (by decide +kernel) rfl
theorem qw_588 : Cond.methodLink RX4 42 yX6_set ∈ qm_tb := qm_tbl (i := 588) (by decide +kernel) rfl
theorem qw_589 : Cond.methodLink RX4 46 yX8_total ∈ qm_tb := qm_tbl (i := 589) (by decide +kernel) rfl
theorem qw_590 : Cond.instanceMethod yX8_total ∈ qm_tb := qm_tbl (i := 590) (by decide +kernel) rfl
theorem qw_591 : Cond.selects RX8 yX8_total yX8_total ∈ qm_tb := qm_tbl (i := 591) (by decide +kernel) rfl
theorem qw_592 : Cond.code yX8_total cX8_total 1 (some .int) ∈ qm_tb := qm_tbl (i := 592) (by decide +kernel) rfl
theorem qw_593 : Cond.methodLink RX4 51 yX4_bits ∈ qm_tb := qm_tbl (i := 593) (by decide +kernel) rfl
theorem qw_594 : Cond.instanceMethod yX4_bits ∈ qm_tb := qm_tbl (i := 594) (by decide +kernel) rfl
theorem qw_595 : Cond.selects RX4 yX4_bits yX4_bits ∈ qm_tb := qm_tbl (i := 595) (by decide +kernel) rfl
theorem qw_596 : Cond.code yX4_bits cX4_bits 2 (some .int) ∈ qm_tb := qm_tbl (i := 596) (by decide +kernel) rfl
theorem qw_597 : Cond.methodLink RX4 34 yX6_get ∈ qm_tb := qm_tbl (i := 597) (by decide +kernel) rfl
theorem qw_598 : Cond.methodLink RX4 54 yX8_isReady ∈ qm_tb := qm_tbl (i := 598) (by decide +kernel) rfl
theorem qw_599 : Cond.instanceMethod yX8_isReady ∈ qm_tb := qm_tbl (i := 599) (by decide +kernel) rfl
theorem qw_600 : Cond.selects RX8 yX8_isReady yX8_isReady ∈ qm_tb := qm_tbl (i := 600) (by decide +kernel) rfl
theorem qw_601 : Cond.code yX8_isReady cX8_isReady 3 (some .boolean) ∈ qm_tb := qm_tbl (i := 601) (by decide +kernel) rfl
theorem qw_602 : Cond.methodLink RX9 129 yX4_total ∈ qm_tb := qm_tbl (i := 602) (by decide +kernel) rfl
theorem qw_603 : Cond.instanceMethod yX4_total ∈ qm_tb := qm_tbl (i := 603) (by decide +kernel) rfl
theorem qw_604 : Cond.selects RX4 yX4_total yX4_total ∈ qm_tb := qm_tbl (i := 604) (by decide +kernel) rfl
theorem qw_605 : Cond.code yX4_total cX4_total 1 (some .int) ∈ qm_tb := qm_tbl (i := 605) (by decide +kernel) rfl
theorem qw_606 : Cond.methodLink R_law 40 yX9_undo ∈ qm_tb := qm_tbl (i := 606) (by decide +kernel) rfl
theorem qw_607 : Cond.instanceMethod yX9_undo ∈ qm_tb := qm_tbl (i := 607) (by decide +kernel) rfl
theorem qw_608 : Cond.selects RX9 yX9_undo yX9_undo ∈ qm_tb := qm_tbl (i := 608) (by decide +kernel) rfl
theorem qw_609 : Cond.code yX9_undo cX9_undo 1 (some .int) ∈ qm_tb := qm_tbl (i := 609) (by decide +kernel) rfl
theorem qw_610 : Cond.methodLink RX9 132 yX1_behind ∈ qm_tb := qm_tbl (i := 610) (by decide +kernel) rfl
theorem qw_611 : Cond.instanceMethod yX1_behind ∈ qm_tb := qm_tbl (i := 611) (by decide +kernel) rfl
theorem qw_612 : Cond.selects RX1 yX1_behind yX1_behind ∈ qm_tb := qm_tbl (i := 612) (by decide +kernel) rfl
theorem qw_613 : Cond.code yX1_behind cX1_behind 1 (some .int) ∈ qm_tb := qm_tbl (i := 613) (by decide +kernel) rfl
theorem qw_614 : Cond.methodLink RX9 135 yX1_stepBack ∈ qm_tb := qm_tbl (i := 614) (by decide +kernel) rfl
theorem qw_615 : Cond.instanceMethod yX1_stepBack ∈ qm_tb := qm_tbl (i := 615) (by decide +kernel) rfl
theorem qw_616 : Cond.selects RX1 yX1_stepBack yX1_stepBack ∈ qm_tb := qm_tbl (i := 616) (by decide +kernel) rfl
theorem qw_617 : Cond.code yX1_stepBack cX1_stepBack 2 none ∈ qm_tb := qm_tbl (i := 617) (by decide +kernel) rfl
theorem qw_618 : Cond.methodLink RX1 40 yX3_loadFrom ∈ qm_tb := qm_tbl (i := 618) (by decide +kernel) rfl
theorem qw_619 : Cond.instanceMethod yX3_loadFrom ∈ qm_tb := qm_tbl (i := 619) (by decide +kernel) rfl
theorem qw_620 : Cond.selects RX3 yX3_loadFrom yX3_loadFrom ∈ qm_tb := qm_tbl (i := 620) (by decide +kernel) rfl
theorem qw_621 : Cond.code yX3_loadFrom cX3_loadFrom 5 none ∈ qm_tb := qm_tbl (i := 621) (by decide +kernel) rfl
theorem qw_622 : Cond.methodLink R_law 44 yX9_redo ∈ qm_tb := qm_tbl (i := 622) (by decide +kernel) rfl
theorem qw_623 : Cond.instanceMethod yX9_redo ∈ qm_tb := qm_tbl (i := 623) (by decide +kernel) rfl
theorem qw_624 : Cond.selects RX9 yX9_redo yX9_redo ∈ qm_tb := qm_tbl (i := 624) (by decide +kernel) rfl
theorem qw_625 : Cond.code yX9_redo cX9_redo 1 (some .int) ∈ qm_tb := qm_tbl (i := 625) (by decide +kernel) rfl
theorem qw_626 : Cond.methodLink RX9 138 yX1_before ∈ qm_tb := qm_tbl (i := 626) (by decide +kernel) rfl
theorem qw_627 : Cond.instanceMethod yX1_before ∈ qm_tb := qm_tbl (i := 627) (by decide +kernel) rfl
theorem qw_628 : Cond.selects RX1 yX1_before yX1_before ∈ qm_tb := qm_tbl (i := 628) (by decide +kernel) rfl
theorem qw_629 : Cond.code yX1_before cX1_before 1 (some .int) ∈ qm_tb := qm_tbl (i := 629) (by decide +kernel) rfl
theorem qw_630 : Cond.methodLink RX9 141 yX1_stepOn ∈ qm_tb := qm_tbl (i := 630) (by decide +kernel) rfl
theorem qw_631 : Cond.instanceMethod yX1_stepOn ∈ qm_tb := qm_tbl (i := 631) (by decide +kernel) rfl
theorem qw_632 : Cond.selects RX1 yX1_stepOn yX1_stepOn ∈ qm_tb := qm_tbl (i := 632) (by decide +kernel) rfl
theorem qw_633 : Cond.code yX1_stepOn cX1_stepOn 2 none ∈ qm_tb := qm_tbl (i := 633) (by decide +kernel) rfl
theorem qw_634 : Cond.methodLink R_law 48 yX9_best ∈ qm_tb := qm_tbl (i := 634) (by decide +kernel) rfl
theorem qw_635 : Cond.instanceMethod yX9_best ∈ qm_tb := qm_tbl (i := 635) (by decide +kernel) rfl
theorem qw_636 : Cond.selects RX9 yX9_best yX9_best ∈ qm_tb := qm_tbl (i := 636) (by decide +kernel) rfl
theorem qw_637 : Cond.code yX9_best cX9_best 4 (some .int) ∈ qm_tb := qm_tbl (i := 637) (by decide +kernel) rfl
theorem qw_638 : Cond.methodLink RX9 152 yX5_partner ∈ qm_tb := qm_tbl (i := 638) (by decide +kernel) rfl
theorem qw_639 : Cond.methodLink R_law 52 yX9_asking ∈ qm_tb := qm_tbl (i := 639) (by decide +kernel) rfl
theorem qw_640 : Cond.instanceMethod yX9_asking ∈ qm_tb := qm_tbl (i := 640) (by decide +kernel) rfl
theorem qw_641 : Cond.selects RX9 yX9_asking yX9_asking ∈ qm_tb := qm_tbl (i := 641) (by decide +kernel) rfl
theorem qw_642 : Cond.code yX9_asking cX9_asking 3 (some .int) ∈ qm_tb := qm_tbl (i := 642) (by decide +kernel) rfl
theorem qw_643 : Cond.methodLink RX9 156 yX0_times ∈ qm_tb := qm_tbl (i := 643) (by decide +kernel) rfl
theorem qw_644 : Cond.instanceMethod yX0_times ∈ qm_tb := qm_tbl (i := 644) (by decide +kernel) rfl
theorem qw_645 : Cond.selects RX0 yX0_times yX0_times ∈ qm_tb := qm_tbl (i := 645) (by decide +kernel) rfl
theorem qw_646 : Cond.code yX0_times cX0_times 1 (some .int) ∈ qm_tb := qm_tbl (i := 646) (by decide +kernel) rfl
theorem qw_647 : Cond.methodLink RX9 159 yX0_told ∈ qm_tb := qm_tbl (i := 647) (by decide +kernel) rfl
theorem qw_648 : Cond.instanceMethod yX0_told ∈ qm_tb := qm_tbl (i := 648) (by decide +kernel) rfl
theorem qw_649 : Cond.selects RX0 yX0_told yX0_told ∈ qm_tb := qm_tbl (i := 649) (by decide +kernel) rfl
theorem qw_650 : Cond.code yX0_told cX0_told 2 (some .int) ∈ qm_tb := qm_tbl (i := 650) (by decide +kernel) rfl
theorem qw_651 : Cond.methodLink R_law 57 yX9_rounds ∈ qm_tb := qm_tbl (i := 651) (by decide +kernel) rfl
theorem qw_652 : Cond.instanceMethod yX9_rounds ∈ qm_tb := qm_tbl (i := 652) (by decide +kernel) rfl
theorem qw_653 : Cond.selects RX9 yX9_rounds yX9_rounds ∈ qm_tb := qm_tbl (i := 653) (by decide +kernel) rfl
theorem qw_654 : Cond.code yX9_rounds cX9_rounds 2 (some .int) ∈ qm_tb := qm_tbl (i := 654) (by decide +kernel) rfl
theorem qw_655 : Cond.methodLink RX9 162 yX8_total ∈ qm_tb := qm_tbl (i := 655) (by decide +kernel) rfl
theorem qw_656 : Cond.methodLink RX9 163 yX8_isTurn ∈ qm_tb := qm_tbl (i := 656) (by decide +kernel) rfl
theorem qw_657 : Cond.instanceMethod yX8_isTurn ∈ qm_tb := qm_tbl (i := 657) (by decide +kernel) rfl
theorem qw_658 : Cond.selects RX8 yX8_isTurn yX8_isTurn ∈ qm_tb := qm_tbl (i := 658) (by decide +kernel) rfl
theorem qw_659 : Cond.code yX8_isTurn cX8_isTurn 2 (some .boolean) ∈ qm_tb := qm_tbl (i := 659) (by decide +kernel) rfl
theorem qw_660 : Cond.methodLink RX9 166 yX8_length ∈ qm_tb := qm_tbl (i := 660) (by decide +kernel) rfl
theorem qw_661 : Cond.methodLink R_law 61 yX9_pair ∈ qm_tb := qm_tbl (i := 661) (by decide +kernel) rfl
theorem qw_662 : Cond.instanceMethod yX9_pair ∈ qm_tb := qm_tbl (i := 662) (by decide +kernel) rfl
theorem qw_663 : Cond.selects RX9 yX9_pair yX9_pair ∈ qm_tb := qm_tbl (i := 663) (by decide +kernel) rfl
theorem qw_664 : Cond.code yX9_pair cX9_pair 3 (some .int) ∈ qm_tb := qm_tbl (i := 664) (by decide +kernel) rfl
theorem qw_665 : Cond.methodLink RX9 168 yX8_left ∈ qm_tb := qm_tbl (i := 665) (by decide +kernel) rfl
theorem qw_666 : Cond.methodLink RX9 171 yX8_right ∈ qm_tb := qm_tbl (i := 666) (by decide +kernel) rfl
theorem qw_667 : Cond.methodLink R_law 65 yX9_ahead ∈ qm_tb := qm_tbl (i := 667) (by decide +kernel) rfl
theorem qw_668 : Cond.instanceMethod yX9_ahead ∈ qm_tb := qm_tbl (i := 668) (by decide +kernel) rfl
theorem qw_669 : Cond.selects RX9 yX9_ahead yX9_ahead ∈ qm_tb := qm_tbl (i := 669) (by decide +kernel) rfl
theorem qw_670 : Cond.code yX9_ahead cX9_ahead 2 (some .int) ∈ qm_tb := qm_tbl (i := 670) (by decide +kernel) rfl
theorem qw_671 : Cond.methodLink RX9 174 yX8_needs ∈ qm_tb := qm_tbl (i := 671) (by decide +kernel) rfl
theorem qw_672 : Cond.methodLink R_law 69 yX9_of ∈ qm_tb := qm_tbl (i := 672) (by decide +kernel) rfl
theorem qw_673 : Cond.instanceMethod yX9_of ∈ qm_tb := qm_tbl (i := 673) (by decide +kernel) rfl
theorem qw_674 : Cond.selects RX9 yX9_of yX9_of ∈ qm_tb := qm_tbl (i := 674) (by decide +kernel) rfl
theorem qw_675 : Cond.code yX9_of cX9_of 3 (some .int) ∈ qm_tb := qm_tbl (i := 675) (by decide +kernel) rfl
theorem qw_676 : Cond.methodLink RX9 177 yX8_depth ∈ qm_tb := qm_tbl (i := 676) (by decide +kernel) rfl
theorem qw_677 : Cond.methodLink RX9 180 yX8_gain ∈ qm_tb := qm_tbl (i := 677) (by decide +kernel) rfl
theorem qw_678 : Cond.instanceMethod yX8_gain ∈ qm_tb := qm_tbl (i := 678) (by decide +kernel) rfl
theorem qw_679 : Cond.selects RX8 yX8_gain yX8_gain ∈ qm_tb := qm_tbl (i := 679) (by decide +kernel) rfl
theorem qw_680 : Cond.code yX8_gain cX8_gain 2 (some .int) ∈ qm_tb := qm_tbl (i := 680) (by decide +kernel) rfl
theorem qw_681 : Cond.methodLink R_law 73 yX9_exposed ∈ qm_tb := qm_tbl (i := 681) (by decide +kernel) rfl
theorem qw_682 : Cond.instanceMethod yX9_exposed ∈ qm_tb := qm_tbl (i := 682) (by decide +kernel) rfl
theorem qw_683 : Cond.selects RX9 yX9_exposed yX9_exposed ∈ qm_tb := qm_tbl (i := 683) (by decide +kernel) rfl
theorem qw_684 : Cond.code yX9_exposed cX9_exposed 2 (some .int) ∈ qm_tb := qm_tbl (i := 684) (by decide +kernel) rfl
theorem qw_685 : Cond.methodLink RX9 183 yX4_isMatch ∈ qm_tb := qm_tbl (i := 685) (by decide +kernel) rfl
theorem qw_686 : Cond.instanceMethod yX4_isMatch ∈ qm_tb := qm_tbl (i := 686) (by decide +kernel) rfl
theorem qw_687 : Cond.selects RX4 yX4_isMatch yX4_isMatch ∈ qm_tb := qm_tbl (i := 687) (by decide +kernel) rfl
theorem qw_688 : Cond.code yX4_isMatch cX4_isMatch 2 (some .boolean) ∈ qm_tb := qm_tbl (i := 688) (by decide +kernel) rfl
theorem qw_689 : Cond.methodLink RX9 186 yX4_bits ∈ qm_tb := qm_tbl (i := 689) (by decide +kernel) rfl
theorem qw_690 : Cond.methodLink RX9 189 yX8_openTo ∈ qm_tb := qm_tbl (i := 690) (by decide +kernel) rfl
theorem qw_691 : Cond.instanceMethod yX8_openTo ∈ qm_tb := qm_tbl (i := 691) (by decide +kernel) rfl
theorem qw_692 : Cond.selects RX8 yX8_openTo yX8_openTo ∈ qm_tb := qm_tbl (i := 692) (by decide +kernel) rfl
theorem qw_693 : Cond.code yX8_openTo cX8_openTo 4 (some .int) ∈ qm_tb := qm_tbl (i := 693) (by decide +kernel) rfl
theorem qw_694 : Cond.methodLink RX8 59 yX8_isReady ∈ qm_tb := qm_tbl (i := 694) (by decide +kernel) rfl
theorem qw_695 : Cond.methodLink R_law 77 yX9_match ∈ qm_tb := qm_tbl (i := 695) (by decide +kernel) rfl
theorem qw_696 : Cond.instanceMethod yX9_match ∈ qm_tb := qm_tbl (i := 696) (by decide +kernel) rfl
theorem qw_697 : Cond.selects RX9 yX9_match yX9_match ∈ qm_tb := qm_tbl (i := 697) (by decide +kernel) rfl
theorem qw_698 : Cond.code yX9_match cX9_match 2 (some .int) ∈ qm_tb := qm_tbl (i := 698) (by decide +kernel) rfl
theorem qw_699 : Cond.methodLink R_law 81 yX9_has ∈ qm_tb := qm_tbl (i := 699) (by decide +kernel) rfl
theorem qw_700 : Cond.instanceMethod yX9_has ∈ qm_tb := qm_tbl (i := 700) (by decide +kernel) rfl
theorem qw_701 : Cond.selects RX9 yX9_has yX9_has ∈ qm_tb := qm_tbl (i := 701) (by decide +kernel) rfl
theorem qw_702 : Cond.code yX9_has cX9_has 4 (some .int) ∈ qm_tb := qm_tbl (i := 702) (by decide +kernel) rfl
theorem qw_703 : Cond.methodLink RX9 192 yX4_load ∈ qm_tb := qm_tbl (i := 703) (by decide +kernel) rfl
theorem qw_704 : Cond.instanceMethod yX4_load ∈ qm_tb := qm_tbl (i := 704) (by decide +kernel) rfl
theorem qw_705 : Cond.selects RX4 yX4_load yX4_load ∈ qm_tb := qm_tbl (i := 705) (by decide +kernel) rfl
theorem qw_706 : Cond.code yX4_load cX4_load 5 (some (.object "MatchLattice$Pairing")) ∈ qm_tb := qm_tbl (i := 706) (by decide +kernel) rfl
theorem qw_707 : Cond.methodLink RX4 58 yX8_perform ∈ qm_tb := qm_tbl (i := 707) (by decide +kernel) rfl
theorem qw_708 : Cond.methodLink R_law 85 yX9_cost ∈ qm_tb := qm_tbl (i := 708) (by decide +kernel) rfl
theorem qw_709 : Cond.instanceMethod yX9_cost ∈ qm_tb := qm_tbl (i := 709) (by decide +kernel) rfl
theorem qw_710 : Cond.selects RX9 yX9_cost yX9_cost ∈ qm_tb := qm_tbl (i := 710) (by decide +kernel) rfl
theorem qw_711 : Cond.code yX9_cost cX9_cost 3 (some .int) ∈ qm_tb := qm_tbl (i := 711) (by decide +kernel) rfl
theorem qw_712 : Cond.methodLink RX9 196 yX9_isCost ∈ qm_tb := qm_tbl (i := 712) (by decide +kernel) rfl
theorem qw_713 : Cond.static yX9_isCost ∈ qm_tb := qm_tbl (i := 713) (by decide +kernel) rfl
theorem qw_714 : Cond.code yX9_isCost cX9_isCost 1 (some .boolean) ∈ qm_tb := qm_tbl (i := 714) (by decide +kernel) rfl
theorem qw_715 : Cond.methodLink RX9 199 yX3_costOf ∈ qm_tb := qm_tbl (i := 715) (by decide +kernel) rfl
theorem qw_716 : Cond.instanceMethod yX3_costOf ∈ qm_tb := qm_tbl (i := 716) (by decide +kernel) rfl
theorem qw_717 : Cond.selects RX3 yX3_costOf yX3_costOf ∈ qm_tb := qm_tbl (i := 717) (by decide +kernel) rfl
theorem qw_718 : Cond.code yX3_costOf cX3_costOf 10 (some .int) ∈ qm_tb := qm_tbl (i := 718) (by decide +kernel) rfl
theorem qw_719 : Cond.methodLink RX3 57 yX5_partner ∈ qm_tb := qm_tbl (i := 719) (by decide +kernel) rfl
theorem qw_720 : Cond.methodLink RX3 70 Lib.Math.max.name ∈ qm_tb := qm_tbl (i := 720) (by decide +kernel) rfl
theorem qw_721 : Cond.methodLink RX3 75 Lib.Math.abs.name ∈ qm_tb := qm_tbl (i := 721) (by decide +kernel) rfl
theorem qw_722 : Cond.static Lib.Math.abs.name ∈ qm_tb := qm_tbl (i := 722) (by decide +kernel) rfl
theorem qw_723 : Cond.code Lib.Math.abs.name Lib.Math.abs.code 1 (some .int) ∈ qm_tb := qm_tbl (i := 723) (by decide +kernel) rfl
theorem qw_724 : Cond.methodLink R_law 89 yX9_pick ∈ qm_tb := qm_tbl (i := 724) (by decide +kernel) rfl
theorem qw_725 : Cond.instanceMethod yX9_pick ∈ qm_tb := qm_tbl (i := 725) (by decide +kernel) rfl
theorem qw_726 : Cond.selects RX9 yX9_pick yX9_pick ∈ qm_tb := qm_tbl (i := 726) (by decide +kernel) rfl
theorem qw_727 : Cond.code yX9_pick cX9_pick 6 (some .int) ∈ qm_tb := qm_tbl (i := 727) (by decide +kernel) rfl
theorem qw_728 : Cond.methodLink R_law 93 yX9_most ∈ qm_tb := qm_tbl (i := 728) (by decide +kernel) rfl
theorem qw_729 : Cond.instanceMethod yX9_most ∈ qm_tb := qm_tbl (i := 729) (by decide +kernel) rfl
theorem qw_730 : Cond.selects RX9 yX9_most yX9_most ∈ qm_tb := qm_tbl (i := 730) (by decide +kernel) rfl
theorem qw_731 : Cond.code yX9_most cX9_most 3 (some .int) ∈ qm_tb := qm_tbl (i := 731) (by decide +kernel) rfl
theorem qw_732 : Cond.methodLink RX9 203 yX8_gainOfAll ∈ qm_tb := qm_tbl (i := 732) (by decide +kernel) rfl
theorem qw_733 : Cond.instanceMethod yX8_gainOfAll ∈ qm_tb := qm_tbl (i := 733) (by decide +kernel) rfl
theorem qw_734 : Cond.selects RX8 yX8_gainOfAll yX8_gainOfAll ∈ qm_tb := qm_tbl (i := 734) (by decide +kernel) rfl
theorem qw_735 : Cond.code yX8_gainOfAll cX8_gainOfAll 4 (some .int) ∈ qm_tb := qm_tbl (i := 735) (by decide +kernel) rfl
theorem qw_736 : Cond.methodLink RX8 65 yX8_gain ∈ qm_tb := qm_tbl (i := 736) (by decide +kernel) rfl
theorem qw_737 : Cond.methodLink RX9 206 Lib.Math.max.name ∈ qm_tb := qm_tbl (i := 737) (by decide +kernel) rfl
theorem qw_738 : Cond.methodLink R_law 97 yX9_either ∈ qm_tb := qm_tbl (i := 738) (by decide +kernel) rfl
theorem qw_739 : Cond.instanceMethod yX9_either ∈ qm_tb := qm_tbl (i := 739) (by decide +kernel) rfl
theorem qw_740 : Cond.selects RX9 yX9_either yX9_either ∈ qm_tb := qm_tbl (i := 740) (by decide +kernel) rfl
theorem qw_741 : Cond.code yX9_either cX9_either 6 (some .int) ∈ qm_tb := qm_tbl (i := 741) (by decide +kernel) rfl
theorem qw_742 : Cond.methodLink RX9 211 yX4_numberOf ∈ qm_tb := qm_tbl (i := 742) (by decide +kernel) rfl
theorem qw_743 : Cond.instanceMethod yX4_numberOf ∈ qm_tb := qm_tbl (i := 743) (by decide +kernel) rfl
theorem qw_744 : Cond.selects RX4 yX4_numberOf yX4_numberOf ∈ qm_tb := qm_tbl (i := 744) (by decide +kernel) rfl
theorem qw_745 : Cond.code yX4_numberOf cX4_numberOf 3 (some .int) ∈ qm_tb := qm_tbl (i := 745) (by decide +kernel) rfl
theorem qw_746 : Cond.methodLink R_law 101 yX9_middle ∈ qm_tb := qm_tbl (i := 746) (by decide +kernel) rfl
theorem qw_747 : Cond.instanceMethod yX9_middle ∈ qm_tb := qm_tbl (i := 747) (by decide +kernel) rfl
theorem qw_748 : Cond.selects RX9 yX9_middle yX9_middle ∈ qm_tb := qm_tbl (i := 748) (by decide +kernel) rfl
theorem qw_749 : Cond.code yX9_middle cX9_middle 7 (some .int) ∈ qm_tb := qm_tbl (i := 749) (by decide +kernel) rfl
theorem qw_750 : Cond.methodLink R_law 105 yX9_may ∈ qm_tb := qm_tbl (i := 750) (by decide +kernel) rfl
theorem qw_751 : Cond.instanceMethod yX9_may ∈ qm_tb := qm_tbl (i := 751) (by decide +kernel) rfl
theorem qw_752 : Cond.selects RX9 yX9_may yX9_may ∈ qm_tb := qm_tbl (i := 752) (by decide +kernel) rfl
theorem qw_753 : Cond.code yX9_may cX9_may 4 (some .int) ∈ qm_tb := qm_tbl (i := 753) (by decide +kernel) rfl
theorem qw_754 : Cond.methodLink RX9 214 yX8_partnersLeft ∈ qm_tb := qm_tbl (i := 754) (by decide +kernel) rfl
theorem qw_755 : Cond.instanceMethod yX8_partnersLeft ∈ qm_tb := qm_tbl (i := 755) (by decide +kernel) rfl
theorem qw_756 : Cond.selects RX8 yX8_partnersLeft yX8_partnersLeft ∈ qm_tb := qm_tbl (i := 756) (by decide +kernel) rfl
theorem qw_757 : Cond.code yX8_partnersLeft cX8_partnersLeft 6 (some .int) ∈ qm_tb := qm_tbl (i := 757) (by decide +kernel) rfl
theorem qw_758 : Cond.methodLink R_law 109 yX9_fixed ∈ qm_tb := qm_tbl (i := 758) (by decide +kernel) rfl
theorem qw_759 : Cond.instanceMethod yX9_fixed ∈ qm_tb := qm_tbl (i := 759) (by decide +kernel) rfl
theorem qw_760 : Cond.selects RX9 yX9_fixed yX9_fixed ∈ qm_tb := qm_tbl (i := 760) (by decide +kernel) rfl
theorem qw_761 : Cond.code yX9_fixed cX9_fixed 1 (some .int) ∈ qm_tb := qm_tbl (i := 761) (by decide +kernel) rfl
theorem qw_762 : Cond.methodLink RX9 217 yX8_movers ∈ qm_tb := qm_tbl (i := 762) (by decide +kernel) rfl
theorem qw_763 : Cond.instanceMethod yX8_movers ∈ qm_tb := qm_tbl (i := 763) (by decide +kernel) rfl
theorem qw_764 : Cond.selects RX8 yX8_movers yX8_movers ∈ qm_tb := qm_tbl (i := 764) (by decide +kernel) rfl
theorem qw_765 : Cond.code yX8_movers cX8_movers 4 (some .int) ∈ qm_tb := qm_tbl (i := 765) (by decide +kernel) rfl
theorem qw_766 : Cond.methodLink R_law 113 yX9_lie ∈ qm_tb := qm_tbl (i := 766) (by decide +kernel) rfl
theorem qw_767 : Cond.instanceMethod yX9_lie ∈ qm_tb := qm_tbl (i := 767) (by decide +kernel) rfl
theorem qw_768 : Cond.selects RX9 yX9_lie yX9_lie ∈ qm_tb := qm_tbl (i := 768) (by decide +kernel) rfl
theorem qw_769 : Cond.code yX9_lie cX9_lie 8 (some .int) ∈ qm_tb := qm_tbl (i := 769) (by decide +kernel) rfl
theorem qw_770 : Cond.methodLink RX9 220 yX3_orders ∈ qm_tb := qm_tbl (i := 770) (by decide +kernel) rfl
theorem qw_771 : Cond.instanceMethod yX3_orders ∈ qm_tb := qm_tbl (i := 771) (by decide +kernel) rfl
theorem qw_772 : Cond.selects RX3 yX3_orders yX3_orders ∈ qm_tb := qm_tbl (i := 772) (by decide +kernel) rfl
theorem qw_773 : Cond.code yX3_orders cX3_orders 3 (some .int) ∈ qm_tb := qm_tbl (i := 773) (by decide +kernel) rfl
theorem qw_774 : Cond.methodLink RX9 223 yX3_arrange ∈ qm_tb := qm_tbl (i := 774) (by decide +kernel) rfl
theorem qw_775 : Cond.instanceMethod yX3_arrange ∈ qm_tb := qm_tbl (i := 775) (by decide +kernel) rfl
theorem qw_776 : Cond.selects RX3 yX3_arrange yX3_arrange ∈ qm_tb := qm_tbl (i := 776) (by decide +kernel) rfl
theorem qw_777 : Cond.code yX3_arrange cX3_arrange 8 none ∈ qm_tb := qm_tbl (i := 777) (by decide +kernel) rfl
theorem qw_778 : Cond.methodLink RX3 53 yX3_unused ∈ qm_tb := qm_tbl (i := 778) (by decide +kernel) rfl
theorem qw_780 : Cond.instanceMethod yX3_unused ∈ qm_tb := qm_tbl (i := 780) (by decide +kernel) rfl
theorem qw_781 : Cond.code yX3_unused cX3_unused 5 (some .int) ∈ qm_tb := qm_tbl (i := 781) (by decide +kernel) rfl
theorem qw_782 : Cond.methodLink RX9 226 yX3_place ∈ qm_tb := qm_tbl (i := 782) (by decide +kernel) rfl
theorem qw_783 : Cond.methodLink R_law 117 yX9_text ∈ qm_tb := qm_tbl (i := 783) (by decide +kernel) rfl
theorem qw_784 : Cond.instanceMethod yX9_text ∈ qm_tb := qm_tbl (i := 784) (by decide +kernel) rfl
theorem qw_785 : Cond.selects RX9 yX9_text yX9_text ∈ qm_tb := qm_tbl (i := 785) (by decide +kernel) rfl
theorem qw_786 : Cond.code yX9_text cX9_text 4 (some .int) ∈ qm_tb := qm_tbl (i := 786) (by decide +kernel) rfl
theorem qw_787 : Cond.methodLink RX9 229 yX9_printed ∈ qm_tb := qm_tbl (i := 787) (by decide +kernel) rfl
theorem qw_788 : Cond.static yX9_printed ∈ qm_tb := qm_tbl (i := 788) (by decide +kernel) rfl
theorem qw_789 : Cond.code yX9_printed cX9_printed 3 (some .int) ∈ qm_tb := qm_tbl (i := 789) (by decide +kernel) rfl
theorem qw_790 : Cond.methodLink R_law 121 yX9_hand ∈ qm_tb := qm_tbl (i := 790) (by decide +kernel) rfl
theorem qw_791 : Cond.instanceMethod yX9_hand ∈ qm_tb := qm_tbl (i := 791) (by decide +kernel) rfl
theorem qw_792 : Cond.selects RX9 yX9_hand yX9_hand ∈ qm_tb := qm_tbl (i := 792) (by decide +kernel) rfl
theorem qw_793 : Cond.code yX9_hand cX9_hand 4 (some .int) ∈ qm_tb := qm_tbl (i := 793) (by decide +kernel) rfl
theorem qw_794 : Cond.methodLink RX9 232 yX5_part ∈ qm_tb := qm_tbl (i := 794) (by decide +kernel) rfl
theorem qw_795 : Cond.methodLink RX9 236 yX5_join ∈ qm_tb := qm_tbl (i := 795) (by decide +kernel) rfl
theorem qw_796 : Cond.methodLink RX9 239 yX9_orNot ∈ qm_tb := qm_tbl (i := 796) (by decide +kernel) rfl
theorem qw_797 : Cond.static yX9_orNot ∈ qm_tb := qm_tbl (i := 797) (by decide +kernel) rfl
theorem qw_798 : Cond.code yX9_orNot cX9_orNot 1 (some .int) ∈ qm_tb := qm_tbl (i := 798) (by decide +kernel) rfl
theorem qw_799 : Cond.methodLink R_law 125 yX9_handed ∈ qm_tb := qm_tbl (i := 799) (by decide +kernel) rfl
theorem qw_800 : Cond.instanceMethod yX9_handed ∈ qm_tb := qm_tbl (i := 800) (by decide +kernel) rfl
theorem qw_801 : Cond.selects RX9 yX9_handed yX9_handed ∈ qm_tb := qm_tbl (i := 801) (by decide +kernel) rfl
theorem qw_802 : Cond.code yX9_handed cX9_handed 2 (some .int) ∈ qm_tb := qm_tbl (i := 802) (by decide +kernel) rfl
theorem qw_803 : Cond.methodLink R_law 129 yX9_blocks ∈ qm_tb := qm_tbl (i := 803) (by decide +kernel) rfl
theorem qw_804 : Cond.instanceMethod yX9_blocks ∈ qm_tb := qm_tbl (i := 804) (by decide +kernel) rfl
theorem qw_805 : Cond.selects RX9 yX9_blocks yX9_blocks ∈ qm_tb := qm_tbl (i := 805) (by decide +kernel) rfl
theorem qw_806 : Cond.code yX9_blocks cX9_blocks 1 (some .int) ∈ qm_tb := qm_tbl (i := 806) (by decide +kernel) rfl
theorem qw_807 : Cond.methodLink RX9 242 yX3_firstBlock ∈ qm_tb := qm_tbl (i := 807) (by decide +kernel) rfl
theorem qw_808 : Cond.instanceMethod yX3_firstBlock ∈ qm_tb := qm_tbl (i := 808) (by decide +kernel) rfl
theorem qw_809 : Cond.selects RX3 yX3_firstBlock yX3_firstBlock ∈ qm_tb := qm_tbl (i := 809) (by decide +kernel) rfl
theorem qw_810 : Cond.code yX3_firstBlock cX3_firstBlock 4 (some .int) ∈ qm_tb := qm_tbl (i := 810) (by decide +kernel) rfl
theorem qw_811 : Cond.methodLink RX3 66 yX3_doBlock ∈ qm_tb := qm_tbl (i := 811) (by decide +kernel) rfl
theorem qw_812 : Cond.instanceMethod yX3_doBlock ∈ qm_tb := qm_tbl (i := 812) (by decide +kernel) rfl
theorem qw_813 : Cond.selects RX3 yX3_doBlock yX3_doBlock ∈ qm_tb := qm_tbl (i := 813) (by decide +kernel) rfl
theorem qw_814 : Cond.code yX3_doBlock cX3_doBlock 5 (some .boolean) ∈ qm_tb := qm_tbl (i := 814) (by decide +kernel) rfl
theorem qw_815 : Cond.methodLink RX3 62 yX3_wouldRather ∈ qm_tb := qm_tbl (i := 815) (by decide +kernel) rfl
theorem qw_816 : Cond.methodLink R_law 133 yX9_blocking ∈ qm_tb := qm_tbl (i := 816) (by decide +kernel) rfl
theorem qw_817 : Cond.instanceMethod yX9_blocking ∈ qm_tb := qm_tbl (i := 817) (by decide +kernel) rfl
theorem qw_818 : Cond.selects RX9 yX9_blocking yX9_blocking ∈ qm_tb := qm_tbl (i := 818) (by decide +kernel) rfl
theorem qw_819 : Cond.code yX9_blocking cX9_blocking 1 (some .int) ∈ qm_tb := qm_tbl (i := 819) (by decide +kernel) rfl
theorem qw_820 : Cond.methodLink RX9 246 yX3_howManyBlock ∈ qm_tb := qm_tbl (i := 820) (by decide +kernel) rfl
theorem qw_821 : Cond.instanceMethod yX3_howManyBlock ∈ qm_tb := qm_tbl (i := 821) (by decide +kernel) rfl
theorem qw_822 : Cond.selects RX3 yX3_howManyBlock yX3_howManyBlock ∈ qm_tb := qm_tbl (i := 822) (by decide +kernel) rfl
theorem qw_823 : Cond.code yX3_howManyBlock cX3_howManyBlock 5 (some .int) ∈ qm_tb := qm_tbl (i := 823) (by decide +kernel) rfl
theorem qw_824 : Cond.methodLink R_law 137 yX9_mended ∈ qm_tb := qm_tbl (i := 824) (by decide +kernel) rfl
theorem qw_825 : Cond.instanceMethod yX9_mended ∈ qm_tb := qm_tbl (i := 825) (by decide +kernel) rfl
theorem qw_826 : Cond.selects RX9 yX9_mended yX9_mended ∈ qm_tb := qm_tbl (i := 826) (by decide +kernel) rfl
theorem qw_827 : Cond.code yX9_mended cX9_mended 3 (some .int) ∈ qm_tb := qm_tbl (i := 827) (by decide +kernel) rfl
theorem qw_828 : Cond.methodLink RX9 249 yX9_mend ∈ qm_tb := qm_tbl (i := 828) (by decide +kernel) rfl
theorem qw_830 : Cond.instanceMethod yX9_mend ∈ qm_tb := qm_tbl (i := 830) (by decide +kernel) rfl
theorem qw_831 : Cond.code yX9_mend cX9_mend 3 (some .int) ∈ qm_tb := qm_tbl (i := 831) (by decide +kernel) rfl
theorem qw_832 : Cond.methodLink RX9 275 yX5_copyFrom ∈ qm_tb := qm_tbl (i := 832) (by decide +kernel) rfl
theorem qw_833 : Cond.methodLink R_law 141 yX9_known ∈ qm_tb := qm_tbl (i := 833) (by decide +kernel) rfl
theorem qw_834 : Cond.instanceMethod yX9_known ∈ qm_tb := qm_tbl (i := 834) (by decide +kernel) rfl
theorem qw_835 : Cond.selects RX9 yX9_known yX9_known ∈ qm_tb := qm_tbl (i := 835) (by decide +kernel) rfl
theorem qw_836 : Cond.code yX9_known cX9_known 1 (some .int) ∈ qm_tb := qm_tbl (i := 836) (by decide +kernel) rfl
theorem qw_837 : Cond.methodLink RX9 252 yX8_behind ∈ qm_tb := qm_tbl (i := 837) (by decide +kernel) rfl
theorem qw_838 : Cond.instanceMethod yX8_behind ∈ qm_tb := qm_tbl (i := 838) (by decide +kernel) rfl
theorem qw_839 : Cond.selects RX8 yX8_behind yX8_behind ∈ qm_tb := qm_tbl (i := 839) (by decide +kernel) rfl
theorem qw_840 : Cond.code yX8_behind cX8_behind 6 (some .int) ∈ qm_tb := qm_tbl (i := 840) (by decide +kernel) rfl
theorem qw_841 : Cond.methodLink R_law 145 yX9_image ∈ qm_tb := qm_tbl (i := 841) (by decide +kernel) rfl
theorem qw_842 : Cond.instanceMethod yX9_image ∈ qm_tb := qm_tbl (i := 842) (by decide +kernel) rfl
theorem qw_843 : Cond.selects RX9 yX9_image yX9_image ∈ qm_tb := qm_tbl (i := 843) (by decide +kernel) rfl
theorem qw_844 : Cond.code yX9_image cX9_image 1 (some .int) ∈ qm_tb := qm_tbl (i := 844) (by decide +kernel) rfl
theorem qw_845 : Cond.methodLink RX9 255 yX2_take ∈ qm_tb := qm_tbl (i := 845) (by decide +kernel) rfl
theorem qw_846 : Cond.instanceMethod yX2_take ∈ qm_tb := qm_tbl (i := 846) (by decide +kernel) rfl
theorem qw_847 : Cond.selects RX2 yX2_take yX2_take ∈ qm_tb := qm_tbl (i := 847) (by decide +kernel) rfl
theorem qw_848 : Cond.code yX2_take cX2_take 3 none ∈ qm_tb := qm_tbl (i := 848) (by decide +kernel) rfl
theorem qw_849 : Cond.methodLink RX2 27 yX3_copyFrom ∈ qm_tb := qm_tbl (i := 849) (by decide +kernel) rfl
theorem qw_850 : Cond.methodLink RX2 31 yX5_copyFrom ∈ qm_tb := qm_tbl (i := 850) (by decide +kernel) rfl
theorem qw_851 : Cond.methodLink R_law 149 yX9_back ∈ qm_tb := qm_tbl (i := 851) (by decide +kernel) rfl
theorem qw_852 : Cond.instanceMethod yX9_back ∈ qm_tb := qm_tbl (i := 852) (by decide +kernel) rfl
theorem qw_853 : Cond.selects RX9 yX9_back yX9_back ∈ qm_tb := qm_tbl (i := 853) (by decide +kernel) rfl
theorem qw_854 : Cond.code yX9_back cX9_back 1 (some .int) ∈ qm_tb := qm_tbl (i := 854) (by decide +kernel) rfl
theorem qw_855 : Cond.methodLink RX9 259 yX2_isThere ∈ qm_tb := qm_tbl (i := 855) (by decide +kernel) rfl
theorem qw_856 : Cond.instanceMethod yX2_isThere ∈ qm_tb := qm_tbl (i := 856) (by decide +kernel) rfl
theorem qw_857 : Cond.selects RX2 yX2_isThere yX2_isThere ∈ qm_tb := qm_tbl (i := 857) (by decide +kernel) rfl
theorem qw_858 : Cond.code yX2_isThere cX2_isThere 1 (some .boolean) ∈ qm_tb := qm_tbl (i := 858) (by decide +kernel) rfl
theorem qw_859 : Cond.methodLink RX9 263 yX2_layBack ∈ qm_tb := qm_tbl (i := 859) (by decide +kernel) rfl
theorem qw_860 : Cond.instanceMethod yX2_layBack ∈ qm_tb := qm_tbl (i := 860) (by decide +kernel) rfl
theorem qw_861 : Cond.selects RX2 yX2_layBack yX2_layBack ∈ qm_tb := qm_tbl (i := 861) (by decide +kernel) rfl
theorem qw_862 : Cond.code yX2_layBack cX2_layBack 3 none ∈ qm_tb := qm_tbl (i := 862) (by decide +kernel) rfl
theorem qw_863 : Cond.methodLink R_law 153 yX9_count ∈ qm_tb := qm_tbl (i := 863) (by decide +kernel) rfl
theorem qw_864 : Cond.instanceMethod yX9_count ∈ qm_tb := qm_tbl (i := 864) (by decide +kernel) rfl
theorem qw_865 : Cond.selects RX9 yX9_count yX9_count ∈ qm_tb := qm_tbl (i := 865) (by decide +kernel) rfl
theorem qw_866 : Cond.code yX9_count cX9_count 2 (some .int) ∈ qm_tb := qm_tbl (i := 866) (by decide +kernel) rfl
theorem qw_867 : Cond.methodLink RX9 266 yX9_leftsAlone ∈ qm_tb := qm_tbl (i := 867) (by decide +kernel) rfl
theorem qw_869 : Cond.instanceMethod yX9_leftsAlone ∈ qm_tb := qm_tbl (i := 869) (by decide +kernel) rfl
theorem qw_870 : Cond.code yX9_leftsAlone cX9_leftsAlone 3 (some .int) ∈ qm_tb := qm_tbl (i := 870) (by decide +kernel) rfl
theorem qw_871 : Cond.classLink R_law 10 RX10 ∈ qm_tb := qm_tbl (i := 871) (by decide +kernel) rfl
theorem qw_872 : Cond.instantiable RX10 38 ∈ qm_tb := qm_tbl (i := 872) (by decide +kernel) rfl
theorem qw_873 : Cond.methodLink R_law 12 yX10_init ∈ qm_tb := qm_tbl (i := 873) (by decide +kernel) rfl
theorem qw_874 : Cond.instanceMethod yX10_init ∈ qm_tb := qm_tbl (i := 874) (by decide +kernel) rfl
theorem qw_875 : Cond.code yX10_init cX10_init 1 none ∈ qm_tb := qm_tbl (i := 875) (by decide +kernel) rfl
theorem qw_876 : Cond.methodLink RX10 1 Lib.objectInit ∈ qm_tb := qm_tbl (i := 876) (by decide +kernel) rfl
theorem qw_877 : Cond.methodLink RX10 89 yX10_begins ∈ qm_tb := qm_tbl (i := 877) (by decide +kernel) rfl
theorem qw_879 : Cond.instanceMethod yX10_begins ∈ qm_tb := qm_tbl (i := 879) (by decide +kernel) rfl
theorem qw_880 : Cond.code yX10_begins cX10_begins 2 none ∈ qm_tb := qm_tbl (i := 880) (by decide +kernel) rfl
theorem qw_881 : Cond.methodLink RX10 102 yX10_places ∈ qm_tb := qm_tbl (i := 881) (by decide +kernel) rfl
theorem qw_883 : Cond.instanceMethod yX10_places ∈ qm_tb := qm_tbl (i := 883) (by decide +kernel) rfl
theorem qw_884 : Cond.code yX10_places cX10_places 2 none ∈ qm_tb := qm_tbl (i := 884) (by decide +kernel) rfl
theorem qw_885 : Cond.fieldLink RX10 7 RX10 "n" "I" ∈ qm_tb := qm_tbl (i := 885) (by decide +kernel) rfl
theorem qw_886 : Cond.fieldLink RX10 13 RX10 "keptN" "I" ∈ qm_tb := qm_tbl (i := 886) (by decide +kernel) rfl
theorem qw_887 : Cond.fieldLink RX10 16 RX10 "list" "[I" ∈ qm_tb := qm_tbl (i := 887) (by decide +kernel) rfl
theorem qw_888 : Cond.fieldLink RX10 20 RX10 "place" "[I" ∈ qm_tb := qm_tbl (i := 888) (by decide +kernel) rfl
theorem qw_889 : Cond.fieldLink RX10 23 RX10 "keptList" "[I" ∈ qm_tb := qm_tbl (i := 889) (by decide +kernel) rfl
theorem qw_890 : Cond.fieldLink RX10 26 RX10 "mind" "[I" ∈ qm_tb := qm_tbl (i := 890) (by decide +kernel) rfl
theorem qw_891 : Cond.fieldLink RX10 29 RX10 "undone" "[I" ∈ qm_tb := qm_tbl (i := 891) (by decide +kernel) rfl
theorem qw_892 : Cond.fieldLink RX10 32 RX10 "again" "[I" ∈ qm_tb := qm_tbl (i := 892) (by decide +kernel) rfl
theorem qw_893 : Cond.fieldLink RX10 96 RX10 "undos" "I" ∈ qm_tb := qm_tbl (i := 893) (by decide +kernel) rfl
theorem qw_894 : Cond.fieldLink RX10 99 RX10 "redos" "I" ∈ qm_tb := qm_tbl (i := 894) (by decide +kernel) rfl
theorem qw_895 : Cond.fieldLink RX10 35 RX10 "tape" "[I" ∈ qm_tb := qm_tbl (i := 895) (by decide +kernel) rfl
theorem qw_896 : Cond.fieldLink RX10 38 RX10 "hand" "[I" ∈ qm_tb := qm_tbl (i := 896) (by decide +kernel) rfl
theorem qw_897 : Cond.fieldLink RX10 41 RX10 "keptHand" "[I" ∈ qm_tb := qm_tbl (i := 897) (by decide +kernel) rfl
theorem qw_898 : Cond.fieldLink RX10 44 RX10 "mended" "[I" ∈ qm_tb := qm_tbl (i := 898) (by decide +kernel) rfl
theorem qw_899 : Cond.fieldLink RX10 116 RX10 "letters" "I" ∈ qm_tb := qm_tbl (i := 899) (by decide +kernel) rfl
theorem qw_900 : Cond.fieldLink RX10 122 RX10 "at" "I" ∈ qm_tb := qm_tbl (i := 900) (by decide +kernel) rfl
theorem qw_901 : Cond.fieldLink RX10 119 RX10 "fault" "I" ∈ qm_tb := qm_tbl (i := 901) (by decide +kernel) rfl
theorem qw_902 : Cond.fieldLink RX10 47 RX10 "asked" "[I" ∈ qm_tb := qm_tbl (i := 902) (by decide +kernel) rfl
theorem qw_903 : Cond.fieldLink RX10 50 RX10 "asks" "[I" ∈ qm_tb := qm_tbl (i := 903) (by decide +kernel) rfl
theorem qw_904 : Cond.fieldLink RX10 53 RX10 "had" "[I" ∈ qm_tb := qm_tbl (i := 904) (by decide +kernel) rfl
theorem qw_905 : Cond.fieldLink RX10 56 RX10 "bestOf" "[I" ∈ qm_tb := qm_tbl (i := 905) (by decide +kernel) rfl
theorem qw_906 : Cond.fieldLink RX10 59 RX10 "match" "[I" ∈ qm_tb := qm_tbl (i := 906) (by decide +kernel) rfl
theorem qw_907 : Cond.fieldLink RX10 62 RX10 "other" "[I" ∈ qm_tb := qm_tbl (i := 907) (by decide +kernel) rfl
theorem qw_908 : Cond.fieldLink RX10 65 RX10 "third" "[I" ∈ qm_tb := qm_tbl (i := 908) (by decide +kernel) rfl
theorem qw_909 : Cond.fieldLink RX10 165 RX10 "askings" "I" ∈ qm_tb := qm_tbl (i := 909) (by decide +kernel) rfl
theorem qw_910 : Cond.fieldLink RX10 68 RX10 "pairs" "[I" ∈ qm_tb := qm_tbl (i := 910) (by decide +kernel) rfl
theorem qw_911 : Cond.fieldLink RX10 71 RX10 "many" "[I" ∈ qm_tb := qm_tbl (i := 911) (by decide +kernel) rfl
theorem qw_912 : Cond.fieldLink RX10 74 RX10 "ahead" "[I" ∈ qm_tb := qm_tbl (i := 912) (by decide +kernel) rfl
theorem qw_913 : Cond.fieldLink RX10 77 RX10 "depth" "[I" ∈ qm_tb := qm_tbl (i := 913) (by decide +kernel) rfl
theorem qw_914 : Cond.fieldLink RX10 80 RX10 "next" "[I" ∈ qm_tb := qm_tbl (i := 914) (by decide +kernel) rfl
theorem qw_915 : Cond.fieldLink RX10 83 RX10 "cycle" "[I" ∈ qm_tb := qm_tbl (i := 915) (by decide +kernel) rfl
theorem qw_916 : Cond.fieldLink RX10 190 RX10 "turns" "I" ∈ qm_tb := qm_tbl (i := 916) (by decide +kernel) rfl
theorem qw_917 : Cond.fieldLink RX10 187 RX10 "cycleMany" "I" ∈ qm_tb := qm_tbl (i := 917) (by decide +kernel) rfl
theorem qw_918 : Cond.fieldLink RX10 86 RX10 "closed" "[I" ∈ qm_tb := qm_tbl (i := 918) (by decide +kernel) rfl
theorem qw_919 : Cond.fieldLink RX10 162 RX10 "matches" "I" ∈ qm_tb := qm_tbl (i := 919) (by decide +kernel) rfl
theorem qw_920 : Cond.fieldLink RX10 105 RX10 "isKnown" "Z" ∈ qm_tb := qm_tbl (i := 920) (by decide +kernel) rfl
theorem qw_921 : Cond.fieldLink RX10 253 RX10 "liePlace" "I" ∈ qm_tb := qm_tbl (i := 921) (by decide +kernel) rfl
theorem qw_922 : Cond.fieldLink RX10 250 RX10 "lieMany" "I" ∈ qm_tb := qm_tbl (i := 922) (by decide +kernel) rfl
theorem qw_1000 : Cond.methodLink R_law 17 yX10_size ∈ qm_tb := qm_tbl (i := 1000) (by decide +kernel) rfl
theorem qw_1001 : Cond.instanceMethod yX10_size ∈ qm_tb := qm_tbl (i := 1001) (by decide +kernel) rfl
theorem qw_1002 : Cond.selects RX10 yX10_size yX10_size ∈ qm_tb := qm_tbl (i := 1002) (by decide +kernel) rfl
theorem qw_1003 : Cond.code yX10_size cX10_size 3 (some .int) ∈ qm_tb := qm_tbl (i := 1003) (by decide +kernel) rfl
theorem qw_1004 : Cond.methodLink RX10 92 yX10_isIn ∈ qm_tb := qm_tbl (i := 1004) (by decide +kernel) rfl
theorem qw_1005 : Cond.static yX10_isIn ∈ qm_tb := qm_tbl (i := 1005) (by decide +kernel) rfl
theorem qw_1006 : Cond.code yX10_isIn cX10_isIn 3 (some .boolean) ∈ qm_tb := qm_tbl (i := 1006) (by decide +kernel) rfl
theorem qw_1007 : Cond.methodLink R_law 21 yX10_feed ∈ qm_tb := qm_tbl (i := 1007) (by decide +kernel) rfl
theorem qw_1008 : Cond.instanceMethod yX10_feed ∈ qm_tb := qm_tbl (i := 1008) (by decide +kernel) rfl
theorem qw_1009 : Cond.selects RX10 yX10_feed yX10_feed ∈ qm_tb := qm_tbl (i := 1009) (by decide +kernel) rfl
theorem qw_1010 : Cond.code yX10_feed cX10_feed 2 (some .int) ∈ qm_tb := qm_tbl (i := 1010) (by decide +kernel) rfl
theorem qw_1011 : Cond.methodLink R_law 26 yX10_lists ∈ qm_tb := qm_tbl (i := 1011) (by decide +kernel) rfl
theorem qw_1012 : Cond.instanceMethod yX10_lists ∈ qm_tb := qm_tbl (i := 1012) (by decide +kernel) rfl
theorem qw_1013 : Cond.selects RX10 yX10_lists yX10_lists ∈ qm_tb := qm_tbl (i := 1013) (by decide +kernel) rfl
theorem qw_1014 : Cond.code yX10_lists cX10_lists 2 (some .int) ∈ qm_tb := qm_tbl (i := 1014) (by decide +kernel) rfl
theorem qw_1015 : Cond.methodLink RX10 139 yX10_copies ∈ qm_tb := qm_tbl (i := 1015) (by decide +kernel) rfl
theorem qw_1016 : Cond.static yX10_copies ∈ qm_tb := qm_tbl (i := 1016) (by decide +kernel) rfl
theorem qw_1017 : Cond.code yX10_copies cX10_copies 6 none ∈ qm_tb := qm_tbl (i := 1017) (by decide +kernel) rfl
theorem qw_1018 : Cond.methodLink RX10 143 yX10_line ∈ qm_tb := qm_tbl (i := 1018) (by decide +kernel) rfl
theorem qw_1020 : Cond.instanceMethod yX10_line ∈ qm_tb := qm_tbl (i := 1020) (by decide +kernel) rfl
theorem qw_1021 : Cond.code yX10_line cX10_line 6 none ∈ qm_tb := qm_tbl (i := 1021) (by decide +kernel) rfl
theorem qw_1022 : Cond.methodLink RX10 124 yX10_sees ∈ qm_tb := qm_tbl (i := 1022) (by decide +kernel) rfl
theorem qw_1024 : Cond.instanceMethod yX10_sees ∈ qm_tb := qm_tbl (i := 1024) (by decide +kernel) rfl
theorem qw_1025 : Cond.code yX10_sees cX10_sees 3 (some .boolean) ∈ qm_tb := qm_tbl (i := 1025) (by decide +kernel) rfl
theorem qw_1026 : Cond.methodLink RX10 131 yX10_takes ∈ qm_tb := qm_tbl (i := 1026) (by decide +kernel) rfl
theorem qw_1028 : Cond.instanceMethod yX10_takes ∈ qm_tb := qm_tbl (i := 1028) (by decide +kernel) rfl
theorem qw_1029 : Cond.code yX10_takes cX10_takes 2 (some .boolean) ∈ qm_tb := qm_tbl (i := 1029) (by decide +kernel) rfl
theorem qw_1030 : Cond.methodLink RX10 135 yX10_figure ∈ qm_tb := qm_tbl (i := 1030) (by decide +kernel) rfl
theorem qw_1032 : Cond.instanceMethod yX10_figure ∈ qm_tb := qm_tbl (i := 1032) (by decide +kernel) rfl
theorem qw_1033 : Cond.code yX10_figure cX10_figure 2 (some .int) ∈ qm_tb := qm_tbl (i := 1033) (by decide +kernel) rfl
theorem qw_1034 : Cond.methodLink RX10 128 yX10_has ∈ qm_tb := qm_tbl (i := 1034) (by decide +kernel) rfl
theorem qw_1035 : Cond.static yX10_has ∈ qm_tb := qm_tbl (i := 1035) (by decide +kernel) rfl
theorem qw_1036 : Cond.code yX10_has cX10_has 2 (some .boolean) ∈ qm_tb := qm_tbl (i := 1036) (by decide +kernel) rfl
theorem qw_1037 : Cond.methodLink RX10 109 yX10_at ∈ qm_tb := qm_tbl (i := 1037) (by decide +kernel) rfl
theorem qw_1038 : Cond.static yX10_at ∈ qm_tb := qm_tbl (i := 1038) (by decide +kernel) rfl
theorem qw_1039 : Cond.code yX10_at cX10_at 3 (some .int) ∈ qm_tb := qm_tbl (i := 1039) (by decide +kernel) rfl
theorem qw_1040 : Cond.methodLink RX10 146 yX10_changes ∈ qm_tb := qm_tbl (i := 1040) (by decide +kernel) rfl
theorem qw_1042 : Cond.instanceMethod yX10_changes ∈ qm_tb := qm_tbl (i := 1042) (by decide +kernel) rfl
theorem qw_1043 : Cond.code yX10_changes cX10_changes 1 none ∈ qm_tb := qm_tbl (i := 1043) (by decide +kernel) rfl
theorem qw_1044 : Cond.methodLink R_law 31 yX10_list ∈ qm_tb := qm_tbl (i := 1044) (by decide +kernel) rfl
theorem qw_1045 : Cond.instanceMethod yX10_list ∈ qm_tb := qm_tbl (i := 1045) (by decide +kernel) rfl
theorem qw_1046 : Cond.selects RX10 yX10_list yX10_list ∈ qm_tb := qm_tbl (i := 1046) (by decide +kernel) rfl
theorem qw_1047 : Cond.code yX10_list cX10_list 4 (some .int) ∈ qm_tb := qm_tbl (i := 1047) (by decide +kernel) rfl
theorem qw_1048 : Cond.methodLink RX10 149 yX10_isOne ∈ qm_tb := qm_tbl (i := 1048) (by decide +kernel) rfl
theorem qw_1050 : Cond.instanceMethod yX10_isOne ∈ qm_tb := qm_tbl (i := 1050) (by decide +kernel) rfl
theorem qw_1051 : Cond.code yX10_isOne cX10_isOne 2 (some .boolean) ∈ qm_tb := qm_tbl (i := 1051) (by decide +kernel) rfl
theorem qw_1052 : Cond.methodLink R_law 35 yX10_stir ∈ qm_tb := qm_tbl (i := 1052) (by decide +kernel) rfl
theorem qw_1053 : Cond.instanceMethod yX10_stir ∈ qm_tb := qm_tbl (i := 1053) (by decide +kernel) rfl
theorem qw_1054 : Cond.selects RX10 yX10_stir yX10_stir ∈ qm_tb := qm_tbl (i := 1054) (by decide +kernel) rfl
theorem qw_1055 : Cond.code yX10_stir cX10_stir 4 (some .int) ∈ qm_tb := qm_tbl (i := 1055) (by decide +kernel) rfl
theorem qw_1056 : Cond.methodLink RX10 152 yX10_mayStir ∈ qm_tb := qm_tbl (i := 1056) (by decide +kernel) rfl
theorem qw_1058 : Cond.instanceMethod yX10_mayStir ∈ qm_tb := qm_tbl (i := 1058) (by decide +kernel) rfl
theorem qw_1059 : Cond.code yX10_mayStir cX10_mayStir 4 (some .boolean) ∈ qm_tb := qm_tbl (i := 1059) (by decide +kernel) rfl
theorem qw_1060 : Cond.methodLink RX10 155 yX10_stirs ∈ qm_tb := qm_tbl (i := 1060) (by decide +kernel) rfl
theorem qw_1062 : Cond.instanceMethod yX10_stirs ∈ qm_tb := qm_tbl (i := 1062) (by decide +kernel) rfl
theorem qw_1063 : Cond.code yX10_stirs cX10_stirs 7 none ∈ qm_tb := qm_tbl (i := 1063) (by decide +kernel) rfl
theorem qw_1064 : Cond.methodLink R_law 39 yX10_stirred ∈ qm_tb := qm_tbl (i := 1064) (by decide +kernel) rfl
theorem qw_1065 : Cond.instanceMethod yX10_stirred ∈ qm_tb := qm_tbl (i := 1065) (by decide +kernel) rfl
theorem qw_1066 : Cond.selects RX10 yX10_stirred yX10_stirred ∈ qm_tb := qm_tbl (i := 1066) (by decide +kernel) rfl
theorem qw_1067 : Cond.code yX10_stirred cX10_stirred 5 (some .int) ∈ qm_tb := qm_tbl (i := 1067) (by decide +kernel) rfl
theorem qw_1068 : Cond.methodLink RX10 159 yX10_knows ∈ qm_tb := qm_tbl (i := 1068) (by decide +kernel) rfl
theorem qw_1070 : Cond.instanceMethod yX10_knows ∈ qm_tb := qm_tbl (i := 1070) (by decide +kernel) rfl
theorem qw_1071 : Cond.code yX10_knows cX10_knows 4 none ∈ qm_tb := qm_tbl (i := 1071) (by decide +kernel) rfl
theorem qw_1072 : Cond.methodLink RX10 179 yX10_bests ∈ qm_tb := qm_tbl (i := 1072) (by decide +kernel) rfl
theorem qw_1074 : Cond.instanceMethod yX10_bests ∈ qm_tb := qm_tbl (i := 1074) (by decide +kernel) rfl
theorem qw_1075 : Cond.code yX10_bests cX10_bests 4 none ∈ qm_tb := qm_tbl (i := 1075) (by decide +kernel) rfl
theorem qw_1076 : Cond.methodLink RX10 176 yX10_asks ∈ qm_tb := qm_tbl (i := 1076) (by decide +kernel) rfl
theorem qw_1078 : Cond.instanceMethod yX10_asks ∈ qm_tb := qm_tbl (i := 1078) (by decide +kernel) rfl
theorem qw_1079 : Cond.code yX10_asks cX10_asks 5 none ∈ qm_tb := qm_tbl (i := 1079) (by decide +kernel) rfl
theorem qw_1080 : Cond.methodLink RX10 168 yX10_rather ∈ qm_tb := qm_tbl (i := 1080) (by decide +kernel) rfl
theorem qw_1082 : Cond.instanceMethod yX10_rather ∈ qm_tb := qm_tbl (i := 1082) (by decide +kernel) rfl
theorem qw_1083 : Cond.code yX10_rather cX10_rather 5 (some .boolean) ∈ qm_tb := qm_tbl (i := 1083) (by decide +kernel) rfl
theorem qw_1084 : Cond.methodLink RX10 113 yX10_placeOf ∈ qm_tb := qm_tbl (i := 1084) (by decide +kernel) rfl
theorem qw_1086 : Cond.instanceMethod yX10_placeOf ∈ qm_tb := qm_tbl (i := 1086) (by decide +kernel) rfl
theorem qw_1087 : Cond.code yX10_placeOf cX10_placeOf 4 (some .int) ∈ qm_tb := qm_tbl (i := 1087) (by decide +kernel) rfl
theorem qw_1088 : Cond.methodLink RX10 172 yX10_firstAlone ∈ qm_tb := qm_tbl (i := 1088) (by decide +kernel) rfl
theorem qw_1090 : Cond.instanceMethod yX10_firstAlone ∈ qm_tb := qm_tbl (i := 1090) (by decide +kernel) rfl
theorem qw_1091 : Cond.code yX10_firstAlone cX10_firstAlone 4 (some .int) ∈ qm_tb := qm_tbl (i := 1091) (by decide +kernel) rfl
theorem qw_1092 : Cond.methodLink RX10 210 yX10_finds ∈ qm_tb := qm_tbl (i := 1092) (by decide +kernel) rfl
theorem qw_1094 : Cond.instanceMethod yX10_finds ∈ qm_tb := qm_tbl (i := 1094) (by decide +kernel) rfl
theorem qw_1095 : Cond.code yX10_finds cX10_finds 3 none ∈ qm_tb := qm_tbl (i := 1095) (by decide +kernel) rfl
theorem qw_1096 : Cond.methodLink RX10 193 yX10_nexts ∈ qm_tb := qm_tbl (i := 1096) (by decide +kernel) rfl
theorem qw_1098 : Cond.instanceMethod yX10_nexts ∈ qm_tb := qm_tbl (i := 1098) (by decide +kernel) rfl
theorem qw_1099 : Cond.code yX10_nexts cX10_nexts 5 none ∈ qm_tb := qm_tbl (i := 1099) (by decide +kernel) rfl
theorem qw_1100 : Cond.methodLink RX10 183 yX10_leftOf ∈ qm_tb := qm_tbl (i := 1100) (by decide +kernel) rfl
theorem qw_1102 : Cond.instanceMethod yX10_leftOf ∈ qm_tb := qm_tbl (i := 1102) (by decide +kernel) rfl
theorem qw_1103 : Cond.code yX10_leftOf cX10_leftOf 4 (some .int) ∈ qm_tb := qm_tbl (i := 1103) (by decide +kernel) rfl
theorem qw_1104 : Cond.methodLink RX10 197 yX10_isFirst ∈ qm_tb := qm_tbl (i := 1104) (by decide +kernel) rfl
theorem qw_1106 : Cond.instanceMethod yX10_isFirst ∈ qm_tb := qm_tbl (i := 1106) (by decide +kernel) rfl
theorem qw_1107 : Cond.code yX10_isFirst cX10_isFirst 4 (some .boolean) ∈ qm_tb := qm_tbl (i := 1107) (by decide +kernel) rfl
theorem qw_1108 : Cond.methodLink RX10 204 yX10_does ∈ qm_tb := qm_tbl (i := 1108) (by decide +kernel) rfl
theorem qw_1110 : Cond.instanceMethod yX10_does ∈ qm_tb := qm_tbl (i := 1110) (by decide +kernel) rfl
theorem qw_1111 : Cond.code yX10_does cX10_does 4 none ∈ qm_tb := qm_tbl (i := 1111) (by decide +kernel) rfl
theorem qw_1112 : Cond.methodLink RX10 213 yX10_without ∈ qm_tb := qm_tbl (i := 1112) (by decide +kernel) rfl
theorem qw_1114 : Cond.instanceMethod yX10_without ∈ qm_tb := qm_tbl (i := 1114) (by decide +kernel) rfl
theorem qw_1115 : Cond.code yX10_without cX10_without 4 none ∈ qm_tb := qm_tbl (i := 1115) (by decide +kernel) rfl
theorem qw_1116 : Cond.methodLink RX10 207 yX10_firstExposed ∈ qm_tb := qm_tbl (i := 1116) (by decide +kernel) rfl
theorem qw_1118 : Cond.instanceMethod yX10_firstExposed ∈ qm_tb := qm_tbl (i := 1118) (by decide +kernel) rfl
theorem qw_1119 : Cond.code yX10_firstExposed cX10_firstExposed 4 (some .int) ∈ qm_tb := qm_tbl (i := 1119) (by decide +kernel) rfl
theorem qw_1120 : Cond.methodLink RX10 201 yX10_numberOf ∈ qm_tb := qm_tbl (i := 1120) (by decide +kernel) rfl
theorem qw_1122 : Cond.instanceMethod yX10_numberOf ∈ qm_tb := qm_tbl (i := 1122) (by decide +kernel) rfl
theorem qw_1123 : Cond.code yX10_numberOf cX10_numberOf 4 (some .int) ∈ qm_tb := qm_tbl (i := 1123) (by decide +kernel) rfl
theorem qw_1124 : Cond.methodLink RX10 216 Lib.Math.max.name ∈ qm_tb := qm_tbl (i := 1124) (by decide +kernel) rfl
theorem qw_1125 : Cond.methodLink R_law 43 yX10_undo ∈ qm_tb := qm_tbl (i := 1125) (by decide +kernel) rfl
theorem qw_1126 : Cond.instanceMethod yX10_undo ∈ qm_tb := qm_tbl (i := 1126) (by decide +kernel) rfl
theorem qw_1127 : Cond.selects RX10 yX10_undo yX10_undo ∈ qm_tb := qm_tbl (i := 1127) (by decide +kernel) rfl
theorem qw_1128 : Cond.code yX10_undo cX10_undo 1 (some .int) ∈ qm_tb := qm_tbl (i := 1128) (by decide +kernel) rfl
theorem qw_1129 : Cond.methodLink R_law 47 yX10_redo ∈ qm_tb := qm_tbl (i := 1129) (by decide +kernel) rfl
theorem qw_1130 : Cond.instanceMethod yX10_redo ∈ qm_tb := qm_tbl (i := 1130) (by decide +kernel) rfl
theorem qw_1131 : Cond.selects RX10 yX10_redo yX10_redo ∈ qm_tb := qm_tbl (i := 1131) (by decide +kernel) rfl
theorem qw_1132 : Cond.code yX10_redo cX10_redo 1 (some .int) ∈ qm_tb := qm_tbl (i := 1132) (by decide +kernel) rfl
theorem qw_1133 : Cond.methodLink R_law 51 yX10_best ∈ qm_tb := qm_tbl (i := 1133) (by decide +kernel) rfl
theorem qw_1134 : Cond.instanceMethod yX10_best ∈ qm_tb := qm_tbl (i := 1134) (by decide +kernel) rfl
theorem qw_1135 : Cond.selects RX10 yX10_best yX10_best ∈ qm_tb := qm_tbl (i := 1135) (by decide +kernel) rfl
theorem qw_1136 : Cond.code yX10_best cX10_best 4 (some .int) ∈ qm_tb := qm_tbl (i := 1136) (by decide +kernel) rfl
theorem qw_1137 : Cond.methodLink R_law 56 yX10_asking ∈ qm_tb := qm_tbl (i := 1137) (by decide +kernel) rfl
theorem qw_1138 : Cond.instanceMethod yX10_asking ∈ qm_tb := qm_tbl (i := 1138) (by decide +kernel) rfl
theorem qw_1139 : Cond.selects RX10 yX10_asking yX10_asking ∈ qm_tb := qm_tbl (i := 1139) (by decide +kernel) rfl
theorem qw_1140 : Cond.code yX10_asking cX10_asking 3 (some .int) ∈ qm_tb := qm_tbl (i := 1140) (by decide +kernel) rfl
theorem qw_1141 : Cond.methodLink R_law 60 yX10_rounds ∈ qm_tb := qm_tbl (i := 1141) (by decide +kernel) rfl
theorem qw_1142 : Cond.instanceMethod yX10_rounds ∈ qm_tb := qm_tbl (i := 1142) (by decide +kernel) rfl
theorem qw_1143 : Cond.selects RX10 yX10_rounds yX10_rounds ∈ qm_tb := qm_tbl (i := 1143) (by decide +kernel) rfl
theorem qw_1144 : Cond.code yX10_rounds cX10_rounds 2 (some .int) ∈ qm_tb := qm_tbl (i := 1144) (by decide +kernel) rfl
theorem qw_1145 : Cond.methodLink R_law 64 yX10_pair ∈ qm_tb := qm_tbl (i := 1145) (by decide +kernel) rfl
theorem qw_1146 : Cond.instanceMethod yX10_pair ∈ qm_tb := qm_tbl (i := 1146) (by decide +kernel) rfl
theorem qw_1147 : Cond.selects RX10 yX10_pair yX10_pair ∈ qm_tb := qm_tbl (i := 1147) (by decide +kernel) rfl
theorem qw_1148 : Cond.code yX10_pair cX10_pair 3 (some .int) ∈ qm_tb := qm_tbl (i := 1148) (by decide +kernel) rfl
theorem qw_1149 : Cond.methodLink R_law 68 yX10_ahead ∈ qm_tb := qm_tbl (i := 1149) (by decide +kernel) rfl
theorem qw_1150 : Cond.instanceMethod yX10_ahead ∈ qm_tb := qm_tbl (i := 1150) (by decide +kernel) rfl
theorem qw_1151 : Cond.selects RX10 yX10_ahead yX10_ahead ∈ qm_tb := qm_tbl (i := 1151) (by decide +kernel) rfl
theorem qw_1152 : Cond.code yX10_ahead cX10_ahead 2 (some .int) ∈ qm_tb := qm_tbl (i := 1152) (by decide +kernel) rfl
theorem qw_1153 : Cond.methodLink R_law 72 yX10_of ∈ qm_tb := qm_tbl (i := 1153) (by decide +kernel) rfl
theorem qw_1154 : Cond.instanceMethod yX10_of ∈ qm_tb := qm_tbl (i := 1154) (by decide +kernel) rfl
theorem qw_1155 : Cond.selects RX10 yX10_of yX10_of ∈ qm_tb := qm_tbl (i := 1155) (by decide +kernel) rfl
theorem qw_1156 : Cond.code yX10_of cX10_of 3 (some .int) ∈ qm_tb := qm_tbl (i := 1156) (by decide +kernel) rfl
theorem qw_1157 : Cond.methodLink RX10 222 yX10_gain ∈ qm_tb := qm_tbl (i := 1157) (by decide +kernel) rfl
theorem qw_1159 : Cond.instanceMethod yX10_gain ∈ qm_tb := qm_tbl (i := 1159) (by decide +kernel) rfl
theorem qw_1160 : Cond.code yX10_gain cX10_gain 7 (some .int) ∈ qm_tb := qm_tbl (i := 1160) (by decide +kernel) rfl
theorem qw_1161 : Cond.methodLink R_law 76 yX10_exposed ∈ qm_tb := qm_tbl (i := 1161) (by decide +kernel) rfl
theorem qw_1162 : Cond.instanceMethod yX10_exposed ∈ qm_tb := qm_tbl (i := 1162) (by decide +kernel) rfl
theorem qw_1163 : Cond.selects RX10 yX10_exposed yX10_exposed ∈ qm_tb := qm_tbl (i := 1163) (by decide +kernel) rfl
theorem qw_1164 : Cond.code yX10_exposed cX10_exposed 4 (some .int) ∈ qm_tb := qm_tbl (i := 1164) (by decide +kernel) rfl
theorem qw_1165 : Cond.methodLink RX10 232 yX10_isMatch ∈ qm_tb := qm_tbl (i := 1165) (by decide +kernel) rfl
theorem qw_1167 : Cond.instanceMethod yX10_isMatch ∈ qm_tb := qm_tbl (i := 1167) (by decide +kernel) rfl
theorem qw_1168 : Cond.code yX10_isMatch cX10_isMatch 2 (some .boolean) ∈ qm_tb := qm_tbl (i := 1168) (by decide +kernel) rfl
theorem qw_1169 : Cond.methodLink RX10 225 yX10_makes ∈ qm_tb := qm_tbl (i := 1169) (by decide +kernel) rfl
theorem qw_1171 : Cond.instanceMethod yX10_makes ∈ qm_tb := qm_tbl (i := 1171) (by decide +kernel) rfl
theorem qw_1172 : Cond.code yX10_makes cX10_makes 4 none ∈ qm_tb := qm_tbl (i := 1172) (by decide +kernel) rfl
theorem qw_1173 : Cond.methodLink R_law 80 yX10_match ∈ qm_tb := qm_tbl (i := 1173) (by decide +kernel) rfl
theorem qw_1174 : Cond.instanceMethod yX10_match ∈ qm_tb := qm_tbl (i := 1174) (by decide +kernel) rfl
theorem qw_1175 : Cond.selects RX10 yX10_match yX10_match ∈ qm_tb := qm_tbl (i := 1175) (by decide +kernel) rfl
theorem qw_1176 : Cond.code yX10_match cX10_match 2 (some .int) ∈ qm_tb := qm_tbl (i := 1176) (by decide +kernel) rfl
theorem qw_1177 : Cond.methodLink R_law 84 yX10_has_ ∈ qm_tb := qm_tbl (i := 1177) (by decide +kernel) rfl
theorem qw_1178 : Cond.instanceMethod yX10_has_ ∈ qm_tb := qm_tbl (i := 1178) (by decide +kernel) rfl
theorem qw_1179 : Cond.selects RX10 yX10_has_ yX10_has_ ∈ qm_tb := qm_tbl (i := 1179) (by decide +kernel) rfl
theorem qw_1180 : Cond.code yX10_has_ cX10_has_ 4 (some .int) ∈ qm_tb := qm_tbl (i := 1180) (by decide +kernel) rfl
theorem qw_1181 : Cond.methodLink R_law 88 yX10_cost ∈ qm_tb := qm_tbl (i := 1181) (by decide +kernel) rfl
theorem qw_1182 : Cond.instanceMethod yX10_cost ∈ qm_tb := qm_tbl (i := 1182) (by decide +kernel) rfl
theorem qw_1183 : Cond.selects RX10 yX10_cost yX10_cost ∈ qm_tb := qm_tbl (i := 1183) (by decide +kernel) rfl
theorem qw_1184 : Cond.code yX10_cost cX10_cost 3 (some .int) ∈ qm_tb := qm_tbl (i := 1184) (by decide +kernel) rfl
theorem qw_1185 : Cond.methodLink RX10 238 yX10_costOf ∈ qm_tb := qm_tbl (i := 1185) (by decide +kernel) rfl
theorem qw_1187 : Cond.instanceMethod yX10_costOf ∈ qm_tb := qm_tbl (i := 1187) (by decide +kernel) rfl
theorem qw_1188 : Cond.code yX10_costOf cX10_costOf 9 (some .int) ∈ qm_tb := qm_tbl (i := 1188) (by decide +kernel) rfl
theorem qw_1189 : Cond.methodLink RX10 235 Lib.Math.abs.name ∈ qm_tb := qm_tbl (i := 1189) (by decide +kernel) rfl
theorem qw_1190 : Cond.methodLink R_law 92 yX10_pick ∈ qm_tb := qm_tbl (i := 1190) (by decide +kernel) rfl
theorem qw_1191 : Cond.instanceMethod yX10_pick ∈ qm_tb := qm_tbl (i := 1191) (by decide +kernel) rfl
theorem qw_1192 : Cond.selects RX10 yX10_pick yX10_pick ∈ qm_tb := qm_tbl (i := 1192) (by decide +kernel) rfl
theorem qw_1193 : Cond.code yX10_pick cX10_pick 4 (some .int) ∈ qm_tb := qm_tbl (i := 1193) (by decide +kernel) rfl
theorem qw_1194 : Cond.methodLink R_law 96 yX10_most ∈ qm_tb := qm_tbl (i := 1194) (by decide +kernel) rfl
theorem qw_1195 : Cond.instanceMethod yX10_most ∈ qm_tb := qm_tbl (i := 1195) (by decide +kernel) rfl
theorem qw_1196 : Cond.selects RX10 yX10_most yX10_most ∈ qm_tb := qm_tbl (i := 1196) (by decide +kernel) rfl
theorem qw_1197 : Cond.code yX10_most cX10_most 5 (some .int) ∈ qm_tb := qm_tbl (i := 1197) (by decide +kernel) rfl
theorem qw_1198 : Cond.methodLink R_law 100 yX10_either ∈ qm_tb := qm_tbl (i := 1198) (by decide +kernel) rfl
theorem qw_1199 : Cond.instanceMethod yX10_either ∈ qm_tb := qm_tbl (i := 1199) (by decide +kernel) rfl
theorem qw_1200 : Cond.selects RX10 yX10_either yX10_either ∈ qm_tb := qm_tbl (i := 1200) (by decide +kernel) rfl
theorem qw_1201 : Cond.code yX10_either cX10_either 6 (some .int) ∈ qm_tb := qm_tbl (i := 1201) (by decide +kernel) rfl
theorem qw_1202 : Cond.methodLink RX10 241 yX10_numberOf_ ∈ qm_tb := qm_tbl (i := 1202) (by decide +kernel) rfl
theorem qw_1204 : Cond.instanceMethod yX10_numberOf_ ∈ qm_tb := qm_tbl (i := 1204) (by decide +kernel) rfl
theorem qw_1205 : Cond.code yX10_numberOf_ cX10_numberOf_ 3 (some .int) ∈ qm_tb := qm_tbl (i := 1205) (by decide +kernel) rfl
theorem qw_1206 : Cond.methodLink RX10 228 yX10_isLike ∈ qm_tb := qm_tbl (i := 1206) (by decide +kernel) rfl
theorem qw_1208 : Cond.instanceMethod yX10_isLike ∈ qm_tb := qm_tbl (i := 1208) (by decide +kernel) rfl
theorem qw_1209 : Cond.code yX10_isLike cX10_isLike 5 (some .boolean) ∈ qm_tb := qm_tbl (i := 1209) (by decide +kernel) rfl
theorem qw_1210 : Cond.methodLink R_law 104 yX10_middle ∈ qm_tb := qm_tbl (i := 1210) (by decide +kernel) rfl
theorem qw_1211 : Cond.instanceMethod yX10_middle ∈ qm_tb := qm_tbl (i := 1211) (by decide +kernel) rfl
theorem qw_1212 : Cond.selects RX10 yX10_middle yX10_middle ∈ qm_tb := qm_tbl (i := 1212) (by decide +kernel) rfl
theorem qw_1213 : Cond.code yX10_middle cX10_middle 8 (some .int) ∈ qm_tb := qm_tbl (i := 1213) (by decide +kernel) rfl
theorem qw_1214 : Cond.methodLink RX10 244 Lib.Math.min.name ∈ qm_tb := qm_tbl (i := 1214) (by decide +kernel) rfl
theorem qw_1215 : Cond.static Lib.Math.min.name ∈ qm_tb := qm_tbl (i := 1215) (by decide +kernel) rfl
theorem qw_1216 : Cond.code Lib.Math.min.name Lib.Math.min.code 2 (some .int) ∈ qm_tb := qm_tbl (i := 1216) (by decide +kernel) rfl
theorem qw_1217 : Cond.methodLink R_law 108 yX10_may ∈ qm_tb := qm_tbl (i := 1217) (by decide +kernel) rfl
theorem qw_1218 : Cond.instanceMethod yX10_may ∈ qm_tb := qm_tbl (i := 1218) (by decide +kernel) rfl
theorem qw_1219 : Cond.selects RX10 yX10_may yX10_may ∈ qm_tb := qm_tbl (i := 1219) (by decide +kernel) rfl
theorem qw_1220 : Cond.code yX10_may cX10_may 5 (some .int) ∈ qm_tb := qm_tbl (i := 1220) (by decide +kernel) rfl
theorem qw_1221 : Cond.methodLink R_law 112 yX10_fixed ∈ qm_tb := qm_tbl (i := 1221) (by decide +kernel) rfl
theorem qw_1222 : Cond.instanceMethod yX10_fixed ∈ qm_tb := qm_tbl (i := 1222) (by decide +kernel) rfl
theorem qw_1223 : Cond.selects RX10 yX10_fixed yX10_fixed ∈ qm_tb := qm_tbl (i := 1223) (by decide +kernel) rfl
theorem qw_1224 : Cond.code yX10_fixed cX10_fixed 4 (some .int) ∈ qm_tb := qm_tbl (i := 1224) (by decide +kernel) rfl
theorem qw_1225 : Cond.methodLink RX10 247 yX10_may ∈ qm_tb := qm_tbl (i := 1225) (by decide +kernel) rfl
theorem qw_1226 : Cond.methodLink R_law 116 yX10_lie ∈ qm_tb := qm_tbl (i := 1226) (by decide +kernel) rfl
theorem qw_1227 : Cond.instanceMethod yX10_lie ∈ qm_tb := qm_tbl (i := 1227) (by decide +kernel) rfl
theorem qw_1228 : Cond.selects RX10 yX10_lie yX10_lie ∈ qm_tb := qm_tbl (i := 1228) (by decide +kernel) rfl
theorem qw_1229 : Cond.code yX10_lie cX10_lie 3 (some .int) ∈ qm_tb := qm_tbl (i := 1229) (by decide +kernel) rfl
theorem qw_1230 : Cond.methodLink RX10 260 yX10_lies ∈ qm_tb := qm_tbl (i := 1230) (by decide +kernel) rfl
theorem qw_1232 : Cond.instanceMethod yX10_lies ∈ qm_tb := qm_tbl (i := 1232) (by decide +kernel) rfl
theorem qw_1233 : Cond.code yX10_lies cX10_lies 5 none ∈ qm_tb := qm_tbl (i := 1233) (by decide +kernel) rfl
theorem qw_1234 : Cond.methodLink RX10 256 yX10_swaps ∈ qm_tb := qm_tbl (i := 1234) (by decide +kernel) rfl
theorem qw_1236 : Cond.instanceMethod yX10_swaps ∈ qm_tb := qm_tbl (i := 1236) (by decide +kernel) rfl
theorem qw_1237 : Cond.code yX10_swaps cX10_swaps 4 none ∈ qm_tb := qm_tbl (i := 1237) (by decide +kernel) rfl
theorem qw_1238 : Cond.methodLink R_law 120 yX10_text ∈ qm_tb := qm_tbl (i := 1238) (by decide +kernel) rfl
theorem qw_1239 : Cond.instanceMethod yX10_text ∈ qm_tb := qm_tbl (i := 1239) (by decide +kernel) rfl
theorem qw_1240 : Cond.selects RX10 yX10_text yX10_text ∈ qm_tb := qm_tbl (i := 1240) (by decide +kernel) rfl
theorem qw_1241 : Cond.code yX10_text cX10_text 3 (some .int) ∈ qm_tb := qm_tbl (i := 1241) (by decide +kernel) rfl
theorem qw_1242 : Cond.methodLink R_law 124 yX10_hand ∈ qm_tb := qm_tbl (i := 1242) (by decide +kernel) rfl
theorem qw_1243 : Cond.instanceMethod yX10_hand ∈ qm_tb := qm_tbl (i := 1243) (by decide +kernel) rfl
theorem qw_1244 : Cond.selects RX10 yX10_hand yX10_hand ∈ qm_tb := qm_tbl (i := 1244) (by decide +kernel) rfl
theorem qw_1245 : Cond.code yX10_hand cX10_hand 4 (some .int) ∈ qm_tb := qm_tbl (i := 1245) (by decide +kernel) rfl
theorem qw_1246 : Cond.methodLink RX10 266 yX10_gives ∈ qm_tb := qm_tbl (i := 1246) (by decide +kernel) rfl
theorem qw_1248 : Cond.instanceMethod yX10_gives ∈ qm_tb := qm_tbl (i := 1248) (by decide +kernel) rfl
theorem qw_1249 : Cond.code yX10_gives cX10_gives 5 none ∈ qm_tb := qm_tbl (i := 1249) (by decide +kernel) rfl
theorem qw_1250 : Cond.methodLink RX10 263 yX10_handLeft ∈ qm_tb := qm_tbl (i := 1250) (by decide +kernel) rfl
theorem qw_1252 : Cond.instanceMethod yX10_handLeft ∈ qm_tb := qm_tbl (i := 1252) (by decide +kernel) rfl
theorem qw_1253 : Cond.code yX10_handLeft cX10_handLeft 4 (some .int) ∈ qm_tb := qm_tbl (i := 1253) (by decide +kernel) rfl
theorem qw_1254 : Cond.methodLink R_law 128 yX10_handed ∈ qm_tb := qm_tbl (i := 1254) (by decide +kernel) rfl
theorem qw_1255 : Cond.instanceMethod yX10_handed ∈ qm_tb := qm_tbl (i := 1255) (by decide +kernel) rfl
theorem qw_1256 : Cond.selects RX10 yX10_handed yX10_handed ∈ qm_tb := qm_tbl (i := 1256) (by decide +kernel) rfl
theorem qw_1257 : Cond.code yX10_handed cX10_handed 2 (some .int) ∈ qm_tb := qm_tbl (i := 1257) (by decide +kernel) rfl
theorem qw_1258 : Cond.methodLink R_law 132 yX10_blocks_ ∈ qm_tb := qm_tbl (i := 1258) (by decide +kernel) rfl
theorem qw_1259 : Cond.instanceMethod yX10_blocks_ ∈ qm_tb := qm_tbl (i := 1259) (by decide +kernel) rfl
theorem qw_1260 : Cond.selects RX10 yX10_blocks_ yX10_blocks_ ∈ qm_tb := qm_tbl (i := 1260) (by decide +kernel) rfl
theorem qw_1261 : Cond.code yX10_blocks_ cX10_blocks_ 1 (some .int) ∈ qm_tb := qm_tbl (i := 1261) (by decide +kernel) rfl
theorem qw_1262 : Cond.methodLink RX10 274 yX10_firstBlocking ∈ qm_tb := qm_tbl (i := 1262) (by decide +kernel) rfl
theorem qw_1264 : Cond.instanceMethod yX10_firstBlocking ∈ qm_tb := qm_tbl (i := 1264) (by decide +kernel) rfl
theorem qw_1265 : Cond.code yX10_firstBlocking cX10_firstBlocking 4 (some .int) ∈ qm_tb := qm_tbl (i := 1265) (by decide +kernel) rfl
theorem qw_1266 : Cond.methodLink RX10 270 yX10_blocks ∈ qm_tb := qm_tbl (i := 1266) (by decide +kernel) rfl
theorem qw_1268 : Cond.instanceMethod yX10_blocks ∈ qm_tb := qm_tbl (i := 1268) (by decide +kernel) rfl
theorem qw_1269 : Cond.code yX10_blocks cX10_blocks 4 (some .boolean) ∈ qm_tb := qm_tbl (i := 1269) (by decide +kernel) rfl
theorem qw_1270 : Cond.methodLink R_law 136 yX10_blocking ∈ qm_tb := qm_tbl (i := 1270) (by decide +kernel) rfl
theorem qw_1271 : Cond.instanceMethod yX10_blocking ∈ qm_tb := qm_tbl (i := 1271) (by decide +kernel) rfl
theorem qw_1272 : Cond.selects RX10 yX10_blocking yX10_blocking ∈ qm_tb := qm_tbl (i := 1272) (by decide +kernel) rfl
theorem qw_1273 : Cond.code yX10_blocking cX10_blocking 4 (some .int) ∈ qm_tb := qm_tbl (i := 1273) (by decide +kernel) rfl
theorem qw_1274 : Cond.methodLink R_law 140 yX10_mended ∈ qm_tb := qm_tbl (i := 1274) (by decide +kernel) rfl
theorem qw_1275 : Cond.instanceMethod yX10_mended ∈ qm_tb := qm_tbl (i := 1275) (by decide +kernel) rfl
theorem qw_1276 : Cond.selects RX10 yX10_mended yX10_mended ∈ qm_tb := qm_tbl (i := 1276) (by decide +kernel) rfl
theorem qw_1277 : Cond.code yX10_mended cX10_mended 4 (some .int) ∈ qm_tb := qm_tbl (i := 1277) (by decide +kernel) rfl
theorem qw_1278 : Cond.methodLink R_law 144 yX10_known ∈ qm_tb := qm_tbl (i := 1278) (by decide +kernel) rfl
theorem qw_1279 : Cond.instanceMethod yX10_known ∈ qm_tb := qm_tbl (i := 1279) (by decide +kernel) rfl
theorem qw_1280 : Cond.selects RX10 yX10_known yX10_known ∈ qm_tb := qm_tbl (i := 1280) (by decide +kernel) rfl
theorem qw_1281 : Cond.code yX10_known cX10_known 1 (some .int) ∈ qm_tb := qm_tbl (i := 1281) (by decide +kernel) rfl
theorem qw_1282 : Cond.methodLink R_law 148 yX10_image ∈ qm_tb := qm_tbl (i := 1282) (by decide +kernel) rfl
theorem qw_1283 : Cond.instanceMethod yX10_image ∈ qm_tb := qm_tbl (i := 1283) (by decide +kernel) rfl
theorem qw_1284 : Cond.selects RX10 yX10_image yX10_image ∈ qm_tb := qm_tbl (i := 1284) (by decide +kernel) rfl
theorem qw_1285 : Cond.code yX10_image cX10_image 1 (some .int) ∈ qm_tb := qm_tbl (i := 1285) (by decide +kernel) rfl
theorem qw_1286 : Cond.methodLink R_law 152 yX10_back ∈ qm_tb := qm_tbl (i := 1286) (by decide +kernel) rfl
theorem qw_1287 : Cond.instanceMethod yX10_back ∈ qm_tb := qm_tbl (i := 1287) (by decide +kernel) rfl
theorem qw_1288 : Cond.selects RX10 yX10_back yX10_back ∈ qm_tb := qm_tbl (i := 1288) (by decide +kernel) rfl
theorem qw_1289 : Cond.code yX10_back cX10_back 1 (some .int) ∈ qm_tb := qm_tbl (i := 1289) (by decide +kernel) rfl
theorem qw_1290 : Cond.methodLink R_law 156 yX10_count ∈ qm_tb := qm_tbl (i := 1290) (by decide +kernel) rfl
theorem qw_1291 : Cond.instanceMethod yX10_count ∈ qm_tb := qm_tbl (i := 1291) (by decide +kernel) rfl
theorem qw_1292 : Cond.selects RX10 yX10_count yX10_count ∈ qm_tb := qm_tbl (i := 1292) (by decide +kernel) rfl
theorem qw_1293 : Cond.code yX10_count cX10_count 4 (some .int) ∈ qm_tb := qm_tbl (i := 1293) (by decide +kernel) rfl
