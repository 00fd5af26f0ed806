theorem tw_89 : Cond.selects (yX12_isThing).cls yX12_isThing yX12_isThing ∈ wT := List.mem_filter.mpr ⟨List.mem_of_getElem? (i := 89) (by decide +kernel), by decide +kernel⟩
theorem tw_90 : Cond.selects (yX12_placeOf).cls yX12_placeOf yX12_placeOf ∈ wT := List.mem_filter.mpr ⟨List.mem_of_getElem? (i := 90) (by decide +kernel), by decide +kernel⟩
theorem tw_91 : Cond.selects (yX12_isCounting).cls yX12_isCounting yX12_isCounting ∈ wT := List.mem_filter.mpr ⟨List.mem_of_getElem? (i := 91) (by decide +kernel), by decide +kernel⟩
theorem tw_92 : Cond.selects (yX12_isTold).cls yX12_isTold yX12_isTold ∈ wT := List.mem_filter.mpr ⟨List.mem_of_getElem? (i := 92) (by decide +kernel), by decide +kernel⟩
theorem tw_93 : Cond.selects (yX12_lays).cls yX12_lays yX12_lays ∈ wT := List.mem_filter.mpr ⟨List.mem_of_getElem? (i := 93) (by decide +kernel), by decide +kernel⟩
theorem tw_94 : Cond.selects (yX12_reckons).cls yX12_reckons yX12_reckons ∈ wT := List.mem_filter.mpr ⟨List.mem_of_getElem? (i := 94) (by decide +kernel), by decide +kernel⟩
theorem tw_95 : Cond.selects (yX12_scoreOf).cls yX12_scoreOf yX12_scoreOf ∈ wT := List.mem_filter.mpr ⟨List.mem_of_getElem? (i := 95) (by decide +kernel), by decide +kernel⟩
theorem tw_96 : Cond.selects (yX12_matchOf).cls yX12_matchOf yX12_matchOf ∈ wT := List.mem_filter.mpr ⟨List.mem_of_getElem? (i := 96) (by decide +kernel), by decide +kernel⟩
theorem tw_97 : Cond.selects (yX12_hushes).cls yX12_hushes yX12_hushes ∈ wT := List.mem_filter.mpr ⟨List.mem_of_getElem? (i := 97) (by decide +kernel), by decide +kernel⟩
theorem tw_98 : Cond.selects (yX12_wordBy).cls yX12_wordBy yX12_wordBy ∈ wT := List.mem_filter.mpr ⟨List.mem_of_getElem? (i := 98) (by decide +kernel), by decide +kernel⟩
theorem tw_99 : Cond.selects (yX12_everybody).cls yX12_everybody yX12_everybody ∈ wT := List.mem_filter.mpr ⟨List.mem_of_getElem? (i := 99) (by decide +kernel), by decide +kernel⟩
theorem tw_100 : Cond.selects (yX12_choiceOf).cls yX12_choiceOf yX12_choiceOf ∈ wT := List.mem_filter.mpr ⟨List.mem_of_getElem? (i := 100) (by decide +kernel), by decide +kernel⟩
theorem tw_101 : Cond.selects (yX12_laysNow).cls yX12_laysNow yX12_laysNow ∈ wT := List.mem_filter.mpr ⟨List.mem_of_getElem? (i := 101) (by decide +kernel), by decide +kernel⟩
theorem tw_102 : Cond.selects (yX12_chosen).cls yX12_chosen yX12_chosen ∈ wT := List.mem_filter.mpr ⟨List.mem_of_getElem? (i := 102) (by decide +kernel), by decide +kernel⟩
theorem tw_103 : Cond.selects (yX12_isAhead).cls yX12_isAhead yX12_isAhead ∈ wT := List.mem_filter.mpr ⟨List.mem_of_getElem? (i := 103) (by decide +kernel), by decide +kernel⟩
theorem tw_104 : Cond.selects (yX12_runsOn).cls yX12_runsOn yX12_runsOn ∈ wT := List.mem_filter.mpr ⟨List.mem_of_getElem? (i := 104) (by decide +kernel), by decide +kernel⟩
theorem tw_105 : Cond.selects (yX12_ticks).cls yX12_ticks yX12_ticks ∈ wT := List.mem_filter.mpr ⟨List.mem_of_getElem? (i := 105) (by decide +kernel), by decide +kernel⟩
theorem tw_106 : Cond.selects (yX12_gift).cls yX12_gift yX12_gift ∈ wT := List.mem_filter.mpr ⟨List.mem_of_getElem? (i := 106) (by decide +kernel), by decide +kernel⟩
theorem tw_107 : Cond.selects (yX12_moods).cls yX12_moods yX12_moods ∈ wT := List.mem_filter.mpr ⟨List.mem_of_getElem? (i := 107) (by decide +kernel), by decide +kernel⟩
theorem tw_108 : Cond.selects (yX12_writesDown).cls yX12_writesDown yX12_writesDown ∈ wT := List.mem_filter.mpr ⟨List.mem_of_getElem? (i := 108) (by decide +kernel), by decide +kernel⟩
theorem tw_109 : Cond.selects (yX12_rowsOf).cls yX12_rowsOf yX12_rowsOf ∈ wT := List.mem_filter.mpr ⟨List.mem_of_getElem? (i := 109) (by decide +kernel), by decide +kernel⟩
theorem tw_110 : Cond.selects (yX12_laysOrder).cls yX12_laysOrder yX12_laysOrder ∈ wT := List.mem_filter.mpr ⟨List.mem_of_getElem? (i := 110) (by decide +kernel), by decide +kernel⟩
theorem tw_111 : Cond.selects (yX12_isCleared).cls yX12_isCleared yX12_isCleared ∈ wT := List.mem_filter.mpr ⟨List.mem_of_getElem? (i := 111) (by decide +kernel), by decide +kernel⟩
theorem tw_112 : Cond.selects (yX12_isClear).cls yX12_isClear yX12_isClear ∈ wT := List.mem_filter.mpr ⟨List.mem_of_getElem? (i := 112) (by decide +kernel), by decide +kernel⟩
theorem tw_113 : Cond.selects (yX12_tasteBits).cls yX12_tasteBits yX12_tasteBits ∈ wT := List.mem_filter.mpr ⟨List.mem_of_getElem? (i := 113) (by decide +kernel), by decide +kernel⟩
theorem tw_114 : Cond.selects (yX12_mostBy).cls yX12_mostBy yX12_mostBy ∈ wT := List.mem_filter.mpr ⟨List.mem_of_getElem? (i := 114) (by decide +kernel), by decide +kernel⟩
theorem tw_115 : Cond.selects (yX12_keeps).cls yX12_keeps yX12_keeps ∈ wT := List.mem_filter.mpr ⟨List.mem_of_getElem? (i := 115) (by decide +kernel), by decide +kernel⟩
theorem tw_116 : Cond.selects (yX12_draw).cls yX12_draw yX12_draw ∈ wT := List.mem_filter.mpr ⟨List.mem_of_getElem? (i := 116) (by decide +kernel), by decide +kernel⟩
theorem tw_117 : Cond.selects (yX12_writes).cls yX12_writes yX12_writes ∈ wT := List.mem_filter.mpr ⟨List.mem_of_getElem? (i := 117) (by decide +kernel), by decide +kernel⟩
theorem tw_118 : Cond.selects (yX12_comesOn).cls yX12_comesOn yX12_comesOn ∈ wT := List.mem_filter.mpr ⟨List.mem_of_getElem? (i := 118) (by decide +kernel), by decide +kernel⟩
theorem tw_120 : Cond.initialized RX11 ∈ wT := List.mem_filter.mpr ⟨List.mem_of_getElem? (i := 120) (by decide +kernel), by decide +kernel⟩
theorem tw_121 : Cond.initialized RX9 ∈ wT := List.mem_filter.mpr ⟨List.mem_of_getElem? (i := 121) (by decide +kernel), by decide +kernel⟩
theorem tw_122 : Cond.initialized RX8 ∈ wT := List.mem_filter.mpr ⟨List.mem_of_getElem? (i := 122) (by decide +kernel), by decide +kernel⟩
theorem tw_123 : Cond.initialized RX7 ∈ wT := List.mem_filter.mpr ⟨List.mem_of_getElem? (i := 123) (by decide +kernel), by decide +kernel⟩
theorem tw_124 : Cond.initialized RX4 ∈ wT := List.mem_filter.mpr ⟨List.mem_of_getElem? (i := 124) (by decide +kernel), by decide +kernel⟩
theorem tw_125 : Cond.initialized RX5 ∈ wT := List.mem_filter.mpr ⟨List.mem_of_getElem? (i := 125) (by decide +kernel), by decide +kernel⟩
theorem tw_126 : Cond.initialized RX3 ∈ wT := List.mem_filter.mpr ⟨List.mem_of_getElem? (i := 126) (by decide +kernel), by decide +kernel⟩
theorem tw_127 : Cond.initialized RJ7 ∈ wT := List.mem_filter.mpr ⟨List.mem_of_getElem? (i := 127) (by decide +kernel), by decide +kernel⟩
theorem tw_128 : Cond.initialized RX6 ∈ wT := List.mem_filter.mpr ⟨List.mem_of_getElem? (i := 128) (by decide +kernel), by decide +kernel⟩
theorem tw_129 : Cond.initialized RX10 ∈ wT := List.mem_filter.mpr ⟨List.mem_of_getElem? (i := 129) (by decide +kernel), by decide +kernel⟩
theorem tw_130 : Cond.initialized RX1 ∈ wT := List.mem_filter.mpr ⟨List.mem_of_getElem? (i := 130) (by decide +kernel), by decide +kernel⟩
theorem tw_131 : Cond.initialized RX0 ∈ wT := List.mem_filter.mpr ⟨List.mem_of_getElem? (i := 131) (by decide +kernel), by decide +kernel⟩
theorem tw_132 : Cond.initialized RX2 ∈ wT := List.mem_filter.mpr ⟨List.mem_of_getElem? (i := 132) (by decide +kernel), by decide +kernel⟩
theorem tw_133 : Cond.initialized RX12 ∈ wT := List.mem_filter.mpr ⟨List.mem_of_getElem? (i := 133) (by decide +kernel), by decide +kernel⟩
theorem tw_134 : Cond.initialized RJ0 ∈ wT := List.mem_filter.mpr ⟨List.mem_of_getElem? (i := 134) (by decide +kernel), by decide +kernel⟩
theorem tw_135 : Cond.initialized RJ1 ∈ wT := List.mem_filter.mpr ⟨List.mem_of_getElem? (i := 135) (by decide +kernel), by decide +kernel⟩
theorem tw_136 : Cond.initialized RJ3 ∈ wT := List.mem_filter.mpr ⟨List.mem_of_getElem? (i := 136) (by decide +kernel), by decide +kernel⟩
theorem tw_138 : Cond.initialized RJ9 ∈ wT := List.mem_filter.mpr ⟨List.mem_of_getElem? (i := 138) (by decide +kernel), by decide +kernel⟩
theorem tw_140 : Cond.initialized RJ6 ∈ wT := List.mem_filter.mpr ⟨List.mem_of_getElem? (i := 140) (by decide +kernel), by decide +kernel⟩
theorem tw_141 : Cond.initialized "java/lang/System" ∈ wT := List.mem_filter.mpr ⟨List.mem_of_getElem? (i := 141) (by decide +kernel), by decide +kernel⟩
theorem tw_147 : Cond.methodLink RX11 1 objectInit ∈ wT := List.mem_filter.mpr ⟨List.mem_of_getElem? (i := 147) (by decide +kernel), by decide +kernel⟩
theorem tw_148 : Cond.instanceMethod objectInit ∈ wT := List.mem_filter.mpr ⟨List.mem_of_getElem? (i := 148) (by decide +kernel), by decide +kernel⟩
theorem tw_149 : Cond.code objectInit ⟨#[0xb1]⟩ 1 none ∈ wT := List.mem_filter.mpr ⟨List.mem_of_getElem? (i := 149) (by decide +kernel), by decide +kernel⟩
theorem tw_150 : Cond.classLink RX11 7 RX9 ∈ wT := List.mem_filter.mpr ⟨List.mem_of_getElem? (i := 150) (by decide +kernel), by decide +kernel⟩
theorem tw_151 : Cond.instantiable RX9 2 ∈ wT := List.mem_filter.mpr ⟨List.mem_of_getElem? (i := 151) (by decide +kernel), by decide +kernel⟩
theorem tw_152 : Cond.methodLinkNest RX11 9 yX9_init "BlindColours" ∈ wT := List.mem_filter.mpr ⟨List.mem_of_getElem? (i := 152) (by decide +kernel), by decide +kernel⟩
theorem tw_153 : Cond.instanceMethod yX9_init ∈ wT := List.mem_filter.mpr ⟨List.mem_of_getElem? (i := 153) (by decide +kernel), by decide +kernel⟩
theorem tw_154 : Cond.code yX9_init cX9_init 1 none ∈ wT := List.mem_filter.mpr ⟨List.mem_of_getElem? (i := 154) (by decide +kernel), by decide +kernel⟩
theorem tw_155 : Cond.methodLink RX9 3 objectInit ∈ wT := List.mem_filter.mpr ⟨List.mem_of_getElem? (i := 155) (by decide +kernel), by decide +kernel⟩
theorem tw_156 : Cond.fieldLink RX9 9 RX9 (TX9 0).2.1 (TX9 0).2.2.1 ∈ wT := List.mem_filter.mpr ⟨List.mem_of_getElem? (i := 156) (by decide +kernel), by decide +kernel⟩
theorem tw_157 : Cond.fieldLink RX9 15 RX9 (TX9 1).2.1 (TX9 1).2.2.1 ∈ wT := List.mem_filter.mpr ⟨List.mem_of_getElem? (i := 157) (by decide +kernel), by decide +kernel⟩
theorem tw_158 : Cond.fieldLink RX2 46 RX9 (TX9 1).2.1 (TX9 1).2.2.1 ∈ wT := List.mem_filter.mpr ⟨List.mem_of_getElem? (i := 158) (by decide +kernel), by decide +kernel⟩
theorem tw_159 : Cond.fieldLink RX11 114 RX9 (TX9 1).2.1 (TX9 1).2.2.1 ∈ wT := List.mem_filter.mpr ⟨List.mem_of_getElem? (i := 159) (by decide +kernel), by decide +kernel⟩
theorem tw_160 : Cond.fieldLink RX10 31 RX9 (TX9 1).2.1 (TX9 1).2.2.1 ∈ wT := List.mem_filter.mpr ⟨List.mem_of_getElem? (i := 160) (by decide +kernel), by decide +kernel⟩
theorem tw_161 : Cond.fieldLink RX5 45 RX9 (TX9 1).2.1 (TX9 1).2.2.1 ∈ wT := List.mem_filter.mpr ⟨List.mem_of_getElem? (i := 161) (by decide +kernel), by decide +kernel⟩
theorem tw_167 : Cond.arrayClass .byte ∈ wT := List.mem_filter.mpr ⟨List.mem_of_getElem? (i := 167) (by decide +kernel), by decide +kernel⟩
theorem tw_168 : Cond.classLink RX11 16 RX8 ∈ wT := List.mem_filter.mpr ⟨List.mem_of_getElem? (i := 168) (by decide +kernel), by decide +kernel⟩
theorem tw_169 : Cond.instantiable RX8 2 ∈ wT := List.mem_filter.mpr ⟨List.mem_of_getElem? (i := 169) (by decide +kernel), by decide +kernel⟩
theorem tw_170 : Cond.methodLinkNest RX11 18 yX8_init "BlindColours" ∈ wT := List.mem_filter.mpr ⟨List.mem_of_getElem? (i := 170) (by decide +kernel), by decide +kernel⟩
theorem tw_171 : Cond.instanceMethod yX8_init ∈ wT := List.mem_filter.mpr ⟨List.mem_of_getElem? (i := 171) (by decide +kernel), by decide +kernel⟩
theorem tw_172 : Cond.code yX8_init cX8_init 1 none ∈ wT := List.mem_filter.mpr ⟨List.mem_of_getElem? (i := 172) (by decide +kernel), by decide +kernel⟩
theorem tw_173 : Cond.methodLink RX8 1 objectInit ∈ wT := List.mem_filter.mpr ⟨List.mem_of_getElem? (i := 173) (by decide +kernel), by decide +kernel⟩
theorem tw_174 : Cond.fieldLink RX8 7 RX8 (TX8 0).2.1 (TX8 0).2.2.1 ∈ wT := List.mem_filter.mpr ⟨List.mem_of_getElem? (i := 174) (by decide +kernel), by decide +kernel⟩
theorem tw_175 : Cond.fieldLink RX8 13 RX8 (TX8 1).2.1 (TX8 1).2.2.1 ∈ wT := List.mem_filter.mpr ⟨List.mem_of_getElem? (i := 175) (by decide +kernel), by decide +kernel⟩
theorem tw_181 : Cond.arrayClass .int ∈ wT := List.mem_filter.mpr ⟨List.mem_of_getElem? (i := 181) (by decide +kernel), by decide +kernel⟩
theorem tw_182 : Cond.arrayClass .long ∈ wT := List.mem_filter.mpr ⟨List.mem_of_getElem? (i := 182) (by decide +kernel), by decide +kernel⟩
theorem tw_183 : Cond.classLink RX11 23 RX7 ∈ wT := List.mem_filter.mpr ⟨List.mem_of_getElem? (i := 183) (by decide +kernel), by decide +kernel⟩
theorem tw_184 : Cond.instantiable RX7 7 ∈ wT := List.mem_filter.mpr ⟨List.mem_of_getElem? (i := 184) (by decide +kernel), by decide +kernel⟩
theorem tw_185 : Cond.methodLinkNest RX11 25 yX7_init "BlindColours" ∈ wT := List.mem_filter.mpr ⟨List.mem_of_getElem? (i := 185) (by decide +kernel), by decide +kernel⟩
theorem tw_186 : Cond.instanceMethod yX7_init ∈ wT := List.mem_filter.mpr ⟨List.mem_of_getElem? (i := 186) (by decide +kernel), by decide +kernel⟩
theorem tw_187 : Cond.code yX7_init cX7_init 1 none ∈ wT := List.mem_filter.mpr ⟨List.mem_of_getElem? (i := 187) (by decide +kernel), by decide +kernel⟩
theorem tw_188 : Cond.methodLink RX7 3 objectInit ∈ wT := List.mem_filter.mpr ⟨List.mem_of_getElem? (i := 188) (by decide +kernel), by decide +kernel⟩
theorem tw_189 : Cond.fieldLink RX7 9 RX7 (TX7 0).2.1 (TX7 0).2.2.1 ∈ wT := List.mem_filter.mpr ⟨List.mem_of_getElem? (i := 189) (by decide +kernel), by decide +kernel⟩
theorem tw_190 : Cond.fieldLink RX5 19 RX7 (TX7 0).2.1 (TX7 0).2.2.1 ∈ wT := List.mem_filter.mpr ⟨List.mem_of_getElem? (i := 190) (by decide +kernel), by decide +kernel⟩
theorem tw_191 : Cond.fieldLink RX0 35 RX7 (TX7 0).2.1 (TX7 0).2.2.1 ∈ wT := List.mem_filter.mpr ⟨List.mem_of_getElem? (i := 191) (by decide +kernel), by decide +kernel⟩
theorem tw_192 : Cond.fieldLink RX2 61 RX7 (TX7 0).2.1 (TX7 0).2.2.1 ∈ wT := List.mem_filter.mpr ⟨List.mem_of_getElem? (i := 192) (by decide +kernel), by decide +kernel⟩
theorem tw_193 : Cond.fieldLink RX1 72 RX7 (TX7 0).2.1 (TX7 0).2.2.1 ∈ wT := List.mem_filter.mpr ⟨List.mem_of_getElem? (i := 193) (by decide +kernel), by decide +kernel⟩
theorem tw_194 : Cond.fieldLink RX11 147 RX7 (TX7 0).2.1 (TX7 0).2.2.1 ∈ wT := List.mem_filter.mpr ⟨List.mem_of_getElem? (i := 194) (by decide +kernel), by decide +kernel⟩
theorem tw_195 : Cond.fieldLink RX7 15 RX7 (TX7 1).2.1 (TX7 1).2.2.1 ∈ wT := List.mem_filter.mpr ⟨List.mem_of_getElem? (i := 195) (by decide +kernel), by decide +kernel⟩
theorem tw_196 : Cond.fieldLink RX0 23 RX7 (TX7 1).2.1 (TX7 1).2.2.1 ∈ wT := List.mem_filter.mpr ⟨List.mem_of_getElem? (i := 196) (by decide +kernel), by decide +kernel⟩
theorem tw_197 : Cond.fieldLink RX5 28 RX7 (TX7 1).2.1 (TX7 1).2.2.1 ∈ wT := List.mem_filter.mpr ⟨List.mem_of_getElem? (i := 197) (by decide +kernel), by decide +kernel⟩
theorem tw_198 : Cond.fieldLink RX11 150 RX7 (TX7 1).2.1 (TX7 1).2.2.1 ∈ wT := List.mem_filter.mpr ⟨List.mem_of_getElem? (i := 198) (by decide +kernel), by decide +kernel⟩
theorem tw_199 : Cond.fieldLink RX7 18 RX7 (TX7 2).2.1 (TX7 2).2.2.1 ∈ wT := List.mem_filter.mpr ⟨List.mem_of_getElem? (i := 199) (by decide +kernel), by decide +kernel⟩
theorem tw_200 : Cond.fieldLink RX11 164 RX7 (TX7 2).2.1 (TX7 2).2.2.1 ∈ wT := List.mem_filter.mpr ⟨List.mem_of_getElem? (i := 200) (by decide +kernel), by decide +kernel⟩
theorem tw_201 : Cond.fieldLink RX5 68 RX7 (TX7 2).2.1 (TX7 2).2.2.1 ∈ wT := List.mem_filter.mpr ⟨List.mem_of_getElem? (i := 201) (by decide +kernel), by decide +kernel⟩
theorem tw_202 : Cond.fieldLink RX7 21 RX7 (TX7 3).2.1 (TX7 3).2.2.1 ∈ wT := List.mem_filter.mpr ⟨List.mem_of_getElem? (i := 202) (by decide +kernel), by decide +kernel⟩
theorem tw_203 : Cond.fieldLink RX5 36 RX7 (TX7 3).2.1 (TX7 3).2.2.1 ∈ wT := List.mem_filter.mpr ⟨List.mem_of_getElem? (i := 203) (by decide +kernel), by decide +kernel⟩
theorem tw_204 : Cond.fieldLink RX0 48 RX7 (TX7 3).2.1 (TX7 3).2.2.1 ∈ wT := List.mem_filter.mpr ⟨List.mem_of_getElem? (i := 204) (by decide +kernel), by decide +kernel⟩
theorem tw_205 : Cond.fieldLink RX11 213 RX7 (TX7 3).2.1 (TX7 3).2.2.1 ∈ wT := List.mem_filter.mpr ⟨List.mem_of_getElem? (i := 205) (by decide +kernel), by decide +kernel⟩
theorem tw_206 : Cond.fieldLink RX1 129 RX7 (TX7 3).2.1 (TX7 3).2.2.1 ∈ wT := List.mem_filter.mpr ⟨List.mem_of_getElem? (i := 206) (by decide +kernel), by decide +kernel⟩
theorem tw_207 : Cond.fieldLink RX7 25 RX7 (TX7 4).2.1 (TX7 4).2.2.1 ∈ wT := List.mem_filter.mpr ⟨List.mem_of_getElem? (i := 207) (by decide +kernel), by decide +kernel⟩
theorem tw_208 : Cond.fieldLink RX5 39 RX7 (TX7 4).2.1 (TX7 4).2.2.1 ∈ wT := List.mem_filter.mpr ⟨List.mem_of_getElem? (i := 208) (by decide +kernel), by decide +kernel⟩
theorem tw_209 : Cond.fieldLink RX1 81 RX7 (TX7 4).2.1 (TX7 4).2.2.1 ∈ wT := List.mem_filter.mpr ⟨List.mem_of_getElem? (i := 209) (by decide +kernel), by decide +kernel⟩
theorem tw_210 : Cond.fieldLink RX0 90 RX7 (TX7 4).2.1 (TX7 4).2.2.1 ∈ wT := List.mem_filter.mpr ⟨List.mem_of_getElem? (i := 210) (by decide +kernel), by decide +kernel⟩
theorem tw_211 : Cond.fieldLink RX11 181 RX7 (TX7 4).2.1 (TX7 4).2.2.1 ∈ wT := List.mem_filter.mpr ⟨List.mem_of_getElem? (i := 211) (by decide +kernel), by decide +kernel⟩
theorem tw_212 : Cond.fieldLink RX7 28 RX7 (TX7 5).2.1 (TX7 5).2.2.1 ∈ wT := List.mem_filter.mpr ⟨List.mem_of_getElem? (i := 212) (by decide +kernel), by decide +kernel⟩
theorem tw_213 : Cond.fieldLink RX5 42 RX7 (TX7 5).2.1 (TX7 5).2.2.1 ∈ wT := List.mem_filter.mpr ⟨List.mem_of_getElem? (i := 213) (by decide +kernel), by decide +kernel⟩
theorem tw_214 : Cond.fieldLink RX0 84 RX7 (TX7 5).2.1 (TX7 5).2.2.1 ∈ wT := List.mem_filter.mpr ⟨List.mem_of_getElem? (i := 214) (by decide +kernel), by decide +kernel⟩
theorem tw_215 : Cond.fieldLink RX2 84 RX7 (TX7 5).2.1 (TX7 5).2.2.1 ∈ wT := List.mem_filter.mpr ⟨List.mem_of_getElem? (i := 215) (by decide +kernel), by decide +kernel⟩
theorem tw_216 : Cond.fieldLink RX11 157 RX7 (TX7 5).2.1 (TX7 5).2.2.1 ∈ wT := List.mem_filter.mpr ⟨List.mem_of_getElem? (i := 216) (by decide +kernel), by decide +kernel⟩
theorem tw_217 : Cond.fieldLink RX7 31 RX7 (TX7 6).2.1 (TX7 6).2.2.1 ∈ wT := List.mem_filter.mpr ⟨List.mem_of_getElem? (i := 217) (by decide +kernel), by decide +kernel⟩
theorem tw_233 : Cond.classLink RX11 33 RX4 ∈ wT := List.mem_filter.mpr ⟨List.mem_of_getElem? (i := 233) (by decide +kernel), by decide +kernel⟩
theorem tw_234 : Cond.instantiable RX4 3 ∈ wT := List.mem_filter.mpr ⟨List.mem_of_getElem? (i := 234) (by decide +kernel), by decide +kernel⟩
theorem tw_235 : Cond.methodLink RX11 35 yX4_init ∈ wT := List.mem_filter.mpr ⟨List.mem_of_getElem? (i := 235) (by decide +kernel), by decide +kernel⟩
theorem tw_236 : Cond.instanceMethod yX4_init ∈ wT := List.mem_filter.mpr ⟨List.mem_of_getElem? (i := 236) (by decide +kernel), by decide +kernel⟩
theorem tw_237 : Cond.code yX4_init cX4_init 2 none ∈ wT := List.mem_filter.mpr ⟨List.mem_of_getElem? (i := 237) (by decide +kernel), by decide +kernel⟩
theorem tw_238 : Cond.methodLink RX4 1 objectInit ∈ wT := List.mem_filter.mpr ⟨List.mem_of_getElem? (i := 238) (by decide +kernel), by decide +kernel⟩
theorem tw_239 : Cond.classLink RX4 9 "BlindColours$State" ∈ wT := List.mem_filter.mpr ⟨List.mem_of_getElem? (i := 239) (by decide +kernel), by decide +kernel⟩
theorem tw_240 : Cond.arrayOver (.object "BlindColours$State") ∈ wT := List.mem_filter.mpr ⟨List.mem_of_getElem? (i := 240) (by decide +kernel), by decide +kernel⟩
theorem tw_241 : Cond.methodLinkNest RX4 22 yX7_init "BlindColours" ∈ wT := List.mem_filter.mpr ⟨List.mem_of_getElem? (i := 241) (by decide +kernel), by decide +kernel⟩
theorem tw_242 : Cond.fieldLink RX4 11 RX4 (TX4 0).2.1 (TX4 0).2.2.1 ∈ wT := List.mem_filter.mpr ⟨List.mem_of_getElem? (i := 242) (by decide +kernel), by decide +kernel⟩
theorem tw_243 : Cond.fieldLink RX4 15 RX4 (TX4 1).2.1 (TX4 1).2.2.1 ∈ wT := List.mem_filter.mpr ⟨List.mem_of_getElem? (i := 243) (by decide +kernel), by decide +kernel⟩
theorem tw_244 : Cond.fieldLink RX4 19 RX4 (TX4 2).2.1 (TX4 2).2.2.1 ∈ wT := List.mem_filter.mpr ⟨List.mem_of_getElem? (i := 244) (by decide +kernel), by decide +kernel⟩
theorem tw_245 : Cond.fieldLink RX11 139 RX4 (TX4 2).2.1 (TX4 2).2.2.1 ∈ wT := List.mem_filter.mpr ⟨List.mem_of_getElem? (i := 245) (by decide +kernel), by decide +kernel⟩
theorem tw_253 : Cond.classLink RX11 40 RX5 ∈ wT := List.mem_filter.mpr ⟨List.mem_of_getElem? (i := 253) (by decide +kernel), by decide +kernel⟩
theorem tw_254 : Cond.instantiable RX5 2 ∈ wT := List.mem_filter.mpr ⟨List.mem_of_getElem? (i := 254) (by decide +kernel), by decide +kernel⟩
theorem tw_255 : Cond.methodLinkNest RX11 42 yX5_init "BlindColours" ∈ wT := List.mem_filter.mpr ⟨List.mem_of_getElem? (i := 255) (by decide +kernel), by decide +kernel⟩
theorem tw_256 : Cond.instanceMethod yX5_init ∈ wT := List.mem_filter.mpr ⟨List.mem_of_getElem? (i := 256) (by decide +kernel), by decide +kernel⟩
theorem tw_257 : Cond.code yX5_init cX5_init 1 none ∈ wT := List.mem_filter.mpr ⟨List.mem_of_getElem? (i := 257) (by decide +kernel), by decide +kernel⟩
theorem tw_258 : Cond.methodLink RX5 3 objectInit ∈ wT := List.mem_filter.mpr ⟨List.mem_of_getElem? (i := 258) (by decide +kernel), by decide +kernel⟩
theorem tw_259 : Cond.fieldLink RX5 9 RX5 (TX5 0).2.1 (TX5 0).2.2.1 ∈ wT := List.mem_filter.mpr ⟨List.mem_of_getElem? (i := 259) (by decide +kernel), by decide +kernel⟩
theorem tw_260 : Cond.fieldLink RX5 15 RX5 (TX5 1).2.1 (TX5 1).2.2.1 ∈ wT := List.mem_filter.mpr ⟨List.mem_of_getElem? (i := 260) (by decide +kernel), by decide +kernel⟩
theorem tw_261 : Cond.fieldLink RX11 297 RX5 (TX5 1).2.1 (TX5 1).2.2.1 ∈ wT := List.mem_filter.mpr ⟨List.mem_of_getElem? (i := 261) (by decide +kernel), by decide +kernel⟩
theorem tw_267 : Cond.classLink RX11 54 RX3 ∈ wT := List.mem_filter.mpr ⟨List.mem_of_getElem? (i := 267) (by decide +kernel), by decide +kernel⟩
theorem tw_268 : Cond.instantiable RX3 12 ∈ wT := List.mem_filter.mpr ⟨List.mem_of_getElem? (i := 268) (by decide +kernel), by decide +kernel⟩
theorem tw_269 : Cond.methodLink RX11 56 yX3_init ∈ wT := List.mem_filter.mpr ⟨List.mem_of_getElem? (i := 269) (by decide +kernel), by decide +kernel⟩
theorem tw_270 : Cond.instanceMethod yX3_init ∈ wT := List.mem_filter.mpr ⟨List.mem_of_getElem? (i := 270) (by decide +kernel), by decide +kernel⟩
theorem tw_271 : Cond.code yX3_init cX3_init 1 none ∈ wT := List.mem_filter.mpr ⟨List.mem_of_getElem? (i := 271) (by decide +kernel), by decide +kernel⟩
theorem tw_272 : Cond.methodLink RX3 3 objectInit ∈ wT := List.mem_filter.mpr ⟨List.mem_of_getElem? (i := 272) (by decide +kernel), by decide +kernel⟩
theorem tw_273 : Cond.methodLink RX3 49 yX3_empty ∈ wT := List.mem_filter.mpr ⟨List.mem_of_getElem? (i := 273) (by decide +kernel), by decide +kernel⟩
theorem tw_274 : Cond.instanceMethod yX3_empty ∈ wT := List.mem_filter.mpr ⟨List.mem_of_getElem? (i := 274) (by decide +kernel), by decide +kernel⟩
theorem tw_275 : Cond.selects (yX3_empty).cls yX3_empty yX3_empty ∈ wT := List.mem_filter.mpr ⟨List.mem_of_getElem? (i := 275) (by decide +kernel), by decide +kernel⟩
theorem tw_276 : Cond.code yX3_empty cX3_empty 1 none ∈ wT := List.mem_filter.mpr ⟨List.mem_of_getElem? (i := 276) (by decide +kernel), by decide +kernel⟩
theorem tw_277 : Cond.methodLink RX3 52 yJ7_fill_53178 ∈ wT := List.mem_filter.mpr ⟨List.mem_of_getElem? (i := 277) (by decide +kernel), by decide +kernel⟩
theorem tw_278 : Cond.static yJ7_fill_53178 ∈ wT := List.mem_filter.mpr ⟨List.mem_of_getElem? (i := 278) (by decide +kernel), by decide +kernel⟩
theorem tw_279 : Cond.code yJ7_fill_53178 cJ7_fill_53178 4 none ∈ wT := List.mem_filter.mpr ⟨List.mem_of_getElem? (i := 279) (by decide +kernel), by decide +kernel⟩
theorem tw_280 : Cond.fieldLink RX3 9 RX3 (TX3 0).2.1 (TX3 0).2.2.1 ∈ wT := List.mem_filter.mpr ⟨List.mem_of_getElem? (i := 280) (by decide +kernel), by decide +kernel⟩
theorem tw_281 : Cond.fieldLink RX0 29 RX3 (TX3 0).2.1 (TX3 0).2.2.1 ∈ wT := List.mem_filter.mpr ⟨List.mem_of_getElem? (i := 281) (by decide +kernel), by decide +kernel⟩
theorem tw_282 : Cond.fieldLink RX5 31 RX3 (TX3 0).2.1 (TX3 0).2.2.1 ∈ wT := List.mem_filter.mpr ⟨List.mem_of_getElem? (i := 282) (by decide +kernel), by decide +kernel⟩
theorem tw_283 : Cond.fieldLink RX1 53 RX3 (TX3 0).2.1 (TX3 0).2.2.1 ∈ wT := List.mem_filter.mpr ⟨List.mem_of_getElem? (i := 283) (by decide +kernel), by decide +kernel⟩
