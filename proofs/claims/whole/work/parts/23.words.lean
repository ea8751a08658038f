theorem ff15 : isT 15 := by unfold isT; omega
theorem ff18 : isT 18 := by unfold isT; omega
theorem ff21 : isT 21 := by unfold isT; omega
theorem ff40 : isH 40 := by unfold isH; omega
theorem hw0 : Cond.initialized RL ∈ sT := sT_of (List.mem_of_getElem? (i := 0) (by decide +kernel)) rfl
theorem hw1 : Cond.initialized RX4 ∈ sT := sT_of (List.mem_of_getElem? (i := 1) (by decide +kernel)) rfl
theorem hw2 : Cond.initialized RX0 ∈ sT := sT_of (List.mem_of_getElem? (i := 2) (by decide +kernel)) rfl
theorem hw3 : Cond.initialized RX2 ∈ sT := sT_of (List.mem_of_getElem? (i := 3) (by decide +kernel)) rfl
theorem hw4 : Cond.initialized RX1 ∈ sT := sT_of (List.mem_of_getElem? (i := 4) (by decide +kernel)) rfl
theorem hw5 : Cond.initialized RX3 ∈ sT := sT_of (List.mem_of_getElem? (i := 5) (by decide +kernel)) rfl
theorem hw6 : Cond.initialized RX5 ∈ sT := sT_of (List.mem_of_getElem? (i := 6) (by decide +kernel)) rfl
theorem hw10 : Cond.initialized "java/lang/IndexOutOfBoundsException" ∈ sT := sT_of (List.mem_of_getElem? (i := 10) (by decide +kernel)) rfl
theorem hw13 : Cond.initialized "java/lang/IllegalStateException" ∈ sT := sT_of (List.mem_of_getElem? (i := 13) (by decide +kernel)) rfl
theorem hw14 : Cond.initialized "java/lang/System" ∈ sT := sT_of (List.mem_of_getElem? (i := 14) (by decide +kernel)) rfl
theorem hw15 : Cond.initialized "java/util/NoSuchElementException" ∈ sT := sT_of (List.mem_of_getElem? (i := 15) (by decide +kernel)) rfl
theorem hw16 : Cond.initialized "java/lang/IllegalArgumentException" ∈ sT := sT_of (List.mem_of_getElem? (i := 16) (by decide +kernel)) rfl
theorem hw17 : Cond.initialized "java/lang/Math" ∈ sT := sT_of (List.mem_of_getElem? (i := 17) (by decide +kernel)) rfl
theorem hw18 : Cond.initialized "java/lang/ArithmeticException" ∈ sT := sT_of (List.mem_of_getElem? (i := 18) (by decide +kernel)) rfl
theorem hw45 : Cond.fieldLink RX2 9 RX2 (TX2 0).2.1 (TX2 0).2.2.1 ∈ sT := sT_of (List.mem_of_getElem? (i := 45) (by decide +kernel)) rfl
theorem hw46 : Cond.fieldLink RX0 48 RX2 (TX2 0).2.1 (TX2 0).2.2.1 ∈ sT := sT_of (List.mem_of_getElem? (i := 46) (by decide +kernel)) rfl
theorem hw47 : Cond.fieldLink RX4 86 RX2 (TX2 0).2.1 (TX2 0).2.2.1 ∈ sT := sT_of (List.mem_of_getElem? (i := 47) (by decide +kernel)) rfl
theorem hw48 : Cond.fieldLink RX3 55 RX2 (TX2 0).2.1 (TX2 0).2.2.1 ∈ sT := sT_of (List.mem_of_getElem? (i := 48) (by decide +kernel)) rfl
theorem hw49 : Cond.fieldLink RX2 15 RX2 (TX2 1).2.1 (TX2 1).2.2.1 ∈ sT := sT_of (List.mem_of_getElem? (i := 49) (by decide +kernel)) rfl
theorem hw50 : Cond.fieldLink RX4 64 RX2 (TX2 1).2.1 (TX2 1).2.2.1 ∈ sT := sT_of (List.mem_of_getElem? (i := 50) (by decide +kernel)) rfl
theorem hw51 : Cond.fieldLink RX0 60 RX2 (TX2 1).2.1 (TX2 1).2.2.1 ∈ sT := sT_of (List.mem_of_getElem? (i := 51) (by decide +kernel)) rfl
theorem hw52 : Cond.fieldLink RX0 31 RX2 (TX2 2).2.1 (TX2 2).2.2.1 ∈ sT := sT_of (List.mem_of_getElem? (i := 52) (by decide +kernel)) rfl
theorem hw53 : Cond.fieldLink RX4 49 RX2 (TX2 2).2.1 (TX2 2).2.2.1 ∈ sT := sT_of (List.mem_of_getElem? (i := 53) (by decide +kernel)) rfl
theorem hw54 : Cond.fieldLink RX2 18 RX2 (TX2 2).2.1 (TX2 2).2.2.1 ∈ sT := sT_of (List.mem_of_getElem? (i := 54) (by decide +kernel)) rfl
theorem hw55 : Cond.fieldLink RX3 52 RX2 (TX2 2).2.1 (TX2 2).2.2.1 ∈ sT := sT_of (List.mem_of_getElem? (i := 55) (by decide +kernel)) rfl
theorem hw70 : Cond.fieldLink RX1 22 RX1 (TX1 0).2.1 (TX1 0).2.2.1 ∈ sT := sT_of (List.mem_of_getElem? (i := 70) (by decide +kernel)) rfl
theorem hw71 : Cond.fieldLink RX0 47 RX1 (TX1 0).2.1 (TX1 0).2.2.1 ∈ sT := sT_of (List.mem_of_getElem? (i := 71) (by decide +kernel)) rfl
theorem hw72 : Cond.fieldLink RX4 183 RX1 (TX1 0).2.1 (TX1 0).2.2.1 ∈ sT := sT_of (List.mem_of_getElem? (i := 72) (by decide +kernel)) rfl
theorem hw73 : Cond.fieldLink RX1 9 RX1 (TX1 1).2.1 (TX1 1).2.2.1 ∈ sT := sT_of (List.mem_of_getElem? (i := 73) (by decide +kernel)) rfl
theorem hw74 : Cond.fieldLink RX1 15 RX1 (TX1 2).2.1 (TX1 2).2.2.1 ∈ sT := sT_of (List.mem_of_getElem? (i := 74) (by decide +kernel)) rfl
theorem hw75 : Cond.fieldLink RX1 19 RX1 (TX1 3).2.1 (TX1 3).2.2.1 ∈ sT := sT_of (List.mem_of_getElem? (i := 75) (by decide +kernel)) rfl
theorem hw86 : Cond.fieldLink RX0 12 RX0 (TX0 0).2.1 (TX0 0).2.2.1 ∈ sT := sT_of (List.mem_of_getElem? (i := 86) (by decide +kernel)) rfl
theorem hw87 : Cond.fieldLink RX0 18 RX0 (TX0 1).2.1 (TX0 1).2.2.1 ∈ sT := sT_of (List.mem_of_getElem? (i := 87) (by decide +kernel)) rfl
theorem hw88 : Cond.fieldLink RX0 21 RX0 (TX0 2).2.1 (TX0 2).2.2.1 ∈ sT := sT_of (List.mem_of_getElem? (i := 88) (by decide +kernel)) rfl
theorem hw89 : Cond.fieldLink RX0 27 RX0 (TX0 3).2.1 (TX0 3).2.2.1 ∈ sT := sT_of (List.mem_of_getElem? (i := 89) (by decide +kernel)) rfl
theorem hw105 : Cond.fieldLink RX3 7 RX3 (TX3 0).2.1 (TX3 0).2.2.1 ∈ sT := sT_of (List.mem_of_getElem? (i := 105) (by decide +kernel)) rfl
theorem hw106 : Cond.fieldLink RX4 284 RX3 (TX3 0).2.1 (TX3 0).2.2.1 ∈ sT := sT_of (List.mem_of_getElem? (i := 106) (by decide +kernel)) rfl
theorem hw107 : Cond.fieldLink RX3 13 RX3 (TX3 1).2.1 (TX3 1).2.2.1 ∈ sT := sT_of (List.mem_of_getElem? (i := 107) (by decide +kernel)) rfl
theorem hw108 : Cond.fieldLink RX4 143 RX3 (TX3 1).2.1 (TX3 1).2.2.1 ∈ sT := sT_of (List.mem_of_getElem? (i := 108) (by decide +kernel)) rfl
theorem hw109 : Cond.fieldLink RX3 17 RX3 (TX3 2).2.1 (TX3 2).2.2.1 ∈ sT := sT_of (List.mem_of_getElem? (i := 109) (by decide +kernel)) rfl
theorem hw110 : Cond.fieldLink RX3 20 RX3 (TX3 3).2.1 (TX3 3).2.2.1 ∈ sT := sT_of (List.mem_of_getElem? (i := 110) (by decide +kernel)) rfl
theorem hw111 : Cond.fieldLink RX3 24 RX3 (TX3 4).2.1 (TX3 4).2.2.1 ∈ sT := sT_of (List.mem_of_getElem? (i := 111) (by decide +kernel)) rfl
theorem hw112 : Cond.fieldLink RX3 27 RX3 (TX3 5).2.1 (TX3 5).2.2.1 ∈ sT := sT_of (List.mem_of_getElem? (i := 112) (by decide +kernel)) rfl
theorem hw127 : Cond.fieldLink RX4 11 RX4 (TX4 0).2.1 (TX4 0).2.2.1 ∈ sT := sT_of (List.mem_of_getElem? (i := 127) (by decide +kernel)) rfl
theorem hw128 : Cond.fieldLink RX4 17 RX4 (TX4 1).2.1 (TX4 1).2.2.1 ∈ sT := sT_of (List.mem_of_getElem? (i := 128) (by decide +kernel)) rfl
theorem hw129 : Cond.fieldLink RX4 23 RX4 (TX4 2).2.1 (TX4 2).2.2.1 ∈ sT := sT_of (List.mem_of_getElem? (i := 129) (by decide +kernel)) rfl
theorem hw130 : Cond.fieldLink RX4 30 RX4 (TX4 3).2.1 (TX4 3).2.2.1 ∈ sT := sT_of (List.mem_of_getElem? (i := 130) (by decide +kernel)) rfl
theorem hw131 : Cond.fieldLink RX4 34 RX4 (TX4 4).2.1 (TX4 4).2.2.1 ∈ sT := sT_of (List.mem_of_getElem? (i := 131) (by decide +kernel)) rfl
theorem hw132 : Cond.fieldLink RX4 106 RX4 (TX4 5).2.1 (TX4 5).2.2.1 ∈ sT := sT_of (List.mem_of_getElem? (i := 132) (by decide +kernel)) rfl
theorem hw133 : Cond.fieldLink RX4 97 RX4 (TX4 6).2.1 (TX4 6).2.2.1 ∈ sT := sT_of (List.mem_of_getElem? (i := 133) (by decide +kernel)) rfl
theorem hw134 : Cond.fieldLink RX4 103 RX4 (TX4 7).2.1 (TX4 7).2.2.1 ∈ sT := sT_of (List.mem_of_getElem? (i := 134) (by decide +kernel)) rfl
theorem hw152 : Cond.methodLink RL 246 yX4_checksum ∈ sT := sT_of (List.mem_of_getElem? (i := 152) (by decide +kernel)) rfl
theorem hw153 : Cond.instanceMethod yX4_checksum ∈ sT := sT_of (List.mem_of_getElem? (i := 153) (by decide +kernel)) rfl
theorem hw154 : Cond.selects RX4 yX4_checksum yX4_checksum ∈ sT := sT_of (List.mem_of_getElem? (i := 154) (by decide +kernel)) rfl
theorem hw155 : Cond.code yX4_checksum cX4_checksum 4 (some .long) ∈ sT := sT_of (List.mem_of_getElem? (i := 155) (by decide +kernel)) rfl
theorem hw156 : Cond.constantLong RX4 233 7 ∈ sT := sT_of (List.mem_of_getElem? (i := 156) (by decide +kernel)) rfl
theorem hw157 : Cond.methodLink RX4 235 yX2_addTo ∈ sT := sT_of (List.mem_of_getElem? (i := 157) (by decide +kernel)) rfl
theorem hw158 : Cond.instanceMethod yX2_addTo ∈ sT := sT_of (List.mem_of_getElem? (i := 158) (by decide +kernel)) rfl
theorem hw159 : Cond.selects RX2 yX2_addTo yX2_addTo ∈ sT := sT_of (List.mem_of_getElem? (i := 159) (by decide +kernel)) rfl
theorem hw160 : Cond.code yX2_addTo cX2_addTo 4 (some .long) ∈ sT := sT_of (List.mem_of_getElem? (i := 160) (by decide +kernel)) rfl
theorem hw162 : Cond.static yX4_chain ∈ sT := sT_of (List.mem_of_getElem? (i := 162) (by decide +kernel)) rfl
theorem hw163 : Cond.code yX4_chain cX4_chain 3 (some .long) ∈ sT := sT_of (List.mem_of_getElem? (i := 163) (by decide +kernel)) rfl
theorem hw164 : Cond.constantLong RX4 302 31 ∈ sT := sT_of (List.mem_of_getElem? (i := 164) (by decide +kernel)) rfl
theorem hw165 : Cond.methodLink RX4 239 yX3_addTo ∈ sT := sT_of (List.mem_of_getElem? (i := 165) (by decide +kernel)) rfl
theorem hw166 : Cond.instanceMethod yX3_addTo ∈ sT := sT_of (List.mem_of_getElem? (i := 166) (by decide +kernel)) rfl
theorem hw167 : Cond.selects RX3 yX3_addTo yX3_addTo ∈ sT := sT_of (List.mem_of_getElem? (i := 167) (by decide +kernel)) rfl
theorem hw168 : Cond.code yX3_addTo cX3_addTo 6 (some .long) ∈ sT := sT_of (List.mem_of_getElem? (i := 168) (by decide +kernel)) rfl
theorem hw170 : Cond.methodLink RX3 49 yX3_stopIn ∈ sT := sT_of (List.mem_of_getElem? (i := 170) (by decide +kernel)) rfl
theorem hw171 : Cond.instanceMethod yX3_stopIn ∈ sT := sT_of (List.mem_of_getElem? (i := 171) (by decide +kernel)) rfl
theorem hw172 : Cond.selects RX3 yX3_stopIn yX3_stopIn ∈ sT := sT_of (List.mem_of_getElem? (i := 172) (by decide +kernel)) rfl
theorem hw173 : Cond.code yX3_stopIn cX3_stopIn 3 (some .int) ∈ sT := sT_of (List.mem_of_getElem? (i := 173) (by decide +kernel)) rfl
theorem hw174 : Cond.methodLink RX3 36 yX2_countUpTo ∈ sT := sT_of (List.mem_of_getElem? (i := 174) (by decide +kernel)) rfl
theorem hw175 : Cond.instanceMethod yX2_countUpTo ∈ sT := sT_of (List.mem_of_getElem? (i := 175) (by decide +kernel)) rfl
theorem hw176 : Cond.selects RX2 yX2_countUpTo yX2_countUpTo ∈ sT := sT_of (List.mem_of_getElem? (i := 176) (by decide +kernel)) rfl
theorem hw177 : Cond.code yX2_countUpTo cX2_countUpTo 3 (some .int) ∈ sT := sT_of (List.mem_of_getElem? (i := 177) (by decide +kernel)) rfl
theorem hw178 : Cond.methodLink RX2 22 yX2_countBelow ∈ sT := sT_of (List.mem_of_getElem? (i := 178) (by decide +kernel)) rfl
theorem hw179 : Cond.instanceMethod yX2_countBelow ∈ sT := sT_of (List.mem_of_getElem? (i := 179) (by decide +kernel)) rfl
theorem hw180 : Cond.selects RX2 yX2_countBelow yX2_countBelow ∈ sT := sT_of (List.mem_of_getElem? (i := 180) (by decide +kernel)) rfl
theorem hw181 : Cond.code yX2_countBelow cX2_countBelow 5 (some .int) ∈ sT := sT_of (List.mem_of_getElem? (i := 181) (by decide +kernel)) rfl
theorem hw182 : Cond.methodLink RX3 30 yX2_countBelow ∈ sT := sT_of (List.mem_of_getElem? (i := 182) (by decide +kernel)) rfl
theorem hw183 : Cond.methodLink RX3 39 yX3_beginIn ∈ sT := sT_of (List.mem_of_getElem? (i := 183) (by decide +kernel)) rfl
theorem hw184 : Cond.instanceMethod yX3_beginIn ∈ sT := sT_of (List.mem_of_getElem? (i := 184) (by decide +kernel)) rfl
theorem hw185 : Cond.selects RX3 yX3_beginIn yX3_beginIn ∈ sT := sT_of (List.mem_of_getElem? (i := 185) (by decide +kernel)) rfl
theorem hw186 : Cond.code yX3_beginIn cX3_beginIn 2 (some .int) ∈ sT := sT_of (List.mem_of_getElem? (i := 186) (by decide +kernel)) rfl
theorem hw187 : Cond.methodLink RX3 43 Lib.Math.max.name ∈ sT := sT_of (List.mem_of_getElem? (i := 187) (by decide +kernel)) rfl
theorem hw188 : Cond.static Lib.Math.max.name ∈ sT := sT_of (List.mem_of_getElem? (i := 188) (by decide +kernel)) rfl
theorem hw189 : Cond.code Lib.Math.max.name Lib.Math.max.code 2 (some .int) ∈ sT := sT_of (List.mem_of_getElem? (i := 189) (by decide +kernel)) rfl
theorem hw190 : Cond.methodLink RX3 69 yX3_countEntries ∈ sT := sT_of (List.mem_of_getElem? (i := 190) (by decide +kernel)) rfl
theorem hw191 : Cond.instanceMethod yX3_countEntries ∈ sT := sT_of (List.mem_of_getElem? (i := 191) (by decide +kernel)) rfl
theorem hw192 : Cond.selects RX3 yX3_countEntries yX3_countEntries ∈ sT := sT_of (List.mem_of_getElem? (i := 192) (by decide +kernel)) rfl
theorem hw193 : Cond.code yX3_countEntries cX3_countEntries 2 (some .int) ∈ sT := sT_of (List.mem_of_getElem? (i := 193) (by decide +kernel)) rfl
theorem hw194 : Cond.methodLink RX4 240 yX1_addTo ∈ sT := sT_of (List.mem_of_getElem? (i := 194) (by decide +kernel)) rfl
theorem hw195 : Cond.instanceMethod yX1_addTo ∈ sT := sT_of (List.mem_of_getElem? (i := 195) (by decide +kernel)) rfl
theorem hw196 : Cond.selects RX1 yX1_addTo yX1_addTo ∈ sT := sT_of (List.mem_of_getElem? (i := 196) (by decide +kernel)) rfl
theorem hw197 : Cond.code yX1_addTo cX1_addTo 4 (some .long) ∈ sT := sT_of (List.mem_of_getElem? (i := 197) (by decide +kernel)) rfl
theorem hw199 : Cond.methodLink RL 251 yX4_isSound ∈ sT := sT_of (List.mem_of_getElem? (i := 199) (by decide +kernel)) rfl
theorem hw200 : Cond.instanceMethod yX4_isSound ∈ sT := sT_of (List.mem_of_getElem? (i := 200) (by decide +kernel)) rfl
theorem hw201 : Cond.selects RX4 yX4_isSound yX4_isSound ∈ sT := sT_of (List.mem_of_getElem? (i := 201) (by decide +kernel)) rfl
theorem hw202 : Cond.code yX4_isSound cX4_isSound 1 (some .boolean) ∈ sT := sT_of (List.mem_of_getElem? (i := 202) (by decide +kernel)) rfl
theorem hw203 : Cond.methodLink RX4 241 yX4_areMapsSound ∈ sT := sT_of (List.mem_of_getElem? (i := 203) (by decide +kernel)) rfl
theorem hw205 : Cond.instanceMethod yX4_areMapsSound ∈ sT := sT_of (List.mem_of_getElem? (i := 205) (by decide +kernel)) rfl
theorem hw206 : Cond.code yX4_areMapsSound cX4_areMapsSound 2 (some .boolean) ∈ sT := sT_of (List.mem_of_getElem? (i := 206) (by decide +kernel)) rfl
theorem hw207 : Cond.methodLink RX4 257 yX0_areNearKeysSound ∈ sT := sT_of (List.mem_of_getElem? (i := 207) (by decide +kernel)) rfl
theorem hw208 : Cond.instanceMethod yX0_areNearKeysSound ∈ sT := sT_of (List.mem_of_getElem? (i := 208) (by decide +kernel)) rfl
theorem hw209 : Cond.selects RX0 yX0_areNearKeysSound yX0_areNearKeysSound ∈ sT := sT_of (List.mem_of_getElem? (i := 209) (by decide +kernel)) rfl
theorem hw210 : Cond.code yX0_areNearKeysSound cX0_areNearKeysSound 5 (some .boolean) ∈ sT := sT_of (List.mem_of_getElem? (i := 210) (by decide +kernel)) rfl
theorem hw211 : Cond.methodLink RX0 63 yX0_isSplitSound ∈ sT := sT_of (List.mem_of_getElem? (i := 211) (by decide +kernel)) rfl
theorem hw212 : Cond.static yX0_isSplitSound ∈ sT := sT_of (List.mem_of_getElem? (i := 212) (by decide +kernel)) rfl
theorem hw213 : Cond.code yX0_isSplitSound cX0_isSplitSound 6 (some .boolean) ∈ sT := sT_of (List.mem_of_getElem? (i := 213) (by decide +kernel)) rfl
theorem hw214 : Cond.methodLink RX0 67 yX2_placeNear ∈ sT := sT_of (List.mem_of_getElem? (i := 214) (by decide +kernel)) rfl
theorem hw215 : Cond.instanceMethod yX2_placeNear ∈ sT := sT_of (List.mem_of_getElem? (i := 215) (by decide +kernel)) rfl
theorem hw216 : Cond.selects RX2 yX2_placeNear yX2_placeNear ∈ sT := sT_of (List.mem_of_getElem? (i := 216) (by decide +kernel)) rfl
theorem hw217 : Cond.code yX2_placeNear cX2_placeNear 7 (some .int) ∈ sT := sT_of (List.mem_of_getElem? (i := 217) (by decide +kernel)) rfl
theorem hw218 : Cond.methodLink RX2 26 yX2_countUpTo ∈ sT := sT_of (List.mem_of_getElem? (i := 218) (by decide +kernel)) rfl
theorem hw219 : Cond.methodLink RX2 29 Lib.Math.min.name ∈ sT := sT_of (List.mem_of_getElem? (i := 219) (by decide +kernel)) rfl
theorem hw220 : Cond.static Lib.Math.min.name ∈ sT := sT_of (List.mem_of_getElem? (i := 220) (by decide +kernel)) rfl
theorem hw221 : Cond.code Lib.Math.min.name Lib.Math.min.code 2 (some .int) ∈ sT := sT_of (List.mem_of_getElem? (i := 221) (by decide +kernel)) rfl
theorem hw222 : Cond.methodLink RX2 35 Lib.Math.max.name ∈ sT := sT_of (List.mem_of_getElem? (i := 222) (by decide +kernel)) rfl
theorem hw223 : Cond.methodLink RX0 71 yX0_isBelow ∈ sT := sT_of (List.mem_of_getElem? (i := 223) (by decide +kernel)) rfl
theorem hw224 : Cond.static yX0_isBelow ∈ sT := sT_of (List.mem_of_getElem? (i := 224) (by decide +kernel)) rfl
theorem hw225 : Cond.code yX0_isBelow cX0_isBelow 3 (some .boolean) ∈ sT := sT_of (List.mem_of_getElem? (i := 225) (by decide +kernel)) rfl
theorem hw226 : Cond.methodLink RX4 260 yX0_arePollsSound ∈ sT := sT_of (List.mem_of_getElem? (i := 226) (by decide +kernel)) rfl
theorem hw227 : Cond.instanceMethod yX0_arePollsSound ∈ sT := sT_of (List.mem_of_getElem? (i := 227) (by decide +kernel)) rfl
theorem hw228 : Cond.selects RX0 yX0_arePollsSound yX0_arePollsSound ∈ sT := sT_of (List.mem_of_getElem? (i := 228) (by decide +kernel)) rfl
theorem hw229 : Cond.code yX0_arePollsSound cX0_arePollsSound 2 (some .boolean) ∈ sT := sT_of (List.mem_of_getElem? (i := 229) (by decide +kernel)) rfl
theorem hw230 : Cond.methodLink RX0 75 yX0_arePollsSoundFrom ∈ sT := sT_of (List.mem_of_getElem? (i := 230) (by decide +kernel)) rfl
theorem hw232 : Cond.instanceMethod yX0_arePollsSoundFrom ∈ sT := sT_of (List.mem_of_getElem? (i := 232) (by decide +kernel)) rfl
theorem hw233 : Cond.code yX0_arePollsSoundFrom cX0_arePollsSoundFrom 5 (some .boolean) ∈ sT := sT_of (List.mem_of_getElem? (i := 233) (by decide +kernel)) rfl
theorem hw234 : Cond.methodLink RX0 79 yX2_becomeCopy ∈ sT := sT_of (List.mem_of_getElem? (i := 234) (by decide +kernel)) rfl
theorem hw235 : Cond.instanceMethod yX2_becomeCopy ∈ sT := sT_of (List.mem_of_getElem? (i := 235) (by decide +kernel)) rfl
theorem hw236 : Cond.selects RX2 yX2_becomeCopy yX2_becomeCopy ∈ sT := sT_of (List.mem_of_getElem? (i := 236) (by decide +kernel)) rfl
theorem hw237 : Cond.code yX2_becomeCopy cX2_becomeCopy 2 none ∈ sT := sT_of (List.mem_of_getElem? (i := 237) (by decide +kernel)) rfl
theorem hw238 : Cond.methodLink RX2 38 arraycopyName ∈ sT := sT_of (List.mem_of_getElem? (i := 238) (by decide +kernel)) rfl
theorem hw239 : Cond.static arraycopyName ∈ sT := sT_of (List.mem_of_getElem? (i := 239) (by decide +kernel)) rfl
theorem hw240 : Cond.native arraycopyName ∈ sT := sT_of (List.mem_of_getElem? (i := 240) (by decide +kernel)) rfl
theorem hw241 : Cond.methodLink RX0 82 yX2_hasSameAt ∈ sT := sT_of (List.mem_of_getElem? (i := 241) (by decide +kernel)) rfl
theorem hw242 : Cond.instanceMethod yX2_hasSameAt ∈ sT := sT_of (List.mem_of_getElem? (i := 242) (by decide +kernel)) rfl
theorem hw243 : Cond.selects RX2 yX2_hasSameAt yX2_hasSameAt ∈ sT := sT_of (List.mem_of_getElem? (i := 243) (by decide +kernel)) rfl
theorem hw244 : Cond.code yX2_hasSameAt cX2_hasSameAt 4 (some .boolean) ∈ sT := sT_of (List.mem_of_getElem? (i := 244) (by decide +kernel)) rfl
theorem hw245 : Cond.methodLink RX0 86 yX2_dropPlaces ∈ sT := sT_of (List.mem_of_getElem? (i := 245) (by decide +kernel)) rfl
theorem hw246 : Cond.instanceMethod yX2_dropPlaces ∈ sT := sT_of (List.mem_of_getElem? (i := 246) (by decide +kernel)) rfl
theorem hw247 : Cond.selects RX2 yX2_dropPlaces yX2_dropPlaces ∈ sT := sT_of (List.mem_of_getElem? (i := 247) (by decide +kernel)) rfl
theorem hw248 : Cond.code yX2_dropPlaces cX2_dropPlaces 3 none ∈ sT := sT_of (List.mem_of_getElem? (i := 248) (by decide +kernel)) rfl
theorem hw249 : Cond.methodLink RX4 245 yX4_areViewsSound ∈ sT := sT_of (List.mem_of_getElem? (i := 249) (by decide +kernel)) rfl
theorem hw251 : Cond.instanceMethod yX4_areViewsSound ∈ sT := sT_of (List.mem_of_getElem? (i := 251) (by decide +kernel)) rfl
theorem hw252 : Cond.code yX4_areViewsSound cX4_areViewsSound 2 (some .boolean) ∈ sT := sT_of (List.mem_of_getElem? (i := 252) (by decide +kernel)) rfl
theorem hw253 : Cond.methodLink RX4 263 yX3_hasJustItsSpan ∈ sT := sT_of (List.mem_of_getElem? (i := 253) (by decide +kernel)) rfl
theorem hw254 : Cond.instanceMethod yX3_hasJustItsSpan ∈ sT := sT_of (List.mem_of_getElem? (i := 254) (by decide +kernel)) rfl
theorem hw255 : Cond.selects RX3 yX3_hasJustItsSpan yX3_hasJustItsSpan ∈ sT := sT_of (List.mem_of_getElem? (i := 255) (by decide +kernel)) rfl
theorem hw256 : Cond.code yX3_hasJustItsSpan cX3_hasJustItsSpan 6 (some .boolean) ∈ sT := sT_of (List.mem_of_getElem? (i := 256) (by decide +kernel)) rfl
theorem hw257 : Cond.methodLink RX3 59 yX3_covers ∈ sT := sT_of (List.mem_of_getElem? (i := 257) (by decide +kernel)) rfl
theorem hw258 : Cond.instanceMethod yX3_covers ∈ sT := sT_of (List.mem_of_getElem? (i := 258) (by decide +kernel)) rfl
theorem hw259 : Cond.selects RX3 yX3_covers yX3_covers ∈ sT := sT_of (List.mem_of_getElem? (i := 259) (by decide +kernel)) rfl
theorem hw260 : Cond.code yX3_covers cX3_covers 4 (some .boolean) ∈ sT := sT_of (List.mem_of_getElem? (i := 260) (by decide +kernel)) rfl
theorem hw261 : Cond.methodLink RX4 248 yX4_areOrdersFree ∈ sT := sT_of (List.mem_of_getElem? (i := 261) (by decide +kernel)) rfl
theorem hw263 : Cond.instanceMethod yX4_areOrdersFree ∈ sT := sT_of (List.mem_of_getElem? (i := 263) (by decide +kernel)) rfl
theorem hw264 : Cond.code yX4_areOrdersFree cX4_areOrdersFree 4 (some .boolean) ∈ sT := sT_of (List.mem_of_getElem? (i := 264) (by decide +kernel)) rfl
theorem hw265 : Cond.methodLink RX4 266 yX0_isOrderFree ∈ sT := sT_of (List.mem_of_getElem? (i := 265) (by decide +kernel)) rfl
theorem hw266 : Cond.instanceMethod yX0_isOrderFree ∈ sT := sT_of (List.mem_of_getElem? (i := 266) (by decide +kernel)) rfl
theorem hw267 : Cond.selects RX0 yX0_isOrderFree yX0_isOrderFree ∈ sT := sT_of (List.mem_of_getElem? (i := 267) (by decide +kernel)) rfl
theorem hw268 : Cond.code yX0_isOrderFree cX0_isOrderFree 4 (some .boolean) ∈ sT := sT_of (List.mem_of_getElem? (i := 268) (by decide +kernel)) rfl
theorem hw269 : Cond.methodLink RX0 90 yX0_countCommonKeys ∈ sT := sT_of (List.mem_of_getElem? (i := 269) (by decide +kernel)) rfl
theorem hw270 : Cond.instanceMethod yX0_countCommonKeys ∈ sT := sT_of (List.mem_of_getElem? (i := 270) (by decide +kernel)) rfl
theorem hw271 : Cond.selects RX0 yX0_countCommonKeys yX0_countCommonKeys ∈ sT := sT_of (List.mem_of_getElem? (i := 271) (by decide +kernel)) rfl
theorem hw272 : Cond.code yX0_countCommonKeys cX0_countCommonKeys 3 (some .int) ∈ sT := sT_of (List.mem_of_getElem? (i := 272) (by decide +kernel)) rfl
theorem hw273 : Cond.methodLink RX0 39 yX0_countKeys ∈ sT := sT_of (List.mem_of_getElem? (i := 273) (by decide +kernel)) rfl
theorem hw274 : Cond.instanceMethod yX0_countKeys ∈ sT := sT_of (List.mem_of_getElem? (i := 274) (by decide +kernel)) rfl
theorem hw275 : Cond.selects RX0 yX0_countKeys yX0_countKeys ∈ sT := sT_of (List.mem_of_getElem? (i := 275) (by decide +kernel)) rfl
theorem hw276 : Cond.code yX0_countKeys cX0_countKeys 3 (some .int) ∈ sT := sT_of (List.mem_of_getElem? (i := 276) (by decide +kernel)) rfl
theorem hw277 : Cond.methodLink RX0 35 yX1_addKeysTo ∈ sT := sT_of (List.mem_of_getElem? (i := 277) (by decide +kernel)) rfl
theorem hw278 : Cond.instanceMethod yX1_addKeysTo ∈ sT := sT_of (List.mem_of_getElem? (i := 278) (by decide +kernel)) rfl
theorem hw279 : Cond.selects RX1 yX1_addKeysTo yX1_addKeysTo ∈ sT := sT_of (List.mem_of_getElem? (i := 279) (by decide +kernel)) rfl
theorem hw280 : Cond.code yX1_addKeysTo cX1_addKeysTo 3 none ∈ sT := sT_of (List.mem_of_getElem? (i := 280) (by decide +kernel)) rfl
theorem hw281 : Cond.methodLink RX1 32 yX2_set ∈ sT := sT_of (List.mem_of_getElem? (i := 281) (by decide +kernel)) rfl
theorem hw282 : Cond.instanceMethod yX2_set ∈ sT := sT_of (List.mem_of_getElem? (i := 282) (by decide +kernel)) rfl
theorem hw283 : Cond.selects RX2 yX2_set yX2_set ∈ sT := sT_of (List.mem_of_getElem? (i := 283) (by decide +kernel)) rfl
theorem hw284 : Cond.code yX2_set cX2_set 5 (some .boolean) ∈ sT := sT_of (List.mem_of_getElem? (i := 284) (by decide +kernel)) rfl
theorem hw285 : Cond.methodLink RX0 93 yX1_playOn ∈ sT := sT_of (List.mem_of_getElem? (i := 285) (by decide +kernel)) rfl
theorem hw286 : Cond.instanceMethod yX1_playOn ∈ sT := sT_of (List.mem_of_getElem? (i := 286) (by decide +kernel)) rfl
theorem hw287 : Cond.selects RX1 yX1_playOn yX1_playOn ∈ sT := sT_of (List.mem_of_getElem? (i := 287) (by decide +kernel)) rfl
theorem hw288 : Cond.code yX1_playOn cX1_playOn 4 (some .int) ∈ sT := sT_of (List.mem_of_getElem? (i := 288) (by decide +kernel)) rfl
theorem hw289 : Cond.methodLink RX1 26 yX2_change ∈ sT := sT_of (List.mem_of_getElem? (i := 289) (by decide +kernel)) rfl
theorem hw290 : Cond.instanceMethod yX2_change ∈ sT := sT_of (List.mem_of_getElem? (i := 290) (by decide +kernel)) rfl
theorem hw291 : Cond.selects RX2 yX2_change yX2_change ∈ sT := sT_of (List.mem_of_getElem? (i := 291) (by decide +kernel)) rfl
theorem hw292 : Cond.code yX2_change cX2_change 5 (some .boolean) ∈ sT := sT_of (List.mem_of_getElem? (i := 292) (by decide +kernel)) rfl
theorem hw293 : Cond.methodLink RX2 48 yX2_drop ∈ sT := sT_of (List.mem_of_getElem? (i := 293) (by decide +kernel)) rfl
theorem hw294 : Cond.instanceMethod yX2_drop ∈ sT := sT_of (List.mem_of_getElem? (i := 294) (by decide +kernel)) rfl
theorem hw295 : Cond.selects RX2 yX2_drop yX2_drop ∈ sT := sT_of (List.mem_of_getElem? (i := 295) (by decide +kernel)) rfl
theorem hw296 : Cond.code yX2_drop cX2_drop 3 (some .boolean) ∈ sT := sT_of (List.mem_of_getElem? (i := 296) (by decide +kernel)) rfl
theorem hw297 : Cond.methodLink RX2 44 yX2_dropPlaces ∈ sT := sT_of (List.mem_of_getElem? (i := 297) (by decide +kernel)) rfl
theorem hw298 : Cond.methodLink RX2 52 yX2_placeOf ∈ sT := sT_of (List.mem_of_getElem? (i := 298) (by decide +kernel)) rfl
theorem hw299 : Cond.instanceMethod yX2_placeOf ∈ sT := sT_of (List.mem_of_getElem? (i := 299) (by decide +kernel)) rfl
theorem hw300 : Cond.selects RX2 yX2_placeOf yX2_placeOf ∈ sT := sT_of (List.mem_of_getElem? (i := 300) (by decide +kernel)) rfl
theorem hw301 : Cond.code yX2_placeOf cX2_placeOf 3 (some .int) ∈ sT := sT_of (List.mem_of_getElem? (i := 301) (by decide +kernel)) rfl
theorem hw302 : Cond.methodLink RX2 55 yX2_set ∈ sT := sT_of (List.mem_of_getElem? (i := 302) (by decide +kernel)) rfl
theorem hw303 : Cond.methodLink RX0 96 yX2_isSame ∈ sT := sT_of (List.mem_of_getElem? (i := 303) (by decide +kernel)) rfl
theorem hw304 : Cond.instanceMethod yX2_isSame ∈ sT := sT_of (List.mem_of_getElem? (i := 304) (by decide +kernel)) rfl
theorem hw305 : Cond.selects RX2 yX2_isSame yX2_isSame ∈ sT := sT_of (List.mem_of_getElem? (i := 305) (by decide +kernel)) rfl
theorem hw306 : Cond.code yX2_isSame cX2_isSame 3 (some .boolean) ∈ sT := sT_of (List.mem_of_getElem? (i := 306) (by decide +kernel)) rfl
theorem hw307 : Cond.methodLink RX2 63 yX2_hasSameAt ∈ sT := sT_of (List.mem_of_getElem? (i := 307) (by decide +kernel)) rfl
theorem hw308 : Cond.methodLink RX4 251 yX4_areOppositesSound ∈ sT := sT_of (List.mem_of_getElem? (i := 308) (by decide +kernel)) rfl
theorem hw310 : Cond.instanceMethod yX4_areOppositesSound ∈ sT := sT_of (List.mem_of_getElem? (i := 310) (by decide +kernel)) rfl
theorem hw311 : Cond.code yX4_areOppositesSound cX4_areOppositesSound 3 (some .boolean) ∈ sT := sT_of (List.mem_of_getElem? (i := 311) (by decide +kernel)) rfl
theorem hw312 : Cond.methodLink RX4 270 yX0_isUndone ∈ sT := sT_of (List.mem_of_getElem? (i := 312) (by decide +kernel)) rfl
theorem hw313 : Cond.instanceMethod yX0_isUndone ∈ sT := sT_of (List.mem_of_getElem? (i := 313) (by decide +kernel)) rfl
theorem hw314 : Cond.selects RX0 yX0_isUndone yX0_isUndone ∈ sT := sT_of (List.mem_of_getElem? (i := 314) (by decide +kernel)) rfl
theorem hw315 : Cond.code yX0_isUndone cX0_isUndone 3 (some .boolean) ∈ sT := sT_of (List.mem_of_getElem? (i := 315) (by decide +kernel)) rfl
theorem hw316 : Cond.methodLink RX0 100 yX0_turnRound ∈ sT := sT_of (List.mem_of_getElem? (i := 316) (by decide +kernel)) rfl
theorem hw317 : Cond.instanceMethod yX0_turnRound ∈ sT := sT_of (List.mem_of_getElem? (i := 317) (by decide +kernel)) rfl
theorem hw318 : Cond.selects RX0 yX0_turnRound yX0_turnRound ∈ sT := sT_of (List.mem_of_getElem? (i := 318) (by decide +kernel)) rfl
theorem hw319 : Cond.code yX0_turnRound cX0_turnRound 7 none ∈ sT := sT_of (List.mem_of_getElem? (i := 319) (by decide +kernel)) rfl
theorem hw320 : Cond.methodLink RX0 52 yX2_placeOf ∈ sT := sT_of (List.mem_of_getElem? (i := 320) (by decide +kernel)) rfl
theorem hw321 : Cond.methodLink RX0 56 yX1_add ∈ sT := sT_of (List.mem_of_getElem? (i := 321) (by decide +kernel)) rfl
theorem hw322 : Cond.instanceMethod yX1_add ∈ sT := sT_of (List.mem_of_getElem? (i := 322) (by decide +kernel)) rfl
theorem hw323 : Cond.selects RX1 yX1_add yX1_add ∈ sT := sT_of (List.mem_of_getElem? (i := 323) (by decide +kernel)) rfl
theorem hw324 : Cond.code yX1_add cX1_add 4 none ∈ sT := sT_of (List.mem_of_getElem? (i := 324) (by decide +kernel)) rfl
theorem hw325 : Cond.methodLink RX4 254 yX4_areMixesSound ∈ sT := sT_of (List.mem_of_getElem? (i := 325) (by decide +kernel)) rfl
theorem hw327 : Cond.instanceMethod yX4_areMixesSound ∈ sT := sT_of (List.mem_of_getElem? (i := 327) (by decide +kernel)) rfl
theorem hw328 : Cond.code yX4_areMixesSound cX4_areMixesSound 3 (some .boolean) ∈ sT := sT_of (List.mem_of_getElem? (i := 328) (by decide +kernel)) rfl
theorem hw329 : Cond.methodLink RX4 274 yX0_isMixAlike ∈ sT := sT_of (List.mem_of_getElem? (i := 329) (by decide +kernel)) rfl
theorem hw330 : Cond.instanceMethod yX0_isMixAlike ∈ sT := sT_of (List.mem_of_getElem? (i := 330) (by decide +kernel)) rfl
theorem hw331 : Cond.selects RX0 yX0_isMixAlike yX0_isMixAlike ∈ sT := sT_of (List.mem_of_getElem? (i := 331) (by decide +kernel)) rfl
theorem hw332 : Cond.code yX0_isMixAlike cX0_isMixAlike 4 (some .boolean) ∈ sT := sT_of (List.mem_of_getElem? (i := 332) (by decide +kernel)) rfl
theorem hw333 : Cond.methodLink RX0 104 yX2_takeIn ∈ sT := sT_of (List.mem_of_getElem? (i := 333) (by decide +kernel)) rfl
theorem hw334 : Cond.instanceMethod yX2_takeIn ∈ sT := sT_of (List.mem_of_getElem? (i := 334) (by decide +kernel)) rfl
theorem hw335 : Cond.selects RX2 yX2_takeIn yX2_takeIn ∈ sT := sT_of (List.mem_of_getElem? (i := 335) (by decide +kernel)) rfl
theorem hw336 : Cond.code yX2_takeIn cX2_takeIn 7 none ∈ sT := sT_of (List.mem_of_getElem? (i := 336) (by decide +kernel)) rfl
theorem hw337 : Cond.methodLink RX2 59 yX2_mix ∈ sT := sT_of (List.mem_of_getElem? (i := 337) (by decide +kernel)) rfl
theorem hw338 : Cond.static yX2_mix ∈ sT := sT_of (List.mem_of_getElem? (i := 338) (by decide +kernel)) rfl
theorem hw339 : Cond.code yX2_mix cX2_mix 3 (some .int) ∈ sT := sT_of (List.mem_of_getElem? (i := 339) (by decide +kernel)) rfl
theorem hw340 : Cond.methodLink RL 133 yL_put ∈ sT := sT_of (List.mem_of_getElem? (i := 340) (by decide +kernel)) rfl
theorem hw341 : Cond.static yL_put ∈ sT := sT_of (List.mem_of_getElem? (i := 341) (by decide +kernel)) rfl
theorem hw342 : Cond.codeWith yL_put cL_put 6 (some .int) [(0, 12, 15, 13), (0, 12, 19, 15)] ∈ sT := sT_of (List.mem_of_getElem? (i := 342) (by decide +kernel)) rfl
theorem hw343 : Cond.classLink RL 13 "java/lang/IndexOutOfBoundsException" ∈ sT := sT_of (List.mem_of_getElem? (i := 343) (by decide +kernel)) rfl
theorem hw422 : Cond.classLink RL 15 "java/lang/IllegalStateException" ∈ sT := sT_of (List.mem_of_getElem? (i := 422) (by decide +kernel)) rfl
theorem hw423 : Cond.methodLink RL 7 yX4_put ∈ sT := sT_of (List.mem_of_getElem? (i := 423) (by decide +kernel)) rfl
theorem hw424 : Cond.instanceMethod yX4_put ∈ sT := sT_of (List.mem_of_getElem? (i := 424) (by decide +kernel)) rfl
theorem hw425 : Cond.selects RX4 yX4_put yX4_put ∈ sT := sT_of (List.mem_of_getElem? (i := 425) (by decide +kernel)) rfl
theorem hw426 : Cond.code yX4_put cX4_put 5 (some .int) ∈ sT := sT_of (List.mem_of_getElem? (i := 426) (by decide +kernel)) rfl
theorem hw427 : Cond.methodLink RX4 41 yX4_mapAt ∈ sT := sT_of (List.mem_of_getElem? (i := 427) (by decide +kernel)) rfl
theorem hw429 : Cond.instanceMethod yX4_mapAt ∈ sT := sT_of (List.mem_of_getElem? (i := 429) (by decide +kernel)) rfl
theorem hw430 : Cond.code yX4_mapAt cX4_mapAt 2 (some (.object "Spanwarden$Table")) ∈ sT := sT_of (List.mem_of_getElem? (i := 430) (by decide +kernel)) rfl
theorem hw431 : Cond.classLink RX4 109 "java/lang/IndexOutOfBoundsException" ∈ sT := sT_of (List.mem_of_getElem? (i := 431) (by decide +kernel)) rfl
theorem hw444 : Cond.methodLink RX4 45 yX4_putWithin ∈ sT := sT_of (List.mem_of_getElem? (i := 444) (by decide +kernel)) rfl
theorem hw445 : Cond.static yX4_putWithin ∈ sT := sT_of (List.mem_of_getElem? (i := 445) (by decide +kernel)) rfl
theorem hw446 : Cond.code yX4_putWithin cX4_putWithin 3 none ∈ sT := sT_of (List.mem_of_getElem? (i := 446) (by decide +kernel)) rfl
theorem hw447 : Cond.methodLink RX4 53 yX2_placeOf ∈ sT := sT_of (List.mem_of_getElem? (i := 447) (by decide +kernel)) rfl
theorem hw448 : Cond.classLink RX4 146 "java/lang/IllegalStateException" ∈ sT := sT_of (List.mem_of_getElem? (i := 448) (by decide +kernel)) rfl
theorem hw464 : Cond.methodLink RX4 294 yX2_set ∈ sT := sT_of (List.mem_of_getElem? (i := 464) (by decide +kernel)) rfl
theorem hw465 : Cond.methodLink RL 142 yL_value ∈ sT := sT_of (List.mem_of_getElem? (i := 465) (by decide +kernel)) rfl
theorem hw466 : Cond.static yL_value ∈ sT := sT_of (List.mem_of_getElem? (i := 466) (by decide +kernel)) rfl
theorem hw467 : Cond.codeWith yL_value cL_value 5 (some .int) [(0, 10, 13, 13), (0, 10, 17, 21)] ∈ sT := sT_of (List.mem_of_getElem? (i := 467) (by decide +kernel)) rfl
theorem hw468 : Cond.classLink RL 21 "java/util/NoSuchElementException" ∈ sT := sT_of (List.mem_of_getElem? (i := 468) (by decide +kernel)) rfl
theorem hw469 : Cond.methodLink RL 17 yX4_value ∈ sT := sT_of (List.mem_of_getElem? (i := 469) (by decide +kernel)) rfl
theorem hw470 : Cond.instanceMethod yX4_value ∈ sT := sT_of (List.mem_of_getElem? (i := 470) (by decide +kernel)) rfl
theorem hw471 : Cond.selects RX4 yX4_value yX4_value ∈ sT := sT_of (List.mem_of_getElem? (i := 471) (by decide +kernel)) rfl
theorem hw472 : Cond.code yX4_value cX4_value 5 (some .int) ∈ sT := sT_of (List.mem_of_getElem? (i := 472) (by decide +kernel)) rfl
theorem hw473 : Cond.classLink RX4 57 "java/util/NoSuchElementException" ∈ sT := sT_of (List.mem_of_getElem? (i := 473) (by decide +kernel)) rfl
theorem hw489 : Cond.methodLink RL 146 yL_remove ∈ sT := sT_of (List.mem_of_getElem? (i := 489) (by decide +kernel)) rfl
theorem hw490 : Cond.static yL_remove ∈ sT := sT_of (List.mem_of_getElem? (i := 490) (by decide +kernel)) rfl
theorem hw491 : Cond.codeWith yL_remove cL_remove 5 (some .int) [(0, 10, 13, 13)] ∈ sT := sT_of (List.mem_of_getElem? (i := 491) (by decide +kernel)) rfl
theorem hw492 : Cond.methodLink RL 23 yX4_remove ∈ sT := sT_of (List.mem_of_getElem? (i := 492) (by decide +kernel)) rfl
theorem hw493 : Cond.instanceMethod yX4_remove ∈ sT := sT_of (List.mem_of_getElem? (i := 493) (by decide +kernel)) rfl
theorem hw494 : Cond.selects RX4 yX4_remove yX4_remove ∈ sT := sT_of (List.mem_of_getElem? (i := 494) (by decide +kernel)) rfl
theorem hw495 : Cond.code yX4_remove cX4_remove 4 (some .int) ∈ sT := sT_of (List.mem_of_getElem? (i := 495) (by decide +kernel)) rfl
theorem hw496 : Cond.methodLink RX4 67 yX2_drop ∈ sT := sT_of (List.mem_of_getElem? (i := 496) (by decide +kernel)) rfl
theorem hw497 : Cond.methodLink RL 149 yL_near ∈ sT := sT_of (List.mem_of_getElem? (i := 497) (by decide +kernel)) rfl
theorem hw498 : Cond.static yL_near ∈ sT := sT_of (List.mem_of_getElem? (i := 498) (by decide +kernel)) rfl
theorem hw499 : Cond.codeWith yL_near cL_near 6 (some .int) [(0, 12, 15, 13), (0, 12, 19, 30), (0, 12, 23, 21)] ∈ sT := sT_of (List.mem_of_getElem? (i := 499) (by decide +kernel)) rfl
theorem hw500 : Cond.classLink RL 30 "java/lang/IllegalArgumentException" ∈ sT := sT_of (List.mem_of_getElem? (i := 500) (by decide +kernel)) rfl
theorem hw501 : Cond.methodLink RL 26 yX4_near ∈ sT := sT_of (List.mem_of_getElem? (i := 501) (by decide +kernel)) rfl
theorem hw502 : Cond.instanceMethod yX4_near ∈ sT := sT_of (List.mem_of_getElem? (i := 502) (by decide +kernel)) rfl
theorem hw503 : Cond.selects RX4 yX4_near yX4_near ∈ sT := sT_of (List.mem_of_getElem? (i := 503) (by decide +kernel)) rfl
theorem hw504 : Cond.code yX4_near cX4_near 6 (some .int) ∈ sT := sT_of (List.mem_of_getElem? (i := 504) (by decide +kernel)) rfl
theorem hw505 : Cond.methodLink RX4 71 yX4_isNearWay ∈ sT := sT_of (List.mem_of_getElem? (i := 505) (by decide +kernel)) rfl
theorem hw506 : Cond.static yX4_isNearWay ∈ sT := sT_of (List.mem_of_getElem? (i := 506) (by decide +kernel)) rfl
theorem hw507 : Cond.code yX4_isNearWay cX4_isNearWay 1 (some .boolean) ∈ sT := sT_of (List.mem_of_getElem? (i := 507) (by decide +kernel)) rfl
theorem hw508 : Cond.classLink RX4 75 "java/lang/IllegalArgumentException" ∈ sT := sT_of (List.mem_of_getElem? (i := 508) (by decide +kernel)) rfl
theorem hw524 : Cond.methodLink RX4 80 yX2_placeNear ∈ sT := sT_of (List.mem_of_getElem? (i := 524) (by decide +kernel)) rfl
theorem hw526 : Cond.methodLink RL 153 yL_end ∈ sT := sT_of (List.mem_of_getElem? (i := 526) (by decide +kernel)) rfl
theorem hw527 : Cond.static yL_end ∈ sT := sT_of (List.mem_of_getElem? (i := 527) (by decide +kernel)) rfl
theorem hw528 : Cond.codeWith yL_end cL_end 5 (some .int) [(0, 10, 13, 13), (0, 10, 17, 21)] ∈ sT := sT_of (List.mem_of_getElem? (i := 528) (by decide +kernel)) rfl
theorem hw529 : Cond.methodLink RL 32 yX4_end ∈ sT := sT_of (List.mem_of_getElem? (i := 529) (by decide +kernel)) rfl
theorem hw530 : Cond.instanceMethod yX4_end ∈ sT := sT_of (List.mem_of_getElem? (i := 530) (by decide +kernel)) rfl
theorem hw531 : Cond.selects RX4 yX4_end yX4_end ∈ sT := sT_of (List.mem_of_getElem? (i := 531) (by decide +kernel)) rfl
theorem hw532 : Cond.code yX4_end cX4_end 4 (some .int) ∈ sT := sT_of (List.mem_of_getElem? (i := 532) (by decide +kernel)) rfl
theorem hw533 : Cond.methodLink RX4 89 yX4_endPlace ∈ sT := sT_of (List.mem_of_getElem? (i := 533) (by decide +kernel)) rfl
theorem hw534 : Cond.static yX4_endPlace ∈ sT := sT_of (List.mem_of_getElem? (i := 534) (by decide +kernel)) rfl
theorem hw535 : Cond.code yX4_endPlace cX4_endPlace 3 (some .int) ∈ sT := sT_of (List.mem_of_getElem? (i := 535) (by decide +kernel)) rfl
theorem hw537 : Cond.methodLink RL 157 yL_poll ∈ sT := sT_of (List.mem_of_getElem? (i := 537) (by decide +kernel)) rfl
theorem hw538 : Cond.static yL_poll ∈ sT := sT_of (List.mem_of_getElem? (i := 538) (by decide +kernel)) rfl
theorem hw539 : Cond.codeWith yL_poll cL_poll 5 (some .int) [(0, 10, 13, 13), (0, 10, 17, 21)] ∈ sT := sT_of (List.mem_of_getElem? (i := 539) (by decide +kernel)) rfl
theorem hw540 : Cond.methodLink RL 36 yX4_poll ∈ sT := sT_of (List.mem_of_getElem? (i := 540) (by decide +kernel)) rfl
theorem hw541 : Cond.instanceMethod yX4_poll ∈ sT := sT_of (List.mem_of_getElem? (i := 541) (by decide +kernel)) rfl
theorem hw542 : Cond.selects RX4 yX4_poll yX4_poll ∈ sT := sT_of (List.mem_of_getElem? (i := 542) (by decide +kernel)) rfl
theorem hw543 : Cond.code yX4_poll cX4_poll 4 (some .int) ∈ sT := sT_of (List.mem_of_getElem? (i := 543) (by decide +kernel)) rfl
theorem hw544 : Cond.methodLink RX4 93 yX4_pollAt ∈ sT := sT_of (List.mem_of_getElem? (i := 544) (by decide +kernel)) rfl
theorem hw546 : Cond.instanceMethod yX4_pollAt ∈ sT := sT_of (List.mem_of_getElem? (i := 546) (by decide +kernel)) rfl
theorem hw547 : Cond.code yX4_pollAt cX4_pollAt 4 (some .int) ∈ sT := sT_of (List.mem_of_getElem? (i := 547) (by decide +kernel)) rfl
theorem hw548 : Cond.methodLink RX4 170 yX2_dropPlaces ∈ sT := sT_of (List.mem_of_getElem? (i := 548) (by decide +kernel)) rfl
theorem hw549 : Cond.methodLink RL 160 yL_polled ∈ sT := sT_of (List.mem_of_getElem? (i := 549) (by decide +kernel)) rfl
theorem hw550 : Cond.static yL_polled ∈ sT := sT_of (List.mem_of_getElem? (i := 550) (by decide +kernel)) rfl
theorem hw551 : Cond.codeWith yL_polled cL_polled 3 (some .int) [(0, 8, 11, 21)] ∈ sT := sT_of (List.mem_of_getElem? (i := 551) (by decide +kernel)) rfl
theorem hw552 : Cond.methodLink RL 39 yX4_polled ∈ sT := sT_of (List.mem_of_getElem? (i := 552) (by decide +kernel)) rfl
theorem hw553 : Cond.instanceMethod yX4_polled ∈ sT := sT_of (List.mem_of_getElem? (i := 553) (by decide +kernel)) rfl
theorem hw554 : Cond.selects RX4 yX4_polled yX4_polled ∈ sT := sT_of (List.mem_of_getElem? (i := 554) (by decide +kernel)) rfl
theorem hw555 : Cond.code yX4_polled cX4_polled 1 (some .int) ∈ sT := sT_of (List.mem_of_getElem? (i := 555) (by decide +kernel)) rfl
theorem hw557 : Cond.methodLink RL 164 yL_drain ∈ sT := sT_of (List.mem_of_getElem? (i := 557) (by decide +kernel)) rfl
theorem hw558 : Cond.static yL_drain ∈ sT := sT_of (List.mem_of_getElem? (i := 558) (by decide +kernel)) rfl
theorem hw559 : Cond.codeWith yL_drain cL_drain 5 (some .int) [(0, 10, 13, 13)] ∈ sT := sT_of (List.mem_of_getElem? (i := 559) (by decide +kernel)) rfl
theorem hw560 : Cond.methodLink RL 43 yX4_drain ∈ sT := sT_of (List.mem_of_getElem? (i := 560) (by decide +kernel)) rfl
theorem hw561 : Cond.instanceMethod yX4_drain ∈ sT := sT_of (List.mem_of_getElem? (i := 561) (by decide +kernel)) rfl
theorem hw562 : Cond.selects RX4 yX4_drain yX4_drain ∈ sT := sT_of (List.mem_of_getElem? (i := 562) (by decide +kernel)) rfl
theorem hw563 : Cond.code yX4_drain cX4_drain 5 (some .int) ∈ sT := sT_of (List.mem_of_getElem? (i := 563) (by decide +kernel)) rfl
theorem hw564 : Cond.methodLink RL 167 yL_drained ∈ sT := sT_of (List.mem_of_getElem? (i := 564) (by decide +kernel)) rfl
theorem hw565 : Cond.static yL_drained ∈ sT := sT_of (List.mem_of_getElem? (i := 565) (by decide +kernel)) rfl
theorem hw566 : Cond.codeWith yL_drained cL_drained 4 (some .int) [(0, 9, 12, 13)] ∈ sT := sT_of (List.mem_of_getElem? (i := 566) (by decide +kernel)) rfl
theorem hw567 : Cond.methodLink RL 46 yX4_drained ∈ sT := sT_of (List.mem_of_getElem? (i := 567) (by decide +kernel)) rfl
theorem hw568 : Cond.instanceMethod yX4_drained ∈ sT := sT_of (List.mem_of_getElem? (i := 568) (by decide +kernel)) rfl
theorem hw569 : Cond.selects RX4 yX4_drained yX4_drained ∈ sT := sT_of (List.mem_of_getElem? (i := 569) (by decide +kernel)) rfl
theorem hw570 : Cond.code yX4_drained cX4_drained 2 (some .int) ∈ sT := sT_of (List.mem_of_getElem? (i := 570) (by decide +kernel)) rfl
theorem hw572 : Cond.methodLink RL 171 yL_size ∈ sT := sT_of (List.mem_of_getElem? (i := 572) (by decide +kernel)) rfl
theorem hw573 : Cond.static yL_size ∈ sT := sT_of (List.mem_of_getElem? (i := 573) (by decide +kernel)) rfl
theorem hw574 : Cond.codeWith yL_size cL_size 4 (some .int) [(0, 9, 12, 13)] ∈ sT := sT_of (List.mem_of_getElem? (i := 574) (by decide +kernel)) rfl
theorem hw575 : Cond.methodLink RL 50 yX4_size ∈ sT := sT_of (List.mem_of_getElem? (i := 575) (by decide +kernel)) rfl
theorem hw576 : Cond.instanceMethod yX4_size ∈ sT := sT_of (List.mem_of_getElem? (i := 576) (by decide +kernel)) rfl
theorem hw577 : Cond.selects RX4 yX4_size yX4_size ∈ sT := sT_of (List.mem_of_getElem? (i := 577) (by decide +kernel)) rfl
theorem hw578 : Cond.code yX4_size cX4_size 2 (some .int) ∈ sT := sT_of (List.mem_of_getElem? (i := 578) (by decide +kernel)) rfl
theorem hw579 : Cond.methodLink RL 174 yL_keyAt ∈ sT := sT_of (List.mem_of_getElem? (i := 579) (by decide +kernel)) rfl
theorem hw580 : Cond.static yL_keyAt ∈ sT := sT_of (List.mem_of_getElem? (i := 580) (by decide +kernel)) rfl
theorem hw581 : Cond.codeWith yL_keyAt cL_keyAt 6 (some .int) [(0, 12, 15, 13)] ∈ sT := sT_of (List.mem_of_getElem? (i := 581) (by decide +kernel)) rfl
theorem hw582 : Cond.methodLink RL 53 yX4_keyAt ∈ sT := sT_of (List.mem_of_getElem? (i := 582) (by decide +kernel)) rfl
theorem hw583 : Cond.instanceMethod yX4_keyAt ∈ sT := sT_of (List.mem_of_getElem? (i := 583) (by decide +kernel)) rfl
theorem hw584 : Cond.selects RX4 yX4_keyAt yX4_keyAt ∈ sT := sT_of (List.mem_of_getElem? (i := 584) (by decide +kernel)) rfl
theorem hw585 : Cond.code yX4_keyAt cX4_keyAt 5 (some .int) ∈ sT := sT_of (List.mem_of_getElem? (i := 585) (by decide +kernel)) rfl
theorem hw587 : Cond.methodLink RL 178 yL_mark ∈ sT := sT_of (List.mem_of_getElem? (i := 587) (by decide +kernel)) rfl
theorem hw588 : Cond.static yL_mark ∈ sT := sT_of (List.mem_of_getElem? (i := 588) (by decide +kernel)) rfl
theorem hw589 : Cond.codeWith yL_mark cL_mark 4 (some .int) [(0, 9, 12, 13)] ∈ sT := sT_of (List.mem_of_getElem? (i := 589) (by decide +kernel)) rfl
theorem hw590 : Cond.methodLink RL 57 yX4_mark ∈ sT := sT_of (List.mem_of_getElem? (i := 590) (by decide +kernel)) rfl
theorem hw591 : Cond.instanceMethod yX4_mark ∈ sT := sT_of (List.mem_of_getElem? (i := 591) (by decide +kernel)) rfl
theorem hw592 : Cond.selects RX4 yX4_mark yX4_mark ∈ sT := sT_of (List.mem_of_getElem? (i := 592) (by decide +kernel)) rfl
theorem hw593 : Cond.code yX4_mark cX4_mark 5 (some .int) ∈ sT := sT_of (List.mem_of_getElem? (i := 593) (by decide +kernel)) rfl
theorem hw594 : Cond.methodLink RL 181 yL_isLike ∈ sT := sT_of (List.mem_of_getElem? (i := 594) (by decide +kernel)) rfl
theorem hw595 : Cond.static yL_isLike ∈ sT := sT_of (List.mem_of_getElem? (i := 595) (by decide +kernel)) rfl
theorem hw596 : Cond.codeWith yL_isLike cL_isLike 5 (some .int) [(0, 17, 20, 13)] ∈ sT := sT_of (List.mem_of_getElem? (i := 596) (by decide +kernel)) rfl
theorem hw597 : Cond.methodLink RL 60 yX4_isLike ∈ sT := sT_of (List.mem_of_getElem? (i := 597) (by decide +kernel)) rfl
theorem hw598 : Cond.instanceMethod yX4_isLike ∈ sT := sT_of (List.mem_of_getElem? (i := 598) (by decide +kernel)) rfl
theorem hw599 : Cond.selects RX4 yX4_isLike yX4_isLike ∈ sT := sT_of (List.mem_of_getElem? (i := 599) (by decide +kernel)) rfl
theorem hw600 : Cond.code yX4_isLike cX4_isLike 4 (some .boolean) ∈ sT := sT_of (List.mem_of_getElem? (i := 600) (by decide +kernel)) rfl
theorem hw601 : Cond.methodLink RX4 116 yX2_isSame ∈ sT := sT_of (List.mem_of_getElem? (i := 601) (by decide +kernel)) rfl
theorem hw602 : Cond.methodLink RL 184 yL_open ∈ sT := sT_of (List.mem_of_getElem? (i := 602) (by decide +kernel)) rfl
theorem hw603 : Cond.static yL_open ∈ sT := sT_of (List.mem_of_getElem? (i := 603) (by decide +kernel)) rfl
theorem hw604 : Cond.codeWith yL_open cL_open 9 (some .int) [(0, 18, 21, 13), (0, 18, 25, 30)] ∈ sT := sT_of (List.mem_of_getElem? (i := 604) (by decide +kernel)) rfl
theorem hw605 : Cond.methodLink RL 64 yX4_open ∈ sT := sT_of (List.mem_of_getElem? (i := 605) (by decide +kernel)) rfl
theorem hw606 : Cond.instanceMethod yX4_open ∈ sT := sT_of (List.mem_of_getElem? (i := 606) (by decide +kernel)) rfl
theorem hw607 : Cond.selects RX4 yX4_open yX4_open ∈ sT := sT_of (List.mem_of_getElem? (i := 607) (by decide +kernel)) rfl
theorem hw608 : Cond.code yX4_open cX4_open 9 (some .int) ∈ sT := sT_of (List.mem_of_getElem? (i := 608) (by decide +kernel)) rfl
theorem hw609 : Cond.methodLink RX4 120 yX4_viewAt ∈ sT := sT_of (List.mem_of_getElem? (i := 609) (by decide +kernel)) rfl
theorem hw611 : Cond.instanceMethod yX4_viewAt ∈ sT := sT_of (List.mem_of_getElem? (i := 611) (by decide +kernel)) rfl
theorem hw612 : Cond.code yX4_viewAt cX4_viewAt 2 (some (.object "Spanwarden$View")) ∈ sT := sT_of (List.mem_of_getElem? (i := 612) (by decide +kernel)) rfl
theorem hw615 : Cond.methodLink RX4 126 yX3_becomeSpan ∈ sT := sT_of (List.mem_of_getElem? (i := 615) (by decide +kernel)) rfl
theorem hw616 : Cond.instanceMethod yX3_becomeSpan ∈ sT := sT_of (List.mem_of_getElem? (i := 616) (by decide +kernel)) rfl
theorem hw617 : Cond.selects RX3 yX3_becomeSpan yX3_becomeSpan ∈ sT := sT_of (List.mem_of_getElem? (i := 617) (by decide +kernel)) rfl
theorem hw618 : Cond.code yX3_becomeSpan cX3_becomeSpan 6 none ∈ sT := sT_of (List.mem_of_getElem? (i := 618) (by decide +kernel)) rfl
theorem hw619 : Cond.methodLink RX4 130 yX3_countEntries ∈ sT := sT_of (List.mem_of_getElem? (i := 619) (by decide +kernel)) rfl
theorem hw620 : Cond.methodLink RL 188 yL_cut ∈ sT := sT_of (List.mem_of_getElem? (i := 620) (by decide +kernel)) rfl
theorem hw621 : Cond.static yL_cut ∈ sT := sT_of (List.mem_of_getElem? (i := 621) (by decide +kernel)) rfl
theorem hw622 : Cond.codeWith yL_cut cL_cut 8 (some .int) [(0, 16, 19, 13), (0, 16, 23, 21), (0, 16, 27, 30), (0, 16, 31, 15)] ∈ sT := sT_of (List.mem_of_getElem? (i := 622) (by decide +kernel)) rfl
theorem hw623 : Cond.methodLink RL 68 yX4_cut ∈ sT := sT_of (List.mem_of_getElem? (i := 623) (by decide +kernel)) rfl
theorem hw624 : Cond.instanceMethod yX4_cut ∈ sT := sT_of (List.mem_of_getElem? (i := 624) (by decide +kernel)) rfl
theorem hw625 : Cond.selects RX4 yX4_cut yX4_cut ∈ sT := sT_of (List.mem_of_getElem? (i := 625) (by decide +kernel)) rfl
theorem hw626 : Cond.code yX4_cut cX4_cut 8 (some .int) ∈ sT := sT_of (List.mem_of_getElem? (i := 626) (by decide +kernel)) rfl
theorem hw627 : Cond.methodLink RX4 134 yX4_refuseClosed ∈ sT := sT_of (List.mem_of_getElem? (i := 627) (by decide +kernel)) rfl
theorem hw628 : Cond.static yX4_refuseClosed ∈ sT := sT_of (List.mem_of_getElem? (i := 628) (by decide +kernel)) rfl
theorem hw629 : Cond.code yX4_refuseClosed cX4_refuseClosed 1 none ∈ sT := sT_of (List.mem_of_getElem? (i := 629) (by decide +kernel)) rfl
theorem hw631 : Cond.methodLink RX4 138 yX3_covers ∈ sT := sT_of (List.mem_of_getElem? (i := 631) (by decide +kernel)) rfl
theorem hw634 : Cond.methodLink RX4 151 yX3_becomeCut ∈ sT := sT_of (List.mem_of_getElem? (i := 634) (by decide +kernel)) rfl
theorem hw635 : Cond.instanceMethod yX3_becomeCut ∈ sT := sT_of (List.mem_of_getElem? (i := 635) (by decide +kernel)) rfl
theorem hw636 : Cond.selects RX3 yX3_becomeCut yX3_becomeCut ∈ sT := sT_of (List.mem_of_getElem? (i := 636) (by decide +kernel)) rfl
theorem hw637 : Cond.code yX3_becomeCut cX3_becomeCut 5 none ∈ sT := sT_of (List.mem_of_getElem? (i := 637) (by decide +kernel)) rfl
theorem hw638 : Cond.methodLink RL 192 yL_viewPut ∈ sT := sT_of (List.mem_of_getElem? (i := 638) (by decide +kernel)) rfl
theorem hw639 : Cond.static yL_viewPut ∈ sT := sT_of (List.mem_of_getElem? (i := 639) (by decide +kernel)) rfl
theorem hw640 : Cond.codeWith yL_viewPut cL_viewPut 6 (some .int) [(0, 12, 15, 13), (0, 12, 19, 21), (0, 12, 23, 30), (0, 12, 27, 15)] ∈ sT := sT_of (List.mem_of_getElem? (i := 640) (by decide +kernel)) rfl
theorem hw641 : Cond.methodLink RL 72 yX4_viewPut ∈ sT := sT_of (List.mem_of_getElem? (i := 641) (by decide +kernel)) rfl
theorem hw642 : Cond.instanceMethod yX4_viewPut ∈ sT := sT_of (List.mem_of_getElem? (i := 642) (by decide +kernel)) rfl
theorem hw643 : Cond.selects RX4 yX4_viewPut yX4_viewPut ∈ sT := sT_of (List.mem_of_getElem? (i := 643) (by decide +kernel)) rfl
theorem hw644 : Cond.code yX4_viewPut cX4_viewPut 6 (some .int) ∈ sT := sT_of (List.mem_of_getElem? (i := 644) (by decide +kernel)) rfl
theorem hw645 : Cond.methodLink RX4 155 yX4_sourceOf ∈ sT := sT_of (List.mem_of_getElem? (i := 645) (by decide +kernel)) rfl
theorem hw646 : Cond.static yX4_sourceOf ∈ sT := sT_of (List.mem_of_getElem? (i := 646) (by decide +kernel)) rfl
theorem hw647 : Cond.code yX4_sourceOf cX4_sourceOf 1 (some (.object "Spanwarden$Table")) ∈ sT := sT_of (List.mem_of_getElem? (i := 647) (by decide +kernel)) rfl
theorem hw649 : Cond.methodLink RL 195 yL_viewRemove ∈ sT := sT_of (List.mem_of_getElem? (i := 649) (by decide +kernel)) rfl
theorem hw650 : Cond.static yL_viewRemove ∈ sT := sT_of (List.mem_of_getElem? (i := 650) (by decide +kernel)) rfl
theorem hw651 : Cond.codeWith yL_viewRemove cL_viewRemove 5 (some .int) [(0, 17, 20, 13), (0, 17, 24, 21)] ∈ sT := sT_of (List.mem_of_getElem? (i := 651) (by decide +kernel)) rfl
theorem hw652 : Cond.methodLink RL 75 yX4_viewRemove ∈ sT := sT_of (List.mem_of_getElem? (i := 652) (by decide +kernel)) rfl
theorem hw653 : Cond.instanceMethod yX4_viewRemove ∈ sT := sT_of (List.mem_of_getElem? (i := 653) (by decide +kernel)) rfl
theorem hw654 : Cond.selects RX4 yX4_viewRemove yX4_viewRemove ∈ sT := sT_of (List.mem_of_getElem? (i := 654) (by decide +kernel)) rfl
theorem hw655 : Cond.code yX4_viewRemove cX4_viewRemove 5 (some .boolean) ∈ sT := sT_of (List.mem_of_getElem? (i := 655) (by decide +kernel)) rfl
theorem hw656 : Cond.methodLink RL 198 yL_viewNear ∈ sT := sT_of (List.mem_of_getElem? (i := 656) (by decide +kernel)) rfl
theorem hw657 : Cond.static yL_viewNear ∈ sT := sT_of (List.mem_of_getElem? (i := 657) (by decide +kernel)) rfl
theorem hw658 : Cond.codeWith yL_viewNear cL_viewNear 6 (some .int) [(0, 12, 15, 13), (0, 12, 19, 30), (0, 12, 23, 21)] ∈ sT := sT_of (List.mem_of_getElem? (i := 658) (by decide +kernel)) rfl
theorem hw659 : Cond.methodLink RL 78 yX4_viewNear ∈ sT := sT_of (List.mem_of_getElem? (i := 659) (by decide +kernel)) rfl
theorem hw660 : Cond.instanceMethod yX4_viewNear ∈ sT := sT_of (List.mem_of_getElem? (i := 660) (by decide +kernel)) rfl
theorem hw661 : Cond.selects RX4 yX4_viewNear yX4_viewNear ∈ sT := sT_of (List.mem_of_getElem? (i := 661) (by decide +kernel)) rfl
theorem hw662 : Cond.code yX4_viewNear cX4_viewNear 7 (some .int) ∈ sT := sT_of (List.mem_of_getElem? (i := 662) (by decide +kernel)) rfl
theorem hw663 : Cond.methodLink RX4 161 yX3_beginIn ∈ sT := sT_of (List.mem_of_getElem? (i := 663) (by decide +kernel)) rfl
theorem hw664 : Cond.methodLink RX4 165 yX3_stopIn ∈ sT := sT_of (List.mem_of_getElem? (i := 664) (by decide +kernel)) rfl
theorem hw666 : Cond.methodLink RL 201 yL_viewEnd ∈ sT := sT_of (List.mem_of_getElem? (i := 666) (by decide +kernel)) rfl
theorem hw667 : Cond.static yL_viewEnd ∈ sT := sT_of (List.mem_of_getElem? (i := 667) (by decide +kernel)) rfl
theorem hw668 : Cond.codeWith yL_viewEnd cL_viewEnd 5 (some .int) [(0, 10, 13, 13), (0, 10, 17, 21)] ∈ sT := sT_of (List.mem_of_getElem? (i := 668) (by decide +kernel)) rfl
theorem hw669 : Cond.methodLink RL 81 yX4_viewEnd ∈ sT := sT_of (List.mem_of_getElem? (i := 669) (by decide +kernel)) rfl
theorem hw670 : Cond.instanceMethod yX4_viewEnd ∈ sT := sT_of (List.mem_of_getElem? (i := 670) (by decide +kernel)) rfl
theorem hw671 : Cond.selects RX4 yX4_viewEnd yX4_viewEnd ∈ sT := sT_of (List.mem_of_getElem? (i := 671) (by decide +kernel)) rfl
theorem hw672 : Cond.code yX4_viewEnd cX4_viewEnd 5 (some .int) ∈ sT := sT_of (List.mem_of_getElem? (i := 672) (by decide +kernel)) rfl
theorem hw673 : Cond.methodLink RL 204 yL_viewPoll ∈ sT := sT_of (List.mem_of_getElem? (i := 673) (by decide +kernel)) rfl
theorem hw674 : Cond.static yL_viewPoll ∈ sT := sT_of (List.mem_of_getElem? (i := 674) (by decide +kernel)) rfl
theorem hw675 : Cond.codeWith yL_viewPoll cL_viewPoll 5 (some .int) [(0, 10, 13, 13), (0, 10, 17, 21)] ∈ sT := sT_of (List.mem_of_getElem? (i := 675) (by decide +kernel)) rfl
theorem hw676 : Cond.methodLink RL 84 yX4_viewPoll ∈ sT := sT_of (List.mem_of_getElem? (i := 676) (by decide +kernel)) rfl
theorem hw677 : Cond.instanceMethod yX4_viewPoll ∈ sT := sT_of (List.mem_of_getElem? (i := 677) (by decide +kernel)) rfl
theorem hw678 : Cond.selects RX4 yX4_viewPoll yX4_viewPoll ∈ sT := sT_of (List.mem_of_getElem? (i := 678) (by decide +kernel)) rfl
theorem hw679 : Cond.code yX4_viewPoll cX4_viewPoll 5 (some .int) ∈ sT := sT_of (List.mem_of_getElem? (i := 679) (by decide +kernel)) rfl
theorem hw680 : Cond.methodLink RL 207 yL_viewClear ∈ sT := sT_of (List.mem_of_getElem? (i := 680) (by decide +kernel)) rfl
theorem hw681 : Cond.static yL_viewClear ∈ sT := sT_of (List.mem_of_getElem? (i := 681) (by decide +kernel)) rfl
theorem hw682 : Cond.codeWith yL_viewClear cL_viewClear 4 (some .int) [(0, 9, 12, 13), (0, 9, 15, 21)] ∈ sT := sT_of (List.mem_of_getElem? (i := 682) (by decide +kernel)) rfl
theorem hw683 : Cond.methodLink RL 87 yX4_viewClear ∈ sT := sT_of (List.mem_of_getElem? (i := 683) (by decide +kernel)) rfl
theorem hw684 : Cond.instanceMethod yX4_viewClear ∈ sT := sT_of (List.mem_of_getElem? (i := 684) (by decide +kernel)) rfl
theorem hw685 : Cond.selects RX4 yX4_viewClear yX4_viewClear ∈ sT := sT_of (List.mem_of_getElem? (i := 685) (by decide +kernel)) rfl
theorem hw686 : Cond.code yX4_viewClear cX4_viewClear 5 (some .int) ∈ sT := sT_of (List.mem_of_getElem? (i := 686) (by decide +kernel)) rfl
theorem hw687 : Cond.methodLink RL 210 yL_viewSize ∈ sT := sT_of (List.mem_of_getElem? (i := 687) (by decide +kernel)) rfl
theorem hw688 : Cond.static yL_viewSize ∈ sT := sT_of (List.mem_of_getElem? (i := 688) (by decide +kernel)) rfl
theorem hw689 : Cond.codeWith yL_viewSize cL_viewSize 4 (some .int) [(0, 9, 12, 13)] ∈ sT := sT_of (List.mem_of_getElem? (i := 689) (by decide +kernel)) rfl
theorem hw690 : Cond.methodLink RL 90 yX4_viewSize ∈ sT := sT_of (List.mem_of_getElem? (i := 690) (by decide +kernel)) rfl
theorem hw691 : Cond.instanceMethod yX4_viewSize ∈ sT := sT_of (List.mem_of_getElem? (i := 691) (by decide +kernel)) rfl
theorem hw692 : Cond.selects RX4 yX4_viewSize yX4_viewSize ∈ sT := sT_of (List.mem_of_getElem? (i := 692) (by decide +kernel)) rfl
theorem hw693 : Cond.code yX4_viewSize cX4_viewSize 2 (some .int) ∈ sT := sT_of (List.mem_of_getElem? (i := 693) (by decide +kernel)) rfl
theorem hw694 : Cond.methodLink RL 213 yL_lies ∈ sT := sT_of (List.mem_of_getElem? (i := 694) (by decide +kernel)) rfl
theorem hw695 : Cond.static yL_lies ∈ sT := sT_of (List.mem_of_getElem? (i := 695) (by decide +kernel)) rfl
theorem hw696 : Cond.codeWith yL_lies cL_lies 5 (some .int) [(0, 17, 20, 13), (0, 17, 24, 21)] ∈ sT := sT_of (List.mem_of_getElem? (i := 696) (by decide +kernel)) rfl
theorem hw697 : Cond.methodLink RL 93 yX4_lies ∈ sT := sT_of (List.mem_of_getElem? (i := 697) (by decide +kernel)) rfl
theorem hw698 : Cond.instanceMethod yX4_lies ∈ sT := sT_of (List.mem_of_getElem? (i := 698) (by decide +kernel)) rfl
theorem hw699 : Cond.selects RX4 yX4_lies yX4_lies ∈ sT := sT_of (List.mem_of_getElem? (i := 699) (by decide +kernel)) rfl
theorem hw700 : Cond.code yX4_lies cX4_lies 4 (some .boolean) ∈ sT := sT_of (List.mem_of_getElem? (i := 700) (by decide +kernel)) rfl
theorem hw701 : Cond.methodLink RL 216 yL_step ∈ sT := sT_of (List.mem_of_getElem? (i := 701) (by decide +kernel)) rfl
theorem hw702 : Cond.static yL_step ∈ sT := sT_of (List.mem_of_getElem? (i := 702) (by decide +kernel)) rfl
theorem hw703 : Cond.codeWith yL_step cL_step 7 (some .int) [(0, 14, 17, 13), (0, 14, 21, 30), (0, 14, 25, 15)] ∈ sT := sT_of (List.mem_of_getElem? (i := 703) (by decide +kernel)) rfl
theorem hw704 : Cond.methodLink RL 96 yX4_step ∈ sT := sT_of (List.mem_of_getElem? (i := 704) (by decide +kernel)) rfl
theorem hw705 : Cond.instanceMethod yX4_step ∈ sT := sT_of (List.mem_of_getElem? (i := 705) (by decide +kernel)) rfl
theorem hw706 : Cond.selects RX4 yX4_step yX4_step ∈ sT := sT_of (List.mem_of_getElem? (i := 706) (by decide +kernel)) rfl
theorem hw707 : Cond.code yX4_step cX4_step 6 (some .int) ∈ sT := sT_of (List.mem_of_getElem? (i := 707) (by decide +kernel)) rfl
theorem hw708 : Cond.methodLink RX4 174 yX4_historyAt ∈ sT := sT_of (List.mem_of_getElem? (i := 708) (by decide +kernel)) rfl
theorem hw710 : Cond.instanceMethod yX4_historyAt ∈ sT := sT_of (List.mem_of_getElem? (i := 710) (by decide +kernel)) rfl
theorem hw711 : Cond.code yX4_historyAt cX4_historyAt 2 (some (.object "Spanwarden$History")) ∈ sT := sT_of (List.mem_of_getElem? (i := 711) (by decide +kernel)) rfl
theorem hw713 : Cond.methodLink RX4 178 yX4_isStepKind ∈ sT := sT_of (List.mem_of_getElem? (i := 713) (by decide +kernel)) rfl
theorem hw714 : Cond.static yX4_isStepKind ∈ sT := sT_of (List.mem_of_getElem? (i := 714) (by decide +kernel)) rfl
theorem hw715 : Cond.code yX4_isStepKind cX4_isStepKind 1 (some .boolean) ∈ sT := sT_of (List.mem_of_getElem? (i := 715) (by decide +kernel)) rfl
theorem hw718 : Cond.methodLink RX4 186 yX1_add ∈ sT := sT_of (List.mem_of_getElem? (i := 718) (by decide +kernel)) rfl
theorem hw719 : Cond.methodLink RL 220 yL_forget ∈ sT := sT_of (List.mem_of_getElem? (i := 719) (by decide +kernel)) rfl
theorem hw720 : Cond.static yL_forget ∈ sT := sT_of (List.mem_of_getElem? (i := 720) (by decide +kernel)) rfl
theorem hw721 : Cond.codeWith yL_forget cL_forget 4 (some .int) [(0, 9, 12, 13)] ∈ sT := sT_of (List.mem_of_getElem? (i := 721) (by decide +kernel)) rfl
theorem hw722 : Cond.methodLink RL 100 yX4_forget ∈ sT := sT_of (List.mem_of_getElem? (i := 722) (by decide +kernel)) rfl
theorem hw723 : Cond.instanceMethod yX4_forget ∈ sT := sT_of (List.mem_of_getElem? (i := 723) (by decide +kernel)) rfl
theorem hw724 : Cond.selects RX4 yX4_forget yX4_forget ∈ sT := sT_of (List.mem_of_getElem? (i := 724) (by decide +kernel)) rfl
theorem hw725 : Cond.code yX4_forget cX4_forget 4 (some .int) ∈ sT := sT_of (List.mem_of_getElem? (i := 725) (by decide +kernel)) rfl
theorem hw726 : Cond.methodLink RL 223 yL_play ∈ sT := sT_of (List.mem_of_getElem? (i := 726) (by decide +kernel)) rfl
theorem hw727 : Cond.static yL_play ∈ sT := sT_of (List.mem_of_getElem? (i := 727) (by decide +kernel)) rfl
theorem hw728 : Cond.codeWith yL_play cL_play 5 (some .int) [(0, 10, 13, 13), (0, 10, 17, 15)] ∈ sT := sT_of (List.mem_of_getElem? (i := 728) (by decide +kernel)) rfl
theorem hw729 : Cond.methodLink RL 103 yX4_play ∈ sT := sT_of (List.mem_of_getElem? (i := 729) (by decide +kernel)) rfl
theorem hw730 : Cond.instanceMethod yX4_play ∈ sT := sT_of (List.mem_of_getElem? (i := 730) (by decide +kernel)) rfl
theorem hw731 : Cond.selects RX4 yX4_play yX4_play ∈ sT := sT_of (List.mem_of_getElem? (i := 731) (by decide +kernel)) rfl
theorem hw732 : Cond.code yX4_play cX4_play 5 (some .int) ∈ sT := sT_of (List.mem_of_getElem? (i := 732) (by decide +kernel)) rfl
theorem hw733 : Cond.methodLink RX4 190 yX0_hasRoom ∈ sT := sT_of (List.mem_of_getElem? (i := 733) (by decide +kernel)) rfl
theorem hw734 : Cond.instanceMethod yX0_hasRoom ∈ sT := sT_of (List.mem_of_getElem? (i := 734) (by decide +kernel)) rfl
theorem hw735 : Cond.selects RX0 yX0_hasRoom yX0_hasRoom ∈ sT := sT_of (List.mem_of_getElem? (i := 735) (by decide +kernel)) rfl
theorem hw736 : Cond.code yX0_hasRoom cX0_hasRoom 4 (some .boolean) ∈ sT := sT_of (List.mem_of_getElem? (i := 736) (by decide +kernel)) rfl
theorem hw737 : Cond.methodLink RX0 43 yX2_countMissingIn ∈ sT := sT_of (List.mem_of_getElem? (i := 737) (by decide +kernel)) rfl
theorem hw738 : Cond.instanceMethod yX2_countMissingIn ∈ sT := sT_of (List.mem_of_getElem? (i := 738) (by decide +kernel)) rfl
theorem hw739 : Cond.selects RX2 yX2_countMissingIn yX2_countMissingIn ∈ sT := sT_of (List.mem_of_getElem? (i := 739) (by decide +kernel)) rfl
theorem hw740 : Cond.code yX2_countMissingIn cX2_countMissingIn 4 (some .int) ∈ sT := sT_of (List.mem_of_getElem? (i := 740) (by decide +kernel)) rfl
theorem hw742 : Cond.methodLink RX4 196 yX1_playOn ∈ sT := sT_of (List.mem_of_getElem? (i := 742) (by decide +kernel)) rfl
theorem hw743 : Cond.methodLink RL 226 yL_playBoth ∈ sT := sT_of (List.mem_of_getElem? (i := 743) (by decide +kernel)) rfl
theorem hw744 : Cond.static yL_playBoth ∈ sT := sT_of (List.mem_of_getElem? (i := 744) (by decide +kernel)) rfl
theorem hw745 : Cond.codeWith yL_playBoth cL_playBoth 7 (some .int) [(0, 14, 17, 13), (0, 14, 21, 15)] ∈ sT := sT_of (List.mem_of_getElem? (i := 745) (by decide +kernel)) rfl
theorem hw746 : Cond.methodLink RL 106 yX4_playBoth ∈ sT := sT_of (List.mem_of_getElem? (i := 746) (by decide +kernel)) rfl
theorem hw747 : Cond.instanceMethod yX4_playBoth ∈ sT := sT_of (List.mem_of_getElem? (i := 747) (by decide +kernel)) rfl
theorem hw748 : Cond.selects RX4 yX4_playBoth yX4_playBoth ∈ sT := sT_of (List.mem_of_getElem? (i := 748) (by decide +kernel)) rfl
theorem hw749 : Cond.code yX4_playBoth cX4_playBoth 8 (some .int) ∈ sT := sT_of (List.mem_of_getElem? (i := 749) (by decide +kernel)) rfl
theorem hw751 : Cond.methodLink RX4 201 yX4_playByTurns ∈ sT := sT_of (List.mem_of_getElem? (i := 751) (by decide +kernel)) rfl
theorem hw752 : Cond.static yX4_playByTurns ∈ sT := sT_of (List.mem_of_getElem? (i := 752) (by decide +kernel)) rfl
theorem hw753 : Cond.code yX4_playByTurns cX4_playByTurns 9 none ∈ sT := sT_of (List.mem_of_getElem? (i := 753) (by decide +kernel)) rfl
theorem hw754 : Cond.methodLink RX4 298 yX1_doStep ∈ sT := sT_of (List.mem_of_getElem? (i := 754) (by decide +kernel)) rfl
theorem hw755 : Cond.instanceMethod yX1_doStep ∈ sT := sT_of (List.mem_of_getElem? (i := 755) (by decide +kernel)) rfl
theorem hw756 : Cond.selects RX1 yX1_doStep yX1_doStep ∈ sT := sT_of (List.mem_of_getElem? (i := 756) (by decide +kernel)) rfl
theorem hw757 : Cond.code yX1_doStep cX1_doStep 3 none ∈ sT := sT_of (List.mem_of_getElem? (i := 757) (by decide +kernel)) rfl
theorem hw758 : Cond.methodLink RL 230 yL_meet ∈ sT := sT_of (List.mem_of_getElem? (i := 758) (by decide +kernel)) rfl
theorem hw759 : Cond.static yL_meet ∈ sT := sT_of (List.mem_of_getElem? (i := 759) (by decide +kernel)) rfl
theorem hw760 : Cond.codeWith yL_meet cL_meet 5 (some .int) [(0, 10, 13, 13)] ∈ sT := sT_of (List.mem_of_getElem? (i := 760) (by decide +kernel)) rfl
theorem hw761 : Cond.methodLink RL 110 yX4_meet ∈ sT := sT_of (List.mem_of_getElem? (i := 761) (by decide +kernel)) rfl
theorem hw762 : Cond.instanceMethod yX4_meet ∈ sT := sT_of (List.mem_of_getElem? (i := 762) (by decide +kernel)) rfl
theorem hw763 : Cond.selects RX4 yX4_meet yX4_meet ∈ sT := sT_of (List.mem_of_getElem? (i := 763) (by decide +kernel)) rfl
theorem hw764 : Cond.code yX4_meet cX4_meet 4 (some .int) ∈ sT := sT_of (List.mem_of_getElem? (i := 764) (by decide +kernel)) rfl
theorem hw765 : Cond.methodLink RX4 205 yX0_countCommonKeys ∈ sT := sT_of (List.mem_of_getElem? (i := 765) (by decide +kernel)) rfl
theorem hw766 : Cond.methodLink RL 233 yL_opposite ∈ sT := sT_of (List.mem_of_getElem? (i := 766) (by decide +kernel)) rfl
theorem hw767 : Cond.static yL_opposite ∈ sT := sT_of (List.mem_of_getElem? (i := 767) (by decide +kernel)) rfl
theorem hw768 : Cond.codeWith yL_opposite cL_opposite 6 (some .int) [(0, 12, 15, 13)] ∈ sT := sT_of (List.mem_of_getElem? (i := 768) (by decide +kernel)) rfl
theorem hw769 : Cond.methodLink RL 113 yX4_opposite ∈ sT := sT_of (List.mem_of_getElem? (i := 769) (by decide +kernel)) rfl
theorem hw770 : Cond.instanceMethod yX4_opposite ∈ sT := sT_of (List.mem_of_getElem? (i := 770) (by decide +kernel)) rfl
theorem hw771 : Cond.selects RX4 yX4_opposite yX4_opposite ∈ sT := sT_of (List.mem_of_getElem? (i := 771) (by decide +kernel)) rfl
theorem hw772 : Cond.code yX4_opposite cX4_opposite 7 (some .int) ∈ sT := sT_of (List.mem_of_getElem? (i := 772) (by decide +kernel)) rfl
theorem hw773 : Cond.methodLink RX4 209 yX0_turnRound ∈ sT := sT_of (List.mem_of_getElem? (i := 773) (by decide +kernel)) rfl
theorem hw774 : Cond.methodLink RL 236 yL_combine ∈ sT := sT_of (List.mem_of_getElem? (i := 774) (by decide +kernel)) rfl
theorem hw775 : Cond.static yL_combine ∈ sT := sT_of (List.mem_of_getElem? (i := 775) (by decide +kernel)) rfl
theorem hw776 : Cond.codeWith yL_combine cL_combine 6 (some .int) [(0, 12, 15, 13), (0, 12, 19, 30), (0, 12, 23, 15)] ∈ sT := sT_of (List.mem_of_getElem? (i := 776) (by decide +kernel)) rfl
theorem hw777 : Cond.methodLink RL 116 yX4_combine ∈ sT := sT_of (List.mem_of_getElem? (i := 777) (by decide +kernel)) rfl
theorem hw778 : Cond.instanceMethod yX4_combine ∈ sT := sT_of (List.mem_of_getElem? (i := 778) (by decide +kernel)) rfl
theorem hw779 : Cond.selects RX4 yX4_combine yX4_combine ∈ sT := sT_of (List.mem_of_getElem? (i := 779) (by decide +kernel)) rfl
theorem hw780 : Cond.code yX4_combine cX4_combine 6 (some .int) ∈ sT := sT_of (List.mem_of_getElem? (i := 780) (by decide +kernel)) rfl
theorem hw781 : Cond.methodLink RX4 213 yX4_isMixWay ∈ sT := sT_of (List.mem_of_getElem? (i := 781) (by decide +kernel)) rfl
theorem hw782 : Cond.static yX4_isMixWay ∈ sT := sT_of (List.mem_of_getElem? (i := 782) (by decide +kernel)) rfl
theorem hw783 : Cond.code yX4_isMixWay cX4_isMixWay 1 (some .boolean) ∈ sT := sT_of (List.mem_of_getElem? (i := 783) (by decide +kernel)) rfl
theorem hw785 : Cond.methodLink RX4 218 yX2_countMissingIn ∈ sT := sT_of (List.mem_of_getElem? (i := 785) (by decide +kernel)) rfl
theorem hw787 : Cond.methodLink RX4 223 yX2_takeIn ∈ sT := sT_of (List.mem_of_getElem? (i := 787) (by decide +kernel)) rfl
theorem hw788 : Cond.methodLink RL 239 yL_fullShare ∈ sT := sT_of (List.mem_of_getElem? (i := 788) (by decide +kernel)) rfl
theorem hw789 : Cond.static yL_fullShare ∈ sT := sT_of (List.mem_of_getElem? (i := 789) (by decide +kernel)) rfl
theorem hw790 : Cond.codeWith yL_fullShare cL_fullShare 4 (some .int) [(0, 9, 12, 13)] ∈ sT := sT_of (List.mem_of_getElem? (i := 790) (by decide +kernel)) rfl
theorem hw791 : Cond.methodLink RL 119 yX4_fullShare ∈ sT := sT_of (List.mem_of_getElem? (i := 791) (by decide +kernel)) rfl
theorem hw792 : Cond.instanceMethod yX4_fullShare ∈ sT := sT_of (List.mem_of_getElem? (i := 792) (by decide +kernel)) rfl
theorem hw793 : Cond.selects RX4 yX4_fullShare yX4_fullShare ∈ sT := sT_of (List.mem_of_getElem? (i := 793) (by decide +kernel)) rfl
theorem hw794 : Cond.code yX4_fullShare cX4_fullShare 2 (some .float) ∈ sT := sT_of (List.mem_of_getElem? (i := 794) (by decide +kernel)) rfl
theorem hw795 : Cond.constantFloat RX4 227 1114636288 ∈ sT := sT_of (List.mem_of_getElem? (i := 795) (by decide +kernel)) rfl
theorem hw796 : Cond.methodLink RL 243 yL_meanKey ∈ sT := sT_of (List.mem_of_getElem? (i := 796) (by decide +kernel)) rfl
theorem hw797 : Cond.static yL_meanKey ∈ sT := sT_of (List.mem_of_getElem? (i := 797) (by decide +kernel)) rfl
theorem hw798 : Cond.codeWith yL_meanKey cL_meanKey 4 (some .int) [(0, 8, 11, 13), (0, 8, 14, 127)] ∈ sT := sT_of (List.mem_of_getElem? (i := 798) (by decide +kernel)) rfl
theorem hw799 : Cond.classLink RL 127 "java/lang/ArithmeticException" ∈ sT := sT_of (List.mem_of_getElem? (i := 799) (by decide +kernel)) rfl
theorem hw813 : Cond.methodLink RL 123 yX4_meanKey ∈ sT := sT_of (List.mem_of_getElem? (i := 813) (by decide +kernel)) rfl
theorem hw814 : Cond.instanceMethod yX4_meanKey ∈ sT := sT_of (List.mem_of_getElem? (i := 814) (by decide +kernel)) rfl
theorem hw815 : Cond.selects RX4 yX4_meanKey yX4_meanKey ∈ sT := sT_of (List.mem_of_getElem? (i := 815) (by decide +kernel)) rfl
theorem hw816 : Cond.code yX4_meanKey cX4_meanKey 6 (some .double) ∈ sT := sT_of (List.mem_of_getElem? (i := 816) (by decide +kernel)) rfl
theorem hw817 : Cond.classLink RX4 228 "java/lang/ArithmeticException" ∈ sT := sT_of (List.mem_of_getElem? (i := 817) (by decide +kernel)) rfl
theorem hw826 : Cond.fieldLink RX5 7 RX5 (TX5 0).2.1 (TX5 0).2.2.1 ∈ sT := sT_of (List.mem_of_getElem? (i := 826) (by decide +kernel)) rfl
theorem hw827 : Cond.fieldLink RX5 13 RX5 (TX5 1).2.1 (TX5 1).2.2.1 ∈ sT := sT_of (List.mem_of_getElem? (i := 827) (by decide +kernel)) rfl
theorem hw828 : Cond.fieldLink RX5 16 RX5 (TX5 2).2.1 (TX5 2).2.2.1 ∈ sT := sT_of (List.mem_of_getElem? (i := 828) (by decide +kernel)) rfl
theorem hw829 : Cond.fieldLink RX5 19 RX5 (TX5 3).2.1 (TX5 3).2.2.1 ∈ sT := sT_of (List.mem_of_getElem? (i := 829) (by decide +kernel)) rfl
theorem hw830 : Cond.fieldLink RX5 23 RX5 (TX5 4).2.1 (TX5 4).2.2.1 ∈ sT := sT_of (List.mem_of_getElem? (i := 830) (by decide +kernel)) rfl
theorem hw831 : Cond.fieldLink RX5 26 RX5 (TX5 5).2.1 (TX5 5).2.2.1 ∈ sT := sT_of (List.mem_of_getElem? (i := 831) (by decide +kernel)) rfl
theorem hw832 : Cond.fieldLink RX5 29 RX5 (TX5 6).2.1 (TX5 6).2.2.1 ∈ sT := sT_of (List.mem_of_getElem? (i := 832) (by decide +kernel)) rfl
theorem hw833 : Cond.fieldLink RX5 32 RX5 (TX5 7).2.1 (TX5 7).2.2.1 ∈ sT := sT_of (List.mem_of_getElem? (i := 833) (by decide +kernel)) rfl
theorem hw834 : Cond.fieldLink RX5 35 RX5 (TX5 8).2.1 (TX5 8).2.2.1 ∈ sT := sT_of (List.mem_of_getElem? (i := 834) (by decide +kernel)) rfl
theorem hw835 : Cond.fieldLink RX5 38 RX5 (TX5 9).2.1 (TX5 9).2.2.1 ∈ sT := sT_of (List.mem_of_getElem? (i := 835) (by decide +kernel)) rfl
theorem hw836 : Cond.fieldLink RX5 41 RX5 (TX5 10).2.1 (TX5 10).2.2.1 ∈ sT := sT_of (List.mem_of_getElem? (i := 836) (by decide +kernel)) rfl
theorem hw837 : Cond.fieldLink RX5 45 RX5 (TX5 11).2.1 (TX5 11).2.2.1 ∈ sT := sT_of (List.mem_of_getElem? (i := 837) (by decide +kernel)) rfl
theorem hw838 : Cond.fieldLink RX5 48 RX5 (TX5 12).2.1 (TX5 12).2.2.1 ∈ sT := sT_of (List.mem_of_getElem? (i := 838) (by decide +kernel)) rfl
theorem hw839 : Cond.fieldLink RX5 51 RX5 (TX5 13).2.1 (TX5 13).2.2.1 ∈ sT := sT_of (List.mem_of_getElem? (i := 839) (by decide +kernel)) rfl
theorem hw840 : Cond.fieldLink RX5 54 RX5 (TX5 14).2.1 (TX5 14).2.2.1 ∈ sT := sT_of (List.mem_of_getElem? (i := 840) (by decide +kernel)) rfl
theorem hw841 : Cond.fieldLink RX5 143 RX5 (TX5 15).2.1 (TX5 15).2.2.1 ∈ sT := sT_of (List.mem_of_getElem? (i := 841) (by decide +kernel)) rfl
theorem hw842 : Cond.fieldLink RX5 57 RX5 (TX5 16).2.1 (TX5 16).2.2.1 ∈ sT := sT_of (List.mem_of_getElem? (i := 842) (by decide +kernel)) rfl
theorem hw843 : Cond.fieldLink RX5 113 RX5 (TX5 17).2.1 (TX5 17).2.2.1 ∈ sT := sT_of (List.mem_of_getElem? (i := 843) (by decide +kernel)) rfl
theorem hw844 : Cond.fieldLink RX5 72 RX5 (TX5 18).2.1 (TX5 18).2.2.1 ∈ sT := sT_of (List.mem_of_getElem? (i := 844) (by decide +kernel)) rfl
theorem hw845 : Cond.fieldLink RX5 76 RX5 (TX5 19).2.1 (TX5 19).2.2.1 ∈ sT := sT_of (List.mem_of_getElem? (i := 845) (by decide +kernel)) rfl
theorem hw846 : Cond.fieldLink RX5 60 RX5 (TX5 20).2.1 (TX5 20).2.2.1 ∈ sT := sT_of (List.mem_of_getElem? (i := 846) (by decide +kernel)) rfl
theorem hw891 : Cond.methodLink RL 139 yX5_thrown ∈ sT := sT_of (List.mem_of_getElem? (i := 891) (by decide +kernel)) rfl
theorem hw892 : Cond.instanceMethod yX5_thrown ∈ sT := sT_of (List.mem_of_getElem? (i := 892) (by decide +kernel)) rfl
theorem hw893 : Cond.selects RX5 yX5_thrown yX5_thrown ∈ sT := sT_of (List.mem_of_getElem? (i := 893) (by decide +kernel)) rfl
theorem hw894 : Cond.code yX5_thrown cX5_thrown 1 (some .int) ∈ sT := sT_of (List.mem_of_getElem? (i := 894) (by decide +kernel)) rfl
theorem hw895 : Cond.methodLink RL 138 yX5_put ∈ sT := sT_of (List.mem_of_getElem? (i := 895) (by decide +kernel)) rfl
theorem hw896 : Cond.instanceMethod yX5_put ∈ sT := sT_of (List.mem_of_getElem? (i := 896) (by decide +kernel)) rfl
theorem hw897 : Cond.selects RX5 yX5_put yX5_put ∈ sT := sT_of (List.mem_of_getElem? (i := 897) (by decide +kernel)) rfl
theorem hw898 : Cond.code yX5_put cX5_put 4 (some .int) ∈ sT := sT_of (List.mem_of_getElem? (i := 898) (by decide +kernel)) rfl
theorem hw899 : Cond.methodLink RX5 87 yX5_isMap ∈ sT := sT_of (List.mem_of_getElem? (i := 899) (by decide +kernel)) rfl
theorem hw900 : Cond.static yX5_isMap ∈ sT := sT_of (List.mem_of_getElem? (i := 900) (by decide +kernel)) rfl
theorem hw901 : Cond.code yX5_isMap cX5_isMap 1 (some .boolean) ∈ sT := sT_of (List.mem_of_getElem? (i := 901) (by decide +kernel)) rfl
theorem hw902 : Cond.methodLink RX5 64 yX5_in ∈ sT := sT_of (List.mem_of_getElem? (i := 902) (by decide +kernel)) rfl
theorem hw903 : Cond.static yX5_in ∈ sT := sT_of (List.mem_of_getElem? (i := 903) (by decide +kernel)) rfl
theorem hw904 : Cond.code yX5_in cX5_in 3 (some .boolean) ∈ sT := sT_of (List.mem_of_getElem? (i := 904) (by decide +kernel)) rfl
theorem hw905 : Cond.methodLink RX5 91 yX5_has ∈ sT := sT_of (List.mem_of_getElem? (i := 905) (by decide +kernel)) rfl
theorem hw907 : Cond.instanceMethod yX5_has ∈ sT := sT_of (List.mem_of_getElem? (i := 907) (by decide +kernel)) rfl
theorem hw908 : Cond.code yX5_has cX5_has 3 (some .boolean) ∈ sT := sT_of (List.mem_of_getElem? (i := 908) (by decide +kernel)) rfl
theorem hw909 : Cond.methodLink RX5 68 yX5_placeOf ∈ sT := sT_of (List.mem_of_getElem? (i := 909) (by decide +kernel)) rfl
theorem hw911 : Cond.instanceMethod yX5_placeOf ∈ sT := sT_of (List.mem_of_getElem? (i := 911) (by decide +kernel)) rfl
theorem hw912 : Cond.code yX5_placeOf cX5_placeOf 4 (some .int) ∈ sT := sT_of (List.mem_of_getElem? (i := 912) (by decide +kernel)) rfl
theorem hw913 : Cond.methodLink RX5 95 yX5_refused ∈ sT := sT_of (List.mem_of_getElem? (i := 913) (by decide +kernel)) rfl
theorem hw915 : Cond.instanceMethod yX5_refused ∈ sT := sT_of (List.mem_of_getElem? (i := 915) (by decide +kernel)) rfl
theorem hw916 : Cond.code yX5_refused cX5_refused 2 (some .boolean) ∈ sT := sT_of (List.mem_of_getElem? (i := 916) (by decide +kernel)) rfl
theorem hw917 : Cond.methodLink RX5 98 yX5_puts ∈ sT := sT_of (List.mem_of_getElem? (i := 917) (by decide +kernel)) rfl
theorem hw919 : Cond.instanceMethod yX5_puts ∈ sT := sT_of (List.mem_of_getElem? (i := 919) (by decide +kernel)) rfl
theorem hw920 : Cond.code yX5_puts cX5_puts 6 none ∈ sT := sT_of (List.mem_of_getElem? (i := 920) (by decide +kernel)) rfl
theorem hw921 : Cond.methodLink RL 145 yX5_value ∈ sT := sT_of (List.mem_of_getElem? (i := 921) (by decide +kernel)) rfl
theorem hw922 : Cond.instanceMethod yX5_value ∈ sT := sT_of (List.mem_of_getElem? (i := 922) (by decide +kernel)) rfl
theorem hw923 : Cond.selects RX5 yX5_value yX5_value ∈ sT := sT_of (List.mem_of_getElem? (i := 923) (by decide +kernel)) rfl
theorem hw924 : Cond.code yX5_value cX5_value 3 (some .int) ∈ sT := sT_of (List.mem_of_getElem? (i := 924) (by decide +kernel)) rfl
theorem hw925 : Cond.methodLink RL 148 yX5_remove ∈ sT := sT_of (List.mem_of_getElem? (i := 925) (by decide +kernel)) rfl
theorem hw926 : Cond.instanceMethod yX5_remove ∈ sT := sT_of (List.mem_of_getElem? (i := 926) (by decide +kernel)) rfl
theorem hw927 : Cond.selects RX5 yX5_remove yX5_remove ∈ sT := sT_of (List.mem_of_getElem? (i := 927) (by decide +kernel)) rfl
theorem hw928 : Cond.code yX5_remove cX5_remove 3 (some .int) ∈ sT := sT_of (List.mem_of_getElem? (i := 928) (by decide +kernel)) rfl
theorem hw929 : Cond.methodLink RX5 79 yX5_takes ∈ sT := sT_of (List.mem_of_getElem? (i := 929) (by decide +kernel)) rfl
theorem hw931 : Cond.instanceMethod yX5_takes ∈ sT := sT_of (List.mem_of_getElem? (i := 931) (by decide +kernel)) rfl
theorem hw932 : Cond.code yX5_takes cX5_takes 4 none ∈ sT := sT_of (List.mem_of_getElem? (i := 932) (by decide +kernel)) rfl
theorem hw933 : Cond.methodLink RL 152 yX5_near ∈ sT := sT_of (List.mem_of_getElem? (i := 933) (by decide +kernel)) rfl
theorem hw934 : Cond.instanceMethod yX5_near ∈ sT := sT_of (List.mem_of_getElem? (i := 934) (by decide +kernel)) rfl
theorem hw935 : Cond.selects RX5 yX5_near yX5_near ∈ sT := sT_of (List.mem_of_getElem? (i := 935) (by decide +kernel)) rfl
theorem hw936 : Cond.code yX5_near cX5_near 4 (some .int) ∈ sT := sT_of (List.mem_of_getElem? (i := 936) (by decide +kernel)) rfl
theorem hw937 : Cond.methodLink RX5 102 yX5_isWay ∈ sT := sT_of (List.mem_of_getElem? (i := 937) (by decide +kernel)) rfl
theorem hw938 : Cond.static yX5_isWay ∈ sT := sT_of (List.mem_of_getElem? (i := 938) (by decide +kernel)) rfl
theorem hw939 : Cond.code yX5_isWay cX5_isWay 1 (some .boolean) ∈ sT := sT_of (List.mem_of_getElem? (i := 939) (by decide +kernel)) rfl
theorem hw940 : Cond.methodLink RX5 106 yX5_nearAt ∈ sT := sT_of (List.mem_of_getElem? (i := 940) (by decide +kernel)) rfl
theorem hw942 : Cond.instanceMethod yX5_nearAt ∈ sT := sT_of (List.mem_of_getElem? (i := 942) (by decide +kernel)) rfl
theorem hw943 : Cond.code yX5_nearAt cX5_nearAt 9 (some .int) ∈ sT := sT_of (List.mem_of_getElem? (i := 943) (by decide +kernel)) rfl
theorem hw944 : Cond.methodLink RX5 83 yX5_isOnSide ∈ sT := sT_of (List.mem_of_getElem? (i := 944) (by decide +kernel)) rfl
theorem hw945 : Cond.static yX5_isOnSide ∈ sT := sT_of (List.mem_of_getElem? (i := 945) (by decide +kernel)) rfl
theorem hw946 : Cond.code yX5_isOnSide cX5_isOnSide 3 (some .boolean) ∈ sT := sT_of (List.mem_of_getElem? (i := 946) (by decide +kernel)) rfl
theorem hw947 : Cond.methodLink RL 156 yX5_end ∈ sT := sT_of (List.mem_of_getElem? (i := 947) (by decide +kernel)) rfl
theorem hw948 : Cond.instanceMethod yX5_end ∈ sT := sT_of (List.mem_of_getElem? (i := 948) (by decide +kernel)) rfl
theorem hw949 : Cond.selects RX5 yX5_end yX5_end ∈ sT := sT_of (List.mem_of_getElem? (i := 949) (by decide +kernel)) rfl
theorem hw950 : Cond.code yX5_end cX5_end 3 (some .int) ∈ sT := sT_of (List.mem_of_getElem? (i := 950) (by decide +kernel)) rfl
theorem hw951 : Cond.methodLink RL 159 yX5_poll ∈ sT := sT_of (List.mem_of_getElem? (i := 951) (by decide +kernel)) rfl
theorem hw952 : Cond.instanceMethod yX5_poll ∈ sT := sT_of (List.mem_of_getElem? (i := 952) (by decide +kernel)) rfl
theorem hw953 : Cond.selects RX5 yX5_poll yX5_poll ∈ sT := sT_of (List.mem_of_getElem? (i := 953) (by decide +kernel)) rfl
theorem hw954 : Cond.code yX5_poll cX5_poll 3 (some .int) ∈ sT := sT_of (List.mem_of_getElem? (i := 954) (by decide +kernel)) rfl
theorem hw955 : Cond.methodLink RX5 110 yX5_pollsAt ∈ sT := sT_of (List.mem_of_getElem? (i := 955) (by decide +kernel)) rfl
theorem hw957 : Cond.instanceMethod yX5_pollsAt ∈ sT := sT_of (List.mem_of_getElem? (i := 957) (by decide +kernel)) rfl
theorem hw958 : Cond.code yX5_pollsAt cX5_pollsAt 4 (some .int) ∈ sT := sT_of (List.mem_of_getElem? (i := 958) (by decide +kernel)) rfl
theorem hw959 : Cond.methodLink RL 163 yX5_polled ∈ sT := sT_of (List.mem_of_getElem? (i := 959) (by decide +kernel)) rfl
theorem hw960 : Cond.instanceMethod yX5_polled ∈ sT := sT_of (List.mem_of_getElem? (i := 960) (by decide +kernel)) rfl
theorem hw961 : Cond.selects RX5 yX5_polled yX5_polled ∈ sT := sT_of (List.mem_of_getElem? (i := 961) (by decide +kernel)) rfl
theorem hw962 : Cond.code yX5_polled cX5_polled 1 (some .int) ∈ sT := sT_of (List.mem_of_getElem? (i := 962) (by decide +kernel)) rfl
theorem hw963 : Cond.methodLink RL 166 yX5_drain ∈ sT := sT_of (List.mem_of_getElem? (i := 963) (by decide +kernel)) rfl
theorem hw964 : Cond.instanceMethod yX5_drain ∈ sT := sT_of (List.mem_of_getElem? (i := 964) (by decide +kernel)) rfl
theorem hw965 : Cond.selects RX5 yX5_drain yX5_drain ∈ sT := sT_of (List.mem_of_getElem? (i := 965) (by decide +kernel)) rfl
theorem hw966 : Cond.code yX5_drain cX5_drain 3 (some .int) ∈ sT := sT_of (List.mem_of_getElem? (i := 966) (by decide +kernel)) rfl
theorem hw967 : Cond.methodLink RL 170 yX5_drained ∈ sT := sT_of (List.mem_of_getElem? (i := 967) (by decide +kernel)) rfl
theorem hw968 : Cond.instanceMethod yX5_drained ∈ sT := sT_of (List.mem_of_getElem? (i := 968) (by decide +kernel)) rfl
theorem hw969 : Cond.selects RX5 yX5_drained yX5_drained ∈ sT := sT_of (List.mem_of_getElem? (i := 969) (by decide +kernel)) rfl
theorem hw970 : Cond.code yX5_drained cX5_drained 2 (some .int) ∈ sT := sT_of (List.mem_of_getElem? (i := 970) (by decide +kernel)) rfl
theorem hw971 : Cond.methodLink RL 173 yX5_size ∈ sT := sT_of (List.mem_of_getElem? (i := 971) (by decide +kernel)) rfl
theorem hw972 : Cond.instanceMethod yX5_size ∈ sT := sT_of (List.mem_of_getElem? (i := 972) (by decide +kernel)) rfl
theorem hw973 : Cond.selects RX5 yX5_size yX5_size ∈ sT := sT_of (List.mem_of_getElem? (i := 973) (by decide +kernel)) rfl
theorem hw974 : Cond.code yX5_size cX5_size 2 (some .int) ∈ sT := sT_of (List.mem_of_getElem? (i := 974) (by decide +kernel)) rfl
theorem hw975 : Cond.methodLink RL 177 yX5_keyAt ∈ sT := sT_of (List.mem_of_getElem? (i := 975) (by decide +kernel)) rfl
theorem hw976 : Cond.instanceMethod yX5_keyAt ∈ sT := sT_of (List.mem_of_getElem? (i := 976) (by decide +kernel)) rfl
theorem hw977 : Cond.selects RX5 yX5_keyAt yX5_keyAt ∈ sT := sT_of (List.mem_of_getElem? (i := 977) (by decide +kernel)) rfl
theorem hw978 : Cond.code yX5_keyAt cX5_keyAt 4 (some .int) ∈ sT := sT_of (List.mem_of_getElem? (i := 978) (by decide +kernel)) rfl
theorem hw979 : Cond.methodLink RL 180 yX5_mark ∈ sT := sT_of (List.mem_of_getElem? (i := 979) (by decide +kernel)) rfl
theorem hw980 : Cond.instanceMethod yX5_mark ∈ sT := sT_of (List.mem_of_getElem? (i := 980) (by decide +kernel)) rfl
theorem hw981 : Cond.selects RX5 yX5_mark yX5_mark ∈ sT := sT_of (List.mem_of_getElem? (i := 981) (by decide +kernel)) rfl
theorem hw982 : Cond.code yX5_mark cX5_mark 4 (some .int) ∈ sT := sT_of (List.mem_of_getElem? (i := 982) (by decide +kernel)) rfl
theorem hw983 : Cond.methodLink RL 183 yX5_isLike ∈ sT := sT_of (List.mem_of_getElem? (i := 983) (by decide +kernel)) rfl
theorem hw984 : Cond.instanceMethod yX5_isLike ∈ sT := sT_of (List.mem_of_getElem? (i := 984) (by decide +kernel)) rfl
theorem hw985 : Cond.selects RX5 yX5_isLike yX5_isLike ∈ sT := sT_of (List.mem_of_getElem? (i := 985) (by decide +kernel)) rfl
theorem hw986 : Cond.code yX5_isLike cX5_isLike 5 (some .boolean) ∈ sT := sT_of (List.mem_of_getElem? (i := 986) (by decide +kernel)) rfl
theorem hw987 : Cond.methodLink RL 187 yX5_open ∈ sT := sT_of (List.mem_of_getElem? (i := 987) (by decide +kernel)) rfl
theorem hw988 : Cond.instanceMethod yX5_open ∈ sT := sT_of (List.mem_of_getElem? (i := 988) (by decide +kernel)) rfl
theorem hw989 : Cond.selects RX5 yX5_open yX5_open ∈ sT := sT_of (List.mem_of_getElem? (i := 989) (by decide +kernel)) rfl
theorem hw990 : Cond.code yX5_open cX5_open 7 (some .int) ∈ sT := sT_of (List.mem_of_getElem? (i := 990) (by decide +kernel)) rfl
theorem hw991 : Cond.methodLink RX5 126 yX5_isView ∈ sT := sT_of (List.mem_of_getElem? (i := 991) (by decide +kernel)) rfl
theorem hw992 : Cond.static yX5_isView ∈ sT := sT_of (List.mem_of_getElem? (i := 992) (by decide +kernel)) rfl
theorem hw993 : Cond.code yX5_isView cX5_isView 1 (some .boolean) ∈ sT := sT_of (List.mem_of_getElem? (i := 993) (by decide +kernel)) rfl
theorem hw994 : Cond.methodLink RX5 129 yX5_manyOf ∈ sT := sT_of (List.mem_of_getElem? (i := 994) (by decide +kernel)) rfl
theorem hw996 : Cond.instanceMethod yX5_manyOf ∈ sT := sT_of (List.mem_of_getElem? (i := 996) (by decide +kernel)) rfl
theorem hw997 : Cond.code yX5_manyOf cX5_manyOf 2 (some .int) ∈ sT := sT_of (List.mem_of_getElem? (i := 997) (by decide +kernel)) rfl
theorem hw998 : Cond.methodLink RX5 123 yX5_behindOf ∈ sT := sT_of (List.mem_of_getElem? (i := 998) (by decide +kernel)) rfl
theorem hw1000 : Cond.instanceMethod yX5_behindOf ∈ sT := sT_of (List.mem_of_getElem? (i := 1000) (by decide +kernel)) rfl
theorem hw1001 : Cond.code yX5_behindOf cX5_behindOf 4 (some .int) ∈ sT := sT_of (List.mem_of_getElem? (i := 1001) (by decide +kernel)) rfl
theorem hw1002 : Cond.methodLink RX5 116 yX5_firstOf ∈ sT := sT_of (List.mem_of_getElem? (i := 1002) (by decide +kernel)) rfl
theorem hw1004 : Cond.instanceMethod yX5_firstOf ∈ sT := sT_of (List.mem_of_getElem? (i := 1004) (by decide +kernel)) rfl
theorem hw1005 : Cond.code yX5_firstOf cX5_firstOf 4 (some .int) ∈ sT := sT_of (List.mem_of_getElem? (i := 1005) (by decide +kernel)) rfl
theorem hw1006 : Cond.methodLink RX5 120 yX5_isIn ∈ sT := sT_of (List.mem_of_getElem? (i := 1006) (by decide +kernel)) rfl
theorem hw1008 : Cond.instanceMethod yX5_isIn ∈ sT := sT_of (List.mem_of_getElem? (i := 1008) (by decide +kernel)) rfl
theorem hw1009 : Cond.code yX5_isIn cX5_isIn 5 (some .boolean) ∈ sT := sT_of (List.mem_of_getElem? (i := 1009) (by decide +kernel)) rfl
theorem hw1010 : Cond.methodLink RL 191 yX5_cut ∈ sT := sT_of (List.mem_of_getElem? (i := 1010) (by decide +kernel)) rfl
theorem hw1011 : Cond.instanceMethod yX5_cut ∈ sT := sT_of (List.mem_of_getElem? (i := 1011) (by decide +kernel)) rfl
theorem hw1012 : Cond.selects RX5 yX5_cut yX5_cut ∈ sT := sT_of (List.mem_of_getElem? (i := 1012) (by decide +kernel)) rfl
theorem hw1013 : Cond.code yX5_cut cX5_cut 6 (some .int) ∈ sT := sT_of (List.mem_of_getElem? (i := 1013) (by decide +kernel)) rfl
theorem hw1014 : Cond.methodLink RL 194 yX5_viewPut ∈ sT := sT_of (List.mem_of_getElem? (i := 1014) (by decide +kernel)) rfl
theorem hw1015 : Cond.instanceMethod yX5_viewPut ∈ sT := sT_of (List.mem_of_getElem? (i := 1015) (by decide +kernel)) rfl
theorem hw1016 : Cond.selects RX5 yX5_viewPut yX5_viewPut ∈ sT := sT_of (List.mem_of_getElem? (i := 1016) (by decide +kernel)) rfl
theorem hw1017 : Cond.code yX5_viewPut cX5_viewPut 4 (some .int) ∈ sT := sT_of (List.mem_of_getElem? (i := 1017) (by decide +kernel)) rfl
theorem hw1018 : Cond.methodLink RL 197 yX5_viewRemove ∈ sT := sT_of (List.mem_of_getElem? (i := 1018) (by decide +kernel)) rfl
theorem hw1019 : Cond.instanceMethod yX5_viewRemove ∈ sT := sT_of (List.mem_of_getElem? (i := 1019) (by decide +kernel)) rfl
theorem hw1020 : Cond.selects RX5 yX5_viewRemove yX5_viewRemove ∈ sT := sT_of (List.mem_of_getElem? (i := 1020) (by decide +kernel)) rfl
theorem hw1021 : Cond.code yX5_viewRemove cX5_viewRemove 4 (some .boolean) ∈ sT := sT_of (List.mem_of_getElem? (i := 1021) (by decide +kernel)) rfl
theorem hw1022 : Cond.methodLink RL 200 yX5_viewNear ∈ sT := sT_of (List.mem_of_getElem? (i := 1022) (by decide +kernel)) rfl
theorem hw1023 : Cond.instanceMethod yX5_viewNear ∈ sT := sT_of (List.mem_of_getElem? (i := 1023) (by decide +kernel)) rfl
theorem hw1024 : Cond.selects RX5 yX5_viewNear yX5_viewNear ∈ sT := sT_of (List.mem_of_getElem? (i := 1024) (by decide +kernel)) rfl
theorem hw1025 : Cond.code yX5_viewNear cX5_viewNear 4 (some .int) ∈ sT := sT_of (List.mem_of_getElem? (i := 1025) (by decide +kernel)) rfl
theorem hw1026 : Cond.methodLink RX5 132 yX5_viewNearAt ∈ sT := sT_of (List.mem_of_getElem? (i := 1026) (by decide +kernel)) rfl
theorem hw1028 : Cond.instanceMethod yX5_viewNearAt ∈ sT := sT_of (List.mem_of_getElem? (i := 1028) (by decide +kernel)) rfl
theorem hw1029 : Cond.code yX5_viewNearAt cX5_viewNearAt 4 (some .int) ∈ sT := sT_of (List.mem_of_getElem? (i := 1029) (by decide +kernel)) rfl
theorem hw1030 : Cond.methodLink RL 203 yX5_viewEnd ∈ sT := sT_of (List.mem_of_getElem? (i := 1030) (by decide +kernel)) rfl
theorem hw1031 : Cond.instanceMethod yX5_viewEnd ∈ sT := sT_of (List.mem_of_getElem? (i := 1031) (by decide +kernel)) rfl
theorem hw1032 : Cond.selects RX5 yX5_viewEnd yX5_viewEnd ∈ sT := sT_of (List.mem_of_getElem? (i := 1032) (by decide +kernel)) rfl
theorem hw1033 : Cond.code yX5_viewEnd cX5_viewEnd 3 (some .int) ∈ sT := sT_of (List.mem_of_getElem? (i := 1033) (by decide +kernel)) rfl
theorem hw1034 : Cond.methodLink RL 206 yX5_viewPoll ∈ sT := sT_of (List.mem_of_getElem? (i := 1034) (by decide +kernel)) rfl
theorem hw1035 : Cond.instanceMethod yX5_viewPoll ∈ sT := sT_of (List.mem_of_getElem? (i := 1035) (by decide +kernel)) rfl
theorem hw1036 : Cond.selects RX5 yX5_viewPoll yX5_viewPoll ∈ sT := sT_of (List.mem_of_getElem? (i := 1036) (by decide +kernel)) rfl
theorem hw1037 : Cond.code yX5_viewPoll cX5_viewPoll 3 (some .int) ∈ sT := sT_of (List.mem_of_getElem? (i := 1037) (by decide +kernel)) rfl
theorem hw1038 : Cond.methodLink RL 209 yX5_viewClear ∈ sT := sT_of (List.mem_of_getElem? (i := 1038) (by decide +kernel)) rfl
theorem hw1039 : Cond.instanceMethod yX5_viewClear ∈ sT := sT_of (List.mem_of_getElem? (i := 1039) (by decide +kernel)) rfl
theorem hw1040 : Cond.selects RX5 yX5_viewClear yX5_viewClear ∈ sT := sT_of (List.mem_of_getElem? (i := 1040) (by decide +kernel)) rfl
theorem hw1041 : Cond.code yX5_viewClear cX5_viewClear 5 (some .int) ∈ sT := sT_of (List.mem_of_getElem? (i := 1041) (by decide +kernel)) rfl
theorem hw1042 : Cond.methodLink RL 212 yX5_viewSize ∈ sT := sT_of (List.mem_of_getElem? (i := 1042) (by decide +kernel)) rfl
theorem hw1043 : Cond.instanceMethod yX5_viewSize ∈ sT := sT_of (List.mem_of_getElem? (i := 1043) (by decide +kernel)) rfl
theorem hw1044 : Cond.selects RX5 yX5_viewSize yX5_viewSize ∈ sT := sT_of (List.mem_of_getElem? (i := 1044) (by decide +kernel)) rfl
theorem hw1045 : Cond.code yX5_viewSize cX5_viewSize 2 (some .int) ∈ sT := sT_of (List.mem_of_getElem? (i := 1045) (by decide +kernel)) rfl
theorem hw1046 : Cond.methodLink RL 215 yX5_lies ∈ sT := sT_of (List.mem_of_getElem? (i := 1046) (by decide +kernel)) rfl
theorem hw1047 : Cond.instanceMethod yX5_lies ∈ sT := sT_of (List.mem_of_getElem? (i := 1047) (by decide +kernel)) rfl
theorem hw1048 : Cond.selects RX5 yX5_lies yX5_lies ∈ sT := sT_of (List.mem_of_getElem? (i := 1048) (by decide +kernel)) rfl
theorem hw1049 : Cond.code yX5_lies cX5_lies 3 (some .boolean) ∈ sT := sT_of (List.mem_of_getElem? (i := 1049) (by decide +kernel)) rfl
theorem hw1050 : Cond.methodLink RL 219 yX5_step ∈ sT := sT_of (List.mem_of_getElem? (i := 1050) (by decide +kernel)) rfl
theorem hw1051 : Cond.instanceMethod yX5_step ∈ sT := sT_of (List.mem_of_getElem? (i := 1051) (by decide +kernel)) rfl
theorem hw1052 : Cond.selects RX5 yX5_step yX5_step ∈ sT := sT_of (List.mem_of_getElem? (i := 1052) (by decide +kernel)) rfl
theorem hw1053 : Cond.code yX5_step cX5_step 6 (some .int) ∈ sT := sT_of (List.mem_of_getElem? (i := 1053) (by decide +kernel)) rfl
theorem hw1054 : Cond.methodLink RX5 136 yX5_isHistory ∈ sT := sT_of (List.mem_of_getElem? (i := 1054) (by decide +kernel)) rfl
theorem hw1055 : Cond.static yX5_isHistory ∈ sT := sT_of (List.mem_of_getElem? (i := 1055) (by decide +kernel)) rfl
theorem hw1056 : Cond.code yX5_isHistory cX5_isHistory 1 (some .boolean) ∈ sT := sT_of (List.mem_of_getElem? (i := 1056) (by decide +kernel)) rfl
theorem hw1057 : Cond.methodLink RX5 139 yX5_adds ∈ sT := sT_of (List.mem_of_getElem? (i := 1057) (by decide +kernel)) rfl
theorem hw1059 : Cond.instanceMethod yX5_adds ∈ sT := sT_of (List.mem_of_getElem? (i := 1059) (by decide +kernel)) rfl
theorem hw1060 : Cond.code yX5_adds cX5_adds 6 none ∈ sT := sT_of (List.mem_of_getElem? (i := 1060) (by decide +kernel)) rfl
theorem hw1061 : Cond.methodLink RL 222 yX5_forget ∈ sT := sT_of (List.mem_of_getElem? (i := 1061) (by decide +kernel)) rfl
theorem hw1062 : Cond.instanceMethod yX5_forget ∈ sT := sT_of (List.mem_of_getElem? (i := 1062) (by decide +kernel)) rfl
theorem hw1063 : Cond.selects RX5 yX5_forget yX5_forget ∈ sT := sT_of (List.mem_of_getElem? (i := 1063) (by decide +kernel)) rfl
theorem hw1064 : Cond.code yX5_forget cX5_forget 3 (some .int) ∈ sT := sT_of (List.mem_of_getElem? (i := 1064) (by decide +kernel)) rfl
theorem hw1065 : Cond.methodLink RL 225 yX5_play ∈ sT := sT_of (List.mem_of_getElem? (i := 1065) (by decide +kernel)) rfl
theorem hw1066 : Cond.instanceMethod yX5_play ∈ sT := sT_of (List.mem_of_getElem? (i := 1066) (by decide +kernel)) rfl
theorem hw1067 : Cond.selects RX5 yX5_play yX5_play ∈ sT := sT_of (List.mem_of_getElem? (i := 1067) (by decide +kernel)) rfl
theorem hw1068 : Cond.code yX5_play cX5_play 5 (some .int) ∈ sT := sT_of (List.mem_of_getElem? (i := 1068) (by decide +kernel)) rfl
theorem hw1069 : Cond.methodLink RX5 149 yX5_isTooMuch ∈ sT := sT_of (List.mem_of_getElem? (i := 1069) (by decide +kernel)) rfl
theorem hw1071 : Cond.instanceMethod yX5_isTooMuch ∈ sT := sT_of (List.mem_of_getElem? (i := 1071) (by decide +kernel)) rfl
theorem hw1072 : Cond.code yX5_isTooMuch cX5_isTooMuch 4 (some .boolean) ∈ sT := sT_of (List.mem_of_getElem? (i := 1072) (by decide +kernel)) rfl
theorem hw1073 : Cond.methodLink RX5 146 yX5_gathers ∈ sT := sT_of (List.mem_of_getElem? (i := 1073) (by decide +kernel)) rfl
theorem hw1075 : Cond.instanceMethod yX5_gathers ∈ sT := sT_of (List.mem_of_getElem? (i := 1075) (by decide +kernel)) rfl
theorem hw1076 : Cond.code yX5_gathers cX5_gathers 8 none ∈ sT := sT_of (List.mem_of_getElem? (i := 1076) (by decide +kernel)) rfl
theorem hw1077 : Cond.methodLink RX5 152 yX5_does ∈ sT := sT_of (List.mem_of_getElem? (i := 1077) (by decide +kernel)) rfl
theorem hw1079 : Cond.instanceMethod yX5_does ∈ sT := sT_of (List.mem_of_getElem? (i := 1079) (by decide +kernel)) rfl
theorem hw1080 : Cond.code yX5_does cX5_does 9 (some .boolean) ∈ sT := sT_of (List.mem_of_getElem? (i := 1080) (by decide +kernel)) rfl
theorem hw1081 : Cond.methodLink RL 229 yX5_playBoth ∈ sT := sT_of (List.mem_of_getElem? (i := 1081) (by decide +kernel)) rfl
theorem hw1082 : Cond.instanceMethod yX5_playBoth ∈ sT := sT_of (List.mem_of_getElem? (i := 1082) (by decide +kernel)) rfl
theorem hw1083 : Cond.selects RX5 yX5_playBoth yX5_playBoth ∈ sT := sT_of (List.mem_of_getElem? (i := 1083) (by decide +kernel)) rfl
theorem hw1084 : Cond.code yX5_playBoth cX5_playBoth 10 (some .int) ∈ sT := sT_of (List.mem_of_getElem? (i := 1084) (by decide +kernel)) rfl
theorem hw1085 : Cond.methodLink RL 232 yX5_meet ∈ sT := sT_of (List.mem_of_getElem? (i := 1085) (by decide +kernel)) rfl
theorem hw1086 : Cond.instanceMethod yX5_meet ∈ sT := sT_of (List.mem_of_getElem? (i := 1086) (by decide +kernel)) rfl
theorem hw1087 : Cond.selects RX5 yX5_meet yX5_meet ∈ sT := sT_of (List.mem_of_getElem? (i := 1087) (by decide +kernel)) rfl
theorem hw1088 : Cond.code yX5_meet cX5_meet 5 (some .int) ∈ sT := sT_of (List.mem_of_getElem? (i := 1088) (by decide +kernel)) rfl
theorem hw1089 : Cond.methodLink RX5 155 yX5_hasKey ∈ sT := sT_of (List.mem_of_getElem? (i := 1089) (by decide +kernel)) rfl
theorem hw1091 : Cond.instanceMethod yX5_hasKey ∈ sT := sT_of (List.mem_of_getElem? (i := 1091) (by decide +kernel)) rfl
theorem hw1092 : Cond.code yX5_hasKey cX5_hasKey 5 (some .boolean) ∈ sT := sT_of (List.mem_of_getElem? (i := 1092) (by decide +kernel)) rfl
theorem hw1093 : Cond.methodLink RL 235 yX5_opposite ∈ sT := sT_of (List.mem_of_getElem? (i := 1093) (by decide +kernel)) rfl
theorem hw1094 : Cond.instanceMethod yX5_opposite ∈ sT := sT_of (List.mem_of_getElem? (i := 1094) (by decide +kernel)) rfl
theorem hw1095 : Cond.selects RX5 yX5_opposite yX5_opposite ∈ sT := sT_of (List.mem_of_getElem? (i := 1095) (by decide +kernel)) rfl
theorem hw1096 : Cond.code yX5_opposite cX5_opposite 6 (some .int) ∈ sT := sT_of (List.mem_of_getElem? (i := 1096) (by decide +kernel)) rfl
theorem hw1097 : Cond.methodLink RL 238 yX5_combine ∈ sT := sT_of (List.mem_of_getElem? (i := 1097) (by decide +kernel)) rfl
theorem hw1098 : Cond.instanceMethod yX5_combine ∈ sT := sT_of (List.mem_of_getElem? (i := 1098) (by decide +kernel)) rfl
theorem hw1099 : Cond.selects RX5 yX5_combine yX5_combine ∈ sT := sT_of (List.mem_of_getElem? (i := 1099) (by decide +kernel)) rfl
theorem hw1100 : Cond.code yX5_combine cX5_combine 11 (some .int) ∈ sT := sT_of (List.mem_of_getElem? (i := 1100) (by decide +kernel)) rfl
theorem hw1101 : Cond.methodLink RX5 158 yX5_manyTogether ∈ sT := sT_of (List.mem_of_getElem? (i := 1101) (by decide +kernel)) rfl
theorem hw1103 : Cond.instanceMethod yX5_manyTogether ∈ sT := sT_of (List.mem_of_getElem? (i := 1103) (by decide +kernel)) rfl
theorem hw1104 : Cond.code yX5_manyTogether cX5_manyTogether 5 (some .int) ∈ sT := sT_of (List.mem_of_getElem? (i := 1104) (by decide +kernel)) rfl
theorem hw1105 : Cond.methodLink RL 242 yX5_fullShare ∈ sT := sT_of (List.mem_of_getElem? (i := 1105) (by decide +kernel)) rfl
theorem hw1106 : Cond.instanceMethod yX5_fullShare ∈ sT := sT_of (List.mem_of_getElem? (i := 1106) (by decide +kernel)) rfl
theorem hw1107 : Cond.selects RX5 yX5_fullShare yX5_fullShare ∈ sT := sT_of (List.mem_of_getElem? (i := 1107) (by decide +kernel)) rfl
theorem hw1108 : Cond.code yX5_fullShare cX5_fullShare 2 (some .float) ∈ sT := sT_of (List.mem_of_getElem? (i := 1108) (by decide +kernel)) rfl
theorem hw1109 : Cond.constantFloat RX5 161 1114636288 ∈ sT := sT_of (List.mem_of_getElem? (i := 1109) (by decide +kernel)) rfl
theorem hw1110 : Cond.methodLink RL 245 yX5_meanKey ∈ sT := sT_of (List.mem_of_getElem? (i := 1110) (by decide +kernel)) rfl
theorem hw1111 : Cond.instanceMethod yX5_meanKey ∈ sT := sT_of (List.mem_of_getElem? (i := 1111) (by decide +kernel)) rfl
theorem hw1112 : Cond.selects RX5 yX5_meanKey yX5_meanKey ∈ sT := sT_of (List.mem_of_getElem? (i := 1112) (by decide +kernel)) rfl
theorem hw1113 : Cond.code yX5_meanKey cX5_meanKey 5 (some .double) ∈ sT := sT_of (List.mem_of_getElem? (i := 1113) (by decide +kernel)) rfl
theorem hw1114 : Cond.methodLink RL 250 yX5_checksum ∈ sT := sT_of (List.mem_of_getElem? (i := 1114) (by decide +kernel)) rfl
theorem hw1115 : Cond.instanceMethod yX5_checksum ∈ sT := sT_of (List.mem_of_getElem? (i := 1115) (by decide +kernel)) rfl
theorem hw1116 : Cond.selects RX5 yX5_checksum yX5_checksum ∈ sT := sT_of (List.mem_of_getElem? (i := 1116) (by decide +kernel)) rfl
theorem hw1117 : Cond.code yX5_checksum cX5_checksum 6 (some .long) ∈ sT := sT_of (List.mem_of_getElem? (i := 1117) (by decide +kernel)) rfl
theorem hw1118 : Cond.constantLong RX5 162 7 ∈ sT := sT_of (List.mem_of_getElem? (i := 1118) (by decide +kernel)) rfl
theorem hw1119 : Cond.constantLong RX5 164 31 ∈ sT := sT_of (List.mem_of_getElem? (i := 1119) (by decide +kernel)) rfl
theorem hw1120 : Cond.methodLink RL 255 yX5_isSound ∈ sT := sT_of (List.mem_of_getElem? (i := 1120) (by decide +kernel)) rfl
theorem hw1121 : Cond.instanceMethod yX5_isSound ∈ sT := sT_of (List.mem_of_getElem? (i := 1121) (by decide +kernel)) rfl
theorem hw1122 : Cond.selects RX5 yX5_isSound yX5_isSound ∈ sT := sT_of (List.mem_of_getElem? (i := 1122) (by decide +kernel)) rfl
theorem hw1123 : Cond.code yX5_isSound cX5_isSound 1 (some .boolean) ∈ sT := sT_of (List.mem_of_getElem? (i := 1123) (by decide +kernel)) rfl
theorem hp1 : Cond.selects RX0 yX0_arePollsSoundFrom yX0_arePollsSoundFrom ∈ sT := sT_p (List.mem_of_getElem? (i := 1) (by decide +kernel)) rfl
theorem hp7 : Cond.selects RX4 yX4_mapAt yX4_mapAt ∈ sT := sT_p (List.mem_of_getElem? (i := 7) (by decide +kernel)) rfl
theorem hp8 : Cond.selects RX4 yX4_pollAt yX4_pollAt ∈ sT := sT_p (List.mem_of_getElem? (i := 8) (by decide +kernel)) rfl
theorem hp9 : Cond.selects RX4 yX4_viewAt yX4_viewAt ∈ sT := sT_p (List.mem_of_getElem? (i := 9) (by decide +kernel)) rfl
theorem hp10 : Cond.selects RX4 yX4_historyAt yX4_historyAt ∈ sT := sT_p (List.mem_of_getElem? (i := 10) (by decide +kernel)) rfl
theorem hp0 : Cond.selects RX4 yX4_areMapsSound yX4_areMapsSound ∈ sT := sT_p (List.mem_of_getElem? (i := 0) (by decide +kernel)) rfl
theorem hp2 : Cond.selects RX4 yX4_areViewsSound yX4_areViewsSound ∈ sT := sT_p (List.mem_of_getElem? (i := 2) (by decide +kernel)) rfl
theorem hp3 : Cond.selects RX4 yX4_areOrdersFree yX4_areOrdersFree ∈ sT := sT_p (List.mem_of_getElem? (i := 3) (by decide +kernel)) rfl
theorem hp4 : Cond.selects RX4 yX4_areOppositesSound yX4_areOppositesSound ∈ sT := sT_p (List.mem_of_getElem? (i := 4) (by decide +kernel)) rfl
theorem hp5 : Cond.selects RX4 yX4_areMixesSound yX4_areMixesSound ∈ sT := sT_p (List.mem_of_getElem? (i := 5) (by decide +kernel)) rfl
theorem hp12 : Cond.selects RX5 yX5_placeOf yX5_placeOf ∈ sT := sT_p (List.mem_of_getElem? (i := 12) (by decide +kernel)) rfl
theorem hp15 : Cond.selects RX5 yX5_takes yX5_takes ∈ sT := sT_p (List.mem_of_getElem? (i := 15) (by decide +kernel)) rfl
theorem hp11 : Cond.selects RX5 yX5_has yX5_has ∈ sT := sT_p (List.mem_of_getElem? (i := 11) (by decide +kernel)) rfl
theorem hp13 : Cond.selects RX5 yX5_refused yX5_refused ∈ sT := sT_p (List.mem_of_getElem? (i := 13) (by decide +kernel)) rfl
theorem hp14 : Cond.selects RX5 yX5_puts yX5_puts ∈ sT := sT_p (List.mem_of_getElem? (i := 14) (by decide +kernel)) rfl
theorem hp16 : Cond.selects RX5 yX5_nearAt yX5_nearAt ∈ sT := sT_p (List.mem_of_getElem? (i := 16) (by decide +kernel)) rfl
theorem hp17 : Cond.selects RX5 yX5_pollsAt yX5_pollsAt ∈ sT := sT_p (List.mem_of_getElem? (i := 17) (by decide +kernel)) rfl
theorem hp20 : Cond.selects RX5 yX5_firstOf yX5_firstOf ∈ sT := sT_p (List.mem_of_getElem? (i := 20) (by decide +kernel)) rfl
theorem hp21 : Cond.selects RX5 yX5_isIn yX5_isIn ∈ sT := sT_p (List.mem_of_getElem? (i := 21) (by decide +kernel)) rfl
theorem hp19 : Cond.selects RX5 yX5_behindOf yX5_behindOf ∈ sT := sT_p (List.mem_of_getElem? (i := 19) (by decide +kernel)) rfl
theorem hp18 : Cond.selects RX5 yX5_manyOf yX5_manyOf ∈ sT := sT_p (List.mem_of_getElem? (i := 18) (by decide +kernel)) rfl
theorem hp22 : Cond.selects RX5 yX5_viewNearAt yX5_viewNearAt ∈ sT := sT_p (List.mem_of_getElem? (i := 22) (by decide +kernel)) rfl
theorem hp23 : Cond.selects RX5 yX5_adds yX5_adds ∈ sT := sT_p (List.mem_of_getElem? (i := 23) (by decide +kernel)) rfl
theorem hp25 : Cond.selects RX5 yX5_gathers yX5_gathers ∈ sT := sT_p (List.mem_of_getElem? (i := 25) (by decide +kernel)) rfl
theorem hp24 : Cond.selects RX5 yX5_isTooMuch yX5_isTooMuch ∈ sT := sT_p (List.mem_of_getElem? (i := 24) (by decide +kernel)) rfl
theorem hp26 : Cond.selects RX5 yX5_does yX5_does ∈ sT := sT_p (List.mem_of_getElem? (i := 26) (by decide +kernel)) rfl
theorem hp27 : Cond.selects RX5 yX5_hasKey yX5_hasKey ∈ sT := sT_p (List.mem_of_getElem? (i := 27) (by decide +kernel)) rfl
theorem hp28 : Cond.selects RX5 yX5_manyTogether yX5_manyTogether ∈ sT := sT_p (List.mem_of_getElem? (i := 28) (by decide +kernel)) rfl
theorem cw_L_7 : sCallV RL 7 yX4_put cX4_put 5 (some .int) 3 := ⟨⟨hw426, hw423, hw1, by decide +kernel, by decide +kernel, by decide +kernel⟩, hw424, hw425⟩
theorem cw_L_17 : sCallV RL 17 yX4_value cX4_value 5 (some .int) 2 := ⟨⟨hw472, hw469, hw1, by decide +kernel, by decide +kernel, by decide +kernel⟩, hw470, hw471⟩
theorem cw_L_23 : sCallV RL 23 yX4_remove cX4_remove 4 (some .int) 2 := ⟨⟨hw495, hw492, hw1, by decide +kernel, by decide +kernel, by decide +kernel⟩, hw493, hw494⟩
theorem cw_L_26 : sCallV RL 26 yX4_near cX4_near 6 (some .int) 3 := ⟨⟨hw504, hw501, hw1, by decide +kernel, by decide +kernel, by decide +kernel⟩, hw502, hw503⟩
theorem cw_L_32 : sCallV RL 32 yX4_end cX4_end 4 (some .int) 2 := ⟨⟨hw532, hw529, hw1, by decide +kernel, by decide +kernel, by decide +kernel⟩, hw530, hw531⟩
theorem cw_L_36 : sCallV RL 36 yX4_poll cX4_poll 4 (some .int) 2 := ⟨⟨hw543, hw540, hw1, by decide +kernel, by decide +kernel, by decide +kernel⟩, hw541, hw542⟩
theorem cw_L_39 : sCallV RL 39 yX4_polled cX4_polled 1 (some .int) 0 := ⟨⟨hw555, hw552, hw1, by decide +kernel, by decide +kernel, by decide +kernel⟩, hw553, hw554⟩
theorem cw_L_43 : sCallV RL 43 yX4_drain cX4_drain 5 (some .int) 2 := ⟨⟨hw563, hw560, hw1, by decide +kernel, by decide +kernel, by decide +kernel⟩, hw561, hw562⟩
theorem cw_L_46 : sCallV RL 46 yX4_drained cX4_drained 2 (some .int) 1 := ⟨⟨hw570, hw567, hw1, by decide +kernel, by decide +kernel, by decide +kernel⟩, hw568, hw569⟩
theorem cw_L_50 : sCallV RL 50 yX4_size cX4_size 2 (some .int) 1 := ⟨⟨hw578, hw575, hw1, by decide +kernel, by decide +kernel, by decide +kernel⟩, hw576, hw577⟩
theorem cw_L_53 : sCallV RL 53 yX4_keyAt cX4_keyAt 5 (some .int) 3 := ⟨⟨hw585, hw582, hw1, by decide +kernel, by decide +kernel, by decide +kernel⟩, hw583, hw584⟩
theorem cw_L_57 : sCallV RL 57 yX4_mark cX4_mark 5 (some .int) 1 := ⟨⟨hw593, hw590, hw1, by decide +kernel, by decide +kernel, by decide +kernel⟩, hw591, hw592⟩
theorem cw_L_60 : sCallV RL 60 yX4_isLike cX4_isLike 4 (some .boolean) 2 := ⟨⟨hw600, hw597, hw1, by decide +kernel, by decide +kernel, by decide +kernel⟩, hw598, hw599⟩
theorem cw_L_64 : sCallV RL 64 yX4_open cX4_open 9 (some .int) 6 := ⟨⟨hw608, hw605, hw1, by decide +kernel, by decide +kernel, by decide +kernel⟩, hw606, hw607⟩
theorem cw_L_68 : sCallV RL 68 yX4_cut cX4_cut 8 (some .int) 5 := ⟨⟨hw626, hw623, hw1, by decide +kernel, by decide +kernel, by decide +kernel⟩, hw624, hw625⟩
theorem cw_L_72 : sCallV RL 72 yX4_viewPut cX4_viewPut 6 (some .int) 3 := ⟨⟨hw644, hw641, hw1, by decide +kernel, by decide +kernel, by decide +kernel⟩, hw642, hw643⟩
theorem cw_L_75 : sCallV RL 75 yX4_viewRemove cX4_viewRemove 5 (some .boolean) 2 := ⟨⟨hw655, hw652, hw1, by decide +kernel, by decide +kernel, by decide +kernel⟩, hw653, hw654⟩
theorem cw_L_78 : sCallV RL 78 yX4_viewNear cX4_viewNear 7 (some .int) 3 := ⟨⟨hw662, hw659, hw1, by decide +kernel, by decide +kernel, by decide +kernel⟩, hw660, hw661⟩
theorem cw_L_81 : sCallV RL 81 yX4_viewEnd cX4_viewEnd 5 (some .int) 2 := ⟨⟨hw672, hw669, hw1, by decide +kernel, by decide +kernel, by decide +kernel⟩, hw670, hw671⟩
theorem cw_L_84 : sCallV RL 84 yX4_viewPoll cX4_viewPoll 5 (some .int) 2 := ⟨⟨hw679, hw676, hw1, by decide +kernel, by decide +kernel, by decide +kernel⟩, hw677, hw678⟩
theorem cw_L_87 : sCallV RL 87 yX4_viewClear cX4_viewClear 5 (some .int) 1 := ⟨⟨hw686, hw683, hw1, by decide +kernel, by decide +kernel, by decide +kernel⟩, hw684, hw685⟩
theorem cw_L_90 : sCallV RL 90 yX4_viewSize cX4_viewSize 2 (some .int) 1 := ⟨⟨hw693, hw690, hw1, by decide +kernel, by decide +kernel, by decide +kernel⟩, hw691, hw692⟩
theorem cw_L_93 : sCallV RL 93 yX4_lies cX4_lies 4 (some .boolean) 2 := ⟨⟨hw700, hw697, hw1, by decide +kernel, by decide +kernel, by decide +kernel⟩, hw698, hw699⟩
theorem cw_L_96 : sCallV RL 96 yX4_step cX4_step 6 (some .int) 4 := ⟨⟨hw707, hw704, hw1, by decide +kernel, by decide +kernel, by decide +kernel⟩, hw705, hw706⟩
theorem cw_L_100 : sCallV RL 100 yX4_forget cX4_forget 4 (some .int) 1 := ⟨⟨hw725, hw722, hw1, by decide +kernel, by decide +kernel, by decide +kernel⟩, hw723, hw724⟩
theorem cw_L_103 : sCallV RL 103 yX4_play cX4_play 5 (some .int) 2 := ⟨⟨hw732, hw729, hw1, by decide +kernel, by decide +kernel, by decide +kernel⟩, hw730, hw731⟩
theorem cw_L_106 : sCallV RL 106 yX4_playBoth cX4_playBoth 8 (some .int) 4 := ⟨⟨hw749, hw746, hw1, by decide +kernel, by decide +kernel, by decide +kernel⟩, hw747, hw748⟩
theorem cw_L_110 : sCallV RL 110 yX4_meet cX4_meet 4 (some .int) 2 := ⟨⟨hw764, hw761, hw1, by decide +kernel, by decide +kernel, by decide +kernel⟩, hw762, hw763⟩
theorem cw_L_113 : sCallV RL 113 yX4_opposite cX4_opposite 7 (some .int) 3 := ⟨⟨hw772, hw769, hw1, by decide +kernel, by decide +kernel, by decide +kernel⟩, hw770, hw771⟩
theorem cw_L_116 : sCallV RL 116 yX4_combine cX4_combine 6 (some .int) 3 := ⟨⟨hw780, hw777, hw1, by decide +kernel, by decide +kernel, by decide +kernel⟩, hw778, hw779⟩
theorem cw_L_119 : sCallV RL 119 yX4_fullShare cX4_fullShare 2 (some .float) 1 := ⟨⟨hw794, hw791, hw1, by decide +kernel, by decide +kernel, by decide +kernel⟩, hw792, hw793⟩
theorem cw_L_123 : sCallV RL 123 yX4_meanKey cX4_meanKey 6 (some .double) 1 := ⟨⟨hw816, hw813, hw1, by decide +kernel, by decide +kernel, by decide +kernel⟩, hw814, hw815⟩
theorem cw_L_138 : sCallV RL 138 yX5_put cX5_put 4 (some .int) 3 := ⟨⟨hw898, hw895, hw6, by decide +kernel, by decide +kernel, by decide +kernel⟩, hw896, hw897⟩
theorem cw_L_139 : sCallV RL 139 yX5_thrown cX5_thrown 1 (some .int) 0 := ⟨⟨hw894, hw891, hw6, by decide +kernel, by decide +kernel, by decide +kernel⟩, hw892, hw893⟩
theorem cw_L_145 : sCallV RL 145 yX5_value cX5_value 3 (some .int) 2 := ⟨⟨hw924, hw921, hw6, by decide +kernel, by decide +kernel, by decide +kernel⟩, hw922, hw923⟩
theorem cw_L_148 : sCallV RL 148 yX5_remove cX5_remove 3 (some .int) 2 := ⟨⟨hw928, hw925, hw6, by decide +kernel, by decide +kernel, by decide +kernel⟩, hw926, hw927⟩
theorem cw_L_152 : sCallV RL 152 yX5_near cX5_near 4 (some .int) 3 := ⟨⟨hw936, hw933, hw6, by decide +kernel, by decide +kernel, by decide +kernel⟩, hw934, hw935⟩
theorem cw_L_156 : sCallV RL 156 yX5_end cX5_end 3 (some .int) 2 := ⟨⟨hw950, hw947, hw6, by decide +kernel, by decide +kernel, by decide +kernel⟩, hw948, hw949⟩
theorem cw_L_159 : sCallV RL 159 yX5_poll cX5_poll 3 (some .int) 2 := ⟨⟨hw954, hw951, hw6, by decide +kernel, by decide +kernel, by decide +kernel⟩, hw952, hw953⟩
theorem cw_L_163 : sCallV RL 163 yX5_polled cX5_polled 1 (some .int) 0 := ⟨⟨hw962, hw959, hw6, by decide +kernel, by decide +kernel, by decide +kernel⟩, hw960, hw961⟩
theorem cw_L_166 : sCallV RL 166 yX5_drain cX5_drain 3 (some .int) 2 := ⟨⟨hw966, hw963, hw6, by decide +kernel, by decide +kernel, by decide +kernel⟩, hw964, hw965⟩
theorem cw_L_170 : sCallV RL 170 yX5_drained cX5_drained 2 (some .int) 1 := ⟨⟨hw970, hw967, hw6, by decide +kernel, by decide +kernel, by decide +kernel⟩, hw968, hw969⟩
theorem cw_L_173 : sCallV RL 173 yX5_size cX5_size 2 (some .int) 1 := ⟨⟨hw974, hw971, hw6, by decide +kernel, by decide +kernel, by decide +kernel⟩, hw972, hw973⟩
theorem cw_L_177 : sCallV RL 177 yX5_keyAt cX5_keyAt 4 (some .int) 3 := ⟨⟨hw978, hw975, hw6, by decide +kernel, by decide +kernel, by decide +kernel⟩, hw976, hw977⟩
theorem cw_L_180 : sCallV RL 180 yX5_mark cX5_mark 4 (some .int) 1 := ⟨⟨hw982, hw979, hw6, by decide +kernel, by decide +kernel, by decide +kernel⟩, hw980, hw981⟩
theorem cw_L_183 : sCallV RL 183 yX5_isLike cX5_isLike 5 (some .boolean) 2 := ⟨⟨hw986, hw983, hw6, by decide +kernel, by decide +kernel, by decide +kernel⟩, hw984, hw985⟩
theorem cw_L_187 : sCallV RL 187 yX5_open cX5_open 7 (some .int) 6 := ⟨⟨hw990, hw987, hw6, by decide +kernel, by decide +kernel, by decide +kernel⟩, hw988, hw989⟩
theorem cw_L_191 : sCallV RL 191 yX5_cut cX5_cut 6 (some .int) 5 := ⟨⟨hw1013, hw1010, hw6, by decide +kernel, by decide +kernel, by decide +kernel⟩, hw1011, hw1012⟩
theorem cw_L_194 : sCallV RL 194 yX5_viewPut cX5_viewPut 4 (some .int) 3 := ⟨⟨hw1017, hw1014, hw6, by decide +kernel, by decide +kernel, by decide +kernel⟩, hw1015, hw1016⟩
theorem cw_L_197 : sCallV RL 197 yX5_viewRemove cX5_viewRemove 4 (some .boolean) 2 := ⟨⟨hw1021, hw1018, hw6, by decide +kernel, by decide +kernel, by decide +kernel⟩, hw1019, hw1020⟩
theorem cw_L_200 : sCallV RL 200 yX5_viewNear cX5_viewNear 4 (some .int) 3 := ⟨⟨hw1025, hw1022, hw6, by decide +kernel, by decide +kernel, by decide +kernel⟩, hw1023, hw1024⟩
theorem cw_L_203 : sCallV RL 203 yX5_viewEnd cX5_viewEnd 3 (some .int) 2 := ⟨⟨hw1033, hw1030, hw6, by decide +kernel, by decide +kernel, by decide +kernel⟩, hw1031, hw1032⟩
theorem cw_L_206 : sCallV RL 206 yX5_viewPoll cX5_viewPoll 3 (some .int) 2 := ⟨⟨hw1037, hw1034, hw6, by decide +kernel, by decide +kernel, by decide +kernel⟩, hw1035, hw1036⟩
theorem cw_L_209 : sCallV RL 209 yX5_viewClear cX5_viewClear 5 (some .int) 1 := ⟨⟨hw1041, hw1038, hw6, by decide +kernel, by decide +kernel, by decide +kernel⟩, hw1039, hw1040⟩
theorem cw_L_212 : sCallV RL 212 yX5_viewSize cX5_viewSize 2 (some .int) 1 := ⟨⟨hw1045, hw1042, hw6, by decide +kernel, by decide +kernel, by decide +kernel⟩, hw1043, hw1044⟩
theorem cw_L_215 : sCallV RL 215 yX5_lies cX5_lies 3 (some .boolean) 2 := ⟨⟨hw1049, hw1046, hw6, by decide +kernel, by decide +kernel, by decide +kernel⟩, hw1047, hw1048⟩
theorem cw_L_219 : sCallV RL 219 yX5_step cX5_step 6 (some .int) 4 := ⟨⟨hw1053, hw1050, hw6, by decide +kernel, by decide +kernel, by decide +kernel⟩, hw1051, hw1052⟩
theorem cw_L_222 : sCallV RL 222 yX5_forget cX5_forget 3 (some .int) 1 := ⟨⟨hw1064, hw1061, hw6, by decide +kernel, by decide +kernel, by decide +kernel⟩, hw1062, hw1063⟩
theorem cw_L_225 : sCallV RL 225 yX5_play cX5_play 5 (some .int) 2 := ⟨⟨hw1068, hw1065, hw6, by decide +kernel, by decide +kernel, by decide +kernel⟩, hw1066, hw1067⟩
theorem cw_L_229 : sCallV RL 229 yX5_playBoth cX5_playBoth 10 (some .int) 4 := ⟨⟨hw1084, hw1081, hw6, by decide +kernel, by decide +kernel, by decide +kernel⟩, hw1082, hw1083⟩
theorem cw_L_232 : sCallV RL 232 yX5_meet cX5_meet 5 (some .int) 2 := ⟨⟨hw1088, hw1085, hw6, by decide +kernel, by decide +kernel, by decide +kernel⟩, hw1086, hw1087⟩
theorem cw_L_235 : sCallV RL 235 yX5_opposite cX5_opposite 6 (some .int) 3 := ⟨⟨hw1096, hw1093, hw6, by decide +kernel, by decide +kernel, by decide +kernel⟩, hw1094, hw1095⟩
theorem cw_L_238 : sCallV RL 238 yX5_combine cX5_combine 11 (some .int) 3 := ⟨⟨hw1100, hw1097, hw6, by decide +kernel, by decide +kernel, by decide +kernel⟩, hw1098, hw1099⟩
theorem cw_L_242 : sCallV RL 242 yX5_fullShare cX5_fullShare 2 (some .float) 1 := ⟨⟨hw1108, hw1105, hw6, by decide +kernel, by decide +kernel, by decide +kernel⟩, hw1106, hw1107⟩
theorem cw_L_245 : sCallV RL 245 yX5_meanKey cX5_meanKey 5 (some .double) 1 := ⟨⟨hw1113, hw1110, hw6, by decide +kernel, by decide +kernel, by decide +kernel⟩, hw1111, hw1112⟩
theorem cw_L_246 : sCallV RL 246 yX4_checksum cX4_checksum 4 (some .long) 0 := ⟨⟨hw155, hw152, hw1, by decide +kernel, by decide +kernel, by decide +kernel⟩, hw153, hw154⟩
theorem cw_L_250 : sCallV RL 250 yX5_checksum cX5_checksum 6 (some .long) 0 := ⟨⟨hw1117, hw1114, hw6, by decide +kernel, by decide +kernel, by decide +kernel⟩, hw1115, hw1116⟩
theorem cw_L_251 : sCallV RL 251 yX4_isSound cX4_isSound 1 (some .boolean) 0 := ⟨⟨hw202, hw199, hw1, by decide +kernel, by decide +kernel, by decide +kernel⟩, hw200, hw201⟩
theorem cw_L_255 : sCallV RL 255 yX5_isSound cX5_isSound 1 (some .boolean) 0 := ⟨⟨hw1123, hw1120, hw6, by decide +kernel, by decide +kernel, by decide +kernel⟩, hw1121, hw1122⟩
theorem cw_X0_35 : sCallV RX0 35 yX1_addKeysTo cX1_addKeysTo 3 none 1 := ⟨⟨hw280, hw277, hw4, by decide +kernel, by decide +kernel, by decide +kernel⟩, hw278, hw279⟩
theorem cw_X0_39 : sCallV RX0 39 yX0_countKeys cX0_countKeys 3 (some .int) 2 := ⟨⟨hw276, hw273, hw2, by decide +kernel, by decide +kernel, by decide +kernel⟩, hw274, hw275⟩
theorem cw_X0_43 : sCallV RX0 43 yX2_countMissingIn cX2_countMissingIn 4 (some .int) 1 := ⟨⟨hw740, hw737, hw3, by decide +kernel, by decide +kernel, by decide +kernel⟩, hw738, hw739⟩
theorem cw_X0_52 : sCallV RX0 52 yX2_placeOf cX2_placeOf 3 (some .int) 1 := ⟨⟨hw301, hw320, hw3, by decide +kernel, by decide +kernel, by decide +kernel⟩, hw299, hw300⟩
theorem cw_X0_56 : sCallV RX0 56 yX1_add cX1_add 4 none 3 := ⟨⟨hw324, hw321, hw4, by decide +kernel, by decide +kernel, by decide +kernel⟩, hw322, hw323⟩
theorem cw_X0_63 : sCallS RX0 63 yX0_isSplitSound cX0_isSplitSound 6 (some .boolean) 3 := ⟨⟨hw213, hw211, hw2, by decide +kernel, by decide +kernel, by decide +kernel⟩, hw212⟩
theorem cw_X0_67 : sCallV RX0 67 yX2_placeNear cX2_placeNear 7 (some .int) 4 := ⟨⟨hw217, hw214, hw3, by decide +kernel, by decide +kernel, by decide +kernel⟩, hw215, hw216⟩
theorem cw_X0_71 : sCallS RX0 71 yX0_isBelow cX0_isBelow 3 (some .boolean) 3 := ⟨⟨hw225, hw223, hw2, by decide +kernel, by decide +kernel, by decide +kernel⟩, hw224⟩
theorem cw_X0_75 : sCallV RX0 75 yX0_arePollsSoundFrom cX0_arePollsSoundFrom 5 (some .boolean) 2 := ⟨⟨hw233, hw230, hw2, by decide +kernel, by decide +kernel, by decide +kernel⟩, hw232, hp1⟩
theorem cw_X0_79 : sCallV RX0 79 yX2_becomeCopy cX2_becomeCopy 2 none 1 := ⟨⟨hw237, hw234, hw3, by decide +kernel, by decide +kernel, by decide +kernel⟩, hw235, hw236⟩
theorem cw_X0_82 : sCallV RX0 82 yX2_hasSameAt cX2_hasSameAt 4 (some .boolean) 3 := ⟨⟨hw244, hw241, hw3, by decide +kernel, by decide +kernel, by decide +kernel⟩, hw242, hw243⟩
theorem cw_X0_86 : sCallV RX0 86 yX2_dropPlaces cX2_dropPlaces 3 none 2 := ⟨⟨hw248, hw245, hw3, by decide +kernel, by decide +kernel, by decide +kernel⟩, hw246, hw247⟩
theorem cw_X0_90 : sCallV RX0 90 yX0_countCommonKeys cX0_countCommonKeys 3 (some .int) 2 := ⟨⟨hw272, hw269, hw2, by decide +kernel, by decide +kernel, by decide +kernel⟩, hw270, hw271⟩
theorem cw_X0_93 : sCallV RX0 93 yX1_playOn cX1_playOn 4 (some .int) 1 := ⟨⟨hw288, hw285, hw4, by decide +kernel, by decide +kernel, by decide +kernel⟩, hw286, hw287⟩
theorem cw_X0_96 : sCallV RX0 96 yX2_isSame cX2_isSame 3 (some .boolean) 1 := ⟨⟨hw306, hw303, hw3, by decide +kernel, by decide +kernel, by decide +kernel⟩, hw304, hw305⟩
theorem cw_X0_100 : sCallV RX0 100 yX0_turnRound cX0_turnRound 7 none 3 := ⟨⟨hw319, hw316, hw2, by decide +kernel, by decide +kernel, by decide +kernel⟩, hw317, hw318⟩
theorem cw_X0_104 : sCallV RX0 104 yX2_takeIn cX2_takeIn 7 none 2 := ⟨⟨hw336, hw333, hw3, by decide +kernel, by decide +kernel, by decide +kernel⟩, hw334, hw335⟩
theorem cw_X1_26 : sCallV RX1 26 yX2_change cX2_change 5 (some .boolean) 3 := ⟨⟨hw292, hw289, hw3, by decide +kernel, by decide +kernel, by decide +kernel⟩, hw290, hw291⟩
theorem cw_X1_32 : sCallV RX1 32 yX2_set cX2_set 5 (some .boolean) 2 := ⟨⟨hw284, hw281, hw3, by decide +kernel, by decide +kernel, by decide +kernel⟩, hw282, hw283⟩
theorem cw_X2_22 : sCallV RX2 22 yX2_countBelow cX2_countBelow 5 (some .int) 1 := ⟨⟨hw181, hw178, hw3, by decide +kernel, by decide +kernel, by decide +kernel⟩, hw179, hw180⟩
theorem cw_X2_26 : sCallV RX2 26 yX2_countUpTo cX2_countUpTo 3 (some .int) 1 := ⟨⟨hw177, hw218, hw3, by decide +kernel, by decide +kernel, by decide +kernel⟩, hw175, hw176⟩
theorem cw_X2_44 : sCallV RX2 44 yX2_dropPlaces cX2_dropPlaces 3 none 2 := ⟨⟨hw248, hw297, hw3, by decide +kernel, by decide +kernel, by decide +kernel⟩, hw246, hw247⟩
theorem cw_X2_48 : sCallV RX2 48 yX2_drop cX2_drop 3 (some .boolean) 1 := ⟨⟨hw296, hw293, hw3, by decide +kernel, by decide +kernel, by decide +kernel⟩, hw294, hw295⟩
theorem cw_X2_52 : sCallV RX2 52 yX2_placeOf cX2_placeOf 3 (some .int) 1 := ⟨⟨hw301, hw298, hw3, by decide +kernel, by decide +kernel, by decide +kernel⟩, hw299, hw300⟩
theorem cw_X2_55 : sCallV RX2 55 yX2_set cX2_set 5 (some .boolean) 2 := ⟨⟨hw284, hw302, hw3, by decide +kernel, by decide +kernel, by decide +kernel⟩, hw282, hw283⟩
theorem cw_X2_59 : sCallS RX2 59 yX2_mix cX2_mix 3 (some .int) 3 := ⟨⟨hw339, hw337, hw3, by decide +kernel, by decide +kernel, by decide +kernel⟩, hw338⟩
theorem cw_X2_63 : sCallV RX2 63 yX2_hasSameAt cX2_hasSameAt 4 (some .boolean) 3 := ⟨⟨hw244, hw307, hw3, by decide +kernel, by decide +kernel, by decide +kernel⟩, hw242, hw243⟩
theorem cw_X3_30 : sCallV RX3 30 yX2_countBelow cX2_countBelow 5 (some .int) 1 := ⟨⟨hw181, hw182, hw3, by decide +kernel, by decide +kernel, by decide +kernel⟩, hw179, hw180⟩
theorem cw_X3_36 : sCallV RX3 36 yX2_countUpTo cX2_countUpTo 3 (some .int) 1 := ⟨⟨hw177, hw174, hw3, by decide +kernel, by decide +kernel, by decide +kernel⟩, hw175, hw176⟩
theorem cw_X3_39 : sCallV RX3 39 yX3_beginIn cX3_beginIn 2 (some .int) 1 := ⟨⟨hw186, hw183, hw5, by decide +kernel, by decide +kernel, by decide +kernel⟩, hw184, hw185⟩
theorem cw_X3_49 : sCallV RX3 49 yX3_stopIn cX3_stopIn 3 (some .int) 1 := ⟨⟨hw173, hw170, hw5, by decide +kernel, by decide +kernel, by decide +kernel⟩, hw171, hw172⟩
theorem cw_X3_59 : sCallV RX3 59 yX3_covers cX3_covers 4 (some .boolean) 1 := ⟨⟨hw260, hw257, hw5, by decide +kernel, by decide +kernel, by decide +kernel⟩, hw258, hw259⟩
theorem cw_X3_69 : sCallV RX3 69 yX3_countEntries cX3_countEntries 2 (some .int) 0 := ⟨⟨hw193, hw190, hw5, by decide +kernel, by decide +kernel, by decide +kernel⟩, hw191, hw192⟩
theorem cw_X4_41 : sCallV RX4 41 yX4_mapAt cX4_mapAt 2 (some (.object "Spanwarden$Table")) 1 := ⟨⟨hw430, hw427, hw1, by decide +kernel, by decide +kernel, by decide +kernel⟩, hw429, hp7⟩
theorem cw_X4_45 : sCallS RX4 45 yX4_putWithin cX4_putWithin 3 none 3 := ⟨⟨hw446, hw444, hw1, by decide +kernel, by decide +kernel, by decide +kernel⟩, hw445⟩
theorem cw_X4_53 : sCallV RX4 53 yX2_placeOf cX2_placeOf 3 (some .int) 1 := ⟨⟨hw301, hw447, hw3, by decide +kernel, by decide +kernel, by decide +kernel⟩, hw299, hw300⟩
theorem cw_X4_67 : sCallV RX4 67 yX2_drop cX2_drop 3 (some .boolean) 1 := ⟨⟨hw296, hw496, hw3, by decide +kernel, by decide +kernel, by decide +kernel⟩, hw294, hw295⟩
theorem cw_X4_71 : sCallS RX4 71 yX4_isNearWay cX4_isNearWay 1 (some .boolean) 1 := ⟨⟨hw507, hw505, hw1, by decide +kernel, by decide +kernel, by decide +kernel⟩, hw506⟩
theorem cw_X4_80 : sCallV RX4 80 yX2_placeNear cX2_placeNear 7 (some .int) 4 := ⟨⟨hw217, hw524, hw3, by decide +kernel, by decide +kernel, by decide +kernel⟩, hw215, hw216⟩
theorem cw_X4_89 : sCallS RX4 89 yX4_endPlace cX4_endPlace 3 (some .int) 3 := ⟨⟨hw535, hw533, hw1, by decide +kernel, by decide +kernel, by decide +kernel⟩, hw534⟩
theorem cw_X4_93 : sCallV RX4 93 yX4_pollAt cX4_pollAt 4 (some .int) 2 := ⟨⟨hw547, hw544, hw1, by decide +kernel, by decide +kernel, by decide +kernel⟩, hw546, hp8⟩
theorem cw_X4_116 : sCallV RX4 116 yX2_isSame cX2_isSame 3 (some .boolean) 1 := ⟨⟨hw306, hw601, hw3, by decide +kernel, by decide +kernel, by decide +kernel⟩, hw304, hw305⟩
theorem cw_X4_120 : sCallV RX4 120 yX4_viewAt cX4_viewAt 2 (some (.object "Spanwarden$View")) 1 := ⟨⟨hw612, hw609, hw1, by decide +kernel, by decide +kernel, by decide +kernel⟩, hw611, hp9⟩
theorem cw_X4_126 : sCallV RX4 126 yX3_becomeSpan cX3_becomeSpan 6 none 5 := ⟨⟨hw618, hw615, hw5, by decide +kernel, by decide +kernel, by decide +kernel⟩, hw616, hw617⟩
theorem cw_X4_130 : sCallV RX4 130 yX3_countEntries cX3_countEntries 2 (some .int) 0 := ⟨⟨hw193, hw619, hw5, by decide +kernel, by decide +kernel, by decide +kernel⟩, hw191, hw192⟩
theorem cw_X4_134 : sCallS RX4 134 yX4_refuseClosed cX4_refuseClosed 1 none 1 := ⟨⟨hw629, hw627, hw1, by decide +kernel, by decide +kernel, by decide +kernel⟩, hw628⟩
theorem cw_X4_138 : sCallV RX4 138 yX3_covers cX3_covers 4 (some .boolean) 1 := ⟨⟨hw260, hw631, hw5, by decide +kernel, by decide +kernel, by decide +kernel⟩, hw258, hw259⟩
theorem cw_X4_151 : sCallV RX4 151 yX3_becomeCut cX3_becomeCut 5 none 4 := ⟨⟨hw637, hw634, hw5, by decide +kernel, by decide +kernel, by decide +kernel⟩, hw635, hw636⟩
theorem cw_X4_155 : sCallS RX4 155 yX4_sourceOf cX4_sourceOf 1 (some (.object "Spanwarden$Table")) 1 := ⟨⟨hw647, hw645, hw1, by decide +kernel, by decide +kernel, by decide +kernel⟩, hw646⟩
theorem cw_X4_161 : sCallV RX4 161 yX3_beginIn cX3_beginIn 2 (some .int) 1 := ⟨⟨hw186, hw663, hw5, by decide +kernel, by decide +kernel, by decide +kernel⟩, hw184, hw185⟩
theorem cw_X4_165 : sCallV RX4 165 yX3_stopIn cX3_stopIn 3 (some .int) 1 := ⟨⟨hw173, hw664, hw5, by decide +kernel, by decide +kernel, by decide +kernel⟩, hw171, hw172⟩
theorem cw_X4_170 : sCallV RX4 170 yX2_dropPlaces cX2_dropPlaces 3 none 2 := ⟨⟨hw248, hw548, hw3, by decide +kernel, by decide +kernel, by decide +kernel⟩, hw246, hw247⟩
theorem cw_X4_174 : sCallV RX4 174 yX4_historyAt cX4_historyAt 2 (some (.object "Spanwarden$History")) 1 := ⟨⟨hw711, hw708, hw1, by decide +kernel, by decide +kernel, by decide +kernel⟩, hw710, hp10⟩
theorem cw_X4_178 : sCallS RX4 178 yX4_isStepKind cX4_isStepKind 1 (some .boolean) 1 := ⟨⟨hw715, hw713, hw1, by decide +kernel, by decide +kernel, by decide +kernel⟩, hw714⟩
theorem cw_X4_186 : sCallV RX4 186 yX1_add cX1_add 4 none 3 := ⟨⟨hw324, hw718, hw4, by decide +kernel, by decide +kernel, by decide +kernel⟩, hw322, hw323⟩
theorem cw_X4_190 : sCallV RX4 190 yX0_hasRoom cX0_hasRoom 4 (some .boolean) 3 := ⟨⟨hw736, hw733, hw2, by decide +kernel, by decide +kernel, by decide +kernel⟩, hw734, hw735⟩
theorem cw_X4_196 : sCallV RX4 196 yX1_playOn cX1_playOn 4 (some .int) 1 := ⟨⟨hw288, hw742, hw4, by decide +kernel, by decide +kernel, by decide +kernel⟩, hw286, hw287⟩
theorem cw_X4_201 : sCallS RX4 201 yX4_playByTurns cX4_playByTurns 9 none 4 := ⟨⟨hw753, hw751, hw1, by decide +kernel, by decide +kernel, by decide +kernel⟩, hw752⟩
theorem cw_X4_205 : sCallV RX4 205 yX0_countCommonKeys cX0_countCommonKeys 3 (some .int) 2 := ⟨⟨hw272, hw765, hw2, by decide +kernel, by decide +kernel, by decide +kernel⟩, hw270, hw271⟩
theorem cw_X4_209 : sCallV RX4 209 yX0_turnRound cX0_turnRound 7 none 3 := ⟨⟨hw319, hw773, hw2, by decide +kernel, by decide +kernel, by decide +kernel⟩, hw317, hw318⟩
theorem cw_X4_213 : sCallS RX4 213 yX4_isMixWay cX4_isMixWay 1 (some .boolean) 1 := ⟨⟨hw783, hw781, hw1, by decide +kernel, by decide +kernel, by decide +kernel⟩, hw782⟩
theorem cw_X4_218 : sCallV RX4 218 yX2_countMissingIn cX2_countMissingIn 4 (some .int) 1 := ⟨⟨hw740, hw785, hw3, by decide +kernel, by decide +kernel, by decide +kernel⟩, hw738, hw739⟩
theorem cw_X4_223 : sCallV RX4 223 yX2_takeIn cX2_takeIn 7 none 2 := ⟨⟨hw336, hw787, hw3, by decide +kernel, by decide +kernel, by decide +kernel⟩, hw334, hw335⟩
theorem cw_X4_235 : sCallV RX4 235 yX2_addTo cX2_addTo 4 (some .long) 1 := ⟨⟨hw160, hw157, hw3, by decide +kernel, by decide +kernel, by decide +kernel⟩, hw158, hw159⟩
theorem cw_X4_239 : sCallV RX4 239 yX3_addTo cX3_addTo 6 (some .long) 1 := ⟨⟨hw168, hw165, hw5, by decide +kernel, by decide +kernel, by decide +kernel⟩, hw166, hw167⟩
theorem cw_X4_240 : sCallV RX4 240 yX1_addTo cX1_addTo 4 (some .long) 1 := ⟨⟨hw197, hw194, hw4, by decide +kernel, by decide +kernel, by decide +kernel⟩, hw195, hw196⟩
theorem cw_X4_241 : sCallV RX4 241 yX4_areMapsSound cX4_areMapsSound 2 (some .boolean) 0 := ⟨⟨hw206, hw203, hw1, by decide +kernel, by decide +kernel, by decide +kernel⟩, hw205, hp0⟩
theorem cw_X4_245 : sCallV RX4 245 yX4_areViewsSound cX4_areViewsSound 2 (some .boolean) 0 := ⟨⟨hw252, hw249, hw1, by decide +kernel, by decide +kernel, by decide +kernel⟩, hw251, hp2⟩
theorem cw_X4_248 : sCallV RX4 248 yX4_areOrdersFree cX4_areOrdersFree 4 (some .boolean) 0 := ⟨⟨hw264, hw261, hw1, by decide +kernel, by decide +kernel, by decide +kernel⟩, hw263, hp3⟩
theorem cw_X4_251 : sCallV RX4 251 yX4_areOppositesSound cX4_areOppositesSound 3 (some .boolean) 0 := ⟨⟨hw311, hw308, hw1, by decide +kernel, by decide +kernel, by decide +kernel⟩, hw310, hp4⟩
theorem cw_X4_254 : sCallV RX4 254 yX4_areMixesSound cX4_areMixesSound 3 (some .boolean) 0 := ⟨⟨hw328, hw325, hw1, by decide +kernel, by decide +kernel, by decide +kernel⟩, hw327, hp5⟩
theorem cw_X4_257 : sCallV RX4 257 yX0_areNearKeysSound cX0_areNearKeysSound 5 (some .boolean) 1 := ⟨⟨hw210, hw207, hw2, by decide +kernel, by decide +kernel, by decide +kernel⟩, hw208, hw209⟩
theorem cw_X4_260 : sCallV RX4 260 yX0_arePollsSound cX0_arePollsSound 2 (some .boolean) 1 := ⟨⟨hw229, hw226, hw2, by decide +kernel, by decide +kernel, by decide +kernel⟩, hw227, hw228⟩
theorem cw_X4_263 : sCallV RX4 263 yX3_hasJustItsSpan cX3_hasJustItsSpan 6 (some .boolean) 0 := ⟨⟨hw256, hw253, hw5, by decide +kernel, by decide +kernel, by decide +kernel⟩, hw254, hw255⟩
theorem cw_X4_266 : sCallV RX4 266 yX0_isOrderFree cX0_isOrderFree 4 (some .boolean) 3 := ⟨⟨hw268, hw265, hw2, by decide +kernel, by decide +kernel, by decide +kernel⟩, hw266, hw267⟩
theorem cw_X4_270 : sCallV RX4 270 yX0_isUndone cX0_isUndone 3 (some .boolean) 2 := ⟨⟨hw315, hw312, hw2, by decide +kernel, by decide +kernel, by decide +kernel⟩, hw313, hw314⟩
theorem cw_X4_274 : sCallV RX4 274 yX0_isMixAlike cX0_isMixAlike 4 (some .boolean) 3 := ⟨⟨hw332, hw329, hw2, by decide +kernel, by decide +kernel, by decide +kernel⟩, hw330, hw331⟩
theorem cw_X4_294 : sCallV RX4 294 yX2_set cX2_set 5 (some .boolean) 2 := ⟨⟨hw284, hw464, hw3, by decide +kernel, by decide +kernel, by decide +kernel⟩, hw282, hw283⟩
theorem cw_X4_298 : sCallV RX4 298 yX1_doStep cX1_doStep 3 none 2 := ⟨⟨hw757, hw754, hw4, by decide +kernel, by decide +kernel, by decide +kernel⟩, hw755, hw756⟩
theorem cw_X5_64 : sCallS RX5 64 yX5_in cX5_in 3 (some .boolean) 3 := ⟨⟨hw904, hw902, hw6, by decide +kernel, by decide +kernel, by decide +kernel⟩, hw903⟩
theorem cw_X5_68 : sCallV RX5 68 yX5_placeOf cX5_placeOf 4 (some .int) 2 := ⟨⟨hw912, hw909, hw6, by decide +kernel, by decide +kernel, by decide +kernel⟩, hw911, hp12⟩
theorem cw_X5_79 : sCallV RX5 79 yX5_takes cX5_takes 4 none 2 := ⟨⟨hw932, hw929, hw6, by decide +kernel, by decide +kernel, by decide +kernel⟩, hw931, hp15⟩
theorem cw_X5_83 : sCallS RX5 83 yX5_isOnSide cX5_isOnSide 3 (some .boolean) 3 := ⟨⟨hw946, hw944, hw6, by decide +kernel, by decide +kernel, by decide +kernel⟩, hw945⟩
theorem cw_X5_87 : sCallS RX5 87 yX5_isMap cX5_isMap 1 (some .boolean) 1 := ⟨⟨hw901, hw899, hw6, by decide +kernel, by decide +kernel, by decide +kernel⟩, hw900⟩
theorem cw_X5_91 : sCallV RX5 91 yX5_has cX5_has 3 (some .boolean) 2 := ⟨⟨hw908, hw905, hw6, by decide +kernel, by decide +kernel, by decide +kernel⟩, hw907, hp11⟩
theorem cw_X5_95 : sCallV RX5 95 yX5_refused cX5_refused 2 (some .boolean) 1 := ⟨⟨hw916, hw913, hw6, by decide +kernel, by decide +kernel, by decide +kernel⟩, hw915, hp13⟩
theorem cw_X5_98 : sCallV RX5 98 yX5_puts cX5_puts 6 none 3 := ⟨⟨hw920, hw917, hw6, by decide +kernel, by decide +kernel, by decide +kernel⟩, hw919, hp14⟩
theorem cw_X5_102 : sCallS RX5 102 yX5_isWay cX5_isWay 1 (some .boolean) 1 := ⟨⟨hw939, hw937, hw6, by decide +kernel, by decide +kernel, by decide +kernel⟩, hw938⟩
theorem cw_X5_106 : sCallV RX5 106 yX5_nearAt cX5_nearAt 9 (some .int) 5 := ⟨⟨hw943, hw940, hw6, by decide +kernel, by decide +kernel, by decide +kernel⟩, hw942, hp16⟩
theorem cw_X5_110 : sCallV RX5 110 yX5_pollsAt cX5_pollsAt 4 (some .int) 2 := ⟨⟨hw958, hw955, hw6, by decide +kernel, by decide +kernel, by decide +kernel⟩, hw957, hp17⟩
theorem cw_X5_116 : sCallV RX5 116 yX5_firstOf cX5_firstOf 4 (some .int) 1 := ⟨⟨hw1005, hw1002, hw6, by decide +kernel, by decide +kernel, by decide +kernel⟩, hw1004, hp20⟩
theorem cw_X5_120 : sCallV RX5 120 yX5_isIn cX5_isIn 5 (some .boolean) 2 := ⟨⟨hw1009, hw1006, hw6, by decide +kernel, by decide +kernel, by decide +kernel⟩, hw1008, hp21⟩
theorem cw_X5_123 : sCallV RX5 123 yX5_behindOf cX5_behindOf 4 (some .int) 1 := ⟨⟨hw1001, hw998, hw6, by decide +kernel, by decide +kernel, by decide +kernel⟩, hw1000, hp19⟩
theorem cw_X5_126 : sCallS RX5 126 yX5_isView cX5_isView 1 (some .boolean) 1 := ⟨⟨hw993, hw991, hw6, by decide +kernel, by decide +kernel, by decide +kernel⟩, hw992⟩
theorem cw_X5_129 : sCallV RX5 129 yX5_manyOf cX5_manyOf 2 (some .int) 1 := ⟨⟨hw997, hw994, hw6, by decide +kernel, by decide +kernel, by decide +kernel⟩, hw996, hp18⟩
theorem cw_X5_132 : sCallV RX5 132 yX5_viewNearAt cX5_viewNearAt 4 (some .int) 3 := ⟨⟨hw1029, hw1026, hw6, by decide +kernel, by decide +kernel, by decide +kernel⟩, hw1028, hp22⟩
theorem cw_X5_136 : sCallS RX5 136 yX5_isHistory cX5_isHistory 1 (some .boolean) 1 := ⟨⟨hw1056, hw1054, hw6, by decide +kernel, by decide +kernel, by decide +kernel⟩, hw1055⟩
theorem cw_X5_139 : sCallV RX5 139 yX5_adds cX5_adds 6 none 4 := ⟨⟨hw1060, hw1057, hw6, by decide +kernel, by decide +kernel, by decide +kernel⟩, hw1059, hp23⟩
theorem cw_X5_146 : sCallV RX5 146 yX5_gathers cX5_gathers 8 none 2 := ⟨⟨hw1076, hw1073, hw6, by decide +kernel, by decide +kernel, by decide +kernel⟩, hw1075, hp25⟩
theorem cw_X5_149 : sCallV RX5 149 yX5_isTooMuch cX5_isTooMuch 4 (some .boolean) 3 := ⟨⟨hw1072, hw1069, hw6, by decide +kernel, by decide +kernel, by decide +kernel⟩, hw1071, hp24⟩
theorem cw_X5_152 : sCallV RX5 152 yX5_does cX5_does 9 (some .boolean) 2 := ⟨⟨hw1080, hw1077, hw6, by decide +kernel, by decide +kernel, by decide +kernel⟩, hw1079, hp26⟩
theorem cw_X5_155 : sCallV RX5 155 yX5_hasKey cX5_hasKey 5 (some .boolean) 2 := ⟨⟨hw1092, hw1089, hw6, by decide +kernel, by decide +kernel, by decide +kernel⟩, hw1091, hp27⟩
theorem cw_X5_158 : sCallV RX5 158 yX5_manyTogether cX5_manyTogether 5 (some .int) 2 := ⟨⟨hw1104, hw1101, hw6, by decide +kernel, by decide +kernel, by decide +kernel⟩, hw1103, hp28⟩
abbrev nseeRx : ByteArray := prog_20_method_4_code
theorem nsee0 : decode nseeRx 0 = .ok (.aload_n 0, 1) := by decide +kernel
theorem nsee1 : decode nseeRx 1 = .ok (.aload_n 1, 1) := by decide +kernel
theorem nsee2 : decode nseeRx 2 = .ok (.invokespecial 13, 3) := by decide +kernel
theorem nsee5 : decode nseeRx 5 = .ok (.return_, 1) := by decide +kernel
theorem at_X4_61_g : ∀ w ∈ (nx_at RX4 61 "java/util/NoSuchElementException" 13 nseeRx ["java/lang/RuntimeException", "java/lang/Exception"]).filter goodWord, w ∈ sT := fun w h => List.mem_filter.mpr ⟨(by decide +kernel : ∀ w ∈ (nx_at RX4 61 "java/util/NoSuchElementException" 13 nseeRx ["java/lang/RuntimeException", "java/lang/Exception"]).filter goodWord, w ∈ lw_tbl) w h, (List.mem_filter.mp h).2⟩
theorem at_X4_61_n : ∀ w ∈ (nx_at RX4 61 "java/util/NoSuchElementException" 13 nseeRx ["java/lang/RuntimeException", "java/lang/Exception"]).filter (fun w => !goodWord w), w ∈ sThrW "java/util/NoSuchElementException" := by decide +kernel
theorem at_X4_61_o : ∀ w ∈ nx_at RX4 61 "java/util/NoSuchElementException" 13 nseeRx ["java/lang/RuntimeException", "java/lang/Exception"], vx_ot w = true := by decide +kernel
theorem at_X4_79_g : ∀ w ∈ (vx_atS RX4 79 "java/lang/IllegalArgumentException" ["java/lang/RuntimeException", "java/lang/Exception"]).filter goodWord, w ∈ sT := fun w h => List.mem_filter.mpr ⟨(by decide +kernel : ∀ w ∈ (vx_atS RX4 79 "java/lang/IllegalArgumentException" ["java/lang/RuntimeException", "java/lang/Exception"]).filter goodWord, w ∈ lw_tbl) w h, (List.mem_filter.mp h).2⟩
theorem at_X4_79_n : ∀ w ∈ (vx_atS RX4 79 "java/lang/IllegalArgumentException" ["java/lang/RuntimeException", "java/lang/Exception"]).filter (fun w => !goodWord w), w ∈ sThrW "java/lang/IllegalArgumentException" := by decide +kernel
theorem at_X4_79_o : ∀ w ∈ vx_atS RX4 79 "java/lang/IllegalArgumentException" ["java/lang/RuntimeException", "java/lang/Exception"], vx_ot w = true := by decide +kernel
theorem at_X4_113_g : ∀ w ∈ (vx_atS RX4 113 "java/lang/IndexOutOfBoundsException" ["java/lang/RuntimeException", "java/lang/Exception"]).filter goodWord, w ∈ sT := fun w h => List.mem_filter.mpr ⟨(by decide +kernel : ∀ w ∈ (vx_atS RX4 113 "java/lang/IndexOutOfBoundsException" ["java/lang/RuntimeException", "java/lang/Exception"]).filter goodWord, w ∈ lw_tbl) w h, (List.mem_filter.mp h).2⟩
theorem at_X4_113_n : ∀ w ∈ (vx_atS RX4 113 "java/lang/IndexOutOfBoundsException" ["java/lang/RuntimeException", "java/lang/Exception"]).filter (fun w => !goodWord w), w ∈ sThrW "java/lang/IndexOutOfBoundsException" := by decide +kernel
theorem at_X4_113_o : ∀ w ∈ vx_atS RX4 113 "java/lang/IndexOutOfBoundsException" ["java/lang/RuntimeException", "java/lang/Exception"], vx_ot w = true := by decide +kernel
theorem at_X4_150_g : ∀ w ∈ (vx_atS RX4 150 "java/lang/IllegalStateException" ["java/lang/RuntimeException", "java/lang/Exception"]).filter goodWord, w ∈ sT := fun w h => List.mem_filter.mpr ⟨(by decide +kernel : ∀ w ∈ (vx_atS RX4 150 "java/lang/IllegalStateException" ["java/lang/RuntimeException", "java/lang/Exception"]).filter goodWord, w ∈ lw_tbl) w h, (List.mem_filter.mp h).2⟩
theorem at_X4_150_n : ∀ w ∈ (vx_atS RX4 150 "java/lang/IllegalStateException" ["java/lang/RuntimeException", "java/lang/Exception"]).filter (fun w => !goodWord w), w ∈ sThrW "java/lang/IllegalStateException" := by decide +kernel
theorem at_X4_150_o : ∀ w ∈ vx_atS RX4 150 "java/lang/IllegalStateException" ["java/lang/RuntimeException", "java/lang/Exception"], vx_ot w = true := by decide +kernel
theorem at_X4_232_g : ∀ w ∈ (vx_atS RX4 232 "java/lang/ArithmeticException" ["java/lang/RuntimeException", "java/lang/Exception"]).filter goodWord, w ∈ sT := fun w h => List.mem_filter.mpr ⟨(by decide +kernel : ∀ w ∈ (vx_atS RX4 232 "java/lang/ArithmeticException" ["java/lang/RuntimeException", "java/lang/Exception"]).filter goodWord, w ∈ lw_tbl) w h, (List.mem_filter.mp h).2⟩
theorem at_X4_232_n : ∀ w ∈ (vx_atS RX4 232 "java/lang/ArithmeticException" ["java/lang/RuntimeException", "java/lang/Exception"]).filter (fun w => !goodWord w), w ∈ sThrW "java/lang/ArithmeticException" := by decide +kernel
theorem at_X4_232_o : ∀ w ∈ vx_atS RX4 232 "java/lang/ArithmeticException" ["java/lang/RuntimeException", "java/lang/Exception"], vx_ot w = true := by decide +kernel
