theorem zw1_10 : Cond.initialized RJ9 ∈ zWL := zw_in (zw_1 (List.mem_of_getElem? (i := 10) (by decide +kernel))) rfl
theorem zw1_100 : Cond.fieldLink RX5 21 "LockerChains$Person" "renewals" "I" ∈ zWL := zw_in (zw_1 (List.mem_of_getElem? (i := 100) (by decide +kernel))) rfl
theorem zw1_103 : Cond.fieldLink RX5 24 "LockerChains$Person" "owed" "I" ∈ zWL := zw_in (zw_1 (List.mem_of_getElem? (i := 103) (by decide +kernel))) rfl
theorem zw1_105 : Cond.fieldLink RX5 27 "LockerChains$Person" "paid" "I" ∈ zWL := zw_in (zw_1 (List.mem_of_getElem? (i := 105) (by decide +kernel))) rfl
theorem zw1_107 : Cond.fieldLink RX5 30 "LockerChains$Person" "keysLost" "I" ∈ zWL := zw_in (zw_1 (List.mem_of_getElem? (i := 107) (by decide +kernel))) rfl
theorem zw1_109 : Cond.fieldLink RX5 33 "LockerChains$Person" "lockersOpened" "I" ∈ zWL := zw_in (zw_1 (List.mem_of_getElem? (i := 109) (by decide +kernel))) rfl
theorem zw1_111 : Cond.laysFinal "LockerChains$Person" "LockerChains$Person" "number" "I" ∈ zWL := zw_in (zw_1 (List.mem_of_getElem? (i := 111) (by decide +kernel))) rfl
theorem zw1_113 : Cond.lays "LockerChains$Person" "LockerChains$Person" "locker" "I" ∈ zWL := zw_in (zw_1 (List.mem_of_getElem? (i := 113) (by decide +kernel))) rfl
theorem zw1_115 : Cond.lays "LockerChains$Person" "LockerChains$Person" "due" "I" ∈ zWL := zw_in (zw_1 (List.mem_of_getElem? (i := 115) (by decide +kernel))) rfl
theorem zw1_117 : Cond.lays "LockerChains$Person" "LockerChains$Person" "renewals" "I" ∈ zWL := zw_in (zw_1 (List.mem_of_getElem? (i := 117) (by decide +kernel))) rfl
theorem zw1_119 : Cond.lays "LockerChains$Person" "LockerChains$Person" "owed" "I" ∈ zWL := zw_in (zw_1 (List.mem_of_getElem? (i := 119) (by decide +kernel))) rfl
theorem zw1_121 : Cond.lays "LockerChains$Person" "LockerChains$Person" "paid" "I" ∈ zWL := zw_in (zw_1 (List.mem_of_getElem? (i := 121) (by decide +kernel))) rfl
theorem zw1_123 : Cond.lays "LockerChains$Person" "LockerChains$Person" "keysLost" "I" ∈ zWL := zw_in (zw_1 (List.mem_of_getElem? (i := 123) (by decide +kernel))) rfl
theorem zw1_125 : Cond.lays "LockerChains$Person" "LockerChains$Person" "lockersOpened" "I" ∈ zWL := zw_in (zw_1 (List.mem_of_getElem? (i := 125) (by decide +kernel))) rfl
theorem zw1_128 : Cond.fieldLink RX1 11 "LockerChains$Hall" "lockers" "[LLockerChains$Locker;" ∈ zWL := zw_in (zw_1 (List.mem_of_getElem? (i := 128) (by decide +kernel))) rfl
theorem zw1_129 : Cond.fieldLink RX1 19 "LockerChains$Hall" "people" "[LLockerChains$Person;" ∈ zWL := zw_in (zw_1 (List.mem_of_getElem? (i := 129) (by decide +kernel))) rfl
theorem zw1_130 : Cond.fieldLink RX1 26 "LockerChains$Hall" "waiting" "LLockerChains$Line;" ∈ zWL := zw_in (zw_1 (List.mem_of_getElem? (i := 130) (by decide +kernel))) rfl
theorem zw1_132 : Cond.fieldLink RX1 30 "LockerChains$Hall" "wishes" "LLockerChains$Line;" ∈ zWL := zw_in (zw_1 (List.mem_of_getElem? (i := 132) (by decide +kernel))) rfl
theorem zw1_133 : Cond.fieldLink RX1 33 "LockerChains$Hall" "settings" "[I" ∈ zWL := zw_in (zw_1 (List.mem_of_getElem? (i := 133) (by decide +kernel))) rfl
theorem zw1_134 : Cond.fieldLink RX1 37 "LockerChains$Hall" "ring" "[I" ∈ zWL := zw_in (zw_1 (List.mem_of_getElem? (i := 134) (by decide +kernel))) rfl
theorem zw1_135 : Cond.fieldLink RX1 54 "LockerChains$Hall" "lockerCount" "I" ∈ zWL := zw_in (zw_1 (List.mem_of_getElem? (i := 135) (by decide +kernel))) rfl
theorem zw1_136 : Cond.fieldLink RX1 58 "LockerChains$Hall" "personCount" "I" ∈ zWL := zw_in (zw_1 (List.mem_of_getElem? (i := 136) (by decide +kernel))) rfl
theorem zw1_137 : Cond.fieldLink RX1 61 "LockerChains$Hall" "day" "I" ∈ zWL := zw_in (zw_1 (List.mem_of_getElem? (i := 137) (by decide +kernel))) rfl
theorem zw1_138 : Cond.fieldLink RX1 64 "LockerChains$Hall" "moved" "I" ∈ zWL := zw_in (zw_1 (List.mem_of_getElem? (i := 138) (by decide +kernel))) rfl
theorem zw1_139 : Cond.laysFinal "LockerChains$Hall" "LockerChains$Hall" "lockers" "[LLockerChains$Locker;" ∈ zWL := zw_in (zw_1 (List.mem_of_getElem? (i := 139) (by decide +kernel))) rfl
theorem zw1_141 : Cond.laysFinal "LockerChains$Hall" "LockerChains$Hall" "people" "[LLockerChains$Person;" ∈ zWL := zw_in (zw_1 (List.mem_of_getElem? (i := 141) (by decide +kernel))) rfl
theorem zw1_143 : Cond.laysFinal "LockerChains$Hall" "LockerChains$Hall" "waiting" "LLockerChains$Line;" ∈ zWL := zw_in (zw_1 (List.mem_of_getElem? (i := 143) (by decide +kernel))) rfl
theorem zw1_145 : Cond.laysFinal "LockerChains$Hall" "LockerChains$Hall" "wishes" "LLockerChains$Line;" ∈ zWL := zw_in (zw_1 (List.mem_of_getElem? (i := 145) (by decide +kernel))) rfl
theorem zw1_147 : Cond.laysFinal "LockerChains$Hall" "LockerChains$Hall" "settings" "[I" ∈ zWL := zw_in (zw_1 (List.mem_of_getElem? (i := 147) (by decide +kernel))) rfl
theorem zw1_149 : Cond.laysFinal "LockerChains$Hall" "LockerChains$Hall" "ring" "[I" ∈ zWL := zw_in (zw_1 (List.mem_of_getElem? (i := 149) (by decide +kernel))) rfl
theorem zw1_151 : Cond.lays "LockerChains$Hall" "LockerChains$Hall" "lockerCount" "I" ∈ zWL := zw_in (zw_1 (List.mem_of_getElem? (i := 151) (by decide +kernel))) rfl
theorem zw1_153 : Cond.lays "LockerChains$Hall" "LockerChains$Hall" "personCount" "I" ∈ zWL := zw_in (zw_1 (List.mem_of_getElem? (i := 153) (by decide +kernel))) rfl
theorem zw1_155 : Cond.lays "LockerChains$Hall" "LockerChains$Hall" "day" "I" ∈ zWL := zw_in (zw_1 (List.mem_of_getElem? (i := 155) (by decide +kernel))) rfl
theorem zw1_157 : Cond.lays "LockerChains$Hall" "LockerChains$Hall" "moved" "I" ∈ zWL := zw_in (zw_1 (List.mem_of_getElem? (i := 157) (by decide +kernel))) rfl
theorem zw1_169 : Cond.fieldLink RX2 13 "LockerChains$History" "slots" "[LLockerChains$Hall;" ∈ zWL := zw_in (zw_1 (List.mem_of_getElem? (i := 169) (by decide +kernel))) rfl
theorem zw1_170 : Cond.fieldLink RX2 18 "LockerChains$History" "oldest" "I" ∈ zWL := zw_in (zw_1 (List.mem_of_getElem? (i := 170) (by decide +kernel))) rfl
theorem zw1_171 : Cond.fieldLink RX2 28 "LockerChains$History" "states" "I" ∈ zWL := zw_in (zw_1 (List.mem_of_getElem? (i := 171) (by decide +kernel))) rfl
theorem zw1_173 : Cond.laysFinal "LockerChains$History" "LockerChains$History" "slots" "[LLockerChains$Hall;" ∈ zWL := zw_in (zw_1 (List.mem_of_getElem? (i := 173) (by decide +kernel))) rfl
theorem zw1_175 : Cond.lays "LockerChains$History" "LockerChains$History" "oldest" "I" ∈ zWL := zw_in (zw_1 (List.mem_of_getElem? (i := 175) (by decide +kernel))) rfl
theorem zw1_177 : Cond.lays "LockerChains$History" "LockerChains$History" "states" "I" ∈ zWL := zw_in (zw_1 (List.mem_of_getElem? (i := 177) (by decide +kernel))) rfl
theorem zw1_186 : Cond.fieldLink RX7 9 "LockerChains$Text" "signs" "[C" ∈ zWL := zw_in (zw_1 (List.mem_of_getElem? (i := 186) (by decide +kernel))) rfl
theorem zw1_187 : Cond.fieldLink RX7 15 "LockerChains$Text" "length" "I" ∈ zWL := zw_in (zw_1 (List.mem_of_getElem? (i := 187) (by decide +kernel))) rfl
theorem zw1_196 : Cond.fieldLink RX7 38 "LockerChains$Text" "end" "I" ∈ zWL := zw_in (zw_1 (List.mem_of_getElem? (i := 196) (by decide +kernel))) rfl
theorem zw1_198 : Cond.laysFinal "LockerChains$Text" "LockerChains$Text" "signs" "[C" ∈ zWL := zw_in (zw_1 (List.mem_of_getElem? (i := 198) (by decide +kernel))) rfl
theorem zw1_2 : Cond.initialized RX1 ∈ zWL := zw_in (zw_1 (List.mem_of_getElem? (i := 2) (by decide +kernel))) rfl
theorem zw1_200 : Cond.lays "LockerChains$Text" "LockerChains$Text" "length" "I" ∈ zWL := zw_in (zw_1 (List.mem_of_getElem? (i := 200) (by decide +kernel))) rfl
theorem zw1_202 : Cond.lays "LockerChains$Text" "LockerChains$Text" "verb" "LLockerChains$Verb;" ∈ zWL := zw_in (zw_1 (List.mem_of_getElem? (i := 202) (by decide +kernel))) rfl
theorem zw1_204 : Cond.lays "LockerChains$Text" "LockerChains$Text" "first" "I" ∈ zWL := zw_in (zw_1 (List.mem_of_getElem? (i := 204) (by decide +kernel))) rfl
theorem zw1_206 : Cond.lays "LockerChains$Text" "LockerChains$Text" "second" "I" ∈ zWL := zw_in (zw_1 (List.mem_of_getElem? (i := 206) (by decide +kernel))) rfl
theorem zw1_208 : Cond.lays "LockerChains$Text" "LockerChains$Text" "end" "I" ∈ zWL := zw_in (zw_1 (List.mem_of_getElem? (i := 208) (by decide +kernel))) rfl
theorem zw1_220 : Cond.fieldLink RX6 12 "LockerChains$Rehearsal" "trial" "LLockerChains$Hall;" ∈ zWL := zw_in (zw_1 (List.mem_of_getElem? (i := 220) (by decide +kernel))) rfl
theorem zw1_222 : Cond.fieldLink RX6 43 "LockerChains$Rehearsal" "place" "I" ∈ zWL := zw_in (zw_1 (List.mem_of_getElem? (i := 222) (by decide +kernel))) rfl
theorem zw1_224 : Cond.fieldLink RX6 79 "LockerChains$Rehearsal" "reason" "I" ∈ zWL := zw_in (zw_1 (List.mem_of_getElem? (i := 224) (by decide +kernel))) rfl
theorem zw1_226 : Cond.fieldLink RX6 82 "LockerChains$Rehearsal" "cause" "I" ∈ zWL := zw_in (zw_1 (List.mem_of_getElem? (i := 226) (by decide +kernel))) rfl
theorem zw1_230 : Cond.laysFinal "LockerChains$Rehearsal" "LockerChains$Rehearsal" "trial" "LLockerChains$Hall;" ∈ zWL := zw_in (zw_1 (List.mem_of_getElem? (i := 230) (by decide +kernel))) rfl
theorem zw1_232 : Cond.lays "LockerChains$Rehearsal" "LockerChains$Rehearsal" "place" "I" ∈ zWL := zw_in (zw_1 (List.mem_of_getElem? (i := 232) (by decide +kernel))) rfl
theorem zw1_234 : Cond.lays "LockerChains$Rehearsal" "LockerChains$Rehearsal" "reason" "I" ∈ zWL := zw_in (zw_1 (List.mem_of_getElem? (i := 234) (by decide +kernel))) rfl
theorem zw1_236 : Cond.lays "LockerChains$Rehearsal" "LockerChains$Rehearsal" "cause" "I" ∈ zWL := zw_in (zw_1 (List.mem_of_getElem? (i := 236) (by decide +kernel))) rfl
theorem zw1_238 : Cond.lays "LockerChains$Rehearsal" "LockerChains$Rehearsal" "commands" "I" ∈ zWL := zw_in (zw_1 (List.mem_of_getElem? (i := 238) (by decide +kernel))) rfl
theorem zw1_3 : Cond.initialized RX3 ∈ zWL := zw_in (zw_1 (List.mem_of_getElem? (i := 3) (by decide +kernel))) rfl
theorem zw1_4 : Cond.initialized RX4 ∈ zWL := zw_in (zw_1 (List.mem_of_getElem? (i := 4) (by decide +kernel))) rfl
theorem zw1_42 : Cond.fieldLink RX3 9 "LockerChains$Line" "people" "[I" ∈ zWL := zw_in (zw_1 (List.mem_of_getElem? (i := 42) (by decide +kernel))) rfl
theorem zw1_43 : Cond.fieldLink RX3 15 "LockerChains$Line" "sizes" "[I" ∈ zWL := zw_in (zw_1 (List.mem_of_getElem? (i := 43) (by decide +kernel))) rfl
theorem zw1_44 : Cond.fieldLink RX3 18 "LockerChains$Line" "length" "I" ∈ zWL := zw_in (zw_1 (List.mem_of_getElem? (i := 44) (by decide +kernel))) rfl
theorem zw1_47 : Cond.laysFinal "LockerChains$Line" "LockerChains$Line" "people" "[I" ∈ zWL := zw_in (zw_1 (List.mem_of_getElem? (i := 47) (by decide +kernel))) rfl
theorem zw1_49 : Cond.laysFinal "LockerChains$Line" "LockerChains$Line" "sizes" "[I" ∈ zWL := zw_in (zw_1 (List.mem_of_getElem? (i := 49) (by decide +kernel))) rfl
theorem zw1_5 : Cond.initialized RX5 ∈ zWL := zw_in (zw_1 (List.mem_of_getElem? (i := 5) (by decide +kernel))) rfl
theorem zw1_51 : Cond.lays "LockerChains$Line" "LockerChains$Line" "length" "I" ∈ zWL := zw_in (zw_1 (List.mem_of_getElem? (i := 51) (by decide +kernel))) rfl
theorem zw1_6 : Cond.initialized RX2 ∈ zWL := zw_in (zw_1 (List.mem_of_getElem? (i := 6) (by decide +kernel))) rfl
theorem zw1_62 : Cond.fieldLink RX4 28 "LockerChains$Locker" "size" "I" ∈ zWL := zw_in (zw_1 (List.mem_of_getElem? (i := 62) (by decide +kernel))) rfl
theorem zw1_64 : Cond.fieldLink RX4 25 "LockerChains$Locker" "standing" "Z" ∈ zWL := zw_in (zw_1 (List.mem_of_getElem? (i := 64) (by decide +kernel))) rfl
theorem zw1_66 : Cond.fieldLink RX4 9 "LockerChains$Locker" "holder" "I" ∈ zWL := zw_in (zw_1 (List.mem_of_getElem? (i := 66) (by decide +kernel))) rfl
theorem zw1_68 : Cond.fieldLink RX4 15 "LockerChains$Locker" "spareKey" "Z" ∈ zWL := zw_in (zw_1 (List.mem_of_getElem? (i := 68) (by decide +kernel))) rfl
theorem zw1_7 : Cond.initialized RX7 ∈ zWL := zw_in (zw_1 (List.mem_of_getElem? (i := 7) (by decide +kernel))) rfl
theorem zw1_70 : Cond.fieldLink RX4 19 "LockerChains$Locker" "opensOn" "I" ∈ zWL := zw_in (zw_1 (List.mem_of_getElem? (i := 70) (by decide +kernel))) rfl
theorem zw1_72 : Cond.fieldLink RX4 31 "LockerChains$Locker" "timesLent" "I" ∈ zWL := zw_in (zw_1 (List.mem_of_getElem? (i := 72) (by decide +kernel))) rfl
theorem zw1_74 : Cond.laysFinal "LockerChains$Locker" "LockerChains$Locker" "number" "I" ∈ zWL := zw_in (zw_1 (List.mem_of_getElem? (i := 74) (by decide +kernel))) rfl
theorem zw1_76 : Cond.lays "LockerChains$Locker" "LockerChains$Locker" "size" "I" ∈ zWL := zw_in (zw_1 (List.mem_of_getElem? (i := 76) (by decide +kernel))) rfl
theorem zw1_78 : Cond.lays "LockerChains$Locker" "LockerChains$Locker" "standing" "Z" ∈ zWL := zw_in (zw_1 (List.mem_of_getElem? (i := 78) (by decide +kernel))) rfl
theorem zw1_8 : Cond.initialized RX6 ∈ zWL := zw_in (zw_1 (List.mem_of_getElem? (i := 8) (by decide +kernel))) rfl
theorem zw1_80 : Cond.lays "LockerChains$Locker" "LockerChains$Locker" "holder" "I" ∈ zWL := zw_in (zw_1 (List.mem_of_getElem? (i := 80) (by decide +kernel))) rfl
theorem zw1_82 : Cond.lays "LockerChains$Locker" "LockerChains$Locker" "spareKey" "Z" ∈ zWL := zw_in (zw_1 (List.mem_of_getElem? (i := 82) (by decide +kernel))) rfl
theorem zw1_84 : Cond.lays "LockerChains$Locker" "LockerChains$Locker" "opensOn" "I" ∈ zWL := zw_in (zw_1 (List.mem_of_getElem? (i := 84) (by decide +kernel))) rfl
theorem zw1_86 : Cond.lays "LockerChains$Locker" "LockerChains$Locker" "timesLent" "I" ∈ zWL := zw_in (zw_1 (List.mem_of_getElem? (i := 86) (by decide +kernel))) rfl
theorem zw1_9 : Cond.initialized RX10 ∈ zWL := zw_in (zw_1 (List.mem_of_getElem? (i := 9) (by decide +kernel))) rfl
theorem zw1_96 : Cond.fieldLink RX5 9 "LockerChains$Person" "locker" "I" ∈ zWL := zw_in (zw_1 (List.mem_of_getElem? (i := 96) (by decide +kernel))) rfl
theorem zw1_98 : Cond.fieldLink RX5 18 "LockerChains$Person" "due" "I" ∈ zWL := zw_in (zw_1 (List.mem_of_getElem? (i := 98) (by decide +kernel))) rfl
theorem zw2_1 : Cond.fieldLink RX9 10 "LockerChains" "hall" "LLockerChains$Hall;" ∈ zWL := zw_in (zw_2 (List.mem_of_getElem? (i := 1) (by decide +kernel))) rfl
theorem zw2_100 : Cond.code yX1_beginLoan cX1_beginLoan 3 none ∈ zWL := zw_in (zw_2 (List.mem_of_getElem? (i := 100) (by decide +kernel))) rfl
theorem zw2_105 : Cond.methodLink RX9 56 yX1_lendTo ∈ zWL := zw_in (zw_2 (List.mem_of_getElem? (i := 105) (by decide +kernel))) rfl
theorem zw2_106 : Cond.instanceMethod yX1_lendTo ∈ zWL := zw_in (zw_2 (List.mem_of_getElem? (i := 106) (by decide +kernel))) rfl
theorem zw2_107 : Cond.selects RX1 yX1_lendTo yX1_lendTo ∈ zWL := zw_in (zw_2 (List.mem_of_getElem? (i := 107) (by decide +kernel))) rfl
theorem zw2_108 : Cond.code yX1_lendTo cX1_lendTo 5 (some .int) ∈ zWL := zw_in (zw_2 (List.mem_of_getElem? (i := 108) (by decide +kernel))) rfl
theorem zw2_109 : Cond.methodLink RX1 92 yX3_placeOf ∈ zWL := zw_in (zw_2 (List.mem_of_getElem? (i := 109) (by decide +kernel))) rfl
theorem zw2_11 : Cond.laysFinal "LockerChains" "LockerChains" "rehearsal" "LLockerChains$Rehearsal;" ∈ zWL := zw_in (zw_2 (List.mem_of_getElem? (i := 11) (by decide +kernel))) rfl
theorem zw2_110 : Cond.instanceMethod yX3_placeOf ∈ zWL := zw_in (zw_2 (List.mem_of_getElem? (i := 110) (by decide +kernel))) rfl
theorem zw2_111 : Cond.selects RX3 yX3_placeOf yX3_placeOf ∈ zWL := zw_in (zw_2 (List.mem_of_getElem? (i := 111) (by decide +kernel))) rfl
theorem zw2_112 : Cond.code yX3_placeOf cX3_placeOf 3 (some .int) ∈ zWL := zw_in (zw_2 (List.mem_of_getElem? (i := 112) (by decide +kernel))) rfl
theorem zw2_113 : Cond.methodLink RX1 98 yX1_lowestFree ∈ zWL := zw_in (zw_2 (List.mem_of_getElem? (i := 113) (by decide +kernel))) rfl
theorem zw2_115 : Cond.instanceMethod yX1_lowestFree ∈ zWL := zw_in (zw_2 (List.mem_of_getElem? (i := 115) (by decide +kernel))) rfl
theorem zw2_116 : Cond.code yX1_lowestFree cX1_lowestFree 4 (some (.object "LockerChains$Locker")) ∈ zWL := zw_in (zw_2 (List.mem_of_getElem? (i := 116) (by decide +kernel))) rfl
theorem zw2_117 : Cond.methodLink RX1 101 yX3_add ∈ zWL := zw_in (zw_2 (List.mem_of_getElem? (i := 117) (by decide +kernel))) rfl
theorem zw2_118 : Cond.instanceMethod yX3_add ∈ zWL := zw_in (zw_2 (List.mem_of_getElem? (i := 118) (by decide +kernel))) rfl
theorem zw2_119 : Cond.selects RX3 yX3_add yX3_add ∈ zWL := zw_in (zw_2 (List.mem_of_getElem? (i := 119) (by decide +kernel))) rfl
theorem zw2_120 : Cond.code yX3_add cX3_add 3 none ∈ zWL := zw_in (zw_2 (List.mem_of_getElem? (i := 120) (by decide +kernel))) rfl
theorem zw2_125 : Cond.methodLink RX9 59 yX1_takeBack ∈ zWL := zw_in (zw_2 (List.mem_of_getElem? (i := 125) (by decide +kernel))) rfl
theorem zw2_126 : Cond.instanceMethod yX1_takeBack ∈ zWL := zw_in (zw_2 (List.mem_of_getElem? (i := 126) (by decide +kernel))) rfl
theorem zw2_127 : Cond.selects RX1 yX1_takeBack yX1_takeBack ∈ zWL := zw_in (zw_2 (List.mem_of_getElem? (i := 127) (by decide +kernel))) rfl
theorem zw2_128 : Cond.code yX1_takeBack cX1_takeBack 5 (some .int) ∈ zWL := zw_in (zw_2 (List.mem_of_getElem? (i := 128) (by decide +kernel))) rfl
theorem zw2_129 : Cond.methodLink RX1 118 yX5_overdueOn ∈ zWL := zw_in (zw_2 (List.mem_of_getElem? (i := 129) (by decide +kernel))) rfl
theorem zw2_130 : Cond.instanceMethod yX5_overdueOn ∈ zWL := zw_in (zw_2 (List.mem_of_getElem? (i := 130) (by decide +kernel))) rfl
theorem zw2_131 : Cond.selects RX5 yX5_overdueOn yX5_overdueOn ∈ zWL := zw_in (zw_2 (List.mem_of_getElem? (i := 131) (by decide +kernel))) rfl
theorem zw2_132 : Cond.code yX5_overdueOn cX5_overdueOn 2 (some .int) ∈ zWL := zw_in (zw_2 (List.mem_of_getElem? (i := 132) (by decide +kernel))) rfl
theorem zw2_133 : Cond.methodLink RX1 121 yX1_endLoan ∈ zWL := zw_in (zw_2 (List.mem_of_getElem? (i := 133) (by decide +kernel))) rfl
theorem zw2_135 : Cond.instanceMethod yX1_endLoan ∈ zWL := zw_in (zw_2 (List.mem_of_getElem? (i := 135) (by decide +kernel))) rfl
theorem zw2_136 : Cond.code yX1_endLoan cX1_endLoan 3 none ∈ zWL := zw_in (zw_2 (List.mem_of_getElem? (i := 136) (by decide +kernel))) rfl
theorem zw2_141 : Cond.methodLink RX9 62 yX1_prolong ∈ zWL := zw_in (zw_2 (List.mem_of_getElem? (i := 141) (by decide +kernel))) rfl
theorem zw2_142 : Cond.instanceMethod yX1_prolong ∈ zWL := zw_in (zw_2 (List.mem_of_getElem? (i := 142) (by decide +kernel))) rfl
theorem zw2_143 : Cond.selects RX1 yX1_prolong yX1_prolong ∈ zWL := zw_in (zw_2 (List.mem_of_getElem? (i := 143) (by decide +kernel))) rfl
theorem zw2_144 : Cond.code yX1_prolong cX1_prolong 4 (some .int) ∈ zWL := zw_in (zw_2 (List.mem_of_getElem? (i := 144) (by decide +kernel))) rfl
theorem zw2_149 : Cond.methodLink RX9 65 yX1_loseKey ∈ zWL := zw_in (zw_2 (List.mem_of_getElem? (i := 149) (by decide +kernel))) rfl
theorem zw2_150 : Cond.instanceMethod yX1_loseKey ∈ zWL := zw_in (zw_2 (List.mem_of_getElem? (i := 150) (by decide +kernel))) rfl
theorem zw2_151 : Cond.selects RX1 yX1_loseKey yX1_loseKey ∈ zWL := zw_in (zw_2 (List.mem_of_getElem? (i := 151) (by decide +kernel))) rfl
theorem zw2_152 : Cond.code yX1_loseKey cX1_loseKey 4 (some .int) ∈ zWL := zw_in (zw_2 (List.mem_of_getElem? (i := 152) (by decide +kernel))) rfl
theorem zw2_153 : Cond.methodLink RX1 139 yX1_changeLock ∈ zWL := zw_in (zw_2 (List.mem_of_getElem? (i := 153) (by decide +kernel))) rfl
theorem zw2_155 : Cond.instanceMethod yX1_changeLock ∈ zWL := zw_in (zw_2 (List.mem_of_getElem? (i := 155) (by decide +kernel))) rfl
theorem zw2_156 : Cond.code yX1_changeLock cX1_changeLock 4 none ∈ zWL := zw_in (zw_2 (List.mem_of_getElem? (i := 156) (by decide +kernel))) rfl
theorem zw2_161 : Cond.methodLink RX9 68 yX1_wishFor ∈ zWL := zw_in (zw_2 (List.mem_of_getElem? (i := 161) (by decide +kernel))) rfl
theorem zw2_162 : Cond.instanceMethod yX1_wishFor ∈ zWL := zw_in (zw_2 (List.mem_of_getElem? (i := 162) (by decide +kernel))) rfl
theorem zw2_163 : Cond.selects RX1 yX1_wishFor yX1_wishFor ∈ zWL := zw_in (zw_2 (List.mem_of_getElem? (i := 163) (by decide +kernel))) rfl
theorem zw2_164 : Cond.code yX1_wishFor cX1_wishFor 5 (some .int) ∈ zWL := zw_in (zw_2 (List.mem_of_getElem? (i := 164) (by decide +kernel))) rfl
theorem zw2_169 : Cond.methodLink RX9 71 yX1_endWish ∈ zWL := zw_in (zw_2 (List.mem_of_getElem? (i := 169) (by decide +kernel))) rfl
theorem zw2_170 : Cond.instanceMethod yX1_endWish ∈ zWL := zw_in (zw_2 (List.mem_of_getElem? (i := 170) (by decide +kernel))) rfl
theorem zw2_171 : Cond.selects RX1 yX1_endWish yX1_endWish ∈ zWL := zw_in (zw_2 (List.mem_of_getElem? (i := 171) (by decide +kernel))) rfl
theorem zw2_172 : Cond.code yX1_endWish cX1_endWish 3 (some .int) ∈ zWL := zw_in (zw_2 (List.mem_of_getElem? (i := 172) (by decide +kernel))) rfl
theorem zw2_173 : Cond.methodLink RX1 146 yX3_sizeOf ∈ zWL := zw_in (zw_2 (List.mem_of_getElem? (i := 173) (by decide +kernel))) rfl
theorem zw2_174 : Cond.instanceMethod yX3_sizeOf ∈ zWL := zw_in (zw_2 (List.mem_of_getElem? (i := 174) (by decide +kernel))) rfl
theorem zw2_175 : Cond.selects RX3 yX3_sizeOf yX3_sizeOf ∈ zWL := zw_in (zw_2 (List.mem_of_getElem? (i := 175) (by decide +kernel))) rfl
theorem zw2_176 : Cond.code yX3_sizeOf cX3_sizeOf 3 (some .int) ∈ zWL := zw_in (zw_2 (List.mem_of_getElem? (i := 176) (by decide +kernel))) rfl
theorem zw2_18 : Cond.methodLink RX9 37 yX2_prepare ∈ zWL := zw_in (zw_2 (List.mem_of_getElem? (i := 18) (by decide +kernel))) rfl
theorem zw2_181 : Cond.methodLink RX9 74 yX1_swapAll ∈ zWL := zw_in (zw_2 (List.mem_of_getElem? (i := 181) (by decide +kernel))) rfl
theorem zw2_182 : Cond.instanceMethod yX1_swapAll ∈ zWL := zw_in (zw_2 (List.mem_of_getElem? (i := 182) (by decide +kernel))) rfl
theorem zw2_183 : Cond.selects RX1 yX1_swapAll yX1_swapAll ∈ zWL := zw_in (zw_2 (List.mem_of_getElem? (i := 183) (by decide +kernel))) rfl
theorem zw2_184 : Cond.code yX1_swapAll cX1_swapAll 4 (some .int) ∈ zWL := zw_in (zw_2 (List.mem_of_getElem? (i := 184) (by decide +kernel))) rfl
theorem zw2_185 : Cond.methodLink RX1 149 yX1_moveToFree ∈ zWL := zw_in (zw_2 (List.mem_of_getElem? (i := 185) (by decide +kernel))) rfl
theorem zw2_187 : Cond.instanceMethod yX1_moveToFree ∈ zWL := zw_in (zw_2 (List.mem_of_getElem? (i := 187) (by decide +kernel))) rfl
theorem zw2_188 : Cond.code yX1_moveToFree cX1_moveToFree 5 (some .int) ∈ zWL := zw_in (zw_2 (List.mem_of_getElem? (i := 188) (by decide +kernel))) rfl
theorem zw2_189 : Cond.methodLink RX1 159 yX3_personAt ∈ zWL := zw_in (zw_2 (List.mem_of_getElem? (i := 189) (by decide +kernel))) rfl
theorem zw2_19 : Cond.instanceMethod yX2_prepare ∈ zWL := zw_in (zw_2 (List.mem_of_getElem? (i := 19) (by decide +kernel))) rfl
theorem zw2_190 : Cond.instanceMethod yX3_personAt ∈ zWL := zw_in (zw_2 (List.mem_of_getElem? (i := 190) (by decide +kernel))) rfl
theorem zw2_191 : Cond.selects RX3 yX3_personAt yX3_personAt ∈ zWL := zw_in (zw_2 (List.mem_of_getElem? (i := 191) (by decide +kernel))) rfl
theorem zw2_192 : Cond.code yX3_personAt cX3_personAt 2 (some .int) ∈ zWL := zw_in (zw_2 (List.mem_of_getElem? (i := 192) (by decide +kernel))) rfl
theorem zw2_193 : Cond.methodLink RX1 161 yX3_sizeAt ∈ zWL := zw_in (zw_2 (List.mem_of_getElem? (i := 193) (by decide +kernel))) rfl
theorem zw2_194 : Cond.instanceMethod yX3_sizeAt ∈ zWL := zw_in (zw_2 (List.mem_of_getElem? (i := 194) (by decide +kernel))) rfl
theorem zw2_195 : Cond.selects RX3 yX3_sizeAt yX3_sizeAt ∈ zWL := zw_in (zw_2 (List.mem_of_getElem? (i := 195) (by decide +kernel))) rfl
theorem zw2_196 : Cond.code yX3_sizeAt cX3_sizeAt 2 (some .int) ∈ zWL := zw_in (zw_2 (List.mem_of_getElem? (i := 196) (by decide +kernel))) rfl
theorem zw2_197 : Cond.methodLink RX1 164 yX1_lockerOfPerson ∈ zWL := zw_in (zw_2 (List.mem_of_getElem? (i := 197) (by decide +kernel))) rfl
theorem zw2_199 : Cond.instanceMethod yX1_lockerOfPerson ∈ zWL := zw_in (zw_2 (List.mem_of_getElem? (i := 199) (by decide +kernel))) rfl
theorem zw2_2 : Cond.fieldLink RX9 19 "LockerChains" "history" "LLockerChains$History;" ∈ zWL := zw_in (zw_2 (List.mem_of_getElem? (i := 2) (by decide +kernel))) rfl
theorem zw2_20 : Cond.selects RX2 yX2_prepare yX2_prepare ∈ zWL := zw_in (zw_2 (List.mem_of_getElem? (i := 20) (by decide +kernel))) rfl
theorem zw2_200 : Cond.code yX1_lockerOfPerson cX1_lockerOfPerson 3 (some (.object "LockerChains$Locker")) ∈ zWL := zw_in (zw_2 (List.mem_of_getElem? (i := 200) (by decide +kernel))) rfl
theorem zw2_201 : Cond.methodLink RX1 170 yX1_move ∈ zWL := zw_in (zw_2 (List.mem_of_getElem? (i := 201) (by decide +kernel))) rfl
theorem zw2_203 : Cond.instanceMethod yX1_move ∈ zWL := zw_in (zw_2 (List.mem_of_getElem? (i := 203) (by decide +kernel))) rfl
theorem zw2_204 : Cond.code yX1_move cX1_move 4 none ∈ zWL := zw_in (zw_2 (List.mem_of_getElem? (i := 204) (by decide +kernel))) rfl
theorem zw2_205 : Cond.methodLink RX1 153 yX1_findRing ∈ zWL := zw_in (zw_2 (List.mem_of_getElem? (i := 205) (by decide +kernel))) rfl
theorem zw2_207 : Cond.instanceMethod yX1_findRing ∈ zWL := zw_in (zw_2 (List.mem_of_getElem? (i := 207) (by decide +kernel))) rfl
theorem zw2_208 : Cond.code yX1_findRing cX1_findRing 4 (some .int) ∈ zWL := zw_in (zw_2 (List.mem_of_getElem? (i := 208) (by decide +kernel))) rfl
theorem zw2_209 : Cond.methodLink RX1 174 yX1_wants ∈ zWL := zw_in (zw_2 (List.mem_of_getElem? (i := 209) (by decide +kernel))) rfl
theorem zw2_21 : Cond.code yX2_prepare cX2_prepare 2 none ∈ zWL := zw_in (zw_2 (List.mem_of_getElem? (i := 21) (by decide +kernel))) rfl
theorem zw2_211 : Cond.instanceMethod yX1_wants ∈ zWL := zw_in (zw_2 (List.mem_of_getElem? (i := 211) (by decide +kernel))) rfl
theorem zw2_212 : Cond.code yX1_wants cX1_wants 4 (some .boolean) ∈ zWL := zw_in (zw_2 (List.mem_of_getElem? (i := 212) (by decide +kernel))) rfl
theorem zw2_213 : Cond.methodLink RX1 156 yX1_moveAround ∈ zWL := zw_in (zw_2 (List.mem_of_getElem? (i := 213) (by decide +kernel))) rfl
theorem zw2_215 : Cond.instanceMethod yX1_moveAround ∈ zWL := zw_in (zw_2 (List.mem_of_getElem? (i := 215) (by decide +kernel))) rfl
theorem zw2_216 : Cond.code yX1_moveAround cX1_moveAround 5 none ∈ zWL := zw_in (zw_2 (List.mem_of_getElem? (i := 216) (by decide +kernel))) rfl
theorem zw2_22 : Cond.methodLink RX2 31 yX2_slot ∈ zWL := zw_in (zw_2 (List.mem_of_getElem? (i := 22) (by decide +kernel))) rfl
theorem zw2_221 : Cond.methodLink RX9 77 yX1_payCoins ∈ zWL := zw_in (zw_2 (List.mem_of_getElem? (i := 221) (by decide +kernel))) rfl
theorem zw2_222 : Cond.instanceMethod yX1_payCoins ∈ zWL := zw_in (zw_2 (List.mem_of_getElem? (i := 222) (by decide +kernel))) rfl
theorem zw2_223 : Cond.selects RX1 yX1_payCoins yX1_payCoins ∈ zWL := zw_in (zw_2 (List.mem_of_getElem? (i := 223) (by decide +kernel))) rfl
theorem zw2_224 : Cond.code yX1_payCoins cX1_payCoins 4 (some .int) ∈ zWL := zw_in (zw_2 (List.mem_of_getElem? (i := 224) (by decide +kernel))) rfl
theorem zw2_229 : Cond.methodLink RX9 80 yX1_passDays ∈ zWL := zw_in (zw_2 (List.mem_of_getElem? (i := 229) (by decide +kernel))) rfl
theorem zw2_230 : Cond.instanceMethod yX1_passDays ∈ zWL := zw_in (zw_2 (List.mem_of_getElem? (i := 230) (by decide +kernel))) rfl
theorem zw2_231 : Cond.selects RX1 yX1_passDays yX1_passDays ∈ zWL := zw_in (zw_2 (List.mem_of_getElem? (i := 231) (by decide +kernel))) rfl
theorem zw2_232 : Cond.code yX1_passDays cX1_passDays 5 (some .int) ∈ zWL := zw_in (zw_2 (List.mem_of_getElem? (i := 232) (by decide +kernel))) rfl
theorem zw2_233 : Cond.methodLink RX1 181 yX1_endClosing ∈ zWL := zw_in (zw_2 (List.mem_of_getElem? (i := 233) (by decide +kernel))) rfl
theorem zw2_235 : Cond.instanceMethod yX1_endClosing ∈ zWL := zw_in (zw_2 (List.mem_of_getElem? (i := 235) (by decide +kernel))) rfl
theorem zw2_236 : Cond.code yX1_endClosing cX1_endClosing 3 none ∈ zWL := zw_in (zw_2 (List.mem_of_getElem? (i := 236) (by decide +kernel))) rfl
theorem zw2_237 : Cond.methodLink RX1 184 yX1_chargeOverdue ∈ zWL := zw_in (zw_2 (List.mem_of_getElem? (i := 237) (by decide +kernel))) rfl
theorem zw2_239 : Cond.instanceMethod yX1_chargeOverdue ∈ zWL := zw_in (zw_2 (List.mem_of_getElem? (i := 239) (by decide +kernel))) rfl
theorem zw2_24 : Cond.instanceMethod yX2_slot ∈ zWL := zw_in (zw_2 (List.mem_of_getElem? (i := 24) (by decide +kernel))) rfl
theorem zw2_25 : Cond.code yX2_slot cX2_slot 2 (some (.object "LockerChains$Hall")) ∈ zWL := zw_in (zw_2 (List.mem_of_getElem? (i := 25) (by decide +kernel))) rfl
theorem zw2_26 : Cond.methodLink RX2 22 yJ9_floorMod_7cf53 ∈ zWL := zw_in (zw_2 (List.mem_of_getElem? (i := 26) (by decide +kernel))) rfl
theorem zw2_27 : Cond.static yJ9_floorMod_7cf53 ∈ zWL := zw_in (zw_2 (List.mem_of_getElem? (i := 27) (by decide +kernel))) rfl
theorem zw2_28 : Cond.code yJ9_floorMod_7cf53 cJ9_floorMod_7cf53 3 (some .int) ∈ zWL := zw_in (zw_2 (List.mem_of_getElem? (i := 28) (by decide +kernel))) rfl
theorem zw2_29 : Cond.methodLink RX2 35 yX1_copyFrom ∈ zWL := zw_in (zw_2 (List.mem_of_getElem? (i := 29) (by decide +kernel))) rfl
theorem zw2_3 : Cond.fieldLink RX9 26 "LockerChains" "text" "LLockerChains$Text;" ∈ zWL := zw_in (zw_2 (List.mem_of_getElem? (i := 3) (by decide +kernel))) rfl
theorem zw2_30 : Cond.instanceMethod yX1_copyFrom ∈ zWL := zw_in (zw_2 (List.mem_of_getElem? (i := 30) (by decide +kernel))) rfl
theorem zw2_31 : Cond.selects RX1 yX1_copyFrom yX1_copyFrom ∈ zWL := zw_in (zw_2 (List.mem_of_getElem? (i := 31) (by decide +kernel))) rfl
theorem zw2_32 : Cond.code yX1_copyFrom cX1_copyFrom 3 none ∈ zWL := zw_in (zw_2 (List.mem_of_getElem? (i := 32) (by decide +kernel))) rfl
theorem zw2_33 : Cond.methodLink RX1 44 yX4_copyFrom ∈ zWL := zw_in (zw_2 (List.mem_of_getElem? (i := 33) (by decide +kernel))) rfl
theorem zw2_34 : Cond.instanceMethod yX4_copyFrom ∈ zWL := zw_in (zw_2 (List.mem_of_getElem? (i := 34) (by decide +kernel))) rfl
theorem zw2_35 : Cond.selects RX4 yX4_copyFrom yX4_copyFrom ∈ zWL := zw_in (zw_2 (List.mem_of_getElem? (i := 35) (by decide +kernel))) rfl
theorem zw2_36 : Cond.code yX4_copyFrom cX4_copyFrom 2 none ∈ zWL := zw_in (zw_2 (List.mem_of_getElem? (i := 36) (by decide +kernel))) rfl
theorem zw2_37 : Cond.methodLink RX1 48 yX5_copyFrom ∈ zWL := zw_in (zw_2 (List.mem_of_getElem? (i := 37) (by decide +kernel))) rfl
theorem zw2_38 : Cond.instanceMethod yX5_copyFrom ∈ zWL := zw_in (zw_2 (List.mem_of_getElem? (i := 38) (by decide +kernel))) rfl
theorem zw2_39 : Cond.selects RX5 yX5_copyFrom yX5_copyFrom ∈ zWL := zw_in (zw_2 (List.mem_of_getElem? (i := 39) (by decide +kernel))) rfl
theorem zw2_4 : Cond.fieldLink RX9 33 "LockerChains" "rehearsal" "LLockerChains$Rehearsal;" ∈ zWL := zw_in (zw_2 (List.mem_of_getElem? (i := 4) (by decide +kernel))) rfl
theorem zw2_40 : Cond.code yX5_copyFrom cX5_copyFrom 2 none ∈ zWL := zw_in (zw_2 (List.mem_of_getElem? (i := 40) (by decide +kernel))) rfl
theorem zw2_41 : Cond.methodLink RX1 51 yX3_copyFrom ∈ zWL := zw_in (zw_2 (List.mem_of_getElem? (i := 41) (by decide +kernel))) rfl
theorem zw2_42 : Cond.instanceMethod yX3_copyFrom ∈ zWL := zw_in (zw_2 (List.mem_of_getElem? (i := 42) (by decide +kernel))) rfl
theorem zw2_43 : Cond.selects RX3 yX3_copyFrom yX3_copyFrom ∈ zWL := zw_in (zw_2 (List.mem_of_getElem? (i := 43) (by decide +kernel))) rfl
theorem zw2_44 : Cond.code yX3_copyFrom cX3_copyFrom 3 none ∈ zWL := zw_in (zw_2 (List.mem_of_getElem? (i := 44) (by decide +kernel))) rfl
theorem zw2_45 : Cond.methodLink RX9 41 yX1_addLocker ∈ zWL := zw_in (zw_2 (List.mem_of_getElem? (i := 45) (by decide +kernel))) rfl
theorem zw2_46 : Cond.instanceMethod yX1_addLocker ∈ zWL := zw_in (zw_2 (List.mem_of_getElem? (i := 46) (by decide +kernel))) rfl
theorem zw2_47 : Cond.selects RX1 yX1_addLocker yX1_addLocker ∈ zWL := zw_in (zw_2 (List.mem_of_getElem? (i := 47) (by decide +kernel))) rfl
theorem zw2_48 : Cond.code yX1_addLocker cX1_addLocker 2 (some .int) ∈ zWL := zw_in (zw_2 (List.mem_of_getElem? (i := 48) (by decide +kernel))) rfl
theorem zw2_49 : Cond.methodLink RX9 45 yX2_settle ∈ zWL := zw_in (zw_2 (List.mem_of_getElem? (i := 49) (by decide +kernel))) rfl
theorem zw2_5 : Cond.laysFinal "LockerChains" "LockerChains" "hall" "LLockerChains$Hall;" ∈ zWL := zw_in (zw_2 (List.mem_of_getElem? (i := 5) (by decide +kernel))) rfl
theorem zw2_50 : Cond.instanceMethod yX2_settle ∈ zWL := zw_in (zw_2 (List.mem_of_getElem? (i := 50) (by decide +kernel))) rfl
theorem zw2_51 : Cond.selects RX2 yX2_settle yX2_settle ∈ zWL := zw_in (zw_2 (List.mem_of_getElem? (i := 51) (by decide +kernel))) rfl
theorem zw2_52 : Cond.code yX2_settle cX2_settle 2 (some .int) ∈ zWL := zw_in (zw_2 (List.mem_of_getElem? (i := 52) (by decide +kernel))) rfl
theorem zw2_57 : Cond.methodLink RX9 48 yX1_addPerson ∈ zWL := zw_in (zw_2 (List.mem_of_getElem? (i := 57) (by decide +kernel))) rfl
theorem zw2_58 : Cond.instanceMethod yX1_addPerson ∈ zWL := zw_in (zw_2 (List.mem_of_getElem? (i := 58) (by decide +kernel))) rfl
theorem zw2_59 : Cond.selects RX1 yX1_addPerson yX1_addPerson ∈ zWL := zw_in (zw_2 (List.mem_of_getElem? (i := 59) (by decide +kernel))) rfl
theorem zw2_60 : Cond.code yX1_addPerson cX1_addPerson 1 (some .int) ∈ zWL := zw_in (zw_2 (List.mem_of_getElem? (i := 60) (by decide +kernel))) rfl
theorem zw2_65 : Cond.methodLink RX9 52 yX1_putIntoRow ∈ zWL := zw_in (zw_2 (List.mem_of_getElem? (i := 65) (by decide +kernel))) rfl
theorem zw2_66 : Cond.instanceMethod yX1_putIntoRow ∈ zWL := zw_in (zw_2 (List.mem_of_getElem? (i := 66) (by decide +kernel))) rfl
theorem zw2_67 : Cond.selects RX1 yX1_putIntoRow yX1_putIntoRow ∈ zWL := zw_in (zw_2 (List.mem_of_getElem? (i := 67) (by decide +kernel))) rfl
theorem zw2_68 : Cond.code yX1_putIntoRow cX1_putIntoRow 5 (some .int) ∈ zWL := zw_in (zw_2 (List.mem_of_getElem? (i := 68) (by decide +kernel))) rfl
theorem zw2_69 : Cond.methodLink RX1 74 yX1_lockerAt ∈ zWL := zw_in (zw_2 (List.mem_of_getElem? (i := 69) (by decide +kernel))) rfl
theorem zw2_7 : Cond.laysFinal "LockerChains" "LockerChains" "history" "LLockerChains$History;" ∈ zWL := zw_in (zw_2 (List.mem_of_getElem? (i := 7) (by decide +kernel))) rfl
theorem zw2_71 : Cond.instanceMethod yX1_lockerAt ∈ zWL := zw_in (zw_2 (List.mem_of_getElem? (i := 71) (by decide +kernel))) rfl
theorem zw2_72 : Cond.code yX1_lockerAt cX1_lockerAt 2 (some (.object "LockerChains$Locker")) ∈ zWL := zw_in (zw_2 (List.mem_of_getElem? (i := 72) (by decide +kernel))) rfl
theorem zw2_73 : Cond.methodLink RX1 85 yX1_standingOf ∈ zWL := zw_in (zw_2 (List.mem_of_getElem? (i := 73) (by decide +kernel))) rfl
theorem zw2_74 : Cond.instanceMethod yX1_standingOf ∈ zWL := zw_in (zw_2 (List.mem_of_getElem? (i := 74) (by decide +kernel))) rfl
theorem zw2_75 : Cond.selects RX1 yX1_standingOf yX1_standingOf ∈ zWL := zw_in (zw_2 (List.mem_of_getElem? (i := 75) (by decide +kernel))) rfl
theorem zw2_76 : Cond.code yX1_standingOf cX1_standingOf 4 (some .int) ∈ zWL := zw_in (zw_2 (List.mem_of_getElem? (i := 76) (by decide +kernel))) rfl
theorem zw2_77 : Cond.methodLink RX1 89 yX1_offer ∈ zWL := zw_in (zw_2 (List.mem_of_getElem? (i := 77) (by decide +kernel))) rfl
theorem zw2_79 : Cond.instanceMethod yX1_offer ∈ zWL := zw_in (zw_2 (List.mem_of_getElem? (i := 79) (by decide +kernel))) rfl
theorem zw2_80 : Cond.code yX1_offer cX1_offer 3 none ∈ zWL := zw_in (zw_2 (List.mem_of_getElem? (i := 80) (by decide +kernel))) rfl
theorem zw2_81 : Cond.methodLink RX1 124 yX3_firstFor ∈ zWL := zw_in (zw_2 (List.mem_of_getElem? (i := 81) (by decide +kernel))) rfl
theorem zw2_82 : Cond.instanceMethod yX3_firstFor ∈ zWL := zw_in (zw_2 (List.mem_of_getElem? (i := 82) (by decide +kernel))) rfl
theorem zw2_83 : Cond.selects RX3 yX3_firstFor yX3_firstFor ∈ zWL := zw_in (zw_2 (List.mem_of_getElem? (i := 83) (by decide +kernel))) rfl
theorem zw2_84 : Cond.code yX3_firstFor cX3_firstFor 3 (some .int) ∈ zWL := zw_in (zw_2 (List.mem_of_getElem? (i := 84) (by decide +kernel))) rfl
theorem zw2_85 : Cond.methodLink RX1 67 yX1_personAt ∈ zWL := zw_in (zw_2 (List.mem_of_getElem? (i := 85) (by decide +kernel))) rfl
theorem zw2_87 : Cond.instanceMethod yX1_personAt ∈ zWL := zw_in (zw_2 (List.mem_of_getElem? (i := 87) (by decide +kernel))) rfl
theorem zw2_88 : Cond.code yX1_personAt cX1_personAt 2 (some (.object "LockerChains$Person")) ∈ zWL := zw_in (zw_2 (List.mem_of_getElem? (i := 88) (by decide +kernel))) rfl
theorem zw2_89 : Cond.methodLink RX1 199 yX4_isFree ∈ zWL := zw_in (zw_2 (List.mem_of_getElem? (i := 89) (by decide +kernel))) rfl
theorem zw2_9 : Cond.laysFinal "LockerChains" "LockerChains" "text" "LLockerChains$Text;" ∈ zWL := zw_in (zw_2 (List.mem_of_getElem? (i := 9) (by decide +kernel))) rfl
theorem zw2_90 : Cond.instanceMethod yX4_isFree ∈ zWL := zw_in (zw_2 (List.mem_of_getElem? (i := 90) (by decide +kernel))) rfl
theorem zw2_91 : Cond.selects RX4 yX4_isFree yX4_isFree ∈ zWL := zw_in (zw_2 (List.mem_of_getElem? (i := 91) (by decide +kernel))) rfl
theorem zw2_92 : Cond.code yX4_isFree cX4_isFree 1 (some .boolean) ∈ zWL := zw_in (zw_2 (List.mem_of_getElem? (i := 92) (by decide +kernel))) rfl
theorem zw2_93 : Cond.methodLink RX1 115 yX3_remove ∈ zWL := zw_in (zw_2 (List.mem_of_getElem? (i := 93) (by decide +kernel))) rfl
theorem zw2_94 : Cond.instanceMethod yX3_remove ∈ zWL := zw_in (zw_2 (List.mem_of_getElem? (i := 94) (by decide +kernel))) rfl
theorem zw2_95 : Cond.selects RX3 yX3_remove yX3_remove ∈ zWL := zw_in (zw_2 (List.mem_of_getElem? (i := 95) (by decide +kernel))) rfl
theorem zw2_96 : Cond.code yX3_remove cX3_remove 4 none ∈ zWL := zw_in (zw_2 (List.mem_of_getElem? (i := 96) (by decide +kernel))) rfl
theorem zw2_97 : Cond.methodLink RX1 108 yX1_beginLoan ∈ zWL := zw_in (zw_2 (List.mem_of_getElem? (i := 97) (by decide +kernel))) rfl
theorem zw2_99 : Cond.instanceMethod yX1_beginLoan ∈ zWL := zw_in (zw_2 (List.mem_of_getElem? (i := 99) (by decide +kernel))) rfl
theorem zw3_0 : Cond.code yX1_chargeOverdue cX1_chargeOverdue 6 (some .int) ∈ zWL := zw_in (zw_3 (List.mem_of_getElem? (i := 0) (by decide +kernel))) rfl
theorem zw3_1 : Cond.methodLink RX1 187 yX1_feeOfDay ∈ zWL := zw_in (zw_3 (List.mem_of_getElem? (i := 1) (by decide +kernel))) rfl
theorem zw3_10 : Cond.selects RX1 yX1_changeSetting yX1_changeSetting ∈ zWL := zw_in (zw_3 (List.mem_of_getElem? (i := 10) (by decide +kernel))) rfl
theorem zw3_11 : Cond.code yX1_changeSetting cX1_changeSetting 4 (some .int) ∈ zWL := zw_in (zw_3 (List.mem_of_getElem? (i := 11) (by decide +kernel))) rfl
theorem zw3_12 : Cond.methodLink RX1 193 yX1_lowestSetting ∈ zWL := zw_in (zw_3 (List.mem_of_getElem? (i := 12) (by decide +kernel))) rfl
theorem zw3_124 : Cond.methodLink RX9 142 yX2_restore ∈ zWL := zw_in (zw_3 (List.mem_of_getElem? (i := 124) (by decide +kernel))) rfl
theorem zw3_125 : Cond.instanceMethod yX2_restore ∈ zWL := zw_in (zw_3 (List.mem_of_getElem? (i := 125) (by decide +kernel))) rfl
theorem zw3_126 : Cond.selects RX2 yX2_restore yX2_restore ∈ zWL := zw_in (zw_3 (List.mem_of_getElem? (i := 126) (by decide +kernel))) rfl
theorem zw3_127 : Cond.code yX2_restore cX2_restore 2 (some .int) ∈ zWL := zw_in (zw_3 (List.mem_of_getElem? (i := 127) (by decide +kernel))) rfl
theorem zw3_13 : Cond.static yX1_lowestSetting ∈ zWL := zw_in (zw_3 (List.mem_of_getElem? (i := 13) (by decide +kernel))) rfl
theorem zw3_132 : Cond.methodLink RX9 146 yX7_append ∈ zWL := zw_in (zw_3 (List.mem_of_getElem? (i := 132) (by decide +kernel))) rfl
theorem zw3_133 : Cond.instanceMethod yX7_append ∈ zWL := zw_in (zw_3 (List.mem_of_getElem? (i := 133) (by decide +kernel))) rfl
theorem zw3_134 : Cond.selects RX7 yX7_append yX7_append ∈ zWL := zw_in (zw_3 (List.mem_of_getElem? (i := 134) (by decide +kernel))) rfl
theorem zw3_135 : Cond.code yX7_append cX7_append 2 (some .int) ∈ zWL := zw_in (zw_3 (List.mem_of_getElem? (i := 135) (by decide +kernel))) rfl
theorem zw3_14 : Cond.code yX1_lowestSetting cX1_lowestSetting 1 (some .int) ∈ zWL := zw_in (zw_3 (List.mem_of_getElem? (i := 14) (by decide +kernel))) rfl
theorem zw3_140 : Cond.methodLink RX9 149 yX7_clear ∈ zWL := zw_in (zw_3 (List.mem_of_getElem? (i := 140) (by decide +kernel))) rfl
theorem zw3_141 : Cond.instanceMethod yX7_clear ∈ zWL := zw_in (zw_3 (List.mem_of_getElem? (i := 141) (by decide +kernel))) rfl
theorem zw3_142 : Cond.selects RX7 yX7_clear yX7_clear ∈ zWL := zw_in (zw_3 (List.mem_of_getElem? (i := 142) (by decide +kernel))) rfl
theorem zw3_143 : Cond.code yX7_clear cX7_clear 2 (some .int) ∈ zWL := zw_in (zw_3 (List.mem_of_getElem? (i := 143) (by decide +kernel))) rfl
theorem zw3_15 : Cond.methodLink RX1 196 yX1_highestSetting ∈ zWL := zw_in (zw_3 (List.mem_of_getElem? (i := 15) (by decide +kernel))) rfl
theorem zw3_16 : Cond.static yX1_highestSetting ∈ zWL := zw_in (zw_3 (List.mem_of_getElem? (i := 16) (by decide +kernel))) rfl
theorem zw3_17 : Cond.code yX1_highestSetting cX1_highestSetting 1 (some .int) ∈ zWL := zw_in (zw_3 (List.mem_of_getElem? (i := 17) (by decide +kernel))) rfl
theorem zw3_176 : Cond.methodLink RX7 53 yX7_signAt ∈ zWL := zw_in (zw_3 (List.mem_of_getElem? (i := 176) (by decide +kernel))) rfl
theorem zw3_178 : Cond.instanceMethod yX7_signAt ∈ zWL := zw_in (zw_3 (List.mem_of_getElem? (i := 178) (by decide +kernel))) rfl
theorem zw3_179 : Cond.code yX7_signAt cX7_signAt 2 (some .char) ∈ zWL := zw_in (zw_3 (List.mem_of_getElem? (i := 179) (by decide +kernel))) rfl
theorem zw3_2 : Cond.static yX1_feeOfDay ∈ zWL := zw_in (zw_3 (List.mem_of_getElem? (i := 2) (by decide +kernel))) rfl
theorem zw3_22 : Cond.methodLink RX9 86 yX1_tellOfPerson ∈ zWL := zw_in (zw_3 (List.mem_of_getElem? (i := 22) (by decide +kernel))) rfl
theorem zw3_23 : Cond.instanceMethod yX1_tellOfPerson ∈ zWL := zw_in (zw_3 (List.mem_of_getElem? (i := 23) (by decide +kernel))) rfl
theorem zw3_24 : Cond.selects RX1 yX1_tellOfPerson yX1_tellOfPerson ∈ zWL := zw_in (zw_3 (List.mem_of_getElem? (i := 24) (by decide +kernel))) rfl
theorem zw3_25 : Cond.code yX1_tellOfPerson cX1_tellOfPerson 4 (some .int) ∈ zWL := zw_in (zw_3 (List.mem_of_getElem? (i := 25) (by decide +kernel))) rfl
theorem zw3_26 : Cond.methodLink RX1 206 yX1_foundOr ∈ zWL := zw_in (zw_3 (List.mem_of_getElem? (i := 26) (by decide +kernel))) rfl
theorem zw3_27 : Cond.static yX1_foundOr ∈ zWL := zw_in (zw_3 (List.mem_of_getElem? (i := 27) (by decide +kernel))) rfl
theorem zw3_28 : Cond.code yX1_foundOr cX1_foundOr 1 (some .int) ∈ zWL := zw_in (zw_3 (List.mem_of_getElem? (i := 28) (by decide +kernel))) rfl
theorem zw3_3 : Cond.code yX1_feeOfDay cX1_feeOfDay 1 (some .int) ∈ zWL := zw_in (zw_3 (List.mem_of_getElem? (i := 3) (by decide +kernel))) rfl
theorem zw3_33 : Cond.methodLink RX9 89 yX1_tellOfLocker ∈ zWL := zw_in (zw_3 (List.mem_of_getElem? (i := 33) (by decide +kernel))) rfl
theorem zw3_34 : Cond.instanceMethod yX1_tellOfLocker ∈ zWL := zw_in (zw_3 (List.mem_of_getElem? (i := 34) (by decide +kernel))) rfl
theorem zw3_35 : Cond.selects RX1 yX1_tellOfLocker yX1_tellOfLocker ∈ zWL := zw_in (zw_3 (List.mem_of_getElem? (i := 35) (by decide +kernel))) rfl
theorem zw3_36 : Cond.code yX1_tellOfLocker cX1_tellOfLocker 4 (some .int) ∈ zWL := zw_in (zw_3 (List.mem_of_getElem? (i := 36) (by decide +kernel))) rfl
theorem zw3_41 : Cond.methodLink RX9 102 yX3_personAt ∈ zWL := zw_in (zw_3 (List.mem_of_getElem? (i := 41) (by decide +kernel))) rfl
theorem zw3_42 : Cond.methodLink RX9 105 yX3_sizeAt ∈ zWL := zw_in (zw_3 (List.mem_of_getElem? (i := 42) (by decide +kernel))) rfl
theorem zw3_47 : Cond.methodLink RX9 112 yX1_tellNumber ∈ zWL := zw_in (zw_3 (List.mem_of_getElem? (i := 47) (by decide +kernel))) rfl
theorem zw3_48 : Cond.instanceMethod yX1_tellNumber ∈ zWL := zw_in (zw_3 (List.mem_of_getElem? (i := 48) (by decide +kernel))) rfl
theorem zw3_49 : Cond.selects RX1 yX1_tellNumber yX1_tellNumber ∈ zWL := zw_in (zw_3 (List.mem_of_getElem? (i := 49) (by decide +kernel))) rfl
theorem zw3_50 : Cond.code yX1_tellNumber cX1_tellNumber 2 (some .int) ∈ zWL := zw_in (zw_3 (List.mem_of_getElem? (i := 50) (by decide +kernel))) rfl
theorem zw3_51 : Cond.methodLink RX1 209 yX1_freeLockers ∈ zWL := zw_in (zw_3 (List.mem_of_getElem? (i := 51) (by decide +kernel))) rfl
theorem zw3_53 : Cond.instanceMethod yX1_freeLockers ∈ zWL := zw_in (zw_3 (List.mem_of_getElem? (i := 53) (by decide +kernel))) rfl
theorem zw3_54 : Cond.code yX1_freeLockers cX1_freeLockers 3 (some .int) ∈ zWL := zw_in (zw_3 (List.mem_of_getElem? (i := 54) (by decide +kernel))) rfl
theorem zw3_55 : Cond.methodLink RX1 212 yX1_lentLockers ∈ zWL := zw_in (zw_3 (List.mem_of_getElem? (i := 55) (by decide +kernel))) rfl
theorem zw3_56 : Cond.instanceMethod yX1_lentLockers ∈ zWL := zw_in (zw_3 (List.mem_of_getElem? (i := 56) (by decide +kernel))) rfl
theorem zw3_57 : Cond.selects RX1 yX1_lentLockers yX1_lentLockers ∈ zWL := zw_in (zw_3 (List.mem_of_getElem? (i := 57) (by decide +kernel))) rfl
theorem zw3_58 : Cond.code yX1_lentLockers cX1_lentLockers 3 (some .int) ∈ zWL := zw_in (zw_3 (List.mem_of_getElem? (i := 58) (by decide +kernel))) rfl
theorem zw3_59 : Cond.methodLink RX1 215 yX1_closedLockers ∈ zWL := zw_in (zw_3 (List.mem_of_getElem? (i := 59) (by decide +kernel))) rfl
theorem zw3_61 : Cond.instanceMethod yX1_closedLockers ∈ zWL := zw_in (zw_3 (List.mem_of_getElem? (i := 61) (by decide +kernel))) rfl
theorem zw3_62 : Cond.code yX1_closedLockers cX1_closedLockers 3 (some .int) ∈ zWL := zw_in (zw_3 (List.mem_of_getElem? (i := 62) (by decide +kernel))) rfl
theorem zw3_63 : Cond.methodLink RX1 218 yX1_owedByAll ∈ zWL := zw_in (zw_3 (List.mem_of_getElem? (i := 63) (by decide +kernel))) rfl
theorem zw3_65 : Cond.instanceMethod yX1_owedByAll ∈ zWL := zw_in (zw_3 (List.mem_of_getElem? (i := 65) (by decide +kernel))) rfl
theorem zw3_66 : Cond.code yX1_owedByAll cX1_owedByAll 3 (some .int) ∈ zWL := zw_in (zw_3 (List.mem_of_getElem? (i := 66) (by decide +kernel))) rfl
theorem zw3_67 : Cond.methodLink RX1 221 yX1_paidByAll ∈ zWL := zw_in (zw_3 (List.mem_of_getElem? (i := 67) (by decide +kernel))) rfl
theorem zw3_69 : Cond.instanceMethod yX1_paidByAll ∈ zWL := zw_in (zw_3 (List.mem_of_getElem? (i := 69) (by decide +kernel))) rfl
theorem zw3_70 : Cond.code yX1_paidByAll cX1_paidByAll 3 (some .int) ∈ zWL := zw_in (zw_3 (List.mem_of_getElem? (i := 70) (by decide +kernel))) rfl
theorem zw3_71 : Cond.methodLink RX1 224 yX1_tellSetting ∈ zWL := zw_in (zw_3 (List.mem_of_getElem? (i := 71) (by decide +kernel))) rfl
theorem zw3_73 : Cond.instanceMethod yX1_tellSetting ∈ zWL := zw_in (zw_3 (List.mem_of_getElem? (i := 73) (by decide +kernel))) rfl
theorem zw3_74 : Cond.code yX1_tellSetting cX1_tellSetting 2 (some .int) ∈ zWL := zw_in (zw_3 (List.mem_of_getElem? (i := 74) (by decide +kernel))) rfl
theorem zw3_79 : Cond.methodLink RX9 115 yX6_feeOf ∈ zWL := zw_in (zw_3 (List.mem_of_getElem? (i := 79) (by decide +kernel))) rfl
theorem zw3_8 : Cond.methodLink RX9 83 yX1_changeSetting ∈ zWL := zw_in (zw_3 (List.mem_of_getElem? (i := 8) (by decide +kernel))) rfl
theorem zw3_80 : Cond.instanceMethod yX6_feeOf ∈ zWL := zw_in (zw_3 (List.mem_of_getElem? (i := 80) (by decide +kernel))) rfl
theorem zw3_81 : Cond.selects RX6 yX6_feeOf yX6_feeOf ∈ zWL := zw_in (zw_3 (List.mem_of_getElem? (i := 81) (by decide +kernel))) rfl
theorem zw3_82 : Cond.code yX6_feeOf cX6_feeOf 6 (some .int) ∈ zWL := zw_in (zw_3 (List.mem_of_getElem? (i := 82) (by decide +kernel))) rfl
theorem zw3_84 : Cond.methodLink RX6 22 yX1_copyFrom ∈ zWL := zw_in (zw_3 (List.mem_of_getElem? (i := 84) (by decide +kernel))) rfl
theorem zw3_85 : Cond.methodLink RX6 26 yX1_passDays ∈ zWL := zw_in (zw_3 (List.mem_of_getElem? (i := 85) (by decide +kernel))) rfl
theorem zw3_9 : Cond.instanceMethod yX1_changeSetting ∈ zWL := zw_in (zw_3 (List.mem_of_getElem? (i := 9) (by decide +kernel))) rfl
theorem zw3_90 : Cond.methodLink RX9 119 yX6_lockerBehindSwapping ∈ zWL := zw_in (zw_3 (List.mem_of_getElem? (i := 90) (by decide +kernel))) rfl
theorem zw3_91 : Cond.instanceMethod yX6_lockerBehindSwapping ∈ zWL := zw_in (zw_3 (List.mem_of_getElem? (i := 91) (by decide +kernel))) rfl
theorem zw3_92 : Cond.selects RX6 yX6_lockerBehindSwapping yX6_lockerBehindSwapping ∈ zWL := zw_in (zw_3 (List.mem_of_getElem? (i := 92) (by decide +kernel))) rfl
theorem zw3_93 : Cond.code yX6_lockerBehindSwapping cX6_lockerBehindSwapping 3 (some .int) ∈ zWL := zw_in (zw_3 (List.mem_of_getElem? (i := 93) (by decide +kernel))) rfl
theorem zw3_94 : Cond.methodLink RX6 36 yX1_swapAll ∈ zWL := zw_in (zw_3 (List.mem_of_getElem? (i := 94) (by decide +kernel))) rfl
theorem zw3_95 : Cond.methodLink RX6 40 yX1_tellOfPerson ∈ zWL := zw_in (zw_3 (List.mem_of_getElem? (i := 95) (by decide +kernel))) rfl
theorem zw4_101 : Cond.instanceMethod yX10_isLocker ∈ zWL := zw_in (zw_4 (List.mem_of_getElem? (i := 101) (by decide +kernel))) rfl
theorem zw4_102 : Cond.code yX10_isLocker cX10_isLocker 2 (some .boolean) ∈ zWL := zw_in (zw_4 (List.mem_of_getElem? (i := 102) (by decide +kernel))) rfl
theorem zw4_103 : Cond.methodLink RX10 36 yX10_of ∈ zWL := zw_in (zw_4 (List.mem_of_getElem? (i := 103) (by decide +kernel))) rfl
theorem zw4_105 : Cond.instanceMethod yX10_of ∈ zWL := zw_in (zw_4 (List.mem_of_getElem? (i := 105) (by decide +kernel))) rfl
theorem zw4_106 : Cond.code yX10_of cX10_of 3 (some .int) ∈ zWL := zw_in (zw_4 (List.mem_of_getElem? (i := 106) (by decide +kernel))) rfl
theorem zw4_107 : Cond.methodLink RX10 75 yX10_inRow ∈ zWL := zw_in (zw_4 (List.mem_of_getElem? (i := 107) (by decide +kernel))) rfl
theorem zw4_109 : Cond.instanceMethod yX10_inRow ∈ zWL := zw_in (zw_4 (List.mem_of_getElem? (i := 109) (by decide +kernel))) rfl
theorem zw4_110 : Cond.code yX10_inRow cX10_inRow 4 (some .int) ∈ zWL := zw_in (zw_4 (List.mem_of_getElem? (i := 110) (by decide +kernel))) rfl
theorem zw4_111 : Cond.methodLink RX10 78 yX10_frees ∈ zWL := zw_in (zw_4 (List.mem_of_getElem? (i := 111) (by decide +kernel))) rfl
theorem zw4_113 : Cond.instanceMethod yX10_frees ∈ zWL := zw_in (zw_4 (List.mem_of_getElem? (i := 113) (by decide +kernel))) rfl
theorem zw4_114 : Cond.code yX10_frees cX10_frees 4 none ∈ zWL := zw_in (zw_4 (List.mem_of_getElem? (i := 114) (by decide +kernel))) rfl
theorem zw4_115 : Cond.methodLink RX10 40 yX10_isFree ∈ zWL := zw_in (zw_4 (List.mem_of_getElem? (i := 115) (by decide +kernel))) rfl
theorem zw4_117 : Cond.instanceMethod yX10_isFree ∈ zWL := zw_in (zw_4 (List.mem_of_getElem? (i := 117) (by decide +kernel))) rfl
theorem zw4_118 : Cond.code yX10_isFree cX10_isFree 2 (some .boolean) ∈ zWL := zw_in (zw_4 (List.mem_of_getElem? (i := 118) (by decide +kernel))) rfl
theorem zw4_119 : Cond.methodLink RX10 55 yX10_firstWaiting ∈ zWL := zw_in (zw_4 (List.mem_of_getElem? (i := 119) (by decide +kernel))) rfl
theorem zw4_121 : Cond.instanceMethod yX10_firstWaiting ∈ zWL := zw_in (zw_4 (List.mem_of_getElem? (i := 121) (by decide +kernel))) rfl
theorem zw4_122 : Cond.code yX10_firstWaiting cX10_firstWaiting 4 (some .int) ∈ zWL := zw_in (zw_4 (List.mem_of_getElem? (i := 122) (by decide +kernel))) rfl
theorem zw4_123 : Cond.methodLink RX10 59 yX10_waitsNoMore ∈ zWL := zw_in (zw_4 (List.mem_of_getElem? (i := 123) (by decide +kernel))) rfl
theorem zw4_125 : Cond.instanceMethod yX10_waitsNoMore ∈ zWL := zw_in (zw_4 (List.mem_of_getElem? (i := 125) (by decide +kernel))) rfl
theorem zw4_126 : Cond.code yX10_waitsNoMore cX10_waitsNoMore 3 none ∈ zWL := zw_in (zw_4 (List.mem_of_getElem? (i := 126) (by decide +kernel))) rfl
theorem zw4_127 : Cond.methodLink RX10 63 yX10_beginsLoan ∈ zWL := zw_in (zw_4 (List.mem_of_getElem? (i := 127) (by decide +kernel))) rfl
theorem zw4_129 : Cond.instanceMethod yX10_beginsLoan ∈ zWL := zw_in (zw_4 (List.mem_of_getElem? (i := 129) (by decide +kernel))) rfl
theorem zw4_130 : Cond.code yX10_beginsLoan cX10_beginsLoan 3 none ∈ zWL := zw_in (zw_4 (List.mem_of_getElem? (i := 130) (by decide +kernel))) rfl
theorem zw4_131 : Cond.methodLink RX10 51 yX10_has ∈ zWL := zw_in (zw_4 (List.mem_of_getElem? (i := 131) (by decide +kernel))) rfl
theorem zw4_133 : Cond.instanceMethod yX10_has ∈ zWL := zw_in (zw_4 (List.mem_of_getElem? (i := 133) (by decide +kernel))) rfl
theorem zw4_134 : Cond.code yX10_has cX10_has 3 none ∈ zWL := zw_in (zw_4 (List.mem_of_getElem? (i := 134) (by decide +kernel))) rfl
theorem zw4_139 : Cond.methodLink RX10 157 yX10_lends ∈ zWL := zw_in (zw_4 (List.mem_of_getElem? (i := 139) (by decide +kernel))) rfl
theorem zw4_141 : Cond.instanceMethod yX10_lends ∈ zWL := zw_in (zw_4 (List.mem_of_getElem? (i := 141) (by decide +kernel))) rfl
theorem zw4_142 : Cond.code yX10_lends cX10_lends 4 (some .int) ∈ zWL := zw_in (zw_4 (List.mem_of_getElem? (i := 142) (by decide +kernel))) rfl
theorem zw4_143 : Cond.methodLink RX10 81 yX10_isPerson ∈ zWL := zw_in (zw_4 (List.mem_of_getElem? (i := 143) (by decide +kernel))) rfl
theorem zw4_145 : Cond.instanceMethod yX10_isPerson ∈ zWL := zw_in (zw_4 (List.mem_of_getElem? (i := 145) (by decide +kernel))) rfl
theorem zw4_146 : Cond.code yX10_isPerson cX10_isPerson 2 (some .boolean) ∈ zWL := zw_in (zw_4 (List.mem_of_getElem? (i := 146) (by decide +kernel))) rfl
theorem zw4_147 : Cond.methodLink RX10 66 yX10_ofP ∈ zWL := zw_in (zw_4 (List.mem_of_getElem? (i := 147) (by decide +kernel))) rfl
theorem zw4_149 : Cond.instanceMethod yX10_ofP ∈ zWL := zw_in (zw_4 (List.mem_of_getElem? (i := 149) (by decide +kernel))) rfl
theorem zw4_150 : Cond.code yX10_ofP cX10_ofP 3 (some .int) ∈ zWL := zw_in (zw_4 (List.mem_of_getElem? (i := 150) (by decide +kernel))) rfl
theorem zw4_151 : Cond.methodLink RX10 84 yX10_placeOf ∈ zWL := zw_in (zw_4 (List.mem_of_getElem? (i := 151) (by decide +kernel))) rfl
theorem zw4_153 : Cond.instanceMethod yX10_placeOf ∈ zWL := zw_in (zw_4 (List.mem_of_getElem? (i := 153) (by decide +kernel))) rfl
theorem zw4_154 : Cond.code yX10_placeOf cX10_placeOf 3 (some .int) ∈ zWL := zw_in (zw_4 (List.mem_of_getElem? (i := 154) (by decide +kernel))) rfl
theorem zw4_155 : Cond.methodLink RX10 87 yX10_lowestFree ∈ zWL := zw_in (zw_4 (List.mem_of_getElem? (i := 155) (by decide +kernel))) rfl
theorem zw4_157 : Cond.instanceMethod yX10_lowestFree ∈ zWL := zw_in (zw_4 (List.mem_of_getElem? (i := 157) (by decide +kernel))) rfl
theorem zw4_158 : Cond.code yX10_lowestFree cX10_lowestFree 3 (some .int) ∈ zWL := zw_in (zw_4 (List.mem_of_getElem? (i := 158) (by decide +kernel))) rfl
theorem zw4_159 : Cond.methodLink RX10 90 yX10_waitsFor ∈ zWL := zw_in (zw_4 (List.mem_of_getElem? (i := 159) (by decide +kernel))) rfl
theorem zw4_161 : Cond.instanceMethod yX10_waitsFor ∈ zWL := zw_in (zw_4 (List.mem_of_getElem? (i := 161) (by decide +kernel))) rfl
theorem zw4_162 : Cond.code yX10_waitsFor cX10_waitsFor 3 none ∈ zWL := zw_in (zw_4 (List.mem_of_getElem? (i := 162) (by decide +kernel))) rfl
theorem zw4_167 : Cond.methodLink RX10 160 yX10_givesBack ∈ zWL := zw_in (zw_4 (List.mem_of_getElem? (i := 167) (by decide +kernel))) rfl
theorem zw4_169 : Cond.instanceMethod yX10_givesBack ∈ zWL := zw_in (zw_4 (List.mem_of_getElem? (i := 169) (by decide +kernel))) rfl
theorem zw4_170 : Cond.code yX10_givesBack cX10_givesBack 4 (some .int) ∈ zWL := zw_in (zw_4 (List.mem_of_getElem? (i := 170) (by decide +kernel))) rfl
theorem zw4_171 : Cond.methodLink RX10 93 yX10_overdue ∈ zWL := zw_in (zw_4 (List.mem_of_getElem? (i := 171) (by decide +kernel))) rfl
theorem zw4_173 : Cond.instanceMethod yX10_overdue ∈ zWL := zw_in (zw_4 (List.mem_of_getElem? (i := 173) (by decide +kernel))) rfl
theorem zw4_174 : Cond.code yX10_overdue cX10_overdue 3 (some .int) ∈ zWL := zw_in (zw_4 (List.mem_of_getElem? (i := 174) (by decide +kernel))) rfl
theorem zw4_175 : Cond.methodLink RX10 96 yX10_endsLoan ∈ zWL := zw_in (zw_4 (List.mem_of_getElem? (i := 175) (by decide +kernel))) rfl
theorem zw4_177 : Cond.instanceMethod yX10_endsLoan ∈ zWL := zw_in (zw_4 (List.mem_of_getElem? (i := 177) (by decide +kernel))) rfl
theorem zw4_178 : Cond.code yX10_endsLoan cX10_endsLoan 3 (some .int) ∈ zWL := zw_in (zw_4 (List.mem_of_getElem? (i := 178) (by decide +kernel))) rfl
theorem zw4_179 : Cond.methodLink RX10 69 yX10_endsWish ∈ zWL := zw_in (zw_4 (List.mem_of_getElem? (i := 179) (by decide +kernel))) rfl
theorem zw4_181 : Cond.instanceMethod yX10_endsWish ∈ zWL := zw_in (zw_4 (List.mem_of_getElem? (i := 181) (by decide +kernel))) rfl
theorem zw4_182 : Cond.code yX10_endsWish cX10_endsWish 3 none ∈ zWL := zw_in (zw_4 (List.mem_of_getElem? (i := 182) (by decide +kernel))) rfl
theorem zw4_187 : Cond.methodLink RX10 163 yX10_renews ∈ zWL := zw_in (zw_4 (List.mem_of_getElem? (i := 187) (by decide +kernel))) rfl
theorem zw4_189 : Cond.instanceMethod yX10_renews ∈ zWL := zw_in (zw_4 (List.mem_of_getElem? (i := 189) (by decide +kernel))) rfl
theorem zw4_19 : Cond.fieldLink RX10 7 "LockerChainsModel" "s" "[I" ∈ zWL := zw_in (zw_4 (List.mem_of_getElem? (i := 19) (by decide +kernel))) rfl
theorem zw4_190 : Cond.code yX10_renews cX10_renews 3 (some .int) ∈ zWL := zw_in (zw_4 (List.mem_of_getElem? (i := 190) (by decide +kernel))) rfl
theorem zw4_195 : Cond.methodLink RX10 166 yX10_loses ∈ zWL := zw_in (zw_4 (List.mem_of_getElem? (i := 195) (by decide +kernel))) rfl
theorem zw4_197 : Cond.instanceMethod yX10_loses ∈ zWL := zw_in (zw_4 (List.mem_of_getElem? (i := 197) (by decide +kernel))) rfl
theorem zw4_198 : Cond.code yX10_loses cX10_loses 3 (some .int) ∈ zWL := zw_in (zw_4 (List.mem_of_getElem? (i := 198) (by decide +kernel))) rfl
theorem zw4_199 : Cond.methodLink RX10 99 yX10_owes ∈ zWL := zw_in (zw_4 (List.mem_of_getElem? (i := 199) (by decide +kernel))) rfl
theorem zw4_20 : Cond.fieldLink RX10 13 "LockerChainsModel" "begun" "[I" ∈ zWL := zw_in (zw_4 (List.mem_of_getElem? (i := 20) (by decide +kernel))) rfl
theorem zw4_201 : Cond.instanceMethod yX10_owes ∈ zWL := zw_in (zw_4 (List.mem_of_getElem? (i := 201) (by decide +kernel))) rfl
theorem zw4_202 : Cond.code yX10_owes cX10_owes 3 none ∈ zWL := zw_in (zw_4 (List.mem_of_getElem? (i := 202) (by decide +kernel))) rfl
theorem zw4_203 : Cond.methodLink RX10 102 yX10_changesLock ∈ zWL := zw_in (zw_4 (List.mem_of_getElem? (i := 203) (by decide +kernel))) rfl
theorem zw4_205 : Cond.instanceMethod yX10_changesLock ∈ zWL := zw_in (zw_4 (List.mem_of_getElem? (i := 205) (by decide +kernel))) rfl
theorem zw4_206 : Cond.code yX10_changesLock cX10_changesLock 5 none ∈ zWL := zw_in (zw_4 (List.mem_of_getElem? (i := 206) (by decide +kernel))) rfl
theorem zw4_21 : Cond.fieldLink RX10 16 "LockerChainsModel" "aside" "[I" ∈ zWL := zw_in (zw_4 (List.mem_of_getElem? (i := 21) (by decide +kernel))) rfl
theorem zw4_211 : Cond.methodLink RX10 169 yX10_wishes ∈ zWL := zw_in (zw_4 (List.mem_of_getElem? (i := 211) (by decide +kernel))) rfl
theorem zw4_213 : Cond.instanceMethod yX10_wishes ∈ zWL := zw_in (zw_4 (List.mem_of_getElem? (i := 213) (by decide +kernel))) rfl
theorem zw4_214 : Cond.code yX10_wishes cX10_wishes 4 (some .int) ∈ zWL := zw_in (zw_4 (List.mem_of_getElem? (i := 214) (by decide +kernel))) rfl
theorem zw4_219 : Cond.methodLink RX10 172 yX10_wishesNoMore ∈ zWL := zw_in (zw_4 (List.mem_of_getElem? (i := 219) (by decide +kernel))) rfl
theorem zw4_22 : Cond.fieldLink RX10 19 "LockerChainsModel" "past" "[I" ∈ zWL := zw_in (zw_4 (List.mem_of_getElem? (i := 22) (by decide +kernel))) rfl
theorem zw4_221 : Cond.instanceMethod yX10_wishesNoMore ∈ zWL := zw_in (zw_4 (List.mem_of_getElem? (i := 221) (by decide +kernel))) rfl
theorem zw4_222 : Cond.code yX10_wishesNoMore cX10_wishesNoMore 3 (some .int) ∈ zWL := zw_in (zw_4 (List.mem_of_getElem? (i := 222) (by decide +kernel))) rfl
theorem zw4_227 : Cond.methodLink RX10 175 yX10_swaps ∈ zWL := zw_in (zw_4 (List.mem_of_getElem? (i := 227) (by decide +kernel))) rfl
theorem zw4_229 : Cond.instanceMethod yX10_swaps ∈ zWL := zw_in (zw_4 (List.mem_of_getElem? (i := 229) (by decide +kernel))) rfl
theorem zw4_23 : Cond.fieldLink RX10 32 "LockerChainsModel" "states" "I" ∈ zWL := zw_in (zw_4 (List.mem_of_getElem? (i := 23) (by decide +kernel))) rfl
theorem zw4_230 : Cond.code yX10_swaps cX10_swaps 4 (some .int) ∈ zWL := zw_in (zw_4 (List.mem_of_getElem? (i := 230) (by decide +kernel))) rfl
theorem zw4_231 : Cond.methodLink RX10 119 yX10_takesFree ∈ zWL := zw_in (zw_4 (List.mem_of_getElem? (i := 231) (by decide +kernel))) rfl
theorem zw4_233 : Cond.instanceMethod yX10_takesFree ∈ zWL := zw_in (zw_4 (List.mem_of_getElem? (i := 233) (by decide +kernel))) rfl
theorem zw4_234 : Cond.code yX10_takesFree cX10_takesFree 5 (some .boolean) ∈ zWL := zw_in (zw_4 (List.mem_of_getElem? (i := 234) (by decide +kernel))) rfl
theorem zw4_235 : Cond.methodLink RX10 105 yX10_moves ∈ zWL := zw_in (zw_4 (List.mem_of_getElem? (i := 235) (by decide +kernel))) rfl
theorem zw4_237 : Cond.instanceMethod yX10_moves ∈ zWL := zw_in (zw_4 (List.mem_of_getElem? (i := 237) (by decide +kernel))) rfl
theorem zw4_238 : Cond.code yX10_moves cX10_moves 3 none ∈ zWL := zw_in (zw_4 (List.mem_of_getElem? (i := 238) (by decide +kernel))) rfl
theorem zw4_239 : Cond.methodLink RX10 123 yX10_takesRing ∈ zWL := zw_in (zw_4 (List.mem_of_getElem? (i := 239) (by decide +kernel))) rfl
theorem zw4_24 : Cond.fieldLink RX10 22 "LockerChainsModel" "text" "[I" ∈ zWL := zw_in (zw_4 (List.mem_of_getElem? (i := 24) (by decide +kernel))) rfl
theorem zw4_25 : Cond.fieldLink RX10 196 "LockerChainsModel" "length" "I" ∈ zWL := zw_in (zw_4 (List.mem_of_getElem? (i := 25) (by decide +kernel))) rfl
theorem zw4_26 : Cond.fieldLink RX10 219 "LockerChainsModel" "at" "I" ∈ zWL := zw_in (zw_4 (List.mem_of_getElem? (i := 26) (by decide +kernel))) rfl
theorem zw4_27 : Cond.fieldLink RX10 222 "LockerChainsModel" "isForm" "Z" ∈ zWL := zw_in (zw_4 (List.mem_of_getElem? (i := 27) (by decide +kernel))) rfl
theorem zw4_28 : Cond.fieldLink RX10 261 "LockerChainsModel" "reason" "I" ∈ zWL := zw_in (zw_4 (List.mem_of_getElem? (i := 28) (by decide +kernel))) rfl
theorem zw4_29 : Cond.fieldLink RX10 264 "LockerChainsModel" "cause" "I" ∈ zWL := zw_in (zw_4 (List.mem_of_getElem? (i := 29) (by decide +kernel))) rfl
theorem zw4_30 : Cond.fieldLink RX10 25 "LockerChainsModel" "numbers" "[I" ∈ zWL := zw_in (zw_4 (List.mem_of_getElem? (i := 30) (by decide +kernel))) rfl
theorem zw4_31 : Cond.laysFinal "LockerChainsModel" "LockerChainsModel" "s" "[I" ∈ zWL := zw_in (zw_4 (List.mem_of_getElem? (i := 31) (by decide +kernel))) rfl
theorem zw4_33 : Cond.laysFinal "LockerChainsModel" "LockerChainsModel" "begun" "[I" ∈ zWL := zw_in (zw_4 (List.mem_of_getElem? (i := 33) (by decide +kernel))) rfl
theorem zw4_35 : Cond.laysFinal "LockerChainsModel" "LockerChainsModel" "aside" "[I" ∈ zWL := zw_in (zw_4 (List.mem_of_getElem? (i := 35) (by decide +kernel))) rfl
theorem zw4_37 : Cond.laysFinal "LockerChainsModel" "LockerChainsModel" "past" "[I" ∈ zWL := zw_in (zw_4 (List.mem_of_getElem? (i := 37) (by decide +kernel))) rfl
theorem zw4_39 : Cond.lays "LockerChainsModel" "LockerChainsModel" "states" "I" ∈ zWL := zw_in (zw_4 (List.mem_of_getElem? (i := 39) (by decide +kernel))) rfl
theorem zw4_41 : Cond.laysFinal "LockerChainsModel" "LockerChainsModel" "text" "[I" ∈ zWL := zw_in (zw_4 (List.mem_of_getElem? (i := 41) (by decide +kernel))) rfl
theorem zw4_43 : Cond.lays "LockerChainsModel" "LockerChainsModel" "length" "I" ∈ zWL := zw_in (zw_4 (List.mem_of_getElem? (i := 43) (by decide +kernel))) rfl
theorem zw4_45 : Cond.lays "LockerChainsModel" "LockerChainsModel" "at" "I" ∈ zWL := zw_in (zw_4 (List.mem_of_getElem? (i := 45) (by decide +kernel))) rfl
theorem zw4_47 : Cond.lays "LockerChainsModel" "LockerChainsModel" "isForm" "Z" ∈ zWL := zw_in (zw_4 (List.mem_of_getElem? (i := 47) (by decide +kernel))) rfl
theorem zw4_49 : Cond.lays "LockerChainsModel" "LockerChainsModel" "reason" "I" ∈ zWL := zw_in (zw_4 (List.mem_of_getElem? (i := 49) (by decide +kernel))) rfl
theorem zw4_51 : Cond.lays "LockerChainsModel" "LockerChainsModel" "cause" "I" ∈ zWL := zw_in (zw_4 (List.mem_of_getElem? (i := 51) (by decide +kernel))) rfl
theorem zw4_53 : Cond.laysFinal "LockerChainsModel" "LockerChainsModel" "numbers" "[I" ∈ zWL := zw_in (zw_4 (List.mem_of_getElem? (i := 53) (by decide +kernel))) rfl
theorem zw4_60 : Cond.methodLink RX10 142 yX10_begins ∈ zWL := zw_in (zw_4 (List.mem_of_getElem? (i := 60) (by decide +kernel))) rfl
theorem zw4_62 : Cond.instanceMethod yX10_begins ∈ zWL := zw_in (zw_4 (List.mem_of_getElem? (i := 62) (by decide +kernel))) rfl
theorem zw4_63 : Cond.code yX10_begins cX10_begins 2 none ∈ zWL := zw_in (zw_4 (List.mem_of_getElem? (i := 63) (by decide +kernel))) rfl
theorem zw4_64 : Cond.methodLink RX10 145 yX10_makesLocker ∈ zWL := zw_in (zw_4 (List.mem_of_getElem? (i := 64) (by decide +kernel))) rfl
theorem zw4_66 : Cond.instanceMethod yX10_makesLocker ∈ zWL := zw_in (zw_4 (List.mem_of_getElem? (i := 66) (by decide +kernel))) rfl
theorem zw4_67 : Cond.code yX10_makesLocker cX10_makesLocker 3 (some .int) ∈ zWL := zw_in (zw_4 (List.mem_of_getElem? (i := 67) (by decide +kernel))) rfl
theorem zw4_68 : Cond.methodLink RX10 28 yX10_in ∈ zWL := zw_in (zw_4 (List.mem_of_getElem? (i := 68) (by decide +kernel))) rfl
theorem zw4_69 : Cond.static yX10_in ∈ zWL := zw_in (zw_4 (List.mem_of_getElem? (i := 69) (by decide +kernel))) rfl
theorem zw4_70 : Cond.code yX10_in cX10_in 3 (some .boolean) ∈ zWL := zw_in (zw_4 (List.mem_of_getElem? (i := 70) (by decide +kernel))) rfl
theorem zw4_71 : Cond.methodLink RX10 44 yX10_lay ∈ zWL := zw_in (zw_4 (List.mem_of_getElem? (i := 71) (by decide +kernel))) rfl
theorem zw4_73 : Cond.instanceMethod yX10_lay ∈ zWL := zw_in (zw_4 (List.mem_of_getElem? (i := 73) (by decide +kernel))) rfl
theorem zw4_74 : Cond.code yX10_lay cX10_lay 4 none ∈ zWL := zw_in (zw_4 (List.mem_of_getElem? (i := 74) (by decide +kernel))) rfl
theorem zw4_75 : Cond.methodLink RX10 148 yX10_acted ∈ zWL := zw_in (zw_4 (List.mem_of_getElem? (i := 75) (by decide +kernel))) rfl
theorem zw4_77 : Cond.instanceMethod yX10_acted ∈ zWL := zw_in (zw_4 (List.mem_of_getElem? (i := 77) (by decide +kernel))) rfl
theorem zw4_78 : Cond.code yX10_acted cX10_acted 3 (some .int) ∈ zWL := zw_in (zw_4 (List.mem_of_getElem? (i := 78) (by decide +kernel))) rfl
theorem zw4_83 : Cond.methodLink RX10 151 yX10_makesPerson ∈ zWL := zw_in (zw_4 (List.mem_of_getElem? (i := 83) (by decide +kernel))) rfl
theorem zw4_85 : Cond.instanceMethod yX10_makesPerson ∈ zWL := zw_in (zw_4 (List.mem_of_getElem? (i := 85) (by decide +kernel))) rfl
theorem zw4_86 : Cond.code yX10_makesPerson cX10_makesPerson 3 (some .int) ∈ zWL := zw_in (zw_4 (List.mem_of_getElem? (i := 86) (by decide +kernel))) rfl
theorem zw4_87 : Cond.methodLink RX10 48 yX10_layP ∈ zWL := zw_in (zw_4 (List.mem_of_getElem? (i := 87) (by decide +kernel))) rfl
theorem zw4_89 : Cond.instanceMethod yX10_layP ∈ zWL := zw_in (zw_4 (List.mem_of_getElem? (i := 89) (by decide +kernel))) rfl
theorem zw4_90 : Cond.code yX10_layP cX10_layP 4 none ∈ zWL := zw_in (zw_4 (List.mem_of_getElem? (i := 90) (by decide +kernel))) rfl
theorem zw4_95 : Cond.methodLink RX10 154 yX10_stands ∈ zWL := zw_in (zw_4 (List.mem_of_getElem? (i := 95) (by decide +kernel))) rfl
theorem zw4_97 : Cond.instanceMethod yX10_stands ∈ zWL := zw_in (zw_4 (List.mem_of_getElem? (i := 97) (by decide +kernel))) rfl
theorem zw4_98 : Cond.code yX10_stands cX10_stands 3 (some .int) ∈ zWL := zw_in (zw_4 (List.mem_of_getElem? (i := 98) (by decide +kernel))) rfl
theorem zw4_99 : Cond.methodLink RX10 72 yX10_isLocker ∈ zWL := zw_in (zw_4 (List.mem_of_getElem? (i := 99) (by decide +kernel))) rfl
theorem zw5_1 : Cond.instanceMethod yX10_takesRing ∈ zWL := zw_in (zw_5 (List.mem_of_getElem? (i := 1) (by decide +kernel))) rfl
theorem zw5_10 : Cond.code yX10_wants cX10_wants 3 (some .boolean) ∈ zWL := zw_in (zw_5 (List.mem_of_getElem? (i := 10) (by decide +kernel))) rfl
theorem zw5_11 : Cond.methodLink RX10 115 yX10_goesRound ∈ zWL := zw_in (zw_5 (List.mem_of_getElem? (i := 11) (by decide +kernel))) rfl
theorem zw5_13 : Cond.instanceMethod yX10_goesRound ∈ zWL := zw_in (zw_5 (List.mem_of_getElem? (i := 13) (by decide +kernel))) rfl
theorem zw5_14 : Cond.code yX10_goesRound cX10_goesRound 5 (some .int) ∈ zWL := zw_in (zw_5 (List.mem_of_getElem? (i := 14) (by decide +kernel))) rfl
theorem zw5_144 : Cond.methodLink RX10 267 yX10_does ∈ zWL := zw_in (zw_5 (List.mem_of_getElem? (i := 144) (by decide +kernel))) rfl
theorem zw5_146 : Cond.instanceMethod yX10_does ∈ zWL := zw_in (zw_5 (List.mem_of_getElem? (i := 146) (by decide +kernel))) rfl
theorem zw5_147 : Cond.code yX10_does cX10_does 4 (some .int) ∈ zWL := zw_in (zw_5 (List.mem_of_getElem? (i := 147) (by decide +kernel))) rfl
theorem zw5_148 : Cond.methodLink RX10 258 yX10_command ∈ zWL := zw_in (zw_5 (List.mem_of_getElem? (i := 148) (by decide +kernel))) rfl
theorem zw5_150 : Cond.instanceMethod yX10_command ∈ zWL := zw_in (zw_5 (List.mem_of_getElem? (i := 150) (by decide +kernel))) rfl
theorem zw5_151 : Cond.code yX10_command cX10_command 4 (some .int) ∈ zWL := zw_in (zw_5 (List.mem_of_getElem? (i := 151) (by decide +kernel))) rfl
theorem zw5_152 : Cond.methodLink RX10 252 yX10_readWord ∈ zWL := zw_in (zw_5 (List.mem_of_getElem? (i := 152) (by decide +kernel))) rfl
theorem zw5_154 : Cond.instanceMethod yX10_readWord ∈ zWL := zw_in (zw_5 (List.mem_of_getElem? (i := 154) (by decide +kernel))) rfl
theorem zw5_155 : Cond.code yX10_readWord cX10_readWord 5 (some .int) ∈ zWL := zw_in (zw_5 (List.mem_of_getElem? (i := 155) (by decide +kernel))) rfl
theorem zw5_156 : Cond.methodLink RX10 226 yX10_here ∈ zWL := zw_in (zw_5 (List.mem_of_getElem? (i := 156) (by decide +kernel))) rfl
theorem zw5_158 : Cond.instanceMethod yX10_here ∈ zWL := zw_in (zw_5 (List.mem_of_getElem? (i := 158) (by decide +kernel))) rfl
theorem zw5_159 : Cond.code yX10_here cX10_here 1 (some .int) ∈ zWL := zw_in (zw_5 (List.mem_of_getElem? (i := 159) (by decide +kernel))) rfl
theorem zw5_160 : Cond.methodLink RX10 248 yX10_wordOf ∈ zWL := zw_in (zw_5 (List.mem_of_getElem? (i := 160) (by decide +kernel))) rfl
theorem zw5_161 : Cond.static yX10_wordOf ∈ zWL := zw_in (zw_5 (List.mem_of_getElem? (i := 161) (by decide +kernel))) rfl
theorem zw5_162 : Cond.code yX10_wordOf cX10_wordOf 1 (some .long) ∈ zWL := zw_in (zw_5 (List.mem_of_getElem? (i := 162) (by decide +kernel))) rfl
theorem zw5_163 : Cond.constantLong RX10 232 (1818586724 : Int64) ∈ zWL := zw_in (zw_5 (List.mem_of_getElem? (i := 163) (by decide +kernel))) rfl
theorem zw5_164 : Cond.constantLong RX10 234 (1650549611 : Int64) ∈ zWL := zw_in (zw_5 (List.mem_of_getElem? (i := 164) (by decide +kernel))) rfl
theorem zw5_165 : Cond.constantLong RX10 236 (491328005495 : Int64) ∈ zWL := zw_in (zw_5 (List.mem_of_getElem? (i := 165) (by decide +kernel))) rfl
theorem zw5_166 : Cond.constantLong RX10 238 (1819243365 : Int64) ∈ zWL := zw_in (zw_5 (List.mem_of_getElem? (i := 166) (by decide +kernel))) rfl
theorem zw5_167 : Cond.constantLong RX10 240 (2003399528 : Int64) ∈ zWL := zw_in (zw_5 (List.mem_of_getElem? (i := 167) (by decide +kernel))) rfl
theorem zw5_168 : Cond.constantLong RX10 242 (1937203568 : Int64) ∈ zWL := zw_in (zw_5 (List.mem_of_getElem? (i := 168) (by decide +kernel))) rfl
theorem zw5_169 : Cond.constantLong RX10 244 (7364985 : Int64) ∈ zWL := zw_in (zw_5 (List.mem_of_getElem? (i := 169) (by decide +kernel))) rfl
theorem zw5_170 : Cond.constantLong RX10 246 (1885434739 : Int64) ∈ zWL := zw_in (zw_5 (List.mem_of_getElem? (i := 170) (by decide +kernel))) rfl
theorem zw5_171 : Cond.methodLink RX10 255 yX10_readNumber ∈ zWL := zw_in (zw_5 (List.mem_of_getElem? (i := 171) (by decide +kernel))) rfl
theorem zw5_173 : Cond.instanceMethod yX10_readNumber ∈ zWL := zw_in (zw_5 (List.mem_of_getElem? (i := 173) (by decide +kernel))) rfl
theorem zw5_174 : Cond.code yX10_readNumber cX10_readNumber 3 (some .int) ∈ zWL := zw_in (zw_5 (List.mem_of_getElem? (i := 174) (by decide +kernel))) rfl
theorem zw5_175 : Cond.methodLink RX10 229 yX10_must ∈ zWL := zw_in (zw_5 (List.mem_of_getElem? (i := 175) (by decide +kernel))) rfl
theorem zw5_177 : Cond.instanceMethod yX10_must ∈ zWL := zw_in (zw_5 (List.mem_of_getElem? (i := 177) (by decide +kernel))) rfl
theorem zw5_178 : Cond.code yX10_must cX10_must 2 none ∈ zWL := zw_in (zw_5 (List.mem_of_getElem? (i := 178) (by decide +kernel))) rfl
theorem zw5_19 : Cond.methodLink RX10 178 yX10_pays ∈ zWL := zw_in (zw_5 (List.mem_of_getElem? (i := 19) (by decide +kernel))) rfl
theorem zw5_2 : Cond.code yX10_takesRing cX10_takesRing 4 (some .int) ∈ zWL := zw_in (zw_5 (List.mem_of_getElem? (i := 2) (by decide +kernel))) rfl
theorem zw5_21 : Cond.instanceMethod yX10_pays ∈ zWL := zw_in (zw_5 (List.mem_of_getElem? (i := 21) (by decide +kernel))) rfl
theorem zw5_22 : Cond.code yX10_pays cX10_pays 3 (some .int) ∈ zWL := zw_in (zw_5 (List.mem_of_getElem? (i := 22) (by decide +kernel))) rfl
theorem zw5_27 : Cond.methodLink RX10 181 yX10_passes ∈ zWL := zw_in (zw_5 (List.mem_of_getElem? (i := 27) (by decide +kernel))) rfl
theorem zw5_29 : Cond.instanceMethod yX10_passes ∈ zWL := zw_in (zw_5 (List.mem_of_getElem? (i := 29) (by decide +kernel))) rfl
theorem zw5_3 : Cond.methodLink RX10 112 yX10_thirdOf ∈ zWL := zw_in (zw_5 (List.mem_of_getElem? (i := 3) (by decide +kernel))) rfl
theorem zw5_30 : Cond.code yX10_passes cX10_passes 2 (some .int) ∈ zWL := zw_in (zw_5 (List.mem_of_getElem? (i := 30) (by decide +kernel))) rfl
theorem zw5_31 : Cond.methodLink RX10 133 yX10_passDays ∈ zWL := zw_in (zw_5 (List.mem_of_getElem? (i := 31) (by decide +kernel))) rfl
theorem zw5_33 : Cond.instanceMethod yX10_passDays ∈ zWL := zw_in (zw_5 (List.mem_of_getElem? (i := 33) (by decide +kernel))) rfl
theorem zw5_34 : Cond.code yX10_passDays cX10_passDays 5 (some .int) ∈ zWL := zw_in (zw_5 (List.mem_of_getElem? (i := 34) (by decide +kernel))) rfl
theorem zw5_35 : Cond.methodLink RX10 130 yX10_dayPasses ∈ zWL := zw_in (zw_5 (List.mem_of_getElem? (i := 35) (by decide +kernel))) rfl
theorem zw5_37 : Cond.instanceMethod yX10_dayPasses ∈ zWL := zw_in (zw_5 (List.mem_of_getElem? (i := 37) (by decide +kernel))) rfl
theorem zw5_38 : Cond.code yX10_dayPasses cX10_dayPasses 4 (some .int) ∈ zWL := zw_in (zw_5 (List.mem_of_getElem? (i := 38) (by decide +kernel))) rfl
theorem zw5_39 : Cond.methodLink RX10 127 yX10_feeOf ∈ zWL := zw_in (zw_5 (List.mem_of_getElem? (i := 39) (by decide +kernel))) rfl
theorem zw5_40 : Cond.static yX10_feeOf ∈ zWL := zw_in (zw_5 (List.mem_of_getElem? (i := 40) (by decide +kernel))) rfl
theorem zw5_41 : Cond.code yX10_feeOf cX10_feeOf 2 (some .int) ∈ zWL := zw_in (zw_5 (List.mem_of_getElem? (i := 41) (by decide +kernel))) rfl
theorem zw5_46 : Cond.methodLink RX10 184 yX10_sets ∈ zWL := zw_in (zw_5 (List.mem_of_getElem? (i := 46) (by decide +kernel))) rfl
theorem zw5_48 : Cond.instanceMethod yX10_sets ∈ zWL := zw_in (zw_5 (List.mem_of_getElem? (i := 48) (by decide +kernel))) rfl
theorem zw5_49 : Cond.code yX10_sets cX10_sets 4 (some .int) ∈ zWL := zw_in (zw_5 (List.mem_of_getElem? (i := 49) (by decide +kernel))) rfl
theorem zw5_5 : Cond.instanceMethod yX10_thirdOf ∈ zWL := zw_in (zw_5 (List.mem_of_getElem? (i := 5) (by decide +kernel))) rfl
theorem zw5_50 : Cond.methodLink RX10 136 yX10_least ∈ zWL := zw_in (zw_5 (List.mem_of_getElem? (i := 50) (by decide +kernel))) rfl
theorem zw5_51 : Cond.static yX10_least ∈ zWL := zw_in (zw_5 (List.mem_of_getElem? (i := 51) (by decide +kernel))) rfl
theorem zw5_52 : Cond.code yX10_least cX10_least 1 (some .int) ∈ zWL := zw_in (zw_5 (List.mem_of_getElem? (i := 52) (by decide +kernel))) rfl
theorem zw5_53 : Cond.methodLink RX10 139 yX10_most ∈ zWL := zw_in (zw_5 (List.mem_of_getElem? (i := 53) (by decide +kernel))) rfl
theorem zw5_54 : Cond.static yX10_most ∈ zWL := zw_in (zw_5 (List.mem_of_getElem? (i := 54) (by decide +kernel))) rfl
theorem zw5_55 : Cond.code yX10_most cX10_most 1 (some .int) ∈ zWL := zw_in (zw_5 (List.mem_of_getElem? (i := 55) (by decide +kernel))) rfl
theorem zw5_6 : Cond.code yX10_thirdOf cX10_thirdOf 4 (some .int) ∈ zWL := zw_in (zw_5 (List.mem_of_getElem? (i := 6) (by decide +kernel))) rfl
theorem zw5_60 : Cond.methodLink RX10 187 yX10_orNone ∈ zWL := zw_in (zw_5 (List.mem_of_getElem? (i := 60) (by decide +kernel))) rfl
theorem zw5_61 : Cond.static yX10_orNone ∈ zWL := zw_in (zw_5 (List.mem_of_getElem? (i := 61) (by decide +kernel))) rfl
theorem zw5_62 : Cond.code yX10_orNone cX10_orNone 1 (some .int) ∈ zWL := zw_in (zw_5 (List.mem_of_getElem? (i := 62) (by decide +kernel))) rfl
theorem zw5_7 : Cond.methodLink RX10 108 yX10_wants ∈ zWL := zw_in (zw_5 (List.mem_of_getElem? (i := 7) (by decide +kernel))) rfl
theorem zw5_75 : Cond.methodLink RX10 190 yX10_lockersThat ∈ zWL := zw_in (zw_5 (List.mem_of_getElem? (i := 75) (by decide +kernel))) rfl
theorem zw5_77 : Cond.instanceMethod yX10_lockersThat ∈ zWL := zw_in (zw_5 (List.mem_of_getElem? (i := 77) (by decide +kernel))) rfl
theorem zw5_78 : Cond.code yX10_lockersThat cX10_lockersThat 5 (some .int) ∈ zWL := zw_in (zw_5 (List.mem_of_getElem? (i := 78) (by decide +kernel))) rfl
theorem zw5_79 : Cond.methodLink RX10 193 yX10_debts ∈ zWL := zw_in (zw_5 (List.mem_of_getElem? (i := 79) (by decide +kernel))) rfl
theorem zw5_81 : Cond.instanceMethod yX10_debts ∈ zWL := zw_in (zw_5 (List.mem_of_getElem? (i := 81) (by decide +kernel))) rfl
theorem zw5_82 : Cond.code yX10_debts cX10_debts 3 (some .int) ∈ zWL := zw_in (zw_5 (List.mem_of_getElem? (i := 82) (by decide +kernel))) rfl
theorem zw5_87 : Cond.methodLink RX10 199 yX10_layAside ∈ zWL := zw_in (zw_5 (List.mem_of_getElem? (i := 87) (by decide +kernel))) rfl
theorem zw5_89 : Cond.instanceMethod yX10_layAside ∈ zWL := zw_in (zw_5 (List.mem_of_getElem? (i := 89) (by decide +kernel))) rfl
theorem zw5_9 : Cond.instanceMethod yX10_wants ∈ zWL := zw_in (zw_5 (List.mem_of_getElem? (i := 9) (by decide +kernel))) rfl
theorem zw5_90 : Cond.code yX10_layAside cX10_layAside 2 none ∈ zWL := zw_in (zw_5 (List.mem_of_getElem? (i := 90) (by decide +kernel))) rfl
theorem zw5_91 : Cond.methodLink RX10 202 yX10_bringBack ∈ zWL := zw_in (zw_5 (List.mem_of_getElem? (i := 91) (by decide +kernel))) rfl
theorem zw5_93 : Cond.instanceMethod yX10_bringBack ∈ zWL := zw_in (zw_5 (List.mem_of_getElem? (i := 93) (by decide +kernel))) rfl
theorem zw5_94 : Cond.code yX10_bringBack cX10_bringBack 2 none ∈ zWL := zw_in (zw_5 (List.mem_of_getElem? (i := 94) (by decide +kernel))) rfl
theorem zwp1_0 : Cond.selects RX2 yX2_slot yX2_slot ∈ zWL := zw_in (zw_p (y := yX2_slot) (n := 3) (show (yX2_slot, 3) ∈ lw_privs_1 ++ (lw_privs_2 ++ (lw_privs_3 ++ (lw_privs_4 ++ (lw_privs_5 ++ (lw_privs_6))))) from List.mem_append_left _ (List.mem_of_getElem? (i := 0) (by decide +kernel)))) (by decide +kernel)
theorem zwp1_1 : Cond.selects RX1 yX1_lockerAt yX1_lockerAt ∈ zWL := zw_in (zw_p (y := yX1_lockerAt) (n := 10) (show (yX1_lockerAt, 10) ∈ lw_privs_1 ++ (lw_privs_2 ++ (lw_privs_3 ++ (lw_privs_4 ++ (lw_privs_5 ++ (lw_privs_6))))) from List.mem_append_left _ (List.mem_of_getElem? (i := 1) (by decide +kernel)))) (by decide +kernel)
theorem zwp1_10 : Cond.selects RX1 yX1_move yX1_move ∈ zWL := zw_in (zw_p (y := yX1_move) (n := 10) (show (yX1_move, 10) ∈ lw_privs_1 ++ (lw_privs_2 ++ (lw_privs_3 ++ (lw_privs_4 ++ (lw_privs_5 ++ (lw_privs_6))))) from List.mem_append_left _ (List.mem_of_getElem? (i := 10) (by decide +kernel)))) (by decide +kernel)
theorem zwp1_11 : Cond.selects RX1 yX1_findRing yX1_findRing ∈ zWL := zw_in (zw_p (y := yX1_findRing) (n := 10) (show (yX1_findRing, 10) ∈ lw_privs_1 ++ (lw_privs_2 ++ (lw_privs_3 ++ (lw_privs_4 ++ (lw_privs_5 ++ (lw_privs_6))))) from List.mem_append_left _ (List.mem_of_getElem? (i := 11) (by decide +kernel)))) (by decide +kernel)
theorem zwp1_12 : Cond.selects RX1 yX1_wants yX1_wants ∈ zWL := zw_in (zw_p (y := yX1_wants) (n := 10) (show (yX1_wants, 10) ∈ lw_privs_1 ++ (lw_privs_2 ++ (lw_privs_3 ++ (lw_privs_4 ++ (lw_privs_5 ++ (lw_privs_6))))) from List.mem_append_left _ (List.mem_of_getElem? (i := 12) (by decide +kernel)))) (by decide +kernel)
theorem zwp1_13 : Cond.selects RX1 yX1_moveAround yX1_moveAround ∈ zWL := zw_in (zw_p (y := yX1_moveAround) (n := 10) (show (yX1_moveAround, 10) ∈ lw_privs_1 ++ (lw_privs_2 ++ (lw_privs_3 ++ (lw_privs_4 ++ (lw_privs_5 ++ (lw_privs_6))))) from List.mem_append_left _ (List.mem_of_getElem? (i := 13) (by decide +kernel)))) (by decide +kernel)
theorem zwp1_14 : Cond.selects RX1 yX1_endClosing yX1_endClosing ∈ zWL := zw_in (zw_p (y := yX1_endClosing) (n := 10) (show (yX1_endClosing, 10) ∈ lw_privs_1 ++ (lw_privs_2 ++ (lw_privs_3 ++ (lw_privs_4 ++ (lw_privs_5 ++ (lw_privs_6))))) from List.mem_append_left _ (List.mem_of_getElem? (i := 14) (by decide +kernel)))) (by decide +kernel)
theorem zwp1_15 : Cond.selects RX1 yX1_chargeOverdue yX1_chargeOverdue ∈ zWL := zw_in (zw_p (y := yX1_chargeOverdue) (n := 10) (show (yX1_chargeOverdue, 10) ∈ lw_privs_1 ++ (lw_privs_2 ++ (lw_privs_3 ++ (lw_privs_4 ++ (lw_privs_5 ++ (lw_privs_6))))) from List.mem_append_left _ (List.mem_of_getElem? (i := 15) (by decide +kernel)))) (by decide +kernel)
theorem zwp1_2 : Cond.selects RX1 yX1_offer yX1_offer ∈ zWL := zw_in (zw_p (y := yX1_offer) (n := 10) (show (yX1_offer, 10) ∈ lw_privs_1 ++ (lw_privs_2 ++ (lw_privs_3 ++ (lw_privs_4 ++ (lw_privs_5 ++ (lw_privs_6))))) from List.mem_append_left _ (List.mem_of_getElem? (i := 2) (by decide +kernel)))) (by decide +kernel)
theorem zwp1_3 : Cond.selects RX1 yX1_personAt yX1_personAt ∈ zWL := zw_in (zw_p (y := yX1_personAt) (n := 10) (show (yX1_personAt, 10) ∈ lw_privs_1 ++ (lw_privs_2 ++ (lw_privs_3 ++ (lw_privs_4 ++ (lw_privs_5 ++ (lw_privs_6))))) from List.mem_append_left _ (List.mem_of_getElem? (i := 3) (by decide +kernel)))) (by decide +kernel)
theorem zwp1_4 : Cond.selects RX1 yX1_beginLoan yX1_beginLoan ∈ zWL := zw_in (zw_p (y := yX1_beginLoan) (n := 10) (show (yX1_beginLoan, 10) ∈ lw_privs_1 ++ (lw_privs_2 ++ (lw_privs_3 ++ (lw_privs_4 ++ (lw_privs_5 ++ (lw_privs_6))))) from List.mem_append_left _ (List.mem_of_getElem? (i := 4) (by decide +kernel)))) (by decide +kernel)
theorem zwp1_5 : Cond.selects RX1 yX1_lowestFree yX1_lowestFree ∈ zWL := zw_in (zw_p (y := yX1_lowestFree) (n := 10) (show (yX1_lowestFree, 10) ∈ lw_privs_1 ++ (lw_privs_2 ++ (lw_privs_3 ++ (lw_privs_4 ++ (lw_privs_5 ++ (lw_privs_6))))) from List.mem_append_left _ (List.mem_of_getElem? (i := 5) (by decide +kernel)))) (by decide +kernel)
theorem zwp1_6 : Cond.selects RX1 yX1_endLoan yX1_endLoan ∈ zWL := zw_in (zw_p (y := yX1_endLoan) (n := 10) (show (yX1_endLoan, 10) ∈ lw_privs_1 ++ (lw_privs_2 ++ (lw_privs_3 ++ (lw_privs_4 ++ (lw_privs_5 ++ (lw_privs_6))))) from List.mem_append_left _ (List.mem_of_getElem? (i := 6) (by decide +kernel)))) (by decide +kernel)
theorem zwp1_7 : Cond.selects RX1 yX1_changeLock yX1_changeLock ∈ zWL := zw_in (zw_p (y := yX1_changeLock) (n := 10) (show (yX1_changeLock, 10) ∈ lw_privs_1 ++ (lw_privs_2 ++ (lw_privs_3 ++ (lw_privs_4 ++ (lw_privs_5 ++ (lw_privs_6))))) from List.mem_append_left _ (List.mem_of_getElem? (i := 7) (by decide +kernel)))) (by decide +kernel)
theorem zwp1_8 : Cond.selects RX1 yX1_moveToFree yX1_moveToFree ∈ zWL := zw_in (zw_p (y := yX1_moveToFree) (n := 10) (show (yX1_moveToFree, 10) ∈ lw_privs_1 ++ (lw_privs_2 ++ (lw_privs_3 ++ (lw_privs_4 ++ (lw_privs_5 ++ (lw_privs_6))))) from List.mem_append_left _ (List.mem_of_getElem? (i := 8) (by decide +kernel)))) (by decide +kernel)
theorem zwp1_9 : Cond.selects RX1 yX1_lockerOfPerson yX1_lockerOfPerson ∈ zWL := zw_in (zw_p (y := yX1_lockerOfPerson) (n := 10) (show (yX1_lockerOfPerson, 10) ∈ lw_privs_1 ++ (lw_privs_2 ++ (lw_privs_3 ++ (lw_privs_4 ++ (lw_privs_5 ++ (lw_privs_6))))) from List.mem_append_left _ (List.mem_of_getElem? (i := 9) (by decide +kernel)))) (by decide +kernel)
theorem zwp2_0 : Cond.selects RX1 yX1_freeLockers yX1_freeLockers ∈ zWL := zw_in (zw_p (y := yX1_freeLockers) (n := 10) (show (yX1_freeLockers, 10) ∈ lw_privs_1 ++ (lw_privs_2 ++ (lw_privs_3 ++ (lw_privs_4 ++ (lw_privs_5 ++ (lw_privs_6))))) from List.mem_append_right _ (List.mem_append_left _ (List.mem_of_getElem? (i := 0) (by decide +kernel))))) (by decide +kernel)
theorem zwp2_1 : Cond.selects RX1 yX1_closedLockers yX1_closedLockers ∈ zWL := zw_in (zw_p (y := yX1_closedLockers) (n := 10) (show (yX1_closedLockers, 10) ∈ lw_privs_1 ++ (lw_privs_2 ++ (lw_privs_3 ++ (lw_privs_4 ++ (lw_privs_5 ++ (lw_privs_6))))) from List.mem_append_right _ (List.mem_append_left _ (List.mem_of_getElem? (i := 1) (by decide +kernel))))) (by decide +kernel)
theorem zwp2_11 : Cond.selects RX10 yX10_begins yX10_begins ∈ zWL := zw_in (zw_p (y := yX10_begins) (n := 12) (show (yX10_begins, 12) ∈ lw_privs_1 ++ (lw_privs_2 ++ (lw_privs_3 ++ (lw_privs_4 ++ (lw_privs_5 ++ (lw_privs_6))))) from List.mem_append_right _ (List.mem_append_left _ (List.mem_of_getElem? (i := 11) (by decide +kernel))))) (by decide +kernel)
theorem zwp2_12 : Cond.selects RX10 yX10_makesLocker yX10_makesLocker ∈ zWL := zw_in (zw_p (y := yX10_makesLocker) (n := 12) (show (yX10_makesLocker, 12) ∈ lw_privs_1 ++ (lw_privs_2 ++ (lw_privs_3 ++ (lw_privs_4 ++ (lw_privs_5 ++ (lw_privs_6))))) from List.mem_append_right _ (List.mem_append_left _ (List.mem_of_getElem? (i := 12) (by decide +kernel))))) (by decide +kernel)
theorem zwp2_13 : Cond.selects RX10 yX10_lay yX10_lay ∈ zWL := zw_in (zw_p (y := yX10_lay) (n := 12) (show (yX10_lay, 12) ∈ lw_privs_1 ++ (lw_privs_2 ++ (lw_privs_3 ++ (lw_privs_4 ++ (lw_privs_5 ++ (lw_privs_6))))) from List.mem_append_right _ (List.mem_append_left _ (List.mem_of_getElem? (i := 13) (by decide +kernel))))) (by decide +kernel)
theorem zwp2_14 : Cond.selects RX10 yX10_acted yX10_acted ∈ zWL := zw_in (zw_p (y := yX10_acted) (n := 12) (show (yX10_acted, 12) ∈ lw_privs_1 ++ (lw_privs_2 ++ (lw_privs_3 ++ (lw_privs_4 ++ (lw_privs_5 ++ (lw_privs_6))))) from List.mem_append_right _ (List.mem_append_left _ (List.mem_of_getElem? (i := 14) (by decide +kernel))))) (by decide +kernel)
theorem zwp2_15 : Cond.selects RX10 yX10_makesPerson yX10_makesPerson ∈ zWL := zw_in (zw_p (y := yX10_makesPerson) (n := 12) (show (yX10_makesPerson, 12) ∈ lw_privs_1 ++ (lw_privs_2 ++ (lw_privs_3 ++ (lw_privs_4 ++ (lw_privs_5 ++ (lw_privs_6))))) from List.mem_append_right _ (List.mem_append_left _ (List.mem_of_getElem? (i := 15) (by decide +kernel))))) (by decide +kernel)
theorem zwp2_2 : Cond.selects RX1 yX1_owedByAll yX1_owedByAll ∈ zWL := zw_in (zw_p (y := yX1_owedByAll) (n := 10) (show (yX1_owedByAll, 10) ∈ lw_privs_1 ++ (lw_privs_2 ++ (lw_privs_3 ++ (lw_privs_4 ++ (lw_privs_5 ++ (lw_privs_6))))) from List.mem_append_right _ (List.mem_append_left _ (List.mem_of_getElem? (i := 2) (by decide +kernel))))) (by decide +kernel)
theorem zwp2_3 : Cond.selects RX1 yX1_paidByAll yX1_paidByAll ∈ zWL := zw_in (zw_p (y := yX1_paidByAll) (n := 10) (show (yX1_paidByAll, 10) ∈ lw_privs_1 ++ (lw_privs_2 ++ (lw_privs_3 ++ (lw_privs_4 ++ (lw_privs_5 ++ (lw_privs_6))))) from List.mem_append_right _ (List.mem_append_left _ (List.mem_of_getElem? (i := 3) (by decide +kernel))))) (by decide +kernel)
theorem zwp2_4 : Cond.selects RX1 yX1_tellSetting yX1_tellSetting ∈ zWL := zw_in (zw_p (y := yX1_tellSetting) (n := 10) (show (yX1_tellSetting, 10) ∈ lw_privs_1 ++ (lw_privs_2 ++ (lw_privs_3 ++ (lw_privs_4 ++ (lw_privs_5 ++ (lw_privs_6))))) from List.mem_append_right _ (List.mem_append_left _ (List.mem_of_getElem? (i := 4) (by decide +kernel))))) (by decide +kernel)
theorem zwp2_7 : Cond.selects RX7 yX7_signAt yX7_signAt ∈ zWL := zw_in (zw_p (y := yX7_signAt) (n := 6) (show (yX7_signAt, 6) ∈ lw_privs_1 ++ (lw_privs_2 ++ (lw_privs_3 ++ (lw_privs_4 ++ (lw_privs_5 ++ (lw_privs_6))))) from List.mem_append_right _ (List.mem_append_left _ (List.mem_of_getElem? (i := 7) (by decide +kernel))))) (by decide +kernel)
theorem zwp3_0 : Cond.selects RX10 yX10_layP yX10_layP ∈ zWL := zw_in (zw_p (y := yX10_layP) (n := 12) (show (yX10_layP, 12) ∈ lw_privs_1 ++ (lw_privs_2 ++ (lw_privs_3 ++ (lw_privs_4 ++ (lw_privs_5 ++ (lw_privs_6))))) from List.mem_append_right _ (List.mem_append_right _ (List.mem_append_left _ (List.mem_of_getElem? (i := 0) (by decide +kernel)))))) (by decide +kernel)
theorem zwp3_1 : Cond.selects RX10 yX10_stands yX10_stands ∈ zWL := zw_in (zw_p (y := yX10_stands) (n := 12) (show (yX10_stands, 12) ∈ lw_privs_1 ++ (lw_privs_2 ++ (lw_privs_3 ++ (lw_privs_4 ++ (lw_privs_5 ++ (lw_privs_6))))) from List.mem_append_right _ (List.mem_append_right _ (List.mem_append_left _ (List.mem_of_getElem? (i := 1) (by decide +kernel)))))) (by decide +kernel)
theorem zwp3_10 : Cond.selects RX10 yX10_has yX10_has ∈ zWL := zw_in (zw_p (y := yX10_has) (n := 12) (show (yX10_has, 12) ∈ lw_privs_1 ++ (lw_privs_2 ++ (lw_privs_3 ++ (lw_privs_4 ++ (lw_privs_5 ++ (lw_privs_6))))) from List.mem_append_right _ (List.mem_append_right _ (List.mem_append_left _ (List.mem_of_getElem? (i := 10) (by decide +kernel)))))) (by decide +kernel)
theorem zwp3_11 : Cond.selects RX10 yX10_lends yX10_lends ∈ zWL := zw_in (zw_p (y := yX10_lends) (n := 12) (show (yX10_lends, 12) ∈ lw_privs_1 ++ (lw_privs_2 ++ (lw_privs_3 ++ (lw_privs_4 ++ (lw_privs_5 ++ (lw_privs_6))))) from List.mem_append_right _ (List.mem_append_right _ (List.mem_append_left _ (List.mem_of_getElem? (i := 11) (by decide +kernel)))))) (by decide +kernel)
theorem zwp3_12 : Cond.selects RX10 yX10_isPerson yX10_isPerson ∈ zWL := zw_in (zw_p (y := yX10_isPerson) (n := 12) (show (yX10_isPerson, 12) ∈ lw_privs_1 ++ (lw_privs_2 ++ (lw_privs_3 ++ (lw_privs_4 ++ (lw_privs_5 ++ (lw_privs_6))))) from List.mem_append_right _ (List.mem_append_right _ (List.mem_append_left _ (List.mem_of_getElem? (i := 12) (by decide +kernel)))))) (by decide +kernel)
theorem zwp3_13 : Cond.selects RX10 yX10_ofP yX10_ofP ∈ zWL := zw_in (zw_p (y := yX10_ofP) (n := 12) (show (yX10_ofP, 12) ∈ lw_privs_1 ++ (lw_privs_2 ++ (lw_privs_3 ++ (lw_privs_4 ++ (lw_privs_5 ++ (lw_privs_6))))) from List.mem_append_right _ (List.mem_append_right _ (List.mem_append_left _ (List.mem_of_getElem? (i := 13) (by decide +kernel)))))) (by decide +kernel)
theorem zwp3_14 : Cond.selects RX10 yX10_placeOf yX10_placeOf ∈ zWL := zw_in (zw_p (y := yX10_placeOf) (n := 12) (show (yX10_placeOf, 12) ∈ lw_privs_1 ++ (lw_privs_2 ++ (lw_privs_3 ++ (lw_privs_4 ++ (lw_privs_5 ++ (lw_privs_6))))) from List.mem_append_right _ (List.mem_append_right _ (List.mem_append_left _ (List.mem_of_getElem? (i := 14) (by decide +kernel)))))) (by decide +kernel)
theorem zwp3_15 : Cond.selects RX10 yX10_lowestFree yX10_lowestFree ∈ zWL := zw_in (zw_p (y := yX10_lowestFree) (n := 12) (show (yX10_lowestFree, 12) ∈ lw_privs_1 ++ (lw_privs_2 ++ (lw_privs_3 ++ (lw_privs_4 ++ (lw_privs_5 ++ (lw_privs_6))))) from List.mem_append_right _ (List.mem_append_right _ (List.mem_append_left _ (List.mem_of_getElem? (i := 15) (by decide +kernel)))))) (by decide +kernel)
theorem zwp3_2 : Cond.selects RX10 yX10_isLocker yX10_isLocker ∈ zWL := zw_in (zw_p (y := yX10_isLocker) (n := 12) (show (yX10_isLocker, 12) ∈ lw_privs_1 ++ (lw_privs_2 ++ (lw_privs_3 ++ (lw_privs_4 ++ (lw_privs_5 ++ (lw_privs_6))))) from List.mem_append_right _ (List.mem_append_right _ (List.mem_append_left _ (List.mem_of_getElem? (i := 2) (by decide +kernel)))))) (by decide +kernel)
theorem zwp3_3 : Cond.selects RX10 yX10_of yX10_of ∈ zWL := zw_in (zw_p (y := yX10_of) (n := 12) (show (yX10_of, 12) ∈ lw_privs_1 ++ (lw_privs_2 ++ (lw_privs_3 ++ (lw_privs_4 ++ (lw_privs_5 ++ (lw_privs_6))))) from List.mem_append_right _ (List.mem_append_right _ (List.mem_append_left _ (List.mem_of_getElem? (i := 3) (by decide +kernel)))))) (by decide +kernel)
theorem zwp3_4 : Cond.selects RX10 yX10_inRow yX10_inRow ∈ zWL := zw_in (zw_p (y := yX10_inRow) (n := 12) (show (yX10_inRow, 12) ∈ lw_privs_1 ++ (lw_privs_2 ++ (lw_privs_3 ++ (lw_privs_4 ++ (lw_privs_5 ++ (lw_privs_6))))) from List.mem_append_right _ (List.mem_append_right _ (List.mem_append_left _ (List.mem_of_getElem? (i := 4) (by decide +kernel)))))) (by decide +kernel)
theorem zwp3_5 : Cond.selects RX10 yX10_frees yX10_frees ∈ zWL := zw_in (zw_p (y := yX10_frees) (n := 12) (show (yX10_frees, 12) ∈ lw_privs_1 ++ (lw_privs_2 ++ (lw_privs_3 ++ (lw_privs_4 ++ (lw_privs_5 ++ (lw_privs_6))))) from List.mem_append_right _ (List.mem_append_right _ (List.mem_append_left _ (List.mem_of_getElem? (i := 5) (by decide +kernel)))))) (by decide +kernel)
theorem zwp3_6 : Cond.selects RX10 yX10_isFree yX10_isFree ∈ zWL := zw_in (zw_p (y := yX10_isFree) (n := 12) (show (yX10_isFree, 12) ∈ lw_privs_1 ++ (lw_privs_2 ++ (lw_privs_3 ++ (lw_privs_4 ++ (lw_privs_5 ++ (lw_privs_6))))) from List.mem_append_right _ (List.mem_append_right _ (List.mem_append_left _ (List.mem_of_getElem? (i := 6) (by decide +kernel)))))) (by decide +kernel)
theorem zwp3_7 : Cond.selects RX10 yX10_firstWaiting yX10_firstWaiting ∈ zWL := zw_in (zw_p (y := yX10_firstWaiting) (n := 12) (show (yX10_firstWaiting, 12) ∈ lw_privs_1 ++ (lw_privs_2 ++ (lw_privs_3 ++ (lw_privs_4 ++ (lw_privs_5 ++ (lw_privs_6))))) from List.mem_append_right _ (List.mem_append_right _ (List.mem_append_left _ (List.mem_of_getElem? (i := 7) (by decide +kernel)))))) (by decide +kernel)
theorem zwp3_8 : Cond.selects RX10 yX10_waitsNoMore yX10_waitsNoMore ∈ zWL := zw_in (zw_p (y := yX10_waitsNoMore) (n := 12) (show (yX10_waitsNoMore, 12) ∈ lw_privs_1 ++ (lw_privs_2 ++ (lw_privs_3 ++ (lw_privs_4 ++ (lw_privs_5 ++ (lw_privs_6))))) from List.mem_append_right _ (List.mem_append_right _ (List.mem_append_left _ (List.mem_of_getElem? (i := 8) (by decide +kernel)))))) (by decide +kernel)
theorem zwp3_9 : Cond.selects RX10 yX10_beginsLoan yX10_beginsLoan ∈ zWL := zw_in (zw_p (y := yX10_beginsLoan) (n := 12) (show (yX10_beginsLoan, 12) ∈ lw_privs_1 ++ (lw_privs_2 ++ (lw_privs_3 ++ (lw_privs_4 ++ (lw_privs_5 ++ (lw_privs_6))))) from List.mem_append_right _ (List.mem_append_right _ (List.mem_append_left _ (List.mem_of_getElem? (i := 9) (by decide +kernel)))))) (by decide +kernel)
theorem zwp4_0 : Cond.selects RX10 yX10_waitsFor yX10_waitsFor ∈ zWL := zw_in (zw_p (y := yX10_waitsFor) (n := 12) (show (yX10_waitsFor, 12) ∈ lw_privs_1 ++ (lw_privs_2 ++ (lw_privs_3 ++ (lw_privs_4 ++ (lw_privs_5 ++ (lw_privs_6))))) from List.mem_append_right _ (List.mem_append_right _ (List.mem_append_right _ (List.mem_append_left _ (List.mem_of_getElem? (i := 0) (by decide +kernel))))))) (by decide +kernel)
theorem zwp4_1 : Cond.selects RX10 yX10_givesBack yX10_givesBack ∈ zWL := zw_in (zw_p (y := yX10_givesBack) (n := 12) (show (yX10_givesBack, 12) ∈ lw_privs_1 ++ (lw_privs_2 ++ (lw_privs_3 ++ (lw_privs_4 ++ (lw_privs_5 ++ (lw_privs_6))))) from List.mem_append_right _ (List.mem_append_right _ (List.mem_append_right _ (List.mem_append_left _ (List.mem_of_getElem? (i := 1) (by decide +kernel))))))) (by decide +kernel)
theorem zwp4_10 : Cond.selects RX10 yX10_wishesNoMore yX10_wishesNoMore ∈ zWL := zw_in (zw_p (y := yX10_wishesNoMore) (n := 12) (show (yX10_wishesNoMore, 12) ∈ lw_privs_1 ++ (lw_privs_2 ++ (lw_privs_3 ++ (lw_privs_4 ++ (lw_privs_5 ++ (lw_privs_6))))) from List.mem_append_right _ (List.mem_append_right _ (List.mem_append_right _ (List.mem_append_left _ (List.mem_of_getElem? (i := 10) (by decide +kernel))))))) (by decide +kernel)
theorem zwp4_11 : Cond.selects RX10 yX10_swaps yX10_swaps ∈ zWL := zw_in (zw_p (y := yX10_swaps) (n := 12) (show (yX10_swaps, 12) ∈ lw_privs_1 ++ (lw_privs_2 ++ (lw_privs_3 ++ (lw_privs_4 ++ (lw_privs_5 ++ (lw_privs_6))))) from List.mem_append_right _ (List.mem_append_right _ (List.mem_append_right _ (List.mem_append_left _ (List.mem_of_getElem? (i := 11) (by decide +kernel))))))) (by decide +kernel)
theorem zwp4_12 : Cond.selects RX10 yX10_takesFree yX10_takesFree ∈ zWL := zw_in (zw_p (y := yX10_takesFree) (n := 12) (show (yX10_takesFree, 12) ∈ lw_privs_1 ++ (lw_privs_2 ++ (lw_privs_3 ++ (lw_privs_4 ++ (lw_privs_5 ++ (lw_privs_6))))) from List.mem_append_right _ (List.mem_append_right _ (List.mem_append_right _ (List.mem_append_left _ (List.mem_of_getElem? (i := 12) (by decide +kernel))))))) (by decide +kernel)
theorem zwp4_13 : Cond.selects RX10 yX10_moves yX10_moves ∈ zWL := zw_in (zw_p (y := yX10_moves) (n := 12) (show (yX10_moves, 12) ∈ lw_privs_1 ++ (lw_privs_2 ++ (lw_privs_3 ++ (lw_privs_4 ++ (lw_privs_5 ++ (lw_privs_6))))) from List.mem_append_right _ (List.mem_append_right _ (List.mem_append_right _ (List.mem_append_left _ (List.mem_of_getElem? (i := 13) (by decide +kernel))))))) (by decide +kernel)
theorem zwp4_14 : Cond.selects RX10 yX10_takesRing yX10_takesRing ∈ zWL := zw_in (zw_p (y := yX10_takesRing) (n := 12) (show (yX10_takesRing, 12) ∈ lw_privs_1 ++ (lw_privs_2 ++ (lw_privs_3 ++ (lw_privs_4 ++ (lw_privs_5 ++ (lw_privs_6))))) from List.mem_append_right _ (List.mem_append_right _ (List.mem_append_right _ (List.mem_append_left _ (List.mem_of_getElem? (i := 14) (by decide +kernel))))))) (by decide +kernel)
theorem zwp4_15 : Cond.selects RX10 yX10_thirdOf yX10_thirdOf ∈ zWL := zw_in (zw_p (y := yX10_thirdOf) (n := 12) (show (yX10_thirdOf, 12) ∈ lw_privs_1 ++ (lw_privs_2 ++ (lw_privs_3 ++ (lw_privs_4 ++ (lw_privs_5 ++ (lw_privs_6))))) from List.mem_append_right _ (List.mem_append_right _ (List.mem_append_right _ (List.mem_append_left _ (List.mem_of_getElem? (i := 15) (by decide +kernel))))))) (by decide +kernel)
theorem zwp4_2 : Cond.selects RX10 yX10_overdue yX10_overdue ∈ zWL := zw_in (zw_p (y := yX10_overdue) (n := 12) (show (yX10_overdue, 12) ∈ lw_privs_1 ++ (lw_privs_2 ++ (lw_privs_3 ++ (lw_privs_4 ++ (lw_privs_5 ++ (lw_privs_6))))) from List.mem_append_right _ (List.mem_append_right _ (List.mem_append_right _ (List.mem_append_left _ (List.mem_of_getElem? (i := 2) (by decide +kernel))))))) (by decide +kernel)
theorem zwp4_3 : Cond.selects RX10 yX10_endsLoan yX10_endsLoan ∈ zWL := zw_in (zw_p (y := yX10_endsLoan) (n := 12) (show (yX10_endsLoan, 12) ∈ lw_privs_1 ++ (lw_privs_2 ++ (lw_privs_3 ++ (lw_privs_4 ++ (lw_privs_5 ++ (lw_privs_6))))) from List.mem_append_right _ (List.mem_append_right _ (List.mem_append_right _ (List.mem_append_left _ (List.mem_of_getElem? (i := 3) (by decide +kernel))))))) (by decide +kernel)
theorem zwp4_4 : Cond.selects RX10 yX10_endsWish yX10_endsWish ∈ zWL := zw_in (zw_p (y := yX10_endsWish) (n := 12) (show (yX10_endsWish, 12) ∈ lw_privs_1 ++ (lw_privs_2 ++ (lw_privs_3 ++ (lw_privs_4 ++ (lw_privs_5 ++ (lw_privs_6))))) from List.mem_append_right _ (List.mem_append_right _ (List.mem_append_right _ (List.mem_append_left _ (List.mem_of_getElem? (i := 4) (by decide +kernel))))))) (by decide +kernel)
theorem zwp4_5 : Cond.selects RX10 yX10_renews yX10_renews ∈ zWL := zw_in (zw_p (y := yX10_renews) (n := 12) (show (yX10_renews, 12) ∈ lw_privs_1 ++ (lw_privs_2 ++ (lw_privs_3 ++ (lw_privs_4 ++ (lw_privs_5 ++ (lw_privs_6))))) from List.mem_append_right _ (List.mem_append_right _ (List.mem_append_right _ (List.mem_append_left _ (List.mem_of_getElem? (i := 5) (by decide +kernel))))))) (by decide +kernel)
theorem zwp4_6 : Cond.selects RX10 yX10_loses yX10_loses ∈ zWL := zw_in (zw_p (y := yX10_loses) (n := 12) (show (yX10_loses, 12) ∈ lw_privs_1 ++ (lw_privs_2 ++ (lw_privs_3 ++ (lw_privs_4 ++ (lw_privs_5 ++ (lw_privs_6))))) from List.mem_append_right _ (List.mem_append_right _ (List.mem_append_right _ (List.mem_append_left _ (List.mem_of_getElem? (i := 6) (by decide +kernel))))))) (by decide +kernel)
theorem zwp4_7 : Cond.selects RX10 yX10_owes yX10_owes ∈ zWL := zw_in (zw_p (y := yX10_owes) (n := 12) (show (yX10_owes, 12) ∈ lw_privs_1 ++ (lw_privs_2 ++ (lw_privs_3 ++ (lw_privs_4 ++ (lw_privs_5 ++ (lw_privs_6))))) from List.mem_append_right _ (List.mem_append_right _ (List.mem_append_right _ (List.mem_append_left _ (List.mem_of_getElem? (i := 7) (by decide +kernel))))))) (by decide +kernel)
theorem zwp4_8 : Cond.selects RX10 yX10_changesLock yX10_changesLock ∈ zWL := zw_in (zw_p (y := yX10_changesLock) (n := 12) (show (yX10_changesLock, 12) ∈ lw_privs_1 ++ (lw_privs_2 ++ (lw_privs_3 ++ (lw_privs_4 ++ (lw_privs_5 ++ (lw_privs_6))))) from List.mem_append_right _ (List.mem_append_right _ (List.mem_append_right _ (List.mem_append_left _ (List.mem_of_getElem? (i := 8) (by decide +kernel))))))) (by decide +kernel)
theorem zwp4_9 : Cond.selects RX10 yX10_wishes yX10_wishes ∈ zWL := zw_in (zw_p (y := yX10_wishes) (n := 12) (show (yX10_wishes, 12) ∈ lw_privs_1 ++ (lw_privs_2 ++ (lw_privs_3 ++ (lw_privs_4 ++ (lw_privs_5 ++ (lw_privs_6))))) from List.mem_append_right _ (List.mem_append_right _ (List.mem_append_right _ (List.mem_append_left _ (List.mem_of_getElem? (i := 9) (by decide +kernel))))))) (by decide +kernel)
theorem zwp5_0 : Cond.selects RX10 yX10_wants yX10_wants ∈ zWL := zw_in (zw_p (y := yX10_wants) (n := 12) (show (yX10_wants, 12) ∈ lw_privs_1 ++ (lw_privs_2 ++ (lw_privs_3 ++ (lw_privs_4 ++ (lw_privs_5 ++ (lw_privs_6))))) from List.mem_append_right _ (List.mem_append_right _ (List.mem_append_right _ (List.mem_append_right _ (List.mem_append_left _ (List.mem_of_getElem? (i := 0) (by decide +kernel)))))))) (by decide +kernel)
theorem zwp5_1 : Cond.selects RX10 yX10_goesRound yX10_goesRound ∈ zWL := zw_in (zw_p (y := yX10_goesRound) (n := 12) (show (yX10_goesRound, 12) ∈ lw_privs_1 ++ (lw_privs_2 ++ (lw_privs_3 ++ (lw_privs_4 ++ (lw_privs_5 ++ (lw_privs_6))))) from List.mem_append_right _ (List.mem_append_right _ (List.mem_append_right _ (List.mem_append_right _ (List.mem_append_left _ (List.mem_of_getElem? (i := 1) (by decide +kernel)))))))) (by decide +kernel)
theorem zwp5_10 : Cond.selects RX10 yX10_bringBack yX10_bringBack ∈ zWL := zw_in (zw_p (y := yX10_bringBack) (n := 12) (show (yX10_bringBack, 12) ∈ lw_privs_1 ++ (lw_privs_2 ++ (lw_privs_3 ++ (lw_privs_4 ++ (lw_privs_5 ++ (lw_privs_6))))) from List.mem_append_right _ (List.mem_append_right _ (List.mem_append_right _ (List.mem_append_right _ (List.mem_append_left _ (List.mem_of_getElem? (i := 10) (by decide +kernel)))))))) (by decide +kernel)
theorem zwp5_11 : Cond.selects RX10 yX10_does yX10_does ∈ zWL := zw_in (zw_p (y := yX10_does) (n := 12) (show (yX10_does, 12) ∈ lw_privs_1 ++ (lw_privs_2 ++ (lw_privs_3 ++ (lw_privs_4 ++ (lw_privs_5 ++ (lw_privs_6))))) from List.mem_append_right _ (List.mem_append_right _ (List.mem_append_right _ (List.mem_append_right _ (List.mem_append_left _ (List.mem_of_getElem? (i := 11) (by decide +kernel)))))))) (by decide +kernel)
theorem zwp5_12 : Cond.selects RX10 yX10_command yX10_command ∈ zWL := zw_in (zw_p (y := yX10_command) (n := 12) (show (yX10_command, 12) ∈ lw_privs_1 ++ (lw_privs_2 ++ (lw_privs_3 ++ (lw_privs_4 ++ (lw_privs_5 ++ (lw_privs_6))))) from List.mem_append_right _ (List.mem_append_right _ (List.mem_append_right _ (List.mem_append_right _ (List.mem_append_left _ (List.mem_of_getElem? (i := 12) (by decide +kernel)))))))) (by decide +kernel)
theorem zwp5_13 : Cond.selects RX10 yX10_readWord yX10_readWord ∈ zWL := zw_in (zw_p (y := yX10_readWord) (n := 12) (show (yX10_readWord, 12) ∈ lw_privs_1 ++ (lw_privs_2 ++ (lw_privs_3 ++ (lw_privs_4 ++ (lw_privs_5 ++ (lw_privs_6))))) from List.mem_append_right _ (List.mem_append_right _ (List.mem_append_right _ (List.mem_append_right _ (List.mem_append_left _ (List.mem_of_getElem? (i := 13) (by decide +kernel)))))))) (by decide +kernel)
theorem zwp5_14 : Cond.selects RX10 yX10_here yX10_here ∈ zWL := zw_in (zw_p (y := yX10_here) (n := 12) (show (yX10_here, 12) ∈ lw_privs_1 ++ (lw_privs_2 ++ (lw_privs_3 ++ (lw_privs_4 ++ (lw_privs_5 ++ (lw_privs_6))))) from List.mem_append_right _ (List.mem_append_right _ (List.mem_append_right _ (List.mem_append_right _ (List.mem_append_left _ (List.mem_of_getElem? (i := 14) (by decide +kernel)))))))) (by decide +kernel)
theorem zwp5_15 : Cond.selects RX10 yX10_readNumber yX10_readNumber ∈ zWL := zw_in (zw_p (y := yX10_readNumber) (n := 12) (show (yX10_readNumber, 12) ∈ lw_privs_1 ++ (lw_privs_2 ++ (lw_privs_3 ++ (lw_privs_4 ++ (lw_privs_5 ++ (lw_privs_6))))) from List.mem_append_right _ (List.mem_append_right _ (List.mem_append_right _ (List.mem_append_right _ (List.mem_append_left _ (List.mem_of_getElem? (i := 15) (by decide +kernel)))))))) (by decide +kernel)
theorem zwp5_2 : Cond.selects RX10 yX10_pays yX10_pays ∈ zWL := zw_in (zw_p (y := yX10_pays) (n := 12) (show (yX10_pays, 12) ∈ lw_privs_1 ++ (lw_privs_2 ++ (lw_privs_3 ++ (lw_privs_4 ++ (lw_privs_5 ++ (lw_privs_6))))) from List.mem_append_right _ (List.mem_append_right _ (List.mem_append_right _ (List.mem_append_right _ (List.mem_append_left _ (List.mem_of_getElem? (i := 2) (by decide +kernel)))))))) (by decide +kernel)
theorem zwp5_3 : Cond.selects RX10 yX10_passes yX10_passes ∈ zWL := zw_in (zw_p (y := yX10_passes) (n := 12) (show (yX10_passes, 12) ∈ lw_privs_1 ++ (lw_privs_2 ++ (lw_privs_3 ++ (lw_privs_4 ++ (lw_privs_5 ++ (lw_privs_6))))) from List.mem_append_right _ (List.mem_append_right _ (List.mem_append_right _ (List.mem_append_right _ (List.mem_append_left _ (List.mem_of_getElem? (i := 3) (by decide +kernel)))))))) (by decide +kernel)
theorem zwp5_4 : Cond.selects RX10 yX10_passDays yX10_passDays ∈ zWL := zw_in (zw_p (y := yX10_passDays) (n := 12) (show (yX10_passDays, 12) ∈ lw_privs_1 ++ (lw_privs_2 ++ (lw_privs_3 ++ (lw_privs_4 ++ (lw_privs_5 ++ (lw_privs_6))))) from List.mem_append_right _ (List.mem_append_right _ (List.mem_append_right _ (List.mem_append_right _ (List.mem_append_left _ (List.mem_of_getElem? (i := 4) (by decide +kernel)))))))) (by decide +kernel)
theorem zwp5_5 : Cond.selects RX10 yX10_dayPasses yX10_dayPasses ∈ zWL := zw_in (zw_p (y := yX10_dayPasses) (n := 12) (show (yX10_dayPasses, 12) ∈ lw_privs_1 ++ (lw_privs_2 ++ (lw_privs_3 ++ (lw_privs_4 ++ (lw_privs_5 ++ (lw_privs_6))))) from List.mem_append_right _ (List.mem_append_right _ (List.mem_append_right _ (List.mem_append_right _ (List.mem_append_left _ (List.mem_of_getElem? (i := 5) (by decide +kernel)))))))) (by decide +kernel)
theorem zwp5_6 : Cond.selects RX10 yX10_sets yX10_sets ∈ zWL := zw_in (zw_p (y := yX10_sets) (n := 12) (show (yX10_sets, 12) ∈ lw_privs_1 ++ (lw_privs_2 ++ (lw_privs_3 ++ (lw_privs_4 ++ (lw_privs_5 ++ (lw_privs_6))))) from List.mem_append_right _ (List.mem_append_right _ (List.mem_append_right _ (List.mem_append_right _ (List.mem_append_left _ (List.mem_of_getElem? (i := 6) (by decide +kernel)))))))) (by decide +kernel)
theorem zwp5_7 : Cond.selects RX10 yX10_lockersThat yX10_lockersThat ∈ zWL := zw_in (zw_p (y := yX10_lockersThat) (n := 12) (show (yX10_lockersThat, 12) ∈ lw_privs_1 ++ (lw_privs_2 ++ (lw_privs_3 ++ (lw_privs_4 ++ (lw_privs_5 ++ (lw_privs_6))))) from List.mem_append_right _ (List.mem_append_right _ (List.mem_append_right _ (List.mem_append_right _ (List.mem_append_left _ (List.mem_of_getElem? (i := 7) (by decide +kernel)))))))) (by decide +kernel)
theorem zwp5_8 : Cond.selects RX10 yX10_debts yX10_debts ∈ zWL := zw_in (zw_p (y := yX10_debts) (n := 12) (show (yX10_debts, 12) ∈ lw_privs_1 ++ (lw_privs_2 ++ (lw_privs_3 ++ (lw_privs_4 ++ (lw_privs_5 ++ (lw_privs_6))))) from List.mem_append_right _ (List.mem_append_right _ (List.mem_append_right _ (List.mem_append_right _ (List.mem_append_left _ (List.mem_of_getElem? (i := 8) (by decide +kernel)))))))) (by decide +kernel)
theorem zwp5_9 : Cond.selects RX10 yX10_layAside yX10_layAside ∈ zWL := zw_in (zw_p (y := yX10_layAside) (n := 12) (show (yX10_layAside, 12) ∈ lw_privs_1 ++ (lw_privs_2 ++ (lw_privs_3 ++ (lw_privs_4 ++ (lw_privs_5 ++ (lw_privs_6))))) from List.mem_append_right _ (List.mem_append_right _ (List.mem_append_right _ (List.mem_append_right _ (List.mem_append_left _ (List.mem_of_getElem? (i := 9) (by decide +kernel)))))))) (by decide +kernel)
theorem zwp6_0 : Cond.selects RX10 yX10_must yX10_must ∈ zWL := zw_in (zw_p (y := yX10_must) (n := 12) (show (yX10_must, 12) ∈ lw_privs_1 ++ (lw_privs_2 ++ (lw_privs_3 ++ (lw_privs_4 ++ (lw_privs_5 ++ (lw_privs_6))))) from List.mem_append_right _ (List.mem_append_right _ (List.mem_append_right _ (List.mem_append_right _ (List.mem_append_right _ (List.mem_of_getElem? (i := 0) (by decide +kernel)))))))) (by decide +kernel)
theorem inX1 : ∀ w ∈ u_ws RX1 TX1 10, w ∈ zWL := by
  intro w h
  obtain ⟨k, hk, rfl⟩ := List.mem_map.mp h
  replace hk := List.mem_range.mp hk
  match k, hk with
  | 0, _ => exact zw1_139
  | 1, _ => exact zw1_141
  | 2, _ => exact zw1_143
  | 3, _ => exact zw1_145
  | 4, _ => exact zw1_147
  | 5, _ => exact zw1_149
  | 6, _ => exact zw1_151
  | 7, _ => exact zw1_153
  | 8, _ => exact zw1_155
  | 9, _ => exact zw1_157
  | k + 10, hk => exact absurd hk (by omega)
theorem inX2 : ∀ w ∈ u_ws RX2 TX2 3, w ∈ zWL := by
  intro w h
  obtain ⟨k, hk, rfl⟩ := List.mem_map.mp h
  replace hk := List.mem_range.mp hk
  match k, hk with
  | 0, _ => exact zw1_173
  | 1, _ => exact zw1_175
  | 2, _ => exact zw1_177
  | k + 3, hk => exact absurd hk (by omega)
theorem inX3 : ∀ w ∈ u_ws RX3 TX3 3, w ∈ zWL := by
  intro w h
  obtain ⟨k, hk, rfl⟩ := List.mem_map.mp h
  replace hk := List.mem_range.mp hk
  match k, hk with
  | 0, _ => exact zw1_47
  | 1, _ => exact zw1_49
  | 2, _ => exact zw1_51
  | k + 3, hk => exact absurd hk (by omega)
theorem inX4 : ∀ w ∈ u_ws RX4 TX4 7, w ∈ zWL := by
  intro w h
  obtain ⟨k, hk, rfl⟩ := List.mem_map.mp h
  replace hk := List.mem_range.mp hk
  match k, hk with
  | 0, _ => exact zw1_74
  | 1, _ => exact zw1_76
  | 2, _ => exact zw1_78
  | 3, _ => exact zw1_80
  | 4, _ => exact zw1_82
  | 5, _ => exact zw1_84
  | 6, _ => exact zw1_86
  | k + 7, hk => exact absurd hk (by omega)
theorem inX5 : ∀ w ∈ u_ws RX5 TX5 8, w ∈ zWL := by
  intro w h
  obtain ⟨k, hk, rfl⟩ := List.mem_map.mp h
  replace hk := List.mem_range.mp hk
  match k, hk with
  | 0, _ => exact zw1_111
  | 1, _ => exact zw1_113
  | 2, _ => exact zw1_115
  | 3, _ => exact zw1_117
  | 4, _ => exact zw1_119
  | 5, _ => exact zw1_121
  | 6, _ => exact zw1_123
  | 7, _ => exact zw1_125
  | k + 8, hk => exact absurd hk (by omega)
theorem inX6 : ∀ w ∈ u_ws RX6 TX6 5, w ∈ zWL := by
  intro w h
  obtain ⟨k, hk, rfl⟩ := List.mem_map.mp h
  replace hk := List.mem_range.mp hk
  match k, hk with
  | 0, _ => exact zw1_230
  | 1, _ => exact zw1_232
  | 2, _ => exact zw1_234
  | 3, _ => exact zw1_236
  | 4, _ => exact zw1_238
  | k + 5, hk => exact absurd hk (by omega)
theorem inX7 : ∀ w ∈ u_ws RX7 TX7 6, w ∈ zWL := by
  intro w h
  obtain ⟨k, hk, rfl⟩ := List.mem_map.mp h
  replace hk := List.mem_range.mp hk
  match k, hk with
  | 0, _ => exact zw1_198
  | 1, _ => exact zw1_200
  | 2, _ => exact zw1_202
  | 3, _ => exact zw1_204
  | 4, _ => exact zw1_206
  | 5, _ => exact zw1_208
  | k + 6, hk => exact absurd hk (by omega)
theorem inX9 : ∀ w ∈ u_ws RX9 TX9 4, w ∈ zWL := by
  intro w h
  obtain ⟨k, hk, rfl⟩ := List.mem_map.mp h
  replace hk := List.mem_range.mp hk
  match k, hk with
  | 0, _ => exact zw2_5
  | 1, _ => exact zw2_7
  | 2, _ => exact zw2_9
  | 3, _ => exact zw2_11
  | k + 4, hk => exact absurd hk (by omega)
theorem inX10 : ∀ w ∈ u_ws RX10 TX10 12, w ∈ zWL := by
  intro w h
  obtain ⟨k, hk, rfl⟩ := List.mem_map.mp h
  replace hk := List.mem_range.mp hk
  match k, hk with
  | 0, _ => exact zw4_31
  | 1, _ => exact zw4_33
  | 2, _ => exact zw4_35
  | 3, _ => exact zw4_37
  | 4, _ => exact zw4_39
  | 5, _ => exact zw4_41
  | 6, _ => exact zw4_43
  | 7, _ => exact zw4_45
  | 8, _ => exact zw4_47
  | 9, _ => exact zw4_49
  | 10, _ => exact zw4_51
  | 11, _ => exact zw4_53
  | k + 12, hk => exact absurd hk (by omega)
theorem zy_J9_floorMod_7cf53 : yJ9_floorMod_7cf53.cls ≠ "java/lang/invoke/MethodHandle" ∧ yJ9_floorMod_7cf53.cls ≠ "java/lang/invoke/VarHandle" ∧ (parseMethodDescriptor yJ9_floorMod_7cf53.desc).map (fun d => d.parameters.length) = some 2 := by decide +kernel
theorem zg_J9_floorMod_7cf53 {own : String} {idx : Nat} (h : Cond.methodLink own idx yJ9_floorMod_7cf53 ∈ zWL) : GoodIn zWL (va_wsS own idx yJ9_floorMod_7cf53 (.code yJ9_floorMod_7cf53 cJ9_floorMod_7cf53 3 (some .int) :: zWL)) := zw_gs h zw2_27 zw1_10 zw2_28
theorem zv_X10_acted : yX10_acted.cls = RX10 ∧ yX10_acted.cls ≠ "java/lang/invoke/MethodHandle" ∧ yX10_acted.cls ≠ "java/lang/invoke/VarHandle" ∧ (parseMethodDescriptor yX10_acted.desc).map (fun d => d.parameters.length) = some 1 := by decide +kernel
theorem zg_X10_acted {own : String} {idx : Nat} (h : Cond.methodLink own idx yX10_acted ∈ zWL) : GoodIn zWL (wsV own idx RX10 yX10_acted (.code yX10_acted cX10_acted 3 (some .int) :: zWL)) := zw_gv h zw4_77 zwp2_14 zw1_9 zw4_78
theorem zv_X10_begins : yX10_begins.cls = RX10 ∧ yX10_begins.cls ≠ "java/lang/invoke/MethodHandle" ∧ yX10_begins.cls ≠ "java/lang/invoke/VarHandle" ∧ (parseMethodDescriptor yX10_begins.desc).map (fun d => d.parameters.length) = some 0 := by decide +kernel
theorem zg_X10_begins {own : String} {idx : Nat} (h : Cond.methodLink own idx yX10_begins ∈ zWL) : GoodIn zWL (wsV own idx RX10 yX10_begins (.code yX10_begins cX10_begins 2 none :: zWL)) := zw_gv h zw4_62 zwp2_11 zw1_9 zw4_63
theorem zv_X10_beginsLoan : yX10_beginsLoan.cls = RX10 ∧ yX10_beginsLoan.cls ≠ "java/lang/invoke/MethodHandle" ∧ yX10_beginsLoan.cls ≠ "java/lang/invoke/VarHandle" ∧ (parseMethodDescriptor yX10_beginsLoan.desc).map (fun d => d.parameters.length) = some 2 := by decide +kernel
theorem zg_X10_beginsLoan {own : String} {idx : Nat} (h : Cond.methodLink own idx yX10_beginsLoan ∈ zWL) : GoodIn zWL (wsV own idx RX10 yX10_beginsLoan (.code yX10_beginsLoan cX10_beginsLoan 3 none :: zWL)) := zw_gv h zw4_129 zwp3_9 zw1_9 zw4_130
theorem zv_X10_bringBack : yX10_bringBack.cls = RX10 ∧ yX10_bringBack.cls ≠ "java/lang/invoke/MethodHandle" ∧ yX10_bringBack.cls ≠ "java/lang/invoke/VarHandle" ∧ (parseMethodDescriptor yX10_bringBack.desc).map (fun d => d.parameters.length) = some 0 := by decide +kernel
theorem zg_X10_bringBack {own : String} {idx : Nat} (h : Cond.methodLink own idx yX10_bringBack ∈ zWL) : GoodIn zWL (wsV own idx RX10 yX10_bringBack (.code yX10_bringBack cX10_bringBack 2 none :: zWL)) := zw_gv h zw5_93 zwp5_10 zw1_9 zw5_94
theorem zv_X10_changesLock : yX10_changesLock.cls = RX10 ∧ yX10_changesLock.cls ≠ "java/lang/invoke/MethodHandle" ∧ yX10_changesLock.cls ≠ "java/lang/invoke/VarHandle" ∧ (parseMethodDescriptor yX10_changesLock.desc).map (fun d => d.parameters.length) = some 1 := by decide +kernel
theorem zg_X10_changesLock {own : String} {idx : Nat} (h : Cond.methodLink own idx yX10_changesLock ∈ zWL) : GoodIn zWL (wsV own idx RX10 yX10_changesLock (.code yX10_changesLock cX10_changesLock 5 none :: zWL)) := zw_gv h zw4_205 zwp4_8 zw1_9 zw4_206
theorem zv_X10_command : yX10_command.cls = RX10 ∧ yX10_command.cls ≠ "java/lang/invoke/MethodHandle" ∧ yX10_command.cls ≠ "java/lang/invoke/VarHandle" ∧ (parseMethodDescriptor yX10_command.desc).map (fun d => d.parameters.length) = some 0 := by decide +kernel
theorem zg_X10_command {own : String} {idx : Nat} (h : Cond.methodLink own idx yX10_command ∈ zWL) : GoodIn zWL (wsV own idx RX10 yX10_command (.code yX10_command cX10_command 4 (some .int) :: zWL)) := zw_gv h zw5_150 zwp5_12 zw1_9 zw5_151
theorem zv_X10_dayPasses : yX10_dayPasses.cls = RX10 ∧ yX10_dayPasses.cls ≠ "java/lang/invoke/MethodHandle" ∧ yX10_dayPasses.cls ≠ "java/lang/invoke/VarHandle" ∧ (parseMethodDescriptor yX10_dayPasses.desc).map (fun d => d.parameters.length) = some 0 := by decide +kernel
theorem zg_X10_dayPasses {own : String} {idx : Nat} (h : Cond.methodLink own idx yX10_dayPasses ∈ zWL) : GoodIn zWL (wsV own idx RX10 yX10_dayPasses (.code yX10_dayPasses cX10_dayPasses 4 (some .int) :: zWL)) := zw_gv h zw5_37 zwp5_5 zw1_9 zw5_38
theorem zv_X10_debts : yX10_debts.cls = RX10 ∧ yX10_debts.cls ≠ "java/lang/invoke/MethodHandle" ∧ yX10_debts.cls ≠ "java/lang/invoke/VarHandle" ∧ (parseMethodDescriptor yX10_debts.desc).map (fun d => d.parameters.length) = some 0 := by decide +kernel
theorem zg_X10_debts {own : String} {idx : Nat} (h : Cond.methodLink own idx yX10_debts ∈ zWL) : GoodIn zWL (wsV own idx RX10 yX10_debts (.code yX10_debts cX10_debts 3 (some .int) :: zWL)) := zw_gv h zw5_81 zwp5_8 zw1_9 zw5_82
theorem zv_X10_does : yX10_does.cls = RX10 ∧ yX10_does.cls ≠ "java/lang/invoke/MethodHandle" ∧ yX10_does.cls ≠ "java/lang/invoke/VarHandle" ∧ (parseMethodDescriptor yX10_does.desc).map (fun d => d.parameters.length) = some 0 := by decide +kernel
theorem zg_X10_does {own : String} {idx : Nat} (h : Cond.methodLink own idx yX10_does ∈ zWL) : GoodIn zWL (wsV own idx RX10 yX10_does (.code yX10_does cX10_does 4 (some .int) :: zWL)) := zw_gv h zw5_146 zwp5_11 zw1_9 zw5_147
theorem zv_X10_endsLoan : yX10_endsLoan.cls = RX10 ∧ yX10_endsLoan.cls ≠ "java/lang/invoke/MethodHandle" ∧ yX10_endsLoan.cls ≠ "java/lang/invoke/VarHandle" ∧ (parseMethodDescriptor yX10_endsLoan.desc).map (fun d => d.parameters.length) = some 1 := by decide +kernel
theorem zg_X10_endsLoan {own : String} {idx : Nat} (h : Cond.methodLink own idx yX10_endsLoan ∈ zWL) : GoodIn zWL (wsV own idx RX10 yX10_endsLoan (.code yX10_endsLoan cX10_endsLoan 3 (some .int) :: zWL)) := zw_gv h zw4_177 zwp4_3 zw1_9 zw4_178
theorem zv_X10_endsWish : yX10_endsWish.cls = RX10 ∧ yX10_endsWish.cls ≠ "java/lang/invoke/MethodHandle" ∧ yX10_endsWish.cls ≠ "java/lang/invoke/VarHandle" ∧ (parseMethodDescriptor yX10_endsWish.desc).map (fun d => d.parameters.length) = some 1 := by decide +kernel
theorem zg_X10_endsWish {own : String} {idx : Nat} (h : Cond.methodLink own idx yX10_endsWish ∈ zWL) : GoodIn zWL (wsV own idx RX10 yX10_endsWish (.code yX10_endsWish cX10_endsWish 3 none :: zWL)) := zw_gv h zw4_181 zwp4_4 zw1_9 zw4_182
theorem zy_X10_feeOf : yX10_feeOf.cls ≠ "java/lang/invoke/MethodHandle" ∧ yX10_feeOf.cls ≠ "java/lang/invoke/VarHandle" ∧ (parseMethodDescriptor yX10_feeOf.desc).map (fun d => d.parameters.length) = some 2 := by decide +kernel
theorem zg_X10_feeOf {own : String} {idx : Nat} (h : Cond.methodLink own idx yX10_feeOf ∈ zWL) : GoodIn zWL (va_wsS own idx yX10_feeOf (.code yX10_feeOf cX10_feeOf 2 (some .int) :: zWL)) := zw_gs h zw5_40 zw1_9 zw5_41
theorem zv_X10_firstWaiting : yX10_firstWaiting.cls = RX10 ∧ yX10_firstWaiting.cls ≠ "java/lang/invoke/MethodHandle" ∧ yX10_firstWaiting.cls ≠ "java/lang/invoke/VarHandle" ∧ (parseMethodDescriptor yX10_firstWaiting.desc).map (fun d => d.parameters.length) = some 1 := by decide +kernel
theorem zg_X10_firstWaiting {own : String} {idx : Nat} (h : Cond.methodLink own idx yX10_firstWaiting ∈ zWL) : GoodIn zWL (wsV own idx RX10 yX10_firstWaiting (.code yX10_firstWaiting cX10_firstWaiting 4 (some .int) :: zWL)) := zw_gv h zw4_121 zwp3_7 zw1_9 zw4_122
theorem zv_X10_frees : yX10_frees.cls = RX10 ∧ yX10_frees.cls ≠ "java/lang/invoke/MethodHandle" ∧ yX10_frees.cls ≠ "java/lang/invoke/VarHandle" ∧ (parseMethodDescriptor yX10_frees.desc).map (fun d => d.parameters.length) = some 1 := by decide +kernel
theorem zg_X10_frees {own : String} {idx : Nat} (h : Cond.methodLink own idx yX10_frees ∈ zWL) : GoodIn zWL (wsV own idx RX10 yX10_frees (.code yX10_frees cX10_frees 4 none :: zWL)) := zw_gv h zw4_113 zwp3_5 zw1_9 zw4_114
theorem zv_X10_givesBack : yX10_givesBack.cls = RX10 ∧ yX10_givesBack.cls ≠ "java/lang/invoke/MethodHandle" ∧ yX10_givesBack.cls ≠ "java/lang/invoke/VarHandle" ∧ (parseMethodDescriptor yX10_givesBack.desc).map (fun d => d.parameters.length) = some 1 := by decide +kernel
theorem zg_X10_givesBack {own : String} {idx : Nat} (h : Cond.methodLink own idx yX10_givesBack ∈ zWL) : GoodIn zWL (wsV own idx RX10 yX10_givesBack (.code yX10_givesBack cX10_givesBack 4 (some .int) :: zWL)) := zw_gv h zw4_169 zwp4_1 zw1_9 zw4_170
theorem zv_X10_goesRound : yX10_goesRound.cls = RX10 ∧ yX10_goesRound.cls ≠ "java/lang/invoke/MethodHandle" ∧ yX10_goesRound.cls ≠ "java/lang/invoke/VarHandle" ∧ (parseMethodDescriptor yX10_goesRound.desc).map (fun d => d.parameters.length) = some 3 := by decide +kernel
theorem zg_X10_goesRound {own : String} {idx : Nat} (h : Cond.methodLink own idx yX10_goesRound ∈ zWL) : GoodIn zWL (wsV own idx RX10 yX10_goesRound (.code yX10_goesRound cX10_goesRound 5 (some .int) :: zWL)) := zw_gv h zw5_13 zwp5_1 zw1_9 zw5_14
theorem zv_X10_has : yX10_has.cls = RX10 ∧ yX10_has.cls ≠ "java/lang/invoke/MethodHandle" ∧ yX10_has.cls ≠ "java/lang/invoke/VarHandle" ∧ (parseMethodDescriptor yX10_has.desc).map (fun d => d.parameters.length) = some 2 := by decide +kernel
theorem zg_X10_has {own : String} {idx : Nat} (h : Cond.methodLink own idx yX10_has ∈ zWL) : GoodIn zWL (wsV own idx RX10 yX10_has (.code yX10_has cX10_has 3 none :: zWL)) := zw_gv h zw4_133 zwp3_10 zw1_9 zw4_134
theorem zv_X10_here : yX10_here.cls = RX10 ∧ yX10_here.cls ≠ "java/lang/invoke/MethodHandle" ∧ yX10_here.cls ≠ "java/lang/invoke/VarHandle" ∧ (parseMethodDescriptor yX10_here.desc).map (fun d => d.parameters.length) = some 0 := by decide +kernel
theorem zg_X10_here {own : String} {idx : Nat} (h : Cond.methodLink own idx yX10_here ∈ zWL) : GoodIn zWL (wsV own idx RX10 yX10_here (.code yX10_here cX10_here 1 (some .int) :: zWL)) := zw_gv h zw5_158 zwp5_14 zw1_9 zw5_159
theorem zy_X10_in : yX10_in.cls ≠ "java/lang/invoke/MethodHandle" ∧ yX10_in.cls ≠ "java/lang/invoke/VarHandle" ∧ (parseMethodDescriptor yX10_in.desc).map (fun d => d.parameters.length) = some 3 := by decide +kernel
theorem zg_X10_in {own : String} {idx : Nat} (h : Cond.methodLink own idx yX10_in ∈ zWL) : GoodIn zWL (va_wsS own idx yX10_in (.code yX10_in cX10_in 3 (some .boolean) :: zWL)) := zw_gs h zw4_69 zw1_9 zw4_70
theorem zv_X10_inRow : yX10_inRow.cls = RX10 ∧ yX10_inRow.cls ≠ "java/lang/invoke/MethodHandle" ∧ yX10_inRow.cls ≠ "java/lang/invoke/VarHandle" ∧ (parseMethodDescriptor yX10_inRow.desc).map (fun d => d.parameters.length) = some 1 := by decide +kernel
theorem zg_X10_inRow {own : String} {idx : Nat} (h : Cond.methodLink own idx yX10_inRow ∈ zWL) : GoodIn zWL (wsV own idx RX10 yX10_inRow (.code yX10_inRow cX10_inRow 4 (some .int) :: zWL)) := zw_gv h zw4_109 zwp3_4 zw1_9 zw4_110
theorem zv_X10_isFree : yX10_isFree.cls = RX10 ∧ yX10_isFree.cls ≠ "java/lang/invoke/MethodHandle" ∧ yX10_isFree.cls ≠ "java/lang/invoke/VarHandle" ∧ (parseMethodDescriptor yX10_isFree.desc).map (fun d => d.parameters.length) = some 1 := by decide +kernel
theorem zg_X10_isFree {own : String} {idx : Nat} (h : Cond.methodLink own idx yX10_isFree ∈ zWL) : GoodIn zWL (wsV own idx RX10 yX10_isFree (.code yX10_isFree cX10_isFree 2 (some .boolean) :: zWL)) := zw_gv h zw4_117 zwp3_6 zw1_9 zw4_118
theorem zv_X10_isLocker : yX10_isLocker.cls = RX10 ∧ yX10_isLocker.cls ≠ "java/lang/invoke/MethodHandle" ∧ yX10_isLocker.cls ≠ "java/lang/invoke/VarHandle" ∧ (parseMethodDescriptor yX10_isLocker.desc).map (fun d => d.parameters.length) = some 1 := by decide +kernel
theorem zg_X10_isLocker {own : String} {idx : Nat} (h : Cond.methodLink own idx yX10_isLocker ∈ zWL) : GoodIn zWL (wsV own idx RX10 yX10_isLocker (.code yX10_isLocker cX10_isLocker 2 (some .boolean) :: zWL)) := zw_gv h zw4_101 zwp3_2 zw1_9 zw4_102
theorem zv_X10_isPerson : yX10_isPerson.cls = RX10 ∧ yX10_isPerson.cls ≠ "java/lang/invoke/MethodHandle" ∧ yX10_isPerson.cls ≠ "java/lang/invoke/VarHandle" ∧ (parseMethodDescriptor yX10_isPerson.desc).map (fun d => d.parameters.length) = some 1 := by decide +kernel
theorem zg_X10_isPerson {own : String} {idx : Nat} (h : Cond.methodLink own idx yX10_isPerson ∈ zWL) : GoodIn zWL (wsV own idx RX10 yX10_isPerson (.code yX10_isPerson cX10_isPerson 2 (some .boolean) :: zWL)) := zw_gv h zw4_145 zwp3_12 zw1_9 zw4_146
theorem zv_X10_lay : yX10_lay.cls = RX10 ∧ yX10_lay.cls ≠ "java/lang/invoke/MethodHandle" ∧ yX10_lay.cls ≠ "java/lang/invoke/VarHandle" ∧ (parseMethodDescriptor yX10_lay.desc).map (fun d => d.parameters.length) = some 3 := by decide +kernel
theorem zg_X10_lay {own : String} {idx : Nat} (h : Cond.methodLink own idx yX10_lay ∈ zWL) : GoodIn zWL (wsV own idx RX10 yX10_lay (.code yX10_lay cX10_lay 4 none :: zWL)) := zw_gv h zw4_73 zwp2_13 zw1_9 zw4_74
theorem zv_X10_layAside : yX10_layAside.cls = RX10 ∧ yX10_layAside.cls ≠ "java/lang/invoke/MethodHandle" ∧ yX10_layAside.cls ≠ "java/lang/invoke/VarHandle" ∧ (parseMethodDescriptor yX10_layAside.desc).map (fun d => d.parameters.length) = some 0 := by decide +kernel
theorem zg_X10_layAside {own : String} {idx : Nat} (h : Cond.methodLink own idx yX10_layAside ∈ zWL) : GoodIn zWL (wsV own idx RX10 yX10_layAside (.code yX10_layAside cX10_layAside 2 none :: zWL)) := zw_gv h zw5_89 zwp5_9 zw1_9 zw5_90
theorem zv_X10_layP : yX10_layP.cls = RX10 ∧ yX10_layP.cls ≠ "java/lang/invoke/MethodHandle" ∧ yX10_layP.cls ≠ "java/lang/invoke/VarHandle" ∧ (parseMethodDescriptor yX10_layP.desc).map (fun d => d.parameters.length) = some 3 := by decide +kernel
theorem zg_X10_layP {own : String} {idx : Nat} (h : Cond.methodLink own idx yX10_layP ∈ zWL) : GoodIn zWL (wsV own idx RX10 yX10_layP (.code yX10_layP cX10_layP 4 none :: zWL)) := zw_gv h zw4_89 zwp3_0 zw1_9 zw4_90
theorem zy_X10_least : yX10_least.cls ≠ "java/lang/invoke/MethodHandle" ∧ yX10_least.cls ≠ "java/lang/invoke/VarHandle" ∧ (parseMethodDescriptor yX10_least.desc).map (fun d => d.parameters.length) = some 1 := by decide +kernel
theorem zg_X10_least {own : String} {idx : Nat} (h : Cond.methodLink own idx yX10_least ∈ zWL) : GoodIn zWL (va_wsS own idx yX10_least (.code yX10_least cX10_least 1 (some .int) :: zWL)) := zw_gs h zw5_51 zw1_9 zw5_52
theorem zv_X10_lends : yX10_lends.cls = RX10 ∧ yX10_lends.cls ≠ "java/lang/invoke/MethodHandle" ∧ yX10_lends.cls ≠ "java/lang/invoke/VarHandle" ∧ (parseMethodDescriptor yX10_lends.desc).map (fun d => d.parameters.length) = some 2 := by decide +kernel
theorem zg_X10_lends {own : String} {idx : Nat} (h : Cond.methodLink own idx yX10_lends ∈ zWL) : GoodIn zWL (wsV own idx RX10 yX10_lends (.code yX10_lends cX10_lends 4 (some .int) :: zWL)) := zw_gv h zw4_141 zwp3_11 zw1_9 zw4_142
theorem zv_X10_lockersThat : yX10_lockersThat.cls = RX10 ∧ yX10_lockersThat.cls ≠ "java/lang/invoke/MethodHandle" ∧ yX10_lockersThat.cls ≠ "java/lang/invoke/VarHandle" ∧ (parseMethodDescriptor yX10_lockersThat.desc).map (fun d => d.parameters.length) = some 1 := by decide +kernel
theorem zg_X10_lockersThat {own : String} {idx : Nat} (h : Cond.methodLink own idx yX10_lockersThat ∈ zWL) : GoodIn zWL (wsV own idx RX10 yX10_lockersThat (.code yX10_lockersThat cX10_lockersThat 5 (some .int) :: zWL)) := zw_gv h zw5_77 zwp5_7 zw1_9 zw5_78
theorem zv_X10_loses : yX10_loses.cls = RX10 ∧ yX10_loses.cls ≠ "java/lang/invoke/MethodHandle" ∧ yX10_loses.cls ≠ "java/lang/invoke/VarHandle" ∧ (parseMethodDescriptor yX10_loses.desc).map (fun d => d.parameters.length) = some 1 := by decide +kernel
theorem zg_X10_loses {own : String} {idx : Nat} (h : Cond.methodLink own idx yX10_loses ∈ zWL) : GoodIn zWL (wsV own idx RX10 yX10_loses (.code yX10_loses cX10_loses 3 (some .int) :: zWL)) := zw_gv h zw4_197 zwp4_6 zw1_9 zw4_198
theorem zv_X10_lowestFree : yX10_lowestFree.cls = RX10 ∧ yX10_lowestFree.cls ≠ "java/lang/invoke/MethodHandle" ∧ yX10_lowestFree.cls ≠ "java/lang/invoke/VarHandle" ∧ (parseMethodDescriptor yX10_lowestFree.desc).map (fun d => d.parameters.length) = some 1 := by decide +kernel
theorem zg_X10_lowestFree {own : String} {idx : Nat} (h : Cond.methodLink own idx yX10_lowestFree ∈ zWL) : GoodIn zWL (wsV own idx RX10 yX10_lowestFree (.code yX10_lowestFree cX10_lowestFree 3 (some .int) :: zWL)) := zw_gv h zw4_157 zwp3_15 zw1_9 zw4_158
theorem zv_X10_makesLocker : yX10_makesLocker.cls = RX10 ∧ yX10_makesLocker.cls ≠ "java/lang/invoke/MethodHandle" ∧ yX10_makesLocker.cls ≠ "java/lang/invoke/VarHandle" ∧ (parseMethodDescriptor yX10_makesLocker.desc).map (fun d => d.parameters.length) = some 1 := by decide +kernel
theorem zg_X10_makesLocker {own : String} {idx : Nat} (h : Cond.methodLink own idx yX10_makesLocker ∈ zWL) : GoodIn zWL (wsV own idx RX10 yX10_makesLocker (.code yX10_makesLocker cX10_makesLocker 3 (some .int) :: zWL)) := zw_gv h zw4_66 zwp2_12 zw1_9 zw4_67
theorem zv_X10_makesPerson : yX10_makesPerson.cls = RX10 ∧ yX10_makesPerson.cls ≠ "java/lang/invoke/MethodHandle" ∧ yX10_makesPerson.cls ≠ "java/lang/invoke/VarHandle" ∧ (parseMethodDescriptor yX10_makesPerson.desc).map (fun d => d.parameters.length) = some 0 := by decide +kernel
theorem zg_X10_makesPerson {own : String} {idx : Nat} (h : Cond.methodLink own idx yX10_makesPerson ∈ zWL) : GoodIn zWL (wsV own idx RX10 yX10_makesPerson (.code yX10_makesPerson cX10_makesPerson 3 (some .int) :: zWL)) := zw_gv h zw4_85 zwp2_15 zw1_9 zw4_86
theorem zy_X10_most : yX10_most.cls ≠ "java/lang/invoke/MethodHandle" ∧ yX10_most.cls ≠ "java/lang/invoke/VarHandle" ∧ (parseMethodDescriptor yX10_most.desc).map (fun d => d.parameters.length) = some 1 := by decide +kernel
theorem zg_X10_most {own : String} {idx : Nat} (h : Cond.methodLink own idx yX10_most ∈ zWL) : GoodIn zWL (va_wsS own idx yX10_most (.code yX10_most cX10_most 1 (some .int) :: zWL)) := zw_gs h zw5_54 zw1_9 zw5_55
theorem zv_X10_moves : yX10_moves.cls = RX10 ∧ yX10_moves.cls ≠ "java/lang/invoke/MethodHandle" ∧ yX10_moves.cls ≠ "java/lang/invoke/VarHandle" ∧ (parseMethodDescriptor yX10_moves.desc).map (fun d => d.parameters.length) = some 2 := by decide +kernel
theorem zg_X10_moves {own : String} {idx : Nat} (h : Cond.methodLink own idx yX10_moves ∈ zWL) : GoodIn zWL (wsV own idx RX10 yX10_moves (.code yX10_moves cX10_moves 3 none :: zWL)) := zw_gv h zw4_237 zwp4_13 zw1_9 zw4_238
theorem zv_X10_must : yX10_must.cls = RX10 ∧ yX10_must.cls ≠ "java/lang/invoke/MethodHandle" ∧ yX10_must.cls ≠ "java/lang/invoke/VarHandle" ∧ (parseMethodDescriptor yX10_must.desc).map (fun d => d.parameters.length) = some 1 := by decide +kernel
theorem zg_X10_must {own : String} {idx : Nat} (h : Cond.methodLink own idx yX10_must ∈ zWL) : GoodIn zWL (wsV own idx RX10 yX10_must (.code yX10_must cX10_must 2 none :: zWL)) := zw_gv h zw5_177 zwp6_0 zw1_9 zw5_178
theorem zv_X10_of : yX10_of.cls = RX10 ∧ yX10_of.cls ≠ "java/lang/invoke/MethodHandle" ∧ yX10_of.cls ≠ "java/lang/invoke/VarHandle" ∧ (parseMethodDescriptor yX10_of.desc).map (fun d => d.parameters.length) = some 2 := by decide +kernel
theorem zg_X10_of {own : String} {idx : Nat} (h : Cond.methodLink own idx yX10_of ∈ zWL) : GoodIn zWL (wsV own idx RX10 yX10_of (.code yX10_of cX10_of 3 (some .int) :: zWL)) := zw_gv h zw4_105 zwp3_3 zw1_9 zw4_106
theorem zv_X10_ofP : yX10_ofP.cls = RX10 ∧ yX10_ofP.cls ≠ "java/lang/invoke/MethodHandle" ∧ yX10_ofP.cls ≠ "java/lang/invoke/VarHandle" ∧ (parseMethodDescriptor yX10_ofP.desc).map (fun d => d.parameters.length) = some 2 := by decide +kernel
theorem zg_X10_ofP {own : String} {idx : Nat} (h : Cond.methodLink own idx yX10_ofP ∈ zWL) : GoodIn zWL (wsV own idx RX10 yX10_ofP (.code yX10_ofP cX10_ofP 3 (some .int) :: zWL)) := zw_gv h zw4_149 zwp3_13 zw1_9 zw4_150
theorem zy_X10_orNone : yX10_orNone.cls ≠ "java/lang/invoke/MethodHandle" ∧ yX10_orNone.cls ≠ "java/lang/invoke/VarHandle" ∧ (parseMethodDescriptor yX10_orNone.desc).map (fun d => d.parameters.length) = some 1 := by decide +kernel
theorem zg_X10_orNone {own : String} {idx : Nat} (h : Cond.methodLink own idx yX10_orNone ∈ zWL) : GoodIn zWL (va_wsS own idx yX10_orNone (.code yX10_orNone cX10_orNone 1 (some .int) :: zWL)) := zw_gs h zw5_61 zw1_9 zw5_62
theorem zv_X10_overdue : yX10_overdue.cls = RX10 ∧ yX10_overdue.cls ≠ "java/lang/invoke/MethodHandle" ∧ yX10_overdue.cls ≠ "java/lang/invoke/VarHandle" ∧ (parseMethodDescriptor yX10_overdue.desc).map (fun d => d.parameters.length) = some 1 := by decide +kernel
theorem zg_X10_overdue {own : String} {idx : Nat} (h : Cond.methodLink own idx yX10_overdue ∈ zWL) : GoodIn zWL (wsV own idx RX10 yX10_overdue (.code yX10_overdue cX10_overdue 3 (some .int) :: zWL)) := zw_gv h zw4_173 zwp4_2 zw1_9 zw4_174
theorem zv_X10_owes : yX10_owes.cls = RX10 ∧ yX10_owes.cls ≠ "java/lang/invoke/MethodHandle" ∧ yX10_owes.cls ≠ "java/lang/invoke/VarHandle" ∧ (parseMethodDescriptor yX10_owes.desc).map (fun d => d.parameters.length) = some 2 := by decide +kernel
theorem zg_X10_owes {own : String} {idx : Nat} (h : Cond.methodLink own idx yX10_owes ∈ zWL) : GoodIn zWL (wsV own idx RX10 yX10_owes (.code yX10_owes cX10_owes 3 none :: zWL)) := zw_gv h zw4_201 zwp4_7 zw1_9 zw4_202
theorem zv_X10_passDays : yX10_passDays.cls = RX10 ∧ yX10_passDays.cls ≠ "java/lang/invoke/MethodHandle" ∧ yX10_passDays.cls ≠ "java/lang/invoke/VarHandle" ∧ (parseMethodDescriptor yX10_passDays.desc).map (fun d => d.parameters.length) = some 1 := by decide +kernel
theorem zg_X10_passDays {own : String} {idx : Nat} (h : Cond.methodLink own idx yX10_passDays ∈ zWL) : GoodIn zWL (wsV own idx RX10 yX10_passDays (.code yX10_passDays cX10_passDays 5 (some .int) :: zWL)) := zw_gv h zw5_33 zwp5_4 zw1_9 zw5_34
theorem zv_X10_passes : yX10_passes.cls = RX10 ∧ yX10_passes.cls ≠ "java/lang/invoke/MethodHandle" ∧ yX10_passes.cls ≠ "java/lang/invoke/VarHandle" ∧ (parseMethodDescriptor yX10_passes.desc).map (fun d => d.parameters.length) = some 1 := by decide +kernel
theorem zg_X10_passes {own : String} {idx : Nat} (h : Cond.methodLink own idx yX10_passes ∈ zWL) : GoodIn zWL (wsV own idx RX10 yX10_passes (.code yX10_passes cX10_passes 2 (some .int) :: zWL)) := zw_gv h zw5_29 zwp5_3 zw1_9 zw5_30
theorem zv_X10_pays : yX10_pays.cls = RX10 ∧ yX10_pays.cls ≠ "java/lang/invoke/MethodHandle" ∧ yX10_pays.cls ≠ "java/lang/invoke/VarHandle" ∧ (parseMethodDescriptor yX10_pays.desc).map (fun d => d.parameters.length) = some 2 := by decide +kernel
theorem zg_X10_pays {own : String} {idx : Nat} (h : Cond.methodLink own idx yX10_pays ∈ zWL) : GoodIn zWL (wsV own idx RX10 yX10_pays (.code yX10_pays cX10_pays 3 (some .int) :: zWL)) := zw_gv h zw5_21 zwp5_2 zw1_9 zw5_22
theorem zv_X10_placeOf : yX10_placeOf.cls = RX10 ∧ yX10_placeOf.cls ≠ "java/lang/invoke/MethodHandle" ∧ yX10_placeOf.cls ≠ "java/lang/invoke/VarHandle" ∧ (parseMethodDescriptor yX10_placeOf.desc).map (fun d => d.parameters.length) = some 1 := by decide +kernel
theorem zg_X10_placeOf {own : String} {idx : Nat} (h : Cond.methodLink own idx yX10_placeOf ∈ zWL) : GoodIn zWL (wsV own idx RX10 yX10_placeOf (.code yX10_placeOf cX10_placeOf 3 (some .int) :: zWL)) := zw_gv h zw4_153 zwp3_14 zw1_9 zw4_154
theorem zv_X10_readNumber : yX10_readNumber.cls = RX10 ∧ yX10_readNumber.cls ≠ "java/lang/invoke/MethodHandle" ∧ yX10_readNumber.cls ≠ "java/lang/invoke/VarHandle" ∧ (parseMethodDescriptor yX10_readNumber.desc).map (fun d => d.parameters.length) = some 0 := by decide +kernel
theorem zg_X10_readNumber {own : String} {idx : Nat} (h : Cond.methodLink own idx yX10_readNumber ∈ zWL) : GoodIn zWL (wsV own idx RX10 yX10_readNumber (.code yX10_readNumber cX10_readNumber 3 (some .int) :: zWL)) := zw_gv h zw5_173 zwp5_15 zw1_9 zw5_174
theorem zv_X10_readWord : yX10_readWord.cls = RX10 ∧ yX10_readWord.cls ≠ "java/lang/invoke/MethodHandle" ∧ yX10_readWord.cls ≠ "java/lang/invoke/VarHandle" ∧ (parseMethodDescriptor yX10_readWord.desc).map (fun d => d.parameters.length) = some 0 := by decide +kernel
theorem zg_X10_readWord {own : String} {idx : Nat} (h : Cond.methodLink own idx yX10_readWord ∈ zWL) : GoodIn zWL (wsV own idx RX10 yX10_readWord (.code yX10_readWord cX10_readWord 5 (some .int) :: zWL)) := zw_gv h zw5_154 zwp5_13 zw1_9 zw5_155
theorem zv_X10_renews : yX10_renews.cls = RX10 ∧ yX10_renews.cls ≠ "java/lang/invoke/MethodHandle" ∧ yX10_renews.cls ≠ "java/lang/invoke/VarHandle" ∧ (parseMethodDescriptor yX10_renews.desc).map (fun d => d.parameters.length) = some 1 := by decide +kernel
theorem zg_X10_renews {own : String} {idx : Nat} (h : Cond.methodLink own idx yX10_renews ∈ zWL) : GoodIn zWL (wsV own idx RX10 yX10_renews (.code yX10_renews cX10_renews 3 (some .int) :: zWL)) := zw_gv h zw4_189 zwp4_5 zw1_9 zw4_190
theorem zv_X10_sets : yX10_sets.cls = RX10 ∧ yX10_sets.cls ≠ "java/lang/invoke/MethodHandle" ∧ yX10_sets.cls ≠ "java/lang/invoke/VarHandle" ∧ (parseMethodDescriptor yX10_sets.desc).map (fun d => d.parameters.length) = some 2 := by decide +kernel
theorem zg_X10_sets {own : String} {idx : Nat} (h : Cond.methodLink own idx yX10_sets ∈ zWL) : GoodIn zWL (wsV own idx RX10 yX10_sets (.code yX10_sets cX10_sets 4 (some .int) :: zWL)) := zw_gv h zw5_48 zwp5_6 zw1_9 zw5_49
theorem zv_X10_stands : yX10_stands.cls = RX10 ∧ yX10_stands.cls ≠ "java/lang/invoke/MethodHandle" ∧ yX10_stands.cls ≠ "java/lang/invoke/VarHandle" ∧ (parseMethodDescriptor yX10_stands.desc).map (fun d => d.parameters.length) = some 2 := by decide +kernel
theorem zg_X10_stands {own : String} {idx : Nat} (h : Cond.methodLink own idx yX10_stands ∈ zWL) : GoodIn zWL (wsV own idx RX10 yX10_stands (.code yX10_stands cX10_stands 3 (some .int) :: zWL)) := zw_gv h zw4_97 zwp3_1 zw1_9 zw4_98
theorem zv_X10_swaps : yX10_swaps.cls = RX10 ∧ yX10_swaps.cls ≠ "java/lang/invoke/MethodHandle" ∧ yX10_swaps.cls ≠ "java/lang/invoke/VarHandle" ∧ (parseMethodDescriptor yX10_swaps.desc).map (fun d => d.parameters.length) = some 0 := by decide +kernel
theorem zg_X10_swaps {own : String} {idx : Nat} (h : Cond.methodLink own idx yX10_swaps ∈ zWL) : GoodIn zWL (wsV own idx RX10 yX10_swaps (.code yX10_swaps cX10_swaps 4 (some .int) :: zWL)) := zw_gv h zw4_229 zwp4_11 zw1_9 zw4_230
theorem zv_X10_takesFree : yX10_takesFree.cls = RX10 ∧ yX10_takesFree.cls ≠ "java/lang/invoke/MethodHandle" ∧ yX10_takesFree.cls ≠ "java/lang/invoke/VarHandle" ∧ (parseMethodDescriptor yX10_takesFree.desc).map (fun d => d.parameters.length) = some 0 := by decide +kernel
theorem zg_X10_takesFree {own : String} {idx : Nat} (h : Cond.methodLink own idx yX10_takesFree ∈ zWL) : GoodIn zWL (wsV own idx RX10 yX10_takesFree (.code yX10_takesFree cX10_takesFree 5 (some .boolean) :: zWL)) := zw_gv h zw4_233 zwp4_12 zw1_9 zw4_234
theorem zv_X10_takesRing : yX10_takesRing.cls = RX10 ∧ yX10_takesRing.cls ≠ "java/lang/invoke/MethodHandle" ∧ yX10_takesRing.cls ≠ "java/lang/invoke/VarHandle" ∧ (parseMethodDescriptor yX10_takesRing.desc).map (fun d => d.parameters.length) = some 0 := by decide +kernel
theorem zg_X10_takesRing {own : String} {idx : Nat} (h : Cond.methodLink own idx yX10_takesRing ∈ zWL) : GoodIn zWL (wsV own idx RX10 yX10_takesRing (.code yX10_takesRing cX10_takesRing 4 (some .int) :: zWL)) := zw_gv h zw5_1 zwp4_14 zw1_9 zw5_2
theorem zv_X10_thirdOf : yX10_thirdOf.cls = RX10 ∧ yX10_thirdOf.cls ≠ "java/lang/invoke/MethodHandle" ∧ yX10_thirdOf.cls ≠ "java/lang/invoke/VarHandle" ∧ (parseMethodDescriptor yX10_thirdOf.desc).map (fun d => d.parameters.length) = some 2 := by decide +kernel
theorem zg_X10_thirdOf {own : String} {idx : Nat} (h : Cond.methodLink own idx yX10_thirdOf ∈ zWL) : GoodIn zWL (wsV own idx RX10 yX10_thirdOf (.code yX10_thirdOf cX10_thirdOf 4 (some .int) :: zWL)) := zw_gv h zw5_5 zwp4_15 zw1_9 zw5_6
theorem zv_X10_waitsFor : yX10_waitsFor.cls = RX10 ∧ yX10_waitsFor.cls ≠ "java/lang/invoke/MethodHandle" ∧ yX10_waitsFor.cls ≠ "java/lang/invoke/VarHandle" ∧ (parseMethodDescriptor yX10_waitsFor.desc).map (fun d => d.parameters.length) = some 2 := by decide +kernel
theorem zg_X10_waitsFor {own : String} {idx : Nat} (h : Cond.methodLink own idx yX10_waitsFor ∈ zWL) : GoodIn zWL (wsV own idx RX10 yX10_waitsFor (.code yX10_waitsFor cX10_waitsFor 3 none :: zWL)) := zw_gv h zw4_161 zwp4_0 zw1_9 zw4_162
theorem zv_X10_waitsNoMore : yX10_waitsNoMore.cls = RX10 ∧ yX10_waitsNoMore.cls ≠ "java/lang/invoke/MethodHandle" ∧ yX10_waitsNoMore.cls ≠ "java/lang/invoke/VarHandle" ∧ (parseMethodDescriptor yX10_waitsNoMore.desc).map (fun d => d.parameters.length) = some 1 := by decide +kernel
theorem zg_X10_waitsNoMore {own : String} {idx : Nat} (h : Cond.methodLink own idx yX10_waitsNoMore ∈ zWL) : GoodIn zWL (wsV own idx RX10 yX10_waitsNoMore (.code yX10_waitsNoMore cX10_waitsNoMore 3 none :: zWL)) := zw_gv h zw4_125 zwp3_8 zw1_9 zw4_126
theorem zv_X10_wants : yX10_wants.cls = RX10 ∧ yX10_wants.cls ≠ "java/lang/invoke/MethodHandle" ∧ yX10_wants.cls ≠ "java/lang/invoke/VarHandle" ∧ (parseMethodDescriptor yX10_wants.desc).map (fun d => d.parameters.length) = some 2 := by decide +kernel
theorem zg_X10_wants {own : String} {idx : Nat} (h : Cond.methodLink own idx yX10_wants ∈ zWL) : GoodIn zWL (wsV own idx RX10 yX10_wants (.code yX10_wants cX10_wants 3 (some .boolean) :: zWL)) := zw_gv h zw5_9 zwp5_0 zw1_9 zw5_10
theorem zv_X10_wishes : yX10_wishes.cls = RX10 ∧ yX10_wishes.cls ≠ "java/lang/invoke/MethodHandle" ∧ yX10_wishes.cls ≠ "java/lang/invoke/VarHandle" ∧ (parseMethodDescriptor yX10_wishes.desc).map (fun d => d.parameters.length) = some 2 := by decide +kernel
theorem zg_X10_wishes {own : String} {idx : Nat} (h : Cond.methodLink own idx yX10_wishes ∈ zWL) : GoodIn zWL (wsV own idx RX10 yX10_wishes (.code yX10_wishes cX10_wishes 4 (some .int) :: zWL)) := zw_gv h zw4_213 zwp4_9 zw1_9 zw4_214
theorem zv_X10_wishesNoMore : yX10_wishesNoMore.cls = RX10 ∧ yX10_wishesNoMore.cls ≠ "java/lang/invoke/MethodHandle" ∧ yX10_wishesNoMore.cls ≠ "java/lang/invoke/VarHandle" ∧ (parseMethodDescriptor yX10_wishesNoMore.desc).map (fun d => d.parameters.length) = some 1 := by decide +kernel
theorem zg_X10_wishesNoMore {own : String} {idx : Nat} (h : Cond.methodLink own idx yX10_wishesNoMore ∈ zWL) : GoodIn zWL (wsV own idx RX10 yX10_wishesNoMore (.code yX10_wishesNoMore cX10_wishesNoMore 3 (some .int) :: zWL)) := zw_gv h zw4_221 zwp4_10 zw1_9 zw4_222
theorem zy_X10_wordOf : yX10_wordOf.cls ≠ "java/lang/invoke/MethodHandle" ∧ yX10_wordOf.cls ≠ "java/lang/invoke/VarHandle" ∧ (parseMethodDescriptor yX10_wordOf.desc).map (fun d => d.parameters.length) = some 1 := by decide +kernel
theorem zg_X10_wordOf {own : String} {idx : Nat} (h : Cond.methodLink own idx yX10_wordOf ∈ zWL) : GoodIn zWL (va_wsS own idx yX10_wordOf (.code yX10_wordOf cX10_wordOf 1 (some .long) :: zWL)) := zw_gs h zw5_161 zw1_9 zw5_162
theorem zv_X1_addLocker : yX1_addLocker.cls = RX1 ∧ yX1_addLocker.cls ≠ "java/lang/invoke/MethodHandle" ∧ yX1_addLocker.cls ≠ "java/lang/invoke/VarHandle" ∧ (parseMethodDescriptor yX1_addLocker.desc).map (fun d => d.parameters.length) = some 1 := by decide +kernel
theorem zg_X1_addLocker {own : String} {idx : Nat} (h : Cond.methodLink own idx yX1_addLocker ∈ zWL) : GoodIn zWL (wsV own idx RX1 yX1_addLocker (.code yX1_addLocker cX1_addLocker 2 (some .int) :: zWL)) := zw_gv h zw2_46 zw2_47 zw1_2 zw2_48
theorem zv_X1_addPerson : yX1_addPerson.cls = RX1 ∧ yX1_addPerson.cls ≠ "java/lang/invoke/MethodHandle" ∧ yX1_addPerson.cls ≠ "java/lang/invoke/VarHandle" ∧ (parseMethodDescriptor yX1_addPerson.desc).map (fun d => d.parameters.length) = some 0 := by decide +kernel
theorem zg_X1_addPerson {own : String} {idx : Nat} (h : Cond.methodLink own idx yX1_addPerson ∈ zWL) : GoodIn zWL (wsV own idx RX1 yX1_addPerson (.code yX1_addPerson cX1_addPerson 1 (some .int) :: zWL)) := zw_gv h zw2_58 zw2_59 zw1_2 zw2_60
theorem zv_X1_beginLoan : yX1_beginLoan.cls = RX1 ∧ yX1_beginLoan.cls ≠ "java/lang/invoke/MethodHandle" ∧ yX1_beginLoan.cls ≠ "java/lang/invoke/VarHandle" ∧ (parseMethodDescriptor yX1_beginLoan.desc).map (fun d => d.parameters.length) = some 2 := by decide +kernel
theorem zg_X1_beginLoan {own : String} {idx : Nat} (h : Cond.methodLink own idx yX1_beginLoan ∈ zWL) : GoodIn zWL (wsV own idx RX1 yX1_beginLoan (.code yX1_beginLoan cX1_beginLoan 3 none :: zWL)) := zw_gv h zw2_99 zwp1_4 zw1_2 zw2_100
theorem zv_X1_changeLock : yX1_changeLock.cls = RX1 ∧ yX1_changeLock.cls ≠ "java/lang/invoke/MethodHandle" ∧ yX1_changeLock.cls ≠ "java/lang/invoke/VarHandle" ∧ (parseMethodDescriptor yX1_changeLock.desc).map (fun d => d.parameters.length) = some 2 := by decide +kernel
theorem zg_X1_changeLock {own : String} {idx : Nat} (h : Cond.methodLink own idx yX1_changeLock ∈ zWL) : GoodIn zWL (wsV own idx RX1 yX1_changeLock (.code yX1_changeLock cX1_changeLock 4 none :: zWL)) := zw_gv h zw2_155 zwp1_7 zw1_2 zw2_156
theorem zv_X1_changeSetting : yX1_changeSetting.cls = RX1 ∧ yX1_changeSetting.cls ≠ "java/lang/invoke/MethodHandle" ∧ yX1_changeSetting.cls ≠ "java/lang/invoke/VarHandle" ∧ (parseMethodDescriptor yX1_changeSetting.desc).map (fun d => d.parameters.length) = some 2 := by decide +kernel
theorem zg_X1_changeSetting {own : String} {idx : Nat} (h : Cond.methodLink own idx yX1_changeSetting ∈ zWL) : GoodIn zWL (wsV own idx RX1 yX1_changeSetting (.code yX1_changeSetting cX1_changeSetting 4 (some .int) :: zWL)) := zw_gv h zw3_9 zw3_10 zw1_2 zw3_11
theorem zv_X1_chargeOverdue : yX1_chargeOverdue.cls = RX1 ∧ yX1_chargeOverdue.cls ≠ "java/lang/invoke/MethodHandle" ∧ yX1_chargeOverdue.cls ≠ "java/lang/invoke/VarHandle" ∧ (parseMethodDescriptor yX1_chargeOverdue.desc).map (fun d => d.parameters.length) = some 0 := by decide +kernel
theorem zg_X1_chargeOverdue {own : String} {idx : Nat} (h : Cond.methodLink own idx yX1_chargeOverdue ∈ zWL) : GoodIn zWL (wsV own idx RX1 yX1_chargeOverdue (.code yX1_chargeOverdue cX1_chargeOverdue 6 (some .int) :: zWL)) := zw_gv h zw2_239 zwp1_15 zw1_2 zw3_0
theorem zv_X1_closedLockers : yX1_closedLockers.cls = RX1 ∧ yX1_closedLockers.cls ≠ "java/lang/invoke/MethodHandle" ∧ yX1_closedLockers.cls ≠ "java/lang/invoke/VarHandle" ∧ (parseMethodDescriptor yX1_closedLockers.desc).map (fun d => d.parameters.length) = some 0 := by decide +kernel
theorem zg_X1_closedLockers {own : String} {idx : Nat} (h : Cond.methodLink own idx yX1_closedLockers ∈ zWL) : GoodIn zWL (wsV own idx RX1 yX1_closedLockers (.code yX1_closedLockers cX1_closedLockers 3 (some .int) :: zWL)) := zw_gv h zw3_61 zwp2_1 zw1_2 zw3_62
theorem zv_X1_copyFrom : yX1_copyFrom.cls = RX1 ∧ yX1_copyFrom.cls ≠ "java/lang/invoke/MethodHandle" ∧ yX1_copyFrom.cls ≠ "java/lang/invoke/VarHandle" ∧ (parseMethodDescriptor yX1_copyFrom.desc).map (fun d => d.parameters.length) = some 1 := by decide +kernel
theorem zg_X1_copyFrom {own : String} {idx : Nat} (h : Cond.methodLink own idx yX1_copyFrom ∈ zWL) : GoodIn zWL (wsV own idx RX1 yX1_copyFrom (.code yX1_copyFrom cX1_copyFrom 3 none :: zWL)) := zw_gv h zw2_30 zw2_31 zw1_2 zw2_32
theorem zv_X1_endClosing : yX1_endClosing.cls = RX1 ∧ yX1_endClosing.cls ≠ "java/lang/invoke/MethodHandle" ∧ yX1_endClosing.cls ≠ "java/lang/invoke/VarHandle" ∧ (parseMethodDescriptor yX1_endClosing.desc).map (fun d => d.parameters.length) = some 0 := by decide +kernel
theorem zg_X1_endClosing {own : String} {idx : Nat} (h : Cond.methodLink own idx yX1_endClosing ∈ zWL) : GoodIn zWL (wsV own idx RX1 yX1_endClosing (.code yX1_endClosing cX1_endClosing 3 none :: zWL)) := zw_gv h zw2_235 zwp1_14 zw1_2 zw2_236
theorem zv_X1_endLoan : yX1_endLoan.cls = RX1 ∧ yX1_endLoan.cls ≠ "java/lang/invoke/MethodHandle" ∧ yX1_endLoan.cls ≠ "java/lang/invoke/VarHandle" ∧ (parseMethodDescriptor yX1_endLoan.desc).map (fun d => d.parameters.length) = some 2 := by decide +kernel
theorem zg_X1_endLoan {own : String} {idx : Nat} (h : Cond.methodLink own idx yX1_endLoan ∈ zWL) : GoodIn zWL (wsV own idx RX1 yX1_endLoan (.code yX1_endLoan cX1_endLoan 3 none :: zWL)) := zw_gv h zw2_135 zwp1_6 zw1_2 zw2_136
theorem zv_X1_endWish : yX1_endWish.cls = RX1 ∧ yX1_endWish.cls ≠ "java/lang/invoke/MethodHandle" ∧ yX1_endWish.cls ≠ "java/lang/invoke/VarHandle" ∧ (parseMethodDescriptor yX1_endWish.desc).map (fun d => d.parameters.length) = some 1 := by decide +kernel
theorem zg_X1_endWish {own : String} {idx : Nat} (h : Cond.methodLink own idx yX1_endWish ∈ zWL) : GoodIn zWL (wsV own idx RX1 yX1_endWish (.code yX1_endWish cX1_endWish 3 (some .int) :: zWL)) := zw_gv h zw2_170 zw2_171 zw1_2 zw2_172
theorem zy_X1_feeOfDay : yX1_feeOfDay.cls ≠ "java/lang/invoke/MethodHandle" ∧ yX1_feeOfDay.cls ≠ "java/lang/invoke/VarHandle" ∧ (parseMethodDescriptor yX1_feeOfDay.desc).map (fun d => d.parameters.length) = some 1 := by decide +kernel
theorem zg_X1_feeOfDay {own : String} {idx : Nat} (h : Cond.methodLink own idx yX1_feeOfDay ∈ zWL) : GoodIn zWL (va_wsS own idx yX1_feeOfDay (.code yX1_feeOfDay cX1_feeOfDay 1 (some .int) :: zWL)) := zw_gs h zw3_2 zw1_2 zw3_3
theorem zv_X1_findRing : yX1_findRing.cls = RX1 ∧ yX1_findRing.cls ≠ "java/lang/invoke/MethodHandle" ∧ yX1_findRing.cls ≠ "java/lang/invoke/VarHandle" ∧ (parseMethodDescriptor yX1_findRing.desc).map (fun d => d.parameters.length) = some 0 := by decide +kernel
theorem zg_X1_findRing {own : String} {idx : Nat} (h : Cond.methodLink own idx yX1_findRing ∈ zWL) : GoodIn zWL (wsV own idx RX1 yX1_findRing (.code yX1_findRing cX1_findRing 4 (some .int) :: zWL)) := zw_gv h zw2_207 zwp1_11 zw1_2 zw2_208
theorem zy_X1_foundOr : yX1_foundOr.cls ≠ "java/lang/invoke/MethodHandle" ∧ yX1_foundOr.cls ≠ "java/lang/invoke/VarHandle" ∧ (parseMethodDescriptor yX1_foundOr.desc).map (fun d => d.parameters.length) = some 1 := by decide +kernel
theorem zg_X1_foundOr {own : String} {idx : Nat} (h : Cond.methodLink own idx yX1_foundOr ∈ zWL) : GoodIn zWL (va_wsS own idx yX1_foundOr (.code yX1_foundOr cX1_foundOr 1 (some .int) :: zWL)) := zw_gs h zw3_27 zw1_2 zw3_28
theorem zv_X1_freeLockers : yX1_freeLockers.cls = RX1 ∧ yX1_freeLockers.cls ≠ "java/lang/invoke/MethodHandle" ∧ yX1_freeLockers.cls ≠ "java/lang/invoke/VarHandle" ∧ (parseMethodDescriptor yX1_freeLockers.desc).map (fun d => d.parameters.length) = some 0 := by decide +kernel
theorem zg_X1_freeLockers {own : String} {idx : Nat} (h : Cond.methodLink own idx yX1_freeLockers ∈ zWL) : GoodIn zWL (wsV own idx RX1 yX1_freeLockers (.code yX1_freeLockers cX1_freeLockers 3 (some .int) :: zWL)) := zw_gv h zw3_53 zwp2_0 zw1_2 zw3_54
theorem zy_X1_highestSetting : yX1_highestSetting.cls ≠ "java/lang/invoke/MethodHandle" ∧ yX1_highestSetting.cls ≠ "java/lang/invoke/VarHandle" ∧ (parseMethodDescriptor yX1_highestSetting.desc).map (fun d => d.parameters.length) = some 1 := by decide +kernel
theorem zg_X1_highestSetting {own : String} {idx : Nat} (h : Cond.methodLink own idx yX1_highestSetting ∈ zWL) : GoodIn zWL (va_wsS own idx yX1_highestSetting (.code yX1_highestSetting cX1_highestSetting 1 (some .int) :: zWL)) := zw_gs h zw3_16 zw1_2 zw3_17
theorem zv_X1_lendTo : yX1_lendTo.cls = RX1 ∧ yX1_lendTo.cls ≠ "java/lang/invoke/MethodHandle" ∧ yX1_lendTo.cls ≠ "java/lang/invoke/VarHandle" ∧ (parseMethodDescriptor yX1_lendTo.desc).map (fun d => d.parameters.length) = some 2 := by decide +kernel
theorem zg_X1_lendTo {own : String} {idx : Nat} (h : Cond.methodLink own idx yX1_lendTo ∈ zWL) : GoodIn zWL (wsV own idx RX1 yX1_lendTo (.code yX1_lendTo cX1_lendTo 5 (some .int) :: zWL)) := zw_gv h zw2_106 zw2_107 zw1_2 zw2_108
theorem zv_X1_lentLockers : yX1_lentLockers.cls = RX1 ∧ yX1_lentLockers.cls ≠ "java/lang/invoke/MethodHandle" ∧ yX1_lentLockers.cls ≠ "java/lang/invoke/VarHandle" ∧ (parseMethodDescriptor yX1_lentLockers.desc).map (fun d => d.parameters.length) = some 0 := by decide +kernel
theorem zg_X1_lentLockers {own : String} {idx : Nat} (h : Cond.methodLink own idx yX1_lentLockers ∈ zWL) : GoodIn zWL (wsV own idx RX1 yX1_lentLockers (.code yX1_lentLockers cX1_lentLockers 3 (some .int) :: zWL)) := zw_gv h zw3_56 zw3_57 zw1_2 zw3_58
theorem zv_X1_lockerAt : yX1_lockerAt.cls = RX1 ∧ yX1_lockerAt.cls ≠ "java/lang/invoke/MethodHandle" ∧ yX1_lockerAt.cls ≠ "java/lang/invoke/VarHandle" ∧ (parseMethodDescriptor yX1_lockerAt.desc).map (fun d => d.parameters.length) = some 1 := by decide +kernel
theorem zg_X1_lockerAt {own : String} {idx : Nat} (h : Cond.methodLink own idx yX1_lockerAt ∈ zWL) : GoodIn zWL (wsV own idx RX1 yX1_lockerAt (.code yX1_lockerAt cX1_lockerAt 2 (some (.object "LockerChains$Locker")) :: zWL)) := zw_gv h zw2_71 zwp1_1 zw1_2 zw2_72
theorem zv_X1_lockerOfPerson : yX1_lockerOfPerson.cls = RX1 ∧ yX1_lockerOfPerson.cls ≠ "java/lang/invoke/MethodHandle" ∧ yX1_lockerOfPerson.cls ≠ "java/lang/invoke/VarHandle" ∧ (parseMethodDescriptor yX1_lockerOfPerson.desc).map (fun d => d.parameters.length) = some 1 := by decide +kernel
theorem zg_X1_lockerOfPerson {own : String} {idx : Nat} (h : Cond.methodLink own idx yX1_lockerOfPerson ∈ zWL) : GoodIn zWL (wsV own idx RX1 yX1_lockerOfPerson (.code yX1_lockerOfPerson cX1_lockerOfPerson 3 (some (.object "LockerChains$Locker")) :: zWL)) := zw_gv h zw2_199 zwp1_9 zw1_2 zw2_200
theorem zv_X1_loseKey : yX1_loseKey.cls = RX1 ∧ yX1_loseKey.cls ≠ "java/lang/invoke/MethodHandle" ∧ yX1_loseKey.cls ≠ "java/lang/invoke/VarHandle" ∧ (parseMethodDescriptor yX1_loseKey.desc).map (fun d => d.parameters.length) = some 1 := by decide +kernel
theorem zg_X1_loseKey {own : String} {idx : Nat} (h : Cond.methodLink own idx yX1_loseKey ∈ zWL) : GoodIn zWL (wsV own idx RX1 yX1_loseKey (.code yX1_loseKey cX1_loseKey 4 (some .int) :: zWL)) := zw_gv h zw2_150 zw2_151 zw1_2 zw2_152
theorem zv_X1_lowestFree : yX1_lowestFree.cls = RX1 ∧ yX1_lowestFree.cls ≠ "java/lang/invoke/MethodHandle" ∧ yX1_lowestFree.cls ≠ "java/lang/invoke/VarHandle" ∧ (parseMethodDescriptor yX1_lowestFree.desc).map (fun d => d.parameters.length) = some 1 := by decide +kernel
theorem zg_X1_lowestFree {own : String} {idx : Nat} (h : Cond.methodLink own idx yX1_lowestFree ∈ zWL) : GoodIn zWL (wsV own idx RX1 yX1_lowestFree (.code yX1_lowestFree cX1_lowestFree 4 (some (.object "LockerChains$Locker")) :: zWL)) := zw_gv h zw2_115 zwp1_5 zw1_2 zw2_116
theorem zy_X1_lowestSetting : yX1_lowestSetting.cls ≠ "java/lang/invoke/MethodHandle" ∧ yX1_lowestSetting.cls ≠ "java/lang/invoke/VarHandle" ∧ (parseMethodDescriptor yX1_lowestSetting.desc).map (fun d => d.parameters.length) = some 1 := by decide +kernel
theorem zg_X1_lowestSetting {own : String} {idx : Nat} (h : Cond.methodLink own idx yX1_lowestSetting ∈ zWL) : GoodIn zWL (va_wsS own idx yX1_lowestSetting (.code yX1_lowestSetting cX1_lowestSetting 1 (some .int) :: zWL)) := zw_gs h zw3_13 zw1_2 zw3_14
theorem zv_X1_move : yX1_move.cls = RX1 ∧ yX1_move.cls ≠ "java/lang/invoke/MethodHandle" ∧ yX1_move.cls ≠ "java/lang/invoke/VarHandle" ∧ (parseMethodDescriptor yX1_move.desc).map (fun d => d.parameters.length) = some 2 := by decide +kernel
theorem zg_X1_move {own : String} {idx : Nat} (h : Cond.methodLink own idx yX1_move ∈ zWL) : GoodIn zWL (wsV own idx RX1 yX1_move (.code yX1_move cX1_move 4 none :: zWL)) := zw_gv h zw2_203 zwp1_10 zw1_2 zw2_204
theorem zv_X1_moveAround : yX1_moveAround.cls = RX1 ∧ yX1_moveAround.cls ≠ "java/lang/invoke/MethodHandle" ∧ yX1_moveAround.cls ≠ "java/lang/invoke/VarHandle" ∧ (parseMethodDescriptor yX1_moveAround.desc).map (fun d => d.parameters.length) = some 1 := by decide +kernel
theorem zg_X1_moveAround {own : String} {idx : Nat} (h : Cond.methodLink own idx yX1_moveAround ∈ zWL) : GoodIn zWL (wsV own idx RX1 yX1_moveAround (.code yX1_moveAround cX1_moveAround 5 none :: zWL)) := zw_gv h zw2_215 zwp1_13 zw1_2 zw2_216
theorem zv_X1_moveToFree : yX1_moveToFree.cls = RX1 ∧ yX1_moveToFree.cls ≠ "java/lang/invoke/MethodHandle" ∧ yX1_moveToFree.cls ≠ "java/lang/invoke/VarHandle" ∧ (parseMethodDescriptor yX1_moveToFree.desc).map (fun d => d.parameters.length) = some 0 := by decide +kernel
theorem zg_X1_moveToFree {own : String} {idx : Nat} (h : Cond.methodLink own idx yX1_moveToFree ∈ zWL) : GoodIn zWL (wsV own idx RX1 yX1_moveToFree (.code yX1_moveToFree cX1_moveToFree 5 (some .int) :: zWL)) := zw_gv h zw2_187 zwp1_8 zw1_2 zw2_188
theorem zv_X1_offer : yX1_offer.cls = RX1 ∧ yX1_offer.cls ≠ "java/lang/invoke/MethodHandle" ∧ yX1_offer.cls ≠ "java/lang/invoke/VarHandle" ∧ (parseMethodDescriptor yX1_offer.desc).map (fun d => d.parameters.length) = some 1 := by decide +kernel
theorem zg_X1_offer {own : String} {idx : Nat} (h : Cond.methodLink own idx yX1_offer ∈ zWL) : GoodIn zWL (wsV own idx RX1 yX1_offer (.code yX1_offer cX1_offer 3 none :: zWL)) := zw_gv h zw2_79 zwp1_2 zw1_2 zw2_80
theorem zv_X1_owedByAll : yX1_owedByAll.cls = RX1 ∧ yX1_owedByAll.cls ≠ "java/lang/invoke/MethodHandle" ∧ yX1_owedByAll.cls ≠ "java/lang/invoke/VarHandle" ∧ (parseMethodDescriptor yX1_owedByAll.desc).map (fun d => d.parameters.length) = some 0 := by decide +kernel
theorem zg_X1_owedByAll {own : String} {idx : Nat} (h : Cond.methodLink own idx yX1_owedByAll ∈ zWL) : GoodIn zWL (wsV own idx RX1 yX1_owedByAll (.code yX1_owedByAll cX1_owedByAll 3 (some .int) :: zWL)) := zw_gv h zw3_65 zwp2_2 zw1_2 zw3_66
theorem zv_X1_paidByAll : yX1_paidByAll.cls = RX1 ∧ yX1_paidByAll.cls ≠ "java/lang/invoke/MethodHandle" ∧ yX1_paidByAll.cls ≠ "java/lang/invoke/VarHandle" ∧ (parseMethodDescriptor yX1_paidByAll.desc).map (fun d => d.parameters.length) = some 0 := by decide +kernel
theorem zg_X1_paidByAll {own : String} {idx : Nat} (h : Cond.methodLink own idx yX1_paidByAll ∈ zWL) : GoodIn zWL (wsV own idx RX1 yX1_paidByAll (.code yX1_paidByAll cX1_paidByAll 3 (some .int) :: zWL)) := zw_gv h zw3_69 zwp2_3 zw1_2 zw3_70
theorem zv_X1_passDays : yX1_passDays.cls = RX1 ∧ yX1_passDays.cls ≠ "java/lang/invoke/MethodHandle" ∧ yX1_passDays.cls ≠ "java/lang/invoke/VarHandle" ∧ (parseMethodDescriptor yX1_passDays.desc).map (fun d => d.parameters.length) = some 2 := by decide +kernel
theorem zg_X1_passDays {own : String} {idx : Nat} (h : Cond.methodLink own idx yX1_passDays ∈ zWL) : GoodIn zWL (wsV own idx RX1 yX1_passDays (.code yX1_passDays cX1_passDays 5 (some .int) :: zWL)) := zw_gv h zw2_230 zw2_231 zw1_2 zw2_232
theorem zv_X1_payCoins : yX1_payCoins.cls = RX1 ∧ yX1_payCoins.cls ≠ "java/lang/invoke/MethodHandle" ∧ yX1_payCoins.cls ≠ "java/lang/invoke/VarHandle" ∧ (parseMethodDescriptor yX1_payCoins.desc).map (fun d => d.parameters.length) = some 2 := by decide +kernel
theorem zg_X1_payCoins {own : String} {idx : Nat} (h : Cond.methodLink own idx yX1_payCoins ∈ zWL) : GoodIn zWL (wsV own idx RX1 yX1_payCoins (.code yX1_payCoins cX1_payCoins 4 (some .int) :: zWL)) := zw_gv h zw2_222 zw2_223 zw1_2 zw2_224
theorem zv_X1_personAt : yX1_personAt.cls = RX1 ∧ yX1_personAt.cls ≠ "java/lang/invoke/MethodHandle" ∧ yX1_personAt.cls ≠ "java/lang/invoke/VarHandle" ∧ (parseMethodDescriptor yX1_personAt.desc).map (fun d => d.parameters.length) = some 1 := by decide +kernel
theorem zg_X1_personAt {own : String} {idx : Nat} (h : Cond.methodLink own idx yX1_personAt ∈ zWL) : GoodIn zWL (wsV own idx RX1 yX1_personAt (.code yX1_personAt cX1_personAt 2 (some (.object "LockerChains$Person")) :: zWL)) := zw_gv h zw2_87 zwp1_3 zw1_2 zw2_88
theorem zy_X1_personAt : yX1_personAt.cls ≠ "java/lang/invoke/MethodHandle" ∧ yX1_personAt.cls ≠ "java/lang/invoke/VarHandle" ∧ (parseMethodDescriptor yX1_personAt.desc).map (fun d => d.parameters.length) = some 1 := by decide +kernel
theorem zv_X1_prolong : yX1_prolong.cls = RX1 ∧ yX1_prolong.cls ≠ "java/lang/invoke/MethodHandle" ∧ yX1_prolong.cls ≠ "java/lang/invoke/VarHandle" ∧ (parseMethodDescriptor yX1_prolong.desc).map (fun d => d.parameters.length) = some 1 := by decide +kernel
theorem zg_X1_prolong {own : String} {idx : Nat} (h : Cond.methodLink own idx yX1_prolong ∈ zWL) : GoodIn zWL (wsV own idx RX1 yX1_prolong (.code yX1_prolong cX1_prolong 4 (some .int) :: zWL)) := zw_gv h zw2_142 zw2_143 zw1_2 zw2_144
theorem zv_X1_putIntoRow : yX1_putIntoRow.cls = RX1 ∧ yX1_putIntoRow.cls ≠ "java/lang/invoke/MethodHandle" ∧ yX1_putIntoRow.cls ≠ "java/lang/invoke/VarHandle" ∧ (parseMethodDescriptor yX1_putIntoRow.desc).map (fun d => d.parameters.length) = some 2 := by decide +kernel
theorem zg_X1_putIntoRow {own : String} {idx : Nat} (h : Cond.methodLink own idx yX1_putIntoRow ∈ zWL) : GoodIn zWL (wsV own idx RX1 yX1_putIntoRow (.code yX1_putIntoRow cX1_putIntoRow 5 (some .int) :: zWL)) := zw_gv h zw2_66 zw2_67 zw1_2 zw2_68
theorem zv_X1_standingOf : yX1_standingOf.cls = RX1 ∧ yX1_standingOf.cls ≠ "java/lang/invoke/MethodHandle" ∧ yX1_standingOf.cls ≠ "java/lang/invoke/VarHandle" ∧ (parseMethodDescriptor yX1_standingOf.desc).map (fun d => d.parameters.length) = some 1 := by decide +kernel
theorem zg_X1_standingOf {own : String} {idx : Nat} (h : Cond.methodLink own idx yX1_standingOf ∈ zWL) : GoodIn zWL (wsV own idx RX1 yX1_standingOf (.code yX1_standingOf cX1_standingOf 4 (some .int) :: zWL)) := zw_gv h zw2_74 zw2_75 zw1_2 zw2_76
theorem zv_X1_swapAll : yX1_swapAll.cls = RX1 ∧ yX1_swapAll.cls ≠ "java/lang/invoke/MethodHandle" ∧ yX1_swapAll.cls ≠ "java/lang/invoke/VarHandle" ∧ (parseMethodDescriptor yX1_swapAll.desc).map (fun d => d.parameters.length) = some 0 := by decide +kernel
theorem zg_X1_swapAll {own : String} {idx : Nat} (h : Cond.methodLink own idx yX1_swapAll ∈ zWL) : GoodIn zWL (wsV own idx RX1 yX1_swapAll (.code yX1_swapAll cX1_swapAll 4 (some .int) :: zWL)) := zw_gv h zw2_182 zw2_183 zw1_2 zw2_184
theorem zv_X1_takeBack : yX1_takeBack.cls = RX1 ∧ yX1_takeBack.cls ≠ "java/lang/invoke/MethodHandle" ∧ yX1_takeBack.cls ≠ "java/lang/invoke/VarHandle" ∧ (parseMethodDescriptor yX1_takeBack.desc).map (fun d => d.parameters.length) = some 1 := by decide +kernel
theorem zg_X1_takeBack {own : String} {idx : Nat} (h : Cond.methodLink own idx yX1_takeBack ∈ zWL) : GoodIn zWL (wsV own idx RX1 yX1_takeBack (.code yX1_takeBack cX1_takeBack 5 (some .int) :: zWL)) := zw_gv h zw2_126 zw2_127 zw1_2 zw2_128
theorem zv_X1_tellNumber : yX1_tellNumber.cls = RX1 ∧ yX1_tellNumber.cls ≠ "java/lang/invoke/MethodHandle" ∧ yX1_tellNumber.cls ≠ "java/lang/invoke/VarHandle" ∧ (parseMethodDescriptor yX1_tellNumber.desc).map (fun d => d.parameters.length) = some 1 := by decide +kernel
theorem zg_X1_tellNumber {own : String} {idx : Nat} (h : Cond.methodLink own idx yX1_tellNumber ∈ zWL) : GoodIn zWL (wsV own idx RX1 yX1_tellNumber (.code yX1_tellNumber cX1_tellNumber 2 (some .int) :: zWL)) := zw_gv h zw3_48 zw3_49 zw1_2 zw3_50
theorem zv_X1_tellOfLocker : yX1_tellOfLocker.cls = RX1 ∧ yX1_tellOfLocker.cls ≠ "java/lang/invoke/MethodHandle" ∧ yX1_tellOfLocker.cls ≠ "java/lang/invoke/VarHandle" ∧ (parseMethodDescriptor yX1_tellOfLocker.desc).map (fun d => d.parameters.length) = some 2 := by decide +kernel
theorem zg_X1_tellOfLocker {own : String} {idx : Nat} (h : Cond.methodLink own idx yX1_tellOfLocker ∈ zWL) : GoodIn zWL (wsV own idx RX1 yX1_tellOfLocker (.code yX1_tellOfLocker cX1_tellOfLocker 4 (some .int) :: zWL)) := zw_gv h zw3_34 zw3_35 zw1_2 zw3_36
theorem zv_X1_tellOfPerson : yX1_tellOfPerson.cls = RX1 ∧ yX1_tellOfPerson.cls ≠ "java/lang/invoke/MethodHandle" ∧ yX1_tellOfPerson.cls ≠ "java/lang/invoke/VarHandle" ∧ (parseMethodDescriptor yX1_tellOfPerson.desc).map (fun d => d.parameters.length) = some 2 := by decide +kernel
theorem zg_X1_tellOfPerson {own : String} {idx : Nat} (h : Cond.methodLink own idx yX1_tellOfPerson ∈ zWL) : GoodIn zWL (wsV own idx RX1 yX1_tellOfPerson (.code yX1_tellOfPerson cX1_tellOfPerson 4 (some .int) :: zWL)) := zw_gv h zw3_23 zw3_24 zw1_2 zw3_25
theorem zv_X1_tellSetting : yX1_tellSetting.cls = RX1 ∧ yX1_tellSetting.cls ≠ "java/lang/invoke/MethodHandle" ∧ yX1_tellSetting.cls ≠ "java/lang/invoke/VarHandle" ∧ (parseMethodDescriptor yX1_tellSetting.desc).map (fun d => d.parameters.length) = some 1 := by decide +kernel
theorem zg_X1_tellSetting {own : String} {idx : Nat} (h : Cond.methodLink own idx yX1_tellSetting ∈ zWL) : GoodIn zWL (wsV own idx RX1 yX1_tellSetting (.code yX1_tellSetting cX1_tellSetting 2 (some .int) :: zWL)) := zw_gv h zw3_73 zwp2_4 zw1_2 zw3_74
theorem zv_X1_wants : yX1_wants.cls = RX1 ∧ yX1_wants.cls ≠ "java/lang/invoke/MethodHandle" ∧ yX1_wants.cls ≠ "java/lang/invoke/VarHandle" ∧ (parseMethodDescriptor yX1_wants.desc).map (fun d => d.parameters.length) = some 2 := by decide +kernel
theorem zg_X1_wants {own : String} {idx : Nat} (h : Cond.methodLink own idx yX1_wants ∈ zWL) : GoodIn zWL (wsV own idx RX1 yX1_wants (.code yX1_wants cX1_wants 4 (some .boolean) :: zWL)) := zw_gv h zw2_211 zwp1_12 zw1_2 zw2_212
theorem zv_X1_wishFor : yX1_wishFor.cls = RX1 ∧ yX1_wishFor.cls ≠ "java/lang/invoke/MethodHandle" ∧ yX1_wishFor.cls ≠ "java/lang/invoke/VarHandle" ∧ (parseMethodDescriptor yX1_wishFor.desc).map (fun d => d.parameters.length) = some 2 := by decide +kernel
theorem zg_X1_wishFor {own : String} {idx : Nat} (h : Cond.methodLink own idx yX1_wishFor ∈ zWL) : GoodIn zWL (wsV own idx RX1 yX1_wishFor (.code yX1_wishFor cX1_wishFor 5 (some .int) :: zWL)) := zw_gv h zw2_162 zw2_163 zw1_2 zw2_164
theorem zv_X2_prepare : yX2_prepare.cls = RX2 ∧ yX2_prepare.cls ≠ "java/lang/invoke/MethodHandle" ∧ yX2_prepare.cls ≠ "java/lang/invoke/VarHandle" ∧ (parseMethodDescriptor yX2_prepare.desc).map (fun d => d.parameters.length) = some 1 := by decide +kernel
theorem zg_X2_prepare {own : String} {idx : Nat} (h : Cond.methodLink own idx yX2_prepare ∈ zWL) : GoodIn zWL (wsV own idx RX2 yX2_prepare (.code yX2_prepare cX2_prepare 2 none :: zWL)) := zw_gv h zw2_19 zw2_20 zw1_6 zw2_21
theorem zv_X2_restore : yX2_restore.cls = RX2 ∧ yX2_restore.cls ≠ "java/lang/invoke/MethodHandle" ∧ yX2_restore.cls ≠ "java/lang/invoke/VarHandle" ∧ (parseMethodDescriptor yX2_restore.desc).map (fun d => d.parameters.length) = some 1 := by decide +kernel
theorem zg_X2_restore {own : String} {idx : Nat} (h : Cond.methodLink own idx yX2_restore ∈ zWL) : GoodIn zWL (wsV own idx RX2 yX2_restore (.code yX2_restore cX2_restore 2 (some .int) :: zWL)) := zw_gv h zw3_125 zw3_126 zw1_6 zw3_127
theorem zv_X2_settle : yX2_settle.cls = RX2 ∧ yX2_settle.cls ≠ "java/lang/invoke/MethodHandle" ∧ yX2_settle.cls ≠ "java/lang/invoke/VarHandle" ∧ (parseMethodDescriptor yX2_settle.desc).map (fun d => d.parameters.length) = some 1 := by decide +kernel
theorem zg_X2_settle {own : String} {idx : Nat} (h : Cond.methodLink own idx yX2_settle ∈ zWL) : GoodIn zWL (wsV own idx RX2 yX2_settle (.code yX2_settle cX2_settle 2 (some .int) :: zWL)) := zw_gv h zw2_50 zw2_51 zw1_6 zw2_52
theorem zv_X2_slot : yX2_slot.cls = RX2 ∧ yX2_slot.cls ≠ "java/lang/invoke/MethodHandle" ∧ yX2_slot.cls ≠ "java/lang/invoke/VarHandle" ∧ (parseMethodDescriptor yX2_slot.desc).map (fun d => d.parameters.length) = some 1 := by decide +kernel
theorem zg_X2_slot {own : String} {idx : Nat} (h : Cond.methodLink own idx yX2_slot ∈ zWL) : GoodIn zWL (wsV own idx RX2 yX2_slot (.code yX2_slot cX2_slot 2 (some (.object "LockerChains$Hall")) :: zWL)) := zw_gv h zw2_24 zwp1_0 zw1_6 zw2_25
theorem zv_X3_add : yX3_add.cls = RX3 ∧ yX3_add.cls ≠ "java/lang/invoke/MethodHandle" ∧ yX3_add.cls ≠ "java/lang/invoke/VarHandle" ∧ (parseMethodDescriptor yX3_add.desc).map (fun d => d.parameters.length) = some 2 := by decide +kernel
theorem zg_X3_add {own : String} {idx : Nat} (h : Cond.methodLink own idx yX3_add ∈ zWL) : GoodIn zWL (wsV own idx RX3 yX3_add (.code yX3_add cX3_add 3 none :: zWL)) := zw_gv h zw2_118 zw2_119 zw1_3 zw2_120
theorem zv_X3_copyFrom : yX3_copyFrom.cls = RX3 ∧ yX3_copyFrom.cls ≠ "java/lang/invoke/MethodHandle" ∧ yX3_copyFrom.cls ≠ "java/lang/invoke/VarHandle" ∧ (parseMethodDescriptor yX3_copyFrom.desc).map (fun d => d.parameters.length) = some 1 := by decide +kernel
theorem zg_X3_copyFrom {own : String} {idx : Nat} (h : Cond.methodLink own idx yX3_copyFrom ∈ zWL) : GoodIn zWL (wsV own idx RX3 yX3_copyFrom (.code yX3_copyFrom cX3_copyFrom 3 none :: zWL)) := zw_gv h zw2_42 zw2_43 zw1_3 zw2_44
theorem zv_X3_firstFor : yX3_firstFor.cls = RX3 ∧ yX3_firstFor.cls ≠ "java/lang/invoke/MethodHandle" ∧ yX3_firstFor.cls ≠ "java/lang/invoke/VarHandle" ∧ (parseMethodDescriptor yX3_firstFor.desc).map (fun d => d.parameters.length) = some 1 := by decide +kernel
theorem zg_X3_firstFor {own : String} {idx : Nat} (h : Cond.methodLink own idx yX3_firstFor ∈ zWL) : GoodIn zWL (wsV own idx RX3 yX3_firstFor (.code yX3_firstFor cX3_firstFor 3 (some .int) :: zWL)) := zw_gv h zw2_82 zw2_83 zw1_3 zw2_84
theorem zv_X3_personAt : yX3_personAt.cls = RX3 ∧ yX3_personAt.cls ≠ "java/lang/invoke/MethodHandle" ∧ yX3_personAt.cls ≠ "java/lang/invoke/VarHandle" ∧ (parseMethodDescriptor yX3_personAt.desc).map (fun d => d.parameters.length) = some 1 := by decide +kernel
theorem zg_X3_personAt {own : String} {idx : Nat} (h : Cond.methodLink own idx yX3_personAt ∈ zWL) : GoodIn zWL (wsV own idx RX3 yX3_personAt (.code yX3_personAt cX3_personAt 2 (some .int) :: zWL)) := zw_gv h zw2_190 zw2_191 zw1_3 zw2_192
theorem zv_X3_placeOf : yX3_placeOf.cls = RX3 ∧ yX3_placeOf.cls ≠ "java/lang/invoke/MethodHandle" ∧ yX3_placeOf.cls ≠ "java/lang/invoke/VarHandle" ∧ (parseMethodDescriptor yX3_placeOf.desc).map (fun d => d.parameters.length) = some 1 := by decide +kernel
theorem zg_X3_placeOf {own : String} {idx : Nat} (h : Cond.methodLink own idx yX3_placeOf ∈ zWL) : GoodIn zWL (wsV own idx RX3 yX3_placeOf (.code yX3_placeOf cX3_placeOf 3 (some .int) :: zWL)) := zw_gv h zw2_110 zw2_111 zw1_3 zw2_112
theorem zv_X3_remove : yX3_remove.cls = RX3 ∧ yX3_remove.cls ≠ "java/lang/invoke/MethodHandle" ∧ yX3_remove.cls ≠ "java/lang/invoke/VarHandle" ∧ (parseMethodDescriptor yX3_remove.desc).map (fun d => d.parameters.length) = some 1 := by decide +kernel
theorem zg_X3_remove {own : String} {idx : Nat} (h : Cond.methodLink own idx yX3_remove ∈ zWL) : GoodIn zWL (wsV own idx RX3 yX3_remove (.code yX3_remove cX3_remove 4 none :: zWL)) := zw_gv h zw2_94 zw2_95 zw1_3 zw2_96
theorem zv_X3_sizeAt : yX3_sizeAt.cls = RX3 ∧ yX3_sizeAt.cls ≠ "java/lang/invoke/MethodHandle" ∧ yX3_sizeAt.cls ≠ "java/lang/invoke/VarHandle" ∧ (parseMethodDescriptor yX3_sizeAt.desc).map (fun d => d.parameters.length) = some 1 := by decide +kernel
theorem zg_X3_sizeAt {own : String} {idx : Nat} (h : Cond.methodLink own idx yX3_sizeAt ∈ zWL) : GoodIn zWL (wsV own idx RX3 yX3_sizeAt (.code yX3_sizeAt cX3_sizeAt 2 (some .int) :: zWL)) := zw_gv h zw2_194 zw2_195 zw1_3 zw2_196
theorem zv_X3_sizeOf : yX3_sizeOf.cls = RX3 ∧ yX3_sizeOf.cls ≠ "java/lang/invoke/MethodHandle" ∧ yX3_sizeOf.cls ≠ "java/lang/invoke/VarHandle" ∧ (parseMethodDescriptor yX3_sizeOf.desc).map (fun d => d.parameters.length) = some 1 := by decide +kernel
theorem zg_X3_sizeOf {own : String} {idx : Nat} (h : Cond.methodLink own idx yX3_sizeOf ∈ zWL) : GoodIn zWL (wsV own idx RX3 yX3_sizeOf (.code yX3_sizeOf cX3_sizeOf 3 (some .int) :: zWL)) := zw_gv h zw2_174 zw2_175 zw1_3 zw2_176
theorem zv_X4_copyFrom : yX4_copyFrom.cls = RX4 ∧ yX4_copyFrom.cls ≠ "java/lang/invoke/MethodHandle" ∧ yX4_copyFrom.cls ≠ "java/lang/invoke/VarHandle" ∧ (parseMethodDescriptor yX4_copyFrom.desc).map (fun d => d.parameters.length) = some 1 := by decide +kernel
theorem zg_X4_copyFrom {own : String} {idx : Nat} (h : Cond.methodLink own idx yX4_copyFrom ∈ zWL) : GoodIn zWL (wsV own idx RX4 yX4_copyFrom (.code yX4_copyFrom cX4_copyFrom 2 none :: zWL)) := zw_gv h zw2_34 zw2_35 zw1_4 zw2_36
theorem zv_X4_isFree : yX4_isFree.cls = RX4 ∧ yX4_isFree.cls ≠ "java/lang/invoke/MethodHandle" ∧ yX4_isFree.cls ≠ "java/lang/invoke/VarHandle" ∧ (parseMethodDescriptor yX4_isFree.desc).map (fun d => d.parameters.length) = some 0 := by decide +kernel
theorem zg_X4_isFree {own : String} {idx : Nat} (h : Cond.methodLink own idx yX4_isFree ∈ zWL) : GoodIn zWL (wsV own idx RX4 yX4_isFree (.code yX4_isFree cX4_isFree 1 (some .boolean) :: zWL)) := zw_gv h zw2_90 zw2_91 zw1_4 zw2_92
theorem zv_X5_copyFrom : yX5_copyFrom.cls = RX5 ∧ yX5_copyFrom.cls ≠ "java/lang/invoke/MethodHandle" ∧ yX5_copyFrom.cls ≠ "java/lang/invoke/VarHandle" ∧ (parseMethodDescriptor yX5_copyFrom.desc).map (fun d => d.parameters.length) = some 1 := by decide +kernel
theorem zg_X5_copyFrom {own : String} {idx : Nat} (h : Cond.methodLink own idx yX5_copyFrom ∈ zWL) : GoodIn zWL (wsV own idx RX5 yX5_copyFrom (.code yX5_copyFrom cX5_copyFrom 2 none :: zWL)) := zw_gv h zw2_38 zw2_39 zw1_5 zw2_40
theorem zv_X5_overdueOn : yX5_overdueOn.cls = RX5 ∧ yX5_overdueOn.cls ≠ "java/lang/invoke/MethodHandle" ∧ yX5_overdueOn.cls ≠ "java/lang/invoke/VarHandle" ∧ (parseMethodDescriptor yX5_overdueOn.desc).map (fun d => d.parameters.length) = some 1 := by decide +kernel
theorem zg_X5_overdueOn {own : String} {idx : Nat} (h : Cond.methodLink own idx yX5_overdueOn ∈ zWL) : GoodIn zWL (wsV own idx RX5 yX5_overdueOn (.code yX5_overdueOn cX5_overdueOn 2 (some .int) :: zWL)) := zw_gv h zw2_130 zw2_131 zw1_5 zw2_132
theorem zv_X6_feeOf : yX6_feeOf.cls = RX6 ∧ yX6_feeOf.cls ≠ "java/lang/invoke/MethodHandle" ∧ yX6_feeOf.cls ≠ "java/lang/invoke/VarHandle" ∧ (parseMethodDescriptor yX6_feeOf.desc).map (fun d => d.parameters.length) = some 3 := by decide +kernel
theorem zg_X6_feeOf {own : String} {idx : Nat} (h : Cond.methodLink own idx yX6_feeOf ∈ zWL) : GoodIn zWL (wsV own idx RX6 yX6_feeOf (.code yX6_feeOf cX6_feeOf 6 (some .int) :: zWL)) := zw_gv h zw3_80 zw3_81 zw1_8 zw3_82
theorem zv_X6_lockerBehindSwapping : yX6_lockerBehindSwapping.cls = RX6 ∧ yX6_lockerBehindSwapping.cls ≠ "java/lang/invoke/MethodHandle" ∧ yX6_lockerBehindSwapping.cls ≠ "java/lang/invoke/VarHandle" ∧ (parseMethodDescriptor yX6_lockerBehindSwapping.desc).map (fun d => d.parameters.length) = some 2 := by decide +kernel
theorem zg_X6_lockerBehindSwapping {own : String} {idx : Nat} (h : Cond.methodLink own idx yX6_lockerBehindSwapping ∈ zWL) : GoodIn zWL (wsV own idx RX6 yX6_lockerBehindSwapping (.code yX6_lockerBehindSwapping cX6_lockerBehindSwapping 3 (some .int) :: zWL)) := zw_gv h zw3_91 zw3_92 zw1_8 zw3_93
theorem zv_X7_append : yX7_append.cls = RX7 ∧ yX7_append.cls ≠ "java/lang/invoke/MethodHandle" ∧ yX7_append.cls ≠ "java/lang/invoke/VarHandle" ∧ (parseMethodDescriptor yX7_append.desc).map (fun d => d.parameters.length) = some 1 := by decide +kernel
theorem zg_X7_append {own : String} {idx : Nat} (h : Cond.methodLink own idx yX7_append ∈ zWL) : GoodIn zWL (wsV own idx RX7 yX7_append (.code yX7_append cX7_append 2 (some .int) :: zWL)) := zw_gv h zw3_133 zw3_134 zw1_7 zw3_135
theorem zv_X7_clear : yX7_clear.cls = RX7 ∧ yX7_clear.cls ≠ "java/lang/invoke/MethodHandle" ∧ yX7_clear.cls ≠ "java/lang/invoke/VarHandle" ∧ (parseMethodDescriptor yX7_clear.desc).map (fun d => d.parameters.length) = some 0 := by decide +kernel
theorem zg_X7_clear {own : String} {idx : Nat} (h : Cond.methodLink own idx yX7_clear ∈ zWL) : GoodIn zWL (wsV own idx RX7 yX7_clear (.code yX7_clear cX7_clear 2 (some .int) :: zWL)) := zw_gv h zw3_141 zw3_142 zw1_7 zw3_143
theorem zv_X7_signAt : yX7_signAt.cls = RX7 ∧ yX7_signAt.cls ≠ "java/lang/invoke/MethodHandle" ∧ yX7_signAt.cls ≠ "java/lang/invoke/VarHandle" ∧ (parseMethodDescriptor yX7_signAt.desc).map (fun d => d.parameters.length) = some 1 := by decide +kernel
theorem zg_X7_signAt {own : String} {idx : Nat} (h : Cond.methodLink own idx yX7_signAt ∈ zWL) : GoodIn zWL (wsV own idx RX7 yX7_signAt (.code yX7_signAt cX7_signAt 2 (some .char) :: zWL)) := zw_gv h zw3_178 zwp2_7 zw1_7 zw3_179
