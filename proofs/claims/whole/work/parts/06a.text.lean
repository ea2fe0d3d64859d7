theorem zw1_13 : Cond.initialized RJ0 ∈ zWL := zw_in (zw_1 (List.mem_of_getElem? (i := 13) (by decide +kernel))) rfl
theorem zw1_14 : Cond.initialized RJ1 ∈ zWL := zw_in (zw_1 (List.mem_of_getElem? (i := 14) (by decide +kernel))) rfl
theorem zw1_15 : Cond.initialized RJ3 ∈ zWL := zw_in (zw_1 (List.mem_of_getElem? (i := 15) (by decide +kernel))) rfl
theorem zw1_190 : Cond.fieldLink RX7 23 "LockerChains$Text" "verb" "LLockerChains$Verb;" ∈ zWL := zw_in (zw_1 (List.mem_of_getElem? (i := 190) (by decide +kernel))) rfl
theorem zw1_192 : Cond.fieldLink RX7 47 "LockerChains$Text" "first" "I" ∈ zWL := zw_in (zw_1 (List.mem_of_getElem? (i := 192) (by decide +kernel))) rfl
theorem zw1_195 : Cond.fieldLink RX7 50 "LockerChains$Text" "second" "I" ∈ zWL := zw_in (zw_1 (List.mem_of_getElem? (i := 195) (by decide +kernel))) rfl
theorem zw1_228 : Cond.fieldLink RX6 46 "LockerChains$Rehearsal" "commands" "I" ∈ zWL := zw_in (zw_1 (List.mem_of_getElem? (i := 228) (by decide +kernel))) rfl
theorem zw3_148 : Cond.methodLink RX9 152 yX6_playText ∈ zWL := zw_in (zw_3 (List.mem_of_getElem? (i := 148) (by decide +kernel))) rfl
theorem zw3_149 : Cond.instanceMethod yX6_playText ∈ zWL := zw_in (zw_3 (List.mem_of_getElem? (i := 149) (by decide +kernel))) rfl
theorem zw3_150 : Cond.selects RX6 yX6_playText yX6_playText ∈ zWL := zw_in (zw_3 (List.mem_of_getElem? (i := 150) (by decide +kernel))) rfl
theorem zw3_151 : Cond.code yX6_playText cX6_playText 6 none ∈ zWL := zw_in (zw_3 (List.mem_of_getElem? (i := 151) (by decide +kernel))) rfl
theorem zw3_152 : Cond.methodLink RX6 54 yX7_readCommand ∈ zWL := zw_in (zw_3 (List.mem_of_getElem? (i := 152) (by decide +kernel))) rfl
theorem zw3_153 : Cond.instanceMethod yX7_readCommand ∈ zWL := zw_in (zw_3 (List.mem_of_getElem? (i := 153) (by decide +kernel))) rfl
theorem zw3_154 : Cond.selects RX7 yX7_readCommand yX7_readCommand ∈ zWL := zw_in (zw_3 (List.mem_of_getElem? (i := 154) (by decide +kernel))) rfl
theorem zw3_155 : Cond.code yX7_readCommand cX7_readCommand 2 (some .boolean) ∈ zWL := zw_in (zw_3 (List.mem_of_getElem? (i := 155) (by decide +kernel))) rfl
theorem zw3_156 : Cond.methodLink RX7 19 yX7_verbAt ∈ zWL := zw_in (zw_3 (List.mem_of_getElem? (i := 156) (by decide +kernel))) rfl
theorem zw3_158 : Cond.instanceMethod yX7_verbAt ∈ zWL := zw_in (zw_3 (List.mem_of_getElem? (i := 158) (by decide +kernel))) rfl
theorem zw3_159 : Cond.code yX7_verbAt cX7_verbAt 3 (some (.object "LockerChains$Verb")) ∈ zWL := zw_in (zw_3 (List.mem_of_getElem? (i := 159) (by decide +kernel))) rfl
theorem zw3_160 : Cond.fieldLink RX7 57 "LockerChains$Text" "VERBS" "[LLockerChains$Verb;" ∈ zWL := zw_in (zw_3 (List.mem_of_getElem? (i := 160) (by decide +kernel))) rfl
theorem zw3_162 : Cond.methodLink RX7 61 yX7_hasWordAt ∈ zWL := zw_in (zw_3 (List.mem_of_getElem? (i := 162) (by decide +kernel))) rfl
theorem zw3_164 : Cond.instanceMethod yX7_hasWordAt ∈ zWL := zw_in (zw_3 (List.mem_of_getElem? (i := 164) (by decide +kernel))) rfl
theorem zw3_165 : Cond.code yX7_hasWordAt cX7_hasWordAt 4 (some .boolean) ∈ zWL := zw_in (zw_3 (List.mem_of_getElem? (i := 165) (by decide +kernel))) rfl
theorem zw3_166 : Cond.methodLink RX7 33 yJ0_length_8abf5 ∈ zWL := zw_in (zw_3 (List.mem_of_getElem? (i := 166) (by decide +kernel))) rfl
theorem zw3_167 : Cond.instanceMethod yJ0_length_8abf5 ∈ zWL := zw_in (zw_3 (List.mem_of_getElem? (i := 167) (by decide +kernel))) rfl
theorem zw3_168 : Cond.selects RJ0 yJ0_length_8abf5 yJ0_length_8abf5 ∈ zWL := zw_in (zw_3 (List.mem_of_getElem? (i := 168) (by decide +kernel))) rfl
theorem zw3_169 : Cond.code yJ0_length_8abf5 cJ0_length_8abf5 1 (some .int) ∈ zWL := zw_in (zw_3 (List.mem_of_getElem? (i := 169) (by decide +kernel))) rfl
theorem zw3_170 : Cond.methodLink RJ0 335 yJ0_coder_7d493 ∈ zWL := zw_in (zw_3 (List.mem_of_getElem? (i := 170) (by decide +kernel))) rfl
theorem zw3_171 : Cond.instanceMethod yJ0_coder_7d493 ∈ zWL := zw_in (zw_3 (List.mem_of_getElem? (i := 171) (by decide +kernel))) rfl
theorem zw3_172 : Cond.selects RJ0 yJ0_coder_7d493 yJ0_coder_7d493 ∈ zWL := zw_in (zw_3 (List.mem_of_getElem? (i := 172) (by decide +kernel))) rfl
theorem zw3_173 : Cond.code yJ0_coder_7d493 cJ0_coder_7d493 1 (some .byte) ∈ zWL := zw_in (zw_3 (List.mem_of_getElem? (i := 173) (by decide +kernel))) rfl
theorem zw3_174 : Cond.fieldLink RJ0 38 "java/lang/String" "COMPACT_STRINGS" "Z" ∈ zWL := zw_in (zw_3 (List.mem_of_getElem? (i := 174) (by decide +kernel))) rfl
theorem zw3_180 : Cond.methodLink RX7 65 yJ0_charAt_5068e ∈ zWL := zw_in (zw_3 (List.mem_of_getElem? (i := 180) (by decide +kernel))) rfl
theorem zw3_181 : Cond.instanceMethod yJ0_charAt_5068e ∈ zWL := zw_in (zw_3 (List.mem_of_getElem? (i := 181) (by decide +kernel))) rfl
theorem zw3_182 : Cond.selects RJ0 yJ0_charAt_5068e yJ0_charAt_5068e ∈ zWL := zw_in (zw_3 (List.mem_of_getElem? (i := 182) (by decide +kernel))) rfl
theorem zw3_183 : Cond.code yJ0_charAt_5068e cJ0_charAt_5068e 2 (some .char) ∈ zWL := zw_in (zw_3 (List.mem_of_getElem? (i := 183) (by decide +kernel))) rfl
theorem zw3_184 : Cond.methodLink RJ0 492 yJ0_isLatin1_aae02 ∈ zWL := zw_in (zw_3 (List.mem_of_getElem? (i := 184) (by decide +kernel))) rfl
theorem zw3_185 : Cond.instanceMethod yJ0_isLatin1_aae02 ∈ zWL := zw_in (zw_3 (List.mem_of_getElem? (i := 185) (by decide +kernel))) rfl
theorem zw3_186 : Cond.selects RJ0 yJ0_isLatin1_aae02 yJ0_isLatin1_aae02 ∈ zWL := zw_in (zw_3 (List.mem_of_getElem? (i := 186) (by decide +kernel))) rfl
theorem zw3_187 : Cond.code yJ0_isLatin1_aae02 cJ0_isLatin1_aae02 1 (some .boolean) ∈ zWL := zw_in (zw_3 (List.mem_of_getElem? (i := 187) (by decide +kernel))) rfl
theorem zw3_188 : Cond.methodLink RJ0 495 yJ1_charAt_3b067 ∈ zWL := zw_in (zw_3 (List.mem_of_getElem? (i := 188) (by decide +kernel))) rfl
theorem zw3_189 : Cond.static yJ1_charAt_3b067 ∈ zWL := zw_in (zw_3 (List.mem_of_getElem? (i := 189) (by decide +kernel))) rfl
theorem zw3_190 : Cond.code yJ1_charAt_3b067 cJ1_charAt_3b067 2 (some .char) ∈ zWL := zw_in (zw_3 (List.mem_of_getElem? (i := 190) (by decide +kernel))) rfl
theorem zw3_191 : Cond.methodLink RJ1 9 yJ0_checkIndex_df160 ∈ zWL := zw_in (zw_3 (List.mem_of_getElem? (i := 191) (by decide +kernel))) rfl
theorem zw3_192 : Cond.static yJ0_checkIndex_df160 ∈ zWL := zw_in (zw_3 (List.mem_of_getElem? (i := 192) (by decide +kernel))) rfl
theorem zw3_193 : Cond.code yJ0_checkIndex_df160 cJ0_checkIndex_df160 2 none ∈ zWL := zw_in (zw_3 (List.mem_of_getElem? (i := 193) (by decide +kernel))) rfl
theorem zw3_194 : Cond.fieldLink RJ0 1053 "jdk/internal/util/Preconditions" "SIOOBE_FORMATTER" "Ljava/util/function/BiFunction;" ∈ zWL := zw_in (zw_3 (List.mem_of_getElem? (i := 194) (by decide +kernel))) rfl
theorem zw3_196 : Cond.methodLink RJ0 1059 yJ3_checkIndex_8e157 ∈ zWL := zw_in (zw_3 (List.mem_of_getElem? (i := 196) (by decide +kernel))) rfl
theorem zw3_197 : Cond.static yJ3_checkIndex_8e157 ∈ zWL := zw_in (zw_3 (List.mem_of_getElem? (i := 197) (by decide +kernel))) rfl
theorem zw3_198 : Cond.code yJ3_checkIndex_8e157 cJ3_checkIndex_8e157 3 (some .int) ∈ zWL := zw_in (zw_3 (List.mem_of_getElem? (i := 198) (by decide +kernel))) rfl
theorem zw3_218 : Cond.methodLink RX7 44 yX7_readNumber ∈ zWL := zw_in (zw_3 (List.mem_of_getElem? (i := 218) (by decide +kernel))) rfl
theorem zw3_220 : Cond.instanceMethod yX7_readNumber ∈ zWL := zw_in (zw_3 (List.mem_of_getElem? (i := 220) (by decide +kernel))) rfl
theorem zw3_221 : Cond.code yX7_readNumber cX7_readNumber 3 (some .int) ∈ zWL := zw_in (zw_3 (List.mem_of_getElem? (i := 221) (by decide +kernel))) rfl
theorem zw3_222 : Cond.methodLink RX6 58 yX6_noteFault ∈ zWL := zw_in (zw_3 (List.mem_of_getElem? (i := 222) (by decide +kernel))) rfl
theorem zw3_224 : Cond.instanceMethod yX6_noteFault ∈ zWL := zw_in (zw_3 (List.mem_of_getElem? (i := 224) (by decide +kernel))) rfl
theorem zw3_225 : Cond.code yX6_noteFault cX6_noteFault 4 none ∈ zWL := zw_in (zw_3 (List.mem_of_getElem? (i := 225) (by decide +kernel))) rfl
theorem zw3_226 : Cond.methodLink RX6 72 yX6_obey ∈ zWL := zw_in (zw_3 (List.mem_of_getElem? (i := 226) (by decide +kernel))) rfl
theorem zw3_228 : Cond.instanceMethod yX6_obey ∈ zWL := zw_in (zw_3 (List.mem_of_getElem? (i := 228) (by decide +kernel))) rfl
theorem zw3_229 : Cond.code yX6_obey cX6_obey 4 (some .int) ∈ zWL := zw_in (zw_3 (List.mem_of_getElem? (i := 229) (by decide +kernel))) rfl
theorem zw3_230 : Cond.fieldLink RX6 85 "LockerChains$1" "$SwitchMap$LockerChains$Verb" "[I" ∈ zWL := zw_in (zw_3 (List.mem_of_getElem? (i := 230) (by decide +kernel))) rfl
theorem zw3_232 : Cond.methodLink "LockerChains$Rehearsal" 91 ⟨"LockerChains$Verb", "ordinal", "()I"⟩ ∈ zWL := zw_in (zw_3 (List.mem_of_getElem? (i := 232) (by decide +kernel))) rfl
theorem zw3_233 : Cond.sameMethod "LockerChains$Verb" "java/lang/Enum" "ordinal" "()I" ∈ zWL := zw_in (zw_3 (List.mem_of_getElem? (i := 233) (by decide +kernel))) rfl
theorem zw3_235 : Cond.selects "LockerChains$Verb" ⟨"LockerChains$Verb", "ordinal", "()I"⟩ yJx29ce0_ordinal_8abf5 ∈ zWL := zw_in (zw_3 (List.mem_of_getElem? (i := 235) (by decide +kernel))) rfl
theorem zw3_236 : Cond.instanceMethod yJx29ce0_ordinal_8abf5 ∈ zWL := zw_in (zw_3 (List.mem_of_getElem? (i := 236) (by decide +kernel))) rfl
theorem zw3_237 : Cond.code yJx29ce0_ordinal_8abf5 cJx29ce0_ordinal_8abf5 1 (some .int) ∈ zWL := zw_in (zw_3 (List.mem_of_getElem? (i := 237) (by decide +kernel))) rfl
theorem zw3_238 : Cond.methodLink RX6 96 yX1_lendTo ∈ zWL := zw_in (zw_3 (List.mem_of_getElem? (i := 238) (by decide +kernel))) rfl
theorem zw3_239 : Cond.methodLink RX6 99 yX1_takeBack ∈ zWL := zw_in (zw_3 (List.mem_of_getElem? (i := 239) (by decide +kernel))) rfl
theorem zw4_0 : Cond.methodLink RX6 103 yX1_prolong ∈ zWL := zw_in (zw_4 (List.mem_of_getElem? (i := 0) (by decide +kernel))) rfl
theorem zw4_1 : Cond.methodLink RX6 106 yX1_loseKey ∈ zWL := zw_in (zw_4 (List.mem_of_getElem? (i := 1) (by decide +kernel))) rfl
theorem zw4_12 : Cond.methodLink RX9 172 yX1_copyFrom ∈ zWL := zw_in (zw_4 (List.mem_of_getElem? (i := 12) (by decide +kernel))) rfl
theorem zw4_2 : Cond.methodLink RX6 109 yX1_wishFor ∈ zWL := zw_in (zw_4 (List.mem_of_getElem? (i := 2) (by decide +kernel))) rfl
theorem zw4_3 : Cond.methodLink RX6 112 yX1_payCoins ∈ zWL := zw_in (zw_4 (List.mem_of_getElem? (i := 3) (by decide +kernel))) rfl
theorem zw4_4 : Cond.methodLink RX9 156 yX6_failed ∈ zWL := zw_in (zw_4 (List.mem_of_getElem? (i := 4) (by decide +kernel))) rfl
theorem zw4_5 : Cond.instanceMethod yX6_failed ∈ zWL := zw_in (zw_4 (List.mem_of_getElem? (i := 5) (by decide +kernel))) rfl
theorem zw4_6 : Cond.selects RX6 yX6_failed yX6_failed ∈ zWL := zw_in (zw_4 (List.mem_of_getElem? (i := 6) (by decide +kernel))) rfl
theorem zw4_7 : Cond.code yX6_failed cX6_failed 1 (some .boolean) ∈ zWL := zw_in (zw_4 (List.mem_of_getElem? (i := 7) (by decide +kernel))) rfl
theorem zw5_184 : Cond.fieldLink RJ0 9 "java/lang/String" "value" "[B" ∈ zWL := zw_in (zw_5 (List.mem_of_getElem? (i := 184) (by decide +kernel))) rfl
theorem zw5_185 : Cond.fieldLink RJ0 15 "java/lang/String" "coder" "B" ∈ zWL := zw_in (zw_5 (List.mem_of_getElem? (i := 185) (by decide +kernel))) rfl
theorem zw5_187 : Cond.fieldLink RJx29ce0 7 "java/lang/Enum" "ordinal" "I" ∈ zWL := zw_in (zw_5 (List.mem_of_getElem? (i := 187) (by decide +kernel))) rfl
theorem zwp2_10 : Cond.selects RX6 yX6_obey yX6_obey ∈ zWL := zw_in (zw_p (y := yX6_obey) (n := 5) (show (yX6_obey, 5) ∈ lw_privs_1 ++ (lw_privs_2 ++ (lw_privs_3 ++ (lw_privs_4 ++ (lw_privs_5 ++ (lw_privs_6))))) from List.mem_append_right _ (List.mem_append_left _ (List.mem_of_getElem? (i := 10) (by decide +kernel))))) (by decide +kernel)
theorem zwp2_5 : Cond.selects RX7 yX7_verbAt yX7_verbAt ∈ zWL := zw_in (zw_p (y := yX7_verbAt) (n := 6) (show (yX7_verbAt, 6) ∈ lw_privs_1 ++ (lw_privs_2 ++ (lw_privs_3 ++ (lw_privs_4 ++ (lw_privs_5 ++ (lw_privs_6))))) from List.mem_append_right _ (List.mem_append_left _ (List.mem_of_getElem? (i := 5) (by decide +kernel))))) (by decide +kernel)
theorem zwp2_6 : Cond.selects RX7 yX7_hasWordAt yX7_hasWordAt ∈ zWL := zw_in (zw_p (y := yX7_hasWordAt) (n := 6) (show (yX7_hasWordAt, 6) ∈ lw_privs_1 ++ (lw_privs_2 ++ (lw_privs_3 ++ (lw_privs_4 ++ (lw_privs_5 ++ (lw_privs_6))))) from List.mem_append_right _ (List.mem_append_left _ (List.mem_of_getElem? (i := 6) (by decide +kernel))))) (by decide +kernel)
theorem zwp2_8 : Cond.selects RX7 yX7_readNumber yX7_readNumber ∈ zWL := zw_in (zw_p (y := yX7_readNumber) (n := 6) (show (yX7_readNumber, 6) ∈ lw_privs_1 ++ (lw_privs_2 ++ (lw_privs_3 ++ (lw_privs_4 ++ (lw_privs_5 ++ (lw_privs_6))))) from List.mem_append_right _ (List.mem_append_left _ (List.mem_of_getElem? (i := 8) (by decide +kernel))))) (by decide +kernel)
theorem zwp2_9 : Cond.selects RX6 yX6_noteFault yX6_noteFault ∈ zWL := zw_in (zw_p (y := yX6_noteFault) (n := 5) (show (yX6_noteFault, 5) ∈ lw_privs_1 ++ (lw_privs_2 ++ (lw_privs_3 ++ (lw_privs_4 ++ (lw_privs_5 ++ (lw_privs_6))))) from List.mem_append_right _ (List.mem_append_left _ (List.mem_of_getElem? (i := 9) (by decide +kernel))))) (by decide +kernel)
theorem zv_J0_charAt_5068e : yJ0_charAt_5068e.cls = RJ0 ∧ yJ0_charAt_5068e.cls ≠ "java/lang/invoke/MethodHandle" ∧ yJ0_charAt_5068e.cls ≠ "java/lang/invoke/VarHandle" ∧ (parseMethodDescriptor yJ0_charAt_5068e.desc).map (fun d => d.parameters.length) = some 1 := by decide +kernel
theorem zg_J0_charAt_5068e {own : String} {idx : Nat} (h : Cond.methodLink own idx yJ0_charAt_5068e ∈ zWL) : GoodIn zWL (wsV own idx RJ0 yJ0_charAt_5068e (.code yJ0_charAt_5068e cJ0_charAt_5068e 2 (some .char) :: zWL)) := zw_gv h zw3_181 zw3_182 zw1_13 zw3_183
theorem zy_J0_checkIndex_df160 : yJ0_checkIndex_df160.cls ≠ "java/lang/invoke/MethodHandle" ∧ yJ0_checkIndex_df160.cls ≠ "java/lang/invoke/VarHandle" ∧ (parseMethodDescriptor yJ0_checkIndex_df160.desc).map (fun d => d.parameters.length) = some 2 := by decide +kernel
theorem zg_J0_checkIndex_df160 {own : String} {idx : Nat} (h : Cond.methodLink own idx yJ0_checkIndex_df160 ∈ zWL) : GoodIn zWL (va_wsS own idx yJ0_checkIndex_df160 (.code yJ0_checkIndex_df160 cJ0_checkIndex_df160 2 none :: zWL)) := zw_gs h zw3_192 zw1_13 zw3_193
theorem zv_J0_coder_7d493 : yJ0_coder_7d493.cls = RJ0 ∧ yJ0_coder_7d493.cls ≠ "java/lang/invoke/MethodHandle" ∧ yJ0_coder_7d493.cls ≠ "java/lang/invoke/VarHandle" ∧ (parseMethodDescriptor yJ0_coder_7d493.desc).map (fun d => d.parameters.length) = some 0 := by decide +kernel
theorem zg_J0_coder_7d493 {own : String} {idx : Nat} (h : Cond.methodLink own idx yJ0_coder_7d493 ∈ zWL) : GoodIn zWL (wsV own idx RJ0 yJ0_coder_7d493 (.code yJ0_coder_7d493 cJ0_coder_7d493 1 (some .byte) :: zWL)) := zw_gv h zw3_171 zw3_172 zw1_13 zw3_173
theorem zv_J0_isLatin1_aae02 : yJ0_isLatin1_aae02.cls = RJ0 ∧ yJ0_isLatin1_aae02.cls ≠ "java/lang/invoke/MethodHandle" ∧ yJ0_isLatin1_aae02.cls ≠ "java/lang/invoke/VarHandle" ∧ (parseMethodDescriptor yJ0_isLatin1_aae02.desc).map (fun d => d.parameters.length) = some 0 := by decide +kernel
theorem zg_J0_isLatin1_aae02 {own : String} {idx : Nat} (h : Cond.methodLink own idx yJ0_isLatin1_aae02 ∈ zWL) : GoodIn zWL (wsV own idx RJ0 yJ0_isLatin1_aae02 (.code yJ0_isLatin1_aae02 cJ0_isLatin1_aae02 1 (some .boolean) :: zWL)) := zw_gv h zw3_185 zw3_186 zw1_13 zw3_187
theorem zv_J0_length_8abf5 : yJ0_length_8abf5.cls = RJ0 ∧ yJ0_length_8abf5.cls ≠ "java/lang/invoke/MethodHandle" ∧ yJ0_length_8abf5.cls ≠ "java/lang/invoke/VarHandle" ∧ (parseMethodDescriptor yJ0_length_8abf5.desc).map (fun d => d.parameters.length) = some 0 := by decide +kernel
theorem zg_J0_length_8abf5 {own : String} {idx : Nat} (h : Cond.methodLink own idx yJ0_length_8abf5 ∈ zWL) : GoodIn zWL (wsV own idx RJ0 yJ0_length_8abf5 (.code yJ0_length_8abf5 cJ0_length_8abf5 1 (some .int) :: zWL)) := zw_gv h zw3_167 zw3_168 zw1_13 zw3_169
theorem zy_J1_charAt_3b067 : yJ1_charAt_3b067.cls ≠ "java/lang/invoke/MethodHandle" ∧ yJ1_charAt_3b067.cls ≠ "java/lang/invoke/VarHandle" ∧ (parseMethodDescriptor yJ1_charAt_3b067.desc).map (fun d => d.parameters.length) = some 2 := by decide +kernel
theorem zg_J1_charAt_3b067 {own : String} {idx : Nat} (h : Cond.methodLink own idx yJ1_charAt_3b067 ∈ zWL) : GoodIn zWL (va_wsS own idx yJ1_charAt_3b067 (.code yJ1_charAt_3b067 cJ1_charAt_3b067 2 (some .char) :: zWL)) := zw_gs h zw3_189 zw1_14 zw3_190
theorem zy_J3_checkIndex_8e157 : yJ3_checkIndex_8e157.cls ≠ "java/lang/invoke/MethodHandle" ∧ yJ3_checkIndex_8e157.cls ≠ "java/lang/invoke/VarHandle" ∧ (parseMethodDescriptor yJ3_checkIndex_8e157.desc).map (fun d => d.parameters.length) = some 3 := by decide +kernel
theorem zg_J3_checkIndex_8e157 {own : String} {idx : Nat} (h : Cond.methodLink own idx yJ3_checkIndex_8e157 ∈ zWL) : GoodIn zWL (va_wsS own idx yJ3_checkIndex_8e157 (.code yJ3_checkIndex_8e157 cJ3_checkIndex_8e157 3 (some .int) :: zWL)) := zw_gs h zw3_197 zw1_15 zw3_198
theorem zv_X6_failed : yX6_failed.cls = RX6 ∧ yX6_failed.cls ≠ "java/lang/invoke/MethodHandle" ∧ yX6_failed.cls ≠ "java/lang/invoke/VarHandle" ∧ (parseMethodDescriptor yX6_failed.desc).map (fun d => d.parameters.length) = some 0 := by decide +kernel
theorem zg_X6_failed {own : String} {idx : Nat} (h : Cond.methodLink own idx yX6_failed ∈ zWL) : GoodIn zWL (wsV own idx RX6 yX6_failed (.code yX6_failed cX6_failed 1 (some .boolean) :: zWL)) := zw_gv h zw4_5 zw4_6 zw1_8 zw4_7
theorem zv_X6_noteFault : yX6_noteFault.cls = RX6 ∧ yX6_noteFault.cls ≠ "java/lang/invoke/MethodHandle" ∧ yX6_noteFault.cls ≠ "java/lang/invoke/VarHandle" ∧ (parseMethodDescriptor yX6_noteFault.desc).map (fun d => d.parameters.length) = some 3 := by decide +kernel
theorem zg_X6_noteFault {own : String} {idx : Nat} (h : Cond.methodLink own idx yX6_noteFault ∈ zWL) : GoodIn zWL (wsV own idx RX6 yX6_noteFault (.code yX6_noteFault cX6_noteFault 4 none :: zWL)) := zw_gv h zw3_224 zwp2_9 zw1_8 zw3_225
theorem zv_X6_obey : yX6_obey.cls = RX6 ∧ yX6_obey.cls ≠ "java/lang/invoke/MethodHandle" ∧ yX6_obey.cls ≠ "java/lang/invoke/VarHandle" ∧ (parseMethodDescriptor yX6_obey.desc).map (fun d => d.parameters.length) = some 3 := by decide +kernel
theorem zg_X6_obey {own : String} {idx : Nat} (h : Cond.methodLink own idx yX6_obey ∈ zWL) : GoodIn zWL (wsV own idx RX6 yX6_obey (.code yX6_obey cX6_obey 4 (some .int) :: zWL)) := zw_gv h zw3_228 zwp2_10 zw1_8 zw3_229
theorem zv_X6_playText : yX6_playText.cls = RX6 ∧ yX6_playText.cls ≠ "java/lang/invoke/MethodHandle" ∧ yX6_playText.cls ≠ "java/lang/invoke/VarHandle" ∧ (parseMethodDescriptor yX6_playText.desc).map (fun d => d.parameters.length) = some 2 := by decide +kernel
theorem zg_X6_playText {own : String} {idx : Nat} (h : Cond.methodLink own idx yX6_playText ∈ zWL) : GoodIn zWL (wsV own idx RX6 yX6_playText (.code yX6_playText cX6_playText 6 none :: zWL)) := zw_gv h zw3_149 zw3_150 zw1_8 zw3_151
theorem zv_X7_hasWordAt : yX7_hasWordAt.cls = RX7 ∧ yX7_hasWordAt.cls ≠ "java/lang/invoke/MethodHandle" ∧ yX7_hasWordAt.cls ≠ "java/lang/invoke/VarHandle" ∧ (parseMethodDescriptor yX7_hasWordAt.desc).map (fun d => d.parameters.length) = some 2 := by decide +kernel
theorem zg_X7_hasWordAt {own : String} {idx : Nat} (h : Cond.methodLink own idx yX7_hasWordAt ∈ zWL) : GoodIn zWL (wsV own idx RX7 yX7_hasWordAt (.code yX7_hasWordAt cX7_hasWordAt 4 (some .boolean) :: zWL)) := zw_gv h zw3_164 zwp2_6 zw1_7 zw3_165
theorem zv_X7_readCommand : yX7_readCommand.cls = RX7 ∧ yX7_readCommand.cls ≠ "java/lang/invoke/MethodHandle" ∧ yX7_readCommand.cls ≠ "java/lang/invoke/VarHandle" ∧ (parseMethodDescriptor yX7_readCommand.desc).map (fun d => d.parameters.length) = some 1 := by decide +kernel
theorem zg_X7_readCommand {own : String} {idx : Nat} (h : Cond.methodLink own idx yX7_readCommand ∈ zWL) : GoodIn zWL (wsV own idx RX7 yX7_readCommand (.code yX7_readCommand cX7_readCommand 2 (some .boolean) :: zWL)) := zw_gv h zw3_153 zw3_154 zw1_7 zw3_155
theorem zv_X7_readNumber : yX7_readNumber.cls = RX7 ∧ yX7_readNumber.cls ≠ "java/lang/invoke/MethodHandle" ∧ yX7_readNumber.cls ≠ "java/lang/invoke/VarHandle" ∧ (parseMethodDescriptor yX7_readNumber.desc).map (fun d => d.parameters.length) = some 0 := by decide +kernel
theorem zg_X7_readNumber {own : String} {idx : Nat} (h : Cond.methodLink own idx yX7_readNumber ∈ zWL) : GoodIn zWL (wsV own idx RX7 yX7_readNumber (.code yX7_readNumber cX7_readNumber 3 (some .int) :: zWL)) := zw_gv h zw3_220 zwp2_8 zw1_7 zw3_221
theorem zv_X7_verbAt : yX7_verbAt.cls = RX7 ∧ yX7_verbAt.cls ≠ "java/lang/invoke/MethodHandle" ∧ yX7_verbAt.cls ≠ "java/lang/invoke/VarHandle" ∧ (parseMethodDescriptor yX7_verbAt.desc).map (fun d => d.parameters.length) = some 1 := by decide +kernel
theorem zg_X7_verbAt {own : String} {idx : Nat} (h : Cond.methodLink own idx yX7_verbAt ∈ zWL) : GoodIn zWL (wsV own idx RX7 yX7_verbAt (.code yX7_verbAt cX7_verbAt 3 (some (.object "LockerChains$Verb")) :: zWL)) := zw_gv h zw3_158 zwp2_5 zw1_7 zw3_159
/-! the enum, its words, the constant tables -/
def wnum (v : Nat) : Int32 := match v with
  | 0 => 2
  | 1 => 1
  | 2 => 1
  | 3 => 1
  | 4 => 2
  | 5 => 0
  | 6 => 2
  | _ => 1
def wlen (v : Nat) : Nat := match v with
  | 0 => 4
  | 1 => 4
  | 2 => 5
  | 3 => 4
  | 4 => 4
  | 5 => 4
  | 6 => 3
  | _ => 4
def wbytes (v : Nat) : List Int32 := match v with
  | 0 => [108, 101, 110, 100]
  | 1 => [98, 97, 99, 107]
  | 2 => [114, 101, 110, 101, 119]
  | 3 => [108, 111, 115, 101]
  | 4 => [119, 105, 115, 104]
  | 5 => [115, 119, 97, 112]
  | 6 => [112, 97, 121]
  | _ => [112, 97, 115, 115]
def wbyt (v j : Nat) : Int32 := (wbytes v).getD j 0
def wswi (v : Nat) : Int32 := if v < 7 then nI (v + 1) else 0
def zVb (G : zG) : Prop :=
  (∀ v, v < 8 → ("LockerChains$Verb", gE G v) ∈ gO G ∧ ("LockerChains$Verb", "word", "Ljava/lang/String;", .ref (gE G (10 + v)), gE G v) ∈ gF G ∧ ("LockerChains$Verb", "numbers", "I", .int (wnum v), gE G v) ∈ gF G ∧ ("java/lang/Enum", "ordinal", "I", .int (nI v), gE G v) ∈ gF G ∧
    ("java/lang/String", gE G (10 + v)) ∈ gO G ∧ ("java/lang/String", "coder", "B", .int 0, gE G (10 + v)) ∈ gF G ∧ ("java/lang/String", "value", "[B", .ref (gE G (20 + v)), gE G (10 + v)) ∈ gF G ∧ (.byte, gE G (20 + v), wlen v, fun j => .int (wbyt v j)) ∈ gT G) ∧
  ("LockerChains$Text", "VERBS", "[LLockerChains$Verb;", .ref (gE G 8)) ∈ gZ G ∧ (.object "LockerChains$Verb", gE G 8, 8, fun j => .ref (gE G j)) ∈ gT G ∧
  ("LockerChains$1", "$SwitchMap$LockerChains$Verb", "[I", .ref (gE G 9)) ∈ gZ G ∧ (.int, gE G 9, 8, fun j => .int (wswi j)) ∈ gT G ∧
  ("java/lang/String", "COMPACT_STRINGS", "Z", .int 1) ∈ gZ G ∧ ∃ fm : Option Nat, ("jdk/internal/util/Preconditions", "SIOOBE_FORMATTER", "Ljava/util/function/BiFunction;", va_rf fm) ∈ gZ G
section ZTF
variable {G : zG} {A : Nat → Prop} {s : State} {H : Heap} {locs : List Loc}
theorem zs_vO (hK : zK G A s) (hG : zVb G) {v : Nat} (hv : v < 8) : va_O "LockerChains$Verb" (gE G v) A s s.heap := hK.2.2.2.2.1 _ (hG.1 v hv).1
theorem zs_word (hK : zK G A s) (hG : zVb G) {v : Nat} (hv : v < 8) : va_OF "LockerChains$Verb" "word" "Ljava/lang/String;" (.ref (gE G (10 + v))) (gE G v) A s s.heap := hK.2.2.2.2.2.1 _ (hG.1 v hv).2.1
theorem zs_numbers (hK : zK G A s) (hG : zVb G) {v : Nat} (hv : v < 8) : va_OF "LockerChains$Verb" "numbers" "I" (.int (wnum v)) (gE G v) A s s.heap := hK.2.2.2.2.2.1 _ (hG.1 v hv).2.2.1
theorem zs_ordinal (hK : zK G A s) (hG : zVb G) {v : Nat} (hv : v < 8) : va_OF "java/lang/Enum" "ordinal" "I" (.int (nI v)) (gE G v) A s s.heap := hK.2.2.2.2.2.1 _ (hG.1 v hv).2.2.2.1
theorem zs_sO (hK : zK G A s) (hG : zVb G) {v : Nat} (hv : v < 8) : va_O "java/lang/String" (gE G (10 + v)) A s s.heap := hK.2.2.2.2.1 _ (hG.1 v hv).2.2.2.2.1
theorem zs_coder (hK : zK G A s) (hG : zVb G) {v : Nat} (hv : v < 8) : va_OF "java/lang/String" "coder" "B" (.int 0) (gE G (10 + v)) A s s.heap := hK.2.2.2.2.2.1 _ (hG.1 v hv).2.2.2.2.2.1
theorem zs_value (hK : zK G A s) (hG : zVb G) {v : Nat} (hv : v < 8) : va_OF "java/lang/String" "value" "[B" (.ref (gE G (20 + v))) (gE G (10 + v)) A s s.heap := hK.2.2.2.2.2.1 _ (hG.1 v hv).2.2.2.2.2.2.1
theorem zs_bytes (hK : zK G A s) (hG : zVb G) {v : Nat} (hv : v < 8) : va_T .byte (gE G (20 + v)) (wlen v) (fun j => .int (wbyt v j)) A s s.heap := hK.2.2.2.2.2.2 _ (hG.1 v hv).2.2.2.2.2.2.2
theorem zs_VERBS (hK : zK G A s) (hG : zVb G) : va_Z "LockerChains$Text" "VERBS" "[LLockerChains$Verb;" (.ref (gE G 8)) A s s.heap := hK.2.2.2.1 _ hG.2.1
theorem zs_verbs (hK : zK G A s) (hG : zVb G) : va_T (.object "LockerChains$Verb") (gE G 8) 8 (fun j => .ref (gE G j)) A s s.heap := hK.2.2.2.2.2.2 _ hG.2.2.1
theorem zs_SWITCH (hK : zK G A s) (hG : zVb G) : va_Z "LockerChains$1" "$SwitchMap$LockerChains$Verb" "[I" (.ref (gE G 9)) A s s.heap := hK.2.2.2.1 _ hG.2.2.2.1
theorem zs_switch (hK : zK G A s) (hG : zVb G) : va_T .int (gE G 9) 8 (fun j => .int (wswi j)) A s s.heap := hK.2.2.2.2.2.2 _ hG.2.2.2.2.1
theorem zs_COMPACT (hK : zK G A s) (hG : zVb G) : va_Z "java/lang/String" "COMPACT_STRINGS" "Z" (.int 1) A s s.heap := hK.2.2.2.1 _ hG.2.2.2.2.2.1
theorem zs_recv {E : String} {t : Nat} (h : va_O E t A s s.heap) (hS : va_S A s.heap H locs) : ∃ cell : Cell, H[t]? = some cell ∧ cell.vm.isStatics = false ∧ s.vm.findClass E = some cell.cls := by
  obtain ⟨cell, h1, h2, h3, -⟩ := h.kept hS.2.1
  exact ⟨cell, h1, h2, h3⟩
end ZTF
theorem optm_split {β : Type} {o : Option Nat} {a : Option β} {f : Nat → Option β} {r : β} (h : optm o a f = some r) : (o = none ∧ a = some r) ∨ ∃ i, o = some i ∧ f i = some r := by
  cases o with
  | none => exact Or.inl ⟨rfl, h⟩
  | some i => exact Or.inr ⟨i, rfl, h⟩
def vopt (x : Int32) : Option Nat := if x = 0 then none else some (x.toNatClampNeg - 1)
theorem zverb_eq (G : zG) (x : Int32) : zverb G x = va_rf ((vopt x).map (gE G)) := by
  unfold zverb vopt
  by_cases h : x = 0 <;> simp [h, va_rf]
theorem vopt_some {v : Nat} (hv : v < 8) : vopt (nI (v + 1)) = some v := by
  match v, hv with
  | 0, _ => rfl
  | 1, _ => rfl
  | 2, _ => rfl
  | 3, _ => rfl
  | 4, _ => rfl
  | 5, _ => rfl
  | 6, _ => rfl
  | 7, _ => rfl
  | n + 8, h => exact absurd h (by omega)
theorem zverb_some (G : zG) {v : Nat} (hv : v < 8) : zverb G (nI (v + 1)) = .ref (gE G v) := by rw [zverb_eq, vopt_some hv]; rfl
section ZTR
variable {p : Program} {l : Launch} {e : Env} {R : Room} {s : State} {m : MethodId} {args : Array Value} {below : List Frame} {meth : Method} {c : Code} {H : Heap} {locs : List Loc} {cells slots : Nat} {Q : State → Prop}
variable {cc : ByteArray} {pc : Nat} {ls : Array Slot} {rest st0 : List Value} {G : zG} {V V' : zV3} {A : Nat → Prop}
theorem z_getFN (hx : p.tables.exec = Jvm.exec) (hb : c.code = cc) {o n d own host : String} {index t : Nat} {v : Value} (hK : zK G A s) (hE : va_OF o n d v t A s s.heap) (hS : va_S A s.heap H locs) (hown : s.vm.findClass own = some m.cls) (q : Nat) (hlink : zNF[q]? = some (own, index, o, n, d, host)) (hdg : decode cc pc = .ok (.getfield index, 3))
    (kk : W p l e R s m args below meth c H locs cells slots Q (F0 m (pc + 3) ls (v :: rest))) : W p l e R s m args below meth c H locs cells slots Q (F0 m pc ls (.ref t :: rest)) := by
  obtain ⟨cf, k, fi, f, cell, h1, h2, h3, h4, h5, h6⟩ := hE.kept hS.2.1
  exact va_Wgetf hx hb hown (va_Nw.use rfl (hK.2.2.1.1 _ (List.mem_of_getElem? hlink))) h1 h2 h3 h4 (v := v) h5 rfl rfl hdg kk
set_option maxHeartbeats 4000000 in
theorem z_ordinal (hx : p.tables.exec = Jvm.exec) (hb : c.code = cc) {nL : Nat} (hml : c.maxLocals = nL) {own : String} {index : Nat} {A : Nat → Prop} (hown : s.vm.findClass own = some m.cls) (h1 : (Cond.methodLink own index ⟨"LockerChains$Verb", "ordinal", "()I"⟩).before args s = true) (h2 : (Cond.sameMethod "LockerChains$Verb" "java/lang/Enum" "ordinal" "()I").before args s = true) (h3 : (Cond.selects "LockerChains$Verb" ⟨"LockerChains$Verb", "ordinal", "()I"⟩ yJx29ce0_ordinal_8abf5).before args s = true) (h4 : (Cond.instanceMethod yJx29ce0_ordinal_8abf5).before args s = true) (h6 : (Cond.code yJx29ce0_ordinal_8abf5 cJx29ce0_ordinal_8abf5 1 (some .int)).before args s = true) (h7 : (Cond.fieldLink "java/lang/Enum" 7 "java/lang/Enum" "ordinal" "I").before args s = true)
    (hK : zK G A s) (hG : zVb G) {v : Nat} (hv : v < 8) (hS : va_S A s.heap H locs) (hls : ls.size = nL) (hW : (rest.map fun v => v.category).sum ≤ 8) (hR1 : 1 ≤ R.frames) (hR2 : 8 + 12 ≤ R.locals) (hdg : decode cc pc = .ok (.invokevirtual index, 3))
    (kk : W p l e R s m args below meth c H locs cells slots Q (F0 m (pc + 3) ls (.int (nI v) :: rest))) : W p l e R s m args below meth c H locs cells slots Q (F0 m pc ls (.ref (gE G v) :: rest)) := by
  intro T hT X
  subst hb
  obtain ⟨cellR, hcR, hobR, hclR⟩ := zs_recv (zs_vO hK hG hv) hS
  obtain ⟨cf, kf, fi, fd, cellF, hi, hst, hcF, hknown, hslot, -⟩ := (zs_ordinal hK hG hv).kept hS.2.1
  obtain ⟨mk, methM, hnamed, hmethM, hstM, habM⟩ := Cond.instanceMethod_spec h4
  obtain ⟨methM', cM, hmM', hcM, hbM, hlM, hretM, hlockM, -, hsigM⟩ := Cond.code_spec hnamed h6
  cases hmethM.symm.trans hmM'
  obtain ⟨r0, r, hn, hrm, hstR, hsigR⟩ := va_Decl.of h4 h6
  obtain ⟨cn, ck, r1, hcn, hck, hni, hf, hn1⟩ := Cond.sameMethod_found h2
  cases hn.symm.trans hn1
  obtain ⟨c2, r2, m2, q1, q2, q3, q4, kP, hkP, hkPi⟩ := Cond.selects_spec h3
  cases hclR.symm.trans q1
  cases hf.symm.trans q2
  cases hnamed.symm.trans q3
  have hselP : selectMethod e.platform s.vm cellR.cls r0 = .method mk := by rw [Launch.admits_selectMethod X.admits]; exact q4
  have hlen : ([] : List Value).length = r.sig.parameters.length := by
    have e0 : parseMethodDescriptor "()I" = some ⟨[], some .int⟩ := by decide
    have e1 : parseMethodDescriptor "()I" = some r.sig := hsigR
    rw [e0] at e1
    rw [← Option.some.inj e1]
    rfl
  obtain ⟨vm₁, X₁, hstep₁⟩ := X.invokevirtualUp hx (owner := "java/lang/Enum") (x := ⟨"LockerChains$Verb", "ordinal", "()I"⟩) hown h1 h2 ⟨by decide, by decide⟩ hn hrm hstR (a := gE G v) (cell := cellR) (by rw [hT]; exact hcR)
    (fun z h => by rw [h] at hobR; cases hobR) hselP hmethM habM hkP hkPi (g := F0 m pc ls (.ref (gE G v) :: rest)) rfl (argsL := []) (rest := rest) hlen rfl hdg
  have hmT₁ : (T.setVm vm₁).vm.method? mk = some methM := by
    show vm₁.method? mk = some methM
    have := X₁.warmed.alike.method? (m := mk)
    exact this.trans hmethM
  have hplainT : (T.setVm vm₁).plainMethod mk := State.plainMethod.of_named (x := yJx29ce0_ordinal_8abf5) (by decide +kernel) (X₁.named hnamed) hmT₁
  have hAt₁ : At (T.setVm vm₁) (F0 m pc ls rest).method c below := X₁.here
  have hU := hAt₁.enter #[.ref (gE G v)] hmT₁ hcM hplainT
  rw [hlM] at hU
  have hfU : (((T.setVm vm₁).setTop (F0 m pc ls rest)).pushFrame (.java (entryFrame mk #[.ref (gE G v)] 1))).frames = .java (entryFrame mk #[.ref (gE G v)] 1) :: .java (F0 m pc ls rest) :: below := by
    rw [frames_entered (s := T.setVm vm₁) (g := F0 m pc ls rest) X₁.here.top, X₁.tail]
  have hback : ∀ vm, ((((T.setVm vm₁).setTop (F0 m pc ls rest)).pushFrame (.java (entryFrame mk #[.ref (gE G v)] 1))).setVm vm).setFrames (.java (F0 m pc ls rest) :: below) = (T.setVm vm).setTop (F0 m pc ls rest) := by
    intro vm
    have h := setFrames_entered (s := T.setVm vm) (g := F0 m pc ls rest) X.here.top (.java (entryFrame mk #[.ref (gE G v)] 1))
    rw [show (T.setVm vm).frames.tail = below from X.tail] at h
    exact h
  have hstart : ∀ acts, (doInvoke e ((T.setVm vm₁).setTop (F0 m pc ls rest)) acts mk #[.ref (gE G v)]).1 = (((T.setVm vm₁).setTop (F0 m pc ls rest)).pushFrame (.java (entryFrame mk #[.ref (gE G v)] 1))).setTop { method := mk, pc := 0, locals := #[.val (.ref (gE G v))], stack := [], locked := none } := by
    intro acts
    rw [doInvoke_enter (g := F0 m pc ls rest) X₁.here.top acts hmT₁ hcM hlockM (X₁.notFull (g := F0 m pc ls rest) (hls.trans hml.symm) hR1 (by rw [hlM]; show 2 * 0 + (rest.map fun v => v.category).sum + (1 + 11) ≤ R.locals; omega)), hlM]
    rfl
  have hUvm : s.WarmedH (((T.setVm vm₁).setTop (F0 m pc ls rest)).pushFrame (.java (entryFrame mk #[.ref (gE G v)] 1))).vm := X₁.warmed
  have hheap : (((T.setVm vm₁).setTop (F0 m pc ls rest)).pushFrame (.java (entryFrame mk #[.ref (gE G v)] 1))).heap = H := hT
  generalize (((T.setVm vm₁).setTop (F0 m pc ls rest)).pushFrame (.java (entryFrame mk #[.ref (gE G v)] 1))) = U at hU hfU hback hstart hUvm hheap
  have hpl : e.platform.magicAccessors = ({} : Platform).magicAccessors := by rw [X.admits.platform]
  obtain ⟨ci', cfl, k', i', f', hi', hlinks, hright⟩ := Cond.fieldLink_spec (findClass_of_methodNamed hnamed) h7 e.platform hpl
  cases hi.symm.trans hi'
  obtain ⟨hk, hff⟩ := State.fieldFound?_spec hi
  obtain ⟨vm₂, hgives, hW₂, hready, hfi⟩ := State.fieldEntry (e := e) hUvm hlinks hright hk hff
  obtain ⟨t, a1, b1⟩ := kk (T.setVm vm₂) hT (X.noted hW₂)
  refine ⟨t, hstep₁ _ fun acts => ?_, b1⟩
  have ea : (#[Value.ref (gE G v)] : Array Value) = (Value.ref (gE G v) :: ([] : List Value)).toArray := rfl
  rw [← ea]
  have hst0 := hstart acts
  rw [show ({ F0 m pc ls (.ref (gE G v) :: rest) with stack := rest } : JFrame) = F0 m pc ls rest from rfl, hst0]
  have hU₂ : At (U.setVm vm₂) mk cM below := hU.setVm (hUvm.alike.symm.trans hW₂.alike)
  have hmT₂ : (U.setVm vm₂).vm.method? mk = some methM := by
    show vm₂.method? mk = some methM
    have := hW₂.alike.method? (m := mk)
    exact this.trans hmethM
  have hfU₂ : (U.setVm vm₂).frames = .java (entryFrame mk #[.ref (gE G v)] 1) :: .java (F0 m pc ls rest) :: below := hfU
  have v0 : decode cM.code 0 = .ok (.aload_n 0, 1) := by rw [hbM]; exact dJx29ce0_ordinal_8abf5_0
  have v1 : decode cM.code 1 = .ok (.getfield 7, 3) := by rw [hbM]; exact dJx29ce0_ordinal_8abf5_1
  have v4 : decode cM.code 4 = .ok (.ireturn, 1) := by rw [hbM]; exact dJx29ce0_ordinal_8abf5_4
  jvm_step hU [hx, v0, Value.isRef]
  jvm_step hU [hx, v1, Op.getfield.wp_cold (e := e) (s := U) (f := { method := mk, pc := 1, locals := #[.val (.ref (gE G v))], stack := [.ref (gE G v)], locked := none }) hU.top hgives hready hfi,
    Op.getfield.wp_ready (e := e) (s := U.setVm vm₂) (f := { method := mk, pc := 1, locals := #[.val (.ref (gE G v))], stack := [.ref (gE G v)], locked := none }) hU.top hready hst rfl (show (U.setVm vm₂).heap[gE G v]? = some cellF by rw [← hcF]; exact congrArg (fun (h : Heap) => h[gE G v]?) hheap) hknown hslot]
  have hcg : (U.setVm vm₂).code? (F0 m pc ls rest).method = some c := by
    have h := (X.noted hW₂).here.code
    rw [State.code?_eq] at h ⊢
    exact h
  have hb2 := hback vm₂
  generalize U.setVm vm₂ = U2 at hU₂ hmT₂ hfU₂ hcg hb2 ⊢
  jvm_step hU₂ [hU₂.top, hx, v4, hmT₂, hretM, narrow]
  (try refine ⟨rfl, ?_⟩); (try refine ⟨rfl, ?_⟩)
  intro acts
  rw [doReturn_leave (u := U2) (g := F0 m pc ls rest) (meth := methM) (cg := c) (ig := .invokevirtual index) (len := 3) acts hfU₂ hmT₂ hlockM rfl rfl hcg hdg, hb2]
  simpa using a1
end ZTR
def xX6_obey (n1 : Nat) (V : zV3) (p2 : Int32) (p3 : Int32) : Option (Int32 × zV3) :=
  grd (inb (nI n1) 8) <| (if (wswi ((nI n1).toNatClampNeg)) = (1 : Int32) then bndG (xX1_lendTo (V 6) p2 p3) V 6 fun r3 V6 => some (r3, V6) else (if (wswi ((nI n1).toNatClampNeg)) = (2 : Int32) then bndG (xX1_takeBack (V 6) p2) V 6 fun r8 V11 => some (r8, V11) else (if (wswi ((nI n1).toNatClampNeg)) = (3 : Int32) then bndG (xX1_prolong (V 6) p2) V 6 fun r13 V16 => some (r13, V16) else (if (wswi ((nI n1).toNatClampNeg)) = (4 : Int32) then bndG (xX1_loseKey (V 6) p2) V 6 fun r18 V21 => some (r18, V21) else (if (wswi ((nI n1).toNatClampNeg)) = (5 : Int32) then bndG (xX1_wishFor (V 6) p2 p3) V 6 fun r23 V26 => some (r23, V26) else (if (wswi ((nI n1).toNatClampNeg)) = (6 : Int32) then bndG (xX1_swapAll (V 6)) V 6 fun r28 V31 => some (r28, V31) else (if (wswi ((nI n1).toNatClampNeg)) = (7 : Int32) then bndG (xX1_payCoins (V 6) p2 p3) V 6 fun r33 V36 => some (r33, V36) else bndG (xX1_passDays (V 6) p2 (5000 : Int32)) V 6 fun r37 V40 => some (r37, V40))))))))

def xJ0_coder_7d493 (v : Nat) (h : zV2) : Option (Int32 × zV2) :=
  (if (1 : Int32) = 0 then some ((1 : Int32), h) else some ((0 : Int32), h))

def xJ0_length_8abf5 (v : Nat) (h : zV2) : Option (Int32 × zV2) :=
  bnd (xJ0_coder_7d493 v h) fun r1 h3 => some (((nI (wlen v)) >>> (r1 &&& 31)), h3)

def xJ0_isLatin1_aae02 (v : Nat) (h : zV2) : Option (Int32 × zV2) :=
  (if (1 : Int32) = 0 then some ((0 : Int32), h) else (if (0 : Int32) = 0 then some ((1 : Int32), h) else some ((0 : Int32), h)))

def xJ3_checkIndex_8e157 (h : zV2) (p1 : Int32) (p2 : Int32) : Option (Int32 × zV2) :=
  (if p1 < 0 then none else (if p1 < p2 then some (p1, h) else none))

def xJ0_checkIndex_df160 (h : zV2) (p1 : Int32) (p2 : Int32) : Option (Unit × zV2) :=
  bnd (xJ3_checkIndex_8e157 h p1 p2) fun r2 h4 => some ((), h4)

def xJ1_charAt_3b067 (n1 : Nat) (h : zV2) (p2 : Int32) : Option (Int32 × zV2) :=
  bnd (xJ0_checkIndex_df160 h p2 (nI (wlen n1))) fun r1 h3 => grd (inb p2 (wlen n1)) <| grd (isc ((((wbyt n1 (p2.toNatClampNeg)) &&& (255 : Int32)).toUInt32 % 65536).toInt32)) (some ((((wbyt n1 (p2.toNatClampNeg)) &&& (255 : Int32)).toUInt32 % 65536).toInt32, h3))

def xJ0_charAt_5068e (v : Nat) (h : zV2) (p1 : Int32) : Option (Int32 × zV2) :=
  bnd (xJ0_isLatin1_aae02 v h) fun r1 h3 => (if r1 = 0 then none else bnd (xJ1_charAt_3b067 v h3 p1) fun r5 h7 => grd (isc r5) (some (r5, h7)))

def xX7_hasWordAt_L2 (n2 : Nat) (p1 : Int32) : Nat → zV2 → Nat → Int32 → Option (Int32 × zV2)
  | 0, _, _, _ => none
  | n + 1, h, n2, a3 => bnd (xJ0_length_8abf5 n2 h) fun r1 h3 => (if r1 ≤ a3 then some ((1 : Int32), h3) else bnd (xX7_signAt h3 (p1 + a3)) fun r5 h7 => bnd (xJ0_charAt_5068e n2 h7 a3) fun r8 h10 => (if r5 = r8 then ltI (a3 + (1 : Int32)) fun y12 => xX7_hasWordAt_L2 n2 p1 n h10 n2 y12 else some ((0 : Int32), h10)))
def xX7_hasWordAt (n2 : Nat) (h : zV2) (p1 : Int32) : Option (Int32 × zV2) :=
  xX7_hasWordAt_L2 n2 p1 1000 h n2 (0 : Int32)

def xX7_verbAt_L2 (p1 : Int32) : Nat → zV2 → Int32 → Option (Option Nat × zV2)
  | 0, _, _ => none
  | n + 1, h, a2 => (if (8 : Int32) ≤ a2 then some (none, h) else grd (inb a2 8) <| bnd (xX7_hasWordAt a2.toNatClampNeg h p1) fun r3 h5 => (if r3 = 0 then ltI (a2 + (1 : Int32)) fun y7 => xX7_verbAt_L2 p1 n h5 y7 else grd (inb a2 8) <| some (some a2.toNatClampNeg, h5)))
def xX7_verbAt (h : zV2) (p1 : Int32) : Option (Option Nat × zV2) :=
  xX7_verbAt_L2 p1 1000 h (0 : Int32)

def xX7_readCommand_L77 (p1 : Int32) (h : zV2) (s0 : Int32) : Option (Int32 × zV2) :=
  put2 h 6 0 s0 fun h1 => (if (h1 5 0) = (-1 : Int32) then some ((0 : Int32), h1) else (if (h1 6 0) = (-1 : Int32) then some ((0 : Int32), h1) else bnd (xX7_signAt h1 (h1 7 0)) fun r4 h6 => (if r4 = (59 : Int32) then put2 h6 7 0 ((h6 7 0) + (1 : Int32)) fun h8 => some ((1 : Int32), h8) else some ((0 : Int32), h6))))
def xX7_readCommand_L54 (p1 : Int32) (h : zV2) (s0 : Int32) : Option (Int32 × zV2) :=
  put2 h 5 0 s0 fun h1 => (optm (vopt (h1 4 0)) (none) (fun q3 => grd (decide (q3 < 8)) (if (wnum q3) < (2 : Int32) then xX7_readCommand_L77 p1 h1 (0 : Int32) else bnd (xX7_readNumber h1) fun r5 h7 => xX7_readCommand_L77 p1 h7 r5)))
def xX7_readCommand (h : zV2) (p1 : Int32) : Option (Int32 × zV2) :=
  bnd (xX7_verbAt h p1) fun r1 h3 => (optm r1 (put2 h3 4 0 (0 : Int32) fun h5 => (optm (vopt (h5 4 0)) (some ((0 : Int32), h5)) (fun q7 => grd (decide (q7 < 8)) (optm (vopt (h5 4 0)) (none) (fun q9 => grd (decide (q9 < 8)) (bnd (xJ0_length_8abf5 q9 h5) fun r10 h12 => put2 h12 7 0 (p1 + r10) fun h13 => (optm (vopt (h13 4 0)) (none) (fun q15 => grd (decide (q15 < 8)) (if (wnum q15) < (1 : Int32) then xX7_readCommand_L54 p1 h13 (0 : Int32) else bnd (xX7_readNumber h13) fun r17 h19 => xX7_readCommand_L54 p1 h19 r17))))))))) (fun q4 => grd (decide (q4 < 8)) (put2 h3 4 0 (nI (q4 + 1)) fun h20 => (optm (vopt (h20 4 0)) (some ((0 : Int32), h20)) (fun q22 => grd (decide (q22 < 8)) (optm (vopt (h20 4 0)) (none) (fun q24 => grd (decide (q24 < 8)) (bnd (xJ0_length_8abf5 q24 h20) fun r25 h27 => put2 h27 7 0 (p1 + r25) fun h28 => (optm (vopt (h28 4 0)) (none) (fun q30 => grd (decide (q30 < 8)) (if (wnum q30) < (1 : Int32) then xX7_readCommand_L54 p1 h28 (0 : Int32) else bnd (xX7_readNumber h28) fun r32 h34 => xX7_readCommand_L54 p1 h34 r32)))))))))))

def xX6_playText_L23 (g : Nat) : Nat → zV3 → Int32 → Int32 → Option (Unit × zV3)
  | 0, _, _, _ => none
  | n + 1, V, a3, a4 => (if (80 : Int32) ≤ a4 then some ((), V) else (if (V 7 3 0) ≤ a3 then some ((), V) else bndG (xX7_readCommand (V 7) a3) V 7 fun r3 V6 => (if r3 = 0 then bndG (xX6_noteFault (V6 7) a3 (1 : Int32) (0 : Int32)) V6 7 fun r21 V24 => some ((), V24) else (optm (vopt (V6 7 4 0)) (none) (fun q9 => grd (decide (q9 < 8)) (bnd (xX6_obey q9 V6 (V6 7 5 0) (V6 7 6 0)) fun r10 V12 => (if 0 ≤ r10 then put3 V12 7 11 0 ((V12 7 11 0) + (1 : Int32)) fun V14 => ltI (V14 7 7 0) fun y15 => ltI (a4 + (1 : Int32)) fun y16 => xX6_playText_L23 g n V14 y15 y16 else bndG (xX6_noteFault (V12 7) a3 (2 : Int32) r10) V12 7 fun r17 V20 => some ((), V20))))))))
def xX6_playText (g : Nat) (V : zV3) : Option (Unit × zV3) :=
  bnd (xX1_copyFrom 6 g V) fun r1 V3 => put3 V3 7 8 0 (-1 : Int32) fun V4 => put3 V4 7 11 0 (0 : Int32) fun V5 => xX6_playText_L23 g 1000 V5 (0 : Int32) (0 : Int32)

def xX9_fault_L55 (p1 : Int32) (V : zV3) : Option (Int32 × zV3) :=
  (if p1 = (0 : Int32) then some ((V 7 8 0), V) else (if p1 = (1 : Int32) then some ((V 7 9 0), V) else some ((V 7 10 0), V)))
def xX9_fault (V : zV3) (p1 : Int32) : Option (Int32 × zV3) :=
  (if p1 < 0 then some ((-1 : Int32), V) else (if p1 ≤ (2 : Int32) then bnd (xX6_playText 0 V) fun r3 V5 => bndG (xX6_failed (V5 7)) V5 7 fun r6 V9 => (if r6 = 0 then some ((-4 : Int32), V9) else (if p1 = (2 : Int32) then (if (V9 7 9 0) = (1 : Int32) then some ((-4 : Int32), V9) else xX9_fault_L55 p1 V9) else xX9_fault_L55 p1 V9)) else some ((-1 : Int32), V)))

def xX9_play (V : zV3) : Option (Int32 × zV3) :=
  bnd (xX6_playText 0 V) fun r1 V3 => bndG (xX6_failed (V3 7)) V3 7 fun r4 V7 => (if r4 = 0 then bnd (xX2_prepare 0 V7) fun r9 V11 => bnd (xX1_copyFrom 0 6 V11) fun r12 V14 => bndG (xX2_settle (V14 7) (V14 7 11 0)) V14 7 fun r15 V18 => some (r15, V18) else some ((-2 : Int32), V7))
abbrev rX6_obey : Room := { frames := 4, cells := 0, slots := 0, locals := 94 }
set_option maxRecDepth 100000 in
set_option maxHeartbeats 4000000 in
theorem kX6_obey (l : Launch) (G : zG) (A : Nat → Prop) (hG : zVb G) (V : zV3) (n1 : Nat) (hn1 : n1 < 8) (p2 : Int32) (p3 : Int32) {r : Int32} {V' : zV3} (hf : xX6_obey n1 V p2 p3 = some (r, V')) : zCt l G A yX6_obey cX6_obey 4 (some .int) rX6_obey [.ref (gA G 15 0 0), .ref (gE G n1), .int p2, .int p3] V (some (.int r)) V' := by
  refine z_CtI (by decide) (Nat.le_of_ble_eq_true rfl) ?_
  intro p e s m args below meth c Q hx hb hml hown hL hK hM hS hQ ls hl
  replace hl : lv_has ls 4 [(0, .ref (gA G 15 0 0)), (1, .ref (gE G n1)), (2, .int p2), (3, .int p3)] := hl
  have hQf : ∀ {a : Int32} {k : zV3} {H : Heap} {locs : List Loc} {pc : Nat} {ls : Array Slot}, some (a, k) = some (r, V') → zM G k H → va_S A s.heap H locs → decode cX6_obey pc = .ok (.ireturn, 1) → W p l e rX6_obey s m args below meth c H locs 0 0 Q (F0 m pc ls [.int a]) := by
    intro a k H locs pc ls e1 hM hS hd
    cases e1
    exact hQ H locs pc ls hM hS hd
  unfold xX6_obey at hf
  refine va_gets (v := .ref (gE G 9)) hx hb (zs_SWITCH hK hG) hS hown (hL _ zw3_230) (fun _ h9 => h9) dX6_obey_0 ?_
  refine lv_aload_n hx hb dX6_obey_3 rfl (lv_at hl 1 rfl) ?_
  refine z_ordinal (own := "LockerChains$Rehearsal") (index := 91) hx hb hml hown (hL _ zw3_232) (hL _ zw3_233) (hL _ zw3_235) (hL _ zw3_236) (hL _ zw3_237) (hL _ zw5_187) hK hG hn1 hS hl.1 (Nat.le_of_ble_eq_true rfl) (Nat.le_of_ble_eq_true rfl) (Nat.le_of_ble_eq_true rfl) dX6_obey_4 ?_
  obtain ⟨hb1, hf⟩ := grd_some hf
  refine va_ti (v := .int (wswi ((nI n1).toNatClampNeg))) hx hb (zs_switch hK hG) hS (inb_in hb1) rfl dX6_obey_7 ?_
  by_cases c2 : (wswi ((nI n1).toNatClampNeg)) = (1 : Int32)
  · replace hf := ift hf c2
    refine lv_tableIn (off := 44) (tgt := 52) hx hb dX6_obey_8 (by rw [c2]; decide) (by rw [c2]; decide) (by rw [c2]; rfl) (by decide) ?_
    refine lv_aload_n hx hb dX6_obey_52 rfl (lv_at hl 0 rfl) ?_
    refine z_get (own := RX6) (C := RX6) (T := TX6) (N := 5) (ci := 5) (v := .ref (gA G 0 6 0)) hx hb hL inX6 hown hK hM dm_15 (zd_15 G V 0 0) rfl 0 (by decide) (hL _ zw1_220) rfl rfl dX6_obey_53 ?_
    refine lv_iload_n hx hb dX6_obey_56 rfl (lv_at hl 2 rfl) ?_
    refine lv_iload_n hx hb dX6_obey_57 rfl (lv_at hl 3 rfl) ?_
    obtain ⟨r3, k5, V6, hc4, eV6, hf⟩ := bndG_some hf
    refine z_callV (As := [.int p2, .int p3]) (rest := []) (C := RX1) hx hb hml hown hL hK hM hS (z_ctG (kX1_lendTo l G A V 6 (by decide) (V 6) p2 p3 hc4)) (zg_X1_lendTo zw3_238) zv_X1_lendTo ⟨rfl, rfl⟩ ⟨Nat.le_of_ble_eq_true rfl, Nat.le_of_ble_eq_true rfl⟩ (hM.recv hK (dm_0 (g := 6) (i := 0) (by decide) rfl) (zd_0 G V 6 0) rfl) rfl hl.1 rfl (Nat.le_of_ble_eq_true rfl) dX6_obey_58 ⟨Nat.zero_le _, Nat.zero_le _⟩ (fun H locs hM hS => ?_)
    rw [← eV6] at hM
    refine W.eq (g2 := F0 m 61 ls [.int r3]) rfl ?_
    exact hQf hf hM hS dX6_obey_61
  · replace hf := iff_ hf c2
    by_cases c7 : (wswi ((nI n1).toNatClampNeg)) = (2 : Int32)
    · replace hf := ift hf c7
      refine lv_tableIn (off := 54) (tgt := 62) hx hb dX6_obey_8 (by rw [c7]; decide) (by rw [c7]; decide) (by rw [c7]; rfl) (by decide) ?_
      refine lv_aload_n hx hb dX6_obey_62 rfl (lv_at hl 0 rfl) ?_
      refine z_get (own := RX6) (C := RX6) (T := TX6) (N := 5) (ci := 5) (v := .ref (gA G 0 6 0)) hx hb hL inX6 hown hK hM dm_15 (zd_15 G V 0 0) rfl 0 (by decide) (hL _ zw1_220) rfl rfl dX6_obey_63 ?_
      refine lv_iload_n hx hb dX6_obey_66 rfl (lv_at hl 2 rfl) ?_
      obtain ⟨r8, k10, V11, hc9, eV11, hf⟩ := bndG_some hf
      refine z_callV (As := [.int p2]) (rest := []) (C := RX1) hx hb hml hown hL hK hM hS (z_ctG (kX1_takeBack l G A V 6 (by decide) (V 6) p2 hc9)) (zg_X1_takeBack zw3_239) zv_X1_takeBack ⟨rfl, rfl⟩ ⟨Nat.le_of_ble_eq_true rfl, Nat.le_of_ble_eq_true rfl⟩ (hM.recv hK (dm_0 (g := 6) (i := 0) (by decide) rfl) (zd_0 G V 6 0) rfl) rfl hl.1 rfl (Nat.le_of_ble_eq_true rfl) dX6_obey_67 ⟨Nat.zero_le _, Nat.zero_le _⟩ (fun H locs hM hS => ?_)
      rw [← eV11] at hM
      refine W.eq (g2 := F0 m 70 ls [.int r8]) rfl ?_
      exact hQf hf hM hS dX6_obey_70
    · replace hf := iff_ hf c7
      by_cases c12 : (wswi ((nI n1).toNatClampNeg)) = (3 : Int32)
      · replace hf := ift hf c12
        refine lv_tableIn (off := 63) (tgt := 71) hx hb dX6_obey_8 (by rw [c12]; decide) (by rw [c12]; decide) (by rw [c12]; rfl) (by decide) ?_
        refine lv_aload_n hx hb dX6_obey_71 rfl (lv_at hl 0 rfl) ?_
        refine z_get (own := RX6) (C := RX6) (T := TX6) (N := 5) (ci := 5) (v := .ref (gA G 0 6 0)) hx hb hL inX6 hown hK hM dm_15 (zd_15 G V 0 0) rfl 0 (by decide) (hL _ zw1_220) rfl rfl dX6_obey_72 ?_
        refine lv_iload_n hx hb dX6_obey_75 rfl (lv_at hl 2 rfl) ?_
        obtain ⟨r13, k15, V16, hc14, eV16, hf⟩ := bndG_some hf
        refine z_callV (As := [.int p2]) (rest := []) (C := RX1) hx hb hml hown hL hK hM hS (z_ctG (kX1_prolong l G A V 6 (by decide) (V 6) p2 hc14)) (zg_X1_prolong zw4_0) zv_X1_prolong ⟨rfl, rfl⟩ ⟨Nat.le_of_ble_eq_true rfl, Nat.le_of_ble_eq_true rfl⟩ (hM.recv hK (dm_0 (g := 6) (i := 0) (by decide) rfl) (zd_0 G V 6 0) rfl) rfl hl.1 rfl (Nat.le_of_ble_eq_true rfl) dX6_obey_76 ⟨Nat.zero_le _, Nat.zero_le _⟩ (fun H locs hM hS => ?_)
        rw [← eV16] at hM
        refine W.eq (g2 := F0 m 79 ls [.int r13]) rfl ?_
        exact hQf hf hM hS dX6_obey_79
      · replace hf := iff_ hf c12
        by_cases c17 : (wswi ((nI n1).toNatClampNeg)) = (4 : Int32)
        · replace hf := ift hf c17
          refine lv_tableIn (off := 72) (tgt := 80) hx hb dX6_obey_8 (by rw [c17]; decide) (by rw [c17]; decide) (by rw [c17]; rfl) (by decide) ?_
          refine lv_aload_n hx hb dX6_obey_80 rfl (lv_at hl 0 rfl) ?_
          refine z_get (own := RX6) (C := RX6) (T := TX6) (N := 5) (ci := 5) (v := .ref (gA G 0 6 0)) hx hb hL inX6 hown hK hM dm_15 (zd_15 G V 0 0) rfl 0 (by decide) (hL _ zw1_220) rfl rfl dX6_obey_81 ?_
          refine lv_iload_n hx hb dX6_obey_84 rfl (lv_at hl 2 rfl) ?_
          obtain ⟨r18, k20, V21, hc19, eV21, hf⟩ := bndG_some hf
          refine z_callV (As := [.int p2]) (rest := []) (C := RX1) hx hb hml hown hL hK hM hS (z_ctG (kX1_loseKey l G A V 6 (by decide) (V 6) p2 hc19)) (zg_X1_loseKey zw4_1) zv_X1_loseKey ⟨rfl, rfl⟩ ⟨Nat.le_of_ble_eq_true rfl, Nat.le_of_ble_eq_true rfl⟩ (hM.recv hK (dm_0 (g := 6) (i := 0) (by decide) rfl) (zd_0 G V 6 0) rfl) rfl hl.1 rfl (Nat.le_of_ble_eq_true rfl) dX6_obey_85 ⟨Nat.zero_le _, Nat.zero_le _⟩ (fun H locs hM hS => ?_)
          rw [← eV21] at hM
          refine W.eq (g2 := F0 m 88 ls [.int r18]) rfl ?_
          exact hQf hf hM hS dX6_obey_88
        · replace hf := iff_ hf c17
          by_cases c22 : (wswi ((nI n1).toNatClampNeg)) = (5 : Int32)
          · replace hf := ift hf c22
            refine lv_tableIn (off := 81) (tgt := 89) hx hb dX6_obey_8 (by rw [c22]; decide) (by rw [c22]; decide) (by rw [c22]; rfl) (by decide) ?_
            refine lv_aload_n hx hb dX6_obey_89 rfl (lv_at hl 0 rfl) ?_
            refine z_get (own := RX6) (C := RX6) (T := TX6) (N := 5) (ci := 5) (v := .ref (gA G 0 6 0)) hx hb hL inX6 hown hK hM dm_15 (zd_15 G V 0 0) rfl 0 (by decide) (hL _ zw1_220) rfl rfl dX6_obey_90 ?_
            refine lv_iload_n hx hb dX6_obey_93 rfl (lv_at hl 2 rfl) ?_
            refine lv_iload_n hx hb dX6_obey_94 rfl (lv_at hl 3 rfl) ?_
            obtain ⟨r23, k25, V26, hc24, eV26, hf⟩ := bndG_some hf
            refine z_callV (As := [.int p2, .int p3]) (rest := []) (C := RX1) hx hb hml hown hL hK hM hS (z_ctG (kX1_wishFor l G A V 6 (by decide) (V 6) p2 p3 hc24)) (zg_X1_wishFor zw4_2) zv_X1_wishFor ⟨rfl, rfl⟩ ⟨Nat.le_of_ble_eq_true rfl, Nat.le_of_ble_eq_true rfl⟩ (hM.recv hK (dm_0 (g := 6) (i := 0) (by decide) rfl) (zd_0 G V 6 0) rfl) rfl hl.1 rfl (Nat.le_of_ble_eq_true rfl) dX6_obey_95 ⟨Nat.zero_le _, Nat.zero_le _⟩ (fun H locs hM hS => ?_)
            rw [← eV26] at hM
            refine W.eq (g2 := F0 m 98 ls [.int r23]) rfl ?_
            exact hQf hf hM hS dX6_obey_98
          · replace hf := iff_ hf c22
            by_cases c27 : (wswi ((nI n1).toNatClampNeg)) = (6 : Int32)
            · replace hf := ift hf c27
              refine lv_tableIn (off := 91) (tgt := 99) hx hb dX6_obey_8 (by rw [c27]; decide) (by rw [c27]; decide) (by rw [c27]; rfl) (by decide) ?_
              refine lv_aload_n hx hb dX6_obey_99 rfl (lv_at hl 0 rfl) ?_
              refine z_get (own := RX6) (C := RX6) (T := TX6) (N := 5) (ci := 5) (v := .ref (gA G 0 6 0)) hx hb hL inX6 hown hK hM dm_15 (zd_15 G V 0 0) rfl 0 (by decide) (hL _ zw1_220) rfl rfl dX6_obey_100 ?_
              obtain ⟨r28, k30, V31, hc29, eV31, hf⟩ := bndG_some hf
              refine z_callV (As := []) (rest := []) (C := RX1) hx hb hml hown hL hK hM hS (z_ctG (kX1_swapAll l G A V 6 (by decide) (V 6) hc29)) (zg_X1_swapAll zw3_94) zv_X1_swapAll ⟨rfl, rfl⟩ ⟨Nat.le_of_ble_eq_true rfl, Nat.le_of_ble_eq_true rfl⟩ (hM.recv hK (dm_0 (g := 6) (i := 0) (by decide) rfl) (zd_0 G V 6 0) rfl) rfl hl.1 rfl (Nat.le_of_ble_eq_true rfl) dX6_obey_103 ⟨Nat.zero_le _, Nat.zero_le _⟩ (fun H locs hM hS => ?_)
              rw [← eV31] at hM
              refine W.eq (g2 := F0 m 106 ls [.int r28]) rfl ?_
              exact hQf hf hM hS dX6_obey_106
            · replace hf := iff_ hf c27
              by_cases c32 : (wswi ((nI n1).toNatClampNeg)) = (7 : Int32)
              · replace hf := ift hf c32
                refine lv_tableIn (off := 99) (tgt := 107) hx hb dX6_obey_8 (by rw [c32]; decide) (by rw [c32]; decide) (by rw [c32]; rfl) (by decide) ?_
                refine lv_aload_n hx hb dX6_obey_107 rfl (lv_at hl 0 rfl) ?_
                refine z_get (own := RX6) (C := RX6) (T := TX6) (N := 5) (ci := 5) (v := .ref (gA G 0 6 0)) hx hb hL inX6 hown hK hM dm_15 (zd_15 G V 0 0) rfl 0 (by decide) (hL _ zw1_220) rfl rfl dX6_obey_108 ?_
                refine lv_iload_n hx hb dX6_obey_111 rfl (lv_at hl 2 rfl) ?_
                refine lv_iload_n hx hb dX6_obey_112 rfl (lv_at hl 3 rfl) ?_
                obtain ⟨r33, k35, V36, hc34, eV36, hf⟩ := bndG_some hf
                refine z_callV (As := [.int p2, .int p3]) (rest := []) (C := RX1) hx hb hml hown hL hK hM hS (z_ctG (kX1_payCoins l G A V 6 (by decide) (V 6) p2 p3 hc34)) (zg_X1_payCoins zw4_3) zv_X1_payCoins ⟨rfl, rfl⟩ ⟨Nat.le_of_ble_eq_true rfl, Nat.le_of_ble_eq_true rfl⟩ (hM.recv hK (dm_0 (g := 6) (i := 0) (by decide) rfl) (zd_0 G V 6 0) rfl) rfl hl.1 rfl (Nat.le_of_ble_eq_true rfl) dX6_obey_113 ⟨Nat.zero_le _, Nat.zero_le _⟩ (fun H locs hM hS => ?_)
                rw [← eV36] at hM
                refine W.eq (g2 := F0 m 116 ls [.int r33]) rfl ?_
                exact hQf hf hM hS dX6_obey_116
              · replace hf := iff_ hf c32
                refine lv_tableOut (tgt := 117) hx hb dX6_obey_8 (by have t0 := lv_neT c2 (a := 1) (by decide); have t1 := lv_neT c7 (a := 2) (by decide); have t2 := lv_neT c12 (a := 3) (by decide); have t3 := lv_neT c17 (a := 4) (by decide); have t4 := lv_neT c22 (a := 5) (by decide); have t5 := lv_neT c27 (a := 6) (by decide); have t6 := lv_neT c32 (a := 7) (by decide); omega) (by decide) ?_
                refine lv_aload_n hx hb dX6_obey_117 rfl (lv_at hl 0 rfl) ?_
                refine z_get (own := RX6) (C := RX6) (T := TX6) (N := 5) (ci := 5) (v := .ref (gA G 0 6 0)) hx hb hL inX6 hown hK hM dm_15 (zd_15 G V 0 0) rfl 0 (by decide) (hL _ zw1_220) rfl rfl dX6_obey_118 ?_
                refine lv_iload_n hx hb dX6_obey_121 rfl (lv_at hl 2 rfl) ?_
                refine lv_sipush (v := 5000) hx hb dX6_obey_122 (by decide) ?_
                obtain ⟨r37, k39, V40, hc38, eV40, hf⟩ := bndG_some hf
                refine z_callV (As := [.int p2, .int (5000 : Int32)]) (rest := []) (C := RX1) hx hb hml hown hL hK hM hS (z_ctG (kX1_passDays l G A V 6 (by decide) (V 6) p2 (5000 : Int32) hc38)) (zg_X1_passDays zw3_85) zv_X1_passDays ⟨rfl, rfl⟩ ⟨Nat.le_of_ble_eq_true rfl, Nat.le_of_ble_eq_true rfl⟩ (hM.recv hK (dm_0 (g := 6) (i := 0) (by decide) rfl) (zd_0 G V 6 0) rfl) rfl hl.1 rfl (Nat.le_of_ble_eq_true rfl) dX6_obey_125 ⟨Nat.zero_le _, Nat.zero_le _⟩ (fun H locs hM hS => ?_)
                rw [← eV40] at hM
                refine W.eq (g2 := F0 m 128 ls [.int r37]) rfl ?_
                exact hQf hf hM hS dX6_obey_128

abbrev rJ0_coder_7d493 : Room := { frames := 0, cells := 0, slots := 0, locals := 0 }
set_option maxRecDepth 100000 in
set_option maxHeartbeats 4000000 in
theorem kJ0_coder_7d493 (l : Launch) (G : zG) (A : Nat → Prop) (hG : zVb G) (V : zV3) (v : Nat) (hv : v < 8) (h : zV2) {r : Int32} {h' : zV2} (hf : xJ0_coder_7d493 v h  = some (r, h')) : zCt l G A yJ0_coder_7d493 cJ0_coder_7d493 1 (some .byte) rJ0_coder_7d493 [.ref (gE G (10 + v))] (upG V 7 h) (some (.int r)) (upG V 7 h') := by
  refine z_CFZ (by decide +kernel) (Nat.le_of_ble_eq_true rfl) ?_
  intro p e s m args below meth c Q hx hb hml hown hL hK hM hS hQ ls hl
  replace hl : lv_has ls 1 [(0, .ref (gE G (10 + v)))] := hl
  have hQf : ∀ {a : Int32} {k : zV2} {H : Heap} {locs : List Loc} {pc : Nat} {ls : Array Slot}, narrow .byte (.int a) = .int a → some (a, k) = some (r, h') → zM G (upG V 7 k) H → va_S A s.heap H locs → decode cJ0_coder_7d493 pc = .ok (.ireturn, 1) → W p l e rJ0_coder_7d493 s m args below meth c H locs 0 0 Q (F0 m pc ls [.int a]) := by
    intro a k H locs pc ls hnr e1 hM hS hd
    cases e1
    exact hQ H locs pc ls hnr hM hS hd
  unfold xJ0_coder_7d493 at hf
  refine va_gets (v := .int (1 : Int32)) hx hb (zs_COMPACT hK hG) hS hown (hL _ zw3_174) (fun _ h9 => h9) dJ0_coder_7d493_0 ?_
  refine lv_if_eq (tgt := 13) hx hb dJ0_coder_7d493_3 (by decide) (fun c1 => ?_) (fun c1 => ?_)
  · replace hf := ift hf c1
    refine lv_iconst (v := 1) hx hb dJ0_coder_7d493_13 (by decide) ?_
    exact hQf rfl hf hM hS dJ0_coder_7d493_14
  · replace hf := iff_ hf c1
    refine lv_aload_n hx hb dJ0_coder_7d493_6 rfl (lv_at hl 0 rfl) ?_
    refine vk_getf hx hb (zs_coder hK hG hv) hS hown (hL _ zw5_185) (fun _ h9 => h9) dJ0_coder_7d493_7 ?_
    refine lv_goto (tgt := 14) hx hb dJ0_coder_7d493_10 (by decide) ?_
    exact hQf rfl hf hM hS dJ0_coder_7d493_14

abbrev rJ0_length_8abf5 : Room := { frames := 1, cells := 0, slots := 0, locals := 20 }
set_option maxRecDepth 100000 in
set_option maxHeartbeats 4000000 in
theorem kJ0_length_8abf5 (l : Launch) (G : zG) (A : Nat → Prop) (hG : zVb G) (V : zV3) (v : Nat) (hv : v < 8) (h : zV2) {r : Int32} {h' : zV2} (hf : xJ0_length_8abf5 v h  = some (r, h')) : zCt l G A yJ0_length_8abf5 cJ0_length_8abf5 1 (some .int) rJ0_length_8abf5 [.ref (gE G (10 + v))] (upG V 7 h) (some (.int r)) (upG V 7 h') := by
  refine z_CFI (by decide +kernel) (Nat.le_of_ble_eq_true rfl) ?_
  intro p e s m args below meth c Q hx hb hml hown hL hK hM hS hQ ls hl
  replace hl : lv_has ls 1 [(0, .ref (gE G (10 + v)))] := hl
  have hQf : ∀ {a : Int32} {k : zV2} {H : Heap} {locs : List Loc} {pc : Nat} {ls : Array Slot}, some (a, k) = some (r, h') → zM G (upG V 7 k) H → va_S A s.heap H locs → decode cJ0_length_8abf5 pc = .ok (.ireturn, 1) → W p l e rJ0_length_8abf5 s m args below meth c H locs 0 0 Q (F0 m pc ls [.int a]) := by
    intro a k H locs pc ls e1 hM hS hd
    cases e1
    exact hQ H locs pc ls hM hS hd
  unfold xJ0_length_8abf5 at hf
  refine lv_aload_n hx hb dJ0_length_8abf5_0 rfl (lv_at hl 0 rfl) ?_
  refine vk_getf hx hb (zs_value hK hG hv) hS hown (hL _ zw5_184) (fun _ h9 => h9) dJ0_length_8abf5_1 ?_
  refine va_tlen hx hb (zs_bytes hK hG hv) hS (v := nI (wlen v)) rfl dJ0_length_8abf5_4 ?_
  refine lv_aload_n hx hb dJ0_length_8abf5_5 rfl (lv_at hl 0 rfl) ?_
  obtain ⟨r1, h3, hc2, hf⟩ := bnd_some hf
  refine z_callV (As := []) (rest := [.int (nI (wlen v))]) (C := RJ0) hx hb hml hown hL hK hM hS (kJ0_coder_7d493 l G A hG V v hv h hc2) (zg_J0_coder_7d493 zw3_170) zv_J0_coder_7d493 ⟨rfl, rfl⟩ ⟨Nat.le_of_ble_eq_true rfl, Nat.le_of_ble_eq_true rfl⟩ (zs_recv (zs_sO hK hG hv) hS) rfl hl.1 rfl (Nat.le_of_ble_eq_true rfl) dJ0_length_8abf5_6 ⟨Nat.zero_le _, Nat.zero_le _⟩ (fun H locs hM hS => ?_)
  refine W.eq (g2 := F0 m 9 ls [.int r1, .int (nI (wlen v))]) rfl ?_
  refine lv_ishr hx hb dJ0_length_8abf5_9 ?_
  exact hQf hf hM hS dJ0_length_8abf5_10

abbrev rJ0_isLatin1_aae02 : Room := { frames := 0, cells := 0, slots := 0, locals := 0 }
set_option maxRecDepth 100000 in
set_option maxHeartbeats 4000000 in
theorem kJ0_isLatin1_aae02 (l : Launch) (G : zG) (A : Nat → Prop) (hG : zVb G) (V : zV3) (v : Nat) (hv : v < 8) (h : zV2) {r : Int32} {h' : zV2} (hf : xJ0_isLatin1_aae02 v h  = some (r, h')) : zCt l G A yJ0_isLatin1_aae02 cJ0_isLatin1_aae02 1 (some .boolean) rJ0_isLatin1_aae02 [.ref (gE G (10 + v))] (upG V 7 h) (some (.int r)) (upG V 7 h') := by
  refine z_CFZ (by decide +kernel) (Nat.le_of_ble_eq_true rfl) ?_
  intro p e s m args below meth c Q hx hb hml hown hL hK hM hS hQ ls hl
  replace hl : lv_has ls 1 [(0, .ref (gE G (10 + v)))] := hl
  have hQf : ∀ {a : Int32} {k : zV2} {H : Heap} {locs : List Loc} {pc : Nat} {ls : Array Slot}, narrow .boolean (.int a) = .int a → some (a, k) = some (r, h') → zM G (upG V 7 k) H → va_S A s.heap H locs → decode cJ0_isLatin1_aae02 pc = .ok (.ireturn, 1) → W p l e rJ0_isLatin1_aae02 s m args below meth c H locs 0 0 Q (F0 m pc ls [.int a]) := by
    intro a k H locs pc ls hnr e1 hM hS hd
    cases e1
    exact hQ H locs pc ls hnr hM hS hd
  unfold xJ0_isLatin1_aae02 at hf
  refine va_gets (v := .int (1 : Int32)) hx hb (zs_COMPACT hK hG) hS hown (hL _ zw3_174) (fun _ h9 => h9) dJ0_isLatin1_aae02_0 ?_
  refine lv_if_eq (tgt := 17) hx hb dJ0_isLatin1_aae02_3 (by decide) (fun c1 => ?_) (fun c1 => ?_)
  · replace hf := ift hf c1
    refine lv_iconst (v := 0) hx hb dJ0_isLatin1_aae02_17 (by decide) ?_
    exact hQf rfl hf hM hS dJ0_isLatin1_aae02_18
  · replace hf := iff_ hf c1
    refine lv_aload_n hx hb dJ0_isLatin1_aae02_6 rfl (lv_at hl 0 rfl) ?_
    refine vk_getf hx hb (zs_coder hK hG hv) hS hown (hL _ zw5_185) (fun _ h9 => h9) dJ0_isLatin1_aae02_7 ?_
    refine lv_if_ne (tgt := 17) hx hb dJ0_isLatin1_aae02_10 (by decide) (fun c2 => ?_) (fun c2 => ?_)
    · replace hf := iff_ hf c2
      refine lv_iconst (v := 0) hx hb dJ0_isLatin1_aae02_17 (by decide) ?_
      exact hQf rfl hf hM hS dJ0_isLatin1_aae02_18
    · replace hf := ift hf c2
      refine lv_iconst (v := 1) hx hb dJ0_isLatin1_aae02_13 (by decide) ?_
      refine lv_goto (tgt := 18) hx hb dJ0_isLatin1_aae02_14 (by decide) ?_
      exact hQf rfl hf hM hS dJ0_isLatin1_aae02_18

abbrev rJ3_checkIndex_8e157 : Room := { frames := 0, cells := 0, slots := 0, locals := 0 }
set_option maxRecDepth 100000 in
set_option maxHeartbeats 4000000 in
theorem kJ3_checkIndex_8e157 (l : Launch) (G : zG) (A : Nat → Prop) (hG : zVb G) (V : zV3) (fm : Option Nat) (h : zV2) (p1 : Int32) (p2 : Int32) {r : Int32} {h' : zV2} (hf : xJ3_checkIndex_8e157 h p1 p2 = some (r, h')) : zCt l G A yJ3_checkIndex_8e157 cJ3_checkIndex_8e157 3 (some .int) rJ3_checkIndex_8e157 [.int p1, .int p2, va_rf fm] (upG V 7 h) (some (.int r)) (upG V 7 h') := by
  refine z_CFI (by decide +kernel) (by cases fm <;> exact Nat.le_of_ble_eq_true rfl) ?_
  intro p e s m args below meth c Q hx hb hml hown hL hK hM hS hQ ls hl
  replace hl : lv_has ls 3 [(0, .int p1), (1, .int p2), (2, va_rf fm)] := hl
  have hQf : ∀ {a : Int32} {k : zV2} {H : Heap} {locs : List Loc} {pc : Nat} {ls : Array Slot}, some (a, k) = some (r, h') → zM G (upG V 7 k) H → va_S A s.heap H locs → decode cJ3_checkIndex_8e157 pc = .ok (.ireturn, 1) → W p l e rJ3_checkIndex_8e157 s m args below meth c H locs 0 0 Q (F0 m pc ls [.int a]) := by
    intro a k H locs pc ls e1 hM hS hd
    cases e1
    exact hQ H locs pc ls hM hS hd
  unfold xJ3_checkIndex_8e157 at hf
  refine lv_iload_n hx hb dJ3_checkIndex_8e157_0 rfl (lv_at hl 0 rfl) ?_
  refine lv_if_lt (tgt := 9) hx hb dJ3_checkIndex_8e157_1 (by decide) (fun c1 => ?_) (fun c1 => ?_)
  · replace hf := ift hf c1
    cases hf
  · replace hf := iff_ hf c1
    refine lv_iload_n hx hb dJ3_checkIndex_8e157_4 rfl (lv_at hl 0 rfl) ?_
    refine lv_iload_n hx hb dJ3_checkIndex_8e157_5 rfl (lv_at hl 1 rfl) ?_
    refine lv_icmp_lt (tgt := 16) hx hb dJ3_checkIndex_8e157_6 (by decide) (fun c2 => ?_) (fun c2 => ?_)
    · replace hf := ift hf c2
      refine lv_iload_n hx hb dJ3_checkIndex_8e157_16 rfl (lv_at hl 0 rfl) ?_
      exact hQf hf hM hS dJ3_checkIndex_8e157_17
    · replace hf := iff_ hf c2
      cases hf

abbrev rJ0_checkIndex_df160 : Room := { frames := 1, cells := 0, slots := 0, locals := 22 }
set_option maxRecDepth 100000 in
set_option maxHeartbeats 4000000 in
theorem kJ0_checkIndex_df160 (l : Launch) (G : zG) (A : Nat → Prop) (hG : zVb G) (V : zV3) (h : zV2) (p1 : Int32) (p2 : Int32) {r : Unit} {h' : zV2} (hf : xJ0_checkIndex_df160 h p1 p2 = some (r, h')) : zCt l G A yJ0_checkIndex_df160 cJ0_checkIndex_df160 2 none rJ0_checkIndex_df160 [.int p1, .int p2] (upG V 7 h) none (upG V 7 h') := by
  refine z_CFV (by decide +kernel) (Nat.le_of_ble_eq_true rfl) ?_
  intro p e s m args below meth c Q hx hb hml hown hL hK hM hS hQ ls hl
  replace hl : lv_has ls 2 [(0, .int p1), (1, .int p2)] := hl
  have hQf : ∀ {a : Unit} {k : zV2} {H : Heap} {locs : List Loc} {pc : Nat} {ls : Array Slot}, some (a, k) = some (r, h') → zM G (upG V 7 k) H → va_S A s.heap H locs → decode cJ0_checkIndex_df160 pc = .ok (.return_, 1) → W p l e rJ0_checkIndex_df160 s m args below meth c H locs 0 0 Q (F0 m pc ls []) := by
    intro a k H locs pc ls e1 hM hS hd
    cases e1
    exact hQ H locs pc ls hM hS hd
  unfold xJ0_checkIndex_df160 at hf
  refine lv_iload_n hx hb dJ0_checkIndex_df160_0 rfl (lv_at hl 0 rfl) ?_
  refine lv_iload_n hx hb dJ0_checkIndex_df160_1 rfl (lv_at hl 1 rfl) ?_
  obtain ⟨fm1, hfm1⟩ := hG.2.2.2.2.2.2
  refine va_gets (v := va_rf fm1) hx hb (hK.2.2.2.1 _ hfm1) hS hown (hL _ zw3_194) (fun _ h9 => h9) dJ0_checkIndex_df160_2 ?_
  obtain ⟨r2, h4, hc3, hf⟩ := bnd_some hf
  refine z_callS (As := [.int p1, .int p2, va_rf fm1]) (rest := []) hx hb hml hown hL hK hM hS (kJ3_checkIndex_8e157 l G A hG V fm1 h p1 p2 hc3) (zg_J3_checkIndex_8e157 zw3_196) zy_J3_checkIndex_8e157 ⟨rfl, rfl⟩ ⟨Nat.le_of_ble_eq_true rfl, Nat.le_of_ble_eq_true rfl⟩ rfl hl.1 rfl (Nat.le_of_ble_eq_true rfl) dJ0_checkIndex_df160_5 ⟨Nat.zero_le _, Nat.zero_le _⟩ (fun H locs hM hS => ?_)
  refine W.eq (g2 := F0 m 8 ls [.int r2]) rfl ?_
  refine lv_pop hx hb dJ0_checkIndex_df160_8 rfl ?_
  exact hQf hf hM hS dJ0_checkIndex_df160_9

abbrev rJ1_charAt_3b067 : Room := { frames := 2, cells := 0, slots := 0, locals := 43 }
set_option maxRecDepth 100000 in
set_option maxHeartbeats 4000000 in
theorem kJ1_charAt_3b067 (l : Launch) (G : zG) (A : Nat → Prop) (hG : zVb G) (V : zV3) (n1 : Nat) (hn1 : n1 < 8) (h : zV2) (p2 : Int32) {r : Int32} {h' : zV2} (hf : xJ1_charAt_3b067 n1 h p2 = some (r, h')) : zCt l G A yJ1_charAt_3b067 cJ1_charAt_3b067 2 (some .char) rJ1_charAt_3b067 [.ref (gE G (20 + n1)), .int p2] (upG V 7 h) (some (.int r)) (upG V 7 h') := by
  refine z_CFZ (by decide +kernel) (Nat.le_of_ble_eq_true rfl) ?_
  intro p e s m args below meth c Q hx hb hml hown hL hK hM hS hQ ls hl
  replace hl : lv_has ls 2 [(0, .ref (gE G (20 + n1))), (1, .int p2)] := hl
  have hQf : ∀ {a : Int32} {k : zV2} {H : Heap} {locs : List Loc} {pc : Nat} {ls : Array Slot}, narrow .char (.int a) = .int a → some (a, k) = some (r, h') → zM G (upG V 7 k) H → va_S A s.heap H locs → decode cJ1_charAt_3b067 pc = .ok (.ireturn, 1) → W p l e rJ1_charAt_3b067 s m args below meth c H locs 0 0 Q (F0 m pc ls [.int a]) := by
    intro a k H locs pc ls hnr e1 hM hS hd
    cases e1
    exact hQ H locs pc ls hnr hM hS hd
  unfold xJ1_charAt_3b067 at hf
  refine lv_iload_n hx hb dJ1_charAt_3b067_0 rfl (lv_at hl 1 rfl) ?_
  refine lv_aload_n hx hb dJ1_charAt_3b067_1 rfl (lv_at hl 0 rfl) ?_
  refine va_tlen hx hb (zs_bytes hK hG hn1) hS (v := nI (wlen n1)) rfl dJ1_charAt_3b067_2 ?_
  obtain ⟨r1, h3, hc2, hf⟩ := bnd_some hf
  refine z_callS (As := [.int p2, .int (nI (wlen n1))]) (rest := []) hx hb hml hown hL hK hM hS (kJ0_checkIndex_df160 l G A hG V h p2 (nI (wlen n1)) hc2) (zg_J0_checkIndex_df160 zw3_191) zy_J0_checkIndex_df160 ⟨rfl, rfl⟩ ⟨Nat.le_of_ble_eq_true rfl, Nat.le_of_ble_eq_true rfl⟩ rfl hl.1 rfl (Nat.le_of_ble_eq_true rfl) dJ1_charAt_3b067_3 ⟨Nat.zero_le _, Nat.zero_le _⟩ (fun H locs hM hS => ?_)
  refine W.eq (g2 := F0 m 6 ls []) rfl ?_
  refine lv_aload_n hx hb dJ1_charAt_3b067_6 rfl (lv_at hl 0 rfl) ?_
  refine lv_iload_n hx hb dJ1_charAt_3b067_7 rfl (lv_at hl 1 rfl) ?_
  obtain ⟨hb4, hf⟩ := grd_some hf
  refine va_tb (v := .int (wbyt n1 (p2.toNatClampNeg))) hx hb (zs_bytes hK hG hn1) hS (inb_in hb4) rfl dJ1_charAt_3b067_8 ?_
  refine lv_sipush (v := 255) hx hb dJ1_charAt_3b067_9 (by decide) ?_
  refine lv_iand hx hb dJ1_charAt_3b067_12 ?_
  refine lv_i2c (v := (((wbyt n1 (p2.toNatClampNeg)) &&& (255 : Int32)).toUInt32 % 65536).toInt32) hx hb dJ1_charAt_3b067_13 rfl ?_
  obtain ⟨hb5, hf⟩ := grd_some hf
  exact hQf (isc_z hb5) hf hM hS dJ1_charAt_3b067_14

abbrev rJ0_charAt_5068e : Room := { frames := 3, cells := 0, slots := 0, locals := 64 }
set_option maxRecDepth 100000 in
set_option maxHeartbeats 4000000 in
theorem kJ0_charAt_5068e (l : Launch) (G : zG) (A : Nat → Prop) (hG : zVb G) (V : zV3) (v : Nat) (hv : v < 8) (h : zV2) (p1 : Int32) {r : Int32} {h' : zV2} (hf : xJ0_charAt_5068e v h p1 = some (r, h')) : zCt l G A yJ0_charAt_5068e cJ0_charAt_5068e 2 (some .char) rJ0_charAt_5068e [.ref (gE G (10 + v)), .int p1] (upG V 7 h) (some (.int r)) (upG V 7 h') := by
  refine z_CFZ (by decide +kernel) (Nat.le_of_ble_eq_true rfl) ?_
  intro p e s m args below meth c Q hx hb hml hown hL hK hM hS hQ ls hl
  replace hl : lv_has ls 2 [(0, .ref (gE G (10 + v))), (1, .int p1)] := hl
  have hQf : ∀ {a : Int32} {k : zV2} {H : Heap} {locs : List Loc} {pc : Nat} {ls : Array Slot}, narrow .char (.int a) = .int a → some (a, k) = some (r, h') → zM G (upG V 7 k) H → va_S A s.heap H locs → decode cJ0_charAt_5068e pc = .ok (.ireturn, 1) → W p l e rJ0_charAt_5068e s m args below meth c H locs 0 0 Q (F0 m pc ls [.int a]) := by
    intro a k H locs pc ls hnr e1 hM hS hd
    cases e1
    exact hQ H locs pc ls hnr hM hS hd
  unfold xJ0_charAt_5068e at hf
  refine lv_aload_n hx hb dJ0_charAt_5068e_0 rfl (lv_at hl 0 rfl) ?_
  obtain ⟨r1, h3, hc2, hf⟩ := bnd_some hf
  refine z_callV (As := []) (rest := []) (C := RJ0) hx hb hml hown hL hK hM hS (kJ0_isLatin1_aae02 l G A hG V v hv h hc2) (zg_J0_isLatin1_aae02 zw3_184) zv_J0_isLatin1_aae02 ⟨rfl, rfl⟩ ⟨Nat.le_of_ble_eq_true rfl, Nat.le_of_ble_eq_true rfl⟩ (zs_recv (zs_sO hK hG hv) hS) rfl hl.1 rfl (Nat.le_of_ble_eq_true rfl) dJ0_charAt_5068e_1 ⟨Nat.zero_le _, Nat.zero_le _⟩ (fun H locs hM hS => ?_)
  refine W.eq (g2 := F0 m 4 ls [.int r1]) rfl ?_
  refine lv_if_eq (tgt := 16) hx hb dJ0_charAt_5068e_4 (by decide) (fun c4 => ?_) (fun c4 => ?_)
  · replace hf := ift hf c4
    refine lv_aload_n hx hb dJ0_charAt_5068e_16 rfl (lv_at hl 0 rfl) ?_
    refine vk_getf hx hb (zs_value hK hG hv) hS hown (hL _ zw5_184) (fun _ h9 => h9) dJ0_charAt_5068e_17 ?_
    refine lv_iload_n hx hb dJ0_charAt_5068e_20 rfl (lv_at hl 1 rfl) ?_
    cases hf
  · replace hf := iff_ hf c4
    refine lv_aload_n hx hb dJ0_charAt_5068e_7 rfl (lv_at hl 0 rfl) ?_
    refine vk_getf hx hb (zs_value hK hG hv) hS hown (hL _ zw5_184) (fun _ h9 => h9) dJ0_charAt_5068e_8 ?_
    refine lv_iload_n hx hb dJ0_charAt_5068e_11 rfl (lv_at hl 1 rfl) ?_
    obtain ⟨r5, h7, hc6, hf⟩ := bnd_some hf
    refine z_callS (As := [.ref (gE G (20 + v)), .int p1]) (rest := []) hx hb hml hown hL hK hM hS (kJ1_charAt_3b067 l G A hG V v hv h3 p1 hc6) (zg_J1_charAt_3b067 zw3_188) zy_J1_charAt_3b067 ⟨rfl, rfl⟩ ⟨Nat.le_of_ble_eq_true rfl, Nat.le_of_ble_eq_true rfl⟩ rfl hl.1 rfl (Nat.le_of_ble_eq_true rfl) dJ0_charAt_5068e_12 ⟨Nat.zero_le _, Nat.zero_le _⟩ (fun H locs hM hS => ?_)
    refine W.eq (g2 := F0 m 15 ls [.int r5]) rfl ?_
    obtain ⟨hb8, hf⟩ := grd_some hf
    exact hQf (isc_z hb8) hf hM hS dJ0_charAt_5068e_15

abbrev rX7_hasWordAt : Room := { frames := 4, cells := 0, slots := 0, locals := 85 }
set_option maxRecDepth 100000 in
set_option maxHeartbeats 4000000 in
theorem kX7_hasWordAt (l : Launch) (G : zG) (A : Nat → Prop) (hG : zVb G) (V : zV3) (n2 : Nat) (hn2 : n2 < 8) (h : zV2) (p1 : Int32) {r : Int32} {h' : zV2} (hf : xX7_hasWordAt n2 h p1 = some (r, h')) : zCt l G A yX7_hasWordAt cX7_hasWordAt 4 (some .boolean) rX7_hasWordAt [.ref (gA G 13 0 0), .int p1, .ref (gE G (10 + n2))] (upG V 7 h) (some (.int r)) (upG V 7 h') := by
  refine z_CtZ (by decide) (Nat.le_of_ble_eq_true rfl) ?_
  intro p e s m args below meth c Q hx hb hml hown hL hK hM hS hQ ls hl
  replace hl : lv_has ls 4 [(0, .ref (gA G 13 0 0)), (1, .int p1), (2, .ref (gE G (10 + n2)))] := hl
  have hQf : ∀ {a : Int32} {k : zV2} {H : Heap} {locs : List Loc} {pc : Nat} {ls : Array Slot}, narrow .boolean (.int a) = .int a → some (a, k) = some (r, h') → zM G (upG V 7 k) H → va_S A s.heap H locs → decode cX7_hasWordAt pc = .ok (.ireturn, 1) → W p l e rX7_hasWordAt s m args below meth c H locs 0 0 Q (F0 m pc ls [.int a]) := by
    intro a k H locs pc ls hnr e1 hM hS hd
    cases e1
    exact hQ H locs pc ls hnr hM hS hd
  have L2 : ∀ (n : Nat) (h : zV2) (n2 : Nat) (a3 : Int32), n2 < 8 → xX7_hasWordAt_L2 n2 p1 n h n2 a3 = some (r, h') → ∀ (H : Heap) (locs : List Loc) (ls : Array Slot), zM G (upG V 7 h) H → va_S A s.heap H locs → lv_has ls 4 [(0, .ref (gA G 13 0 0)), (1, .int p1), (2, .ref (gE G (10 + n2))), (3, .int a3)] → W p l e rX7_hasWordAt s m args below meth c H locs 0 0 Q (F0 m 2 ls []) := by
    intro n
    induction n with
    | zero =>
      intro h n2 a3 hn2 hf H locs ls hM hS hl
      rw [xX7_hasWordAt_L2] at hf
      cases hf
    | succ n ih =>
      intro h n2 a3 hn2 hf H locs ls hM hS hl
      rw [xX7_hasWordAt_L2] at hf
      refine lv_iload_n hx hb dX7_hasWordAt_2 rfl (lv_at hl 3 rfl) ?_
      refine lv_aload_n hx hb dX7_hasWordAt_3 rfl (lv_at hl 2 rfl) ?_
      obtain ⟨r1, h3, hc2, hf⟩ := bnd_some hf
      refine z_callV (As := []) (rest := [.int a3]) (C := RJ0) hx hb hml hown hL hK hM hS (kJ0_length_8abf5 l G A hG V n2 hn2 h hc2) (zg_J0_length_8abf5 zw3_166) zv_J0_length_8abf5 ⟨rfl, rfl⟩ ⟨Nat.le_of_ble_eq_true rfl, Nat.le_of_ble_eq_true rfl⟩ (zs_recv (zs_sO hK hG hn2) hS) rfl hl.1 rfl (Nat.le_of_ble_eq_true rfl) dX7_hasWordAt_4 ⟨Nat.zero_le _, Nat.zero_le _⟩ (fun H locs hM hS => ?_)
      refine W.eq (g2 := F0 m 7 ls [.int r1, .int a3]) rfl ?_
      refine lv_icmp_ge (tgt := 33) hx hb dX7_hasWordAt_7 (by decide) (fun c4 => ?_) (fun c4 => ?_)
      · replace hf := ift hf c4
        refine lv_iconst (v := 1) hx hb dX7_hasWordAt_33 (by decide) ?_
        exact hQf rfl hf hM hS dX7_hasWordAt_34
      · replace hf := iff_ hf c4
        refine lv_aload_n hx hb dX7_hasWordAt_10 rfl (lv_at hl 0 rfl) ?_
        refine lv_iload_n hx hb dX7_hasWordAt_11 rfl (lv_at hl 1 rfl) ?_
        refine lv_iload_n hx hb dX7_hasWordAt_12 rfl (lv_at hl 3 rfl) ?_
        refine lv_iadd hx hb dX7_hasWordAt_13 ?_
        obtain ⟨r5, h7, hc6, hf⟩ := bnd_some hf
        refine z_callV (As := [.int (p1 + a3)]) (rest := []) (C := RX7) hx hb hml hown hL hK hM hS (kX7_signAt l G A V h3 (p1 + a3) hc6) (zg_X7_signAt zw3_176) zv_X7_signAt ⟨rfl, rfl⟩ ⟨Nat.le_of_ble_eq_true rfl, Nat.le_of_ble_eq_true rfl⟩ (hM.recv hK dm_13 (ze_13 G V 0 0 h3) rfl) rfl hl.1 rfl (Nat.le_of_ble_eq_true rfl) dX7_hasWordAt_14 ⟨Nat.zero_le _, Nat.zero_le _⟩ (fun H locs hM hS => ?_)
        refine W.eq (g2 := F0 m 17 ls [.int r5]) rfl ?_
        refine lv_aload_n hx hb dX7_hasWordAt_17 rfl (lv_at hl 2 rfl) ?_
        refine lv_iload_n hx hb dX7_hasWordAt_18 rfl (lv_at hl 3 rfl) ?_
        obtain ⟨r8, h10, hc9, hf⟩ := bnd_some hf
        refine z_callV (As := [.int a3]) (rest := [.int r5]) (C := RJ0) hx hb hml hown hL hK hM hS (kJ0_charAt_5068e l G A hG V n2 hn2 h7 a3 hc9) (zg_J0_charAt_5068e zw3_180) zv_J0_charAt_5068e ⟨rfl, rfl⟩ ⟨Nat.le_of_ble_eq_true rfl, Nat.le_of_ble_eq_true rfl⟩ (zs_recv (zs_sO hK hG hn2) hS) rfl hl.1 rfl (Nat.le_of_ble_eq_true rfl) dX7_hasWordAt_19 ⟨Nat.zero_le _, Nat.zero_le _⟩ (fun H locs hM hS => ?_)
        refine W.eq (g2 := F0 m 22 ls [.int r8, .int r5]) rfl ?_
        refine lv_icmp_eq (tgt := 27) hx hb dX7_hasWordAt_22 (by decide) (fun c11 => ?_) (fun c11 => ?_)
        · replace hf := ift hf c11
          obtain ⟨y12, ey12⟩ : ∃ y : Int32, y = a3 + (1 : Int32) := ⟨_, rfl⟩
          replace hf := ltI_some hf ey12
          refine lv_iinc (v := y12) (lv' := [(3, .int y12), (0, .ref (gA G 13 0 0)), (1, .int p1), (2, .ref (gE G (10 + n2)))]) hx hb dX7_hasWordAt_27 hl (k := 3) rfl (by rw [ey12]; rfl) (by decide) rfl (fun ls hl => ?_)
          refine lv_goto (tgt := 2) hx hb dX7_hasWordAt_30 (by decide) ?_
          exact ih h10 n2 y12 hn2 hf _ _ _ hM hS (lv_sub hl [1, 2, 3, 0] rfl)
        · replace hf := iff_ hf c11
          refine lv_iconst (v := 0) hx hb dX7_hasWordAt_25 (by decide) ?_
          exact hQf rfl hf hM hS dX7_hasWordAt_26
  unfold xX7_hasWordAt at hf
  refine lv_iconst (v := 0) hx hb dX7_hasWordAt_0 (by decide) ?_
  refine lv_istore_n (lv' := [(3, .int (0 : Int32)), (0, .ref (gA G 13 0 0)), (1, .int p1), (2, .ref (gE G (10 + n2)))]) hx hb dX7_hasWordAt_1 rfl hl (by decide) rfl (fun ls hl => ?_)
  exact L2 1000 h n2 (0 : Int32) hn2 hf _ _ _ hM hS (lv_sub hl [1, 2, 3, 0] rfl)

abbrev rX7_verbAt : Room := { frames := 5, cells := 0, slots := 0, locals := 108 }
set_option maxRecDepth 100000 in
set_option maxHeartbeats 4000000 in
theorem kX7_verbAt (l : Launch) (G : zG) (A : Nat → Prop) (hG : zVb G) (V : zV3) (h : zV2) (p1 : Int32) {r : Option Nat} {h' : zV2} (hf : xX7_verbAt h p1 = some (r, h')) : zCt l G A yX7_verbAt cX7_verbAt 3 (some (.object "LockerChains$Verb")) rX7_verbAt [.ref (gA G 13 0 0), .int p1] (upG V 7 h) (some (va_rf (r.map (gE G)))) (upG V 7 h') := by
  refine z_CtQ (by decide) (Nat.le_of_ble_eq_true rfl) ?_
  intro p e s m args below meth c Q hx hb hml hown hL hK hM hS hQ ls hl
  replace hl : lv_has ls 3 [(0, .ref (gA G 13 0 0)), (1, .int p1)] := hl
  have hQf : ∀ {a : Option Nat} {k : zV2} {H : Heap} {locs : List Loc} {pc : Nat} {ls : Array Slot}, some (a, k) = some (r, h') → zM G (upG V 7 k) H → va_S A s.heap H locs → decode cX7_verbAt pc = .ok (.areturn, 1) → W p l e rX7_verbAt s m args below meth c H locs 0 0 Q (F0 m pc ls [va_rf (a.map (gE G))]) := by
    intro a k H locs pc ls e1 hM hS hd
    cases e1
    exact hQ H locs pc ls hM hS hd
  have L2 : ∀ (n : Nat) (h : zV2) (a2 : Int32), xX7_verbAt_L2 p1 n h a2 = some (r, h') → ∀ (H : Heap) (locs : List Loc) (ls : Array Slot), zM G (upG V 7 h) H → va_S A s.heap H locs → lv_has ls 3 [(0, .ref (gA G 13 0 0)), (1, .int p1), (2, .int a2)] → W p l e rX7_verbAt s m args below meth c H locs 0 0 Q (F0 m 2 ls []) := by
    intro n
    induction n with
    | zero =>
      intro h a2 hf H locs ls hM hS hl
      rw [xX7_verbAt_L2] at hf
      cases hf
    | succ n ih =>
      intro h a2 hf H locs ls hM hS hl
      rw [xX7_verbAt_L2] at hf
      refine lv_iload_n hx hb dX7_verbAt_2 rfl (lv_at hl 2 rfl) ?_
      refine va_gets (v := .ref (gE G 8)) hx hb (zs_VERBS hK hG) hS hown (hL _ zw3_160) (fun _ h9 => h9) dX7_verbAt_3 ?_
      refine va_tlen hx hb (zs_verbs hK hG) hS (v := 8) rfl dX7_verbAt_6 ?_
      refine lv_icmp_ge (tgt := 38) hx hb dX7_verbAt_7 (by decide) (fun c1 => ?_) (fun c1 => ?_)
      · replace hf := ift hf c1
        refine lv_null hx hb dX7_verbAt_38 ?_
        exact hQf (a := none) hf hM hS dX7_verbAt_39
      · replace hf := iff_ hf c1
        refine lv_aload_n hx hb dX7_verbAt_10 rfl (lv_at hl 0 rfl) ?_
        refine lv_iload_n hx hb dX7_verbAt_11 rfl (lv_at hl 1 rfl) ?_
        refine va_gets (v := .ref (gE G 8)) hx hb (zs_VERBS hK hG) hS hown (hL _ zw3_160) (fun _ h9 => h9) dX7_verbAt_12 ?_
        refine lv_iload_n hx hb dX7_verbAt_15 rfl (lv_at hl 2 rfl) ?_
        obtain ⟨hb2, hf⟩ := grd_some hf
        refine vb_tq (v := .ref (gE G a2.toNatClampNeg)) hx hb (zs_verbs hK hG) hS (inb_in hb2) rfl dX7_verbAt_16 ?_
        refine z_getFN hx hb hK (zs_word hK hG (inb_lt hb2)) hS hown 31 rfl dX7_verbAt_17 ?_
        obtain ⟨r3, h5, hc4, hf⟩ := bnd_some hf
        refine z_callV (As := [.int p1, .ref (gE G (10 + a2.toNatClampNeg))]) (rest := []) (C := RX7) hx hb hml hown hL hK hM hS (kX7_hasWordAt l G A hG V a2.toNatClampNeg (inb_lt hb2) h p1 hc4) (zg_X7_hasWordAt zw3_162) zv_X7_hasWordAt ⟨rfl, rfl⟩ ⟨Nat.le_of_ble_eq_true rfl, Nat.le_of_ble_eq_true rfl⟩ (hM.recv hK dm_13 (ze_13 G V 0 0 h) rfl) rfl hl.1 rfl (Nat.le_of_ble_eq_true rfl) dX7_verbAt_20 ⟨Nat.zero_le _, Nat.zero_le _⟩ (fun H locs hM hS => ?_)
        refine W.eq (g2 := F0 m 23 ls [.int r3]) rfl ?_
        refine lv_if_eq (tgt := 32) hx hb dX7_verbAt_23 (by decide) (fun c6 => ?_) (fun c6 => ?_)
        · replace hf := ift hf c6
          obtain ⟨y7, ey7⟩ : ∃ y : Int32, y = a2 + (1 : Int32) := ⟨_, rfl⟩
          replace hf := ltI_some hf ey7
          refine lv_iinc (v := y7) (lv' := [(2, .int y7), (0, .ref (gA G 13 0 0)), (1, .int p1)]) hx hb dX7_verbAt_32 hl (k := 2) rfl (by rw [ey7]; rfl) (by decide) rfl (fun ls hl => ?_)
          refine lv_goto (tgt := 2) hx hb dX7_verbAt_35 (by decide) ?_
          exact ih h5 y7 hf _ _ _ hM hS (lv_sub hl [1, 2, 0] rfl)
        · replace hf := iff_ hf c6
          refine va_gets (v := .ref (gE G 8)) hx hb (zs_VERBS hK hG) hS hown (hL _ zw3_160) (fun _ h9 => h9) dX7_verbAt_26 ?_
          refine lv_iload_n hx hb dX7_verbAt_29 rfl (lv_at hl 2 rfl) ?_
          obtain ⟨hb8, hf⟩ := grd_some hf
          refine vb_tq (v := .ref (gE G a2.toNatClampNeg)) hx hb (zs_verbs hK hG) hS (inb_in hb8) rfl dX7_verbAt_30 ?_
          exact hQf (a := some a2.toNatClampNeg) hf hM hS dX7_verbAt_31
  unfold xX7_verbAt at hf
  refine lv_iconst (v := 0) hx hb dX7_verbAt_0 (by decide) ?_
  refine lv_istore_n (lv' := [(2, .int (0 : Int32)), (0, .ref (gA G 13 0 0)), (1, .int p1)]) hx hb dX7_verbAt_1 rfl hl (by decide) rfl (fun ls hl => ?_)
  exact L2 1000 h (0 : Int32) hf _ _ _ hM hS (lv_sub hl [1, 2, 0] rfl)

abbrev rX7_readCommand : Room := { frames := 6, cells := 0, slots := 0, locals := 130 }
set_option maxRecDepth 100000 in
set_option maxHeartbeats 4000000 in
theorem kX7_readCommand (l : Launch) (G : zG) (A : Nat → Prop) (hG : zVb G) (V : zV3) (h : zV2) (p1 : Int32) {r : Int32} {h' : zV2} (hf : xX7_readCommand h p1 = some (r, h')) : zCt l G A yX7_readCommand cX7_readCommand 2 (some .boolean) rX7_readCommand [.ref (gA G 13 0 0), .int p1] (upG V 7 h) (some (.int r)) (upG V 7 h') := by
  refine z_CtZ (by decide) (Nat.le_of_ble_eq_true rfl) ?_
  intro p e s m args below meth c Q hx hb hml hown hL hK hM hS hQ ls hl
  replace hl : lv_has ls 2 [(0, .ref (gA G 13 0 0)), (1, .int p1)] := hl
  have hQf : ∀ {a : Int32} {k : zV2} {H : Heap} {locs : List Loc} {pc : Nat} {ls : Array Slot}, narrow .boolean (.int a) = .int a → some (a, k) = some (r, h') → zM G (upG V 7 k) H → va_S A s.heap H locs → decode cX7_readCommand pc = .ok (.ireturn, 1) → W p l e rX7_readCommand s m args below meth c H locs 0 0 Q (F0 m pc ls [.int a]) := by
    intro a k H locs pc ls hnr e1 hM hS hd
    cases e1
    exact hQ H locs pc ls hnr hM hS hd
  have L77 : ∀ (h : zV2) (s0 : Int32), xX7_readCommand_L77 p1 h s0 = some (r, h') → ∀ (H : Heap) (locs : List Loc) (ls : Array Slot), zM G (upG V 7 h) H → va_S A s.heap H locs → lv_has ls 2 [(0, .ref (gA G 13 0 0))] → W p l e rX7_readCommand s m args below meth c H locs 0 0 Q (F0 m 77 ls [.int s0, .ref (gA G 13 0 0)]) := by
    intro h s0 hf H locs ls hM hS hl
    unfold xX7_readCommand_L77 at hf
    obtain ⟨h1, eh1⟩ : ∃ y, y = up2 h 6 0 s0 := ⟨_, rfl⟩
    replace hf := put2_some hf eh1
    refine z_put (own := RX7) (C := RX7) (T := TX7) (N := 6) (ci := 6) (V' := upG V 7 h1) hx hb hL inX7 tyX7 tyX7_ok nmX7 hown hK hM hS dm_13 (ze_13 G V 0 0 h) rfl 4 (by decide) (hL _ zw1_195) rfl rfl rfl rfl (Nat.le_of_ble_eq_true rfl) (by rw [eh1]; exact zn_13_6 G V h s0) dX7_readCommand_77 (fun H locs hM hS => ?_)
    refine lv_aload_n hx hb dX7_readCommand_80 rfl (lv_at hl 0 rfl) ?_
    refine z_get (own := RX7) (C := RX7) (T := TX7) (N := 6) (ci := 6) (v := .int (h1 5 0)) hx hb hL inX7 hown hK hM dm_13 (ze_13 G V 0 0 h1) rfl 3 (by decide) (hL _ zw1_192) rfl rfl dX7_readCommand_81 ?_
    refine lv_iconst (v := -1) hx hb dX7_readCommand_84 (by decide) ?_
    refine lv_icmp_eq (tgt := 109) hx hb dX7_readCommand_85 (by decide) (fun c2 => ?_) (fun c2 => ?_)
    · replace hf := ift hf c2
      refine lv_iconst (v := 0) hx hb dX7_readCommand_109 (by decide) ?_
      exact hQf rfl hf hM hS dX7_readCommand_110
    · replace hf := iff_ hf c2
      refine lv_aload_n hx hb dX7_readCommand_88 rfl (lv_at hl 0 rfl) ?_
      refine z_get (own := RX7) (C := RX7) (T := TX7) (N := 6) (ci := 6) (v := .int (h1 6 0)) hx hb hL inX7 hown hK hM dm_13 (ze_13 G V 0 0 h1) rfl 4 (by decide) (hL _ zw1_195) rfl rfl dX7_readCommand_89 ?_
      refine lv_iconst (v := -1) hx hb dX7_readCommand_92 (by decide) ?_
      refine lv_icmp_eq (tgt := 109) hx hb dX7_readCommand_93 (by decide) (fun c3 => ?_) (fun c3 => ?_)
      · replace hf := ift hf c3
        refine lv_iconst (v := 0) hx hb dX7_readCommand_109 (by decide) ?_
        exact hQf rfl hf hM hS dX7_readCommand_110
      · replace hf := iff_ hf c3
        refine lv_aload_n hx hb dX7_readCommand_96 rfl (lv_at hl 0 rfl) ?_
        refine lv_aload_n hx hb dX7_readCommand_97 rfl (lv_at hl 0 rfl) ?_
        refine z_get (own := RX7) (C := RX7) (T := TX7) (N := 6) (ci := 6) (v := .int (h1 7 0)) hx hb hL inX7 hown hK hM dm_13 (ze_13 G V 0 0 h1) rfl 5 (by decide) (hL _ zw1_196) rfl rfl dX7_readCommand_98 ?_
        obtain ⟨r4, h6, hc5, hf⟩ := bnd_some hf
        refine z_callV (As := [.int (h1 7 0)]) (rest := []) (C := RX7) hx hb hml hown hL hK hM hS (kX7_signAt l G A V h1 (h1 7 0) hc5) (zg_X7_signAt zw3_176) zv_X7_signAt ⟨rfl, rfl⟩ ⟨Nat.le_of_ble_eq_true rfl, Nat.le_of_ble_eq_true rfl⟩ (hM.recv hK dm_13 (ze_13 G V 0 0 h1) rfl) rfl hl.1 rfl (Nat.le_of_ble_eq_true rfl) dX7_readCommand_101 ⟨Nat.zero_le _, Nat.zero_le _⟩ (fun H locs hM hS => ?_)
        refine W.eq (g2 := F0 m 104 ls [.int r4]) rfl ?_
        refine lv_bipush (v := 59) hx hb dX7_readCommand_104 (by decide) ?_
        refine lv_icmp_eq (tgt := 111) hx hb dX7_readCommand_106 (by decide) (fun c7 => ?_) (fun c7 => ?_)
        · replace hf := ift hf c7
          refine lv_aload_n hx hb dX7_readCommand_111 rfl (lv_at hl 0 rfl) ?_
          refine lv_dup hx hb dX7_readCommand_112 rfl ?_
          refine z_get (own := RX7) (C := RX7) (T := TX7) (N := 6) (ci := 6) (v := .int (h6 7 0)) hx hb hL inX7 hown hK hM dm_13 (ze_13 G V 0 0 h6) rfl 5 (by decide) (hL _ zw1_196) rfl rfl dX7_readCommand_113 ?_
          refine lv_iconst (v := 1) hx hb dX7_readCommand_116 (by decide) ?_
          refine lv_iadd hx hb dX7_readCommand_117 ?_
          obtain ⟨h8, eh8⟩ : ∃ y, y = up2 h6 7 0 ((h6 7 0) + (1 : Int32)) := ⟨_, rfl⟩
          replace hf := put2_some hf eh8
          refine z_put (own := RX7) (C := RX7) (T := TX7) (N := 6) (ci := 6) (V' := upG V 7 h8) hx hb hL inX7 tyX7 tyX7_ok nmX7 hown hK hM hS dm_13 (ze_13 G V 0 0 h6) rfl 5 (by decide) (hL _ zw1_196) rfl rfl rfl rfl (Nat.le_of_ble_eq_true rfl) (by rw [eh8]; exact zn_13_7 G V h6 ((h6 7 0) + (1 : Int32))) dX7_readCommand_118 (fun H locs hM hS => ?_)
          refine lv_iconst (v := 1) hx hb dX7_readCommand_121 (by decide) ?_
          exact hQf rfl hf hM hS dX7_readCommand_122
        · replace hf := iff_ hf c7
          refine lv_iconst (v := 0) hx hb dX7_readCommand_109 (by decide) ?_
          exact hQf rfl hf hM hS dX7_readCommand_110
  have L54 : ∀ (h : zV2) (s0 : Int32), xX7_readCommand_L54 p1 h s0 = some (r, h') → ∀ (H : Heap) (locs : List Loc) (ls : Array Slot), zM G (upG V 7 h) H → va_S A s.heap H locs → lv_has ls 2 [(0, .ref (gA G 13 0 0))] → W p l e rX7_readCommand s m args below meth c H locs 0 0 Q (F0 m 54 ls [.int s0, .ref (gA G 13 0 0)]) := by
    intro h s0 hf H locs ls hM hS hl
    unfold xX7_readCommand_L54 at hf
    obtain ⟨h1, eh1⟩ : ∃ y, y = up2 h 5 0 s0 := ⟨_, rfl⟩
    replace hf := put2_some hf eh1
    refine z_put (own := RX7) (C := RX7) (T := TX7) (N := 6) (ci := 6) (V' := upG V 7 h1) hx hb hL inX7 tyX7 tyX7_ok nmX7 hown hK hM hS dm_13 (ze_13 G V 0 0 h) rfl 3 (by decide) (hL _ zw1_192) rfl rfl rfl rfl (Nat.le_of_ble_eq_true rfl) (by rw [eh1]; exact zn_13_5 G V h s0) dX7_readCommand_54 (fun H locs hM hS => ?_)
    refine lv_aload_n hx hb dX7_readCommand_57 rfl (lv_at hl 0 rfl) ?_
    refine lv_aload_n hx hb dX7_readCommand_58 rfl (lv_at hl 0 rfl) ?_
    refine z_get (own := RX7) (C := RX7) (T := TX7) (N := 6) (ci := 6) (v := zverb G (h1 4 0)) hx hb hL inX7 hown hK hM dm_13 (ze_13 G V 0 0 h1) rfl 2 (by decide) (hL _ zw1_190) rfl rfl dX7_readCommand_59 ?_
    rw [zverb_eq]
    rcases optm_split hf with ⟨ho2, hf⟩ | ⟨q3, ho2, hf⟩
    · rw [ho2]
      refine W.eq (g2 := F0 m 62 ls [.null, .ref (gA G 13 0 0)]) rfl ?_
      cases hf
    · rw [ho2]
      obtain ⟨hq3, hf⟩ := grd_some hf
      replace hq3 := of_decide_eq_true hq3
      refine W.eq (g2 := F0 m 62 ls [.ref (gE G q3), .ref (gA G 13 0 0)]) rfl ?_
      refine z_getFN hx hb hK (zs_numbers hK hG hq3) hS hown 32 rfl dX7_readCommand_62 ?_
      refine lv_iconst (v := 2) hx hb dX7_readCommand_65 (by decide) ?_
      refine lv_icmp_lt (tgt := 76) hx hb dX7_readCommand_66 (by decide) (fun c4 => ?_) (fun c4 => ?_)
      · replace hf := ift hf c4
        refine lv_iconst (v := 0) hx hb dX7_readCommand_76 (by decide) ?_
        exact L77 h1 (0 : Int32) hf _ _ _ hM hS (lv_sub hl [0] rfl)
      · replace hf := iff_ hf c4
        refine lv_aload_n hx hb dX7_readCommand_69 rfl (lv_at hl 0 rfl) ?_
        obtain ⟨r5, h7, hc6, hf⟩ := bnd_some hf
        refine z_callV (As := []) (rest := [.ref (gA G 13 0 0)]) (C := RX7) hx hb hml hown hL hK hM hS (kX7_readNumber l G A V h1 hc6) (zg_X7_readNumber zw3_218) zv_X7_readNumber ⟨rfl, rfl⟩ ⟨Nat.le_of_ble_eq_true rfl, Nat.le_of_ble_eq_true rfl⟩ (hM.recv hK dm_13 (ze_13 G V 0 0 h1) rfl) rfl hl.1 rfl (Nat.le_of_ble_eq_true rfl) dX7_readCommand_70 ⟨Nat.zero_le _, Nat.zero_le _⟩ (fun H locs hM hS => ?_)
        refine W.eq (g2 := F0 m 73 ls [.int r5, .ref (gA G 13 0 0)]) rfl ?_
        refine lv_goto (tgt := 77) hx hb dX7_readCommand_73 (by decide) ?_
        exact L77 h7 r5 hf _ _ _ hM hS (lv_sub hl [0] rfl)
  unfold xX7_readCommand at hf
  refine lv_aload_n hx hb dX7_readCommand_0 rfl (lv_at hl 0 rfl) ?_
  refine lv_aload_n hx hb dX7_readCommand_1 rfl (lv_at hl 0 rfl) ?_
  refine lv_iload_n hx hb dX7_readCommand_2 rfl (lv_at hl 1 rfl) ?_
  obtain ⟨r1, h3, hc2, hf⟩ := bnd_some hf
  refine z_callV (As := [.int p1]) (rest := [.ref (gA G 13 0 0)]) (C := RX7) hx hb hml hown hL hK hM hS (kX7_verbAt l G A hG V h p1 hc2) (zg_X7_verbAt zw3_156) zv_X7_verbAt ⟨rfl, rfl⟩ ⟨Nat.le_of_ble_eq_true rfl, Nat.le_of_ble_eq_true rfl⟩ (hM.recv hK dm_13 (ze_13 G V 0 0 h) rfl) rfl hl.1 rfl (Nat.le_of_ble_eq_true rfl) dX7_readCommand_3 ⟨Nat.zero_le _, Nat.zero_le _⟩ (fun H locs hM hS => ?_)
  cases r1 with
  | none =>
    replace hf := optm_none hf
    refine W.eq (g2 := F0 m 6 ls [.null, .ref (gA G 13 0 0)]) rfl ?_
    obtain ⟨h5, eh5⟩ : ∃ y, y = up2 h3 4 0 (0 : Int32) := ⟨_, rfl⟩
    replace hf := put2_some hf eh5
    refine z_put (own := RX7) (C := RX7) (T := TX7) (N := 6) (ci := 6) (V' := upG V 7 h5) hx hb hL inX7 tyX7 tyX7_ok nmX7 hown hK hM hS dm_13 (ze_13 G V 0 0 h3) rfl 2 (by decide) (hL _ zw1_190) rfl rfl rfl rfl (Nat.le_of_ble_eq_true rfl) (by rw [eh5]; exact zn_13_4 G V h3 (0 : Int32)) dX7_readCommand_6 (fun H locs hM hS => ?_)
    refine lv_aload_n hx hb dX7_readCommand_9 rfl (lv_at hl 0 rfl) ?_
    refine z_get (own := RX7) (C := RX7) (T := TX7) (N := 6) (ci := 6) (v := zverb G (h5 4 0)) hx hb hL inX7 hown hK hM dm_13 (ze_13 G V 0 0 h5) rfl 2 (by decide) (hL _ zw1_190) rfl rfl dX7_readCommand_10 ?_
    rw [zverb_eq]
    rcases optm_split hf with ⟨ho6, hf⟩ | ⟨q7, ho6, hf⟩
    · rw [ho6]
      refine W.eq (g2 := F0 m 13 ls [.null]) rfl ?_
      refine lv_ifnonnullN hx hb dX7_readCommand_13 ?_
      refine lv_iconst (v := 0) hx hb dX7_readCommand_16 (by decide) ?_
      exact hQf rfl hf hM hS dX7_readCommand_17
    · rw [ho6]
      obtain ⟨hq7, hf⟩ := grd_some hf
      replace hq7 := of_decide_eq_true hq7
      refine W.eq (g2 := F0 m 13 ls [.ref (gE G q7)]) rfl ?_
      refine lv_ifnonnull (tgt := 18) hx hb dX7_readCommand_13 (by decide) ?_
      refine lv_aload_n hx hb dX7_readCommand_18 rfl (lv_at hl 0 rfl) ?_
      refine lv_iload_n hx hb dX7_readCommand_19 rfl (lv_at hl 1 rfl) ?_
      refine lv_aload_n hx hb dX7_readCommand_20 rfl (lv_at hl 0 rfl) ?_
      refine z_get (own := RX7) (C := RX7) (T := TX7) (N := 6) (ci := 6) (v := zverb G (h5 4 0)) hx hb hL inX7 hown hK hM dm_13 (ze_13 G V 0 0 h5) rfl 2 (by decide) (hL _ zw1_190) rfl rfl dX7_readCommand_21 ?_
      rw [zverb_eq]
      rcases optm_split hf with ⟨ho8, hf⟩ | ⟨q9, ho8, hf⟩
      · rw [ho8]
        refine W.eq (g2 := F0 m 24 ls [.null, .int p1, .ref (gA G 13 0 0)]) rfl ?_
        cases hf
      · rw [ho8]
        obtain ⟨hq9, hf⟩ := grd_some hf
        replace hq9 := of_decide_eq_true hq9
        refine W.eq (g2 := F0 m 24 ls [.ref (gE G q9), .int p1, .ref (gA G 13 0 0)]) rfl ?_
        refine z_getFN hx hb hK (zs_word hK hG hq9) hS hown 31 rfl dX7_readCommand_24 ?_
        obtain ⟨r10, h12, hc11, hf⟩ := bnd_some hf
        refine z_callV (As := []) (rest := [.int p1, .ref (gA G 13 0 0)]) (C := RJ0) hx hb hml hown hL hK hM hS (kJ0_length_8abf5 l G A hG V q9 hq9 h5 hc11) (zg_J0_length_8abf5 zw3_166) zv_J0_length_8abf5 ⟨rfl, rfl⟩ ⟨Nat.le_of_ble_eq_true rfl, Nat.le_of_ble_eq_true rfl⟩ (zs_recv (zs_sO hK hG hq9) hS) rfl hl.1 rfl (Nat.le_of_ble_eq_true rfl) dX7_readCommand_27 ⟨Nat.zero_le _, Nat.zero_le _⟩ (fun H locs hM hS => ?_)
        refine W.eq (g2 := F0 m 30 ls [.int r10, .int p1, .ref (gA G 13 0 0)]) rfl ?_
        refine lv_iadd hx hb dX7_readCommand_30 ?_
        obtain ⟨h13, eh13⟩ : ∃ y, y = up2 h12 7 0 (p1 + r10) := ⟨_, rfl⟩
        replace hf := put2_some hf eh13
        refine z_put (own := RX7) (C := RX7) (T := TX7) (N := 6) (ci := 6) (V' := upG V 7 h13) hx hb hL inX7 tyX7 tyX7_ok nmX7 hown hK hM hS dm_13 (ze_13 G V 0 0 h12) rfl 5 (by decide) (hL _ zw1_196) rfl rfl rfl rfl (Nat.le_of_ble_eq_true rfl) (by rw [eh13]; exact zn_13_7 G V h12 (p1 + r10)) dX7_readCommand_31 (fun H locs hM hS => ?_)
        refine lv_aload_n hx hb dX7_readCommand_34 rfl (lv_at hl 0 rfl) ?_
        refine lv_aload_n hx hb dX7_readCommand_35 rfl (lv_at hl 0 rfl) ?_
        refine z_get (own := RX7) (C := RX7) (T := TX7) (N := 6) (ci := 6) (v := zverb G (h13 4 0)) hx hb hL inX7 hown hK hM dm_13 (ze_13 G V 0 0 h13) rfl 2 (by decide) (hL _ zw1_190) rfl rfl dX7_readCommand_36 ?_
        rw [zverb_eq]
        rcases optm_split hf with ⟨ho14, hf⟩ | ⟨q15, ho14, hf⟩
        · rw [ho14]
          refine W.eq (g2 := F0 m 39 ls [.null, .ref (gA G 13 0 0)]) rfl ?_
          cases hf
        · rw [ho14]
          obtain ⟨hq15, hf⟩ := grd_some hf
          replace hq15 := of_decide_eq_true hq15
          refine W.eq (g2 := F0 m 39 ls [.ref (gE G q15), .ref (gA G 13 0 0)]) rfl ?_
          refine z_getFN hx hb hK (zs_numbers hK hG hq15) hS hown 32 rfl dX7_readCommand_39 ?_
          refine lv_iconst (v := 1) hx hb dX7_readCommand_42 (by decide) ?_
          refine lv_icmp_lt (tgt := 53) hx hb dX7_readCommand_43 (by decide) (fun c16 => ?_) (fun c16 => ?_)
          · replace hf := ift hf c16
            refine lv_iconst (v := 0) hx hb dX7_readCommand_53 (by decide) ?_
            exact L54 h13 (0 : Int32) hf _ _ _ hM hS (lv_sub hl [0] rfl)
          · replace hf := iff_ hf c16
            refine lv_aload_n hx hb dX7_readCommand_46 rfl (lv_at hl 0 rfl) ?_
            obtain ⟨r17, h19, hc18, hf⟩ := bnd_some hf
            refine z_callV (As := []) (rest := [.ref (gA G 13 0 0)]) (C := RX7) hx hb hml hown hL hK hM hS (kX7_readNumber l G A V h13 hc18) (zg_X7_readNumber zw3_218) zv_X7_readNumber ⟨rfl, rfl⟩ ⟨Nat.le_of_ble_eq_true rfl, Nat.le_of_ble_eq_true rfl⟩ (hM.recv hK dm_13 (ze_13 G V 0 0 h13) rfl) rfl hl.1 rfl (Nat.le_of_ble_eq_true rfl) dX7_readCommand_47 ⟨Nat.zero_le _, Nat.zero_le _⟩ (fun H locs hM hS => ?_)
            refine W.eq (g2 := F0 m 50 ls [.int r17, .ref (gA G 13 0 0)]) rfl ?_
            refine lv_goto (tgt := 54) hx hb dX7_readCommand_50 (by decide) ?_
            exact L54 h19 r17 hf _ _ _ hM hS (lv_sub hl [0] rfl)
  | some q4 =>
    replace hf := optm_s hf
    obtain ⟨hq4, hf⟩ := grd_some hf
    replace hq4 := of_decide_eq_true hq4
    refine W.eq (g2 := F0 m 6 ls [.ref (gE G q4), .ref (gA G 13 0 0)]) rfl ?_
    obtain ⟨h20, eh20⟩ : ∃ y, y = up2 h3 4 0 (nI (q4 + 1)) := ⟨_, rfl⟩
    replace hf := put2_some hf eh20
    refine z_put (own := RX7) (C := RX7) (T := TX7) (N := 6) (ci := 6) (V' := upG V 7 h20) hx hb hL inX7 tyX7 tyX7_ok nmX7 hown hK hM hS dm_13 (ze_13 G V 0 0 h3) rfl 2 (by decide) (hL _ zw1_190) rfl rfl rfl rfl (Nat.le_of_ble_eq_true rfl) (by rw [eh20, ← zverb_some G hq4]; exact zn_13_4 G V h3 (nI (q4 + 1))) dX7_readCommand_6 (fun H locs hM hS => ?_)
    refine lv_aload_n hx hb dX7_readCommand_9 rfl (lv_at hl 0 rfl) ?_
    refine z_get (own := RX7) (C := RX7) (T := TX7) (N := 6) (ci := 6) (v := zverb G (h20 4 0)) hx hb hL inX7 hown hK hM dm_13 (ze_13 G V 0 0 h20) rfl 2 (by decide) (hL _ zw1_190) rfl rfl dX7_readCommand_10 ?_
    rw [zverb_eq]
    rcases optm_split hf with ⟨ho21, hf⟩ | ⟨q22, ho21, hf⟩
    · rw [ho21]
      refine W.eq (g2 := F0 m 13 ls [.null]) rfl ?_
      refine lv_ifnonnullN hx hb dX7_readCommand_13 ?_
      refine lv_iconst (v := 0) hx hb dX7_readCommand_16 (by decide) ?_
      exact hQf rfl hf hM hS dX7_readCommand_17
    · rw [ho21]
      obtain ⟨hq22, hf⟩ := grd_some hf
      replace hq22 := of_decide_eq_true hq22
      refine W.eq (g2 := F0 m 13 ls [.ref (gE G q22)]) rfl ?_
      refine lv_ifnonnull (tgt := 18) hx hb dX7_readCommand_13 (by decide) ?_
      refine lv_aload_n hx hb dX7_readCommand_18 rfl (lv_at hl 0 rfl) ?_
      refine lv_iload_n hx hb dX7_readCommand_19 rfl (lv_at hl 1 rfl) ?_
      refine lv_aload_n hx hb dX7_readCommand_20 rfl (lv_at hl 0 rfl) ?_
      refine z_get (own := RX7) (C := RX7) (T := TX7) (N := 6) (ci := 6) (v := zverb G (h20 4 0)) hx hb hL inX7 hown hK hM dm_13 (ze_13 G V 0 0 h20) rfl 2 (by decide) (hL _ zw1_190) rfl rfl dX7_readCommand_21 ?_
      rw [zverb_eq]
      rcases optm_split hf with ⟨ho23, hf⟩ | ⟨q24, ho23, hf⟩
      · rw [ho23]
        refine W.eq (g2 := F0 m 24 ls [.null, .int p1, .ref (gA G 13 0 0)]) rfl ?_
        cases hf
      · rw [ho23]
        obtain ⟨hq24, hf⟩ := grd_some hf
        replace hq24 := of_decide_eq_true hq24
        refine W.eq (g2 := F0 m 24 ls [.ref (gE G q24), .int p1, .ref (gA G 13 0 0)]) rfl ?_
        refine z_getFN hx hb hK (zs_word hK hG hq24) hS hown 31 rfl dX7_readCommand_24 ?_
        obtain ⟨r25, h27, hc26, hf⟩ := bnd_some hf
        refine z_callV (As := []) (rest := [.int p1, .ref (gA G 13 0 0)]) (C := RJ0) hx hb hml hown hL hK hM hS (kJ0_length_8abf5 l G A hG V q24 hq24 h20 hc26) (zg_J0_length_8abf5 zw3_166) zv_J0_length_8abf5 ⟨rfl, rfl⟩ ⟨Nat.le_of_ble_eq_true rfl, Nat.le_of_ble_eq_true rfl⟩ (zs_recv (zs_sO hK hG hq24) hS) rfl hl.1 rfl (Nat.le_of_ble_eq_true rfl) dX7_readCommand_27 ⟨Nat.zero_le _, Nat.zero_le _⟩ (fun H locs hM hS => ?_)
        refine W.eq (g2 := F0 m 30 ls [.int r25, .int p1, .ref (gA G 13 0 0)]) rfl ?_
        refine lv_iadd hx hb dX7_readCommand_30 ?_
        obtain ⟨h28, eh28⟩ : ∃ y, y = up2 h27 7 0 (p1 + r25) := ⟨_, rfl⟩
        replace hf := put2_some hf eh28
        refine z_put (own := RX7) (C := RX7) (T := TX7) (N := 6) (ci := 6) (V' := upG V 7 h28) hx hb hL inX7 tyX7 tyX7_ok nmX7 hown hK hM hS dm_13 (ze_13 G V 0 0 h27) rfl 5 (by decide) (hL _ zw1_196) rfl rfl rfl rfl (Nat.le_of_ble_eq_true rfl) (by rw [eh28]; exact zn_13_7 G V h27 (p1 + r25)) dX7_readCommand_31 (fun H locs hM hS => ?_)
        refine lv_aload_n hx hb dX7_readCommand_34 rfl (lv_at hl 0 rfl) ?_
        refine lv_aload_n hx hb dX7_readCommand_35 rfl (lv_at hl 0 rfl) ?_
        refine z_get (own := RX7) (C := RX7) (T := TX7) (N := 6) (ci := 6) (v := zverb G (h28 4 0)) hx hb hL inX7 hown hK hM dm_13 (ze_13 G V 0 0 h28) rfl 2 (by decide) (hL _ zw1_190) rfl rfl dX7_readCommand_36 ?_
        rw [zverb_eq]
        rcases optm_split hf with ⟨ho29, hf⟩ | ⟨q30, ho29, hf⟩
        · rw [ho29]
          refine W.eq (g2 := F0 m 39 ls [.null, .ref (gA G 13 0 0)]) rfl ?_
          cases hf
        · rw [ho29]
          obtain ⟨hq30, hf⟩ := grd_some hf
          replace hq30 := of_decide_eq_true hq30
          refine W.eq (g2 := F0 m 39 ls [.ref (gE G q30), .ref (gA G 13 0 0)]) rfl ?_
          refine z_getFN hx hb hK (zs_numbers hK hG hq30) hS hown 32 rfl dX7_readCommand_39 ?_
          refine lv_iconst (v := 1) hx hb dX7_readCommand_42 (by decide) ?_
          refine lv_icmp_lt (tgt := 53) hx hb dX7_readCommand_43 (by decide) (fun c31 => ?_) (fun c31 => ?_)
          · replace hf := ift hf c31
            refine lv_iconst (v := 0) hx hb dX7_readCommand_53 (by decide) ?_
            exact L54 h28 (0 : Int32) hf _ _ _ hM hS (lv_sub hl [0] rfl)
          · replace hf := iff_ hf c31
            refine lv_aload_n hx hb dX7_readCommand_46 rfl (lv_at hl 0 rfl) ?_
            obtain ⟨r32, h34, hc33, hf⟩ := bnd_some hf
            refine z_callV (As := []) (rest := [.ref (gA G 13 0 0)]) (C := RX7) hx hb hml hown hL hK hM hS (kX7_readNumber l G A V h28 hc33) (zg_X7_readNumber zw3_218) zv_X7_readNumber ⟨rfl, rfl⟩ ⟨Nat.le_of_ble_eq_true rfl, Nat.le_of_ble_eq_true rfl⟩ (hM.recv hK dm_13 (ze_13 G V 0 0 h28) rfl) rfl hl.1 rfl (Nat.le_of_ble_eq_true rfl) dX7_readCommand_47 ⟨Nat.zero_le _, Nat.zero_le _⟩ (fun H locs hM hS => ?_)
            refine W.eq (g2 := F0 m 50 ls [.int r32, .ref (gA G 13 0 0)]) rfl ?_
            refine lv_goto (tgt := 54) hx hb dX7_readCommand_50 (by decide) ?_
            exact L54 h34 r32 hf _ _ _ hM hS (lv_sub hl [0] rfl)

abbrev rX6_playText : Room := { frames := 7, cells := 0, slots := 0, locals := 151 }
set_option maxRecDepth 100000 in
set_option maxHeartbeats 4000000 in
theorem kX6_playText (l : Launch) (G : zG) (A : Nat → Prop) (hG : zVb G) (V : zV3) (g : Nat) (hg : g < 7) {r : Unit} {V' : zV3} (hf : xX6_playText g V  = some (r, V')) : zCt l G A yX6_playText cX6_playText 6 none rX6_playText [.ref (gA G 15 0 0), .ref (gA G 0 g 0), .ref (gA G 13 0 0)] V none V' := by
  refine z_CtV (by decide) (Nat.le_of_ble_eq_true rfl) ?_
  intro p e s m args below meth c Q hx hb hml hown hL hK hM hS hQ ls hl
  replace hl : lv_has ls 6 [(0, .ref (gA G 15 0 0)), (1, .ref (gA G 0 g 0)), (2, .ref (gA G 13 0 0))] := hl
  have hQf : ∀ {a : Unit} {k : zV3} {H : Heap} {locs : List Loc} {pc : Nat} {ls : Array Slot}, some (a, k) = some (r, V') → zM G k H → va_S A s.heap H locs → decode cX6_playText pc = .ok (.return_, 1) → W p l e rX6_playText s m args below meth c H locs 0 0 Q (F0 m pc ls []) := by
    intro a k H locs pc ls e1 hM hS hd
    cases e1
    exact hQ H locs pc ls hM hS hd
  have L23 : ∀ (n : Nat) (V : zV3) (a3 : Int32) (a4 : Int32), xX6_playText_L23 g n V a3 a4 = some (r, V') → ∀ (H : Heap) (locs : List Loc) (ls : Array Slot), zM G V H → va_S A s.heap H locs → lv_has ls 6 [(0, .ref (gA G 15 0 0)), (2, .ref (gA G 13 0 0)), (3, .int a3), (4, .int a4)] → W p l e rX6_playText s m args below meth c H locs 0 0 Q (F0 m 23 ls []) := by
    intro n
    induction n with
    | zero =>
      intro V a3 a4 hf H locs ls hM hS hl
      rw [xX6_playText_L23] at hf
      cases hf
    | succ n ih =>
      intro V a3 a4 hf H locs ls hM hS hl
      rw [xX6_playText_L23] at hf
      refine lv_iload hx hb dX6_playText_23 (lv_at hl 3 rfl) ?_
      refine lv_bipush (v := 80) hx hb dX6_playText_25 (by decide) ?_
      refine lv_icmp_ge (tgt := 107) hx hb dX6_playText_27 (by decide) (fun c1 => ?_) (fun c1 => ?_)
      · replace hf := ift hf c1
        exact hQf hf hM hS dX6_playText_107
      · replace hf := iff_ hf c1
        refine lv_iload_n hx hb dX6_playText_30 rfl (lv_at hl 2 rfl) ?_
        refine lv_aload_n hx hb dX6_playText_31 rfl (lv_at hl 1 rfl) ?_
        refine z_getN (own := RX6) (C := RX7) (T := TX7) (N := 6) (ci := 6) (v := .int (V 7 3 0)) hx hb hL inX7 hown hK hM dm_13 (zd_13 G V 0 0) rfl 1 (by decide) 26 rfl rfl rfl dX6_playText_32 ?_
        refine lv_icmp_ge (tgt := 107) hx hb dX6_playText_35 (by decide) (fun c2 => ?_) (fun c2 => ?_)
        · replace hf := ift hf c2
          exact hQf hf hM hS dX6_playText_107
        · replace hf := iff_ hf c2
          refine lv_aload_n hx hb dX6_playText_38 rfl (lv_at hl 1 rfl) ?_
          refine lv_iload_n hx hb dX6_playText_39 rfl (lv_at hl 2 rfl) ?_
          obtain ⟨r3, k5, V6, hc4, eV6, hf⟩ := bndG_some hf
          refine z_callV (As := [.int a3]) (rest := []) (C := RX7) hx hb hml hown hL hK hM hS (z_ctG (kX7_readCommand l G A hG V (V 7) a3 hc4)) (zg_X7_readCommand zw3_152) zv_X7_readCommand ⟨rfl, rfl⟩ ⟨Nat.le_of_ble_eq_true rfl, Nat.le_of_ble_eq_true rfl⟩ (hM.recv hK dm_13 (zd_13 G V 0 0) rfl) rfl hl.1 rfl (Nat.le_of_ble_eq_true rfl) dX6_playText_40 ⟨Nat.zero_le _, Nat.zero_le _⟩ (fun H locs hM hS => ?_)
          rw [← eV6] at hM
          refine W.eq (g2 := F0 m 43 ls [.int r3]) rfl ?_
          refine lv_if_ne (tgt := 54) hx hb dX6_playText_43 (by decide) (fun c7 => ?_) (fun c7 => ?_)
          · replace hf := iff_ hf c7
            refine lv_aload_n hx hb dX6_playText_54 rfl (lv_at hl 0 rfl) ?_
            refine lv_aload_n hx hb dX6_playText_55 rfl (lv_at hl 1 rfl) ?_
            refine z_getN (own := RX6) (C := RX7) (T := TX7) (N := 6) (ci := 6) (v := zverb G (V6 7 4 0)) hx hb hL inX7 hown hK hM dm_13 (zd_13 G V6 0 0) rfl 2 (by decide) 27 rfl rfl rfl dX6_playText_56 ?_
            rw [zverb_eq]
            rcases optm_split hf with ⟨ho8, hf⟩ | ⟨q9, ho8, hf⟩
            · rw [ho8]
              refine W.eq (g2 := F0 m 59 ls [.null, .ref (gA G 15 0 0)]) rfl ?_
              refine lv_aload_n hx hb dX6_playText_59 rfl (lv_at hl 1 rfl) ?_
              refine z_getN (own := RX6) (C := RX7) (T := TX7) (N := 6) (ci := 6) (v := .int (V6 7 5 0)) hx hb hL inX7 hown hK hM dm_13 (zd_13 G V6 0 0) rfl 3 (by decide) 28 rfl rfl rfl dX6_playText_60 ?_
              refine lv_aload_n hx hb dX6_playText_63 rfl (lv_at hl 1 rfl) ?_
              refine z_getN (own := RX6) (C := RX7) (T := TX7) (N := 6) (ci := 6) (v := .int (V6 7 6 0)) hx hb hL inX7 hown hK hM dm_13 (zd_13 G V6 0 0) rfl 4 (by decide) 29 rfl rfl rfl dX6_playText_64 ?_
              cases hf
            · rw [ho8]
              obtain ⟨hq9, hf⟩ := grd_some hf
              replace hq9 := of_decide_eq_true hq9
              refine W.eq (g2 := F0 m 59 ls [.ref (gE G q9), .ref (gA G 15 0 0)]) rfl ?_
              refine lv_aload_n hx hb dX6_playText_59 rfl (lv_at hl 1 rfl) ?_
              refine z_getN (own := RX6) (C := RX7) (T := TX7) (N := 6) (ci := 6) (v := .int (V6 7 5 0)) hx hb hL inX7 hown hK hM dm_13 (zd_13 G V6 0 0) rfl 3 (by decide) 28 rfl rfl rfl dX6_playText_60 ?_
              refine lv_aload_n hx hb dX6_playText_63 rfl (lv_at hl 1 rfl) ?_
              refine z_getN (own := RX6) (C := RX7) (T := TX7) (N := 6) (ci := 6) (v := .int (V6 7 6 0)) hx hb hL inX7 hown hK hM dm_13 (zd_13 G V6 0 0) rfl 4 (by decide) 29 rfl rfl rfl dX6_playText_64 ?_
              obtain ⟨r10, V12, hc11, hf⟩ := bnd_some hf
              refine z_callV (As := [.ref (gE G q9), .int (V6 7 5 0), .int (V6 7 6 0)]) (rest := []) (C := RX6) hx hb hml hown hL hK hM hS (kX6_obey l G A hG V6 q9 hq9 (V6 7 5 0) (V6 7 6 0) hc11) (zg_X6_obey zw3_226) zv_X6_obey ⟨rfl, rfl⟩ ⟨Nat.le_of_ble_eq_true rfl, Nat.le_of_ble_eq_true rfl⟩ (hM.recv hK dm_15 (zd_15 G V6 0 0) rfl) rfl hl.1 rfl (Nat.le_of_ble_eq_true rfl) dX6_playText_67 ⟨Nat.zero_le _, Nat.zero_le _⟩ (fun H locs hM hS => ?_)
              refine W.eq (g2 := F0 m 70 ls [.int r10]) rfl ?_
              refine lv_istore (lv' := [(5, .int r10), (0, .ref (gA G 15 0 0)), (2, .ref (gA G 13 0 0)), (3, .int a3), (4, .int a4)]) hx hb dX6_playText_70 hl (by decide) rfl (fun ls hl => ?_)
              refine lv_iload hx hb dX6_playText_72 (lv_at hl 0 rfl) ?_
              refine lv_if_ge (tgt := 86) hx hb dX6_playText_74 (by decide) (fun c13 => ?_) (fun c13 => ?_)
              · replace hf := ift hf c13
                refine lv_aload_n hx hb dX6_playText_86 rfl (lv_at hl 1 rfl) ?_
                refine lv_dup hx hb dX6_playText_87 rfl ?_
                refine z_get (own := RX6) (C := RX6) (T := TX6) (N := 5) (ci := 5) (v := .int (V12 7 11 0)) hx hb hL inX6 hown hK hM dm_15 (zd_15 G V12 0 0) rfl 4 (by decide) (hL _ zw1_228) rfl rfl dX6_playText_88 ?_
                refine lv_iconst (v := 1) hx hb dX6_playText_91 (by decide) ?_
                refine lv_iadd hx hb dX6_playText_92 ?_
                obtain ⟨V14, eV14⟩ : ∃ y, y = upG V12 7 (up2 (V12 7) 11 0 ((V12 7 11 0) + (1 : Int32))) := ⟨_, rfl⟩
                replace hf := put3_some hf eV14
                refine z_put (own := RX6) (C := RX6) (T := TX6) (N := 5) (ci := 5) (V' := V14) hx hb hL inX6 tyX6 tyX6_ok nmX6 hown hK hM hS dm_15 (zd_15 G V12 0 0) rfl 4 (by decide) (hL _ zw1_228) rfl rfl rfl rfl (Nat.le_of_ble_eq_true rfl) (by rw [eV14]; exact zm_15_11 G V12 ((V12 7 11 0) + (1 : Int32))) dX6_playText_93 (fun H locs hM hS => ?_)
                refine lv_aload_n hx hb dX6_playText_96 rfl (lv_at hl 2 rfl) ?_
                refine z_getN (own := RX6) (C := RX7) (T := TX7) (N := 6) (ci := 6) (v := .int (V14 7 7 0)) hx hb hL inX7 hown hK hM dm_13 (zd_13 G V14 0 0) rfl 5 (by decide) 30 rfl rfl rfl dX6_playText_97 ?_
                refine lv_topi (fun y15 ey15 => ?_)
                replace hf := ltI_some hf ey15
                refine lv_istore_n (lv' := [(3, .int y15), (5, .int r10), (0, .ref (gA G 15 0 0)), (2, .ref (gA G 13 0 0)), (4, .int a4)]) hx hb dX6_playText_100 rfl hl (by decide) rfl (fun ls hl => ?_)
                obtain ⟨y16, ey16⟩ : ∃ y : Int32, y = a4 + (1 : Int32) := ⟨_, rfl⟩
                replace hf := ltI_some hf ey16
                refine lv_iinc (v := y16) (lv' := [(4, .int y16), (3, .int y15), (5, .int r10), (0, .ref (gA G 15 0 0)), (2, .ref (gA G 13 0 0))]) hx hb dX6_playText_101 hl (k := 4) rfl (by rw [ey16]; rfl) (by decide) rfl (fun ls hl => ?_)
                refine lv_goto (tgt := 23) hx hb dX6_playText_104 (by decide) ?_
                exact ih V14 y15 y16 hf _ _ _ hM hS (lv_sub hl [3, 4, 1, 0] rfl)
              · replace hf := iff_ hf c13
                refine lv_aload_n hx hb dX6_playText_77 rfl (lv_at hl 1 rfl) ?_
                refine lv_iload_n hx hb dX6_playText_78 rfl (lv_at hl 3 rfl) ?_
                refine lv_iconst (v := 2) hx hb dX6_playText_79 (by decide) ?_
                refine lv_iload hx hb dX6_playText_80 (lv_at hl 0 rfl) ?_
                obtain ⟨r17, k19, V20, hc18, eV20, hf⟩ := bndG_some hf
                refine z_callV (As := [.int a3, .int (2 : Int32), .int r10]) (rest := []) (C := RX6) hx hb hml hown hL hK hM hS (z_ctG (kX6_noteFault l G A V12 (V12 7) a3 (2 : Int32) r10 hc18)) (zg_X6_noteFault zw3_222) zv_X6_noteFault ⟨rfl, rfl⟩ ⟨Nat.le_of_ble_eq_true rfl, Nat.le_of_ble_eq_true rfl⟩ (hM.recv hK dm_15 (zd_15 G V12 0 0) rfl) rfl hl.1 rfl (Nat.le_of_ble_eq_true rfl) dX6_playText_82 ⟨Nat.zero_le _, Nat.zero_le _⟩ (fun H locs hM hS => ?_)
                rw [← eV20] at hM
                refine W.eq (g2 := F0 m 85 ls []) rfl ?_
                exact hQf hf hM hS dX6_playText_85
          · replace hf := ift hf c7
            refine lv_aload_n hx hb dX6_playText_46 rfl (lv_at hl 0 rfl) ?_
            refine lv_iload_n hx hb dX6_playText_47 rfl (lv_at hl 2 rfl) ?_
            refine lv_iconst (v := 1) hx hb dX6_playText_48 (by decide) ?_
            refine lv_iconst (v := 0) hx hb dX6_playText_49 (by decide) ?_
            obtain ⟨r21, k23, V24, hc22, eV24, hf⟩ := bndG_some hf
            refine z_callV (As := [.int a3, .int (1 : Int32), .int (0 : Int32)]) (rest := []) (C := RX6) hx hb hml hown hL hK hM hS (z_ctG (kX6_noteFault l G A V6 (V6 7) a3 (1 : Int32) (0 : Int32) hc22)) (zg_X6_noteFault zw3_222) zv_X6_noteFault ⟨rfl, rfl⟩ ⟨Nat.le_of_ble_eq_true rfl, Nat.le_of_ble_eq_true rfl⟩ (hM.recv hK dm_15 (zd_15 G V6 0 0) rfl) rfl hl.1 rfl (Nat.le_of_ble_eq_true rfl) dX6_playText_50 ⟨Nat.zero_le _, Nat.zero_le _⟩ (fun H locs hM hS => ?_)
            rw [← eV24] at hM
            refine W.eq (g2 := F0 m 53 ls []) rfl ?_
            exact hQf hf hM hS dX6_playText_53
  unfold xX6_playText at hf
  refine lv_aload_n hx hb dX6_playText_0 rfl (lv_at hl 0 rfl) ?_
  refine z_get (own := RX6) (C := RX6) (T := TX6) (N := 5) (ci := 5) (v := .ref (gA G 0 6 0)) hx hb hL inX6 hown hK hM dm_15 (zd_15 G V 0 0) rfl 0 (by decide) (hL _ zw1_220) rfl rfl dX6_playText_1 ?_
  refine lv_aload_n hx hb dX6_playText_4 rfl (lv_at hl 1 rfl) ?_
  obtain ⟨r1, V3, hc2, hf⟩ := bnd_some hf
  refine z_callV (As := [.ref (gA G 0 g 0)]) (rest := []) (C := RX1) hx hb hml hown hL hK hM hS (kX1_copyFrom l G A V 6 (by decide) g hg hc2) (zg_X1_copyFrom zw3_84) zv_X1_copyFrom ⟨rfl, rfl⟩ ⟨Nat.le_of_ble_eq_true rfl, Nat.le_of_ble_eq_true rfl⟩ (hM.recv hK (dm_0 (g := 6) (i := 0) (by decide) rfl) (zd_0 G V 6 0) rfl) rfl hl.1 rfl (Nat.le_of_ble_eq_true rfl) dX6_playText_5 ⟨Nat.zero_le _, Nat.zero_le _⟩ (fun H locs hM hS => ?_)
  refine W.eq (g2 := F0 m 8 ls []) rfl ?_
  refine lv_aload_n hx hb dX6_playText_8 rfl (lv_at hl 0 rfl) ?_
  refine lv_iconst (v := -1) hx hb dX6_playText_9 (by decide) ?_
  obtain ⟨V4, eV4⟩ : ∃ y, y = upG V3 7 (up2 (V3 7) 8 0 (-1 : Int32)) := ⟨_, rfl⟩
  replace hf := put3_some hf eV4
  refine z_put (own := RX6) (C := RX6) (T := TX6) (N := 5) (ci := 5) (V' := V4) hx hb hL inX6 tyX6 tyX6_ok nmX6 hown hK hM hS dm_15 (zd_15 G V3 0 0) rfl 1 (by decide) (hL _ zw1_222) rfl rfl rfl rfl (Nat.le_of_ble_eq_true rfl) (by rw [eV4]; exact zm_15_8 G V3 (-1 : Int32)) dX6_playText_10 (fun H locs hM hS => ?_)
  refine lv_aload_n hx hb dX6_playText_13 rfl (lv_at hl 0 rfl) ?_
  refine lv_iconst (v := 0) hx hb dX6_playText_14 (by decide) ?_
  obtain ⟨V5, eV5⟩ : ∃ y, y = upG V4 7 (up2 (V4 7) 11 0 (0 : Int32)) := ⟨_, rfl⟩
  replace hf := put3_some hf eV5
  refine z_put (own := RX6) (C := RX6) (T := TX6) (N := 5) (ci := 5) (V' := V5) hx hb hL inX6 tyX6 tyX6_ok nmX6 hown hK hM hS dm_15 (zd_15 G V4 0 0) rfl 4 (by decide) (hL _ zw1_228) rfl rfl rfl rfl (Nat.le_of_ble_eq_true rfl) (by rw [eV5]; exact zm_15_11 G V4 (0 : Int32)) dX6_playText_15 (fun H locs hM hS => ?_)
  refine lv_iconst (v := 0) hx hb dX6_playText_18 (by decide) ?_
  refine lv_istore_n (lv' := [(3, .int (0 : Int32)), (0, .ref (gA G 15 0 0)), (1, .ref (gA G 0 g 0)), (2, .ref (gA G 13 0 0))]) hx hb dX6_playText_19 rfl hl (by decide) rfl (fun ls hl => ?_)
  refine lv_iconst (v := 0) hx hb dX6_playText_20 (by decide) ?_
  refine lv_istore (lv' := [(4, .int (0 : Int32)), (3, .int (0 : Int32)), (0, .ref (gA G 15 0 0)), (1, .ref (gA G 0 g 0)), (2, .ref (gA G 13 0 0))]) hx hb dX6_playText_21 hl (by decide) rfl (fun ls hl => ?_)
  exact L23 1000 V5 (0 : Int32) (0 : Int32) hf _ _ _ hM hS (lv_sub hl [2, 4, 1, 0] rfl)

abbrev rX9_fault : Room := { frames := 8, cells := 0, slots := 0, locals := 176 }
set_option maxRecDepth 100000 in
set_option maxHeartbeats 4000000 in
theorem kX9_fault (l : Launch) (G : zG) (A : Nat → Prop) (hG : zVb G) (V : zV3) (p1 : Int32) {r : Int32} {V' : zV3} (hf : xX9_fault V p1 = some (r, V')) : zCt l G A yX9_fault cX9_fault 2 (some .int) rX9_fault [.ref (gA G 10 0 0), .int p1] V (some (.int r)) V' := by
  refine z_CtI (by decide) (Nat.le_of_ble_eq_true rfl) ?_
  intro p e s m args below meth c Q hx hb hml hown hL hK hM hS hQ ls hl
  replace hl : lv_has ls 2 [(0, .ref (gA G 10 0 0)), (1, .int p1)] := hl
  have hQf : ∀ {a : Int32} {k : zV3} {H : Heap} {locs : List Loc} {pc : Nat} {ls : Array Slot}, some (a, k) = some (r, V') → zM G k H → va_S A s.heap H locs → decode cX9_fault pc = .ok (.ireturn, 1) → W p l e rX9_fault s m args below meth c H locs 0 0 Q (F0 m pc ls [.int a]) := by
    intro a k H locs pc ls e1 hM hS hd
    cases e1
    exact hQ H locs pc ls hM hS hd
  have L55 : ∀ (V : zV3) , xX9_fault_L55 p1 V = some (r, V') → ∀ (H : Heap) (locs : List Loc) (ls : Array Slot), zM G V H → va_S A s.heap H locs → lv_has ls 2 [(0, .ref (gA G 10 0 0)), (1, .int p1)] → W p l e rX9_fault s m args below meth c H locs 0 0 Q (F0 m 55 ls []) := by
    intro V hf H locs ls hM hS hl
    unfold xX9_fault_L55 at hf
    refine lv_iload_n hx hb dX9_fault_55 rfl (lv_at hl 1 rfl) ?_
    by_cases c1 : p1 = (0 : Int32)
    · replace hf := ift hf c1
      refine lv_lookup (off := 28) (tgt := 84) hx hb dX9_fault_56 (by decide) (by rw [c1]; rfl) (by decide) ?_
      refine lv_aload_n hx hb dX9_fault_84 rfl (lv_at hl 0 rfl) ?_
      refine z_get (own := RX9) (C := RX9) (T := TX9) (N := 4) (ci := 7) (v := .ref (gA G 15 0 0)) hx hb hL inX9 hown hK hM dm_10 (zd_10 G V) rfl 3 (by decide) (hL _ zw2_4) rfl rfl dX9_fault_85 ?_
      refine z_getN (own := RX9) (C := RX6) (T := TX6) (N := 5) (ci := 5) (v := .int (V 7 8 0)) hx hb hL inX6 hown hK hM dm_15 (zd_15 G V 0 0) rfl 1 (by decide) 3 rfl rfl rfl dX9_fault_88 ?_
      exact hQf hf hM hS dX9_fault_91
    · replace hf := iff_ hf c1
      by_cases c2 : p1 = (1 : Int32)
      · replace hf := ift hf c2
        refine lv_lookup (off := 36) (tgt := 92) hx hb dX9_fault_56 (by decide) (by rw [c2]; rfl) (by decide) ?_
        refine lv_aload_n hx hb dX9_fault_92 rfl (lv_at hl 0 rfl) ?_
        refine z_get (own := RX9) (C := RX9) (T := TX9) (N := 4) (ci := 7) (v := .ref (gA G 15 0 0)) hx hb hL inX9 hown hK hM dm_10 (zd_10 G V) rfl 3 (by decide) (hL _ zw2_4) rfl rfl dX9_fault_93 ?_
        refine z_getN (own := RX9) (C := RX6) (T := TX6) (N := 5) (ci := 5) (v := .int (V 7 9 0)) hx hb hL inX6 hown hK hM dm_15 (zd_15 G V 0 0) rfl 2 (by decide) 2 rfl rfl rfl dX9_fault_96 ?_
        exact hQf hf hM hS dX9_fault_99
      · replace hf := iff_ hf c2
        refine lv_lookup (off := 44) (tgt := 100) hx hb dX9_fault_56 (by decide) ((lv_osw c1 (by decide)).trans ((lv_osw c2 (by decide)).trans rfl)) (by decide) ?_
        refine lv_aload_n hx hb dX9_fault_100 rfl (lv_at hl 0 rfl) ?_
        refine z_get (own := RX9) (C := RX9) (T := TX9) (N := 4) (ci := 7) (v := .ref (gA G 15 0 0)) hx hb hL inX9 hown hK hM dm_10 (zd_10 G V) rfl 3 (by decide) (hL _ zw2_4) rfl rfl dX9_fault_101 ?_
        refine z_getN (own := RX9) (C := RX6) (T := TX6) (N := 5) (ci := 5) (v := .int (V 7 10 0)) hx hb hL inX6 hown hK hM dm_15 (zd_15 G V 0 0) rfl 3 (by decide) 4 rfl rfl rfl dX9_fault_104 ?_
        exact hQf hf hM hS dX9_fault_107
  unfold xX9_fault at hf
  refine lv_iload_n hx hb dX9_fault_0 rfl (lv_at hl 1 rfl) ?_
  refine lv_if_lt (tgt := 9) hx hb dX9_fault_1 (by decide) (fun c1 => ?_) (fun c1 => ?_)
  · replace hf := ift hf c1
    refine lv_iconst (v := -1) hx hb dX9_fault_9 (by decide) ?_
    exact hQf hf hM hS dX9_fault_10
  · replace hf := iff_ hf c1
    refine lv_iload_n hx hb dX9_fault_4 rfl (lv_at hl 1 rfl) ?_
    refine lv_iconst (v := 2) hx hb dX9_fault_5 (by decide) ?_
    refine lv_icmp_le (tgt := 11) hx hb dX9_fault_6 (by decide) (fun c2 => ?_) (fun c2 => ?_)
    · replace hf := ift hf c2
      refine lv_aload_n hx hb dX9_fault_11 rfl (lv_at hl 0 rfl) ?_
      refine z_get (own := RX9) (C := RX9) (T := TX9) (N := 4) (ci := 7) (v := .ref (gA G 15 0 0)) hx hb hL inX9 hown hK hM dm_10 (zd_10 G V) rfl 3 (by decide) (hL _ zw2_4) rfl rfl dX9_fault_12 ?_
      refine lv_aload_n hx hb dX9_fault_15 rfl (lv_at hl 0 rfl) ?_
      refine z_get (own := RX9) (C := RX9) (T := TX9) (N := 4) (ci := 7) (v := .ref (gA G 0 0 0)) hx hb hL inX9 hown hK hM dm_10 (zd_10 G V) rfl 0 (by decide) (hL _ zw2_1) rfl rfl dX9_fault_16 ?_
      refine lv_aload_n hx hb dX9_fault_19 rfl (lv_at hl 0 rfl) ?_
      refine z_get (own := RX9) (C := RX9) (T := TX9) (N := 4) (ci := 7) (v := .ref (gA G 13 0 0)) hx hb hL inX9 hown hK hM dm_10 (zd_10 G V) rfl 2 (by decide) (hL _ zw2_3) rfl rfl dX9_fault_20 ?_
      obtain ⟨r3, V5, hc4, hf⟩ := bnd_some hf
      refine z_callV (As := [.ref (gA G 0 0 0), .ref (gA G 13 0 0)]) (rest := []) (C := RX6) hx hb hml hown hL hK hM hS (kX6_playText l G A hG V 0 (by decide) hc4) (zg_X6_playText zw3_148) zv_X6_playText ⟨rfl, rfl⟩ ⟨Nat.le_of_ble_eq_true rfl, Nat.le_of_ble_eq_true rfl⟩ (hM.recv hK dm_15 (zd_15 G V 0 0) rfl) rfl hl.1 rfl (Nat.le_of_ble_eq_true rfl) dX9_fault_23 ⟨Nat.zero_le _, Nat.zero_le _⟩ (fun H locs hM hS => ?_)
      refine W.eq (g2 := F0 m 26 ls []) rfl ?_
      refine lv_aload_n hx hb dX9_fault_26 rfl (lv_at hl 0 rfl) ?_
      refine z_get (own := RX9) (C := RX9) (T := TX9) (N := 4) (ci := 7) (v := .ref (gA G 15 0 0)) hx hb hL inX9 hown hK hM dm_10 (zd_10 G V5) rfl 3 (by decide) (hL _ zw2_4) rfl rfl dX9_fault_27 ?_
      obtain ⟨r6, k8, V9, hc7, eV9, hf⟩ := bndG_some hf
      refine z_callV (As := []) (rest := []) (C := RX6) hx hb hml hown hL hK hM hS (z_ctG (kX6_failed l G A V5 (V5 7) hc7)) (zg_X6_failed zw4_4) zv_X6_failed ⟨rfl, rfl⟩ ⟨Nat.le_of_ble_eq_true rfl, Nat.le_of_ble_eq_true rfl⟩ (hM.recv hK dm_15 (zd_15 G V5 0 0) rfl) rfl hl.1 rfl (Nat.le_of_ble_eq_true rfl) dX9_fault_30 ⟨Nat.zero_le _, Nat.zero_le _⟩ (fun H locs hM hS => ?_)
      rw [← eV9] at hM
      refine W.eq (g2 := F0 m 33 ls [.int r6]) rfl ?_
      refine lv_if_eq (tgt := 52) hx hb dX9_fault_33 (by decide) (fun c10 => ?_) (fun c10 => ?_)
      · replace hf := ift hf c10
        refine lv_bipush (v := -4) hx hb dX9_fault_52 (by decide) ?_
        exact hQf hf hM hS dX9_fault_54
      · replace hf := iff_ hf c10
        refine lv_iload_n hx hb dX9_fault_36 rfl (lv_at hl 1 rfl) ?_
        refine lv_iconst (v := 2) hx hb dX9_fault_37 (by decide) ?_
        refine lv_icmp_ne (tgt := 55) hx hb dX9_fault_38 (by decide) (fun c11 => ?_) (fun c11 => ?_)
        · replace hf := iff_ hf c11
          exact L55 V9 hf _ _ _ hM hS (lv_sub hl [0, 1] rfl)
        · replace hf := ift hf c11
          refine lv_aload_n hx hb dX9_fault_41 rfl (lv_at hl 0 rfl) ?_
          refine z_get (own := RX9) (C := RX9) (T := TX9) (N := 4) (ci := 7) (v := .ref (gA G 15 0 0)) hx hb hL inX9 hown hK hM dm_10 (zd_10 G V9) rfl 3 (by decide) (hL _ zw2_4) rfl rfl dX9_fault_42 ?_
          refine z_getN (own := RX9) (C := RX6) (T := TX6) (N := 5) (ci := 5) (v := .int (V9 7 9 0)) hx hb hL inX6 hown hK hM dm_15 (zd_15 G V9 0 0) rfl 2 (by decide) 2 rfl rfl rfl dX9_fault_45 ?_
          refine lv_iconst (v := 1) hx hb dX9_fault_48 (by decide) ?_
          refine lv_icmp_ne (tgt := 55) hx hb dX9_fault_49 (by decide) (fun c12 => ?_) (fun c12 => ?_)
          · replace hf := iff_ hf c12
            exact L55 V9 hf _ _ _ hM hS (lv_sub hl [0, 1] rfl)
          · replace hf := ift hf c12
            refine lv_bipush (v := -4) hx hb dX9_fault_52 (by decide) ?_
            exact hQf hf hM hS dX9_fault_54
    · replace hf := iff_ hf c2
      refine lv_iconst (v := -1) hx hb dX9_fault_9 (by decide) ?_
      exact hQf hf hM hS dX9_fault_10

abbrev rX9_play : Room := { frames := 8, cells := 0, slots := 0, locals := 176 }
set_option maxRecDepth 100000 in
set_option maxHeartbeats 4000000 in
theorem kX9_play (l : Launch) (G : zG) (A : Nat → Prop) (hG : zVb G) (V : zV3) {r : Int32} {V' : zV3} (hf : xX9_play V  = some (r, V')) : zCt l G A yX9_play cX9_play 1 (some .int) rX9_play [.ref (gA G 10 0 0)] V (some (.int r)) V' := by
  refine z_CtI (by decide) (Nat.le_of_ble_eq_true rfl) ?_
  intro p e s m args below meth c Q hx hb hml hown hL hK hM hS hQ ls hl
  replace hl : lv_has ls 1 [(0, .ref (gA G 10 0 0))] := hl
  have hQf : ∀ {a : Int32} {k : zV3} {H : Heap} {locs : List Loc} {pc : Nat} {ls : Array Slot}, some (a, k) = some (r, V') → zM G k H → va_S A s.heap H locs → decode cX9_play pc = .ok (.ireturn, 1) → W p l e rX9_play s m args below meth c H locs 0 0 Q (F0 m pc ls [.int a]) := by
    intro a k H locs pc ls e1 hM hS hd
    cases e1
    exact hQ H locs pc ls hM hS hd
  unfold xX9_play at hf
  refine lv_aload_n hx hb dX9_play_0 rfl (lv_at hl 0 rfl) ?_
  refine z_get (own := RX9) (C := RX9) (T := TX9) (N := 4) (ci := 7) (v := .ref (gA G 15 0 0)) hx hb hL inX9 hown hK hM dm_10 (zd_10 G V) rfl 3 (by decide) (hL _ zw2_4) rfl rfl dX9_play_1 ?_
  refine lv_aload_n hx hb dX9_play_4 rfl (lv_at hl 0 rfl) ?_
  refine z_get (own := RX9) (C := RX9) (T := TX9) (N := 4) (ci := 7) (v := .ref (gA G 0 0 0)) hx hb hL inX9 hown hK hM dm_10 (zd_10 G V) rfl 0 (by decide) (hL _ zw2_1) rfl rfl dX9_play_5 ?_
  refine lv_aload_n hx hb dX9_play_8 rfl (lv_at hl 0 rfl) ?_
  refine z_get (own := RX9) (C := RX9) (T := TX9) (N := 4) (ci := 7) (v := .ref (gA G 13 0 0)) hx hb hL inX9 hown hK hM dm_10 (zd_10 G V) rfl 2 (by decide) (hL _ zw2_3) rfl rfl dX9_play_9 ?_
  obtain ⟨r1, V3, hc2, hf⟩ := bnd_some hf
  refine z_callV (As := [.ref (gA G 0 0 0), .ref (gA G 13 0 0)]) (rest := []) (C := RX6) hx hb hml hown hL hK hM hS (kX6_playText l G A hG V 0 (by decide) hc2) (zg_X6_playText zw3_148) zv_X6_playText ⟨rfl, rfl⟩ ⟨Nat.le_of_ble_eq_true rfl, Nat.le_of_ble_eq_true rfl⟩ (hM.recv hK dm_15 (zd_15 G V 0 0) rfl) rfl hl.1 rfl (Nat.le_of_ble_eq_true rfl) dX9_play_12 ⟨Nat.zero_le _, Nat.zero_le _⟩ (fun H locs hM hS => ?_)
  refine W.eq (g2 := F0 m 15 ls []) rfl ?_
  refine lv_aload_n hx hb dX9_play_15 rfl (lv_at hl 0 rfl) ?_
  refine z_get (own := RX9) (C := RX9) (T := TX9) (N := 4) (ci := 7) (v := .ref (gA G 15 0 0)) hx hb hL inX9 hown hK hM dm_10 (zd_10 G V3) rfl 3 (by decide) (hL _ zw2_4) rfl rfl dX9_play_16 ?_
  obtain ⟨r4, k6, V7, hc5, eV7, hf⟩ := bndG_some hf
  refine z_callV (As := []) (rest := []) (C := RX6) hx hb hml hown hL hK hM hS (z_ctG (kX6_failed l G A V3 (V3 7) hc5)) (zg_X6_failed zw4_4) zv_X6_failed ⟨rfl, rfl⟩ ⟨Nat.le_of_ble_eq_true rfl, Nat.le_of_ble_eq_true rfl⟩ (hM.recv hK dm_15 (zd_15 G V3 0 0) rfl) rfl hl.1 rfl (Nat.le_of_ble_eq_true rfl) dX9_play_19 ⟨Nat.zero_le _, Nat.zero_le _⟩ (fun H locs hM hS => ?_)
  rw [← eV7] at hM
  refine W.eq (g2 := F0 m 22 ls [.int r4]) rfl ?_
  refine lv_if_eq (tgt := 28) hx hb dX9_play_22 (by decide) (fun c8 => ?_) (fun c8 => ?_)
  · replace hf := ift hf c8
    refine lv_aload_n hx hb dX9_play_28 rfl (lv_at hl 0 rfl) ?_
    refine z_get (own := RX9) (C := RX9) (T := TX9) (N := 4) (ci := 7) (v := .ref (gA G 11 0 0)) hx hb hL inX9 hown hK hM dm_10 (zd_10 G V7) rfl 1 (by decide) (hL _ zw2_2) rfl rfl dX9_play_29 ?_
    refine lv_aload_n hx hb dX9_play_32 rfl (lv_at hl 0 rfl) ?_
    refine z_get (own := RX9) (C := RX9) (T := TX9) (N := 4) (ci := 7) (v := .ref (gA G 0 0 0)) hx hb hL inX9 hown hK hM dm_10 (zd_10 G V7) rfl 0 (by decide) (hL _ zw2_1) rfl rfl dX9_play_33 ?_
    obtain ⟨r9, V11, hc10, hf⟩ := bnd_some hf
    refine z_callV (As := [.ref (gA G 0 0 0)]) (rest := []) (C := RX2) hx hb hml hown hL hK hM hS (kX2_prepare l G A V7 0 (by decide) hc10) (zg_X2_prepare zw2_18) zv_X2_prepare ⟨rfl, rfl⟩ ⟨Nat.le_of_ble_eq_true rfl, Nat.le_of_ble_eq_true rfl⟩ (hM.recv hK dm_11 (zd_11 G V7 0 0) rfl) rfl hl.1 rfl (Nat.le_of_ble_eq_true rfl) dX9_play_36 ⟨Nat.zero_le _, Nat.zero_le _⟩ (fun H locs hM hS => ?_)
    refine W.eq (g2 := F0 m 39 ls []) rfl ?_
    refine lv_aload_n hx hb dX9_play_39 rfl (lv_at hl 0 rfl) ?_
    refine z_get (own := RX9) (C := RX9) (T := TX9) (N := 4) (ci := 7) (v := .ref (gA G 0 0 0)) hx hb hL inX9 hown hK hM dm_10 (zd_10 G V11) rfl 0 (by decide) (hL _ zw2_1) rfl rfl dX9_play_40 ?_
    refine lv_aload_n hx hb dX9_play_43 rfl (lv_at hl 0 rfl) ?_
    refine z_get (own := RX9) (C := RX9) (T := TX9) (N := 4) (ci := 7) (v := .ref (gA G 15 0 0)) hx hb hL inX9 hown hK hM dm_10 (zd_10 G V11) rfl 3 (by decide) (hL _ zw2_4) rfl rfl dX9_play_44 ?_
    refine z_getN (own := RX9) (C := RX6) (T := TX6) (N := 5) (ci := 5) (v := .ref (gA G 0 6 0)) hx hb hL inX6 hown hK hM dm_15 (zd_15 G V11 0 0) rfl 0 (by decide) 5 rfl rfl rfl dX9_play_47 ?_
    obtain ⟨r12, V14, hc13, hf⟩ := bnd_some hf
    refine z_callV (As := [.ref (gA G 0 6 0)]) (rest := []) (C := RX1) hx hb hml hown hL hK hM hS (kX1_copyFrom l G A V11 0 (by decide) 6 (by decide) hc13) (zg_X1_copyFrom zw4_12) zv_X1_copyFrom ⟨rfl, rfl⟩ ⟨Nat.le_of_ble_eq_true rfl, Nat.le_of_ble_eq_true rfl⟩ (hM.recv hK (dm_0 (g := 0) (i := 0) (by decide) rfl) (zd_0 G V11 0 0) rfl) rfl hl.1 rfl (Nat.le_of_ble_eq_true rfl) dX9_play_50 ⟨Nat.zero_le _, Nat.zero_le _⟩ (fun H locs hM hS => ?_)
    refine W.eq (g2 := F0 m 53 ls []) rfl ?_
    refine lv_aload_n hx hb dX9_play_53 rfl (lv_at hl 0 rfl) ?_
    refine z_get (own := RX9) (C := RX9) (T := TX9) (N := 4) (ci := 7) (v := .ref (gA G 11 0 0)) hx hb hL inX9 hown hK hM dm_10 (zd_10 G V14) rfl 1 (by decide) (hL _ zw2_2) rfl rfl dX9_play_54 ?_
    refine lv_aload_n hx hb dX9_play_57 rfl (lv_at hl 0 rfl) ?_
    refine z_get (own := RX9) (C := RX9) (T := TX9) (N := 4) (ci := 7) (v := .ref (gA G 15 0 0)) hx hb hL inX9 hown hK hM dm_10 (zd_10 G V14) rfl 3 (by decide) (hL _ zw2_4) rfl rfl dX9_play_58 ?_
    refine z_getN (own := RX9) (C := RX6) (T := TX6) (N := 5) (ci := 5) (v := .int (V14 7 11 0)) hx hb hL inX6 hown hK hM dm_15 (zd_15 G V14 0 0) rfl 4 (by decide) 6 rfl rfl rfl dX9_play_61 ?_
    obtain ⟨r15, k17, V18, hc16, eV18, hf⟩ := bndG_some hf
    refine z_callV (As := [.int (V14 7 11 0)]) (rest := []) (C := RX2) hx hb hml hown hL hK hM hS (z_ctG (kX2_settle l G A V14 (V14 7) (V14 7 11 0) hc16)) (zg_X2_settle zw2_49) zv_X2_settle ⟨rfl, rfl⟩ ⟨Nat.le_of_ble_eq_true rfl, Nat.le_of_ble_eq_true rfl⟩ (hM.recv hK dm_11 (zd_11 G V14 0 0) rfl) rfl hl.1 rfl (Nat.le_of_ble_eq_true rfl) dX9_play_64 ⟨Nat.zero_le _, Nat.zero_le _⟩ (fun H locs hM hS => ?_)
    rw [← eV18] at hM
    refine W.eq (g2 := F0 m 67 ls [.int r15]) rfl ?_
    exact hQf hf hM hS dX9_play_67
  · replace hf := iff_ hf c8
    refine lv_bipush (v := -2) hx hb dX9_play_25 (by decide) ?_
    exact hQf hf hM hS dX9_play_27
