theorem wd_1 : (Jvm.Cond.initialized "ParlourLeaves") ∈ zTB := List.mem_filter.mpr ⟨List.mem_append_right _ (List.mem_append_left _ (List.mem_of_getElem? (i := 1) rfl)), rfl⟩
theorem wd_2 : (Jvm.Cond.initialized "ParlourLeaves$Tape") ∈ zTB := List.mem_filter.mpr ⟨List.mem_append_right _ (List.mem_append_left _ (List.mem_of_getElem? (i := 2) rfl)), rfl⟩
theorem wd_7 : (Jvm.Cond.initialized "ParlourLeaves$House") ∈ zTB := List.mem_filter.mpr ⟨List.mem_append_right _ (List.mem_append_left _ (List.mem_of_getElem? (i := 7) rfl)), rfl⟩
theorem wd_8 : (Jvm.Cond.initialized "ParlourLeaves$Life") ∈ zTB := List.mem_filter.mpr ⟨List.mem_append_right _ (List.mem_append_left _ (List.mem_of_getElem? (i := 8) rfl)), rfl⟩
theorem wd_13 : (Jvm.Cond.initialized "ParlourLeaves$BookText") ∈ zTB := List.mem_filter.mpr ⟨List.mem_append_right _ (List.mem_append_left _ (List.mem_of_getElem? (i := 13) rfl)), rfl⟩
theorem wd_20 : (Jvm.Cond.initialized "java/lang/Math") ∈ zTB := List.mem_filter.mpr ⟨List.mem_append_right _ (List.mem_append_left _ (List.mem_of_getElem? (i := 20) rfl)), rfl⟩
theorem wd_27 : (Jvm.Cond.initialized "java/lang/Integer") ∈ zTB := List.mem_filter.mpr ⟨List.mem_append_right _ (List.mem_append_left _ (List.mem_of_getElem? (i := 27) rfl)), rfl⟩
theorem wd_93 : (Jvm.Cond.fieldLink "ParlourLeaves$Tape" (9 : Nat) "ParlourLeaves$Tape" "bytes" "[C") ∈ zTB := List.mem_filter.mpr ⟨List.mem_append_right _ (List.mem_append_left _ (List.mem_of_getElem? (i := 93) rfl)), rfl⟩
theorem wd_96 : (Jvm.Cond.fieldLink "ParlourLeaves$Tape" (31 : Nat) "ParlourLeaves$Tape" "length" "I") ∈ zTB := List.mem_filter.mpr ⟨List.mem_append_right _ (List.mem_append_left _ (List.mem_of_getElem? (i := 96) rfl)), rfl⟩
theorem wd_98 : (Jvm.Cond.fieldLink "ParlourLeaves$Tape" (15 : Nat) "ParlourLeaves$Tape" "keys" "[J") ∈ zTB := List.mem_filter.mpr ⟨List.mem_append_right _ (List.mem_append_left _ (List.mem_of_getElem? (i := 98) rfl)), rfl⟩
theorem wd_99 : (Jvm.Cond.fieldLink "ParlourLeaves$Tape" (34 : Nat) "ParlourLeaves$Tape" "limit" "I") ∈ zTB := List.mem_filter.mpr ⟨List.mem_append_right _ (List.mem_append_left _ (List.mem_of_getElem? (i := 99) rfl)), rfl⟩
theorem wd_100 : (Jvm.Cond.fieldLink "ParlourLeaves$Tape" (37 : Nat) "ParlourLeaves$Tape" "next" "I") ∈ zTB := List.mem_filter.mpr ⟨List.mem_append_right _ (List.mem_append_left _ (List.mem_of_getElem? (i := 100) rfl)), rfl⟩
theorem wd_104 : (Jvm.Cond.fieldLink "ParlourLeaves$Tape" (58 : Nat) "ParlourLeaves$Tape" "token" "I") ∈ zTB := List.mem_filter.mpr ⟨List.mem_append_right _ (List.mem_append_left _ (List.mem_of_getElem? (i := 104) rfl)), rfl⟩
theorem wd_106 : (Jvm.Cond.fieldLink "ParlourLeaves$Tape" (55 : Nat) "ParlourLeaves$Tape" "start" "I") ∈ zTB := List.mem_filter.mpr ⟨List.mem_append_right _ (List.mem_append_left _ (List.mem_of_getElem? (i := 106) rfl)), rfl⟩
theorem wd_109 : (Jvm.Cond.fieldLink "ParlourLeaves$Tape" (64 : Nat) "ParlourLeaves$Tape" "word" "J") ∈ zTB := List.mem_filter.mpr ⟨List.mem_append_right _ (List.mem_append_left _ (List.mem_of_getElem? (i := 109) rfl)), rfl⟩
theorem wd_110 : (Jvm.Cond.fieldLink "ParlourLeaves$Tape" (68 : Nat) "ParlourLeaves$Tape" "value" "I") ∈ zTB := List.mem_filter.mpr ⟨List.mem_append_right _ (List.mem_append_left _ (List.mem_of_getElem? (i := 110) rfl)), rfl⟩
theorem wd_111 : (Jvm.Cond.fieldLink "ParlourLeaves$Tape" (40 : Nat) "ParlourLeaves$Tape" "faultKind" "I") ∈ zTB := List.mem_filter.mpr ⟨List.mem_append_right _ (List.mem_append_left _ (List.mem_of_getElem? (i := 111) rfl)), rfl⟩
theorem wd_113 : (Jvm.Cond.fieldLink "ParlourLeaves$Tape" (43 : Nat) "ParlourLeaves$Tape" "faultPlace" "I") ∈ zTB := List.mem_filter.mpr ⟨List.mem_append_right _ (List.mem_append_left _ (List.mem_of_getElem? (i := 113) rfl)), rfl⟩
theorem wd_115 : (Jvm.Cond.laysFinal "ParlourLeaves$Tape" "ParlourLeaves$Tape" "bytes" "[C") ∈ zTB := List.mem_filter.mpr ⟨List.mem_append_right _ (List.mem_append_left _ (List.mem_of_getElem? (i := 115) rfl)), rfl⟩
theorem wd_117 : (Jvm.Cond.lays "ParlourLeaves$Tape" "ParlourLeaves$Tape" "length" "I") ∈ zTB := List.mem_filter.mpr ⟨List.mem_append_right _ (List.mem_append_left _ (List.mem_of_getElem? (i := 117) rfl)), rfl⟩
theorem wd_119 : (Jvm.Cond.laysFinal "ParlourLeaves$Tape" "ParlourLeaves$Tape" "keys" "[J") ∈ zTB := List.mem_filter.mpr ⟨List.mem_append_right _ (List.mem_append_left _ (List.mem_of_getElem? (i := 119) rfl)), rfl⟩
theorem wd_121 : (Jvm.Cond.lays "ParlourLeaves$Tape" "ParlourLeaves$Tape" "limit" "I") ∈ zTB := List.mem_filter.mpr ⟨List.mem_append_right _ (List.mem_append_left _ (List.mem_of_getElem? (i := 121) rfl)), rfl⟩
theorem wd_123 : (Jvm.Cond.lays "ParlourLeaves$Tape" "ParlourLeaves$Tape" "next" "I") ∈ zTB := List.mem_filter.mpr ⟨List.mem_append_right _ (List.mem_append_left _ (List.mem_of_getElem? (i := 123) rfl)), rfl⟩
theorem wd_125 : (Jvm.Cond.lays "ParlourLeaves$Tape" "ParlourLeaves$Tape" "token" "I") ∈ zTB := List.mem_filter.mpr ⟨List.mem_append_right _ (List.mem_append_left _ (List.mem_of_getElem? (i := 125) rfl)), rfl⟩
theorem wd_127 : (Jvm.Cond.lays "ParlourLeaves$Tape" "ParlourLeaves$Tape" "start" "I") ∈ zTB := List.mem_filter.mpr ⟨List.mem_append_right _ (List.mem_append_left _ (List.mem_of_getElem? (i := 127) rfl)), rfl⟩
theorem wd_129 : (Jvm.Cond.lays "ParlourLeaves$Tape" "ParlourLeaves$Tape" "word" "J") ∈ zTB := List.mem_filter.mpr ⟨List.mem_append_right _ (List.mem_append_left _ (List.mem_of_getElem? (i := 129) rfl)), rfl⟩
theorem wd_131 : (Jvm.Cond.lays "ParlourLeaves$Tape" "ParlourLeaves$Tape" "value" "I") ∈ zTB := List.mem_filter.mpr ⟨List.mem_append_right _ (List.mem_append_left _ (List.mem_of_getElem? (i := 131) rfl)), rfl⟩
theorem wd_133 : (Jvm.Cond.lays "ParlourLeaves$Tape" "ParlourLeaves$Tape" "faultKind" "I") ∈ zTB := List.mem_filter.mpr ⟨List.mem_append_right _ (List.mem_append_left _ (List.mem_of_getElem? (i := 133) rfl)), rfl⟩
theorem wd_135 : (Jvm.Cond.lays "ParlourLeaves$Tape" "ParlourLeaves$Tape" "faultPlace" "I") ∈ zTB := List.mem_filter.mpr ⟨List.mem_append_right _ (List.mem_append_left _ (List.mem_of_getElem? (i := 135) rfl)), rfl⟩
theorem wd_152 : (Jvm.Cond.fieldLink "ParlourLeaves$Life" (60 : Nat) "ParlourLeaves$House" "size" "[I") ∈ zTB := List.mem_filter.mpr ⟨List.mem_append_right _ (List.mem_append_left _ (List.mem_of_getElem? (i := 152) rfl)), rfl⟩
theorem wd_154 : (Jvm.Cond.fieldLink "ParlourLeaves$House" (15 : Nat) "ParlourLeaves$House" "sight" "[I") ∈ zTB := List.mem_filter.mpr ⟨List.mem_append_right _ (List.mem_append_left _ (List.mem_of_getElem? (i := 154) rfl)), rfl⟩
theorem wd_164 : (Jvm.Cond.fieldLink "ParlourLeaves$Life" (83 : Nat) "ParlourLeaves$House" "slow" "[I") ∈ zTB := List.mem_filter.mpr ⟨List.mem_append_right _ (List.mem_append_left _ (List.mem_of_getElem? (i := 164) rfl)), rfl⟩
theorem wd_168 : (Jvm.Cond.fieldLink "ParlourLeaves$Life" (63 : Nat) "ParlourLeaves$House" "fern" "[I") ∈ zTB := List.mem_filter.mpr ⟨List.mem_append_right _ (List.mem_append_left _ (List.mem_of_getElem? (i := 168) rfl)), rfl⟩
theorem wd_179 : (Jvm.Cond.fieldLink "ParlourLeaves$Life" (66 : Nat) "ParlourLeaves$House" "dusty" "I") ∈ zTB := List.mem_filter.mpr ⟨List.mem_append_right _ (List.mem_append_left _ (List.mem_of_getElem? (i := 179) rfl)), rfl⟩
theorem wd_185 : (Jvm.Cond.fieldLink "ParlourLeaves$Life" (114 : Nat) "ParlourLeaves$House" "proof" "I") ∈ zTB := List.mem_filter.mpr ⟨List.mem_append_right _ (List.mem_append_left _ (List.mem_of_getElem? (i := 185) rfl)), rfl⟩
theorem wd_187 : (Jvm.Cond.laysFinal "ParlourLeaves$House" "ParlourLeaves$House" "size" "[I") ∈ zTB := List.mem_filter.mpr ⟨List.mem_append_right _ (List.mem_append_left _ (List.mem_of_getElem? (i := 187) rfl)), rfl⟩
theorem wd_189 : (Jvm.Cond.laysFinal "ParlourLeaves$House" "ParlourLeaves$House" "sight" "[I") ∈ zTB := List.mem_filter.mpr ⟨List.mem_append_right _ (List.mem_append_left _ (List.mem_of_getElem? (i := 189) rfl)), rfl⟩
theorem wd_191 : (Jvm.Cond.laysFinal "ParlourLeaves$House" "ParlourLeaves$House" "home" "[I") ∈ zTB := List.mem_filter.mpr ⟨List.mem_append_right _ (List.mem_append_left _ (List.mem_of_getElem? (i := 191) rfl)), rfl⟩
theorem wd_193 : (Jvm.Cond.laysFinal "ParlourLeaves$House" "ParlourLeaves$House" "slow" "[I") ∈ zTB := List.mem_filter.mpr ⟨List.mem_append_right _ (List.mem_append_left _ (List.mem_of_getElem? (i := 193) rfl)), rfl⟩
theorem wd_195 : (Jvm.Cond.laysFinal "ParlourLeaves$House" "ParlourLeaves$House" "fern" "[I") ∈ zTB := List.mem_filter.mpr ⟨List.mem_append_right _ (List.mem_append_left _ (List.mem_of_getElem? (i := 195) rfl)), rfl⟩
theorem wd_197 : (Jvm.Cond.laysFinal "ParlourLeaves$House" "ParlourLeaves$House" "plantWord" "[J") ∈ zTB := List.mem_filter.mpr ⟨List.mem_append_right _ (List.mem_append_left _ (List.mem_of_getElem? (i := 197) rfl)), rfl⟩
theorem wd_199 : (Jvm.Cond.laysFinal "ParlourLeaves$House" "ParlourLeaves$House" "word" "[J") ∈ zTB := List.mem_filter.mpr ⟨List.mem_append_right _ (List.mem_append_left _ (List.mem_of_getElem? (i := 199) rfl)), rfl⟩
theorem wd_201 : (Jvm.Cond.laysFinal "ParlourLeaves$House" "ParlourLeaves$House" "wordSort" "[I") ∈ zTB := List.mem_filter.mpr ⟨List.mem_append_right _ (List.mem_append_left _ (List.mem_of_getElem? (i := 201) rfl)), rfl⟩
theorem wd_203 : (Jvm.Cond.laysFinal "ParlourLeaves$House" "ParlourLeaves$House" "wordNumber" "[I") ∈ zTB := List.mem_filter.mpr ⟨List.mem_append_right _ (List.mem_append_left _ (List.mem_of_getElem? (i := 203) rfl)), rfl⟩
theorem wd_205 : (Jvm.Cond.lays "ParlourLeaves$House" "ParlourLeaves$House" "words" "I") ∈ zTB := List.mem_filter.mpr ⟨List.mem_append_right _ (List.mem_append_left _ (List.mem_of_getElem? (i := 205) rfl)), rfl⟩
theorem wd_207 : (Jvm.Cond.lays "ParlourLeaves$House" "ParlourLeaves$House" "dusty" "I") ∈ zTB := List.mem_filter.mpr ⟨List.mem_append_right _ (List.mem_append_left _ (List.mem_of_getElem? (i := 207) rfl)), rfl⟩
theorem wd_209 : (Jvm.Cond.lays "ParlourLeaves$House" "ParlourLeaves$House" "proof" "I") ∈ zTB := List.mem_filter.mpr ⟨List.mem_append_right _ (List.mem_append_left _ (List.mem_of_getElem? (i := 209) rfl)), rfl⟩
theorem wd_221 : (Jvm.Cond.fieldLink "ParlourLeaves$Life" (38 : Nat) "ParlourLeaves$Life" "house" "LParlourLeaves$House;") ∈ zTB := List.mem_filter.mpr ⟨List.mem_append_right _ (List.mem_append_left _ (List.mem_of_getElem? (i := 221) rfl)), rfl⟩
theorem wd_224 : (Jvm.Cond.fieldLink "ParlourLeaves$Life" (42 : Nat) "ParlourLeaves$Life" "day" "I") ∈ zTB := List.mem_filter.mpr ⟨List.mem_append_right _ (List.mem_append_left _ (List.mem_of_getElem? (i := 224) rfl)), rfl⟩
theorem wd_227 : (Jvm.Cond.fieldLink "ParlourLeaves$BookText" (106 : Nat) "ParlourLeaves$Life" "day" "I") ∈ zTB := List.mem_filter.mpr ⟨List.mem_append_right _ (List.mem_append_left _ (List.mem_of_getElem? (i := 227) rfl)), rfl⟩
theorem wd_228 : (Jvm.Cond.fieldLink "ParlourLeaves$Life" (46 : Nat) "ParlourLeaves$Life" "acts" "I") ∈ zTB := List.mem_filter.mpr ⟨List.mem_append_right _ (List.mem_append_left _ (List.mem_of_getElem? (i := 228) rfl)), rfl⟩
theorem wd_230 : (Jvm.Cond.fieldLink "ParlourLeaves$Life" (9 : Nat) "ParlourLeaves$Life" "doer" "[I") ∈ zTB := List.mem_filter.mpr ⟨List.mem_append_right _ (List.mem_append_left _ (List.mem_of_getElem? (i := 230) rfl)), rfl⟩
theorem wd_232 : (Jvm.Cond.fieldLink "ParlourLeaves$Life" (15 : Nat) "ParlourLeaves$Life" "deed" "[I") ∈ zTB := List.mem_filter.mpr ⟨List.mem_append_right _ (List.mem_append_left _ (List.mem_of_getElem? (i := 232) rfl)), rfl⟩
theorem wd_234 : (Jvm.Cond.fieldLink "ParlourLeaves$Life" (18 : Nat) "ParlourLeaves$Life" "where" "[I") ∈ zTB := List.mem_filter.mpr ⟨List.mem_append_right _ (List.mem_append_left _ (List.mem_of_getElem? (i := 234) rfl)), rfl⟩
theorem wd_236 : (Jvm.Cond.fieldLink "ParlourLeaves$Life" (21 : Nat) "ParlourLeaves$Life" "when" "[I") ∈ zTB := List.mem_filter.mpr ⟨List.mem_append_right _ (List.mem_append_left _ (List.mem_of_getElem? (i := 236) rfl)), rfl⟩
theorem wd_238 : (Jvm.Cond.fieldLink "ParlourLeaves$Life" (26 : Nat) "ParlourLeaves$Life" "leafDay" "[[I") ∈ zTB := List.mem_filter.mpr ⟨List.mem_append_right _ (List.mem_append_left _ (List.mem_of_getElem? (i := 238) rfl)), rfl⟩
theorem wd_241 : (Jvm.Cond.fieldLink "ParlourLeaves$Life" (29 : Nat) "ParlourLeaves$Life" "latestLeaf" "[I") ∈ zTB := List.mem_filter.mpr ⟨List.mem_append_right _ (List.mem_append_right _ (List.mem_append_left _ (List.mem_of_getElem? (i := 1) rfl))), rfl⟩
theorem wd_242 : (Jvm.Cond.fieldLink "ParlourLeaves$Life" (32 : Nat) "ParlourLeaves$Life" "at" "[I") ∈ zTB := List.mem_filter.mpr ⟨List.mem_append_right _ (List.mem_append_right _ (List.mem_append_left _ (List.mem_of_getElem? (i := 2) rfl))), rfl⟩
theorem wd_246 : (Jvm.Cond.fieldLink "ParlourLeaves$Life" (35 : Nat) "ParlourLeaves$Life" "dust" "[I") ∈ zTB := List.mem_filter.mpr ⟨List.mem_append_right _ (List.mem_append_right _ (List.mem_append_left _ (List.mem_of_getElem? (i := 6) rfl))), rfl⟩
theorem wd_250 : (Jvm.Cond.laysFinal "ParlourLeaves$Life" "ParlourLeaves$Life" "house" "LParlourLeaves$House;") ∈ zTB := List.mem_filter.mpr ⟨List.mem_append_right _ (List.mem_append_right _ (List.mem_append_left _ (List.mem_of_getElem? (i := 10) rfl))), rfl⟩
theorem wd_252 : (Jvm.Cond.lays "ParlourLeaves$Life" "ParlourLeaves$Life" "day" "I") ∈ zTB := List.mem_filter.mpr ⟨List.mem_append_right _ (List.mem_append_right _ (List.mem_append_left _ (List.mem_of_getElem? (i := 12) rfl))), rfl⟩
theorem wd_254 : (Jvm.Cond.lays "ParlourLeaves$Life" "ParlourLeaves$Life" "acts" "I") ∈ zTB := List.mem_filter.mpr ⟨List.mem_append_right _ (List.mem_append_right _ (List.mem_append_left _ (List.mem_of_getElem? (i := 14) rfl))), rfl⟩
theorem wd_256 : (Jvm.Cond.laysFinal "ParlourLeaves$Life" "ParlourLeaves$Life" "doer" "[I") ∈ zTB := List.mem_filter.mpr ⟨List.mem_append_right _ (List.mem_append_right _ (List.mem_append_left _ (List.mem_of_getElem? (i := 16) rfl))), rfl⟩
theorem wd_258 : (Jvm.Cond.laysFinal "ParlourLeaves$Life" "ParlourLeaves$Life" "deed" "[I") ∈ zTB := List.mem_filter.mpr ⟨List.mem_append_right _ (List.mem_append_right _ (List.mem_append_left _ (List.mem_of_getElem? (i := 18) rfl))), rfl⟩
theorem wd_260 : (Jvm.Cond.laysFinal "ParlourLeaves$Life" "ParlourLeaves$Life" "where" "[I") ∈ zTB := List.mem_filter.mpr ⟨List.mem_append_right _ (List.mem_append_right _ (List.mem_append_left _ (List.mem_of_getElem? (i := 20) rfl))), rfl⟩
theorem wd_262 : (Jvm.Cond.laysFinal "ParlourLeaves$Life" "ParlourLeaves$Life" "when" "[I") ∈ zTB := List.mem_filter.mpr ⟨List.mem_append_right _ (List.mem_append_right _ (List.mem_append_left _ (List.mem_of_getElem? (i := 22) rfl))), rfl⟩
theorem wd_264 : (Jvm.Cond.laysFinal "ParlourLeaves$Life" "ParlourLeaves$Life" "leafDay" "[[I") ∈ zTB := List.mem_filter.mpr ⟨List.mem_append_right _ (List.mem_append_right _ (List.mem_append_left _ (List.mem_of_getElem? (i := 24) rfl))), rfl⟩
theorem wd_266 : (Jvm.Cond.laysFinal "ParlourLeaves$Life" "ParlourLeaves$Life" "latestLeaf" "[I") ∈ zTB := List.mem_filter.mpr ⟨List.mem_append_right _ (List.mem_append_right _ (List.mem_append_left _ (List.mem_of_getElem? (i := 26) rfl))), rfl⟩
theorem wd_268 : (Jvm.Cond.laysFinal "ParlourLeaves$Life" "ParlourLeaves$Life" "at" "[I") ∈ zTB := List.mem_filter.mpr ⟨List.mem_append_right _ (List.mem_append_right _ (List.mem_append_left _ (List.mem_of_getElem? (i := 28) rfl))), rfl⟩
theorem wd_270 : (Jvm.Cond.laysFinal "ParlourLeaves$Life" "ParlourLeaves$Life" "dust" "[I") ∈ zTB := List.mem_filter.mpr ⟨List.mem_append_right _ (List.mem_append_right _ (List.mem_append_left _ (List.mem_of_getElem? (i := 30) rfl))), rfl⟩
theorem wd_376 : (Jvm.Cond.fieldLink "ParlourLeaves$BookText" (9 : Nat) "ParlourLeaves$BookText" "kind" "[I") ∈ zTB := List.mem_filter.mpr ⟨List.mem_append_right _ (List.mem_append_right _ (List.mem_append_left _ (List.mem_of_getElem? (i := 136) rfl))), rfl⟩
theorem wd_377 : (Jvm.Cond.fieldLink "ParlourLeaves$BookText" (15 : Nat) "ParlourLeaves$BookText" "first" "[I") ∈ zTB := List.mem_filter.mpr ⟨List.mem_append_right _ (List.mem_append_right _ (List.mem_append_left _ (List.mem_of_getElem? (i := 137) rfl))), rfl⟩
theorem wd_378 : (Jvm.Cond.fieldLink "ParlourLeaves$BookText" (18 : Nat) "ParlourLeaves$BookText" "second" "[I") ∈ zTB := List.mem_filter.mpr ⟨List.mem_append_right _ (List.mem_append_right _ (List.mem_append_left _ (List.mem_of_getElem? (i := 138) rfl))), rfl⟩
theorem wd_379 : (Jvm.Cond.fieldLink "ParlourLeaves$BookText" (21 : Nat) "ParlourLeaves$BookText" "third" "[I") ∈ zTB := List.mem_filter.mpr ⟨List.mem_append_right _ (List.mem_append_right _ (List.mem_append_left _ (List.mem_of_getElem? (i := 139) rfl))), rfl⟩
theorem wd_380 : (Jvm.Cond.fieldLink "ParlourLeaves$BookText" (51 : Nat) "ParlourLeaves$BookText" "lines" "I") ∈ zTB := List.mem_filter.mpr ⟨List.mem_append_right _ (List.mem_append_right _ (List.mem_append_left _ (List.mem_of_getElem? (i := 140) rfl))), rfl⟩
theorem wd_381 : (Jvm.Cond.fieldLink "ParlourLeaves$BookText" (24 : Nat) "ParlourLeaves$BookText" "why" "I") ∈ zTB := List.mem_filter.mpr ⟨List.mem_append_right _ (List.mem_append_right _ (List.mem_append_left _ (List.mem_of_getElem? (i := 141) rfl))), rfl⟩
theorem wd_383 : (Jvm.Cond.fieldLink "ParlourLeaves$BookText" (28 : Nat) "ParlourLeaves$BookText" "right" "I") ∈ zTB := List.mem_filter.mpr ⟨List.mem_append_right _ (List.mem_append_right _ (List.mem_append_left _ (List.mem_of_getElem? (i := 143) rfl))), rfl⟩
theorem wd_385 : (Jvm.Cond.fieldLink "ParlourLeaves$BookText" (31 : Nat) "ParlourLeaves$BookText" "dayThen" "I") ∈ zTB := List.mem_filter.mpr ⟨List.mem_append_right _ (List.mem_append_right _ (List.mem_append_left _ (List.mem_of_getElem? (i := 145) rfl))), rfl⟩
theorem wd_387 : (Jvm.Cond.fieldLink "ParlourLeaves$BookText" (34 : Nat) "ParlourLeaves$BookText" "provedThen" "I") ∈ zTB := List.mem_filter.mpr ⟨List.mem_append_right _ (List.mem_append_right _ (List.mem_append_left _ (List.mem_of_getElem? (i := 147) rfl))), rfl⟩
theorem wd_389 : (Jvm.Cond.laysFinal "ParlourLeaves$BookText" "ParlourLeaves$BookText" "tape" "LParlourLeaves$Tape;") ∈ zTB := List.mem_filter.mpr ⟨List.mem_append_right _ (List.mem_append_right _ (List.mem_append_left _ (List.mem_of_getElem? (i := 149) rfl))), rfl⟩
theorem wd_391 : (Jvm.Cond.laysFinal "ParlourLeaves$BookText" "ParlourLeaves$BookText" "house" "LParlourLeaves$House;") ∈ zTB := List.mem_filter.mpr ⟨List.mem_append_right _ (List.mem_append_right _ (List.mem_append_left _ (List.mem_of_getElem? (i := 151) rfl))), rfl⟩
theorem wd_393 : (Jvm.Cond.laysFinal "ParlourLeaves$BookText" "ParlourLeaves$BookText" "kind" "[I") ∈ zTB := List.mem_filter.mpr ⟨List.mem_append_right _ (List.mem_append_right _ (List.mem_append_left _ (List.mem_of_getElem? (i := 153) rfl))), rfl⟩
theorem wd_395 : (Jvm.Cond.laysFinal "ParlourLeaves$BookText" "ParlourLeaves$BookText" "first" "[I") ∈ zTB := List.mem_filter.mpr ⟨List.mem_append_right _ (List.mem_append_right _ (List.mem_append_left _ (List.mem_of_getElem? (i := 155) rfl))), rfl⟩
theorem wd_397 : (Jvm.Cond.laysFinal "ParlourLeaves$BookText" "ParlourLeaves$BookText" "second" "[I") ∈ zTB := List.mem_filter.mpr ⟨List.mem_append_right _ (List.mem_append_right _ (List.mem_append_left _ (List.mem_of_getElem? (i := 157) rfl))), rfl⟩
theorem wd_399 : (Jvm.Cond.laysFinal "ParlourLeaves$BookText" "ParlourLeaves$BookText" "third" "[I") ∈ zTB := List.mem_filter.mpr ⟨List.mem_append_right _ (List.mem_append_right _ (List.mem_append_left _ (List.mem_of_getElem? (i := 159) rfl))), rfl⟩
theorem wd_401 : (Jvm.Cond.lays "ParlourLeaves$BookText" "ParlourLeaves$BookText" "lines" "I") ∈ zTB := List.mem_filter.mpr ⟨List.mem_append_right _ (List.mem_append_right _ (List.mem_append_left _ (List.mem_of_getElem? (i := 161) rfl))), rfl⟩
theorem wd_403 : (Jvm.Cond.lays "ParlourLeaves$BookText" "ParlourLeaves$BookText" "why" "I") ∈ zTB := List.mem_filter.mpr ⟨List.mem_append_right _ (List.mem_append_right _ (List.mem_append_left _ (List.mem_of_getElem? (i := 163) rfl))), rfl⟩
theorem wd_405 : (Jvm.Cond.lays "ParlourLeaves$BookText" "ParlourLeaves$BookText" "right" "I") ∈ zTB := List.mem_filter.mpr ⟨List.mem_append_right _ (List.mem_append_right _ (List.mem_append_left _ (List.mem_of_getElem? (i := 165) rfl))), rfl⟩
theorem wd_407 : (Jvm.Cond.lays "ParlourLeaves$BookText" "ParlourLeaves$BookText" "dayThen" "I") ∈ zTB := List.mem_filter.mpr ⟨List.mem_append_right _ (List.mem_append_right _ (List.mem_append_left _ (List.mem_of_getElem? (i := 167) rfl))), rfl⟩
theorem wd_409 : (Jvm.Cond.lays "ParlourLeaves$BookText" "ParlourLeaves$BookText" "provedThen" "I") ∈ zTB := List.mem_filter.mpr ⟨List.mem_append_right _ (List.mem_append_right _ (List.mem_append_left _ (List.mem_of_getElem? (i := 169) rfl))), rfl⟩
theorem wd_588 : (Jvm.Cond.methodLink "ParlourLeaves$Tape" (49 : Nat) ({ cls := "java/lang/Math", name := "min", desc := "(II)I" } : Jvm.MethodName)) ∈ zTB := List.mem_filter.mpr ⟨List.mem_append_right _ (List.mem_append_right _ (List.mem_append_right _ (List.mem_append_left _ (List.mem_of_getElem? (i := 108) rfl)))), rfl⟩
theorem wd_589 : (Jvm.Cond.static ({ cls := "java/lang/Math", name := "min", desc := "(II)I" } : Jvm.MethodName)) ∈ zTB := List.mem_filter.mpr ⟨List.mem_append_right _ (List.mem_append_right _ (List.mem_append_right _ (List.mem_append_left _ (List.mem_of_getElem? (i := 109) rfl)))), rfl⟩
theorem wd_590 : (Jvm.Cond.code ({ cls := "java/lang/Math", name := "min", desc := "(II)I" } : Jvm.MethodName) prog_23_method_69_code (2 : Nat) (Option.some Jvm.ClassFile.FieldType.int)) ∈ zTB := List.mem_filter.mpr ⟨List.mem_append_right _ (List.mem_append_right _ (List.mem_append_right _ (List.mem_append_left _ (List.mem_of_getElem? (i := 110) rfl)))), rfl⟩
theorem wd_591 : (Jvm.Cond.methodLink "ParlourLeaves$Tape" (61 : Nat) ({ cls := "ParlourLeaves$Tape", name := "readRun", desc := "()V" } : Jvm.MethodName)) ∈ zTB := List.mem_filter.mpr ⟨List.mem_append_right _ (List.mem_append_right _ (List.mem_append_right _ (List.mem_append_left _ (List.mem_of_getElem? (i := 111) rfl)))), rfl⟩
theorem wd_593 : (Jvm.Cond.instanceMethod ({ cls := "ParlourLeaves$Tape", name := "readRun", desc := "()V" } : Jvm.MethodName)) ∈ zTB := List.mem_filter.mpr ⟨List.mem_append_right _ (List.mem_append_right _ (List.mem_append_right _ (List.mem_append_left _ (List.mem_of_getElem? (i := 113) rfl)))), rfl⟩
theorem wd_594 : (Jvm.Cond.code ({ cls := "ParlourLeaves$Tape", name := "readRun", desc := "()V" } : Jvm.MethodName) prog_11_method_6_code (4 : Nat) (Option.none : Option Jvm.ClassFile.FieldType)) ∈ zTB := List.mem_filter.mpr ⟨List.mem_append_right _ (List.mem_append_right _ (List.mem_append_right _ (List.mem_append_left _ (List.mem_of_getElem? (i := 114) rfl)))), rfl⟩
theorem wd_613 : (Jvm.Cond.methodLink "ParlourLeaves$Tape" (71 : Nat) ({ cls := "ParlourLeaves$Tape", name := "failAt", desc := "(II)Z" } : Jvm.MethodName)) ∈ zTB := List.mem_filter.mpr ⟨List.mem_append_right _ (List.mem_append_right _ (List.mem_append_right _ (List.mem_append_left _ (List.mem_of_getElem? (i := 133) rfl)))), rfl⟩
theorem wd_614 : (Jvm.Cond.instanceMethod ({ cls := "ParlourLeaves$Tape", name := "failAt", desc := "(II)Z" } : Jvm.MethodName)) ∈ zTB := List.mem_filter.mpr ⟨List.mem_append_right _ (List.mem_append_right _ (List.mem_append_right _ (List.mem_append_left _ (List.mem_of_getElem? (i := 134) rfl)))), rfl⟩
theorem wd_615 : (Jvm.Cond.selects "ParlourLeaves$Tape" ({ cls := "ParlourLeaves$Tape", name := "failAt", desc := "(II)Z" } : Jvm.MethodName) ({ cls := "ParlourLeaves$Tape", name := "failAt", desc := "(II)Z" } : Jvm.MethodName)) ∈ zTB := List.mem_filter.mpr ⟨List.mem_append_right _ (List.mem_append_right _ (List.mem_append_right _ (List.mem_append_left _ (List.mem_of_getElem? (i := 135) rfl)))), rfl⟩
theorem wd_616 : (Jvm.Cond.code ({ cls := "ParlourLeaves$Tape", name := "failAt", desc := "(II)Z" } : Jvm.MethodName) prog_11_method_7_code (3 : Nat) (Option.some Jvm.ClassFile.FieldType.boolean)) ∈ zTB := List.mem_filter.mpr ⟨List.mem_append_right _ (List.mem_append_right _ (List.mem_append_right _ (List.mem_append_left _ (List.mem_of_getElem? (i := 136) rfl)))), rfl⟩
theorem wd_645 : (Jvm.Cond.static ({ cls := "ParlourLeaves", name := "hasBit", desc := "(II)Z" } : Jvm.MethodName)) ∈ zTB := List.mem_filter.mpr ⟨List.mem_append_right _ (List.mem_append_right _ (List.mem_append_right _ (List.mem_append_left _ (List.mem_of_getElem? (i := 165) rfl)))), rfl⟩
theorem wd_646 : (Jvm.Cond.code ({ cls := "ParlourLeaves", name := "hasBit", desc := "(II)Z" } : Jvm.MethodName) prog_1_method_43_code (2 : Nat) (Option.some Jvm.ClassFile.FieldType.boolean)) ∈ zTB := List.mem_filter.mpr ⟨List.mem_append_right _ (List.mem_append_right _ (List.mem_append_right _ (List.mem_append_left _ (List.mem_of_getElem? (i := 166) rfl)))), rfl⟩
theorem wd_716 : (Jvm.Cond.instanceMethod ({ cls := "ParlourLeaves$Life", name := "actsProved", desc := "()I" } : Jvm.MethodName)) ∈ zTB := List.mem_filter.mpr ⟨List.mem_append_right _ (List.mem_append_right _ (List.mem_append_right _ (List.mem_append_left _ (List.mem_of_getElem? (i := 236) rfl)))), rfl⟩
theorem wd_717 : (Jvm.Cond.selects "ParlourLeaves$Life" ({ cls := "ParlourLeaves$Life", name := "actsProved", desc := "()I" } : Jvm.MethodName) ({ cls := "ParlourLeaves$Life", name := "actsProved", desc := "()I" } : Jvm.MethodName)) ∈ zTB := List.mem_filter.mpr ⟨List.mem_append_right _ (List.mem_append_right _ (List.mem_append_right _ (List.mem_append_left _ (List.mem_of_getElem? (i := 237) rfl)))), rfl⟩
theorem wd_718 : (Jvm.Cond.code ({ cls := "ParlourLeaves$Life", name := "actsProved", desc := "()I" } : Jvm.MethodName) prog_8_method_22_code (3 : Nat) (Option.some Jvm.ClassFile.FieldType.int)) ∈ zTB := List.mem_filter.mpr ⟨List.mem_append_right _ (List.mem_append_right _ (List.mem_append_right _ (List.mem_append_left _ (List.mem_of_getElem? (i := 238) rfl)))), rfl⟩
theorem wd_719 : (Jvm.Cond.methodLink "ParlourLeaves$Life" (117 : Nat) ({ cls := "ParlourLeaves$Life", name := "isProved", desc := "(I)Z" } : Jvm.MethodName)) ∈ zTB := List.mem_filter.mpr ⟨List.mem_append_right _ (List.mem_append_right _ (List.mem_append_right _ (List.mem_append_left _ (List.mem_of_getElem? (i := 239) rfl)))), rfl⟩
theorem wd_720 : (Jvm.Cond.instanceMethod ({ cls := "ParlourLeaves$Life", name := "isProved", desc := "(I)Z" } : Jvm.MethodName)) ∈ zTB := List.mem_filter.mpr ⟨List.mem_append_right _ (List.mem_append_right _ (List.mem_append_right _ (List.mem_append_right _ (List.mem_append_left _ (List.mem_of_getElem? (i := 0) rfl))))), rfl⟩
theorem wd_721 : (Jvm.Cond.selects "ParlourLeaves$Life" ({ cls := "ParlourLeaves$Life", name := "isProved", desc := "(I)Z" } : Jvm.MethodName) ({ cls := "ParlourLeaves$Life", name := "isProved", desc := "(I)Z" } : Jvm.MethodName)) ∈ zTB := List.mem_filter.mpr ⟨List.mem_append_right _ (List.mem_append_right _ (List.mem_append_right _ (List.mem_append_right _ (List.mem_append_left _ (List.mem_of_getElem? (i := 1) rfl))))), rfl⟩
theorem wd_722 : (Jvm.Cond.code ({ cls := "ParlourLeaves$Life", name := "isProved", desc := "(I)Z" } : Jvm.MethodName) prog_8_method_19_code (2 : Nat) (Option.some Jvm.ClassFile.FieldType.boolean)) ∈ zTB := List.mem_filter.mpr ⟨List.mem_append_right _ (List.mem_append_right _ (List.mem_append_right _ (List.mem_append_right _ (List.mem_append_left _ (List.mem_of_getElem? (i := 2) rfl))))), rfl⟩
theorem wd_723 : (Jvm.Cond.methodLink "ParlourLeaves$Life" (106 : Nat) ({ cls := "ParlourLeaves$Life", name := "witnessesBy", desc := "(II)I" } : Jvm.MethodName)) ∈ zTB := List.mem_filter.mpr ⟨List.mem_append_right _ (List.mem_append_right _ (List.mem_append_right _ (List.mem_append_right _ (List.mem_append_left _ (List.mem_of_getElem? (i := 3) rfl))))), rfl⟩
theorem wd_724 : (Jvm.Cond.instanceMethod ({ cls := "ParlourLeaves$Life", name := "witnessesBy", desc := "(II)I" } : Jvm.MethodName)) ∈ zTB := List.mem_filter.mpr ⟨List.mem_append_right _ (List.mem_append_right _ (List.mem_append_right _ (List.mem_append_right _ (List.mem_append_left _ (List.mem_of_getElem? (i := 4) rfl))))), rfl⟩
theorem wd_725 : (Jvm.Cond.selects "ParlourLeaves$Life" ({ cls := "ParlourLeaves$Life", name := "witnessesBy", desc := "(II)I" } : Jvm.MethodName) ({ cls := "ParlourLeaves$Life", name := "witnessesBy", desc := "(II)I" } : Jvm.MethodName)) ∈ zTB := List.mem_filter.mpr ⟨List.mem_append_right _ (List.mem_append_right _ (List.mem_append_right _ (List.mem_append_right _ (List.mem_append_left _ (List.mem_of_getElem? (i := 5) rfl))))), rfl⟩
theorem wd_726 : (Jvm.Cond.code ({ cls := "ParlourLeaves$Life", name := "witnessesBy", desc := "(II)I" } : Jvm.MethodName) prog_8_method_17_code (5 : Nat) (Option.some Jvm.ClassFile.FieldType.int)) ∈ zTB := List.mem_filter.mpr ⟨List.mem_append_right _ (List.mem_append_right _ (List.mem_append_right _ (List.mem_append_right _ (List.mem_append_left _ (List.mem_of_getElem? (i := 6) rfl))))), rfl⟩
theorem wd_727 : (Jvm.Cond.methodLink "ParlourLeaves$Life" (86 : Nat) ({ cls := "ParlourLeaves$Life", name := "plants", desc := "()I" } : Jvm.MethodName)) ∈ zTB := List.mem_filter.mpr ⟨List.mem_append_right _ (List.mem_append_right _ (List.mem_append_right _ (List.mem_append_right _ (List.mem_append_left _ (List.mem_of_getElem? (i := 7) rfl))))), rfl⟩
theorem wd_728 : (Jvm.Cond.instanceMethod ({ cls := "ParlourLeaves$Life", name := "plants", desc := "()I" } : Jvm.MethodName)) ∈ zTB := List.mem_filter.mpr ⟨List.mem_append_right _ (List.mem_append_right _ (List.mem_append_right _ (List.mem_append_right _ (List.mem_append_left _ (List.mem_of_getElem? (i := 8) rfl))))), rfl⟩
theorem wd_729 : (Jvm.Cond.selects "ParlourLeaves$Life" ({ cls := "ParlourLeaves$Life", name := "plants", desc := "()I" } : Jvm.MethodName) ({ cls := "ParlourLeaves$Life", name := "plants", desc := "()I" } : Jvm.MethodName)) ∈ zTB := List.mem_filter.mpr ⟨List.mem_append_right _ (List.mem_append_right _ (List.mem_append_right _ (List.mem_append_right _ (List.mem_append_left _ (List.mem_of_getElem? (i := 9) rfl))))), rfl⟩
theorem wd_730 : (Jvm.Cond.code ({ cls := "ParlourLeaves$Life", name := "plants", desc := "()I" } : Jvm.MethodName) prog_8_method_5_code (1 : Nat) (Option.some Jvm.ClassFile.FieldType.int)) ∈ zTB := List.mem_filter.mpr ⟨List.mem_append_right _ (List.mem_append_right _ (List.mem_append_right _ (List.mem_append_right _ (List.mem_append_left _ (List.mem_of_getElem? (i := 10) rfl))))), rfl⟩
theorem wd_731 : (Jvm.Cond.methodLink "ParlourLeaves$Life" (109 : Nat) ({ cls := "java/lang/Integer", name := "bitCount", desc := "(I)I" } : Jvm.MethodName)) ∈ zTB := List.mem_filter.mpr ⟨List.mem_append_right _ (List.mem_append_right _ (List.mem_append_right _ (List.mem_append_right _ (List.mem_append_left _ (List.mem_of_getElem? (i := 11) rfl))))), rfl⟩
theorem wd_732 : (Jvm.Cond.static ({ cls := "java/lang/Integer", name := "bitCount", desc := "(I)I" } : Jvm.MethodName)) ∈ zTB := List.mem_filter.mpr ⟨List.mem_append_right _ (List.mem_append_right _ (List.mem_append_right _ (List.mem_append_right _ (List.mem_append_left _ (List.mem_of_getElem? (i := 12) rfl))))), rfl⟩
theorem wd_733 : (Jvm.Cond.code ({ cls := "java/lang/Integer", name := "bitCount", desc := "(I)I" } : Jvm.MethodName) prog_22_method_49_code (1 : Nat) (Option.some Jvm.ClassFile.FieldType.int)) ∈ zTB := List.mem_filter.mpr ⟨List.mem_append_right _ (List.mem_append_right _ (List.mem_append_right _ (List.mem_append_right _ (List.mem_append_left _ (List.mem_of_getElem? (i := 13) rfl))))), rfl⟩
theorem wd_734 : (Jvm.Cond.constant "java/lang/Integer" (265 : Nat) (1431655765 : Int32)) ∈ zTB := List.mem_filter.mpr ⟨List.mem_append_right _ (List.mem_append_right _ (List.mem_append_right _ (List.mem_append_right _ (List.mem_append_left _ (List.mem_of_getElem? (i := 14) rfl))))), rfl⟩
theorem wd_735 : (Jvm.Cond.constant "java/lang/Integer" (266 : Nat) (858993459 : Int32)) ∈ zTB := List.mem_filter.mpr ⟨List.mem_append_right _ (List.mem_append_right _ (List.mem_append_right _ (List.mem_append_right _ (List.mem_append_left _ (List.mem_of_getElem? (i := 15) rfl))))), rfl⟩
theorem wd_736 : (Jvm.Cond.constant "java/lang/Integer" (267 : Nat) (252645135 : Int32)) ∈ zTB := List.mem_filter.mpr ⟨List.mem_append_right _ (List.mem_append_right _ (List.mem_append_right _ (List.mem_append_right _ (List.mem_append_left _ (List.mem_of_getElem? (i := 16) rfl))))), rfl⟩
theorem wd_741 : (Jvm.Cond.methodLink "ParlourLeaves$Life" (69 : Nat) ({ cls := "ParlourLeaves$Life", name := "isBlind", desc := "(I)Z" } : Jvm.MethodName)) ∈ zTB := List.mem_filter.mpr ⟨List.mem_append_right _ (List.mem_append_right _ (List.mem_append_right _ (List.mem_append_right _ (List.mem_append_left _ (List.mem_of_getElem? (i := 21) rfl))))), rfl⟩
theorem wd_742 : (Jvm.Cond.instanceMethod ({ cls := "ParlourLeaves$Life", name := "isBlind", desc := "(I)Z" } : Jvm.MethodName)) ∈ zTB := List.mem_filter.mpr ⟨List.mem_append_right _ (List.mem_append_right _ (List.mem_append_right _ (List.mem_append_right _ (List.mem_append_left _ (List.mem_of_getElem? (i := 22) rfl))))), rfl⟩
theorem wd_743 : (Jvm.Cond.selects "ParlourLeaves$Life" ({ cls := "ParlourLeaves$Life", name := "isBlind", desc := "(I)Z" } : Jvm.MethodName) ({ cls := "ParlourLeaves$Life", name := "isBlind", desc := "(I)Z" } : Jvm.MethodName)) ∈ zTB := List.mem_filter.mpr ⟨List.mem_append_right _ (List.mem_append_right _ (List.mem_append_right _ (List.mem_append_right _ (List.mem_append_left _ (List.mem_of_getElem? (i := 23) rfl))))), rfl⟩
theorem wd_744 : (Jvm.Cond.code ({ cls := "ParlourLeaves$Life", name := "isBlind", desc := "(I)Z" } : Jvm.MethodName) prog_8_method_7_code (2 : Nat) (Option.some Jvm.ClassFile.FieldType.boolean)) ∈ zTB := List.mem_filter.mpr ⟨List.mem_append_right _ (List.mem_append_right _ (List.mem_append_right _ (List.mem_append_right _ (List.mem_append_left _ (List.mem_of_getElem? (i := 24) rfl))))), rfl⟩
theorem wd_769 : (Jvm.Cond.methodLink "ParlourLeaves$Life" (90 : Nat) ({ cls := "ParlourLeaves$Life", name := "seenBy", desc := "(I)I" } : Jvm.MethodName)) ∈ zTB := List.mem_filter.mpr ⟨List.mem_append_right _ (List.mem_append_right _ (List.mem_append_right _ (List.mem_append_right _ (List.mem_append_left _ (List.mem_of_getElem? (i := 49) rfl))))), rfl⟩
theorem wd_770 : (Jvm.Cond.instanceMethod ({ cls := "ParlourLeaves$Life", name := "seenBy", desc := "(I)I" } : Jvm.MethodName)) ∈ zTB := List.mem_filter.mpr ⟨List.mem_append_right _ (List.mem_append_right _ (List.mem_append_right _ (List.mem_append_right _ (List.mem_append_left _ (List.mem_of_getElem? (i := 50) rfl))))), rfl⟩
theorem wd_771 : (Jvm.Cond.selects "ParlourLeaves$Life" ({ cls := "ParlourLeaves$Life", name := "seenBy", desc := "(I)I" } : Jvm.MethodName) ({ cls := "ParlourLeaves$Life", name := "seenBy", desc := "(I)I" } : Jvm.MethodName)) ∈ zTB := List.mem_filter.mpr ⟨List.mem_append_right _ (List.mem_append_right _ (List.mem_append_right _ (List.mem_append_right _ (List.mem_append_left _ (List.mem_of_getElem? (i := 51) rfl))))), rfl⟩
theorem wd_772 : (Jvm.Cond.code ({ cls := "ParlourLeaves$Life", name := "seenBy", desc := "(I)I" } : Jvm.MethodName) prog_8_method_8_code (2 : Nat) (Option.some Jvm.ClassFile.FieldType.int)) ∈ zTB := List.mem_filter.mpr ⟨List.mem_append_right _ (List.mem_append_right _ (List.mem_append_right _ (List.mem_append_right _ (List.mem_append_left _ (List.mem_of_getElem? (i := 52) rfl))))), rfl⟩
theorem wd_773 : (Jvm.Cond.methodLink "ParlourLeaves$Life" (73 : Nat) ({ cls := "ParlourLeaves$House", name := "reach", desc := "(I)I" } : Jvm.MethodName)) ∈ zTB := List.mem_filter.mpr ⟨List.mem_append_right _ (List.mem_append_right _ (List.mem_append_right _ (List.mem_append_right _ (List.mem_append_left _ (List.mem_of_getElem? (i := 53) rfl))))), rfl⟩
theorem wd_774 : (Jvm.Cond.instanceMethod ({ cls := "ParlourLeaves$House", name := "reach", desc := "(I)I" } : Jvm.MethodName)) ∈ zTB := List.mem_filter.mpr ⟨List.mem_append_right _ (List.mem_append_right _ (List.mem_append_right _ (List.mem_append_right _ (List.mem_append_left _ (List.mem_of_getElem? (i := 54) rfl))))), rfl⟩
theorem wd_775 : (Jvm.Cond.selects "ParlourLeaves$House" ({ cls := "ParlourLeaves$House", name := "reach", desc := "(I)I" } : Jvm.MethodName) ({ cls := "ParlourLeaves$House", name := "reach", desc := "(I)I" } : Jvm.MethodName)) ∈ zTB := List.mem_filter.mpr ⟨List.mem_append_right _ (List.mem_append_right _ (List.mem_append_right _ (List.mem_append_right _ (List.mem_append_left _ (List.mem_of_getElem? (i := 55) rfl))))), rfl⟩
theorem wd_776 : (Jvm.Cond.code ({ cls := "ParlourLeaves$House", name := "reach", desc := "(I)I" } : Jvm.MethodName) prog_5_method_9_code (2 : Nat) (Option.some Jvm.ClassFile.FieldType.int)) ∈ zTB := List.mem_filter.mpr ⟨List.mem_append_right _ (List.mem_append_right _ (List.mem_append_right _ (List.mem_append_right _ (List.mem_append_left _ (List.mem_of_getElem? (i := 56) rfl))))), rfl⟩
theorem wd_785 : (Jvm.Cond.instanceMethod ({ cls := "ParlourLeaves$Life", name := "whyNotDo", desc := "()I" } : Jvm.MethodName)) ∈ zTB := List.mem_filter.mpr ⟨List.mem_append_right _ (List.mem_append_right _ (List.mem_append_right _ (List.mem_append_right _ (List.mem_append_left _ (List.mem_of_getElem? (i := 65) rfl))))), rfl⟩
theorem wd_786 : (Jvm.Cond.selects "ParlourLeaves$Life" ({ cls := "ParlourLeaves$Life", name := "whyNotDo", desc := "()I" } : Jvm.MethodName) ({ cls := "ParlourLeaves$Life", name := "whyNotDo", desc := "()I" } : Jvm.MethodName)) ∈ zTB := List.mem_filter.mpr ⟨List.mem_append_right _ (List.mem_append_right _ (List.mem_append_right _ (List.mem_append_right _ (List.mem_append_left _ (List.mem_of_getElem? (i := 66) rfl))))), rfl⟩
theorem wd_787 : (Jvm.Cond.code ({ cls := "ParlourLeaves$Life", name := "whyNotDo", desc := "()I" } : Jvm.MethodName) prog_8_method_10_code (1 : Nat) (Option.some Jvm.ClassFile.FieldType.int)) ∈ zTB := List.mem_filter.mpr ⟨List.mem_append_right _ (List.mem_append_right _ (List.mem_append_right _ (List.mem_append_right _ (List.mem_append_left _ (List.mem_of_getElem? (i := 67) rfl))))), rfl⟩
theorem wd_799 : (Jvm.Cond.instanceMethod ({ cls := "ParlourLeaves$Life", name := "doDeed", desc := "(III)V" } : Jvm.MethodName)) ∈ zTB := List.mem_filter.mpr ⟨List.mem_append_right _ (List.mem_append_right _ (List.mem_append_right _ (List.mem_append_right _ (List.mem_append_left _ (List.mem_of_getElem? (i := 79) rfl))))), rfl⟩
theorem wd_800 : (Jvm.Cond.selects "ParlourLeaves$Life" ({ cls := "ParlourLeaves$Life", name := "doDeed", desc := "(III)V" } : Jvm.MethodName) ({ cls := "ParlourLeaves$Life", name := "doDeed", desc := "(III)V" } : Jvm.MethodName)) ∈ zTB := List.mem_filter.mpr ⟨List.mem_append_right _ (List.mem_append_right _ (List.mem_append_right _ (List.mem_append_right _ (List.mem_append_left _ (List.mem_of_getElem? (i := 80) rfl))))), rfl⟩
theorem wd_801 : (Jvm.Cond.code ({ cls := "ParlourLeaves$Life", name := "doDeed", desc := "(III)V" } : Jvm.MethodName) prog_8_method_13_code (5 : Nat) (Option.none : Option Jvm.ClassFile.FieldType)) ∈ zTB := List.mem_filter.mpr ⟨List.mem_append_right _ (List.mem_append_right _ (List.mem_append_right _ (List.mem_append_right _ (List.mem_append_left _ (List.mem_of_getElem? (i := 81) rfl))))), rfl⟩
theorem wd_803 : (Jvm.Cond.methodLink "ParlourLeaves$Life" (97 : Nat) ({ cls := "ParlourLeaves$Life", name := "nextLeafDay", desc := "(I)I" } : Jvm.MethodName)) ∈ zTB := List.mem_filter.mpr ⟨List.mem_append_right _ (List.mem_append_right _ (List.mem_append_right _ (List.mem_append_right _ (List.mem_append_left _ (List.mem_of_getElem? (i := 83) rfl))))), rfl⟩
theorem wd_804 : (Jvm.Cond.instanceMethod ({ cls := "ParlourLeaves$Life", name := "nextLeafDay", desc := "(I)I" } : Jvm.MethodName)) ∈ zTB := List.mem_filter.mpr ⟨List.mem_append_right _ (List.mem_append_right _ (List.mem_append_right _ (List.mem_append_right _ (List.mem_append_left _ (List.mem_of_getElem? (i := 84) rfl))))), rfl⟩
theorem wd_805 : (Jvm.Cond.selects "ParlourLeaves$Life" ({ cls := "ParlourLeaves$Life", name := "nextLeafDay", desc := "(I)I" } : Jvm.MethodName) ({ cls := "ParlourLeaves$Life", name := "nextLeafDay", desc := "(I)I" } : Jvm.MethodName)) ∈ zTB := List.mem_filter.mpr ⟨List.mem_append_right _ (List.mem_append_right _ (List.mem_append_right _ (List.mem_append_right _ (List.mem_append_left _ (List.mem_of_getElem? (i := 85) rfl))))), rfl⟩
theorem wd_806 : (Jvm.Cond.code ({ cls := "ParlourLeaves$Life", name := "nextLeafDay", desc := "(I)I" } : Jvm.MethodName) prog_8_method_9_code (2 : Nat) (Option.some Jvm.ClassFile.FieldType.int)) ∈ zTB := List.mem_filter.mpr ⟨List.mem_append_right _ (List.mem_append_right _ (List.mem_append_right _ (List.mem_append_right _ (List.mem_append_left _ (List.mem_of_getElem? (i := 86) rfl))))), rfl⟩
theorem wd_807 : (Jvm.Cond.methodLink "ParlourLeaves$Life" (77 : Nat) ({ cls := "java/lang/Math", name := "max", desc := "(II)I" } : Jvm.MethodName)) ∈ zTB := List.mem_filter.mpr ⟨List.mem_append_right _ (List.mem_append_right _ (List.mem_append_right _ (List.mem_append_right _ (List.mem_append_left _ (List.mem_of_getElem? (i := 87) rfl))))), rfl⟩
theorem wd_808 : (Jvm.Cond.static ({ cls := "java/lang/Math", name := "max", desc := "(II)I" } : Jvm.MethodName)) ∈ zTB := List.mem_filter.mpr ⟨List.mem_append_right _ (List.mem_append_right _ (List.mem_append_right _ (List.mem_append_right _ (List.mem_append_left _ (List.mem_of_getElem? (i := 88) rfl))))), rfl⟩
theorem wd_809 : (Jvm.Cond.code ({ cls := "java/lang/Math", name := "max", desc := "(II)I" } : Jvm.MethodName) prog_23_method_65_code (2 : Nat) (Option.some Jvm.ClassFile.FieldType.int)) ∈ zTB := List.mem_filter.mpr ⟨List.mem_append_right _ (List.mem_append_right _ (List.mem_append_right _ (List.mem_append_right _ (List.mem_append_left _ (List.mem_of_getElem? (i := 89) rfl))))), rfl⟩
theorem wd_815 : (Jvm.Cond.instanceMethod ({ cls := "ParlourLeaves$Life", name := "whyNotSponge", desc := "(I)I" } : Jvm.MethodName)) ∈ zTB := List.mem_filter.mpr ⟨List.mem_append_right _ (List.mem_append_right _ (List.mem_append_right _ (List.mem_append_right _ (List.mem_append_left _ (List.mem_of_getElem? (i := 95) rfl))))), rfl⟩
theorem wd_816 : (Jvm.Cond.selects "ParlourLeaves$Life" ({ cls := "ParlourLeaves$Life", name := "whyNotSponge", desc := "(I)I" } : Jvm.MethodName) ({ cls := "ParlourLeaves$Life", name := "whyNotSponge", desc := "(I)I" } : Jvm.MethodName)) ∈ zTB := List.mem_filter.mpr ⟨List.mem_append_right _ (List.mem_append_right _ (List.mem_append_right _ (List.mem_append_right _ (List.mem_append_left _ (List.mem_of_getElem? (i := 96) rfl))))), rfl⟩
theorem wd_817 : (Jvm.Cond.code ({ cls := "ParlourLeaves$Life", name := "whyNotSponge", desc := "(I)I" } : Jvm.MethodName) prog_8_method_11_code (2 : Nat) (Option.some Jvm.ClassFile.FieldType.int)) ∈ zTB := List.mem_filter.mpr ⟨List.mem_append_right _ (List.mem_append_right _ (List.mem_append_right _ (List.mem_append_right _ (List.mem_append_left _ (List.mem_of_getElem? (i := 97) rfl))))), rfl⟩
theorem wd_819 : (Jvm.Cond.instanceMethod ({ cls := "ParlourLeaves$Life", name := "spongeOff", desc := "(I)V" } : Jvm.MethodName)) ∈ zTB := List.mem_filter.mpr ⟨List.mem_append_right _ (List.mem_append_right _ (List.mem_append_right _ (List.mem_append_right _ (List.mem_append_left _ (List.mem_of_getElem? (i := 99) rfl))))), rfl⟩
theorem wd_820 : (Jvm.Cond.selects "ParlourLeaves$Life" ({ cls := "ParlourLeaves$Life", name := "spongeOff", desc := "(I)V" } : Jvm.MethodName) ({ cls := "ParlourLeaves$Life", name := "spongeOff", desc := "(I)V" } : Jvm.MethodName)) ∈ zTB := List.mem_filter.mpr ⟨List.mem_append_right _ (List.mem_append_right _ (List.mem_append_right _ (List.mem_append_right _ (List.mem_append_left _ (List.mem_of_getElem? (i := 100) rfl))))), rfl⟩
theorem wd_821 : (Jvm.Cond.code ({ cls := "ParlourLeaves$Life", name := "spongeOff", desc := "(I)V" } : Jvm.MethodName) prog_8_method_14_code (2 : Nat) (Option.none : Option Jvm.ClassFile.FieldType)) ∈ zTB := List.mem_filter.mpr ⟨List.mem_append_right _ (List.mem_append_right _ (List.mem_append_right _ (List.mem_append_right _ (List.mem_append_left _ (List.mem_of_getElem? (i := 101) rfl))))), rfl⟩
theorem wd_827 : (Jvm.Cond.instanceMethod ({ cls := "ParlourLeaves$Life", name := "whyNotCarry", desc := "(II)I" } : Jvm.MethodName)) ∈ zTB := List.mem_filter.mpr ⟨List.mem_append_right _ (List.mem_append_right _ (List.mem_append_right _ (List.mem_append_right _ (List.mem_append_left _ (List.mem_of_getElem? (i := 107) rfl))))), rfl⟩
theorem wd_828 : (Jvm.Cond.selects "ParlourLeaves$Life" ({ cls := "ParlourLeaves$Life", name := "whyNotCarry", desc := "(II)I" } : Jvm.MethodName) ({ cls := "ParlourLeaves$Life", name := "whyNotCarry", desc := "(II)I" } : Jvm.MethodName)) ∈ zTB := List.mem_filter.mpr ⟨List.mem_append_right _ (List.mem_append_right _ (List.mem_append_right _ (List.mem_append_right _ (List.mem_append_left _ (List.mem_of_getElem? (i := 108) rfl))))), rfl⟩
theorem wd_829 : (Jvm.Cond.code ({ cls := "ParlourLeaves$Life", name := "whyNotCarry", desc := "(II)I" } : Jvm.MethodName) prog_8_method_12_code (3 : Nat) (Option.some Jvm.ClassFile.FieldType.int)) ∈ zTB := List.mem_filter.mpr ⟨List.mem_append_right _ (List.mem_append_right _ (List.mem_append_right _ (List.mem_append_right _ (List.mem_append_left _ (List.mem_of_getElem? (i := 109) rfl))))), rfl⟩
theorem wd_831 : (Jvm.Cond.instanceMethod ({ cls := "ParlourLeaves$Life", name := "carryTo", desc := "(II)V" } : Jvm.MethodName)) ∈ zTB := List.mem_filter.mpr ⟨List.mem_append_right _ (List.mem_append_right _ (List.mem_append_right _ (List.mem_append_right _ (List.mem_append_left _ (List.mem_of_getElem? (i := 111) rfl))))), rfl⟩
theorem wd_832 : (Jvm.Cond.selects "ParlourLeaves$Life" ({ cls := "ParlourLeaves$Life", name := "carryTo", desc := "(II)V" } : Jvm.MethodName) ({ cls := "ParlourLeaves$Life", name := "carryTo", desc := "(II)V" } : Jvm.MethodName)) ∈ zTB := List.mem_filter.mpr ⟨List.mem_append_right _ (List.mem_append_right _ (List.mem_append_right _ (List.mem_append_right _ (List.mem_append_left _ (List.mem_of_getElem? (i := 112) rfl))))), rfl⟩
theorem wd_833 : (Jvm.Cond.code ({ cls := "ParlourLeaves$Life", name := "carryTo", desc := "(II)V" } : Jvm.MethodName) prog_8_method_15_code (3 : Nat) (Option.none : Option Jvm.ClassFile.FieldType)) ∈ zTB := List.mem_filter.mpr ⟨List.mem_append_right _ (List.mem_append_right _ (List.mem_append_right _ (List.mem_append_right _ (List.mem_append_left _ (List.mem_of_getElem? (i := 113) rfl))))), rfl⟩
theorem wd_839 : (Jvm.Cond.instanceMethod ({ cls := "ParlourLeaves$Life", name := "daysLeft", desc := "()I" } : Jvm.MethodName)) ∈ zTB := List.mem_filter.mpr ⟨List.mem_append_right _ (List.mem_append_right _ (List.mem_append_right _ (List.mem_append_right _ (List.mem_append_left _ (List.mem_of_getElem? (i := 119) rfl))))), rfl⟩
theorem wd_840 : (Jvm.Cond.selects "ParlourLeaves$Life" ({ cls := "ParlourLeaves$Life", name := "daysLeft", desc := "()I" } : Jvm.MethodName) ({ cls := "ParlourLeaves$Life", name := "daysLeft", desc := "()I" } : Jvm.MethodName)) ∈ zTB := List.mem_filter.mpr ⟨List.mem_append_right _ (List.mem_append_right _ (List.mem_append_right _ (List.mem_append_right _ (List.mem_append_left _ (List.mem_of_getElem? (i := 120) rfl))))), rfl⟩
theorem wd_841 : (Jvm.Cond.code ({ cls := "ParlourLeaves$Life", name := "daysLeft", desc := "()I" } : Jvm.MethodName) prog_8_method_6_code (1 : Nat) (Option.some Jvm.ClassFile.FieldType.int)) ∈ zTB := List.mem_filter.mpr ⟨List.mem_append_right _ (List.mem_append_right _ (List.mem_append_right _ (List.mem_append_right _ (List.mem_append_left _ (List.mem_of_getElem? (i := 121) rfl))))), rfl⟩
theorem wd_843 : (Jvm.Cond.instanceMethod ({ cls := "ParlourLeaves$Life", name := "goDays", desc := "(I)I" } : Jvm.MethodName)) ∈ zTB := List.mem_filter.mpr ⟨List.mem_append_right _ (List.mem_append_right _ (List.mem_append_right _ (List.mem_append_right _ (List.mem_append_left _ (List.mem_of_getElem? (i := 123) rfl))))), rfl⟩
theorem wd_844 : (Jvm.Cond.selects "ParlourLeaves$Life" ({ cls := "ParlourLeaves$Life", name := "goDays", desc := "(I)I" } : Jvm.MethodName) ({ cls := "ParlourLeaves$Life", name := "goDays", desc := "(I)I" } : Jvm.MethodName)) ∈ zTB := List.mem_filter.mpr ⟨List.mem_append_right _ (List.mem_append_right _ (List.mem_append_right _ (List.mem_append_right _ (List.mem_append_left _ (List.mem_of_getElem? (i := 124) rfl))))), rfl⟩
theorem wd_845 : (Jvm.Cond.code ({ cls := "ParlourLeaves$Life", name := "goDays", desc := "(I)I" } : Jvm.MethodName) prog_8_method_16_code (4 : Nat) (Option.some Jvm.ClassFile.FieldType.int)) ∈ zTB := List.mem_filter.mpr ⟨List.mem_append_right _ (List.mem_append_right _ (List.mem_append_right _ (List.mem_append_right _ (List.mem_append_left _ (List.mem_of_getElem? (i := 125) rfl))))), rfl⟩
theorem wd_846 : (Jvm.Cond.methodLink "ParlourLeaves$Life" (100 : Nat) ({ cls := "ParlourLeaves$Life", name := "daysLeft", desc := "()I" } : Jvm.MethodName)) ∈ zTB := List.mem_filter.mpr ⟨List.mem_append_right _ (List.mem_append_right _ (List.mem_append_right _ (List.mem_append_right _ (List.mem_append_left _ (List.mem_of_getElem? (i := 126) rfl))))), rfl⟩
theorem wd_847 : (Jvm.Cond.methodLink "ParlourLeaves$Life" (103 : Nat) ({ cls := "java/lang/Math", name := "min", desc := "(II)I" } : Jvm.MethodName)) ∈ zTB := List.mem_filter.mpr ⟨List.mem_append_right _ (List.mem_append_right _ (List.mem_append_right _ (List.mem_append_right _ (List.mem_append_left _ (List.mem_of_getElem? (i := 127) rfl))))), rfl⟩
theorem wd_1252 : (Jvm.Cond.methodLink "ParlourLeaves$BookText" (102 : Nat) ({ cls := "ParlourLeaves$BookText", name := "liveLine", desc := "(LParlourLeaves$Life;I)I" } : Jvm.MethodName)) ∈ zTB := List.mem_filter.mpr ⟨List.mem_append_right _ (List.mem_append_right _ (List.mem_append_right _ (List.mem_append_right _ (List.mem_append_right _ (List.mem_append_right _ (List.mem_append_left _ (List.mem_of_getElem? (i := 52) rfl))))))), rfl⟩
theorem wd_1254 : (Jvm.Cond.instanceMethod ({ cls := "ParlourLeaves$BookText", name := "liveLine", desc := "(LParlourLeaves$Life;I)I" } : Jvm.MethodName)) ∈ zTB := List.mem_filter.mpr ⟨List.mem_append_right _ (List.mem_append_right _ (List.mem_append_right _ (List.mem_append_right _ (List.mem_append_right _ (List.mem_append_right _ (List.mem_append_left _ (List.mem_of_getElem? (i := 54) rfl))))))), rfl⟩
theorem wd_1255 : (Jvm.Cond.code ({ cls := "ParlourLeaves$BookText", name := "liveLine", desc := "(LParlourLeaves$Life;I)I" } : Jvm.MethodName) prog_2_method_10_code (3 : Nat) (Option.some Jvm.ClassFile.FieldType.int)) ∈ zTB := List.mem_filter.mpr ⟨List.mem_append_right _ (List.mem_append_right _ (List.mem_append_right _ (List.mem_append_right _ (List.mem_append_right _ (List.mem_append_right _ (List.mem_append_left _ (List.mem_of_getElem? (i := 55) rfl))))))), rfl⟩
theorem wd_1256 : (Jvm.Cond.methodLink "ParlourLeaves$BookText" (115 : Nat) ({ cls := "ParlourLeaves$BookText", name := "liveDoes", desc := "(LParlourLeaves$Life;I)I" } : Jvm.MethodName)) ∈ zTB := List.mem_filter.mpr ⟨List.mem_append_right _ (List.mem_append_right _ (List.mem_append_right _ (List.mem_append_right _ (List.mem_append_right _ (List.mem_append_right _ (List.mem_append_left _ (List.mem_of_getElem? (i := 56) rfl))))))), rfl⟩
theorem wd_1258 : (Jvm.Cond.instanceMethod ({ cls := "ParlourLeaves$BookText", name := "liveDoes", desc := "(LParlourLeaves$Life;I)I" } : Jvm.MethodName)) ∈ zTB := List.mem_filter.mpr ⟨List.mem_append_right _ (List.mem_append_right _ (List.mem_append_right _ (List.mem_append_right _ (List.mem_append_right _ (List.mem_append_right _ (List.mem_append_left _ (List.mem_of_getElem? (i := 58) rfl))))))), rfl⟩
theorem wd_1259 : (Jvm.Cond.code ({ cls := "ParlourLeaves$BookText", name := "liveDoes", desc := "(LParlourLeaves$Life;I)I" } : Jvm.MethodName) prog_2_method_11_code (4 : Nat) (Option.some Jvm.ClassFile.FieldType.int)) ∈ zTB := List.mem_filter.mpr ⟨List.mem_append_right _ (List.mem_append_right _ (List.mem_append_right _ (List.mem_append_right _ (List.mem_append_right _ (List.mem_append_right _ (List.mem_append_left _ (List.mem_of_getElem? (i := 59) rfl))))))), rfl⟩
theorem wd_1260 : (Jvm.Cond.methodLink "ParlourLeaves$BookText" (128 : Nat) ({ cls := "ParlourLeaves$Life", name := "whyNotDo", desc := "()I" } : Jvm.MethodName)) ∈ zTB := List.mem_filter.mpr ⟨List.mem_append_right _ (List.mem_append_right _ (List.mem_append_right _ (List.mem_append_right _ (List.mem_append_right _ (List.mem_append_right _ (List.mem_append_left _ (List.mem_of_getElem? (i := 60) rfl))))))), rfl⟩
theorem wd_1261 : (Jvm.Cond.methodLink "ParlourLeaves$BookText" (131 : Nat) ({ cls := "ParlourLeaves$Life", name := "doDeed", desc := "(III)V" } : Jvm.MethodName)) ∈ zTB := List.mem_filter.mpr ⟨List.mem_append_right _ (List.mem_append_right _ (List.mem_append_right _ (List.mem_append_right _ (List.mem_append_right _ (List.mem_append_right _ (List.mem_append_left _ (List.mem_of_getElem? (i := 61) rfl))))))), rfl⟩
theorem wd_1262 : (Jvm.Cond.methodLink "ParlourLeaves$BookText" (118 : Nat) ({ cls := "ParlourLeaves$BookText", name := "liveSponge", desc := "(LParlourLeaves$Life;I)I" } : Jvm.MethodName)) ∈ zTB := List.mem_filter.mpr ⟨List.mem_append_right _ (List.mem_append_right _ (List.mem_append_right _ (List.mem_append_right _ (List.mem_append_right _ (List.mem_append_right _ (List.mem_append_left _ (List.mem_of_getElem? (i := 62) rfl))))))), rfl⟩
theorem wd_1263 : (Jvm.Cond.static ({ cls := "ParlourLeaves$BookText", name := "liveSponge", desc := "(LParlourLeaves$Life;I)I" } : Jvm.MethodName)) ∈ zTB := List.mem_filter.mpr ⟨List.mem_append_right _ (List.mem_append_right _ (List.mem_append_right _ (List.mem_append_right _ (List.mem_append_right _ (List.mem_append_right _ (List.mem_append_left _ (List.mem_of_getElem? (i := 63) rfl))))))), rfl⟩
theorem wd_1264 : (Jvm.Cond.code ({ cls := "ParlourLeaves$BookText", name := "liveSponge", desc := "(LParlourLeaves$Life;I)I" } : Jvm.MethodName) prog_2_method_12_code (3 : Nat) (Option.some Jvm.ClassFile.FieldType.int)) ∈ zTB := List.mem_filter.mpr ⟨List.mem_append_right _ (List.mem_append_right _ (List.mem_append_right _ (List.mem_append_right _ (List.mem_append_right _ (List.mem_append_right _ (List.mem_append_left _ (List.mem_of_getElem? (i := 64) rfl))))))), rfl⟩
theorem wd_1265 : (Jvm.Cond.methodLink "ParlourLeaves$BookText" (135 : Nat) ({ cls := "ParlourLeaves$Life", name := "whyNotSponge", desc := "(I)I" } : Jvm.MethodName)) ∈ zTB := List.mem_filter.mpr ⟨List.mem_append_right _ (List.mem_append_right _ (List.mem_append_right _ (List.mem_append_right _ (List.mem_append_right _ (List.mem_append_right _ (List.mem_append_left _ (List.mem_of_getElem? (i := 65) rfl))))))), rfl⟩
theorem wd_1266 : (Jvm.Cond.methodLink "ParlourLeaves$BookText" (139 : Nat) ({ cls := "ParlourLeaves$Life", name := "spongeOff", desc := "(I)V" } : Jvm.MethodName)) ∈ zTB := List.mem_filter.mpr ⟨List.mem_append_right _ (List.mem_append_right _ (List.mem_append_right _ (List.mem_append_right _ (List.mem_append_right _ (List.mem_append_right _ (List.mem_append_left _ (List.mem_of_getElem? (i := 66) rfl))))))), rfl⟩
theorem wd_1267 : (Jvm.Cond.methodLink "ParlourLeaves$BookText" (121 : Nat) ({ cls := "ParlourLeaves$BookText", name := "liveCarry", desc := "(LParlourLeaves$Life;II)I" } : Jvm.MethodName)) ∈ zTB := List.mem_filter.mpr ⟨List.mem_append_right _ (List.mem_append_right _ (List.mem_append_right _ (List.mem_append_right _ (List.mem_append_right _ (List.mem_append_right _ (List.mem_append_left _ (List.mem_of_getElem? (i := 67) rfl))))))), rfl⟩
theorem wd_1268 : (Jvm.Cond.static ({ cls := "ParlourLeaves$BookText", name := "liveCarry", desc := "(LParlourLeaves$Life;II)I" } : Jvm.MethodName)) ∈ zTB := List.mem_filter.mpr ⟨List.mem_append_right _ (List.mem_append_right _ (List.mem_append_right _ (List.mem_append_right _ (List.mem_append_right _ (List.mem_append_right _ (List.mem_append_left _ (List.mem_of_getElem? (i := 68) rfl))))))), rfl⟩
theorem wd_1269 : (Jvm.Cond.code ({ cls := "ParlourLeaves$BookText", name := "liveCarry", desc := "(LParlourLeaves$Life;II)I" } : Jvm.MethodName) prog_2_method_13_code (4 : Nat) (Option.some Jvm.ClassFile.FieldType.int)) ∈ zTB := List.mem_filter.mpr ⟨List.mem_append_right _ (List.mem_append_right _ (List.mem_append_right _ (List.mem_append_right _ (List.mem_append_right _ (List.mem_append_right _ (List.mem_append_left _ (List.mem_of_getElem? (i := 69) rfl))))))), rfl⟩
theorem wd_1270 : (Jvm.Cond.methodLink "ParlourLeaves$BookText" (142 : Nat) ({ cls := "ParlourLeaves$Life", name := "whyNotCarry", desc := "(II)I" } : Jvm.MethodName)) ∈ zTB := List.mem_filter.mpr ⟨List.mem_append_right _ (List.mem_append_right _ (List.mem_append_right _ (List.mem_append_right _ (List.mem_append_right _ (List.mem_append_right _ (List.mem_append_left _ (List.mem_of_getElem? (i := 70) rfl))))))), rfl⟩
theorem wd_1271 : (Jvm.Cond.methodLink "ParlourLeaves$BookText" (145 : Nat) ({ cls := "ParlourLeaves$Life", name := "carryTo", desc := "(II)V" } : Jvm.MethodName)) ∈ zTB := List.mem_filter.mpr ⟨List.mem_append_right _ (List.mem_append_right _ (List.mem_append_right _ (List.mem_append_right _ (List.mem_append_right _ (List.mem_append_right _ (List.mem_append_left _ (List.mem_of_getElem? (i := 71) rfl))))))), rfl⟩
theorem wd_1272 : (Jvm.Cond.methodLink "ParlourLeaves$BookText" (125 : Nat) ({ cls := "ParlourLeaves$BookText", name := "liveDay", desc := "(LParlourLeaves$Life;I)I" } : Jvm.MethodName)) ∈ zTB := List.mem_filter.mpr ⟨List.mem_append_right _ (List.mem_append_right _ (List.mem_append_right _ (List.mem_append_right _ (List.mem_append_right _ (List.mem_append_right _ (List.mem_append_left _ (List.mem_of_getElem? (i := 72) rfl))))))), rfl⟩
theorem wd_1273 : (Jvm.Cond.static ({ cls := "ParlourLeaves$BookText", name := "liveDay", desc := "(LParlourLeaves$Life;I)I" } : Jvm.MethodName)) ∈ zTB := List.mem_filter.mpr ⟨List.mem_append_right _ (List.mem_append_right _ (List.mem_append_right _ (List.mem_append_right _ (List.mem_append_right _ (List.mem_append_right _ (List.mem_append_left _ (List.mem_of_getElem? (i := 73) rfl))))))), rfl⟩
theorem wd_1274 : (Jvm.Cond.code ({ cls := "ParlourLeaves$BookText", name := "liveDay", desc := "(LParlourLeaves$Life;I)I" } : Jvm.MethodName) prog_2_method_14_code (2 : Nat) (Option.some Jvm.ClassFile.FieldType.int)) ∈ zTB := List.mem_filter.mpr ⟨List.mem_append_right _ (List.mem_append_right _ (List.mem_append_right _ (List.mem_append_right _ (List.mem_append_right _ (List.mem_append_right _ (List.mem_append_left _ (List.mem_of_getElem? (i := 74) rfl))))))), rfl⟩
theorem wd_1275 : (Jvm.Cond.methodLink "ParlourLeaves$BookText" (149 : Nat) ({ cls := "ParlourLeaves$Life", name := "daysLeft", desc := "()I" } : Jvm.MethodName)) ∈ zTB := List.mem_filter.mpr ⟨List.mem_append_right _ (List.mem_append_right _ (List.mem_append_right _ (List.mem_append_right _ (List.mem_append_right _ (List.mem_append_right _ (List.mem_append_left _ (List.mem_of_getElem? (i := 75) rfl))))))), rfl⟩
theorem wd_1276 : (Jvm.Cond.methodLink "ParlourLeaves$BookText" (152 : Nat) ({ cls := "ParlourLeaves$Life", name := "goDays", desc := "(I)I" } : Jvm.MethodName)) ∈ zTB := List.mem_filter.mpr ⟨List.mem_append_right _ (List.mem_append_right _ (List.mem_append_right _ (List.mem_append_right _ (List.mem_append_right _ (List.mem_append_right _ (List.mem_append_left _ (List.mem_of_getElem? (i := 76) rfl))))))), rfl⟩
theorem wd_1277 : (Jvm.Cond.methodLink "ParlourLeaves$BookText" (111 : Nat) ({ cls := "ParlourLeaves$Life", name := "actsProved", desc := "()I" } : Jvm.MethodName)) ∈ zTB := List.mem_filter.mpr ⟨List.mem_append_right _ (List.mem_append_right _ (List.mem_append_right _ (List.mem_append_right _ (List.mem_append_right _ (List.mem_append_right _ (List.mem_append_left _ (List.mem_of_getElem? (i := 77) rfl))))))), rfl⟩
theorem wp_2_5 : Cond.selects "ParlourLeaves$BookText" (⟨"ParlourLeaves$BookText", "liveDoes", "(LParlourLeaves$Life;I)I"⟩ : MethodName) (⟨"ParlourLeaves$BookText", "liveDoes", "(LParlourLeaves$Life;I)I"⟩ : MethodName) ∈ zTB := List.mem_filter.mpr ⟨List.mem_append_left _ (List.mem_map.mpr ⟨((⟨"ParlourLeaves$BookText", "liveDoes", "(LParlourLeaves$Life;I)I"⟩ : MethodName), 11), (List.mem_append_right _ (List.mem_append_left _ (List.mem_of_getElem? (i := 5) rfl))), rfl⟩), rfl⟩
theorem wp_2_4 : Cond.selects "ParlourLeaves$BookText" (⟨"ParlourLeaves$BookText", "liveLine", "(LParlourLeaves$Life;I)I"⟩ : MethodName) (⟨"ParlourLeaves$BookText", "liveLine", "(LParlourLeaves$Life;I)I"⟩ : MethodName) ∈ zTB := List.mem_filter.mpr ⟨List.mem_append_left _ (List.mem_map.mpr ⟨((⟨"ParlourLeaves$BookText", "liveLine", "(LParlourLeaves$Life;I)I"⟩ : MethodName), 11), (List.mem_append_right _ (List.mem_append_left _ (List.mem_of_getElem? (i := 4) rfl))), rfl⟩), rfl⟩
theorem wp_1_0 : Cond.selects "ParlourLeaves$Tape" (⟨"ParlourLeaves$Tape", "readRun", "()V"⟩ : MethodName) (⟨"ParlourLeaves$Tape", "readRun", "()V"⟩ : MethodName) ∈ zTB := List.mem_filter.mpr ⟨List.mem_append_left _ (List.mem_map.mpr ⟨((⟨"ParlourLeaves$Tape", "readRun", "()V"⟩ : MethodName), 11), (List.mem_append_left _ (List.mem_of_getElem? (i := 0) rfl)), rfl⟩), rfl⟩
theorem wsin_X0 : ∀ w ∈ u_ws RX0 TX0 11, w ∈ zTB := (List.forall_mem_cons.mpr ⟨wd_389, (List.forall_mem_cons.mpr ⟨wd_391, (List.forall_mem_cons.mpr ⟨wd_393, (List.forall_mem_cons.mpr ⟨wd_395, (List.forall_mem_cons.mpr ⟨wd_397, (List.forall_mem_cons.mpr ⟨wd_399, (List.forall_mem_cons.mpr ⟨wd_401, (List.forall_mem_cons.mpr ⟨wd_403, (List.forall_mem_cons.mpr ⟨wd_405, (List.forall_mem_cons.mpr ⟨wd_407, (List.forall_mem_cons.mpr ⟨wd_409, (fun _ h => absurd h List.not_mem_nil)⟩)⟩)⟩)⟩)⟩)⟩)⟩)⟩)⟩)⟩)⟩)
theorem zb_40 : (Int8.ofInt (40)).toInt32 = (40 : Int32) := by decide
theorem zc_1 : Int32.ofInt (1) = (1 : Int32) := by decide
theorem zc_0 : Int32.ofInt (0) = (0 : Int32) := by decide
theorem wsin_X6 : ∀ w ∈ u_ws RX6 TX6 11, w ∈ zTB := (List.forall_mem_cons.mpr ⟨wd_250, (List.forall_mem_cons.mpr ⟨wd_252, (List.forall_mem_cons.mpr ⟨wd_254, (List.forall_mem_cons.mpr ⟨wd_256, (List.forall_mem_cons.mpr ⟨wd_258, (List.forall_mem_cons.mpr ⟨wd_260, (List.forall_mem_cons.mpr ⟨wd_262, (List.forall_mem_cons.mpr ⟨wd_264, (List.forall_mem_cons.mpr ⟨wd_266, (List.forall_mem_cons.mpr ⟨wd_268, (List.forall_mem_cons.mpr ⟨wd_270, (fun _ h => absurd h List.not_mem_nil)⟩)⟩)⟩)⟩)⟩)⟩)⟩)⟩)⟩)⟩)⟩)
theorem dn_X6_whyNotCarry : zDn yX6_whyNotCarry 2 := ⟨by decide, by decide, by decide +kernel⟩
theorem dn_X6_carryTo : zDn yX6_carryTo 2 := ⟨by decide, by decide, by decide +kernel⟩
theorem zb_20 : (Int8.ofInt (20)).toInt32 = (20 : Int32) := by decide
theorem zs_400 : (Int16.ofInt (400)).toInt32 = (400 : Int32) := by decide
theorem wsin_X3 : ∀ w ∈ u_ws RX3 TX3 12, w ∈ zTB := (List.forall_mem_cons.mpr ⟨wd_187, (List.forall_mem_cons.mpr ⟨wd_189, (List.forall_mem_cons.mpr ⟨wd_191, (List.forall_mem_cons.mpr ⟨wd_193, (List.forall_mem_cons.mpr ⟨wd_195, (List.forall_mem_cons.mpr ⟨wd_197, (List.forall_mem_cons.mpr ⟨wd_199, (List.forall_mem_cons.mpr ⟨wd_201, (List.forall_mem_cons.mpr ⟨wd_203, (List.forall_mem_cons.mpr ⟨wd_205, (List.forall_mem_cons.mpr ⟨wd_207, (List.forall_mem_cons.mpr ⟨wd_209, (fun _ h => absurd h List.not_mem_nil)⟩)⟩)⟩)⟩)⟩)⟩)⟩)⟩)⟩)⟩)⟩)⟩)
theorem dn_X6_daysLeft : zDn yX6_daysLeft 0 := ⟨by decide, by decide, by decide +kernel⟩
theorem dn_X6_plants : zDn yX6_plants 0 := ⟨by decide, by decide, by decide +kernel⟩
theorem zb_99 : (Int8.ofInt (99)).toInt32 = (99 : Int32) := by decide
theorem dn_X6_goDays : zDn yX6_goDays 1 := ⟨by decide, by decide, by decide +kernel⟩
theorem zb_31 : (Int8.ofInt (31)).toInt32 = (31 : Int32) := by decide
theorem dn_X6_isBlind : zDn yX6_isBlind 1 := ⟨by decide, by decide, by decide +kernel⟩
theorem dn_X3_reach : zDn yX3_reach 1 := ⟨by decide, by decide, by decide +kernel⟩
theorem zb_12 : (Int8.ofInt (12)).toInt32 = (12 : Int32) := by decide
theorem zc_m1 : Int32.ofInt (-1) = (-1 : Int32) := by decide
theorem dn_X6_seenBy : zDn yX6_seenBy 1 := ⟨by decide, by decide, by decide +kernel⟩
theorem dn_X11_hasBit : zDn yX11_hasBit 2 := ⟨by decide, by decide, by decide +kernel⟩
theorem dn_X6_nextLeafDay : zDn yX6_nextLeafDay 1 := ⟨by decide, by decide, by decide +kernel⟩
theorem dn_X6_whyNotDo : zDn yX6_whyNotDo 0 := ⟨by decide, by decide, by decide +kernel⟩
theorem dn_X6_doDeed : zDn yX6_doDeed 3 := ⟨by decide, by decide, by decide +kernel⟩
theorem dn_X6_whyNotSponge : zDn yX6_whyNotSponge 1 := ⟨by decide, by decide, by decide +kernel⟩
theorem dn_X6_spongeOff : zDn yX6_spongeOff 1 := ⟨by decide, by decide, by decide +kernel⟩
theorem zb_10 : (Int8.ofInt (10)).toInt32 = (10 : Int32) := by decide
theorem dn_X0_liveDoes : zDn yX0_liveDoes 2 := ⟨by decide, by decide, by decide +kernel⟩
theorem dn_X0_liveSponge : zDn yX0_liveSponge 2 := ⟨by decide, by decide, by decide +kernel⟩
theorem dn_X0_liveCarry : zDn yX0_liveCarry 3 := ⟨by decide, by decide, by decide +kernel⟩
theorem dn_X0_liveDay : zDn yX0_liveDay 2 := ⟨by decide, by decide, by decide +kernel⟩
theorem zc_2 : Int32.ofInt (2) = (2 : Int32) := by decide
theorem zc_4 : Int32.ofInt (4) = (4 : Int32) := by decide
theorem zb_8 : (Int8.ofInt (8)).toInt32 = (8 : Int32) := by decide
theorem zb_16 : (Int8.ofInt (16)).toInt32 = (16 : Int32) := by decide
theorem zb_63 : (Int8.ofInt (63)).toInt32 = (63 : Int32) := by decide
theorem dn_X6_witnessesBy : zDn yX6_witnessesBy 2 := ⟨by decide, by decide, by decide +kernel⟩
theorem dn_J6_bitCount_0f7a4 : zDn yJ6_bitCount_0f7a4 1 := ⟨by decide, by decide, by decide +kernel⟩
theorem dn_X6_isProved : zDn yX6_isProved 1 := ⟨by decide, by decide, by decide +kernel⟩
theorem dn_X6_actsProved : zDn yX6_actsProved 0 := ⟨by decide, by decide, by decide +kernel⟩
theorem dn_X0_liveLine : zDn yX0_liveLine 2 := ⟨by decide, by decide, by decide +kernel⟩
theorem wsin_X9 : ∀ w ∈ u_ws RX9 TX9 11, w ∈ zTB := (List.forall_mem_cons.mpr ⟨wd_115, (List.forall_mem_cons.mpr ⟨wd_117, (List.forall_mem_cons.mpr ⟨wd_119, (List.forall_mem_cons.mpr ⟨wd_121, (List.forall_mem_cons.mpr ⟨wd_123, (List.forall_mem_cons.mpr ⟨wd_125, (List.forall_mem_cons.mpr ⟨wd_127, (List.forall_mem_cons.mpr ⟨wd_129, (List.forall_mem_cons.mpr ⟨wd_131, (List.forall_mem_cons.mpr ⟨wd_133, (List.forall_mem_cons.mpr ⟨wd_135, (fun _ h => absurd h List.not_mem_nil)⟩)⟩)⟩)⟩)⟩)⟩)⟩)⟩)⟩)⟩)⟩)
theorem dn_X9_failAt : zDn yX9_failAt 2 := ⟨by decide, by decide, by decide +kernel⟩
theorem zb_103 : (Int8.ofInt (103)).toInt32 = (103 : Int32) := by decide
theorem zb_100 : (Int8.ofInt (100)).toInt32 = (100 : Int32) := by decide
theorem zb_22 : (Int8.ofInt (22)).toInt32 = (22 : Int32) := by decide
theorem zb_7 : (Int8.ofInt (7)).toInt32 = (7 : Int32) := by decide
theorem zc_3 : Int32.ofInt (3) = (3 : Int32) := by decide
theorem zb_101 : (Int8.ofInt (101)).toInt32 = (101 : Int32) := by decide
theorem zb_97 : (Int8.ofInt (97)).toInt32 = (97 : Int32) := by decide
theorem zb_48 : (Int8.ofInt (48)).toInt32 = (48 : Int32) := by decide
theorem zb_57 : (Int8.ofInt (57)).toInt32 = (57 : Int32) := by decide
theorem zb_122 : (Int8.ofInt (122)).toInt32 = (122 : Int32) := by decide
theorem zc_5 : Int32.ofInt (5) = (5 : Int32) := by decide
theorem zb_41 : (Int8.ofInt (41)).toInt32 = (41 : Int32) := by decide
theorem zb_59 : (Int8.ofInt (59)).toInt32 = (59 : Int32) := by decide
theorem zb_62 : (Int8.ofInt (62)).toInt32 = (62 : Int32) := by decide
theorem dn_X9_readRun : zDn yX9_readRun 0 := ⟨by decide, by decide, by decide +kernel⟩
theorem zb_102 : (Int8.ofInt (102)).toInt32 = (102 : Int32) := by decide
theorem zb_32 : (Int8.ofInt (32)).toInt32 = (32 : Int32) := by decide
theorem lk_X0_51 : zLk RX0 51 1 6 := ⟨"ParlourLeaves$BookText", RX0, TX0, 11, rfl, by decide, wsin_X0, wd_380, rfl⟩
theorem lk_X0_9 : zLk RX0 9 1 2 := ⟨"ParlourLeaves$BookText", RX0, TX0, 11, rfl, by decide, wsin_X0, wd_376, rfl⟩
theorem lk_X0_15 : zLk RX0 15 1 3 := ⟨"ParlourLeaves$BookText", RX0, TX0, 11, rfl, by decide, wsin_X0, wd_377, rfl⟩
theorem lk_X0_18 : zLk RX0 18 1 4 := ⟨"ParlourLeaves$BookText", RX0, TX0, 11, rfl, by decide, wsin_X0, wd_378, rfl⟩
theorem lk_X0_21 : zLk RX0 21 1 5 := ⟨"ParlourLeaves$BookText", RX0, TX0, 11, rfl, by decide, wsin_X0, wd_379, rfl⟩
theorem lq_X0_51 : zLq RX0 51 1 6 .int := ⟨"ParlourLeaves$BookText", RX0, TX0, 11, tyX0, rfl, by decide, wsin_X0, wd_380, rfl, rfl, by decide +kernel, tyX0_ok, nmX0⟩
theorem lk_X6_32 : zLk RX6 32 7 9 := ⟨"ParlourLeaves$Life", RX6, TX6, 11, rfl, by decide, wsin_X6, wd_242, rfl⟩
theorem cv_X0_142 : zCV RX0 RX6 142 yX6_whyNotCarry cX6_whyNotCarry 3 (some .int) 2 := ⟨rfl, dn_X6_whyNotCarry, wd_1270, wd_827, wd_828, wd_8, wd_829⟩
theorem cv_X0_145 : zCV RX0 RX6 145 yX6_carryTo cX6_carryTo 3 none 2 := ⟨rfl, dn_X6_carryTo, wd_1271, wd_831, wd_832, wd_8, wd_833⟩
theorem lk_X6_42 : zLk RX6 42 7 1 := ⟨"ParlourLeaves$Life", RX6, TX6, 11, rfl, by decide, wsin_X6, wd_224, rfl⟩
theorem lk_X6_38 : zLk RX6 38 7 0 := ⟨"ParlourLeaves$Life", RX6, TX6, 11, rfl, by decide, wsin_X6, wd_221, rfl⟩
theorem lk_X6_60 : zLk RX6 60 4 0 := ⟨"ParlourLeaves$House", RX3, TX3, 12, rfl, by decide, wsin_X3, wd_152, rfl⟩
theorem cv_X6_100 : zCV RX6 RX6 100 yX6_daysLeft cX6_daysLeft 1 (some .int) 0 := ⟨rfl, dn_X6_daysLeft, wd_846, wd_839, wd_840, wd_8, wd_841⟩
theorem lb_X6_103 : zMn RX6 103 := ⟨wd_847, wd_589, wd_20, wd_590⟩
theorem lq_X6_42 : zLq RX6 42 7 1 .int := ⟨"ParlourLeaves$Life", RX6, TX6, 11, tyX6, rfl, by decide, wsin_X6, wd_224, rfl, rfl, by decide +kernel, tyX6_ok, nmX6⟩
theorem cv_X6_86 : zCV RX6 RX6 86 yX6_plants cX6_plants 1 (some .int) 0 := ⟨rfl, dn_X6_plants, wd_727, wd_728, wd_729, wd_8, wd_730⟩
theorem lk_X6_35 : zLk RX6 35 7 10 := ⟨"ParlourLeaves$Life", RX6, TX6, 11, rfl, by decide, wsin_X6, wd_246, rfl⟩
theorem cv_X0_149 : zCV RX0 RX6 149 yX6_daysLeft cX6_daysLeft 1 (some .int) 0 := ⟨rfl, dn_X6_daysLeft, wd_1275, wd_839, wd_840, wd_8, wd_841⟩
theorem cv_X0_152 : zCV RX0 RX6 152 yX6_goDays cX6_goDays 4 (some .int) 1 := ⟨rfl, dn_X6_goDays, wd_1276, wd_843, wd_844, wd_8, wd_845⟩
theorem lk_X6_29 : zLk RX6 29 7 8 := ⟨"ParlourLeaves$Life", RX6, TX6, 11, rfl, by decide, wsin_X6, wd_241, rfl⟩
theorem lb_X6_77 : zMx RX6 77 := ⟨wd_807, wd_808, wd_20, wd_809⟩
theorem lk_X6_83 : zLk RX6 83 4 3 := ⟨"ParlourLeaves$House", RX3, TX3, 12, rfl, by decide, wsin_X3, wd_164, rfl⟩
theorem lk_X3_15 : zLk RX3 15 4 1 := ⟨"ParlourLeaves$House", RX3, TX3, 12, rfl, by decide, wsin_X3, wd_154, rfl⟩
theorem lk_X6_63 : zLk RX6 63 4 4 := ⟨"ParlourLeaves$House", RX3, TX3, 12, rfl, by decide, wsin_X3, wd_168, rfl⟩
theorem lk_X6_66 : zLk RX6 66 4 10 := ⟨"ParlourLeaves$House", RX3, TX3, 12, rfl, by decide, wsin_X3, wd_179, rfl⟩
theorem cv_X6_69 : zCV RX6 RX6 69 yX6_isBlind cX6_isBlind 2 (some .boolean) 1 := ⟨rfl, dn_X6_isBlind, wd_741, wd_742, wd_743, wd_8, wd_744⟩
theorem cv_X6_73 : zCV RX6 RX3 73 yX3_reach cX3_reach 2 (some .int) 1 := ⟨rfl, dn_X3_reach, wd_773, wd_774, wd_775, wd_7, wd_776⟩
theorem lk_X6_46 : zLk RX6 46 7 2 := ⟨"ParlourLeaves$Life", RX6, TX6, 11, rfl, by decide, wsin_X6, wd_228, rfl⟩
theorem lk_X6_9 : zLk RX6 9 7 3 := ⟨"ParlourLeaves$Life", RX6, TX6, 11, rfl, by decide, wsin_X6, wd_230, rfl⟩
theorem lk_X6_15 : zLk RX6 15 7 4 := ⟨"ParlourLeaves$Life", RX6, TX6, 11, rfl, by decide, wsin_X6, wd_232, rfl⟩
theorem lk_X6_18 : zLk RX6 18 7 5 := ⟨"ParlourLeaves$Life", RX6, TX6, 11, rfl, by decide, wsin_X6, wd_234, rfl⟩
theorem lk_X6_21 : zLk RX6 21 7 6 := ⟨"ParlourLeaves$Life", RX6, TX6, 11, rfl, by decide, wsin_X6, wd_236, rfl⟩
theorem lq_X6_46 : zLq RX6 46 7 2 .int := ⟨"ParlourLeaves$Life", RX6, TX6, 11, tyX6, rfl, by decide, wsin_X6, wd_228, rfl, rfl, by decide +kernel, tyX6_ok, nmX6⟩
theorem lk_X6_26 : zLk RX6 26 7 7 := ⟨"ParlourLeaves$Life", RX6, TX6, 11, rfl, by decide, wsin_X6, wd_238, rfl⟩
theorem cv_X6_90 : zCV RX6 RX6 90 yX6_seenBy cX6_seenBy 2 (some .int) 1 := ⟨rfl, dn_X6_seenBy, wd_769, wd_770, wd_771, wd_8, wd_772⟩
theorem cv_X6_93 : zCN RX6 "ParlourLeaves" 93 yX11_hasBit cX11_hasBit 2 (some .boolean) 2 := ⟨dn_X11_hasBit, (List.mem_of_getElem? (i := 11) rfl), wd_645, wd_1, wd_646⟩
theorem cv_X6_97 : zCV RX6 RX6 97 yX6_nextLeafDay cX6_nextLeafDay 2 (some .int) 1 := ⟨rfl, dn_X6_nextLeafDay, wd_803, wd_804, wd_805, wd_8, wd_806⟩
theorem cv_X0_128 : zCV RX0 RX6 128 yX6_whyNotDo cX6_whyNotDo 1 (some .int) 0 := ⟨rfl, dn_X6_whyNotDo, wd_1260, wd_785, wd_786, wd_8, wd_787⟩
theorem cv_X0_131 : zCV RX0 RX6 131 yX6_doDeed cX6_doDeed 5 none 3 := ⟨rfl, dn_X6_doDeed, wd_1261, wd_799, wd_800, wd_8, wd_801⟩
theorem cv_X0_135 : zCV RX0 RX6 135 yX6_whyNotSponge cX6_whyNotSponge 2 (some .int) 1 := ⟨rfl, dn_X6_whyNotSponge, wd_1265, wd_815, wd_816, wd_8, wd_817⟩
theorem cv_X0_139 : zCV RX0 RX6 139 yX6_spongeOff cX6_spongeOff 2 none 1 := ⟨rfl, dn_X6_spongeOff, wd_1266, wd_819, wd_820, wd_8, wd_821⟩
theorem cv_X0_115 : zCV RX0 RX0 115 yX0_liveDoes cX0_liveDoes 4 (some .int) 2 := ⟨rfl, dn_X0_liveDoes, wd_1256, wd_1258, wp_2_5, wd_13, wd_1259⟩
theorem cv_X0_118 : zCS RX0 118 yX0_liveSponge cX0_liveSponge 3 (some .int) 2 := ⟨dn_X0_liveSponge, wd_1262, wd_1263, wd_13, wd_1264⟩
theorem cv_X0_121 : zCS RX0 121 yX0_liveCarry cX0_liveCarry 4 (some .int) 3 := ⟨dn_X0_liveCarry, wd_1267, wd_1268, wd_13, wd_1269⟩
theorem cv_X0_125 : zCS RX0 125 yX0_liveDay cX0_liveDay 2 (some .int) 2 := ⟨dn_X0_liveDay, wd_1272, wd_1273, wd_13, wd_1274⟩
theorem cv_X6_106 : zCV RX6 RX6 106 yX6_witnessesBy cX6_witnessesBy 5 (some .int) 2 := ⟨rfl, dn_X6_witnessesBy, wd_723, wd_724, wd_725, wd_8, wd_726⟩
theorem cv_X6_109 : zCS RX6 109 yJ6_bitCount_0f7a4 cJ6_bitCount_0f7a4 1 (some .int) 1 := ⟨dn_J6_bitCount_0f7a4, wd_731, wd_732, wd_27, wd_733⟩
theorem lk_X6_114 : zLk RX6 114 4 11 := ⟨"ParlourLeaves$House", RX3, TX3, 12, rfl, by decide, wsin_X3, wd_185, rfl⟩
theorem cv_X6_117 : zCV RX6 RX6 117 yX6_isProved cX6_isProved 2 (some .boolean) 1 := ⟨rfl, dn_X6_isProved, wd_719, wd_720, wd_721, wd_8, wd_722⟩
theorem lq_X0_24 : zLq RX0 24 1 7 .int := ⟨"ParlourLeaves$BookText", RX0, TX0, 11, tyX0, rfl, by decide, wsin_X0, wd_381, rfl, rfl, by decide +kernel, tyX0_ok, nmX0⟩
theorem lq_X0_28 : zLq RX0 28 1 8 .int := ⟨"ParlourLeaves$BookText", RX0, TX0, 11, tyX0, rfl, by decide, wsin_X0, wd_383, rfl, rfl, by decide +kernel, tyX0_ok, nmX0⟩
theorem lk_X0_106 : zLk RX0 106 7 1 := ⟨"ParlourLeaves$Life", RX6, TX6, 11, rfl, by decide, wsin_X6, wd_227, rfl⟩
theorem lq_X0_31 : zLq RX0 31 1 9 .int := ⟨"ParlourLeaves$BookText", RX0, TX0, 11, tyX0, rfl, by decide, wsin_X0, wd_385, rfl, rfl, by decide +kernel, tyX0_ok, nmX0⟩
theorem cv_X0_111 : zCV RX0 RX6 111 yX6_actsProved cX6_actsProved 3 (some .int) 0 := ⟨rfl, dn_X6_actsProved, wd_1277, wd_716, wd_717, wd_8, wd_718⟩
theorem lq_X0_34 : zLq RX0 34 1 10 .int := ⟨"ParlourLeaves$BookText", RX0, TX0, 11, tyX0, rfl, by decide, wsin_X0, wd_387, rfl, rfl, by decide +kernel, tyX0_ok, nmX0⟩
theorem lk_X0_24 : zLk RX0 24 1 7 := ⟨"ParlourLeaves$BookText", RX0, TX0, 11, rfl, by decide, wsin_X0, wd_381, rfl⟩
theorem cv_X0_102 : zCV RX0 RX0 102 yX0_liveLine cX0_liveLine 3 (some .int) 2 := ⟨rfl, dn_X0_liveLine, wd_1252, wd_1254, wp_2_4, wd_13, wd_1255⟩
theorem lk_X0_28 : zLk RX0 28 1 8 := ⟨"ParlourLeaves$BookText", RX0, TX0, 11, rfl, by decide, wsin_X0, wd_383, rfl⟩
theorem lq_X9_40 : zLq RX9 40 10 9 .int := ⟨"ParlourLeaves$Tape", RX9, TX9, 11, tyX9, rfl, by decide, wsin_X9, wd_111, rfl, rfl, by decide +kernel, tyX9_ok, nmX9⟩
theorem lq_X9_43 : zLq RX9 43 10 10 .int := ⟨"ParlourLeaves$Tape", RX9, TX9, 11, tyX9, rfl, by decide, wsin_X9, wd_113, rfl, rfl, by decide +kernel, tyX9_ok, nmX9⟩
theorem lk_X9_55 : zLk RX9 55 10 6 := ⟨"ParlourLeaves$Tape", RX9, TX9, 11, rfl, by decide, wsin_X9, wd_106, rfl⟩
theorem cv_X9_71 : zCV RX9 RX9 71 yX9_failAt cX9_failAt 3 (some .boolean) 2 := ⟨rfl, dn_X9_failAt, wd_613, wd_614, wd_615, wd_2, wd_616⟩
theorem lq_X9_64 : zLq RX9 64 10 7 .long := ⟨"ParlourLeaves$Tape", RX9, TX9, 11, tyX9, rfl, by decide, wsin_X9, wd_109, rfl, rfl, by decide +kernel, tyX9_ok, nmX9⟩
theorem lq_X9_68 : zLq RX9 68 10 8 .int := ⟨"ParlourLeaves$Tape", RX9, TX9, 11, tyX9, rfl, by decide, wsin_X9, wd_110, rfl, rfl, by decide +kernel, tyX9_ok, nmX9⟩
theorem lk_X9_37 : zLk RX9 37 10 4 := ⟨"ParlourLeaves$Tape", RX9, TX9, 11, rfl, by decide, wsin_X9, wd_100, rfl⟩
theorem lk_X9_31 : zLk RX9 31 10 1 := ⟨"ParlourLeaves$Tape", RX9, TX9, 11, rfl, by decide, wsin_X9, wd_96, rfl⟩
theorem lq_X9_58 : zLq RX9 58 10 5 .int := ⟨"ParlourLeaves$Tape", RX9, TX9, 11, tyX9, rfl, by decide, wsin_X9, wd_104, rfl, rfl, by decide +kernel, tyX9_ok, nmX9⟩
theorem lk_X9_58 : zLk RX9 58 10 5 := ⟨"ParlourLeaves$Tape", RX9, TX9, 11, rfl, by decide, wsin_X9, wd_104, rfl⟩
theorem lk_X9_15 : zLk RX9 15 10 2 := ⟨"ParlourLeaves$Tape", RX9, TX9, 11, rfl, by decide, wsin_X9, wd_98, rfl⟩
theorem lk_X9_64 : zLk RX9 64 10 7 := ⟨"ParlourLeaves$Tape", RX9, TX9, 11, rfl, by decide, wsin_X9, wd_109, rfl⟩
theorem lk_X9_9 : zLk RX9 9 10 0 := ⟨"ParlourLeaves$Tape", RX9, TX9, 11, rfl, by decide, wsin_X9, wd_93, rfl⟩
theorem lk_X9_68 : zLk RX9 68 10 8 := ⟨"ParlourLeaves$Tape", RX9, TX9, 11, rfl, by decide, wsin_X9, wd_110, rfl⟩
theorem lq_X9_37 : zLq RX9 37 10 4 .int := ⟨"ParlourLeaves$Tape", RX9, TX9, 11, tyX9, rfl, by decide, wsin_X9, wd_100, rfl, rfl, by decide +kernel, tyX9_ok, nmX9⟩
theorem lk_X9_34 : zLk RX9 34 10 3 := ⟨"ParlourLeaves$Tape", RX9, TX9, 11, rfl, by decide, wsin_X9, wd_99, rfl⟩
theorem lb_X9_49 : zMn RX9 49 := ⟨wd_588, wd_589, wd_20, wd_590⟩
theorem lq_X9_55 : zLq RX9 55 10 6 .int := ⟨"ParlourLeaves$Tape", RX9, TX9, 11, tyX9, rfl, by decide, wsin_X9, wd_106, rfl, rfl, by decide +kernel, tyX9_ok, nmX9⟩
theorem cv_X9_61 : zCV RX9 RX9 61 yX9_readRun cX9_readRun 4 none 0 := ⟨rfl, dn_X9_readRun, wd_591, wd_593, wp_1_0, wd_2, wd_594⟩
theorem dX0_addLine_0 : decode cX0_addLine 0 = .ok (.aload_n 0, 1) := by decide +kernel
theorem dX0_addLine_1 : decode cX0_addLine 1 = .ok (.getfield 51, 3) := by decide +kernel
theorem dX0_addLine_4 : decode cX0_addLine 4 = .ok (.bipush 40, 2) := by decide +kernel
theorem dX0_addLine_6 : decode cX0_addLine 6 = .ok (.if_icmp .lt 5, 3) := by decide +kernel
theorem dX0_addLine_9 : decode cX0_addLine 9 = .ok (.iconst 0, 1) := by decide +kernel
theorem dX0_addLine_10 : decode cX0_addLine 10 = .ok (.ireturn, 1) := by decide +kernel
theorem dX0_addLine_11 : decode cX0_addLine 11 = .ok (.aload_n 0, 1) := by decide +kernel
theorem dX0_addLine_12 : decode cX0_addLine 12 = .ok (.getfield 9, 3) := by decide +kernel
theorem dX0_addLine_15 : decode cX0_addLine 15 = .ok (.aload_n 0, 1) := by decide +kernel
theorem dX0_addLine_16 : decode cX0_addLine 16 = .ok (.getfield 51, 3) := by decide +kernel
theorem dX0_addLine_19 : decode cX0_addLine 19 = .ok (.iload_n 1, 1) := by decide +kernel
theorem dX0_addLine_20 : decode cX0_addLine 20 = .ok (.iastore, 1) := by decide +kernel
theorem dX0_addLine_21 : decode cX0_addLine 21 = .ok (.aload_n 0, 1) := by decide +kernel
theorem dX0_addLine_22 : decode cX0_addLine 22 = .ok (.getfield 15, 3) := by decide +kernel
theorem dX0_addLine_25 : decode cX0_addLine 25 = .ok (.aload_n 0, 1) := by decide +kernel
theorem dX0_addLine_26 : decode cX0_addLine 26 = .ok (.getfield 51, 3) := by decide +kernel
theorem dX0_addLine_29 : decode cX0_addLine 29 = .ok (.iload_n 2, 1) := by decide +kernel
theorem dX0_addLine_30 : decode cX0_addLine 30 = .ok (.iastore, 1) := by decide +kernel
theorem dX0_addLine_31 : decode cX0_addLine 31 = .ok (.aload_n 0, 1) := by decide +kernel
theorem dX0_addLine_32 : decode cX0_addLine 32 = .ok (.getfield 18, 3) := by decide +kernel
theorem dX0_addLine_35 : decode cX0_addLine 35 = .ok (.aload_n 0, 1) := by decide +kernel
theorem dX0_addLine_36 : decode cX0_addLine 36 = .ok (.getfield 51, 3) := by decide +kernel
theorem dX0_addLine_39 : decode cX0_addLine 39 = .ok (.iload_n 3, 1) := by decide +kernel
theorem dX0_addLine_40 : decode cX0_addLine 40 = .ok (.iastore, 1) := by decide +kernel
theorem dX0_addLine_41 : decode cX0_addLine 41 = .ok (.aload_n 0, 1) := by decide +kernel
theorem dX0_addLine_42 : decode cX0_addLine 42 = .ok (.getfield 21, 3) := by decide +kernel
theorem dX0_addLine_45 : decode cX0_addLine 45 = .ok (.aload_n 0, 1) := by decide +kernel
theorem dX0_addLine_46 : decode cX0_addLine 46 = .ok (.getfield 51, 3) := by decide +kernel
theorem dX0_addLine_49 : decode cX0_addLine 49 = .ok (.iload 4, 2) := by decide +kernel
theorem dX0_addLine_51 : decode cX0_addLine 51 = .ok (.iastore, 1) := by decide +kernel
theorem dX0_addLine_52 : decode cX0_addLine 52 = .ok (.aload_n 0, 1) := by decide +kernel
theorem dX0_addLine_53 : decode cX0_addLine 53 = .ok (.dup, 1) := by decide +kernel
theorem dX0_addLine_54 : decode cX0_addLine 54 = .ok (.getfield 51, 3) := by decide +kernel
theorem dX0_addLine_57 : decode cX0_addLine 57 = .ok (.iconst 1, 1) := by decide +kernel
theorem dX0_addLine_58 : decode cX0_addLine 58 = .ok (.iadd, 1) := by decide +kernel
theorem dX0_addLine_59 : decode cX0_addLine 59 = .ok (.putfield 51, 3) := by decide +kernel
theorem dX0_addLine_62 : decode cX0_addLine 62 = .ok (.iconst 1, 1) := by decide +kernel
theorem dX0_addLine_63 : decode cX0_addLine 63 = .ok (.ireturn, 1) := by decide +kernel
theorem dX6_carryTo_0 : decode cX6_carryTo 0 = .ok (.aload_n 0, 1) := by decide +kernel
theorem dX6_carryTo_1 : decode cX6_carryTo 1 = .ok (.getfield 32, 3) := by decide +kernel
theorem dX6_carryTo_4 : decode cX6_carryTo 4 = .ok (.iload_n 1, 1) := by decide +kernel
theorem dX6_carryTo_5 : decode cX6_carryTo 5 = .ok (.iload_n 2, 1) := by decide +kernel
theorem dX6_carryTo_6 : decode cX6_carryTo 6 = .ok (.iastore, 1) := by decide +kernel
theorem dX6_carryTo_7 : decode cX6_carryTo 7 = .ok (.return_, 1) := by decide +kernel
theorem dX6_whyNotCarry_0 : decode cX6_whyNotCarry 0 = .ok (.aload_n 0, 1) := by decide +kernel
theorem dX6_whyNotCarry_1 : decode cX6_whyNotCarry 1 = .ok (.getfield 32, 3) := by decide +kernel
theorem dX6_whyNotCarry_4 : decode cX6_whyNotCarry 4 = .ok (.iload_n 1, 1) := by decide +kernel
theorem dX6_whyNotCarry_5 : decode cX6_whyNotCarry 5 = .ok (.iaload, 1) := by decide +kernel
theorem dX6_whyNotCarry_6 : decode cX6_whyNotCarry 6 = .ok (.iload_n 2, 1) := by decide +kernel
theorem dX6_whyNotCarry_7 : decode cX6_whyNotCarry 7 = .ok (.if_icmp .ne 7, 3) := by decide +kernel
theorem dX6_whyNotCarry_10 : decode cX6_whyNotCarry 10 = .ok (.iconst 1, 1) := by decide +kernel
theorem dX6_whyNotCarry_11 : decode cX6_whyNotCarry 11 = .ok (.goto 4, 3) := by decide +kernel
theorem dX6_whyNotCarry_14 : decode cX6_whyNotCarry 14 = .ok (.iconst 0, 1) := by decide +kernel
theorem dX6_whyNotCarry_15 : decode cX6_whyNotCarry 15 = .ok (.ireturn, 1) := by decide +kernel
theorem dX0_liveCarry_0 : decode cX0_liveCarry 0 = .ok (.aload_n 0, 1) := by decide +kernel
theorem dX0_liveCarry_1 : decode cX0_liveCarry 1 = .ok (.iload_n 1, 1) := by decide +kernel
theorem dX0_liveCarry_2 : decode cX0_liveCarry 2 = .ok (.iload_n 2, 1) := by decide +kernel
theorem dX0_liveCarry_3 : decode cX0_liveCarry 3 = .ok (.invokevirtual 142, 3) := by decide +kernel
theorem dX0_liveCarry_6 : decode cX0_liveCarry 6 = .ok (.istore_n 3, 1) := by decide +kernel
theorem dX0_liveCarry_7 : decode cX0_liveCarry 7 = .ok (.iload_n 3, 1) := by decide +kernel
theorem dX0_liveCarry_8 : decode cX0_liveCarry 8 = .ok (.ifCond .eq 8, 3) := by decide +kernel
theorem dX0_liveCarry_11 : decode cX0_liveCarry 11 = .ok (.bipush 20, 2) := by decide +kernel
theorem dX0_liveCarry_13 : decode cX0_liveCarry 13 = .ok (.iload_n 3, 1) := by decide +kernel
theorem dX0_liveCarry_14 : decode cX0_liveCarry 14 = .ok (.iadd, 1) := by decide +kernel
theorem dX0_liveCarry_15 : decode cX0_liveCarry 15 = .ok (.ireturn, 1) := by decide +kernel
theorem dX0_liveCarry_16 : decode cX0_liveCarry 16 = .ok (.aload_n 0, 1) := by decide +kernel
theorem dX0_liveCarry_17 : decode cX0_liveCarry 17 = .ok (.iload_n 1, 1) := by decide +kernel
theorem dX0_liveCarry_18 : decode cX0_liveCarry 18 = .ok (.iload_n 2, 1) := by decide +kernel
theorem dX0_liveCarry_19 : decode cX0_liveCarry 19 = .ok (.invokevirtual 145, 3) := by decide +kernel
theorem dX0_liveCarry_22 : decode cX0_liveCarry 22 = .ok (.iconst 0, 1) := by decide +kernel
theorem dX0_liveCarry_23 : decode cX0_liveCarry 23 = .ok (.ireturn, 1) := by decide +kernel
theorem dX6_daysLeft_0 : decode cX6_daysLeft 0 = .ok (.sipush 400, 3) := by decide +kernel
theorem dX6_daysLeft_3 : decode cX6_daysLeft 3 = .ok (.aload_n 0, 1) := by decide +kernel
theorem dX6_daysLeft_4 : decode cX6_daysLeft 4 = .ok (.getfield 42, 3) := by decide +kernel
theorem dX6_daysLeft_7 : decode cX6_daysLeft 7 = .ok (.isub, 1) := by decide +kernel
theorem dX6_daysLeft_8 : decode cX6_daysLeft 8 = .ok (.ireturn, 1) := by decide +kernel
theorem dX6_plants_0 : decode cX6_plants 0 = .ok (.aload_n 0, 1) := by decide +kernel
theorem dX6_plants_1 : decode cX6_plants 1 = .ok (.getfield 38, 3) := by decide +kernel
theorem dX6_plants_4 : decode cX6_plants 4 = .ok (.getfield 60, 3) := by decide +kernel
theorem dX6_plants_7 : decode cX6_plants 7 = .ok (.iconst 1, 1) := by decide +kernel
theorem dX6_plants_8 : decode cX6_plants 8 = .ok (.iaload, 1) := by decide +kernel
theorem dX6_plants_9 : decode cX6_plants 9 = .ok (.ireturn, 1) := by decide +kernel
theorem dX6_goDays_0 : decode cX6_goDays 0 = .ok (.iload_n 1, 1) := by decide +kernel
theorem dX6_goDays_1 : decode cX6_goDays 1 = .ok (.aload_n 0, 1) := by decide +kernel
theorem dX6_goDays_2 : decode cX6_goDays 2 = .ok (.invokevirtual 100, 3) := by decide +kernel
theorem dX6_goDays_5 : decode cX6_goDays 5 = .ok (.invokestatic 103, 3) := by decide +kernel
theorem dX6_goDays_8 : decode cX6_goDays 8 = .ok (.istore_n 2, 1) := by decide +kernel
theorem dX6_goDays_9 : decode cX6_goDays 9 = .ok (.aload_n 0, 1) := by decide +kernel
theorem dX6_goDays_10 : decode cX6_goDays 10 = .ok (.dup, 1) := by decide +kernel
theorem dX6_goDays_11 : decode cX6_goDays 11 = .ok (.getfield 42, 3) := by decide +kernel
theorem dX6_goDays_14 : decode cX6_goDays 14 = .ok (.iload_n 2, 1) := by decide +kernel
theorem dX6_goDays_15 : decode cX6_goDays 15 = .ok (.iadd, 1) := by decide +kernel
theorem dX6_goDays_16 : decode cX6_goDays 16 = .ok (.putfield 42, 3) := by decide +kernel
theorem dX6_goDays_19 : decode cX6_goDays 19 = .ok (.iconst 0, 1) := by decide +kernel
theorem dX6_goDays_20 : decode cX6_goDays 20 = .ok (.istore_n 3, 1) := by decide +kernel
theorem dX6_goDays_21 : decode cX6_goDays 21 = .ok (.iload_n 3, 1) := by decide +kernel
theorem dX6_goDays_22 : decode cX6_goDays 22 = .ok (.aload_n 0, 1) := by decide +kernel
theorem dX6_goDays_23 : decode cX6_goDays 23 = .ok (.invokevirtual 86, 3) := by decide +kernel
theorem dX6_goDays_26 : decode cX6_goDays 26 = .ok (.if_icmp .ge 28, 3) := by decide +kernel
theorem dX6_goDays_29 : decode cX6_goDays 29 = .ok (.aload_n 0, 1) := by decide +kernel
theorem dX6_goDays_30 : decode cX6_goDays 30 = .ok (.getfield 35, 3) := by decide +kernel
theorem dX6_goDays_33 : decode cX6_goDays 33 = .ok (.iload_n 3, 1) := by decide +kernel
theorem dX6_goDays_34 : decode cX6_goDays 34 = .ok (.bipush 99, 2) := by decide +kernel
theorem dX6_goDays_36 : decode cX6_goDays 36 = .ok (.aload_n 0, 1) := by decide +kernel
theorem dX6_goDays_37 : decode cX6_goDays 37 = .ok (.getfield 35, 3) := by decide +kernel
theorem dX6_goDays_40 : decode cX6_goDays 40 = .ok (.iload_n 3, 1) := by decide +kernel
theorem dX6_goDays_41 : decode cX6_goDays 41 = .ok (.iaload, 1) := by decide +kernel
theorem dX6_goDays_42 : decode cX6_goDays 42 = .ok (.iload_n 2, 1) := by decide +kernel
theorem dX6_goDays_43 : decode cX6_goDays 43 = .ok (.iadd, 1) := by decide +kernel
theorem dX6_goDays_44 : decode cX6_goDays 44 = .ok (.invokestatic 103, 3) := by decide +kernel
theorem dX6_goDays_47 : decode cX6_goDays 47 = .ok (.iastore, 1) := by decide +kernel
theorem dX6_goDays_48 : decode cX6_goDays 48 = .ok (.iinc 3 1, 3) := by decide +kernel
theorem dX6_goDays_51 : decode cX6_goDays 51 = .ok (.goto (-30), 3) := by decide +kernel
theorem dX6_goDays_54 : decode cX6_goDays 54 = .ok (.iload_n 2, 1) := by decide +kernel
theorem dX6_goDays_55 : decode cX6_goDays 55 = .ok (.ireturn, 1) := by decide +kernel
theorem dX0_liveDay_0 : decode cX0_liveDay 0 = .ok (.iload_n 1, 1) := by decide +kernel
theorem dX0_liveDay_1 : decode cX0_liveDay 1 = .ok (.aload_n 0, 1) := by decide +kernel
theorem dX0_liveDay_2 : decode cX0_liveDay 2 = .ok (.invokevirtual 149, 3) := by decide +kernel
theorem dX0_liveDay_5 : decode cX0_liveDay 5 = .ok (.if_icmp .le 6, 3) := by decide +kernel
theorem dX0_liveDay_8 : decode cX0_liveDay 8 = .ok (.bipush 31, 2) := by decide +kernel
theorem dX0_liveDay_10 : decode cX0_liveDay 10 = .ok (.ireturn, 1) := by decide +kernel
theorem dX0_liveDay_11 : decode cX0_liveDay 11 = .ok (.aload_n 0, 1) := by decide +kernel
theorem dX0_liveDay_12 : decode cX0_liveDay 12 = .ok (.iload_n 1, 1) := by decide +kernel
theorem dX0_liveDay_13 : decode cX0_liveDay 13 = .ok (.invokevirtual 152, 3) := by decide +kernel
theorem dX0_liveDay_16 : decode cX0_liveDay 16 = .ok (.pop, 1) := by decide +kernel
theorem dX0_liveDay_17 : decode cX0_liveDay 17 = .ok (.iconst 0, 1) := by decide +kernel
theorem dX0_liveDay_18 : decode cX0_liveDay 18 = .ok (.ireturn, 1) := by decide +kernel
theorem dX11_hasBit_0 : decode cX11_hasBit 0 = .ok (.iload_n 0, 1) := by decide +kernel
theorem dX11_hasBit_1 : decode cX11_hasBit 1 = .ok (.iload_n 1, 1) := by decide +kernel
theorem dX11_hasBit_2 : decode cX11_hasBit 2 = .ok (.iushr, 1) := by decide +kernel
theorem dX11_hasBit_3 : decode cX11_hasBit 3 = .ok (.iconst 1, 1) := by decide +kernel
theorem dX11_hasBit_4 : decode cX11_hasBit 4 = .ok (.iand, 1) := by decide +kernel
theorem dX11_hasBit_5 : decode cX11_hasBit 5 = .ok (.iconst 1, 1) := by decide +kernel
theorem dX11_hasBit_6 : decode cX11_hasBit 6 = .ok (.if_icmp .ne 7, 3) := by decide +kernel
theorem dX11_hasBit_9 : decode cX11_hasBit 9 = .ok (.iconst 1, 1) := by decide +kernel
theorem dX11_hasBit_10 : decode cX11_hasBit 10 = .ok (.goto 4, 3) := by decide +kernel
theorem dX11_hasBit_13 : decode cX11_hasBit 13 = .ok (.iconst 0, 1) := by decide +kernel
theorem dX11_hasBit_14 : decode cX11_hasBit 14 = .ok (.ireturn, 1) := by decide +kernel
theorem dX6_nextLeafDay_0 : decode cX6_nextLeafDay 0 = .ok (.aload_n 0, 1) := by decide +kernel
theorem dX6_nextLeafDay_1 : decode cX6_nextLeafDay 1 = .ok (.getfield 42, 3) := by decide +kernel
theorem dX6_nextLeafDay_4 : decode cX6_nextLeafDay 4 = .ok (.aload_n 0, 1) := by decide +kernel
theorem dX6_nextLeafDay_5 : decode cX6_nextLeafDay 5 = .ok (.getfield 29, 3) := by decide +kernel
theorem dX6_nextLeafDay_8 : decode cX6_nextLeafDay 8 = .ok (.iload_n 1, 1) := by decide +kernel
theorem dX6_nextLeafDay_9 : decode cX6_nextLeafDay 9 = .ok (.iaload, 1) := by decide +kernel
theorem dX6_nextLeafDay_10 : decode cX6_nextLeafDay 10 = .ok (.invokestatic 77, 3) := by decide +kernel
theorem dX6_nextLeafDay_13 : decode cX6_nextLeafDay 13 = .ok (.aload_n 0, 1) := by decide +kernel
theorem dX6_nextLeafDay_14 : decode cX6_nextLeafDay 14 = .ok (.getfield 38, 3) := by decide +kernel
theorem dX6_nextLeafDay_17 : decode cX6_nextLeafDay 17 = .ok (.getfield 83, 3) := by decide +kernel
theorem dX6_nextLeafDay_20 : decode cX6_nextLeafDay 20 = .ok (.iload_n 1, 1) := by decide +kernel
theorem dX6_nextLeafDay_21 : decode cX6_nextLeafDay 21 = .ok (.iaload, 1) := by decide +kernel
theorem dX6_nextLeafDay_22 : decode cX6_nextLeafDay 22 = .ok (.iadd, 1) := by decide +kernel
theorem dX6_nextLeafDay_23 : decode cX6_nextLeafDay 23 = .ok (.ireturn, 1) := by decide +kernel
theorem dX3_reach_0 : decode cX3_reach 0 = .ok (.aload_n 0, 1) := by decide +kernel
theorem dX3_reach_1 : decode cX3_reach 1 = .ok (.getfield 15, 3) := by decide +kernel
theorem dX3_reach_4 : decode cX3_reach 4 = .ok (.iload_n 1, 1) := by decide +kernel
theorem dX3_reach_5 : decode cX3_reach 5 = .ok (.iaload, 1) := by decide +kernel
theorem dX3_reach_6 : decode cX3_reach 6 = .ok (.iconst 1, 1) := by decide +kernel
theorem dX3_reach_7 : decode cX3_reach 7 = .ok (.iload_n 1, 1) := by decide +kernel
theorem dX3_reach_8 : decode cX3_reach 8 = .ok (.ishl, 1) := by decide +kernel
theorem dX3_reach_9 : decode cX3_reach 9 = .ok (.ior, 1) := by decide +kernel
theorem dX3_reach_10 : decode cX3_reach 10 = .ok (.ireturn, 1) := by decide +kernel
theorem dX6_isBlind_0 : decode cX6_isBlind 0 = .ok (.aload_n 0, 1) := by decide +kernel
theorem dX6_isBlind_1 : decode cX6_isBlind 1 = .ok (.getfield 38, 3) := by decide +kernel
theorem dX6_isBlind_4 : decode cX6_isBlind 4 = .ok (.getfield 63, 3) := by decide +kernel
theorem dX6_isBlind_7 : decode cX6_isBlind 7 = .ok (.iload_n 1, 1) := by decide +kernel
theorem dX6_isBlind_8 : decode cX6_isBlind 8 = .ok (.iaload, 1) := by decide +kernel
theorem dX6_isBlind_9 : decode cX6_isBlind 9 = .ok (.iconst 1, 1) := by decide +kernel
theorem dX6_isBlind_10 : decode cX6_isBlind 10 = .ok (.if_icmp .eq 19, 3) := by decide +kernel
theorem dX6_isBlind_13 : decode cX6_isBlind 13 = .ok (.aload_n 0, 1) := by decide +kernel
theorem dX6_isBlind_14 : decode cX6_isBlind 14 = .ok (.getfield 35, 3) := by decide +kernel
theorem dX6_isBlind_17 : decode cX6_isBlind 17 = .ok (.iload_n 1, 1) := by decide +kernel
theorem dX6_isBlind_18 : decode cX6_isBlind 18 = .ok (.iaload, 1) := by decide +kernel
theorem dX6_isBlind_19 : decode cX6_isBlind 19 = .ok (.aload_n 0, 1) := by decide +kernel
theorem dX6_isBlind_20 : decode cX6_isBlind 20 = .ok (.getfield 38, 3) := by decide +kernel
theorem dX6_isBlind_23 : decode cX6_isBlind 23 = .ok (.getfield 66, 3) := by decide +kernel
theorem dX6_isBlind_26 : decode cX6_isBlind 26 = .ok (.if_icmp .lt 7, 3) := by decide +kernel
theorem dX6_isBlind_29 : decode cX6_isBlind 29 = .ok (.iconst 1, 1) := by decide +kernel
theorem dX6_isBlind_30 : decode cX6_isBlind 30 = .ok (.goto 4, 3) := by decide +kernel
theorem dX6_isBlind_33 : decode cX6_isBlind 33 = .ok (.iconst 0, 1) := by decide +kernel
theorem dX6_isBlind_34 : decode cX6_isBlind 34 = .ok (.ireturn, 1) := by decide +kernel
theorem dX6_seenBy_0 : decode cX6_seenBy 0 = .ok (.aload_n 0, 1) := by decide +kernel
theorem dX6_seenBy_1 : decode cX6_seenBy 1 = .ok (.iload_n 1, 1) := by decide +kernel
theorem dX6_seenBy_2 : decode cX6_seenBy 2 = .ok (.invokevirtual 69, 3) := by decide +kernel
theorem dX6_seenBy_5 : decode cX6_seenBy 5 = .ok (.ifCond .eq 7, 3) := by decide +kernel
theorem dX6_seenBy_8 : decode cX6_seenBy 8 = .ok (.iconst 0, 1) := by decide +kernel
theorem dX6_seenBy_9 : decode cX6_seenBy 9 = .ok (.goto 16, 3) := by decide +kernel
theorem dX6_seenBy_12 : decode cX6_seenBy 12 = .ok (.aload_n 0, 1) := by decide +kernel
theorem dX6_seenBy_13 : decode cX6_seenBy 13 = .ok (.getfield 38, 3) := by decide +kernel
theorem dX6_seenBy_16 : decode cX6_seenBy 16 = .ok (.aload_n 0, 1) := by decide +kernel
theorem dX6_seenBy_17 : decode cX6_seenBy 17 = .ok (.getfield 32, 3) := by decide +kernel
theorem dX6_seenBy_20 : decode cX6_seenBy 20 = .ok (.iload_n 1, 1) := by decide +kernel
theorem dX6_seenBy_21 : decode cX6_seenBy 21 = .ok (.iaload, 1) := by decide +kernel
theorem dX6_seenBy_22 : decode cX6_seenBy 22 = .ok (.invokevirtual 73, 3) := by decide +kernel
theorem dX6_seenBy_25 : decode cX6_seenBy 25 = .ok (.ireturn, 1) := by decide +kernel
theorem dX6_doDeed_0 : decode cX6_doDeed 0 = .ok (.aload_n 0, 1) := by decide +kernel
theorem dX6_doDeed_1 : decode cX6_doDeed 1 = .ok (.getfield 46, 3) := by decide +kernel
theorem dX6_doDeed_4 : decode cX6_doDeed 4 = .ok (.bipush 12, 2) := by decide +kernel
theorem dX6_doDeed_6 : decode cX6_doDeed 6 = .ok (.if_icmp .lt 4, 3) := by decide +kernel
theorem dX6_doDeed_9 : decode cX6_doDeed 9 = .ok (.return_, 1) := by decide +kernel
theorem dX6_doDeed_10 : decode cX6_doDeed 10 = .ok (.aload_n 0, 1) := by decide +kernel
theorem dX6_doDeed_11 : decode cX6_doDeed 11 = .ok (.getfield 9, 3) := by decide +kernel
theorem dX6_doDeed_14 : decode cX6_doDeed 14 = .ok (.aload_n 0, 1) := by decide +kernel
theorem dX6_doDeed_15 : decode cX6_doDeed 15 = .ok (.getfield 46, 3) := by decide +kernel
theorem dX6_doDeed_18 : decode cX6_doDeed 18 = .ok (.iload_n 1, 1) := by decide +kernel
theorem dX6_doDeed_19 : decode cX6_doDeed 19 = .ok (.iastore, 1) := by decide +kernel
theorem dX6_doDeed_20 : decode cX6_doDeed 20 = .ok (.aload_n 0, 1) := by decide +kernel
theorem dX6_doDeed_21 : decode cX6_doDeed 21 = .ok (.getfield 15, 3) := by decide +kernel
theorem dX6_doDeed_24 : decode cX6_doDeed 24 = .ok (.aload_n 0, 1) := by decide +kernel
theorem dX6_doDeed_25 : decode cX6_doDeed 25 = .ok (.getfield 46, 3) := by decide +kernel
theorem dX6_doDeed_28 : decode cX6_doDeed 28 = .ok (.iload_n 2, 1) := by decide +kernel
theorem dX6_doDeed_29 : decode cX6_doDeed 29 = .ok (.iastore, 1) := by decide +kernel
theorem dX6_doDeed_30 : decode cX6_doDeed 30 = .ok (.aload_n 0, 1) := by decide +kernel
theorem dX6_doDeed_31 : decode cX6_doDeed 31 = .ok (.getfield 18, 3) := by decide +kernel
theorem dX6_doDeed_34 : decode cX6_doDeed 34 = .ok (.aload_n 0, 1) := by decide +kernel
theorem dX6_doDeed_35 : decode cX6_doDeed 35 = .ok (.getfield 46, 3) := by decide +kernel
theorem dX6_doDeed_38 : decode cX6_doDeed 38 = .ok (.iload_n 3, 1) := by decide +kernel
theorem dX6_doDeed_39 : decode cX6_doDeed 39 = .ok (.iastore, 1) := by decide +kernel
theorem dX6_doDeed_40 : decode cX6_doDeed 40 = .ok (.aload_n 0, 1) := by decide +kernel
theorem dX6_doDeed_41 : decode cX6_doDeed 41 = .ok (.getfield 21, 3) := by decide +kernel
theorem dX6_doDeed_44 : decode cX6_doDeed 44 = .ok (.aload_n 0, 1) := by decide +kernel
theorem dX6_doDeed_45 : decode cX6_doDeed 45 = .ok (.getfield 46, 3) := by decide +kernel
theorem dX6_doDeed_48 : decode cX6_doDeed 48 = .ok (.aload_n 0, 1) := by decide +kernel
theorem dX6_doDeed_49 : decode cX6_doDeed 49 = .ok (.getfield 42, 3) := by decide +kernel
theorem dX6_doDeed_52 : decode cX6_doDeed 52 = .ok (.iastore, 1) := by decide +kernel
theorem dX6_doDeed_53 : decode cX6_doDeed 53 = .ok (.iconst 0, 1) := by decide +kernel
theorem dX6_doDeed_54 : decode cX6_doDeed 54 = .ok (.istore 4, 2) := by decide +kernel
theorem dX6_doDeed_56 : decode cX6_doDeed 56 = .ok (.iload 4, 2) := by decide +kernel
theorem dX6_doDeed_58 : decode cX6_doDeed 58 = .ok (.aload_n 0, 1) := by decide +kernel
theorem dX6_doDeed_59 : decode cX6_doDeed 59 = .ok (.invokevirtual 86, 3) := by decide +kernel
theorem dX6_doDeed_62 : decode cX6_doDeed 62 = .ok (.if_icmp .ge 67, 3) := by decide +kernel
theorem dX6_doDeed_65 : decode cX6_doDeed 65 = .ok (.aload_n 0, 1) := by decide +kernel
theorem dX6_doDeed_66 : decode cX6_doDeed 66 = .ok (.getfield 26, 3) := by decide +kernel
theorem dX6_doDeed_69 : decode cX6_doDeed 69 = .ok (.iload 4, 2) := by decide +kernel
theorem dX6_doDeed_71 : decode cX6_doDeed 71 = .ok (.aaload, 1) := by decide +kernel
theorem dX6_doDeed_72 : decode cX6_doDeed 72 = .ok (.aload_n 0, 1) := by decide +kernel
theorem dX6_doDeed_73 : decode cX6_doDeed 73 = .ok (.getfield 46, 3) := by decide +kernel
theorem dX6_doDeed_76 : decode cX6_doDeed 76 = .ok (.iconst (-1), 1) := by decide +kernel
theorem dX6_doDeed_77 : decode cX6_doDeed 77 = .ok (.iastore, 1) := by decide +kernel
theorem dX6_doDeed_78 : decode cX6_doDeed 78 = .ok (.aload_n 0, 1) := by decide +kernel
theorem dX6_doDeed_79 : decode cX6_doDeed 79 = .ok (.iload 4, 2) := by decide +kernel
theorem dX6_doDeed_81 : decode cX6_doDeed 81 = .ok (.invokevirtual 90, 3) := by decide +kernel
theorem dX6_doDeed_84 : decode cX6_doDeed 84 = .ok (.iload_n 3, 1) := by decide +kernel
theorem dX6_doDeed_85 : decode cX6_doDeed 85 = .ok (.invokestatic 93, 3) := by decide +kernel
theorem dX6_doDeed_88 : decode cX6_doDeed 88 = .ok (.ifCond .eq 35, 3) := by decide +kernel
theorem dX6_doDeed_91 : decode cX6_doDeed 91 = .ok (.aload_n 0, 1) := by decide +kernel
theorem dX6_doDeed_92 : decode cX6_doDeed 92 = .ok (.getfield 29, 3) := by decide +kernel
theorem dX6_doDeed_95 : decode cX6_doDeed 95 = .ok (.iload 4, 2) := by decide +kernel
theorem dX6_doDeed_97 : decode cX6_doDeed 97 = .ok (.aload_n 0, 1) := by decide +kernel
theorem dX6_doDeed_98 : decode cX6_doDeed 98 = .ok (.iload 4, 2) := by decide +kernel
theorem dX6_doDeed_100 : decode cX6_doDeed 100 = .ok (.invokevirtual 97, 3) := by decide +kernel
theorem dX6_doDeed_103 : decode cX6_doDeed 103 = .ok (.iastore, 1) := by decide +kernel
theorem dX6_doDeed_104 : decode cX6_doDeed 104 = .ok (.aload_n 0, 1) := by decide +kernel
theorem dX6_doDeed_105 : decode cX6_doDeed 105 = .ok (.getfield 26, 3) := by decide +kernel
theorem dX6_doDeed_108 : decode cX6_doDeed 108 = .ok (.iload 4, 2) := by decide +kernel
theorem dX6_doDeed_110 : decode cX6_doDeed 110 = .ok (.aaload, 1) := by decide +kernel
theorem dX6_doDeed_111 : decode cX6_doDeed 111 = .ok (.aload_n 0, 1) := by decide +kernel
theorem dX6_doDeed_112 : decode cX6_doDeed 112 = .ok (.getfield 46, 3) := by decide +kernel
theorem dX6_doDeed_115 : decode cX6_doDeed 115 = .ok (.aload_n 0, 1) := by decide +kernel
theorem dX6_doDeed_116 : decode cX6_doDeed 116 = .ok (.getfield 29, 3) := by decide +kernel
theorem dX6_doDeed_119 : decode cX6_doDeed 119 = .ok (.iload 4, 2) := by decide +kernel
theorem dX6_doDeed_121 : decode cX6_doDeed 121 = .ok (.iaload, 1) := by decide +kernel
theorem dX6_doDeed_122 : decode cX6_doDeed 122 = .ok (.iastore, 1) := by decide +kernel
theorem dX6_doDeed_123 : decode cX6_doDeed 123 = .ok (.iinc 4 1, 3) := by decide +kernel
theorem dX6_doDeed_126 : decode cX6_doDeed 126 = .ok (.goto (-70), 3) := by decide +kernel
theorem dX6_doDeed_129 : decode cX6_doDeed 129 = .ok (.aload_n 0, 1) := by decide +kernel
theorem dX6_doDeed_130 : decode cX6_doDeed 130 = .ok (.dup, 1) := by decide +kernel
theorem dX6_doDeed_131 : decode cX6_doDeed 131 = .ok (.getfield 46, 3) := by decide +kernel
theorem dX6_doDeed_134 : decode cX6_doDeed 134 = .ok (.iconst 1, 1) := by decide +kernel
theorem dX6_doDeed_135 : decode cX6_doDeed 135 = .ok (.iadd, 1) := by decide +kernel
theorem dX6_doDeed_136 : decode cX6_doDeed 136 = .ok (.putfield 46, 3) := by decide +kernel
theorem dX6_doDeed_139 : decode cX6_doDeed 139 = .ok (.return_, 1) := by decide +kernel
theorem dX6_whyNotDo_0 : decode cX6_whyNotDo 0 = .ok (.aload_n 0, 1) := by decide +kernel
theorem dX6_whyNotDo_1 : decode cX6_whyNotDo 1 = .ok (.getfield 46, 3) := by decide +kernel
theorem dX6_whyNotDo_4 : decode cX6_whyNotDo 4 = .ok (.bipush 12, 2) := by decide +kernel
theorem dX6_whyNotDo_6 : decode cX6_whyNotDo 6 = .ok (.if_icmp .lt 7, 3) := by decide +kernel
theorem dX6_whyNotDo_9 : decode cX6_whyNotDo 9 = .ok (.iconst 1, 1) := by decide +kernel
theorem dX6_whyNotDo_10 : decode cX6_whyNotDo 10 = .ok (.goto 4, 3) := by decide +kernel
theorem dX6_whyNotDo_13 : decode cX6_whyNotDo 13 = .ok (.iconst 0, 1) := by decide +kernel
theorem dX6_whyNotDo_14 : decode cX6_whyNotDo 14 = .ok (.ireturn, 1) := by decide +kernel
theorem dX0_liveDoes_0 : decode cX0_liveDoes 0 = .ok (.aload_n 1, 1) := by decide +kernel
theorem dX0_liveDoes_1 : decode cX0_liveDoes 1 = .ok (.invokevirtual 128, 3) := by decide +kernel
theorem dX0_liveDoes_4 : decode cX0_liveDoes 4 = .ok (.istore_n 3, 1) := by decide +kernel
theorem dX0_liveDoes_5 : decode cX0_liveDoes 5 = .ok (.iload_n 3, 1) := by decide +kernel
theorem dX0_liveDoes_6 : decode cX0_liveDoes 6 = .ok (.ifCond .ne 25, 3) := by decide +kernel
theorem dX0_liveDoes_9 : decode cX0_liveDoes 9 = .ok (.aload_n 1, 1) := by decide +kernel
theorem dX0_liveDoes_10 : decode cX0_liveDoes 10 = .ok (.aload_n 0, 1) := by decide +kernel
theorem dX0_liveDoes_11 : decode cX0_liveDoes 11 = .ok (.getfield 15, 3) := by decide +kernel
theorem dX0_liveDoes_14 : decode cX0_liveDoes 14 = .ok (.iload_n 2, 1) := by decide +kernel
theorem dX0_liveDoes_15 : decode cX0_liveDoes 15 = .ok (.iaload, 1) := by decide +kernel
theorem dX0_liveDoes_16 : decode cX0_liveDoes 16 = .ok (.aload_n 0, 1) := by decide +kernel
theorem dX0_liveDoes_17 : decode cX0_liveDoes 17 = .ok (.getfield 18, 3) := by decide +kernel
theorem dX0_liveDoes_20 : decode cX0_liveDoes 20 = .ok (.iload_n 2, 1) := by decide +kernel
theorem dX0_liveDoes_21 : decode cX0_liveDoes 21 = .ok (.iaload, 1) := by decide +kernel
theorem dX0_liveDoes_22 : decode cX0_liveDoes 22 = .ok (.aload_n 0, 1) := by decide +kernel
theorem dX0_liveDoes_23 : decode cX0_liveDoes 23 = .ok (.getfield 21, 3) := by decide +kernel
theorem dX0_liveDoes_26 : decode cX0_liveDoes 26 = .ok (.iload_n 2, 1) := by decide +kernel
theorem dX0_liveDoes_27 : decode cX0_liveDoes 27 = .ok (.iaload, 1) := by decide +kernel
theorem dX0_liveDoes_28 : decode cX0_liveDoes 28 = .ok (.invokevirtual 131, 3) := by decide +kernel
theorem dX0_liveDoes_31 : decode cX0_liveDoes 31 = .ok (.iload_n 3, 1) := by decide +kernel
theorem dX0_liveDoes_32 : decode cX0_liveDoes 32 = .ok (.ireturn, 1) := by decide +kernel
theorem dX6_spongeOff_0 : decode cX6_spongeOff 0 = .ok (.aload_n 0, 1) := by decide +kernel
theorem dX6_spongeOff_1 : decode cX6_spongeOff 1 = .ok (.getfield 35, 3) := by decide +kernel
theorem dX6_spongeOff_4 : decode cX6_spongeOff 4 = .ok (.iload_n 1, 1) := by decide +kernel
theorem dX6_spongeOff_5 : decode cX6_spongeOff 5 = .ok (.iconst 0, 1) := by decide +kernel
theorem dX6_spongeOff_6 : decode cX6_spongeOff 6 = .ok (.iastore, 1) := by decide +kernel
theorem dX6_spongeOff_7 : decode cX6_spongeOff 7 = .ok (.return_, 1) := by decide +kernel
theorem dX6_whyNotSponge_0 : decode cX6_whyNotSponge 0 = .ok (.aload_n 0, 1) := by decide +kernel
theorem dX6_whyNotSponge_1 : decode cX6_whyNotSponge 1 = .ok (.getfield 35, 3) := by decide +kernel
theorem dX6_whyNotSponge_4 : decode cX6_whyNotSponge 4 = .ok (.iload_n 1, 1) := by decide +kernel
theorem dX6_whyNotSponge_5 : decode cX6_whyNotSponge 5 = .ok (.iaload, 1) := by decide +kernel
theorem dX6_whyNotSponge_6 : decode cX6_whyNotSponge 6 = .ok (.ifCond .ne 7, 3) := by decide +kernel
theorem dX6_whyNotSponge_9 : decode cX6_whyNotSponge 9 = .ok (.iconst 1, 1) := by decide +kernel
theorem dX6_whyNotSponge_10 : decode cX6_whyNotSponge 10 = .ok (.goto 4, 3) := by decide +kernel
theorem dX6_whyNotSponge_13 : decode cX6_whyNotSponge 13 = .ok (.iconst 0, 1) := by decide +kernel
theorem dX6_whyNotSponge_14 : decode cX6_whyNotSponge 14 = .ok (.ireturn, 1) := by decide +kernel
theorem dX0_liveSponge_0 : decode cX0_liveSponge 0 = .ok (.aload_n 0, 1) := by decide +kernel
theorem dX0_liveSponge_1 : decode cX0_liveSponge 1 = .ok (.iload_n 1, 1) := by decide +kernel
theorem dX0_liveSponge_2 : decode cX0_liveSponge 2 = .ok (.invokevirtual 135, 3) := by decide +kernel
theorem dX0_liveSponge_5 : decode cX0_liveSponge 5 = .ok (.istore_n 2, 1) := by decide +kernel
theorem dX0_liveSponge_6 : decode cX0_liveSponge 6 = .ok (.iload_n 2, 1) := by decide +kernel
theorem dX0_liveSponge_7 : decode cX0_liveSponge 7 = .ok (.ifCond .eq 8, 3) := by decide +kernel
theorem dX0_liveSponge_10 : decode cX0_liveSponge 10 = .ok (.bipush 10, 2) := by decide +kernel
theorem dX0_liveSponge_12 : decode cX0_liveSponge 12 = .ok (.iload_n 2, 1) := by decide +kernel
theorem dX0_liveSponge_13 : decode cX0_liveSponge 13 = .ok (.iadd, 1) := by decide +kernel
theorem dX0_liveSponge_14 : decode cX0_liveSponge 14 = .ok (.ireturn, 1) := by decide +kernel
theorem dX0_liveSponge_15 : decode cX0_liveSponge 15 = .ok (.aload_n 0, 1) := by decide +kernel
theorem dX0_liveSponge_16 : decode cX0_liveSponge 16 = .ok (.iload_n 1, 1) := by decide +kernel
theorem dX0_liveSponge_17 : decode cX0_liveSponge 17 = .ok (.invokevirtual 139, 3) := by decide +kernel
theorem dX0_liveSponge_20 : decode cX0_liveSponge 20 = .ok (.iconst 0, 1) := by decide +kernel
theorem dX0_liveSponge_21 : decode cX0_liveSponge 21 = .ok (.ireturn, 1) := by decide +kernel
theorem dX0_liveLine_0 : decode cX0_liveLine 0 = .ok (.aload_n 0, 1) := by decide +kernel
theorem dX0_liveLine_1 : decode cX0_liveLine 1 = .ok (.getfield 9, 3) := by decide +kernel
theorem dX0_liveLine_4 : decode cX0_liveLine 4 = .ok (.iload_n 2, 1) := by decide +kernel
theorem dX0_liveLine_5 : decode cX0_liveLine 5 = .ok (.iaload, 1) := by decide +kernel
theorem dX0_liveLine_6 : decode cX0_liveLine 6 = .ok (.tableswitch 61 8 10 #[26, 33, 44], 26) := by decide +kernel
theorem dX0_liveLine_32 : decode cX0_liveLine 32 = .ok (.aload_n 0, 1) := by decide +kernel
theorem dX0_liveLine_33 : decode cX0_liveLine 33 = .ok (.aload_n 1, 1) := by decide +kernel
theorem dX0_liveLine_34 : decode cX0_liveLine 34 = .ok (.iload_n 2, 1) := by decide +kernel
theorem dX0_liveLine_35 : decode cX0_liveLine 35 = .ok (.invokevirtual 115, 3) := by decide +kernel
theorem dX0_liveLine_38 : decode cX0_liveLine 38 = .ok (.ireturn, 1) := by decide +kernel
theorem dX0_liveLine_39 : decode cX0_liveLine 39 = .ok (.aload_n 1, 1) := by decide +kernel
theorem dX0_liveLine_40 : decode cX0_liveLine 40 = .ok (.aload_n 0, 1) := by decide +kernel
theorem dX0_liveLine_41 : decode cX0_liveLine 41 = .ok (.getfield 15, 3) := by decide +kernel
theorem dX0_liveLine_44 : decode cX0_liveLine 44 = .ok (.iload_n 2, 1) := by decide +kernel
theorem dX0_liveLine_45 : decode cX0_liveLine 45 = .ok (.iaload, 1) := by decide +kernel
theorem dX0_liveLine_46 : decode cX0_liveLine 46 = .ok (.invokestatic 118, 3) := by decide +kernel
theorem dX0_liveLine_49 : decode cX0_liveLine 49 = .ok (.ireturn, 1) := by decide +kernel
theorem dX0_liveLine_50 : decode cX0_liveLine 50 = .ok (.aload_n 1, 1) := by decide +kernel
theorem dX0_liveLine_51 : decode cX0_liveLine 51 = .ok (.aload_n 0, 1) := by decide +kernel
theorem dX0_liveLine_52 : decode cX0_liveLine 52 = .ok (.getfield 15, 3) := by decide +kernel
theorem dX0_liveLine_55 : decode cX0_liveLine 55 = .ok (.iload_n 2, 1) := by decide +kernel
theorem dX0_liveLine_56 : decode cX0_liveLine 56 = .ok (.iaload, 1) := by decide +kernel
theorem dX0_liveLine_57 : decode cX0_liveLine 57 = .ok (.aload_n 0, 1) := by decide +kernel
theorem dX0_liveLine_58 : decode cX0_liveLine 58 = .ok (.getfield 18, 3) := by decide +kernel
theorem dX0_liveLine_61 : decode cX0_liveLine 61 = .ok (.iload_n 2, 1) := by decide +kernel
theorem dX0_liveLine_62 : decode cX0_liveLine 62 = .ok (.iaload, 1) := by decide +kernel
theorem dX0_liveLine_63 : decode cX0_liveLine 63 = .ok (.invokestatic 121, 3) := by decide +kernel
theorem dX0_liveLine_66 : decode cX0_liveLine 66 = .ok (.ireturn, 1) := by decide +kernel
theorem dX0_liveLine_67 : decode cX0_liveLine 67 = .ok (.aload_n 1, 1) := by decide +kernel
theorem dX0_liveLine_68 : decode cX0_liveLine 68 = .ok (.aload_n 0, 1) := by decide +kernel
theorem dX0_liveLine_69 : decode cX0_liveLine 69 = .ok (.getfield 15, 3) := by decide +kernel
theorem dX0_liveLine_72 : decode cX0_liveLine 72 = .ok (.iload_n 2, 1) := by decide +kernel
theorem dX0_liveLine_73 : decode cX0_liveLine 73 = .ok (.iaload, 1) := by decide +kernel
theorem dX0_liveLine_74 : decode cX0_liveLine 74 = .ok (.invokestatic 125, 3) := by decide +kernel
theorem dX0_liveLine_77 : decode cX0_liveLine 77 = .ok (.ireturn, 1) := by decide +kernel
theorem dJ6_bitCount_0f7a4_0 : decode cJ6_bitCount_0f7a4 0 = .ok (.iload_n 0, 1) := by decide +kernel
theorem dJ6_bitCount_0f7a4_1 : decode cJ6_bitCount_0f7a4 1 = .ok (.iload_n 0, 1) := by decide +kernel
theorem dJ6_bitCount_0f7a4_2 : decode cJ6_bitCount_0f7a4 2 = .ok (.iconst 1, 1) := by decide +kernel
theorem dJ6_bitCount_0f7a4_3 : decode cJ6_bitCount_0f7a4 3 = .ok (.iushr, 1) := by decide +kernel
theorem dJ6_bitCount_0f7a4_4 : decode cJ6_bitCount_0f7a4 4 = .ok (.ldc_w 265, 3) := by decide +kernel
theorem dJ6_bitCount_0f7a4_7 : decode cJ6_bitCount_0f7a4 7 = .ok (.iand, 1) := by decide +kernel
theorem dJ6_bitCount_0f7a4_8 : decode cJ6_bitCount_0f7a4 8 = .ok (.isub, 1) := by decide +kernel
theorem dJ6_bitCount_0f7a4_9 : decode cJ6_bitCount_0f7a4 9 = .ok (.istore_n 0, 1) := by decide +kernel
theorem dJ6_bitCount_0f7a4_10 : decode cJ6_bitCount_0f7a4 10 = .ok (.iload_n 0, 1) := by decide +kernel
theorem dJ6_bitCount_0f7a4_11 : decode cJ6_bitCount_0f7a4 11 = .ok (.ldc_w 266, 3) := by decide +kernel
theorem dJ6_bitCount_0f7a4_14 : decode cJ6_bitCount_0f7a4 14 = .ok (.iand, 1) := by decide +kernel
theorem dJ6_bitCount_0f7a4_15 : decode cJ6_bitCount_0f7a4 15 = .ok (.iload_n 0, 1) := by decide +kernel
theorem dJ6_bitCount_0f7a4_16 : decode cJ6_bitCount_0f7a4 16 = .ok (.iconst 2, 1) := by decide +kernel
theorem dJ6_bitCount_0f7a4_17 : decode cJ6_bitCount_0f7a4 17 = .ok (.iushr, 1) := by decide +kernel
theorem dJ6_bitCount_0f7a4_18 : decode cJ6_bitCount_0f7a4 18 = .ok (.ldc_w 266, 3) := by decide +kernel
theorem dJ6_bitCount_0f7a4_21 : decode cJ6_bitCount_0f7a4 21 = .ok (.iand, 1) := by decide +kernel
theorem dJ6_bitCount_0f7a4_22 : decode cJ6_bitCount_0f7a4 22 = .ok (.iadd, 1) := by decide +kernel
theorem dJ6_bitCount_0f7a4_23 : decode cJ6_bitCount_0f7a4 23 = .ok (.istore_n 0, 1) := by decide +kernel
theorem dJ6_bitCount_0f7a4_24 : decode cJ6_bitCount_0f7a4 24 = .ok (.iload_n 0, 1) := by decide +kernel
theorem dJ6_bitCount_0f7a4_25 : decode cJ6_bitCount_0f7a4 25 = .ok (.iload_n 0, 1) := by decide +kernel
theorem dJ6_bitCount_0f7a4_26 : decode cJ6_bitCount_0f7a4 26 = .ok (.iconst 4, 1) := by decide +kernel
theorem dJ6_bitCount_0f7a4_27 : decode cJ6_bitCount_0f7a4 27 = .ok (.iushr, 1) := by decide +kernel
theorem dJ6_bitCount_0f7a4_28 : decode cJ6_bitCount_0f7a4 28 = .ok (.iadd, 1) := by decide +kernel
theorem dJ6_bitCount_0f7a4_29 : decode cJ6_bitCount_0f7a4 29 = .ok (.ldc_w 267, 3) := by decide +kernel
theorem dJ6_bitCount_0f7a4_32 : decode cJ6_bitCount_0f7a4 32 = .ok (.iand, 1) := by decide +kernel
theorem dJ6_bitCount_0f7a4_33 : decode cJ6_bitCount_0f7a4 33 = .ok (.istore_n 0, 1) := by decide +kernel
theorem dJ6_bitCount_0f7a4_34 : decode cJ6_bitCount_0f7a4 34 = .ok (.iload_n 0, 1) := by decide +kernel
theorem dJ6_bitCount_0f7a4_35 : decode cJ6_bitCount_0f7a4 35 = .ok (.iload_n 0, 1) := by decide +kernel
theorem dJ6_bitCount_0f7a4_36 : decode cJ6_bitCount_0f7a4 36 = .ok (.bipush 8, 2) := by decide +kernel
theorem dJ6_bitCount_0f7a4_38 : decode cJ6_bitCount_0f7a4 38 = .ok (.iushr, 1) := by decide +kernel
theorem dJ6_bitCount_0f7a4_39 : decode cJ6_bitCount_0f7a4 39 = .ok (.iadd, 1) := by decide +kernel
theorem dJ6_bitCount_0f7a4_40 : decode cJ6_bitCount_0f7a4 40 = .ok (.istore_n 0, 1) := by decide +kernel
theorem dJ6_bitCount_0f7a4_41 : decode cJ6_bitCount_0f7a4 41 = .ok (.iload_n 0, 1) := by decide +kernel
theorem dJ6_bitCount_0f7a4_42 : decode cJ6_bitCount_0f7a4 42 = .ok (.iload_n 0, 1) := by decide +kernel
theorem dJ6_bitCount_0f7a4_43 : decode cJ6_bitCount_0f7a4 43 = .ok (.bipush 16, 2) := by decide +kernel
theorem dJ6_bitCount_0f7a4_45 : decode cJ6_bitCount_0f7a4 45 = .ok (.iushr, 1) := by decide +kernel
theorem dJ6_bitCount_0f7a4_46 : decode cJ6_bitCount_0f7a4 46 = .ok (.iadd, 1) := by decide +kernel
theorem dJ6_bitCount_0f7a4_47 : decode cJ6_bitCount_0f7a4 47 = .ok (.istore_n 0, 1) := by decide +kernel
theorem dJ6_bitCount_0f7a4_48 : decode cJ6_bitCount_0f7a4 48 = .ok (.iload_n 0, 1) := by decide +kernel
theorem dJ6_bitCount_0f7a4_49 : decode cJ6_bitCount_0f7a4 49 = .ok (.bipush 63, 2) := by decide +kernel
theorem dJ6_bitCount_0f7a4_51 : decode cJ6_bitCount_0f7a4 51 = .ok (.iand, 1) := by decide +kernel
theorem dJ6_bitCount_0f7a4_52 : decode cJ6_bitCount_0f7a4 52 = .ok (.ireturn, 1) := by decide +kernel
theorem dX6_witnessesBy_0 : decode cX6_witnessesBy 0 = .ok (.iconst 0, 1) := by decide +kernel
theorem dX6_witnessesBy_1 : decode cX6_witnessesBy 1 = .ok (.istore_n 3, 1) := by decide +kernel
theorem dX6_witnessesBy_2 : decode cX6_witnessesBy 2 = .ok (.iconst 0, 1) := by decide +kernel
theorem dX6_witnessesBy_3 : decode cX6_witnessesBy 3 = .ok (.istore 4, 2) := by decide +kernel
theorem dX6_witnessesBy_5 : decode cX6_witnessesBy 5 = .ok (.iload 4, 2) := by decide +kernel
theorem dX6_witnessesBy_7 : decode cX6_witnessesBy 7 = .ok (.aload_n 0, 1) := by decide +kernel
theorem dX6_witnessesBy_8 : decode cX6_witnessesBy 8 = .ok (.invokevirtual 86, 3) := by decide +kernel
theorem dX6_witnessesBy_11 : decode cX6_witnessesBy 11 = .ok (.if_icmp .ge 42, 3) := by decide +kernel
theorem dX6_witnessesBy_14 : decode cX6_witnessesBy 14 = .ok (.aload_n 0, 1) := by decide +kernel
theorem dX6_witnessesBy_15 : decode cX6_witnessesBy 15 = .ok (.getfield 26, 3) := by decide +kernel
theorem dX6_witnessesBy_18 : decode cX6_witnessesBy 18 = .ok (.iload 4, 2) := by decide +kernel
theorem dX6_witnessesBy_20 : decode cX6_witnessesBy 20 = .ok (.aaload, 1) := by decide +kernel
theorem dX6_witnessesBy_21 : decode cX6_witnessesBy 21 = .ok (.iload_n 1, 1) := by decide +kernel
theorem dX6_witnessesBy_22 : decode cX6_witnessesBy 22 = .ok (.iaload, 1) := by decide +kernel
theorem dX6_witnessesBy_23 : decode cX6_witnessesBy 23 = .ok (.iconst (-1), 1) := by decide +kernel
theorem dX6_witnessesBy_24 : decode cX6_witnessesBy 24 = .ok (.if_icmp .eq 23, 3) := by decide +kernel
theorem dX6_witnessesBy_27 : decode cX6_witnessesBy 27 = .ok (.aload_n 0, 1) := by decide +kernel
theorem dX6_witnessesBy_28 : decode cX6_witnessesBy 28 = .ok (.getfield 26, 3) := by decide +kernel
theorem dX6_witnessesBy_31 : decode cX6_witnessesBy 31 = .ok (.iload 4, 2) := by decide +kernel
theorem dX6_witnessesBy_33 : decode cX6_witnessesBy 33 = .ok (.aaload, 1) := by decide +kernel
theorem dX6_witnessesBy_34 : decode cX6_witnessesBy 34 = .ok (.iload_n 1, 1) := by decide +kernel
theorem dX6_witnessesBy_35 : decode cX6_witnessesBy 35 = .ok (.iaload, 1) := by decide +kernel
theorem dX6_witnessesBy_36 : decode cX6_witnessesBy 36 = .ok (.iload_n 2, 1) := by decide +kernel
theorem dX6_witnessesBy_37 : decode cX6_witnessesBy 37 = .ok (.if_icmp .gt 10, 3) := by decide +kernel
theorem dX6_witnessesBy_40 : decode cX6_witnessesBy 40 = .ok (.iload_n 3, 1) := by decide +kernel
theorem dX6_witnessesBy_41 : decode cX6_witnessesBy 41 = .ok (.iconst 1, 1) := by decide +kernel
theorem dX6_witnessesBy_42 : decode cX6_witnessesBy 42 = .ok (.iload 4, 2) := by decide +kernel
theorem dX6_witnessesBy_44 : decode cX6_witnessesBy 44 = .ok (.ishl, 1) := by decide +kernel
theorem dX6_witnessesBy_45 : decode cX6_witnessesBy 45 = .ok (.ior, 1) := by decide +kernel
theorem dX6_witnessesBy_46 : decode cX6_witnessesBy 46 = .ok (.istore_n 3, 1) := by decide +kernel
theorem dX6_witnessesBy_47 : decode cX6_witnessesBy 47 = .ok (.iinc 4 1, 3) := by decide +kernel
theorem dX6_witnessesBy_50 : decode cX6_witnessesBy 50 = .ok (.goto (-45), 3) := by decide +kernel
theorem dX6_witnessesBy_53 : decode cX6_witnessesBy 53 = .ok (.iload_n 3, 1) := by decide +kernel
theorem dX6_witnessesBy_54 : decode cX6_witnessesBy 54 = .ok (.ireturn, 1) := by decide +kernel
theorem dX6_isProved_0 : decode cX6_isProved 0 = .ok (.aload_n 0, 1) := by decide +kernel
theorem dX6_isProved_1 : decode cX6_isProved 1 = .ok (.iload_n 1, 1) := by decide +kernel
theorem dX6_isProved_2 : decode cX6_isProved 2 = .ok (.aload_n 0, 1) := by decide +kernel
theorem dX6_isProved_3 : decode cX6_isProved 3 = .ok (.getfield 42, 3) := by decide +kernel
theorem dX6_isProved_6 : decode cX6_isProved 6 = .ok (.invokevirtual 106, 3) := by decide +kernel
theorem dX6_isProved_9 : decode cX6_isProved 9 = .ok (.invokestatic 109, 3) := by decide +kernel
theorem dX6_isProved_12 : decode cX6_isProved 12 = .ok (.aload_n 0, 1) := by decide +kernel
theorem dX6_isProved_13 : decode cX6_isProved 13 = .ok (.getfield 38, 3) := by decide +kernel
theorem dX6_isProved_16 : decode cX6_isProved 16 = .ok (.getfield 114, 3) := by decide +kernel
theorem dX6_isProved_19 : decode cX6_isProved 19 = .ok (.if_icmp .lt 7, 3) := by decide +kernel
theorem dX6_isProved_22 : decode cX6_isProved 22 = .ok (.iconst 1, 1) := by decide +kernel
theorem dX6_isProved_23 : decode cX6_isProved 23 = .ok (.goto 4, 3) := by decide +kernel
theorem dX6_isProved_26 : decode cX6_isProved 26 = .ok (.iconst 0, 1) := by decide +kernel
theorem dX6_isProved_27 : decode cX6_isProved 27 = .ok (.ireturn, 1) := by decide +kernel
theorem dX6_actsProved_0 : decode cX6_actsProved 0 = .ok (.iconst 0, 1) := by decide +kernel
theorem dX6_actsProved_1 : decode cX6_actsProved 1 = .ok (.istore_n 1, 1) := by decide +kernel
theorem dX6_actsProved_2 : decode cX6_actsProved 2 = .ok (.iconst 0, 1) := by decide +kernel
theorem dX6_actsProved_3 : decode cX6_actsProved 3 = .ok (.istore_n 2, 1) := by decide +kernel
theorem dX6_actsProved_4 : decode cX6_actsProved 4 = .ok (.iload_n 2, 1) := by decide +kernel
theorem dX6_actsProved_5 : decode cX6_actsProved 5 = .ok (.aload_n 0, 1) := by decide +kernel
theorem dX6_actsProved_6 : decode cX6_actsProved 6 = .ok (.getfield 46, 3) := by decide +kernel
theorem dX6_actsProved_9 : decode cX6_actsProved 9 = .ok (.if_icmp .ge 23, 3) := by decide +kernel
theorem dX6_actsProved_12 : decode cX6_actsProved 12 = .ok (.aload_n 0, 1) := by decide +kernel
theorem dX6_actsProved_13 : decode cX6_actsProved 13 = .ok (.iload_n 2, 1) := by decide +kernel
theorem dX6_actsProved_14 : decode cX6_actsProved 14 = .ok (.invokevirtual 117, 3) := by decide +kernel
theorem dX6_actsProved_17 : decode cX6_actsProved 17 = .ok (.ifCond .eq 9, 3) := by decide +kernel
theorem dX6_actsProved_20 : decode cX6_actsProved 20 = .ok (.iload_n 1, 1) := by decide +kernel
theorem dX6_actsProved_21 : decode cX6_actsProved 21 = .ok (.iconst 1, 1) := by decide +kernel
theorem dX6_actsProved_22 : decode cX6_actsProved 22 = .ok (.iload_n 2, 1) := by decide +kernel
theorem dX6_actsProved_23 : decode cX6_actsProved 23 = .ok (.ishl, 1) := by decide +kernel
theorem dX6_actsProved_24 : decode cX6_actsProved 24 = .ok (.ior, 1) := by decide +kernel
theorem dX6_actsProved_25 : decode cX6_actsProved 25 = .ok (.istore_n 1, 1) := by decide +kernel
theorem dX6_actsProved_26 : decode cX6_actsProved 26 = .ok (.iinc 2 1, 3) := by decide +kernel
theorem dX6_actsProved_29 : decode cX6_actsProved 29 = .ok (.goto (-25), 3) := by decide +kernel
theorem dX6_actsProved_32 : decode cX6_actsProved 32 = .ok (.iload_n 1, 1) := by decide +kernel
theorem dX6_actsProved_33 : decode cX6_actsProved 33 = .ok (.ireturn, 1) := by decide +kernel
theorem dX0_judge_0 : decode cX0_judge 0 = .ok (.aload_n 0, 1) := by decide +kernel
theorem dX0_judge_1 : decode cX0_judge 1 = .ok (.iconst 0, 1) := by decide +kernel
theorem dX0_judge_2 : decode cX0_judge 2 = .ok (.putfield 24, 3) := by decide +kernel
theorem dX0_judge_5 : decode cX0_judge 5 = .ok (.aload_n 0, 1) := by decide +kernel
theorem dX0_judge_6 : decode cX0_judge 6 = .ok (.iconst 0, 1) := by decide +kernel
theorem dX0_judge_7 : decode cX0_judge 7 = .ok (.putfield 28, 3) := by decide +kernel
theorem dX0_judge_10 : decode cX0_judge 10 = .ok (.iconst 0, 1) := by decide +kernel
theorem dX0_judge_11 : decode cX0_judge 11 = .ok (.istore_n 2, 1) := by decide +kernel
theorem dX0_judge_12 : decode cX0_judge 12 = .ok (.iload_n 2, 1) := by decide +kernel
theorem dX0_judge_13 : decode cX0_judge 13 = .ok (.aload_n 0, 1) := by decide +kernel
theorem dX0_judge_14 : decode cX0_judge 14 = .ok (.getfield 51, 3) := by decide +kernel
theorem dX0_judge_17 : decode cX0_judge 17 = .ok (.if_icmp .ge 43, 3) := by decide +kernel
theorem dX0_judge_20 : decode cX0_judge 20 = .ok (.aload_n 0, 1) := by decide +kernel
theorem dX0_judge_21 : decode cX0_judge 21 = .ok (.getfield 24, 3) := by decide +kernel
theorem dX0_judge_24 : decode cX0_judge 24 = .ok (.ifCond .ne 36, 3) := by decide +kernel
theorem dX0_judge_27 : decode cX0_judge 27 = .ok (.aload_n 0, 1) := by decide +kernel
theorem dX0_judge_28 : decode cX0_judge 28 = .ok (.aload_n 0, 1) := by decide +kernel
theorem dX0_judge_29 : decode cX0_judge 29 = .ok (.aload_n 1, 1) := by decide +kernel
theorem dX0_judge_30 : decode cX0_judge 30 = .ok (.iload_n 2, 1) := by decide +kernel
theorem dX0_judge_31 : decode cX0_judge 31 = .ok (.invokevirtual 102, 3) := by decide +kernel
theorem dX0_judge_34 : decode cX0_judge 34 = .ok (.putfield 24, 3) := by decide +kernel
theorem dX0_judge_37 : decode cX0_judge 37 = .ok (.aload_n 0, 1) := by decide +kernel
theorem dX0_judge_38 : decode cX0_judge 38 = .ok (.getfield 24, 3) := by decide +kernel
theorem dX0_judge_41 : decode cX0_judge 41 = .ok (.ifCond .ne 13, 3) := by decide +kernel
theorem dX0_judge_44 : decode cX0_judge 44 = .ok (.aload_n 0, 1) := by decide +kernel
theorem dX0_judge_45 : decode cX0_judge 45 = .ok (.dup, 1) := by decide +kernel
theorem dX0_judge_46 : decode cX0_judge 46 = .ok (.getfield 28, 3) := by decide +kernel
theorem dX0_judge_49 : decode cX0_judge 49 = .ok (.iconst 1, 1) := by decide +kernel
theorem dX0_judge_50 : decode cX0_judge 50 = .ok (.iadd, 1) := by decide +kernel
theorem dX0_judge_51 : decode cX0_judge 51 = .ok (.putfield 28, 3) := by decide +kernel
theorem dX0_judge_54 : decode cX0_judge 54 = .ok (.iinc 2 1, 3) := by decide +kernel
theorem dX0_judge_57 : decode cX0_judge 57 = .ok (.goto (-45), 3) := by decide +kernel
theorem dX0_judge_60 : decode cX0_judge 60 = .ok (.aload_n 0, 1) := by decide +kernel
theorem dX0_judge_61 : decode cX0_judge 61 = .ok (.aload_n 1, 1) := by decide +kernel
theorem dX0_judge_62 : decode cX0_judge 62 = .ok (.getfield 106, 3) := by decide +kernel
theorem dX0_judge_65 : decode cX0_judge 65 = .ok (.putfield 31, 3) := by decide +kernel
theorem dX0_judge_68 : decode cX0_judge 68 = .ok (.aload_n 0, 1) := by decide +kernel
theorem dX0_judge_69 : decode cX0_judge 69 = .ok (.aload_n 1, 1) := by decide +kernel
theorem dX0_judge_70 : decode cX0_judge 70 = .ok (.invokevirtual 111, 3) := by decide +kernel
theorem dX0_judge_73 : decode cX0_judge 73 = .ok (.putfield 34, 3) := by decide +kernel
theorem dX0_judge_76 : decode cX0_judge 76 = .ok (.return_, 1) := by decide +kernel
theorem dX9_failAt_0 : decode cX9_failAt 0 = .ok (.aload_n 0, 1) := by decide +kernel
theorem dX9_failAt_1 : decode cX9_failAt 1 = .ok (.iload_n 1, 1) := by decide +kernel
theorem dX9_failAt_2 : decode cX9_failAt 2 = .ok (.putfield 40, 3) := by decide +kernel
theorem dX9_failAt_5 : decode cX9_failAt 5 = .ok (.aload_n 0, 1) := by decide +kernel
theorem dX9_failAt_6 : decode cX9_failAt 6 = .ok (.iload_n 2, 1) := by decide +kernel
theorem dX9_failAt_7 : decode cX9_failAt 7 = .ok (.putfield 43, 3) := by decide +kernel
theorem dX9_failAt_10 : decode cX9_failAt 10 = .ok (.iconst 0, 1) := by decide +kernel
theorem dX9_failAt_11 : decode cX9_failAt 11 = .ok (.ireturn, 1) := by decide +kernel
theorem dX9_fail_0 : decode cX9_fail 0 = .ok (.aload_n 0, 1) := by decide +kernel
theorem dX9_fail_1 : decode cX9_fail 1 = .ok (.iload_n 1, 1) := by decide +kernel
theorem dX9_fail_2 : decode cX9_fail 2 = .ok (.aload_n 0, 1) := by decide +kernel
theorem dX9_fail_3 : decode cX9_fail 3 = .ok (.getfield 55, 3) := by decide +kernel
theorem dX9_fail_6 : decode cX9_fail 6 = .ok (.invokevirtual 71, 3) := by decide +kernel
theorem dX9_fail_9 : decode cX9_fail 9 = .ok (.ireturn, 1) := by decide +kernel
theorem dX9_readRun_0 : decode cX9_readRun 0 = .ok (.iconst 0, 1) := by decide +kernel
theorem dX9_readRun_1 : decode cX9_readRun 1 = .ok (.istore_n 1, 1) := by decide +kernel
theorem dX9_readRun_2 : decode cX9_readRun 2 = .ok (.iconst 0, 1) := by decide +kernel
theorem dX9_readRun_3 : decode cX9_readRun 3 = .ok (.istore_n 2, 1) := by decide +kernel
theorem dX9_readRun_4 : decode cX9_readRun 4 = .ok (.aload_n 0, 1) := by decide +kernel
theorem dX9_readRun_5 : decode cX9_readRun 5 = .ok (.lconst 0, 1) := by decide +kernel
theorem dX9_readRun_6 : decode cX9_readRun 6 = .ok (.putfield 64, 3) := by decide +kernel
theorem dX9_readRun_9 : decode cX9_readRun 9 = .ok (.aload_n 0, 1) := by decide +kernel
theorem dX9_readRun_10 : decode cX9_readRun 10 = .ok (.iconst 0, 1) := by decide +kernel
theorem dX9_readRun_11 : decode cX9_readRun 11 = .ok (.putfield 68, 3) := by decide +kernel
theorem dX9_readRun_14 : decode cX9_readRun 14 = .ok (.aload_n 0, 1) := by decide +kernel
theorem dX9_readRun_15 : decode cX9_readRun 15 = .ok (.getfield 37, 3) := by decide +kernel
theorem dX9_readRun_18 : decode cX9_readRun 18 = .ok (.aload_n 0, 1) := by decide +kernel
theorem dX9_readRun_19 : decode cX9_readRun 19 = .ok (.getfield 31, 3) := by decide +kernel
theorem dX9_readRun_22 : decode cX9_readRun 22 = .ok (.if_icmp .ge 93, 3) := by decide +kernel
theorem dX9_readRun_25 : decode cX9_readRun 25 = .ok (.aload_n 0, 1) := by decide +kernel
theorem dX9_readRun_26 : decode cX9_readRun 26 = .ok (.getfield 9, 3) := by decide +kernel
theorem dX9_readRun_29 : decode cX9_readRun 29 = .ok (.aload_n 0, 1) := by decide +kernel
theorem dX9_readRun_30 : decode cX9_readRun 30 = .ok (.getfield 37, 3) := by decide +kernel
theorem dX9_readRun_33 : decode cX9_readRun 33 = .ok (.caload, 1) := by decide +kernel
theorem dX9_readRun_34 : decode cX9_readRun 34 = .ok (.istore_n 3, 1) := by decide +kernel
theorem dX9_readRun_35 : decode cX9_readRun 35 = .ok (.iload_n 3, 1) := by decide +kernel
theorem dX9_readRun_36 : decode cX9_readRun 36 = .ok (.bipush 97, 2) := by decide +kernel
theorem dX9_readRun_38 : decode cX9_readRun 38 = .ok (.if_icmp .lt 33, 3) := by decide +kernel
theorem dX9_readRun_41 : decode cX9_readRun 41 = .ok (.iload_n 3, 1) := by decide +kernel
theorem dX9_readRun_42 : decode cX9_readRun 42 = .ok (.bipush 122, 2) := by decide +kernel
theorem dX9_readRun_44 : decode cX9_readRun 44 = .ok (.if_icmp .gt 27, 3) := by decide +kernel
theorem dX9_readRun_47 : decode cX9_readRun 47 = .ok (.iinc 1 1, 3) := by decide +kernel
theorem dX9_readRun_50 : decode cX9_readRun 50 = .ok (.aload_n 0, 1) := by decide +kernel
theorem dX9_readRun_51 : decode cX9_readRun 51 = .ok (.aload_n 0, 1) := by decide +kernel
theorem dX9_readRun_52 : decode cX9_readRun 52 = .ok (.getfield 64, 3) := by decide +kernel
theorem dX9_readRun_55 : decode cX9_readRun 55 = .ok (.iconst 5, 1) := by decide +kernel
theorem dX9_readRun_56 : decode cX9_readRun 56 = .ok (.lshl, 1) := by decide +kernel
theorem dX9_readRun_57 : decode cX9_readRun 57 = .ok (.iload_n 3, 1) := by decide +kernel
theorem dX9_readRun_58 : decode cX9_readRun 58 = .ok (.bipush 97, 2) := by decide +kernel
theorem dX9_readRun_60 : decode cX9_readRun 60 = .ok (.isub, 1) := by decide +kernel
theorem dX9_readRun_61 : decode cX9_readRun 61 = .ok (.iconst 1, 1) := by decide +kernel
theorem dX9_readRun_62 : decode cX9_readRun 62 = .ok (.iadd, 1) := by decide +kernel
theorem dX9_readRun_63 : decode cX9_readRun 63 = .ok (.i2l, 1) := by decide +kernel
theorem dX9_readRun_64 : decode cX9_readRun 64 = .ok (.lor, 1) := by decide +kernel
theorem dX9_readRun_65 : decode cX9_readRun 65 = .ok (.putfield 64, 3) := by decide +kernel
theorem dX9_readRun_68 : decode cX9_readRun 68 = .ok (.goto 34, 3) := by decide +kernel
theorem dX9_readRun_71 : decode cX9_readRun 71 = .ok (.iload_n 3, 1) := by decide +kernel
theorem dX9_readRun_72 : decode cX9_readRun 72 = .ok (.bipush 48, 2) := by decide +kernel
theorem dX9_readRun_74 : decode cX9_readRun 74 = .ok (.if_icmp .lt 41, 3) := by decide +kernel
theorem dX9_readRun_77 : decode cX9_readRun 77 = .ok (.iload_n 3, 1) := by decide +kernel
theorem dX9_readRun_78 : decode cX9_readRun 78 = .ok (.bipush 57, 2) := by decide +kernel
theorem dX9_readRun_80 : decode cX9_readRun 80 = .ok (.if_icmp .gt 35, 3) := by decide +kernel
theorem dX9_readRun_83 : decode cX9_readRun 83 = .ok (.iinc 2 1, 3) := by decide +kernel
theorem dX9_readRun_86 : decode cX9_readRun 86 = .ok (.aload_n 0, 1) := by decide +kernel
theorem dX9_readRun_87 : decode cX9_readRun 87 = .ok (.aload_n 0, 1) := by decide +kernel
theorem dX9_readRun_88 : decode cX9_readRun 88 = .ok (.getfield 68, 3) := by decide +kernel
theorem dX9_readRun_91 : decode cX9_readRun 91 = .ok (.bipush 10, 2) := by decide +kernel
theorem dX9_readRun_93 : decode cX9_readRun 93 = .ok (.imul, 1) := by decide +kernel
theorem dX9_readRun_94 : decode cX9_readRun 94 = .ok (.iload_n 3, 1) := by decide +kernel
theorem dX9_readRun_95 : decode cX9_readRun 95 = .ok (.iadd, 1) := by decide +kernel
theorem dX9_readRun_96 : decode cX9_readRun 96 = .ok (.bipush 48, 2) := by decide +kernel
theorem dX9_readRun_98 : decode cX9_readRun 98 = .ok (.isub, 1) := by decide +kernel
theorem dX9_readRun_99 : decode cX9_readRun 99 = .ok (.putfield 68, 3) := by decide +kernel
theorem dX9_readRun_102 : decode cX9_readRun 102 = .ok (.aload_n 0, 1) := by decide +kernel
theorem dX9_readRun_103 : decode cX9_readRun 103 = .ok (.dup, 1) := by decide +kernel
theorem dX9_readRun_104 : decode cX9_readRun 104 = .ok (.getfield 37, 3) := by decide +kernel
theorem dX9_readRun_107 : decode cX9_readRun 107 = .ok (.iconst 1, 1) := by decide +kernel
theorem dX9_readRun_108 : decode cX9_readRun 108 = .ok (.iadd, 1) := by decide +kernel
theorem dX9_readRun_109 : decode cX9_readRun 109 = .ok (.putfield 37, 3) := by decide +kernel
theorem dX9_readRun_112 : decode cX9_readRun 112 = .ok (.goto (-98), 3) := by decide +kernel
theorem dX9_readRun_115 : decode cX9_readRun 115 = .ok (.iload_n 1, 1) := by decide +kernel
theorem dX9_readRun_116 : decode cX9_readRun 116 = .ok (.ifCond .ne 20, 3) := by decide +kernel
theorem dX9_readRun_119 : decode cX9_readRun 119 = .ok (.aload_n 0, 1) := by decide +kernel
theorem dX9_readRun_120 : decode cX9_readRun 120 = .ok (.iload_n 2, 1) := by decide +kernel
theorem dX9_readRun_121 : decode cX9_readRun 121 = .ok (.iconst 3, 1) := by decide +kernel
theorem dX9_readRun_122 : decode cX9_readRun 122 = .ok (.if_icmp .gt 8, 3) := by decide +kernel
theorem dX9_readRun_125 : decode cX9_readRun 125 = .ok (.bipush 101, 2) := by decide +kernel
theorem dX9_readRun_127 : decode cX9_readRun 127 = .ok (.goto 5, 3) := by decide +kernel
theorem dX9_readRun_130 : decode cX9_readRun 130 = .ok (.bipush 103, 2) := by decide +kernel
theorem dX9_readRun_132 : decode cX9_readRun 132 = .ok (.putfield 58, 3) := by decide +kernel
theorem dX9_readRun_135 : decode cX9_readRun 135 = .ok (.return_, 1) := by decide +kernel
theorem dX9_readRun_136 : decode cX9_readRun 136 = .ok (.aload_n 0, 1) := by decide +kernel
theorem dX9_readRun_137 : decode cX9_readRun 137 = .ok (.iload_n 2, 1) := by decide +kernel
theorem dX9_readRun_138 : decode cX9_readRun 138 = .ok (.ifCond .ne 14, 3) := by decide +kernel
theorem dX9_readRun_141 : decode cX9_readRun 141 = .ok (.iload_n 1, 1) := by decide +kernel
theorem dX9_readRun_142 : decode cX9_readRun 142 = .ok (.bipush 7, 2) := by decide +kernel
theorem dX9_readRun_144 : decode cX9_readRun 144 = .ok (.if_icmp .gt 8, 3) := by decide +kernel
theorem dX9_readRun_147 : decode cX9_readRun 147 = .ok (.bipush 100, 2) := by decide +kernel
theorem dX9_readRun_149 : decode cX9_readRun 149 = .ok (.goto 5, 3) := by decide +kernel
theorem dX9_readRun_152 : decode cX9_readRun 152 = .ok (.bipush 103, 2) := by decide +kernel
theorem dX9_readRun_154 : decode cX9_readRun 154 = .ok (.putfield 58, 3) := by decide +kernel
theorem dX9_readRun_157 : decode cX9_readRun 157 = .ok (.iconst 0, 1) := by decide +kernel
theorem dX9_readRun_158 : decode cX9_readRun 158 = .ok (.istore_n 3, 1) := by decide +kernel
theorem dX9_readRun_159 : decode cX9_readRun 159 = .ok (.aload_n 0, 1) := by decide +kernel
theorem dX9_readRun_160 : decode cX9_readRun 160 = .ok (.getfield 58, 3) := by decide +kernel
theorem dX9_readRun_163 : decode cX9_readRun 163 = .ok (.bipush 100, 2) := by decide +kernel
theorem dX9_readRun_165 : decode cX9_readRun 165 = .ok (.if_icmp .ne 34, 3) := by decide +kernel
theorem dX9_readRun_168 : decode cX9_readRun 168 = .ok (.iload_n 3, 1) := by decide +kernel
theorem dX9_readRun_169 : decode cX9_readRun 169 = .ok (.bipush 22, 2) := by decide +kernel
theorem dX9_readRun_171 : decode cX9_readRun 171 = .ok (.if_icmp .ge 28, 3) := by decide +kernel
theorem dX9_readRun_174 : decode cX9_readRun 174 = .ok (.aload_n 0, 1) := by decide +kernel
theorem dX9_readRun_175 : decode cX9_readRun 175 = .ok (.getfield 15, 3) := by decide +kernel
theorem dX9_readRun_178 : decode cX9_readRun 178 = .ok (.iload_n 3, 1) := by decide +kernel
theorem dX9_readRun_179 : decode cX9_readRun 179 = .ok (.laload, 1) := by decide +kernel
theorem dX9_readRun_180 : decode cX9_readRun 180 = .ok (.aload_n 0, 1) := by decide +kernel
theorem dX9_readRun_181 : decode cX9_readRun 181 = .ok (.getfield 64, 3) := by decide +kernel
theorem dX9_readRun_184 : decode cX9_readRun 184 = .ok (.lcmp, 1) := by decide +kernel
theorem dX9_readRun_185 : decode cX9_readRun 185 = .ok (.ifCond .ne 8, 3) := by decide +kernel
theorem dX9_readRun_188 : decode cX9_readRun 188 = .ok (.aload_n 0, 1) := by decide +kernel
theorem dX9_readRun_189 : decode cX9_readRun 189 = .ok (.iload_n 3, 1) := by decide +kernel
theorem dX9_readRun_190 : decode cX9_readRun 190 = .ok (.putfield 58, 3) := by decide +kernel
theorem dX9_readRun_193 : decode cX9_readRun 193 = .ok (.iinc 3 1, 3) := by decide +kernel
theorem dX9_readRun_196 : decode cX9_readRun 196 = .ok (.goto (-37), 3) := by decide +kernel
theorem dX9_readRun_199 : decode cX9_readRun 199 = .ok (.return_, 1) := by decide +kernel
theorem dX9_read_0 : decode cX9_read 0 = .ok (.aload_n 0, 1) := by decide +kernel
theorem dX9_read_1 : decode cX9_read 1 = .ok (.getfield 31, 3) := by decide +kernel
theorem dX9_read_4 : decode cX9_read 4 = .ok (.aload_n 0, 1) := by decide +kernel
theorem dX9_read_5 : decode cX9_read 5 = .ok (.getfield 34, 3) := by decide +kernel
theorem dX9_read_8 : decode cX9_read 8 = .ok (.invokestatic 49, 3) := by decide +kernel
theorem dX9_read_11 : decode cX9_read 11 = .ok (.istore_n 1, 1) := by decide +kernel
theorem dX9_read_12 : decode cX9_read 12 = .ok (.aload_n 0, 1) := by decide +kernel
theorem dX9_read_13 : decode cX9_read 13 = .ok (.getfield 37, 3) := by decide +kernel
theorem dX9_read_16 : decode cX9_read 16 = .ok (.iload_n 1, 1) := by decide +kernel
theorem dX9_read_17 : decode cX9_read 17 = .ok (.if_icmp .ge 44, 3) := by decide +kernel
theorem dX9_read_20 : decode cX9_read 20 = .ok (.aload_n 0, 1) := by decide +kernel
theorem dX9_read_21 : decode cX9_read 21 = .ok (.getfield 9, 3) := by decide +kernel
theorem dX9_read_24 : decode cX9_read 24 = .ok (.aload_n 0, 1) := by decide +kernel
theorem dX9_read_25 : decode cX9_read 25 = .ok (.getfield 37, 3) := by decide +kernel
theorem dX9_read_28 : decode cX9_read 28 = .ok (.caload, 1) := by decide +kernel
theorem dX9_read_29 : decode cX9_read 29 = .ok (.bipush 32, 2) := by decide +kernel
theorem dX9_read_31 : decode cX9_read 31 = .ok (.if_icmp .eq 17, 3) := by decide +kernel
theorem dX9_read_34 : decode cX9_read 34 = .ok (.aload_n 0, 1) := by decide +kernel
theorem dX9_read_35 : decode cX9_read 35 = .ok (.getfield 9, 3) := by decide +kernel
theorem dX9_read_38 : decode cX9_read 38 = .ok (.aload_n 0, 1) := by decide +kernel
theorem dX9_read_39 : decode cX9_read 39 = .ok (.getfield 37, 3) := by decide +kernel
theorem dX9_read_42 : decode cX9_read 42 = .ok (.caload, 1) := by decide +kernel
theorem dX9_read_43 : decode cX9_read 43 = .ok (.bipush 10, 2) := by decide +kernel
theorem dX9_read_45 : decode cX9_read 45 = .ok (.if_icmp .ne 16, 3) := by decide +kernel
theorem dX9_read_48 : decode cX9_read 48 = .ok (.aload_n 0, 1) := by decide +kernel
theorem dX9_read_49 : decode cX9_read 49 = .ok (.dup, 1) := by decide +kernel
theorem dX9_read_50 : decode cX9_read 50 = .ok (.getfield 37, 3) := by decide +kernel
theorem dX9_read_53 : decode cX9_read 53 = .ok (.iconst 1, 1) := by decide +kernel
theorem dX9_read_54 : decode cX9_read 54 = .ok (.iadd, 1) := by decide +kernel
theorem dX9_read_55 : decode cX9_read 55 = .ok (.putfield 37, 3) := by decide +kernel
theorem dX9_read_58 : decode cX9_read 58 = .ok (.goto (-46), 3) := by decide +kernel
theorem dX9_read_61 : decode cX9_read 61 = .ok (.aload_n 0, 1) := by decide +kernel
theorem dX9_read_62 : decode cX9_read 62 = .ok (.getfield 37, 3) := by decide +kernel
theorem dX9_read_65 : decode cX9_read 65 = .ok (.iload_n 1, 1) := by decide +kernel
theorem dX9_read_66 : decode cX9_read 66 = .ok (.if_icmp .lt 31, 3) := by decide +kernel
theorem dX9_read_69 : decode cX9_read 69 = .ok (.aload_n 0, 1) := by decide +kernel
theorem dX9_read_70 : decode cX9_read 70 = .ok (.iload_n 1, 1) := by decide +kernel
theorem dX9_read_71 : decode cX9_read 71 = .ok (.putfield 55, 3) := by decide +kernel
theorem dX9_read_74 : decode cX9_read 74 = .ok (.aload_n 0, 1) := by decide +kernel
theorem dX9_read_75 : decode cX9_read 75 = .ok (.aload_n 0, 1) := by decide +kernel
theorem dX9_read_76 : decode cX9_read 76 = .ok (.getfield 31, 3) := by decide +kernel
theorem dX9_read_79 : decode cX9_read 79 = .ok (.aload_n 0, 1) := by decide +kernel
theorem dX9_read_80 : decode cX9_read 80 = .ok (.getfield 34, 3) := by decide +kernel
theorem dX9_read_83 : decode cX9_read 83 = .ok (.if_icmp .le 8, 3) := by decide +kernel
theorem dX9_read_86 : decode cX9_read 86 = .ok (.bipush 103, 2) := by decide +kernel
theorem dX9_read_88 : decode cX9_read 88 = .ok (.goto 5, 3) := by decide +kernel
theorem dX9_read_91 : decode cX9_read 91 = .ok (.bipush 102, 2) := by decide +kernel
theorem dX9_read_93 : decode cX9_read 93 = .ok (.putfield 58, 3) := by decide +kernel
theorem dX9_read_96 : decode cX9_read 96 = .ok (.return_, 1) := by decide +kernel
theorem dX9_read_97 : decode cX9_read 97 = .ok (.aload_n 0, 1) := by decide +kernel
theorem dX9_read_98 : decode cX9_read 98 = .ok (.aload_n 0, 1) := by decide +kernel
theorem dX9_read_99 : decode cX9_read 99 = .ok (.getfield 37, 3) := by decide +kernel
theorem dX9_read_102 : decode cX9_read 102 = .ok (.putfield 55, 3) := by decide +kernel
theorem dX9_read_105 : decode cX9_read 105 = .ok (.aload_n 0, 1) := by decide +kernel
theorem dX9_read_106 : decode cX9_read 106 = .ok (.getfield 9, 3) := by decide +kernel
theorem dX9_read_109 : decode cX9_read 109 = .ok (.aload_n 0, 1) := by decide +kernel
theorem dX9_read_110 : decode cX9_read 110 = .ok (.getfield 37, 3) := by decide +kernel
theorem dX9_read_113 : decode cX9_read 113 = .ok (.caload, 1) := by decide +kernel
theorem dX9_read_114 : decode cX9_read 114 = .ok (.istore_n 2, 1) := by decide +kernel
theorem dX9_read_115 : decode cX9_read 115 = .ok (.iload_n 2, 1) := by decide +kernel
theorem dX9_read_116 : decode cX9_read 116 = .ok (.bipush 97, 2) := by decide +kernel
theorem dX9_read_118 : decode cX9_read 118 = .ok (.if_icmp .lt 9, 3) := by decide +kernel
theorem dX9_read_121 : decode cX9_read 121 = .ok (.iload_n 2, 1) := by decide +kernel
theorem dX9_read_122 : decode cX9_read 122 = .ok (.bipush 122, 2) := by decide +kernel
theorem dX9_read_124 : decode cX9_read 124 = .ok (.if_icmp .le 15, 3) := by decide +kernel
theorem dX9_read_127 : decode cX9_read 127 = .ok (.iload_n 2, 1) := by decide +kernel
theorem dX9_read_128 : decode cX9_read 128 = .ok (.bipush 48, 2) := by decide +kernel
theorem dX9_read_130 : decode cX9_read 130 = .ok (.if_icmp .lt 14, 3) := by decide +kernel
theorem dX9_read_133 : decode cX9_read 133 = .ok (.iload_n 2, 1) := by decide +kernel
theorem dX9_read_134 : decode cX9_read 134 = .ok (.bipush 57, 2) := by decide +kernel
theorem dX9_read_136 : decode cX9_read 136 = .ok (.if_icmp .gt 8, 3) := by decide +kernel
theorem dX9_read_139 : decode cX9_read 139 = .ok (.aload_n 0, 1) := by decide +kernel
theorem dX9_read_140 : decode cX9_read 140 = .ok (.invokevirtual 61, 3) := by decide +kernel
theorem dX9_read_143 : decode cX9_read 143 = .ok (.return_, 1) := by decide +kernel
theorem dX9_read_144 : decode cX9_read 144 = .ok (.iload_n 2, 1) := by decide +kernel
theorem dX9_read_145 : decode cX9_read 145 = .ok (.bipush 40, 2) := by decide +kernel
theorem dX9_read_147 : decode cX9_read 147 = .ok (.if_icmp .eq 21, 3) := by decide +kernel
theorem dX9_read_150 : decode cX9_read 150 = .ok (.iload_n 2, 1) := by decide +kernel
theorem dX9_read_151 : decode cX9_read 151 = .ok (.bipush 41, 2) := by decide +kernel
theorem dX9_read_153 : decode cX9_read 153 = .ok (.if_icmp .eq 15, 3) := by decide +kernel
theorem dX9_read_156 : decode cX9_read 156 = .ok (.iload_n 2, 1) := by decide +kernel
theorem dX9_read_157 : decode cX9_read 157 = .ok (.bipush 59, 2) := by decide +kernel
theorem dX9_read_159 : decode cX9_read 159 = .ok (.if_icmp .lt 13, 3) := by decide +kernel
theorem dX9_read_162 : decode cX9_read 162 = .ok (.iload_n 2, 1) := by decide +kernel
theorem dX9_read_163 : decode cX9_read 163 = .ok (.bipush 62, 2) := by decide +kernel
theorem dX9_read_165 : decode cX9_read 165 = .ok (.if_icmp .gt 7, 3) := by decide +kernel
theorem dX9_read_168 : decode cX9_read 168 = .ok (.iconst 1, 1) := by decide +kernel
theorem dX9_read_169 : decode cX9_read 169 = .ok (.goto 4, 3) := by decide +kernel
theorem dX9_read_172 : decode cX9_read 172 = .ok (.iconst 0, 1) := by decide +kernel
theorem dX9_read_173 : decode cX9_read 173 = .ok (.istore_n 3, 1) := by decide +kernel
theorem dX9_read_174 : decode cX9_read 174 = .ok (.aload_n 0, 1) := by decide +kernel
theorem dX9_read_175 : decode cX9_read 175 = .ok (.iload_n 3, 1) := by decide +kernel
theorem dX9_read_176 : decode cX9_read 176 = .ok (.ifCond .eq 7, 3) := by decide +kernel
theorem dX9_read_179 : decode cX9_read 179 = .ok (.iload_n 2, 1) := by decide +kernel
theorem dX9_read_180 : decode cX9_read 180 = .ok (.goto 5, 3) := by decide +kernel
theorem dX9_read_183 : decode cX9_read 183 = .ok (.bipush 103, 2) := by decide +kernel
theorem dX9_read_185 : decode cX9_read 185 = .ok (.putfield 58, 3) := by decide +kernel
theorem dX9_read_188 : decode cX9_read 188 = .ok (.aload_n 0, 1) := by decide +kernel
theorem dX9_read_189 : decode cX9_read 189 = .ok (.dup, 1) := by decide +kernel
theorem dX9_read_190 : decode cX9_read 190 = .ok (.getfield 37, 3) := by decide +kernel
theorem dX9_read_193 : decode cX9_read 193 = .ok (.iconst 1, 1) := by decide +kernel
theorem dX9_read_194 : decode cX9_read 194 = .ok (.iadd, 1) := by decide +kernel
theorem dX9_read_195 : decode cX9_read 195 = .ok (.putfield 37, 3) := by decide +kernel
theorem dX9_read_198 : decode cX9_read 198 = .ok (.return_, 1) := by decide +kernel
-- X0_addLine
abbrev rmX0_addLine : Room := { frames := 0, cells := 0, slots := 0, locals := 0 }
def fX0_addLine (S : zSt) (v1 : Int32) (v2 : Int32) (v3 : Int32) (v4 : Int32) : Option (Int32 × zSt) :=
  zBr ((S.1 240 6) < (40 : Int32)) (zGd (zIx (S.1 240 6) 40) (zLt (zI S 241 (S.1 240 6).toNatClampNeg v1) (fun S3 => zGd (zIx (S3.1 240 6) 40) (zLt (zI S3 242 (S3.1 240 6).toNatClampNeg v2) (fun S5 => zGd (zIx (S5.1 240 6) 40) (zLt (zI S5 243 (S5.1 240 6).toNatClampNeg v3) (fun S7 => zGd (zIx (S7.1 240 6) 40) (zLt (zI S7 244 (S7.1 240 6).toNatClampNeg v4) (fun S9 => zLt (zI S9 240 6 ((S9.1 240 6) + (1 : Int32))) (fun S10 => some ((1 : Int32), S10))))))))))) (some ((0 : Int32), S))
set_option maxHeartbeats 4000000 in
set_option maxRecDepth 100000 in
theorem mX0_addLine {l : Launch} {D : va_G} {cy : Nat → ClassId} {q : Nat → Nat} {A : Nat → Prop} {S : zSt} {v1 : Int32} {v2 : Int32} {v3 : Int32} {v4 : Int32} (hq : zQ A q zNC) {z : (Int32 × zSt)} (h : fX0_addLine S v1 v2 v3 v4 = some z) : zMq l yX0_addLine cX0_addLine 5 (some .boolean) rmX0_addLine [.ref (q 240), .int v1, .int v2, .int v3, .int v4] zsh zNC D cy q A S z := by
  refine Met.ofW (cc := cX0_addLine) (maxL := 5) (ret := (some .boolean)) (by decide) rfl ?_
  intro p e s m args below meth c s₁ B hml hv
  obtain ⟨rfl, hP, hK⟩ := hv
  have cx : zX RX0 cX0_addLine 5 p s m ([.ref (q 240), .int v1, .int v2, .int v3, .int v4]).toArray c D cy := ⟨B.exec, B.bytes, hml, findClass_of_methodNamed B.named, fun w hw => atoms_spec (ws := Cond.code yX0_addLine cX0_addLine 5 (some .boolean) :: zTB) B.pre w (List.mem_cons_of_mem _ hw), hK⟩
  have hx := cx.1
  have hb := cx.2.1
  have hr := B.returns
  have hlk := B.notSynchronized
  have hS : va_S A s.heap s.heap [] := va_S.rf
  have hl := lv_entry ([.ref (q 240), .int v1, .int v2, .int v3, .int v4]) (n := 5) (Nat.le_of_ble_eq_true rfl)
  rw [lg_entry_eq]
  generalize (lg_sl ([.ref (q 240), .int v1, .int v2, .int v3, .int v4]) ++ List.replicate (5 - (lg_sl ([.ref (q 240), .int v1, .int v2, .int v3, .int v4])).length) Slot.unset).toArray = ls at hl ⊢
  have hl : lv_has ls 5 [(0, .ref (q 240)), (1, .int v1), (2, .int v2), (3, .int v3), (4, .int v4)] := hl
  unfold fX0_addLine at h
  refine lv_aload_n (pc := 0) hx hb dX0_addLine_0 rfl (lv_at hl 0 rfl) ?_
  refine zr_getI (pc := 1) cx lk_X0_51 hP nC_240 sC_240 rfl dX0_addLine_1 ?_
  refine lv_bipush (pc := 4) hx hb dX0_addLine_4 zb_40 ?_
  refine lv_icmp_lt (pc := 6) (tgt := 11) hx hb dX0_addLine_6 (by decide) (fun c1 => ?_) (fun c1 => ?_)
  · replace h := zBr_t c1 h
    refine lv_aload_n (pc := 11) hx hb dX0_addLine_11 rfl (lv_at hl 0 rfl) ?_
    refine zr_getR (pc := 12) (t := 241) cx lk_X0_9 hP nC_240 sC_240 rfl dX0_addLine_12 ?_
    refine lv_aload_n (pc := 15) hx hb dX0_addLine_15 rfl (lv_at hl 0 rfl) ?_
    refine zr_getI (pc := 16) cx lk_X0_51 hP nC_240 sC_240 rfl dX0_addLine_16 ?_
    refine lv_iload_n (pc := 19) hx hb dX0_addLine_19 rfl (lv_at hl 1 rfl) ?_
    obtain ⟨g2, h⟩ := zGd_e h
    obtain ⟨S3, eS3, h⟩ := zLt_e h
    refine zr_iast (pc := 20) cx hq hP hS nC_241 sC_241 g2 dX0_addLine_20 (fun H locs hP hS => ?_)
    rw [← eS3] at hP
    refine lv_aload_n (pc := 21) hx hb dX0_addLine_21 rfl (lv_at hl 0 rfl) ?_
    refine zr_getR (pc := 22) (t := 242) cx lk_X0_15 hP nC_240 sC_240 rfl dX0_addLine_22 ?_
    refine lv_aload_n (pc := 25) hx hb dX0_addLine_25 rfl (lv_at hl 0 rfl) ?_
    refine zr_getI (pc := 26) cx lk_X0_51 hP nC_240 sC_240 rfl dX0_addLine_26 ?_
    refine lv_iload_n (pc := 29) hx hb dX0_addLine_29 rfl (lv_at hl 2 rfl) ?_
    obtain ⟨g4, h⟩ := zGd_e h
    obtain ⟨S5, eS5, h⟩ := zLt_e h
    refine zr_iast (pc := 30) cx hq hP hS nC_242 sC_242 g4 dX0_addLine_30 (fun H locs hP hS => ?_)
    rw [← eS5] at hP
    refine lv_aload_n (pc := 31) hx hb dX0_addLine_31 rfl (lv_at hl 0 rfl) ?_
    refine zr_getR (pc := 32) (t := 243) cx lk_X0_18 hP nC_240 sC_240 rfl dX0_addLine_32 ?_
    refine lv_aload_n (pc := 35) hx hb dX0_addLine_35 rfl (lv_at hl 0 rfl) ?_
    refine zr_getI (pc := 36) cx lk_X0_51 hP nC_240 sC_240 rfl dX0_addLine_36 ?_
    refine lv_iload_n (pc := 39) hx hb dX0_addLine_39 rfl (lv_at hl 3 rfl) ?_
    obtain ⟨g6, h⟩ := zGd_e h
    obtain ⟨S7, eS7, h⟩ := zLt_e h
    refine zr_iast (pc := 40) cx hq hP hS nC_243 sC_243 g6 dX0_addLine_40 (fun H locs hP hS => ?_)
    rw [← eS7] at hP
    refine lv_aload_n (pc := 41) hx hb dX0_addLine_41 rfl (lv_at hl 0 rfl) ?_
    refine zr_getR (pc := 42) (t := 244) cx lk_X0_21 hP nC_240 sC_240 rfl dX0_addLine_42 ?_
    refine lv_aload_n (pc := 45) hx hb dX0_addLine_45 rfl (lv_at hl 0 rfl) ?_
    refine zr_getI (pc := 46) cx lk_X0_51 hP nC_240 sC_240 rfl dX0_addLine_46 ?_
    refine lv_iload (pc := 49) hx hb dX0_addLine_49 (lv_at hl 4 rfl) ?_
    obtain ⟨g8, h⟩ := zGd_e h
    obtain ⟨S9, eS9, h⟩ := zLt_e h
    refine zr_iast (pc := 51) cx hq hP hS nC_244 sC_244 g8 dX0_addLine_51 (fun H locs hP hS => ?_)
    rw [← eS9] at hP
    refine lv_aload_n (pc := 52) hx hb dX0_addLine_52 rfl (lv_at hl 0 rfl) ?_
    refine lv_dup (pc := 53) hx hb dX0_addLine_53 rfl ?_
    refine zr_getI (pc := 54) cx lk_X0_51 hP nC_240 sC_240 rfl dX0_addLine_54 ?_
    refine lv_iconst (pc := 57) hx hb dX0_addLine_57 zc_1 ?_
    refine lv_iadd (pc := 58) hx hb dX0_addLine_58 ?_
    obtain ⟨S10, eS10, h⟩ := zLt_e h
    refine zr_putI (pc := 59) cx lq_X0_51 hq hP hS nC_240 sC_240 rfl rfl rfl dX0_addLine_59 (fun H locs hP hS => ?_)
    rw [← eS10] at hP
    refine lv_iconst (pc := 62) hx hb dX0_addLine_62 zc_1 ?_
    have hz := Option.some.inj h
    exact zr_rqZ (pc := 63) cx hr hlk hP hS hz (by decide) dX0_addLine_63
  · replace h := zBr_f c1 h
    refine lv_iconst (pc := 9) hx hb dX0_addLine_9 zc_0 ?_
    have hz := Option.some.inj h
    exact zr_rqZ (pc := 10) cx hr hlk hP hS hz (by decide) dX0_addLine_10
-- X6_carryTo
abbrev rmX6_carryTo : Room := { frames := 0, cells := 0, slots := 0, locals := 0 }
def fX6_carryTo (S : zSt) (a0 : Nat) (v1 : Int32) (v2 : Int32) : Option zSt :=
  zGd (zIx v1 6) (zLt (zI S (a0 + 13) v1.toNatClampNeg v2) (fun S2 => some S2))
set_option maxHeartbeats 4000000 in
set_option maxRecDepth 100000 in
theorem mX6_carryTo {l : Launch} {D : va_G} {cy : Nat → ClassId} {q : Nat → Nat} {A : Nat → Prop} {S : zSt} {a0 : Nat} {v1 : Int32} {v2 : Int32} (hq : zQ A q zNC) (ha0 : zLife a0) {z : zSt} (h : fX6_carryTo S a0 v1 v2 = some z) : zMv l yX6_carryTo cX6_carryTo 3 none rmX6_carryTo [.ref (q a0), .int v1, .int v2] zsh zNC D cy q A S z := by
  refine Met.ofW (cc := cX6_carryTo) (maxL := 3) (ret := none) (by decide) rfl ?_
  intro p e s m args below meth c s₁ B hml hv
  obtain ⟨rfl, hP, hK⟩ := hv
  have cx : zX RX6 cX6_carryTo 3 p s m ([.ref (q a0), .int v1, .int v2]).toArray c D cy := ⟨B.exec, B.bytes, hml, findClass_of_methodNamed B.named, fun w hw => atoms_spec (ws := Cond.code yX6_carryTo cX6_carryTo 3 none :: zTB) B.pre w (List.mem_cons_of_mem _ hw), hK⟩
  have hx := cx.1
  have hb := cx.2.1
  have hr := B.returns
  have hlk := B.notSynchronized
  have hS : va_S A s.heap s.heap [] := va_S.rf
  have hl := lv_entry ([.ref (q a0), .int v1, .int v2]) (n := 3) (Nat.le_of_ble_eq_true rfl)
  rw [lg_entry_eq]
  generalize (lg_sl ([.ref (q a0), .int v1, .int v2]) ++ List.replicate (3 - (lg_sl ([.ref (q a0), .int v1, .int v2])).length) Slot.unset).toArray = ls at hl ⊢
  have hl : lv_has ls 3 [(0, .ref (q a0)), (1, .int v1), (2, .int v2)] := hl
  unfold fX6_carryTo at h
  refine lv_aload_n (pc := 0) hx hb dX6_carryTo_0 rfl (lv_at hl 0 rfl) ?_
  refine zr_getR (pc := 1) (t := (a0 + 13)) cx lk_X6_32 hP (nX6_0 ha0) (sX6_0 ha0) rfl dX6_carryTo_1 ?_
  refine lv_iload_n (pc := 4) hx hb dX6_carryTo_4 rfl (lv_at hl 1 rfl) ?_
  refine lv_iload_n (pc := 5) hx hb dX6_carryTo_5 rfl (lv_at hl 2 rfl) ?_
  obtain ⟨g1, h⟩ := zGd_e h
  obtain ⟨S2, eS2, h⟩ := zLt_e h
  refine zr_iast (pc := 6) cx hq hP hS (nX6_13 ha0) (sX6_13 ha0) g1 dX6_carryTo_6 (fun H locs hP hS => ?_)
  rw [← eS2] at hP
  have hz := Option.some.inj h
  exact zr_rqV (pc := 7) cx hr hlk hP hS hz dX6_carryTo_7
-- X6_whyNotCarry
abbrev rmX6_whyNotCarry : Room := { frames := 0, cells := 0, slots := 0, locals := 0 }
def fX6_whyNotCarry (S : zSt) (a0 : Nat) (v1 : Int32) (v2 : Int32) : Option Int32 :=
  zGd (zIx v1 6) (zBr ((S.1 (a0 + 13) v1.toNatClampNeg) = v2) (some (1 : Int32)) (some (0 : Int32)))
set_option maxHeartbeats 4000000 in
set_option maxRecDepth 100000 in
theorem mX6_whyNotCarry {l : Launch} {D : va_G} {cy : Nat → ClassId} {q : Nat → Nat} {S : zSt} {a0 : Nat} {v1 : Int32} {v2 : Int32} (ha0 : zLife a0) {z : Int32} (h : fX6_whyNotCarry S a0 v1 v2 = some z) : zMi l yX6_whyNotCarry cX6_whyNotCarry 3 (some .int) rmX6_whyNotCarry [.ref (q a0), .int v1, .int v2] (zPr zsh zNC D cy q S) z := by
  refine Met.ofW (cc := cX6_whyNotCarry) (maxL := 3) (ret := (some .int)) (by decide) rfl ?_
  intro p e s m args below meth c s₁ B hml hv
  obtain ⟨rfl, hP, hK⟩ := hv
  have cx : zX RX6 cX6_whyNotCarry 3 p s m ([.ref (q a0), .int v1, .int v2]).toArray c D cy := ⟨B.exec, B.bytes, hml, findClass_of_methodNamed B.named, fun w hw => atoms_spec (ws := Cond.code yX6_whyNotCarry cX6_whyNotCarry 3 (some .int) :: zTB) B.pre w (List.mem_cons_of_mem _ hw), hK⟩
  have hx := cx.1
  have hb := cx.2.1
  have hr := B.returns
  have hlk := B.notSynchronized
  have hl := lv_entry ([.ref (q a0), .int v1, .int v2]) (n := 3) (Nat.le_of_ble_eq_true rfl)
  rw [lg_entry_eq]
  generalize (lg_sl ([.ref (q a0), .int v1, .int v2]) ++ List.replicate (3 - (lg_sl ([.ref (q a0), .int v1, .int v2])).length) Slot.unset).toArray = ls at hl ⊢
  have hl : lv_has ls 3 [(0, .ref (q a0)), (1, .int v1), (2, .int v2)] := hl
  unfold fX6_whyNotCarry at h
  refine lv_aload_n (pc := 0) hx hb dX6_whyNotCarry_0 rfl (lv_at hl 0 rfl) ?_
  refine zr_getR (pc := 1) (t := (a0 + 13)) cx lk_X6_32 hP (nX6_0 ha0) (sX6_0 ha0) rfl dX6_whyNotCarry_1 ?_
  refine lv_iload_n (pc := 4) hx hb dX6_whyNotCarry_4 rfl (lv_at hl 1 rfl) ?_
  obtain ⟨g1, h⟩ := zGd_e h
  refine zr_iald (pc := 5) cx hP (nX6_13 ha0) (sX6_13 ha0) g1 dX6_whyNotCarry_5 ?_
  refine lv_iload_n (pc := 6) hx hb dX6_whyNotCarry_6 rfl (lv_at hl 2 rfl) ?_
  refine lv_icmp_ne (pc := 7) (tgt := 14) hx hb dX6_whyNotCarry_7 (by decide) (fun c2 => ?_) (fun c2 => ?_)
  · replace h := zBr_f c2 h
    refine lv_iconst (pc := 14) hx hb dX6_whyNotCarry_14 zc_0 ?_
    have hz := Option.some.inj h
    exact zr_reI (pc := 15) cx hr hlk hz dX6_whyNotCarry_15
  · replace h := zBr_t c2 h
    refine lv_iconst (pc := 10) hx hb dX6_whyNotCarry_10 zc_1 ?_
    refine lv_goto (pc := 11) (tgt := 15) hx hb dX6_whyNotCarry_11 (by decide) ?_
    have hz := Option.some.inj h
    exact zr_reI (pc := 15) cx hr hlk hz dX6_whyNotCarry_15
-- X0_liveCarry
abbrev rmX0_liveCarry : Room := { frames := 1, cells := 0, slots := 0, locals := 22 }
def fX0_liveCarry (S : zSt) (a0 : Nat) (v1 : Int32) (v2 : Int32) : Option (Int32 × zSt) :=
  zBd (fX6_whyNotCarry S a0 v1 v2) (fun r2 => zBr (r2 = 0) (zBd (fX6_carryTo S a0 v1 v2) (fun S5 => some ((0 : Int32), S5))) (some (((20 : Int32) + r2), S)))
set_option maxHeartbeats 4000000 in
set_option maxRecDepth 100000 in
theorem mX0_liveCarry {l : Launch} {D : va_G} {cy : Nat → ClassId} {q : Nat → Nat} {A : Nat → Prop} {S : zSt} {a0 : Nat} {v1 : Int32} {v2 : Int32} (hq : zQ A q zNC) (ha0 : zLife a0) {z : (Int32 × zSt)} (h : fX0_liveCarry S a0 v1 v2 = some z) : zMq l yX0_liveCarry cX0_liveCarry 4 (some .int) rmX0_liveCarry [.ref (q a0), .int v1, .int v2] zsh zNC D cy q A S z := by
  refine Met.ofW (cc := cX0_liveCarry) (maxL := 4) (ret := (some .int)) (by decide) rfl ?_
  intro p e s m args below meth c s₁ B hml hv
  obtain ⟨rfl, hP, hK⟩ := hv
  have cx : zX RX0 cX0_liveCarry 4 p s m ([.ref (q a0), .int v1, .int v2]).toArray c D cy := ⟨B.exec, B.bytes, hml, findClass_of_methodNamed B.named, fun w hw => atoms_spec (ws := Cond.code yX0_liveCarry cX0_liveCarry 4 (some .int) :: zTB) B.pre w (List.mem_cons_of_mem _ hw), hK⟩
  have hx := cx.1
  have hb := cx.2.1
  have hr := B.returns
  have hlk := B.notSynchronized
  have hS : va_S A s.heap s.heap [] := va_S.rf
  have hl := lv_entry ([.ref (q a0), .int v1, .int v2]) (n := 4) (Nat.le_of_ble_eq_true rfl)
  rw [lg_entry_eq]
  generalize (lg_sl ([.ref (q a0), .int v1, .int v2]) ++ List.replicate (4 - (lg_sl ([.ref (q a0), .int v1, .int v2])).length) Slot.unset).toArray = ls at hl ⊢
  have hl : lv_has ls 4 [(0, .ref (q a0)), (1, .int v1), (2, .int v2)] := hl
  unfold fX0_liveCarry at h
  refine lv_aload_n (pc := 0) hx hb dX0_liveCarry_0 rfl (lv_at hl 0 rfl) ?_
  refine lv_iload_n (pc := 1) hx hb dX0_liveCarry_1 rfl (lv_at hl 1 rfl) ?_
  refine lv_iload_n (pc := 2) hx hb dX0_liveCarry_2 rfl (lv_at hl 2 rfl) ?_
  obtain ⟨r2, k1, h⟩ := zBd_e h
  refine zr_VI (pc := 3) (rest := []) cx cv_X0_142 (mX6_whyNotCarry ha0 k1) ⟨⟨rfl, rfl⟩, Nat.le_of_ble_eq_true rfl, Nat.le_of_ble_eq_true rfl⟩ ⟨Nat.le_of_ble_eq_true rfl, Nat.le_of_ble_eq_true rfl⟩ hP (nX6_0 ha0) (sX6_0 ha0) rfl hl.1 rfl rfl (Nat.le_of_ble_eq_true rfl) dX0_liveCarry_3 ?_
  refine lv_istore_n (lv' := [(3, .int r2), (0, .ref (q a0)), (1, .int v1), (2, .int v2)]) (pc := 6) hx hb dX0_liveCarry_6 rfl hl (by decide) rfl (fun ls hl => ?_)
  refine lv_iload_n (pc := 7) hx hb dX0_liveCarry_7 rfl (lv_at hl 0 rfl) ?_
  refine lv_if_eq (pc := 8) (tgt := 16) hx hb dX0_liveCarry_8 (by decide) (fun c3 => ?_) (fun c3 => ?_)
  · replace h := zBr_t c3 h
    refine lv_aload_n (pc := 16) hx hb dX0_liveCarry_16 rfl (lv_at hl 1 rfl) ?_
    refine lv_iload_n (pc := 17) hx hb dX0_liveCarry_17 rfl (lv_at hl 2 rfl) ?_
    refine lv_iload_n (pc := 18) hx hb dX0_liveCarry_18 rfl (lv_at hl 3 rfl) ?_
    obtain ⟨S5, k4, h⟩ := zBd_e h
    refine zr_VV (pc := 19) (rest := []) cx cv_X0_145 (mX6_carryTo hq ha0 k4) ⟨⟨rfl, rfl⟩, Nat.le_of_ble_eq_true rfl, Nat.le_of_ble_eq_true rfl⟩ ⟨Nat.le_of_ble_eq_true rfl, Nat.le_of_ble_eq_true rfl⟩ hP hS (nX6_0 ha0) (sX6_0 ha0) rfl hl.1 rfl rfl (Nat.le_of_ble_eq_true rfl) dX0_liveCarry_19 (fun H locs hP hS => ?_)
    refine lv_iconst (pc := 22) hx hb dX0_liveCarry_22 zc_0 ?_
    have hz := Option.some.inj h
    exact zr_rqI (pc := 23) cx hr hlk hP hS hz dX0_liveCarry_23
  · replace h := zBr_f c3 h
    refine lv_bipush (pc := 11) hx hb dX0_liveCarry_11 zb_20 ?_
    refine lv_iload_n (pc := 13) hx hb dX0_liveCarry_13 rfl (lv_at hl 0 rfl) ?_
    refine lv_iadd (pc := 14) hx hb dX0_liveCarry_14 ?_
    have hz := Option.some.inj h
    exact zr_rqI (pc := 15) cx hr hlk hP hS hz dX0_liveCarry_15
-- X6_daysLeft
abbrev rmX6_daysLeft : Room := { frames := 0, cells := 0, slots := 0, locals := 0 }
def fX6_daysLeft (S : zSt) (a0 : Nat) : Option Int32 :=
  some ((400 : Int32) - (S.1 a0 1))
set_option maxHeartbeats 4000000 in
set_option maxRecDepth 100000 in
theorem mX6_daysLeft {l : Launch} {D : va_G} {cy : Nat → ClassId} {q : Nat → Nat} {S : zSt} {a0 : Nat} (ha0 : zLife a0) {z : Int32} (h : fX6_daysLeft S a0 = some z) : zMi l yX6_daysLeft cX6_daysLeft 1 (some .int) rmX6_daysLeft [.ref (q a0)] (zPr zsh zNC D cy q S) z := by
  refine Met.ofW (cc := cX6_daysLeft) (maxL := 1) (ret := (some .int)) (by decide) rfl ?_
  intro p e s m args below meth c s₁ B hml hv
  obtain ⟨rfl, hP, hK⟩ := hv
  have cx : zX RX6 cX6_daysLeft 1 p s m ([.ref (q a0)]).toArray c D cy := ⟨B.exec, B.bytes, hml, findClass_of_methodNamed B.named, fun w hw => atoms_spec (ws := Cond.code yX6_daysLeft cX6_daysLeft 1 (some .int) :: zTB) B.pre w (List.mem_cons_of_mem _ hw), hK⟩
  have hx := cx.1
  have hb := cx.2.1
  have hr := B.returns
  have hlk := B.notSynchronized
  have hl := lv_entry ([.ref (q a0)]) (n := 1) (Nat.le_of_ble_eq_true rfl)
  rw [lg_entry_eq]
  generalize (lg_sl ([.ref (q a0)]) ++ List.replicate (1 - (lg_sl ([.ref (q a0)])).length) Slot.unset).toArray = ls at hl ⊢
  have hl : lv_has ls 1 [(0, .ref (q a0))] := hl
  unfold fX6_daysLeft at h
  refine lv_sipush (pc := 0) hx hb dX6_daysLeft_0 zs_400 ?_
  refine lv_aload_n (pc := 3) hx hb dX6_daysLeft_3 rfl (lv_at hl 0 rfl) ?_
  refine zr_getI (pc := 4) cx lk_X6_42 hP (nX6_0 ha0) (sX6_0 ha0) rfl dX6_daysLeft_4 ?_
  refine lv_isub (pc := 7) hx hb dX6_daysLeft_7 ?_
  have hz := Option.some.inj h
  exact zr_reI (pc := 8) cx hr hlk hz dX6_daysLeft_8
-- X6_plants
abbrev rmX6_plants : Room := { frames := 0, cells := 0, slots := 0, locals := 0 }
def fX6_plants (S : zSt) (a0 : Nat) : Option Int32 :=
  zGd (zIx (1 : Int32) 4) (some (S.1 ((zHs a0) + 1) (1 : Int32).toNatClampNeg))
set_option maxHeartbeats 4000000 in
set_option maxRecDepth 100000 in
theorem mX6_plants {l : Launch} {D : va_G} {cy : Nat → ClassId} {q : Nat → Nat} {S : zSt} {a0 : Nat} (ha0 : zLife a0) {z : Int32} (h : fX6_plants S a0 = some z) : zMi l yX6_plants cX6_plants 1 (some .int) rmX6_plants [.ref (q a0)] (zPr zsh zNC D cy q S) z := by
  refine Met.ofW (cc := cX6_plants) (maxL := 1) (ret := (some .int)) (by decide) rfl ?_
  intro p e s m args below meth c s₁ B hml hv
  obtain ⟨rfl, hP, hK⟩ := hv
  have cx : zX RX6 cX6_plants 1 p s m ([.ref (q a0)]).toArray c D cy := ⟨B.exec, B.bytes, hml, findClass_of_methodNamed B.named, fun w hw => atoms_spec (ws := Cond.code yX6_plants cX6_plants 1 (some .int) :: zTB) B.pre w (List.mem_cons_of_mem _ hw), hK⟩
  have hx := cx.1
  have hb := cx.2.1
  have hr := B.returns
  have hlk := B.notSynchronized
  have hl := lv_entry ([.ref (q a0)]) (n := 1) (Nat.le_of_ble_eq_true rfl)
  rw [lg_entry_eq]
  generalize (lg_sl ([.ref (q a0)]) ++ List.replicate (1 - (lg_sl ([.ref (q a0)])).length) Slot.unset).toArray = ls at hl ⊢
  have hl : lv_has ls 1 [(0, .ref (q a0))] := hl
  unfold fX6_plants at h
  refine lv_aload_n (pc := 0) hx hb dX6_plants_0 rfl (lv_at hl 0 rfl) ?_
  refine zr_getR (pc := 1) (t := (zHs a0)) cx lk_X6_38 hP (nX6_0 ha0) (sX6_0 ha0) rfl dX6_plants_1 ?_
  refine zr_getR (pc := 4) (t := ((zHs a0) + 1)) cx lk_X6_60 hP (nX3_0 (zHs_ok ha0)) (sX3_0 (zHs_ok ha0)) rfl dX6_plants_4 ?_
  refine lv_iconst (pc := 7) hx hb dX6_plants_7 zc_1 ?_
  obtain ⟨g1, h⟩ := zGd_e h
  refine zr_iald (pc := 8) cx hP (nX3_1 (zHs_ok ha0)) (sX3_1 (zHs_ok ha0)) g1 dX6_plants_8 ?_
  have hz := Option.some.inj h
  exact zr_reI (pc := 9) cx hr hlk hz dX6_plants_9
-- X6_goDays
abbrev rmX6_goDays : Room := { frames := 1, cells := 0, slots := 0, locals := 21 }
def fX6_goDays_21 (a0 : Nat) (v2 : Int32) (t : (zSt × Int32)) : Option ((zSt × Int32) ⊕ (Int32 × zSt)) :=
  match t with
  | (S, v3) => zBd (fX6_plants S a0) (fun r6 => zBr (r6 ≤ v3) (zXr (some (v2, S))) (zGd (zIx v3 6) (zGd (zIx v3 6) (zLt (zI S (a0 + 14) v3.toNatClampNeg (if ((S.1 (a0 + 14) v3.toNatClampNeg) + v2) < (99 : Int32) then ((S.1 (a0 + 14) v3.toNatClampNeg) + v2) else (99 : Int32))) (fun S11 => zLt (v3 + (1 : Int32)) (fun x12 => some (.inl (S11, x12))))))))
set_option maxHeartbeats 4000000 in
set_option maxRecDepth 100000 in
theorem kX6_goDays_21B {p : Program} {l : Launch} {e : Env} {s : State} {m : MethodId} {args : Array Value} {below : List Frame} {meth : Method} {c : Code} {D : va_G} {cy : Nat → ClassId} {q : Nat → Nat} {A : Nat → Prop} (cx : zX RX6 cX6_goDays 4 p s m args c D cy) (hr : meth.sig.returnType = (some .int)) (hlk : meth.locks = false) (hq : zQ A q zNC) {a0 : Nat} (ha0 : zLife a0) {z : (Int32 × zSt)} {S : zSt} {v2 : Int32} {v3 : Int32} {C1 : ((zSt × Int32) ⊕ (Int32 × zSt)) → Prop} (hb1 : ∀ (S : zSt) (v3 : Int32), C1 (.inl (S, v3)) → ∀ (H : Heap) (locs : List Loc), va_P D vwCl (zW zsh zNC cy q S) H → va_S A s.heap H locs → ∀ (ls : Array Slot), lv_has ls 4 [(0, .ref (q a0)), (2, .int v2), (3, .int v3)] → W p l e rmX6_goDays s m args below meth c H locs 0 0 (MQ below (va_Qi (fun (r : Int32) (u : zSt) => (r, u) = z) (fun u t => va_P D vwCl (zW zsh zNC cy q u) t.heap) A) args s 0 0 A) (F0 m 21 ls [])) (hx1 : ∀ a, C1 (.inr a) → a = z) {x : ((zSt × Int32) ⊕ (Int32 × zSt))} (h : fX6_goDays_21 a0 v2 (S, v3) = some x) (hc : C1 x) {H : Heap} {locs : List Loc} (hP : va_P D vwCl (zW zsh zNC cy q S) H) (hS : va_S A s.heap H locs) {ls : Array Slot} (hl : lv_has ls 4 [(0, .ref (q a0)), (2, .int v2), (3, .int v3)]) : W p l e rmX6_goDays s m args below meth c H locs 0 0 (MQ below (va_Qi (fun (r : Int32) (u : zSt) => (r, u) = z) (fun u t => va_P D vwCl (zW zsh zNC cy q u) t.heap) A) args s 0 0 A) (F0 m 21 ls []) := by
  have hx := cx.1
  have hb := cx.2.1
  unfold fX6_goDays_21 at h
  dsimp only at h
  refine lv_iload_n (pc := 21) hx hb dX6_goDays_21 rfl (lv_at hl 2 rfl) ?_
  refine lv_aload_n (pc := 22) hx hb dX6_goDays_22 rfl (lv_at hl 0 rfl) ?_
  obtain ⟨r6, k5, h⟩ := zBd_e h
  refine zr_VI (pc := 23) (rest := [.int v3]) cx cv_X6_86 (mX6_plants ha0 k5) ⟨⟨rfl, rfl⟩, Nat.le_of_ble_eq_true rfl, Nat.le_of_ble_eq_true rfl⟩ ⟨Nat.le_of_ble_eq_true rfl, Nat.le_of_ble_eq_true rfl⟩ hP (nX6_0 ha0) (sX6_0 ha0) rfl hl.1 rfl rfl (Nat.le_of_ble_eq_true rfl) dX6_goDays_23 ?_
  refine lv_icmp_ge (pc := 26) (tgt := 54) hx hb dX6_goDays_26 (by decide) (fun c7 => ?_) (fun c7 => ?_)
  · replace h := zBr_t c7 h
    obtain ⟨y8, h, ex⟩ := zXr_e h
    have hc := hx1 y8 (by rw [ex] at hc; exact hc)
    rw [hc] at h
    refine lv_iload_n (pc := 54) hx hb dX6_goDays_54 rfl (lv_at hl 1 rfl) ?_
    have hz := Option.some.inj h
    exact zr_rqI (pc := 55) cx hr hlk hP hS hz dX6_goDays_55
  · replace h := zBr_f c7 h
    refine lv_aload_n (pc := 29) hx hb dX6_goDays_29 rfl (lv_at hl 0 rfl) ?_
    refine zr_getR (pc := 30) (t := (a0 + 14)) cx lk_X6_35 hP (nX6_0 ha0) (sX6_0 ha0) rfl dX6_goDays_30 ?_
    refine lv_iload_n (pc := 33) hx hb dX6_goDays_33 rfl (lv_at hl 2 rfl) ?_
    refine lv_bipush (pc := 34) hx hb dX6_goDays_34 zb_99 ?_
    refine lv_aload_n (pc := 36) hx hb dX6_goDays_36 rfl (lv_at hl 0 rfl) ?_
    refine zr_getR (pc := 37) (t := (a0 + 14)) cx lk_X6_35 hP (nX6_0 ha0) (sX6_0 ha0) rfl dX6_goDays_37 ?_
    refine lv_iload_n (pc := 40) hx hb dX6_goDays_40 rfl (lv_at hl 2 rfl) ?_
    obtain ⟨g9, h⟩ := zGd_e h
    refine zr_iald (pc := 41) cx hP (nX6_14 ha0) (sX6_14 ha0) g9 dX6_goDays_41 ?_
    refine lv_iload_n (pc := 42) hx hb dX6_goDays_42 rfl (lv_at hl 1 rfl) ?_
    refine lv_iadd (pc := 43) hx hb dX6_goDays_43 ?_
    refine zr_min (pc := 44) cx lb_X6_103 ⟨Nat.le_of_ble_eq_true rfl, Nat.le_of_ble_eq_true rfl, Nat.le_of_ble_eq_true rfl, Nat.le_of_ble_eq_true rfl⟩ hl.1 dX6_goDays_44 ?_
    obtain ⟨g10, h⟩ := zGd_e h
    obtain ⟨S11, eS11, h⟩ := zLt_e h
    refine zr_iast (pc := 47) cx hq hP hS (nX6_14 ha0) (sX6_14 ha0) g10 dX6_goDays_47 (fun H locs hP hS => ?_)
    rw [← eS11] at hP
    obtain ⟨x12, ex12, h⟩ := zLt_e h
    refine lv_iinc (v := x12) (lv' := [(3, .int x12), (0, .ref (q a0)), (2, .int v2)]) (pc := 48) hx hb dX6_goDays_48 hl (k := 2) rfl (by rw [zc_1]; exact ex12.symm) (by decide) rfl (fun ls hl => ?_)
    refine lv_goto (pc := 51) (tgt := 21) hx hb dX6_goDays_51 (by decide) ?_
    cases h
    exact hb1 _ _ hc _ _ hP hS _ (lv_sub hl [1, 2, 0] rfl)
set_option maxHeartbeats 4000000 in
set_option maxRecDepth 100000 in
theorem kX6_goDays_21 {p : Program} {l : Launch} {e : Env} {s : State} {m : MethodId} {args : Array Value} {below : List Frame} {meth : Method} {c : Code} {D : va_G} {cy : Nat → ClassId} {q : Nat → Nat} {A : Nat → Prop} (cx : zX RX6 cX6_goDays 4 p s m args c D cy) (hr : meth.sig.returnType = (some .int)) (hlk : meth.locks = false) (hq : zQ A q zNC) {a0 : Nat} (ha0 : zLife a0) {z : (Int32 × zSt)} {v2 : Int32} : ∀ (n : Nat) (S : zSt) (v3 : Int32), zLp (fX6_goDays_21 a0 v2) n (S, v3) = some z → ∀ (H : Heap) (locs : List Loc), va_P D vwCl (zW zsh zNC cy q S) H → va_S A s.heap H locs → ∀ (ls : Array Slot), lv_has ls 4 [(0, .ref (q a0)), (2, .int v2), (3, .int v3)] → W p l e rmX6_goDays s m args below meth c H locs 0 0 (MQ below (va_Qi (fun (r : Int32) (u : zSt) => (r, u) = z) (fun u t => va_P D vwCl (zW zsh zNC cy q u) t.heap) A) args s 0 0 A) (F0 m 21 ls []) := by
  intro n
  induction n with
  | zero =>
    intro S v3 h
    cases h
  | succ n ih =>
    intro S v3 h H locs hP hS ls hl
    obtain ⟨x, h, hk⟩ := zLp_e h
    exact kX6_goDays_21B cx hr hlk hq ha0  (C1 := zKt (fun t => zLp (fX6_goDays_21 a0 v2) n t = some z) (fun a => a = z)) (fun S v3 ht H locs hP hS ls hl => ih S v3 ht H locs hP hS ls hl) (fun a ha => ha) h hk hP hS hl
def fX6_goDays (S : zSt) (a0 : Nat) (v1 : Int32) : Option (Int32 × zSt) :=
  zBd (fX6_daysLeft S a0) (fun r2 => zLt (if r2 < v1 then r2 else v1) (fun x3 => zLt (zI S a0 1 ((S.1 a0 1) + x3)) (fun S4 => zLp (fX6_goDays_21 a0 x3) 2000 (S4, (0 : Int32)))))
set_option maxHeartbeats 4000000 in
set_option maxRecDepth 100000 in
theorem mX6_goDays {l : Launch} {D : va_G} {cy : Nat → ClassId} {q : Nat → Nat} {A : Nat → Prop} {S : zSt} {a0 : Nat} {v1 : Int32} (hq : zQ A q zNC) (ha0 : zLife a0) {z : (Int32 × zSt)} (h : fX6_goDays S a0 v1 = some z) : zMq l yX6_goDays cX6_goDays 4 (some .int) rmX6_goDays [.ref (q a0), .int v1] zsh zNC D cy q A S z := by
  refine Met.ofW (cc := cX6_goDays) (maxL := 4) (ret := (some .int)) (by decide) rfl ?_
  intro p e s m args below meth c s₁ B hml hv
  obtain ⟨rfl, hP, hK⟩ := hv
  have cx : zX RX6 cX6_goDays 4 p s m ([.ref (q a0), .int v1]).toArray c D cy := ⟨B.exec, B.bytes, hml, findClass_of_methodNamed B.named, fun w hw => atoms_spec (ws := Cond.code yX6_goDays cX6_goDays 4 (some .int) :: zTB) B.pre w (List.mem_cons_of_mem _ hw), hK⟩
  have hx := cx.1
  have hb := cx.2.1
  have hr := B.returns
  have hlk := B.notSynchronized
  have hS : va_S A s.heap s.heap [] := va_S.rf
  have hl := lv_entry ([.ref (q a0), .int v1]) (n := 4) (Nat.le_of_ble_eq_true rfl)
  rw [lg_entry_eq]
  generalize (lg_sl ([.ref (q a0), .int v1]) ++ List.replicate (4 - (lg_sl ([.ref (q a0), .int v1])).length) Slot.unset).toArray = ls at hl ⊢
  have hl : lv_has ls 4 [(0, .ref (q a0)), (1, .int v1)] := hl
  unfold fX6_goDays at h
  refine lv_iload_n (pc := 0) hx hb dX6_goDays_0 rfl (lv_at hl 1 rfl) ?_
  refine lv_aload_n (pc := 1) hx hb dX6_goDays_1 rfl (lv_at hl 0 rfl) ?_
  obtain ⟨r2, k1, h⟩ := zBd_e h
  refine zr_VI (pc := 2) (rest := [.int v1]) cx cv_X6_100 (mX6_daysLeft ha0 k1) ⟨⟨rfl, rfl⟩, Nat.le_of_ble_eq_true rfl, Nat.le_of_ble_eq_true rfl⟩ ⟨Nat.le_of_ble_eq_true rfl, Nat.le_of_ble_eq_true rfl⟩ hP (nX6_0 ha0) (sX6_0 ha0) rfl hl.1 rfl rfl (Nat.le_of_ble_eq_true rfl) dX6_goDays_2 ?_
  refine zr_min (pc := 5) cx lb_X6_103 ⟨Nat.le_of_ble_eq_true rfl, Nat.le_of_ble_eq_true rfl, Nat.le_of_ble_eq_true rfl, Nat.le_of_ble_eq_true rfl⟩ hl.1 dX6_goDays_5 ?_
  obtain ⟨x3, ex3, h⟩ := zLt_e h
  refine zr_nmI ex3 ?_
  refine lv_istore_n (lv' := [(2, .int x3), (0, .ref (q a0)), (1, .int v1)]) (pc := 8) hx hb dX6_goDays_8 rfl hl (by decide) rfl (fun ls hl => ?_)
  refine lv_aload_n (pc := 9) hx hb dX6_goDays_9 rfl (lv_at hl 1 rfl) ?_
  refine lv_dup (pc := 10) hx hb dX6_goDays_10 rfl ?_
  refine zr_getI (pc := 11) cx lk_X6_42 hP (nX6_0 ha0) (sX6_0 ha0) rfl dX6_goDays_11 ?_
  refine lv_iload_n (pc := 14) hx hb dX6_goDays_14 rfl (lv_at hl 0 rfl) ?_
  refine lv_iadd (pc := 15) hx hb dX6_goDays_15 ?_
  obtain ⟨S4, eS4, h⟩ := zLt_e h
  refine zr_putI (pc := 16) cx lq_X6_42 hq hP hS (nX6_0 ha0) (sX6_0 ha0) rfl rfl rfl dX6_goDays_16 (fun H locs hP hS => ?_)
  rw [← eS4] at hP
  refine lv_iconst (pc := 19) hx hb dX6_goDays_19 zc_0 ?_
  refine lv_istore_n (lv' := [(3, .int (0 : Int32)), (2, .int x3), (0, .ref (q a0)), (1, .int v1)]) (pc := 20) hx hb dX6_goDays_20 rfl hl (by decide) rfl (fun ls hl => ?_)
  exact kX6_goDays_21 cx hr hlk hq ha0 2000 _ _ h _ _ hP hS _ (lv_sub hl [2, 1, 0] rfl)
-- X0_liveDay
abbrev rmX0_liveDay : Room := { frames := 2, cells := 0, slots := 0, locals := 44 }
def fX0_liveDay (S : zSt) (a0 : Nat) (v1 : Int32) : Option (Int32 × zSt) :=
  zBd (fX6_daysLeft S a0) (fun r2 => zBr (v1 ≤ r2) (zBp (fX6_goDays S a0 v1) (fun r6 S5 => some ((0 : Int32), S5))) (some ((31 : Int32), S)))
set_option maxHeartbeats 4000000 in
set_option maxRecDepth 100000 in
theorem mX0_liveDay {l : Launch} {D : va_G} {cy : Nat → ClassId} {q : Nat → Nat} {A : Nat → Prop} {S : zSt} {a0 : Nat} {v1 : Int32} (hq : zQ A q zNC) (ha0 : zLife a0) {z : (Int32 × zSt)} (h : fX0_liveDay S a0 v1 = some z) : zMq l yX0_liveDay cX0_liveDay 2 (some .int) rmX0_liveDay [.ref (q a0), .int v1] zsh zNC D cy q A S z := by
  refine Met.ofW (cc := cX0_liveDay) (maxL := 2) (ret := (some .int)) (by decide) rfl ?_
  intro p e s m args below meth c s₁ B hml hv
  obtain ⟨rfl, hP, hK⟩ := hv
  have cx : zX RX0 cX0_liveDay 2 p s m ([.ref (q a0), .int v1]).toArray c D cy := ⟨B.exec, B.bytes, hml, findClass_of_methodNamed B.named, fun w hw => atoms_spec (ws := Cond.code yX0_liveDay cX0_liveDay 2 (some .int) :: zTB) B.pre w (List.mem_cons_of_mem _ hw), hK⟩
  have hx := cx.1
  have hb := cx.2.1
  have hr := B.returns
  have hlk := B.notSynchronized
  have hS : va_S A s.heap s.heap [] := va_S.rf
  have hl := lv_entry ([.ref (q a0), .int v1]) (n := 2) (Nat.le_of_ble_eq_true rfl)
  rw [lg_entry_eq]
  generalize (lg_sl ([.ref (q a0), .int v1]) ++ List.replicate (2 - (lg_sl ([.ref (q a0), .int v1])).length) Slot.unset).toArray = ls at hl ⊢
  have hl : lv_has ls 2 [(0, .ref (q a0)), (1, .int v1)] := hl
  unfold fX0_liveDay at h
  refine lv_iload_n (pc := 0) hx hb dX0_liveDay_0 rfl (lv_at hl 1 rfl) ?_
  refine lv_aload_n (pc := 1) hx hb dX0_liveDay_1 rfl (lv_at hl 0 rfl) ?_
  obtain ⟨r2, k1, h⟩ := zBd_e h
  refine zr_VI (pc := 2) (rest := [.int v1]) cx cv_X0_149 (mX6_daysLeft ha0 k1) ⟨⟨rfl, rfl⟩, Nat.le_of_ble_eq_true rfl, Nat.le_of_ble_eq_true rfl⟩ ⟨Nat.le_of_ble_eq_true rfl, Nat.le_of_ble_eq_true rfl⟩ hP (nX6_0 ha0) (sX6_0 ha0) rfl hl.1 rfl rfl (Nat.le_of_ble_eq_true rfl) dX0_liveDay_2 ?_
  refine lv_icmp_le (pc := 5) (tgt := 11) hx hb dX0_liveDay_5 (by decide) (fun c3 => ?_) (fun c3 => ?_)
  · replace h := zBr_t c3 h
    refine lv_aload_n (pc := 11) hx hb dX0_liveDay_11 rfl (lv_at hl 0 rfl) ?_
    refine lv_iload_n (pc := 12) hx hb dX0_liveDay_12 rfl (lv_at hl 1 rfl) ?_
    obtain ⟨r6, S5, k4, h⟩ := zBp_e h
    refine zr_VQ (pc := 13) (rest := []) cx cv_X0_152 (mX6_goDays hq ha0 k4) ⟨⟨rfl, rfl⟩, Nat.le_of_ble_eq_true rfl, Nat.le_of_ble_eq_true rfl⟩ ⟨Nat.le_of_ble_eq_true rfl, Nat.le_of_ble_eq_true rfl⟩ hP hS (nX6_0 ha0) (sX6_0 ha0) rfl hl.1 rfl rfl (Nat.le_of_ble_eq_true rfl) dX0_liveDay_13 (fun H locs hP hS => ?_)
    refine lv_pop (pc := 16) hx hb dX0_liveDay_16 rfl ?_
    refine lv_iconst (pc := 17) hx hb dX0_liveDay_17 zc_0 ?_
    have hz := Option.some.inj h
    exact zr_rqI (pc := 18) cx hr hlk hP hS hz dX0_liveDay_18
  · replace h := zBr_f c3 h
    refine lv_bipush (pc := 8) hx hb dX0_liveDay_8 zb_31 ?_
    have hz := Option.some.inj h
    exact zr_rqI (pc := 10) cx hr hlk hP hS hz dX0_liveDay_10
-- X11_hasBit
abbrev rmX11_hasBit : Room := { frames := 0, cells := 0, slots := 0, locals := 0 }
def fX11_hasBit (v0 : Int32) (v1 : Int32) : Option Int32 :=
  zBr (((zUsh v0 v1) &&& (1 : Int32)) = (1 : Int32)) (some (1 : Int32)) (some (0 : Int32))
set_option maxHeartbeats 4000000 in
set_option maxRecDepth 100000 in
theorem mX11_hasBit {l : Launch} {D : va_G} {cy : Nat → ClassId} {v0 : Int32} {v1 : Int32} {z : Int32} (h : fX11_hasBit v0 v1 = some z) : zMi l yX11_hasBit cX11_hasBit 2 (some .boolean) rmX11_hasBit [.int v0, .int v1] (zPk D cy) z := by
  refine Met.ofW (cc := cX11_hasBit) (maxL := 2) (ret := (some .boolean)) (by decide) rfl ?_
  intro p e s m args below meth c s₁ B hml hv
  obtain ⟨rfl, hK⟩ := hv
  have cx : zX RX11 cX11_hasBit 2 p s m ([.int v0, .int v1]).toArray c D cy := ⟨B.exec, B.bytes, hml, findClass_of_methodNamed B.named, fun w hw => atoms_spec (ws := Cond.code yX11_hasBit cX11_hasBit 2 (some .boolean) :: zTB) B.pre w (List.mem_cons_of_mem _ hw), hK⟩
  have hx := cx.1
  have hb := cx.2.1
  have hr := B.returns
  have hlk := B.notSynchronized
  have hl := lv_entry ([.int v0, .int v1]) (n := 2) (Nat.le_of_ble_eq_true rfl)
  rw [lg_entry_eq]
  generalize (lg_sl ([.int v0, .int v1]) ++ List.replicate (2 - (lg_sl ([.int v0, .int v1])).length) Slot.unset).toArray = ls at hl ⊢
  have hl : lv_has ls 2 [(0, .int v0), (1, .int v1)] := hl
  unfold fX11_hasBit at h
  refine lv_iload_n (pc := 0) hx hb dX11_hasBit_0 rfl (lv_at hl 0 rfl) ?_
  refine lv_iload_n (pc := 1) hx hb dX11_hasBit_1 rfl (lv_at hl 1 rfl) ?_
  refine lv_iushr (v := (zUsh v0 v1)) (pc := 2) hx hb dX11_hasBit_2 rfl ?_
  refine lv_iconst (pc := 3) hx hb dX11_hasBit_3 zc_1 ?_
  refine lv_iand (pc := 4) hx hb dX11_hasBit_4 ?_
  refine lv_iconst (pc := 5) hx hb dX11_hasBit_5 zc_1 ?_
  refine lv_icmp_ne (pc := 6) (tgt := 13) hx hb dX11_hasBit_6 (by decide) (fun c1 => ?_) (fun c1 => ?_)
  · replace h := zBr_f c1 h
    refine lv_iconst (pc := 13) hx hb dX11_hasBit_13 zc_0 ?_
    have hz := Option.some.inj h
    exact zr_reZ (pc := 14) cx hr hlk hz (by decide) dX11_hasBit_14
  · replace h := zBr_t c1 h
    refine lv_iconst (pc := 9) hx hb dX11_hasBit_9 zc_1 ?_
    refine lv_goto (pc := 10) (tgt := 14) hx hb dX11_hasBit_10 (by decide) ?_
    have hz := Option.some.inj h
    exact zr_reZ (pc := 14) cx hr hlk hz (by decide) dX11_hasBit_14
-- X6_nextLeafDay
abbrev rmX6_nextLeafDay : Room := { frames := 1, cells := 0, slots := 0, locals := 21 }
def fX6_nextLeafDay (S : zSt) (a0 : Nat) (v1 : Int32) : Option Int32 :=
  zGd (zIx v1 6) (zGd (zIx v1 6) (some ((if (S.1 a0 1) < (S.1 (a0 + 12) v1.toNatClampNeg) then (S.1 (a0 + 12) v1.toNatClampNeg) else (S.1 a0 1)) + (S.1 ((zHs a0) + 4) v1.toNatClampNeg))))
set_option maxHeartbeats 4000000 in
set_option maxRecDepth 100000 in
theorem mX6_nextLeafDay {l : Launch} {D : va_G} {cy : Nat → ClassId} {q : Nat → Nat} {S : zSt} {a0 : Nat} {v1 : Int32} (ha0 : zLife a0) {z : Int32} (h : fX6_nextLeafDay S a0 v1 = some z) : zMi l yX6_nextLeafDay cX6_nextLeafDay 2 (some .int) rmX6_nextLeafDay [.ref (q a0), .int v1] (zPr zsh zNC D cy q S) z := by
  refine Met.ofW (cc := cX6_nextLeafDay) (maxL := 2) (ret := (some .int)) (by decide) rfl ?_
  intro p e s m args below meth c s₁ B hml hv
  obtain ⟨rfl, hP, hK⟩ := hv
  have cx : zX RX6 cX6_nextLeafDay 2 p s m ([.ref (q a0), .int v1]).toArray c D cy := ⟨B.exec, B.bytes, hml, findClass_of_methodNamed B.named, fun w hw => atoms_spec (ws := Cond.code yX6_nextLeafDay cX6_nextLeafDay 2 (some .int) :: zTB) B.pre w (List.mem_cons_of_mem _ hw), hK⟩
  have hx := cx.1
  have hb := cx.2.1
  have hr := B.returns
  have hlk := B.notSynchronized
  have hl := lv_entry ([.ref (q a0), .int v1]) (n := 2) (Nat.le_of_ble_eq_true rfl)
  rw [lg_entry_eq]
  generalize (lg_sl ([.ref (q a0), .int v1]) ++ List.replicate (2 - (lg_sl ([.ref (q a0), .int v1])).length) Slot.unset).toArray = ls at hl ⊢
  have hl : lv_has ls 2 [(0, .ref (q a0)), (1, .int v1)] := hl
  unfold fX6_nextLeafDay at h
  refine lv_aload_n (pc := 0) hx hb dX6_nextLeafDay_0 rfl (lv_at hl 0 rfl) ?_
  refine zr_getI (pc := 1) cx lk_X6_42 hP (nX6_0 ha0) (sX6_0 ha0) rfl dX6_nextLeafDay_1 ?_
  refine lv_aload_n (pc := 4) hx hb dX6_nextLeafDay_4 rfl (lv_at hl 0 rfl) ?_
  refine zr_getR (pc := 5) (t := (a0 + 12)) cx lk_X6_29 hP (nX6_0 ha0) (sX6_0 ha0) rfl dX6_nextLeafDay_5 ?_
  refine lv_iload_n (pc := 8) hx hb dX6_nextLeafDay_8 rfl (lv_at hl 1 rfl) ?_
  obtain ⟨g1, h⟩ := zGd_e h
  refine zr_iald (pc := 9) cx hP (nX6_12 ha0) (sX6_12 ha0) g1 dX6_nextLeafDay_9 ?_
  refine zr_max (pc := 10) cx lb_X6_77 ⟨Nat.le_of_ble_eq_true rfl, Nat.le_of_ble_eq_true rfl, Nat.le_of_ble_eq_true rfl, Nat.le_of_ble_eq_true rfl⟩ hl.1 dX6_nextLeafDay_10 ?_
  refine lv_aload_n (pc := 13) hx hb dX6_nextLeafDay_13 rfl (lv_at hl 0 rfl) ?_
  refine zr_getR (pc := 14) (t := (zHs a0)) cx lk_X6_38 hP (nX6_0 ha0) (sX6_0 ha0) rfl dX6_nextLeafDay_14 ?_
  refine zr_getR (pc := 17) (t := ((zHs a0) + 4)) cx lk_X6_83 hP (nX3_0 (zHs_ok ha0)) (sX3_0 (zHs_ok ha0)) rfl dX6_nextLeafDay_17 ?_
  refine lv_iload_n (pc := 20) hx hb dX6_nextLeafDay_20 rfl (lv_at hl 1 rfl) ?_
  obtain ⟨g2, h⟩ := zGd_e h
  refine zr_iald (pc := 21) cx hP (nX3_4 (zHs_ok ha0)) (sX3_4 (zHs_ok ha0)) g2 dX6_nextLeafDay_21 ?_
  refine lv_iadd (pc := 22) hx hb dX6_nextLeafDay_22 ?_
  have hz := Option.some.inj h
  exact zr_reI (pc := 23) cx hr hlk hz dX6_nextLeafDay_23
-- X3_reach
abbrev rmX3_reach : Room := { frames := 0, cells := 0, slots := 0, locals := 0 }
def fX3_reach (S : zSt) (a0 : Nat) (v1 : Int32) : Option Int32 :=
  zGd (zIx v1 5) (some ((S.1 (a0 + 2) v1.toNatClampNeg) ||| ((1 : Int32) <<< (v1 &&& 31))))
set_option maxHeartbeats 4000000 in
set_option maxRecDepth 100000 in
theorem mX3_reach {l : Launch} {D : va_G} {cy : Nat → ClassId} {q : Nat → Nat} {S : zSt} {a0 : Nat} {v1 : Int32} (ha0 : zHouse a0) {z : Int32} (h : fX3_reach S a0 v1 = some z) : zMi l yX3_reach cX3_reach 2 (some .int) rmX3_reach [.ref (q a0), .int v1] (zPr zsh zNC D cy q S) z := by
  refine Met.ofW (cc := cX3_reach) (maxL := 2) (ret := (some .int)) (by decide) rfl ?_
  intro p e s m args below meth c s₁ B hml hv
  obtain ⟨rfl, hP, hK⟩ := hv
  have cx : zX RX3 cX3_reach 2 p s m ([.ref (q a0), .int v1]).toArray c D cy := ⟨B.exec, B.bytes, hml, findClass_of_methodNamed B.named, fun w hw => atoms_spec (ws := Cond.code yX3_reach cX3_reach 2 (some .int) :: zTB) B.pre w (List.mem_cons_of_mem _ hw), hK⟩
  have hx := cx.1
  have hb := cx.2.1
  have hr := B.returns
  have hlk := B.notSynchronized
  have hl := lv_entry ([.ref (q a0), .int v1]) (n := 2) (Nat.le_of_ble_eq_true rfl)
  rw [lg_entry_eq]
  generalize (lg_sl ([.ref (q a0), .int v1]) ++ List.replicate (2 - (lg_sl ([.ref (q a0), .int v1])).length) Slot.unset).toArray = ls at hl ⊢
  have hl : lv_has ls 2 [(0, .ref (q a0)), (1, .int v1)] := hl
  unfold fX3_reach at h
  refine lv_aload_n (pc := 0) hx hb dX3_reach_0 rfl (lv_at hl 0 rfl) ?_
  refine zr_getR (pc := 1) (t := (a0 + 2)) cx lk_X3_15 hP (nX3_0 ha0) (sX3_0 ha0) rfl dX3_reach_1 ?_
  refine lv_iload_n (pc := 4) hx hb dX3_reach_4 rfl (lv_at hl 1 rfl) ?_
  obtain ⟨g1, h⟩ := zGd_e h
  refine zr_iald (pc := 5) cx hP (nX3_2 ha0) (sX3_2 ha0) g1 dX3_reach_5 ?_
  refine lv_iconst (pc := 6) hx hb dX3_reach_6 zc_1 ?_
  refine lv_iload_n (pc := 7) hx hb dX3_reach_7 rfl (lv_at hl 1 rfl) ?_
  refine lv_ishl (pc := 8) hx hb dX3_reach_8 ?_
  refine lv_ior (pc := 9) hx hb dX3_reach_9 ?_
  have hz := Option.some.inj h
  exact zr_reI (pc := 10) cx hr hlk hz dX3_reach_10
-- X6_isBlind
abbrev rmX6_isBlind : Room := { frames := 0, cells := 0, slots := 0, locals := 0 }
def fX6_isBlind (S : zSt) (a0 : Nat) (v1 : Int32) : Option Int32 :=
  zGd (zIx v1 6) (zBr ((S.1 ((zHs a0) + 5) v1.toNatClampNeg) = (1 : Int32)) (some (1 : Int32)) (zGd (zIx v1 6) (zBr ((S.1 (a0 + 14) v1.toNatClampNeg) < (S.1 (zHs a0) 10)) (some (0 : Int32)) (some (1 : Int32)))))
set_option maxHeartbeats 4000000 in
set_option maxRecDepth 100000 in
theorem mX6_isBlind {l : Launch} {D : va_G} {cy : Nat → ClassId} {q : Nat → Nat} {S : zSt} {a0 : Nat} {v1 : Int32} (ha0 : zLife a0) {z : Int32} (h : fX6_isBlind S a0 v1 = some z) : zMi l yX6_isBlind cX6_isBlind 2 (some .boolean) rmX6_isBlind [.ref (q a0), .int v1] (zPr zsh zNC D cy q S) z := by
  refine Met.ofW (cc := cX6_isBlind) (maxL := 2) (ret := (some .boolean)) (by decide) rfl ?_
  intro p e s m args below meth c s₁ B hml hv
  obtain ⟨rfl, hP, hK⟩ := hv
  have cx : zX RX6 cX6_isBlind 2 p s m ([.ref (q a0), .int v1]).toArray c D cy := ⟨B.exec, B.bytes, hml, findClass_of_methodNamed B.named, fun w hw => atoms_spec (ws := Cond.code yX6_isBlind cX6_isBlind 2 (some .boolean) :: zTB) B.pre w (List.mem_cons_of_mem _ hw), hK⟩
  have hx := cx.1
  have hb := cx.2.1
  have hr := B.returns
  have hlk := B.notSynchronized
  have hl := lv_entry ([.ref (q a0), .int v1]) (n := 2) (Nat.le_of_ble_eq_true rfl)
  rw [lg_entry_eq]
  generalize (lg_sl ([.ref (q a0), .int v1]) ++ List.replicate (2 - (lg_sl ([.ref (q a0), .int v1])).length) Slot.unset).toArray = ls at hl ⊢
  have hl : lv_has ls 2 [(0, .ref (q a0)), (1, .int v1)] := hl
  unfold fX6_isBlind at h
  refine lv_aload_n (pc := 0) hx hb dX6_isBlind_0 rfl (lv_at hl 0 rfl) ?_
  refine zr_getR (pc := 1) (t := (zHs a0)) cx lk_X6_38 hP (nX6_0 ha0) (sX6_0 ha0) rfl dX6_isBlind_1 ?_
  refine zr_getR (pc := 4) (t := ((zHs a0) + 5)) cx lk_X6_63 hP (nX3_0 (zHs_ok ha0)) (sX3_0 (zHs_ok ha0)) rfl dX6_isBlind_4 ?_
  refine lv_iload_n (pc := 7) hx hb dX6_isBlind_7 rfl (lv_at hl 1 rfl) ?_
  obtain ⟨g1, h⟩ := zGd_e h
  refine zr_iald (pc := 8) cx hP (nX3_5 (zHs_ok ha0)) (sX3_5 (zHs_ok ha0)) g1 dX6_isBlind_8 ?_
  refine lv_iconst (pc := 9) hx hb dX6_isBlind_9 zc_1 ?_
  refine lv_icmp_eq (pc := 10) (tgt := 29) hx hb dX6_isBlind_10 (by decide) (fun c2 => ?_) (fun c2 => ?_)
  · replace h := zBr_t c2 h
    refine lv_iconst (pc := 29) hx hb dX6_isBlind_29 zc_1 ?_
    refine lv_goto (pc := 30) (tgt := 34) hx hb dX6_isBlind_30 (by decide) ?_
    have hz := Option.some.inj h
    exact zr_reZ (pc := 34) cx hr hlk hz (by decide) dX6_isBlind_34
  · replace h := zBr_f c2 h
    refine lv_aload_n (pc := 13) hx hb dX6_isBlind_13 rfl (lv_at hl 0 rfl) ?_
    refine zr_getR (pc := 14) (t := (a0 + 14)) cx lk_X6_35 hP (nX6_0 ha0) (sX6_0 ha0) rfl dX6_isBlind_14 ?_
    refine lv_iload_n (pc := 17) hx hb dX6_isBlind_17 rfl (lv_at hl 1 rfl) ?_
    obtain ⟨g3, h⟩ := zGd_e h
    refine zr_iald (pc := 18) cx hP (nX6_14 ha0) (sX6_14 ha0) g3 dX6_isBlind_18 ?_
    refine lv_aload_n (pc := 19) hx hb dX6_isBlind_19 rfl (lv_at hl 0 rfl) ?_
    refine zr_getR (pc := 20) (t := (zHs a0)) cx lk_X6_38 hP (nX6_0 ha0) (sX6_0 ha0) rfl dX6_isBlind_20 ?_
    refine zr_getI (pc := 23) cx lk_X6_66 hP (nX3_0 (zHs_ok ha0)) (sX3_0 (zHs_ok ha0)) rfl dX6_isBlind_23 ?_
    refine lv_icmp_lt (pc := 26) (tgt := 33) hx hb dX6_isBlind_26 (by decide) (fun c4 => ?_) (fun c4 => ?_)
    · replace h := zBr_t c4 h
      refine lv_iconst (pc := 33) hx hb dX6_isBlind_33 zc_0 ?_
      have hz := Option.some.inj h
      exact zr_reZ (pc := 34) cx hr hlk hz (by decide) dX6_isBlind_34
    · replace h := zBr_f c4 h
      refine lv_iconst (pc := 29) hx hb dX6_isBlind_29 zc_1 ?_
      refine lv_goto (pc := 30) (tgt := 34) hx hb dX6_isBlind_30 (by decide) ?_
      have hz := Option.some.inj h
      exact zr_reZ (pc := 34) cx hr hlk hz (by decide) dX6_isBlind_34
-- X6_seenBy
abbrev rmX6_seenBy : Room := { frames := 1, cells := 0, slots := 0, locals := 21 }
def fX6_seenBy (S : zSt) (a0 : Nat) (v1 : Int32) : Option Int32 :=
  zBd (fX6_isBlind S a0 v1) (fun r2 => zBr (r2 = 0) (zGd (zIx v1 6) (zBd (fX3_reach S (zHs a0) (S.1 (a0 + 13) v1.toNatClampNeg)) (fun r6 => some r6))) (some (0 : Int32)))
set_option maxHeartbeats 4000000 in
set_option maxRecDepth 100000 in
theorem mX6_seenBy {l : Launch} {D : va_G} {cy : Nat → ClassId} {q : Nat → Nat} {S : zSt} {a0 : Nat} {v1 : Int32} (ha0 : zLife a0) {z : Int32} (h : fX6_seenBy S a0 v1 = some z) : zMi l yX6_seenBy cX6_seenBy 2 (some .int) rmX6_seenBy [.ref (q a0), .int v1] (zPr zsh zNC D cy q S) z := by
  refine Met.ofW (cc := cX6_seenBy) (maxL := 2) (ret := (some .int)) (by decide) rfl ?_
  intro p e s m args below meth c s₁ B hml hv
  obtain ⟨rfl, hP, hK⟩ := hv
  have cx : zX RX6 cX6_seenBy 2 p s m ([.ref (q a0), .int v1]).toArray c D cy := ⟨B.exec, B.bytes, hml, findClass_of_methodNamed B.named, fun w hw => atoms_spec (ws := Cond.code yX6_seenBy cX6_seenBy 2 (some .int) :: zTB) B.pre w (List.mem_cons_of_mem _ hw), hK⟩
  have hx := cx.1
  have hb := cx.2.1
  have hr := B.returns
  have hlk := B.notSynchronized
  have hl := lv_entry ([.ref (q a0), .int v1]) (n := 2) (Nat.le_of_ble_eq_true rfl)
  rw [lg_entry_eq]
  generalize (lg_sl ([.ref (q a0), .int v1]) ++ List.replicate (2 - (lg_sl ([.ref (q a0), .int v1])).length) Slot.unset).toArray = ls at hl ⊢
  have hl : lv_has ls 2 [(0, .ref (q a0)), (1, .int v1)] := hl
  unfold fX6_seenBy at h
  refine lv_aload_n (pc := 0) hx hb dX6_seenBy_0 rfl (lv_at hl 0 rfl) ?_
  refine lv_iload_n (pc := 1) hx hb dX6_seenBy_1 rfl (lv_at hl 1 rfl) ?_
  obtain ⟨r2, k1, h⟩ := zBd_e h
  refine zr_VI (pc := 2) (rest := []) cx cv_X6_69 (mX6_isBlind ha0 k1) ⟨⟨rfl, rfl⟩, Nat.le_of_ble_eq_true rfl, Nat.le_of_ble_eq_true rfl⟩ ⟨Nat.le_of_ble_eq_true rfl, Nat.le_of_ble_eq_true rfl⟩ hP (nX6_0 ha0) (sX6_0 ha0) rfl hl.1 rfl rfl (Nat.le_of_ble_eq_true rfl) dX6_seenBy_2 ?_
  refine lv_if_eq (pc := 5) (tgt := 12) hx hb dX6_seenBy_5 (by decide) (fun c3 => ?_) (fun c3 => ?_)
  · replace h := zBr_t c3 h
    refine lv_aload_n (pc := 12) hx hb dX6_seenBy_12 rfl (lv_at hl 0 rfl) ?_
    refine zr_getR (pc := 13) (t := (zHs a0)) cx lk_X6_38 hP (nX6_0 ha0) (sX6_0 ha0) rfl dX6_seenBy_13 ?_
    refine lv_aload_n (pc := 16) hx hb dX6_seenBy_16 rfl (lv_at hl 0 rfl) ?_
    refine zr_getR (pc := 17) (t := (a0 + 13)) cx lk_X6_32 hP (nX6_0 ha0) (sX6_0 ha0) rfl dX6_seenBy_17 ?_
    refine lv_iload_n (pc := 20) hx hb dX6_seenBy_20 rfl (lv_at hl 1 rfl) ?_
    obtain ⟨g4, h⟩ := zGd_e h
    refine zr_iald (pc := 21) cx hP (nX6_13 ha0) (sX6_13 ha0) g4 dX6_seenBy_21 ?_
    obtain ⟨r6, k5, h⟩ := zBd_e h
    refine zr_VI (pc := 22) (rest := []) cx cv_X6_73 (mX3_reach (zHs_ok ha0) k5) ⟨⟨rfl, rfl⟩, Nat.le_of_ble_eq_true rfl, Nat.le_of_ble_eq_true rfl⟩ ⟨Nat.le_of_ble_eq_true rfl, Nat.le_of_ble_eq_true rfl⟩ hP (nX3_0 (zHs_ok ha0)) (sX3_0 (zHs_ok ha0)) rfl hl.1 rfl rfl (Nat.le_of_ble_eq_true rfl) dX6_seenBy_22 ?_
    have hz := Option.some.inj h
    exact zr_reI (pc := 25) cx hr hlk hz dX6_seenBy_25
  · replace h := zBr_f c3 h
    refine lv_iconst (pc := 8) hx hb dX6_seenBy_8 zc_0 ?_
    refine lv_goto (pc := 9) (tgt := 25) hx hb dX6_seenBy_9 (by decide) ?_
    have hz := Option.some.inj h
    exact zr_reI (pc := 25) cx hr hlk hz dX6_seenBy_25
-- X6_doDeed
abbrev rmX6_doDeed : Room := { frames := 2, cells := 0, slots := 0, locals := 42 }
def fX6_doDeed_123 (S : zSt) (a0 : Nat) (v3 : Int32) (v4 : Int32) : Option ((zSt × Int32) ⊕ zSt) :=
  zLt (v4 + (1 : Int32)) (fun x23 => some (.inl (S, x23)))
set_option maxHeartbeats 4000000 in
set_option maxRecDepth 100000 in
theorem kX6_doDeed_123 {p : Program} {l : Launch} {e : Env} {s : State} {m : MethodId} {args : Array Value} {below : List Frame} {meth : Method} {c : Code} {D : va_G} {cy : Nat → ClassId} {q : Nat → Nat} {A : Nat → Prop} (cx : zX RX6 cX6_doDeed 5 p s m args c D cy) (hr : meth.sig.returnType = none) (hlk : meth.locks = false) (hq : zQ A q zNC) {a0 : Nat} (ha0 : zLife a0) {z : zSt} {S : zSt} {v3 : Int32} {v4 : Int32} {C1 : ((zSt × Int32) ⊕ zSt) → Prop} (hb1 : ∀ (S : zSt) (v4 : Int32), C1 (.inl (S, v4)) → ∀ (H : Heap) (locs : List Loc), va_P D vwCl (zW zsh zNC cy q S) H → va_S A s.heap H locs → ∀ (ls : Array Slot), lv_has ls 5 [(0, .ref (q a0)), (3, .int v3), (4, .int v4)] → W p l e rmX6_doDeed s m args below meth c H locs 0 0 (MQ below (va_Qv (fun (u : zSt) => u = z) (fun u t => va_P D vwCl (zW zsh zNC cy q u) t.heap) A) args s 0 0 A) (F0 m 56 ls [])) (hx1 : ∀ a, C1 (.inr a) → a = z) {x : ((zSt × Int32) ⊕ zSt)} (h : fX6_doDeed_123 S a0 v3 v4 = some x) (hc : C1 x) {H : Heap} {locs : List Loc} (hP : va_P D vwCl (zW zsh zNC cy q S) H) (hS : va_S A s.heap H locs) {ls : Array Slot} (hl : lv_has ls 5 [(0, .ref (q a0)), (3, .int v3), (4, .int v4)]) : W p l e rmX6_doDeed s m args below meth c H locs 0 0 (MQ below (va_Qv (fun (u : zSt) => u = z) (fun u t => va_P D vwCl (zW zsh zNC cy q u) t.heap) A) args s 0 0 A) (F0 m 123 ls []) := by
  have hx := cx.1
  have hb := cx.2.1
  unfold fX6_doDeed_123 at h
  obtain ⟨x23, ex23, h⟩ := zLt_e h
  refine lv_iinc (v := x23) (lv' := [(4, .int x23), (0, .ref (q a0)), (3, .int v3)]) (pc := 123) hx hb dX6_doDeed_123 hl (k := 2) rfl (by rw [zc_1]; exact ex23.symm) (by decide) rfl (fun ls hl => ?_)
  refine lv_goto (pc := 126) (tgt := 56) hx hb dX6_doDeed_126 (by decide) ?_
  cases h
  exact hb1 _ _ hc _ _ hP hS _ (lv_sub hl [1, 2, 0] rfl)
def fX6_doDeed_56 (a0 : Nat) (v3 : Int32) (t : (zSt × Int32)) : Option ((zSt × Int32) ⊕ zSt) :=
  match t with
  | (S, v4) => zBd (fX6_plants S a0) (fun r11 => zBr (r11 ≤ v4) (zXr (zLt (zI S a0 2 ((S.1 a0 2) + (1 : Int32))) (fun S14 => some S14))) (zGd (zIx v4 6) (zGd (zIx (S.1 a0 2) 12) (zLt (zI S (a0 + 6 + v4.toNatClampNeg) (S.1 a0 2).toNatClampNeg (-1 : Int32)) (fun S17 => zBd (fX6_seenBy S17 a0 v4) (fun r19 => zBd (fX11_hasBit r19 v3) (fun r21 => zBr (r21 = 0) (fX6_doDeed_123 S17 a0 v3 v4) (zBd (fX6_nextLeafDay S17 a0 v4) (fun r25 => zGd (zIx v4 6) (zLt (zI S17 (a0 + 12) v4.toNatClampNeg r25) (fun S27 => zGd (zIx v4 6) (zGd (zIx v4 6) (zGd (zIx (S27.1 a0 2) 12) (zLt (zI S27 (a0 + 6 + v4.toNatClampNeg) (S27.1 a0 2).toNatClampNeg (S27.1 (a0 + 12) v4.toNatClampNeg)) (fun S31 => fX6_doDeed_123 S31 a0 v3 v4)))))))))))))))
set_option maxHeartbeats 4000000 in
set_option maxRecDepth 100000 in
theorem kX6_doDeed_56B {p : Program} {l : Launch} {e : Env} {s : State} {m : MethodId} {args : Array Value} {below : List Frame} {meth : Method} {c : Code} {D : va_G} {cy : Nat → ClassId} {q : Nat → Nat} {A : Nat → Prop} (cx : zX RX6 cX6_doDeed 5 p s m args c D cy) (hr : meth.sig.returnType = none) (hlk : meth.locks = false) (hq : zQ A q zNC) {a0 : Nat} (ha0 : zLife a0) {z : zSt} {S : zSt} {v3 : Int32} {v4 : Int32} {C1 : ((zSt × Int32) ⊕ zSt) → Prop} (hb1 : ∀ (S : zSt) (v4 : Int32), C1 (.inl (S, v4)) → ∀ (H : Heap) (locs : List Loc), va_P D vwCl (zW zsh zNC cy q S) H → va_S A s.heap H locs → ∀ (ls : Array Slot), lv_has ls 5 [(0, .ref (q a0)), (3, .int v3), (4, .int v4)] → W p l e rmX6_doDeed s m args below meth c H locs 0 0 (MQ below (va_Qv (fun (u : zSt) => u = z) (fun u t => va_P D vwCl (zW zsh zNC cy q u) t.heap) A) args s 0 0 A) (F0 m 56 ls [])) (hx1 : ∀ a, C1 (.inr a) → a = z) {x : ((zSt × Int32) ⊕ zSt)} (h : fX6_doDeed_56 a0 v3 (S, v4) = some x) (hc : C1 x) {H : Heap} {locs : List Loc} (hP : va_P D vwCl (zW zsh zNC cy q S) H) (hS : va_S A s.heap H locs) {ls : Array Slot} (hl : lv_has ls 5 [(0, .ref (q a0)), (3, .int v3), (4, .int v4)]) : W p l e rmX6_doDeed s m args below meth c H locs 0 0 (MQ below (va_Qv (fun (u : zSt) => u = z) (fun u t => va_P D vwCl (zW zsh zNC cy q u) t.heap) A) args s 0 0 A) (F0 m 56 ls []) := by
  have hx := cx.1
  have hb := cx.2.1
  unfold fX6_doDeed_56 at h
  dsimp only at h
  refine lv_iload (pc := 56) hx hb dX6_doDeed_56 (lv_at hl 2 rfl) ?_
  refine lv_aload_n (pc := 58) hx hb dX6_doDeed_58 rfl (lv_at hl 0 rfl) ?_
  obtain ⟨r11, k10, h⟩ := zBd_e h
  refine zr_VI (pc := 59) (rest := [.int v4]) cx cv_X6_86 (mX6_plants ha0 k10) ⟨⟨rfl, rfl⟩, Nat.le_of_ble_eq_true rfl, Nat.le_of_ble_eq_true rfl⟩ ⟨Nat.le_of_ble_eq_true rfl, Nat.le_of_ble_eq_true rfl⟩ hP (nX6_0 ha0) (sX6_0 ha0) rfl hl.1 rfl rfl (Nat.le_of_ble_eq_true rfl) dX6_doDeed_59 ?_
  refine lv_icmp_ge (pc := 62) (tgt := 129) hx hb dX6_doDeed_62 (by decide) (fun c12 => ?_) (fun c12 => ?_)
  · replace h := zBr_t c12 h
    obtain ⟨y13, h, ex⟩ := zXr_e h
    have hc := hx1 y13 (by rw [ex] at hc; exact hc)
    rw [hc] at h
    refine lv_aload_n (pc := 129) hx hb dX6_doDeed_129 rfl (lv_at hl 0 rfl) ?_
    refine lv_dup (pc := 130) hx hb dX6_doDeed_130 rfl ?_
    refine zr_getI (pc := 131) cx lk_X6_46 hP (nX6_0 ha0) (sX6_0 ha0) rfl dX6_doDeed_131 ?_
    refine lv_iconst (pc := 134) hx hb dX6_doDeed_134 zc_1 ?_
    refine lv_iadd (pc := 135) hx hb dX6_doDeed_135 ?_
    obtain ⟨S14, eS14, h⟩ := zLt_e h
    refine zr_putI (pc := 136) cx lq_X6_46 hq hP hS (nX6_0 ha0) (sX6_0 ha0) rfl rfl rfl dX6_doDeed_136 (fun H locs hP hS => ?_)
    rw [← eS14] at hP
    have hz := Option.some.inj h
    exact zr_rqV (pc := 139) cx hr hlk hP hS hz dX6_doDeed_139
  · replace h := zBr_f c12 h
    refine lv_aload_n (pc := 65) hx hb dX6_doDeed_65 rfl (lv_at hl 0 rfl) ?_
    refine zr_getR (pc := 66) (t := (a0 + 5)) cx lk_X6_26 hP (nX6_0 ha0) (sX6_0 ha0) rfl dX6_doDeed_66 ?_
    refine lv_iload (pc := 69) hx hb dX6_doDeed_69 (lv_at hl 2 rfl) ?_
    obtain ⟨g15, h⟩ := zGd_e h
    refine zr_aald (pc := 71) (g := (a0 + 6 + v4.toNatClampNeg)) cx hP (nX6_5 ha0) (sX6_5 ha0) (Or.inr (Or.inr rfl)) g15 rfl dX6_doDeed_71 ?_
    refine lv_aload_n (pc := 72) hx hb dX6_doDeed_72 rfl (lv_at hl 0 rfl) ?_
    refine zr_getI (pc := 73) cx lk_X6_46 hP (nX6_0 ha0) (sX6_0 ha0) rfl dX6_doDeed_73 ?_
    refine lv_iconst (pc := 76) hx hb dX6_doDeed_76 zc_m1 ?_
    obtain ⟨g16, h⟩ := zGd_e h
    obtain ⟨S17, eS17, h⟩ := zLt_e h
    refine zr_iast (pc := 77) cx hq hP hS (nX6_r ha0 g15) (sX6_r ha0 g15) g16 dX6_doDeed_77 (fun H locs hP hS => ?_)
    rw [← eS17] at hP
    refine lv_aload_n (pc := 78) hx hb dX6_doDeed_78 rfl (lv_at hl 0 rfl) ?_
    refine lv_iload (pc := 79) hx hb dX6_doDeed_79 (lv_at hl 2 rfl) ?_
    obtain ⟨r19, k18, h⟩ := zBd_e h
    refine zr_VI (pc := 81) (rest := []) cx cv_X6_90 (mX6_seenBy ha0 k18) ⟨⟨rfl, rfl⟩, Nat.le_of_ble_eq_true rfl, Nat.le_of_ble_eq_true rfl⟩ ⟨Nat.le_of_ble_eq_true rfl, Nat.le_of_ble_eq_true rfl⟩ hP (nX6_0 ha0) (sX6_0 ha0) rfl hl.1 rfl rfl (Nat.le_of_ble_eq_true rfl) dX6_doDeed_81 ?_
    refine lv_iload_n (pc := 84) hx hb dX6_doDeed_84 rfl (lv_at hl 1 rfl) ?_
    obtain ⟨r21, k20, h⟩ := zBd_e h
    refine zr_NI (pc := 85) (rest := []) cx cv_X6_93 (mX11_hasBit k20) ⟨⟨rfl, rfl⟩, Nat.le_of_ble_eq_true rfl, Nat.le_of_ble_eq_true rfl⟩ ⟨Nat.le_of_ble_eq_true rfl, Nat.le_of_ble_eq_true rfl⟩ (zr_preK cx) hl.1 rfl rfl (Nat.le_of_ble_eq_true rfl) dX6_doDeed_85 ?_
    refine lv_if_eq (pc := 88) (tgt := 123) hx hb dX6_doDeed_88 (by decide) (fun c22 => ?_) (fun c22 => ?_)
    · replace h := zBr_t c22 h
      exact kX6_doDeed_123 cx hr hlk hq ha0 hb1 hx1 h hc hP hS (lv_sub hl [0, 1, 2] rfl)
    · replace h := zBr_f c22 h
      refine lv_aload_n (pc := 91) hx hb dX6_doDeed_91 rfl (lv_at hl 0 rfl) ?_
      refine zr_getR (pc := 92) (t := (a0 + 12)) cx lk_X6_29 hP (nX6_0 ha0) (sX6_0 ha0) rfl dX6_doDeed_92 ?_
      refine lv_iload (pc := 95) hx hb dX6_doDeed_95 (lv_at hl 2 rfl) ?_
      refine lv_aload_n (pc := 97) hx hb dX6_doDeed_97 rfl (lv_at hl 0 rfl) ?_
      refine lv_iload (pc := 98) hx hb dX6_doDeed_98 (lv_at hl 2 rfl) ?_
      obtain ⟨r25, k24, h⟩ := zBd_e h
      refine zr_VI (pc := 100) (rest := [.int v4, .ref (q (a0 + 12))]) cx cv_X6_97 (mX6_nextLeafDay ha0 k24) ⟨⟨rfl, rfl⟩, Nat.le_of_ble_eq_true rfl, Nat.le_of_ble_eq_true rfl⟩ ⟨Nat.le_of_ble_eq_true rfl, Nat.le_of_ble_eq_true rfl⟩ hP (nX6_0 ha0) (sX6_0 ha0) rfl hl.1 rfl rfl (Nat.le_of_ble_eq_true rfl) dX6_doDeed_100 ?_
      obtain ⟨g26, h⟩ := zGd_e h
      obtain ⟨S27, eS27, h⟩ := zLt_e h
      refine zr_iast (pc := 103) cx hq hP hS (nX6_12 ha0) (sX6_12 ha0) g26 dX6_doDeed_103 (fun H locs hP hS => ?_)
      rw [← eS27] at hP
      refine lv_aload_n (pc := 104) hx hb dX6_doDeed_104 rfl (lv_at hl 0 rfl) ?_
      refine zr_getR (pc := 105) (t := (a0 + 5)) cx lk_X6_26 hP (nX6_0 ha0) (sX6_0 ha0) rfl dX6_doDeed_105 ?_
      refine lv_iload (pc := 108) hx hb dX6_doDeed_108 (lv_at hl 2 rfl) ?_
      obtain ⟨g28, h⟩ := zGd_e h
      refine zr_aald (pc := 110) (g := (a0 + 6 + v4.toNatClampNeg)) cx hP (nX6_5 ha0) (sX6_5 ha0) (Or.inr (Or.inr rfl)) g28 rfl dX6_doDeed_110 ?_
      refine lv_aload_n (pc := 111) hx hb dX6_doDeed_111 rfl (lv_at hl 0 rfl) ?_
      refine zr_getI (pc := 112) cx lk_X6_46 hP (nX6_0 ha0) (sX6_0 ha0) rfl dX6_doDeed_112 ?_
      refine lv_aload_n (pc := 115) hx hb dX6_doDeed_115 rfl (lv_at hl 0 rfl) ?_
      refine zr_getR (pc := 116) (t := (a0 + 12)) cx lk_X6_29 hP (nX6_0 ha0) (sX6_0 ha0) rfl dX6_doDeed_116 ?_
      refine lv_iload (pc := 119) hx hb dX6_doDeed_119 (lv_at hl 2 rfl) ?_
      obtain ⟨g29, h⟩ := zGd_e h
      refine zr_iald (pc := 121) cx hP (nX6_12 ha0) (sX6_12 ha0) g29 dX6_doDeed_121 ?_
      obtain ⟨g30, h⟩ := zGd_e h
      obtain ⟨S31, eS31, h⟩ := zLt_e h
      refine zr_iast (pc := 122) cx hq hP hS (nX6_r ha0 g28) (sX6_r ha0 g28) g30 dX6_doDeed_122 (fun H locs hP hS => ?_)
      rw [← eS31] at hP
      exact kX6_doDeed_123 cx hr hlk hq ha0 hb1 hx1 h hc hP hS (lv_sub hl [0, 1, 2] rfl)
set_option maxHeartbeats 4000000 in
set_option maxRecDepth 100000 in
theorem kX6_doDeed_56 {p : Program} {l : Launch} {e : Env} {s : State} {m : MethodId} {args : Array Value} {below : List Frame} {meth : Method} {c : Code} {D : va_G} {cy : Nat → ClassId} {q : Nat → Nat} {A : Nat → Prop} (cx : zX RX6 cX6_doDeed 5 p s m args c D cy) (hr : meth.sig.returnType = none) (hlk : meth.locks = false) (hq : zQ A q zNC) {a0 : Nat} (ha0 : zLife a0) {z : zSt} {v3 : Int32} : ∀ (n : Nat) (S : zSt) (v4 : Int32), zLp (fX6_doDeed_56 a0 v3) n (S, v4) = some z → ∀ (H : Heap) (locs : List Loc), va_P D vwCl (zW zsh zNC cy q S) H → va_S A s.heap H locs → ∀ (ls : Array Slot), lv_has ls 5 [(0, .ref (q a0)), (3, .int v3), (4, .int v4)] → W p l e rmX6_doDeed s m args below meth c H locs 0 0 (MQ below (va_Qv (fun (u : zSt) => u = z) (fun u t => va_P D vwCl (zW zsh zNC cy q u) t.heap) A) args s 0 0 A) (F0 m 56 ls []) := by
  intro n
  induction n with
  | zero =>
    intro S v4 h
    cases h
  | succ n ih =>
    intro S v4 h H locs hP hS ls hl
    obtain ⟨x, h, hk⟩ := zLp_e h
    exact kX6_doDeed_56B cx hr hlk hq ha0  (C1 := zKt (fun t => zLp (fX6_doDeed_56 a0 v3) n t = some z) (fun a => a = z)) (fun S v4 ht H locs hP hS ls hl => ih S v4 ht H locs hP hS ls hl) (fun a ha => ha) h hk hP hS hl
def fX6_doDeed (S : zSt) (a0 : Nat) (v1 : Int32) (v2 : Int32) (v3 : Int32) : Option zSt :=
  zBr ((S.1 a0 2) < (12 : Int32)) (zGd (zIx (S.1 a0 2) 12) (zLt (zI S (a0 + 1) (S.1 a0 2).toNatClampNeg v1) (fun S3 => zGd (zIx (S3.1 a0 2) 12) (zLt (zI S3 (a0 + 2) (S3.1 a0 2).toNatClampNeg v2) (fun S5 => zGd (zIx (S5.1 a0 2) 12) (zLt (zI S5 (a0 + 3) (S5.1 a0 2).toNatClampNeg v3) (fun S7 => zGd (zIx (S7.1 a0 2) 12) (zLt (zI S7 (a0 + 4) (S7.1 a0 2).toNatClampNeg (S7.1 a0 1)) (fun S9 => zLp (fX6_doDeed_56 a0 v3) 2000 (S9, (0 : Int32))))))))))) (some S)
set_option maxHeartbeats 4000000 in
set_option maxRecDepth 100000 in
theorem mX6_doDeed {l : Launch} {D : va_G} {cy : Nat → ClassId} {q : Nat → Nat} {A : Nat → Prop} {S : zSt} {a0 : Nat} {v1 : Int32} {v2 : Int32} {v3 : Int32} (hq : zQ A q zNC) (ha0 : zLife a0) {z : zSt} (h : fX6_doDeed S a0 v1 v2 v3 = some z) : zMv l yX6_doDeed cX6_doDeed 5 none rmX6_doDeed [.ref (q a0), .int v1, .int v2, .int v3] zsh zNC D cy q A S z := by
  refine Met.ofW (cc := cX6_doDeed) (maxL := 5) (ret := none) (by decide) rfl ?_
  intro p e s m args below meth c s₁ B hml hv
  obtain ⟨rfl, hP, hK⟩ := hv
  have cx : zX RX6 cX6_doDeed 5 p s m ([.ref (q a0), .int v1, .int v2, .int v3]).toArray c D cy := ⟨B.exec, B.bytes, hml, findClass_of_methodNamed B.named, fun w hw => atoms_spec (ws := Cond.code yX6_doDeed cX6_doDeed 5 none :: zTB) B.pre w (List.mem_cons_of_mem _ hw), hK⟩
  have hx := cx.1
  have hb := cx.2.1
  have hr := B.returns
  have hlk := B.notSynchronized
  have hS : va_S A s.heap s.heap [] := va_S.rf
  have hl := lv_entry ([.ref (q a0), .int v1, .int v2, .int v3]) (n := 5) (Nat.le_of_ble_eq_true rfl)
  rw [lg_entry_eq]
  generalize (lg_sl ([.ref (q a0), .int v1, .int v2, .int v3]) ++ List.replicate (5 - (lg_sl ([.ref (q a0), .int v1, .int v2, .int v3])).length) Slot.unset).toArray = ls at hl ⊢
  have hl : lv_has ls 5 [(0, .ref (q a0)), (1, .int v1), (2, .int v2), (3, .int v3)] := hl
  unfold fX6_doDeed at h
  refine lv_aload_n (pc := 0) hx hb dX6_doDeed_0 rfl (lv_at hl 0 rfl) ?_
  refine zr_getI (pc := 1) cx lk_X6_46 hP (nX6_0 ha0) (sX6_0 ha0) rfl dX6_doDeed_1 ?_
  refine lv_bipush (pc := 4) hx hb dX6_doDeed_4 zb_12 ?_
  refine lv_icmp_lt (pc := 6) (tgt := 10) hx hb dX6_doDeed_6 (by decide) (fun c1 => ?_) (fun c1 => ?_)
  · replace h := zBr_t c1 h
    refine lv_aload_n (pc := 10) hx hb dX6_doDeed_10 rfl (lv_at hl 0 rfl) ?_
    refine zr_getR (pc := 11) (t := (a0 + 1)) cx lk_X6_9 hP (nX6_0 ha0) (sX6_0 ha0) rfl dX6_doDeed_11 ?_
    refine lv_aload_n (pc := 14) hx hb dX6_doDeed_14 rfl (lv_at hl 0 rfl) ?_
    refine zr_getI (pc := 15) cx lk_X6_46 hP (nX6_0 ha0) (sX6_0 ha0) rfl dX6_doDeed_15 ?_
    refine lv_iload_n (pc := 18) hx hb dX6_doDeed_18 rfl (lv_at hl 1 rfl) ?_
    obtain ⟨g2, h⟩ := zGd_e h
    obtain ⟨S3, eS3, h⟩ := zLt_e h
    refine zr_iast (pc := 19) cx hq hP hS (nX6_1 ha0) (sX6_1 ha0) g2 dX6_doDeed_19 (fun H locs hP hS => ?_)
    rw [← eS3] at hP
    refine lv_aload_n (pc := 20) hx hb dX6_doDeed_20 rfl (lv_at hl 0 rfl) ?_
    refine zr_getR (pc := 21) (t := (a0 + 2)) cx lk_X6_15 hP (nX6_0 ha0) (sX6_0 ha0) rfl dX6_doDeed_21 ?_
    refine lv_aload_n (pc := 24) hx hb dX6_doDeed_24 rfl (lv_at hl 0 rfl) ?_
    refine zr_getI (pc := 25) cx lk_X6_46 hP (nX6_0 ha0) (sX6_0 ha0) rfl dX6_doDeed_25 ?_
    refine lv_iload_n (pc := 28) hx hb dX6_doDeed_28 rfl (lv_at hl 2 rfl) ?_
    obtain ⟨g4, h⟩ := zGd_e h
    obtain ⟨S5, eS5, h⟩ := zLt_e h
    refine zr_iast (pc := 29) cx hq hP hS (nX6_2 ha0) (sX6_2 ha0) g4 dX6_doDeed_29 (fun H locs hP hS => ?_)
    rw [← eS5] at hP
    refine lv_aload_n (pc := 30) hx hb dX6_doDeed_30 rfl (lv_at hl 0 rfl) ?_
    refine zr_getR (pc := 31) (t := (a0 + 3)) cx lk_X6_18 hP (nX6_0 ha0) (sX6_0 ha0) rfl dX6_doDeed_31 ?_
    refine lv_aload_n (pc := 34) hx hb dX6_doDeed_34 rfl (lv_at hl 0 rfl) ?_
    refine zr_getI (pc := 35) cx lk_X6_46 hP (nX6_0 ha0) (sX6_0 ha0) rfl dX6_doDeed_35 ?_
    refine lv_iload_n (pc := 38) hx hb dX6_doDeed_38 rfl (lv_at hl 3 rfl) ?_
    obtain ⟨g6, h⟩ := zGd_e h
    obtain ⟨S7, eS7, h⟩ := zLt_e h
    refine zr_iast (pc := 39) cx hq hP hS (nX6_3 ha0) (sX6_3 ha0) g6 dX6_doDeed_39 (fun H locs hP hS => ?_)
    rw [← eS7] at hP
    refine lv_aload_n (pc := 40) hx hb dX6_doDeed_40 rfl (lv_at hl 0 rfl) ?_
    refine zr_getR (pc := 41) (t := (a0 + 4)) cx lk_X6_21 hP (nX6_0 ha0) (sX6_0 ha0) rfl dX6_doDeed_41 ?_
    refine lv_aload_n (pc := 44) hx hb dX6_doDeed_44 rfl (lv_at hl 0 rfl) ?_
    refine zr_getI (pc := 45) cx lk_X6_46 hP (nX6_0 ha0) (sX6_0 ha0) rfl dX6_doDeed_45 ?_
    refine lv_aload_n (pc := 48) hx hb dX6_doDeed_48 rfl (lv_at hl 0 rfl) ?_
    refine zr_getI (pc := 49) cx lk_X6_42 hP (nX6_0 ha0) (sX6_0 ha0) rfl dX6_doDeed_49 ?_
    obtain ⟨g8, h⟩ := zGd_e h
    obtain ⟨S9, eS9, h⟩ := zLt_e h
    refine zr_iast (pc := 52) cx hq hP hS (nX6_4 ha0) (sX6_4 ha0) g8 dX6_doDeed_52 (fun H locs hP hS => ?_)
    rw [← eS9] at hP
    refine lv_iconst (pc := 53) hx hb dX6_doDeed_53 zc_0 ?_
    refine lv_istore (lv' := [(4, .int (0 : Int32)), (0, .ref (q a0)), (1, .int v1), (2, .int v2), (3, .int v3)]) (pc := 54) hx hb dX6_doDeed_54 hl (by decide) rfl (fun ls hl => ?_)
    exact kX6_doDeed_56 cx hr hlk hq ha0 2000 _ _ h _ _ hP hS _ (lv_sub hl [1, 4, 0] rfl)
  · replace h := zBr_f c1 h
    have hz := Option.some.inj h
    exact zr_rqV (pc := 9) cx hr hlk hP hS hz dX6_doDeed_9
-- X6_whyNotDo
abbrev rmX6_whyNotDo : Room := { frames := 0, cells := 0, slots := 0, locals := 0 }
def fX6_whyNotDo (S : zSt) (a0 : Nat) : Option Int32 :=
  zBr ((S.1 a0 2) < (12 : Int32)) (some (0 : Int32)) (some (1 : Int32))
set_option maxHeartbeats 4000000 in
set_option maxRecDepth 100000 in
theorem mX6_whyNotDo {l : Launch} {D : va_G} {cy : Nat → ClassId} {q : Nat → Nat} {S : zSt} {a0 : Nat} (ha0 : zLife a0) {z : Int32} (h : fX6_whyNotDo S a0 = some z) : zMi l yX6_whyNotDo cX6_whyNotDo 1 (some .int) rmX6_whyNotDo [.ref (q a0)] (zPr zsh zNC D cy q S) z := by
  refine Met.ofW (cc := cX6_whyNotDo) (maxL := 1) (ret := (some .int)) (by decide) rfl ?_
  intro p e s m args below meth c s₁ B hml hv
  obtain ⟨rfl, hP, hK⟩ := hv
  have cx : zX RX6 cX6_whyNotDo 1 p s m ([.ref (q a0)]).toArray c D cy := ⟨B.exec, B.bytes, hml, findClass_of_methodNamed B.named, fun w hw => atoms_spec (ws := Cond.code yX6_whyNotDo cX6_whyNotDo 1 (some .int) :: zTB) B.pre w (List.mem_cons_of_mem _ hw), hK⟩
  have hx := cx.1
  have hb := cx.2.1
  have hr := B.returns
  have hlk := B.notSynchronized
  have hl := lv_entry ([.ref (q a0)]) (n := 1) (Nat.le_of_ble_eq_true rfl)
  rw [lg_entry_eq]
  generalize (lg_sl ([.ref (q a0)]) ++ List.replicate (1 - (lg_sl ([.ref (q a0)])).length) Slot.unset).toArray = ls at hl ⊢
  have hl : lv_has ls 1 [(0, .ref (q a0))] := hl
  unfold fX6_whyNotDo at h
  refine lv_aload_n (pc := 0) hx hb dX6_whyNotDo_0 rfl (lv_at hl 0 rfl) ?_
  refine zr_getI (pc := 1) cx lk_X6_46 hP (nX6_0 ha0) (sX6_0 ha0) rfl dX6_whyNotDo_1 ?_
  refine lv_bipush (pc := 4) hx hb dX6_whyNotDo_4 zb_12 ?_
  refine lv_icmp_lt (pc := 6) (tgt := 13) hx hb dX6_whyNotDo_6 (by decide) (fun c1 => ?_) (fun c1 => ?_)
  · replace h := zBr_t c1 h
    refine lv_iconst (pc := 13) hx hb dX6_whyNotDo_13 zc_0 ?_
    have hz := Option.some.inj h
    exact zr_reI (pc := 14) cx hr hlk hz dX6_whyNotDo_14
  · replace h := zBr_f c1 h
    refine lv_iconst (pc := 9) hx hb dX6_whyNotDo_9 zc_1 ?_
    refine lv_goto (pc := 10) (tgt := 14) hx hb dX6_whyNotDo_10 (by decide) ?_
    have hz := Option.some.inj h
    exact zr_reI (pc := 14) cx hr hlk hz dX6_whyNotDo_14
-- X0_liveDoes
abbrev rmX0_liveDoes : Room := { frames := 3, cells := 0, slots := 0, locals := 66 }
def fX0_liveDoes (S : zSt) (a1 : Nat) (v2 : Int32) : Option (Int32 × zSt) :=
  zBd (fX6_whyNotDo S a1) (fun r2 => zBr (r2 = 0) (zGd (zIx v2 40) (zGd (zIx v2 40) (zGd (zIx v2 40) (zBd (fX6_doDeed S a1 (S.1 242 v2.toNatClampNeg) (S.1 243 v2.toNatClampNeg) (S.1 244 v2.toNatClampNeg)) (fun S8 => some (r2, S8)))))) (some (r2, S)))
set_option maxHeartbeats 4000000 in
set_option maxRecDepth 100000 in
theorem mX0_liveDoes {l : Launch} {D : va_G} {cy : Nat → ClassId} {q : Nat → Nat} {A : Nat → Prop} {S : zSt} {a1 : Nat} {v2 : Int32} (hq : zQ A q zNC) (ha1 : zLife a1) {z : (Int32 × zSt)} (h : fX0_liveDoes S a1 v2 = some z) : zMq l yX0_liveDoes cX0_liveDoes 4 (some .int) rmX0_liveDoes [.ref (q 240), .ref (q a1), .int v2] zsh zNC D cy q A S z := by
  refine Met.ofW (cc := cX0_liveDoes) (maxL := 4) (ret := (some .int)) (by decide) rfl ?_
  intro p e s m args below meth c s₁ B hml hv
  obtain ⟨rfl, hP, hK⟩ := hv
  have cx : zX RX0 cX0_liveDoes 4 p s m ([.ref (q 240), .ref (q a1), .int v2]).toArray c D cy := ⟨B.exec, B.bytes, hml, findClass_of_methodNamed B.named, fun w hw => atoms_spec (ws := Cond.code yX0_liveDoes cX0_liveDoes 4 (some .int) :: zTB) B.pre w (List.mem_cons_of_mem _ hw), hK⟩
  have hx := cx.1
  have hb := cx.2.1
  have hr := B.returns
  have hlk := B.notSynchronized
  have hS : va_S A s.heap s.heap [] := va_S.rf
  have hl := lv_entry ([.ref (q 240), .ref (q a1), .int v2]) (n := 4) (Nat.le_of_ble_eq_true rfl)
  rw [lg_entry_eq]
  generalize (lg_sl ([.ref (q 240), .ref (q a1), .int v2]) ++ List.replicate (4 - (lg_sl ([.ref (q 240), .ref (q a1), .int v2])).length) Slot.unset).toArray = ls at hl ⊢
  have hl : lv_has ls 4 [(0, .ref (q 240)), (1, .ref (q a1)), (2, .int v2)] := hl
  unfold fX0_liveDoes at h
  refine lv_aload_n (pc := 0) hx hb dX0_liveDoes_0 rfl (lv_at hl 1 rfl) ?_
  obtain ⟨r2, k1, h⟩ := zBd_e h
  refine zr_VI (pc := 1) (rest := []) cx cv_X0_128 (mX6_whyNotDo ha1 k1) ⟨⟨rfl, rfl⟩, Nat.le_of_ble_eq_true rfl, Nat.le_of_ble_eq_true rfl⟩ ⟨Nat.le_of_ble_eq_true rfl, Nat.le_of_ble_eq_true rfl⟩ hP (nX6_0 ha1) (sX6_0 ha1) rfl hl.1 rfl rfl (Nat.le_of_ble_eq_true rfl) dX0_liveDoes_1 ?_
  refine lv_istore_n (lv' := [(3, .int r2), (0, .ref (q 240)), (1, .ref (q a1)), (2, .int v2)]) (pc := 4) hx hb dX0_liveDoes_4 rfl hl (by decide) rfl (fun ls hl => ?_)
  refine lv_iload_n (pc := 5) hx hb dX0_liveDoes_5 rfl (lv_at hl 0 rfl) ?_
  refine lv_if_ne (pc := 6) (tgt := 31) hx hb dX0_liveDoes_6 (by decide) (fun c3 => ?_) (fun c3 => ?_)
  · replace h := zBr_f c3 h
    refine lv_iload_n (pc := 31) hx hb dX0_liveDoes_31 rfl (lv_at hl 0 rfl) ?_
    have hz := Option.some.inj h
    exact zr_rqI (pc := 32) cx hr hlk hP hS hz dX0_liveDoes_32
  · replace h := zBr_t c3 h
    refine lv_aload_n (pc := 9) hx hb dX0_liveDoes_9 rfl (lv_at hl 2 rfl) ?_
    refine lv_aload_n (pc := 10) hx hb dX0_liveDoes_10 rfl (lv_at hl 1 rfl) ?_
    refine zr_getR (pc := 11) (t := 242) cx lk_X0_15 hP nC_240 sC_240 rfl dX0_liveDoes_11 ?_
    refine lv_iload_n (pc := 14) hx hb dX0_liveDoes_14 rfl (lv_at hl 3 rfl) ?_
    obtain ⟨g4, h⟩ := zGd_e h
    refine zr_iald (pc := 15) cx hP nC_242 sC_242 g4 dX0_liveDoes_15 ?_
    refine lv_aload_n (pc := 16) hx hb dX0_liveDoes_16 rfl (lv_at hl 1 rfl) ?_
    refine zr_getR (pc := 17) (t := 243) cx lk_X0_18 hP nC_240 sC_240 rfl dX0_liveDoes_17 ?_
    refine lv_iload_n (pc := 20) hx hb dX0_liveDoes_20 rfl (lv_at hl 3 rfl) ?_
    obtain ⟨g5, h⟩ := zGd_e h
    refine zr_iald (pc := 21) cx hP nC_243 sC_243 g5 dX0_liveDoes_21 ?_
    refine lv_aload_n (pc := 22) hx hb dX0_liveDoes_22 rfl (lv_at hl 1 rfl) ?_
    refine zr_getR (pc := 23) (t := 244) cx lk_X0_21 hP nC_240 sC_240 rfl dX0_liveDoes_23 ?_
    refine lv_iload_n (pc := 26) hx hb dX0_liveDoes_26 rfl (lv_at hl 3 rfl) ?_
    obtain ⟨g6, h⟩ := zGd_e h
    refine zr_iald (pc := 27) cx hP nC_244 sC_244 g6 dX0_liveDoes_27 ?_
    obtain ⟨S8, k7, h⟩ := zBd_e h
    refine zr_VV (pc := 28) (rest := []) cx cv_X0_131 (mX6_doDeed hq ha1 k7) ⟨⟨rfl, rfl⟩, Nat.le_of_ble_eq_true rfl, Nat.le_of_ble_eq_true rfl⟩ ⟨Nat.le_of_ble_eq_true rfl, Nat.le_of_ble_eq_true rfl⟩ hP hS (nX6_0 ha1) (sX6_0 ha1) rfl hl.1 rfl rfl (Nat.le_of_ble_eq_true rfl) dX0_liveDoes_28 (fun H locs hP hS => ?_)
    refine lv_iload_n (pc := 31) hx hb dX0_liveDoes_31 rfl (lv_at hl 0 rfl) ?_
    have hz := Option.some.inj h
    exact zr_rqI (pc := 32) cx hr hlk hP hS hz dX0_liveDoes_32
-- X6_spongeOff
abbrev rmX6_spongeOff : Room := { frames := 0, cells := 0, slots := 0, locals := 0 }
def fX6_spongeOff (S : zSt) (a0 : Nat) (v1 : Int32) : Option zSt :=
  zGd (zIx v1 6) (zLt (zI S (a0 + 14) v1.toNatClampNeg (0 : Int32)) (fun S2 => some S2))
set_option maxHeartbeats 4000000 in
set_option maxRecDepth 100000 in
theorem mX6_spongeOff {l : Launch} {D : va_G} {cy : Nat → ClassId} {q : Nat → Nat} {A : Nat → Prop} {S : zSt} {a0 : Nat} {v1 : Int32} (hq : zQ A q zNC) (ha0 : zLife a0) {z : zSt} (h : fX6_spongeOff S a0 v1 = some z) : zMv l yX6_spongeOff cX6_spongeOff 2 none rmX6_spongeOff [.ref (q a0), .int v1] zsh zNC D cy q A S z := by
  refine Met.ofW (cc := cX6_spongeOff) (maxL := 2) (ret := none) (by decide) rfl ?_
  intro p e s m args below meth c s₁ B hml hv
  obtain ⟨rfl, hP, hK⟩ := hv
  have cx : zX RX6 cX6_spongeOff 2 p s m ([.ref (q a0), .int v1]).toArray c D cy := ⟨B.exec, B.bytes, hml, findClass_of_methodNamed B.named, fun w hw => atoms_spec (ws := Cond.code yX6_spongeOff cX6_spongeOff 2 none :: zTB) B.pre w (List.mem_cons_of_mem _ hw), hK⟩
  have hx := cx.1
  have hb := cx.2.1
  have hr := B.returns
  have hlk := B.notSynchronized
  have hS : va_S A s.heap s.heap [] := va_S.rf
  have hl := lv_entry ([.ref (q a0), .int v1]) (n := 2) (Nat.le_of_ble_eq_true rfl)
  rw [lg_entry_eq]
  generalize (lg_sl ([.ref (q a0), .int v1]) ++ List.replicate (2 - (lg_sl ([.ref (q a0), .int v1])).length) Slot.unset).toArray = ls at hl ⊢
  have hl : lv_has ls 2 [(0, .ref (q a0)), (1, .int v1)] := hl
  unfold fX6_spongeOff at h
  refine lv_aload_n (pc := 0) hx hb dX6_spongeOff_0 rfl (lv_at hl 0 rfl) ?_
  refine zr_getR (pc := 1) (t := (a0 + 14)) cx lk_X6_35 hP (nX6_0 ha0) (sX6_0 ha0) rfl dX6_spongeOff_1 ?_
  refine lv_iload_n (pc := 4) hx hb dX6_spongeOff_4 rfl (lv_at hl 1 rfl) ?_
  refine lv_iconst (pc := 5) hx hb dX6_spongeOff_5 zc_0 ?_
  obtain ⟨g1, h⟩ := zGd_e h
  obtain ⟨S2, eS2, h⟩ := zLt_e h
  refine zr_iast (pc := 6) cx hq hP hS (nX6_14 ha0) (sX6_14 ha0) g1 dX6_spongeOff_6 (fun H locs hP hS => ?_)
  rw [← eS2] at hP
  have hz := Option.some.inj h
  exact zr_rqV (pc := 7) cx hr hlk hP hS hz dX6_spongeOff_7
-- X6_whyNotSponge
abbrev rmX6_whyNotSponge : Room := { frames := 0, cells := 0, slots := 0, locals := 0 }
def fX6_whyNotSponge (S : zSt) (a0 : Nat) (v1 : Int32) : Option Int32 :=
  zGd (zIx v1 6) (zBr ((S.1 (a0 + 14) v1.toNatClampNeg) = 0) (some (1 : Int32)) (some (0 : Int32)))
set_option maxHeartbeats 4000000 in
set_option maxRecDepth 100000 in
theorem mX6_whyNotSponge {l : Launch} {D : va_G} {cy : Nat → ClassId} {q : Nat → Nat} {S : zSt} {a0 : Nat} {v1 : Int32} (ha0 : zLife a0) {z : Int32} (h : fX6_whyNotSponge S a0 v1 = some z) : zMi l yX6_whyNotSponge cX6_whyNotSponge 2 (some .int) rmX6_whyNotSponge [.ref (q a0), .int v1] (zPr zsh zNC D cy q S) z := by
  refine Met.ofW (cc := cX6_whyNotSponge) (maxL := 2) (ret := (some .int)) (by decide) rfl ?_
  intro p e s m args below meth c s₁ B hml hv
  obtain ⟨rfl, hP, hK⟩ := hv
  have cx : zX RX6 cX6_whyNotSponge 2 p s m ([.ref (q a0), .int v1]).toArray c D cy := ⟨B.exec, B.bytes, hml, findClass_of_methodNamed B.named, fun w hw => atoms_spec (ws := Cond.code yX6_whyNotSponge cX6_whyNotSponge 2 (some .int) :: zTB) B.pre w (List.mem_cons_of_mem _ hw), hK⟩
  have hx := cx.1
  have hb := cx.2.1
  have hr := B.returns
  have hlk := B.notSynchronized
  have hl := lv_entry ([.ref (q a0), .int v1]) (n := 2) (Nat.le_of_ble_eq_true rfl)
  rw [lg_entry_eq]
  generalize (lg_sl ([.ref (q a0), .int v1]) ++ List.replicate (2 - (lg_sl ([.ref (q a0), .int v1])).length) Slot.unset).toArray = ls at hl ⊢
  have hl : lv_has ls 2 [(0, .ref (q a0)), (1, .int v1)] := hl
  unfold fX6_whyNotSponge at h
  refine lv_aload_n (pc := 0) hx hb dX6_whyNotSponge_0 rfl (lv_at hl 0 rfl) ?_
  refine zr_getR (pc := 1) (t := (a0 + 14)) cx lk_X6_35 hP (nX6_0 ha0) (sX6_0 ha0) rfl dX6_whyNotSponge_1 ?_
  refine lv_iload_n (pc := 4) hx hb dX6_whyNotSponge_4 rfl (lv_at hl 1 rfl) ?_
  obtain ⟨g1, h⟩ := zGd_e h
  refine zr_iald (pc := 5) cx hP (nX6_14 ha0) (sX6_14 ha0) g1 dX6_whyNotSponge_5 ?_
  refine lv_if_ne (pc := 6) (tgt := 13) hx hb dX6_whyNotSponge_6 (by decide) (fun c2 => ?_) (fun c2 => ?_)
  · replace h := zBr_f c2 h
    refine lv_iconst (pc := 13) hx hb dX6_whyNotSponge_13 zc_0 ?_
    have hz := Option.some.inj h
    exact zr_reI (pc := 14) cx hr hlk hz dX6_whyNotSponge_14
  · replace h := zBr_t c2 h
    refine lv_iconst (pc := 9) hx hb dX6_whyNotSponge_9 zc_1 ?_
    refine lv_goto (pc := 10) (tgt := 14) hx hb dX6_whyNotSponge_10 (by decide) ?_
    have hz := Option.some.inj h
    exact zr_reI (pc := 14) cx hr hlk hz dX6_whyNotSponge_14
-- X0_liveSponge
abbrev rmX0_liveSponge : Room := { frames := 1, cells := 0, slots := 0, locals := 21 }
def fX0_liveSponge (S : zSt) (a0 : Nat) (v1 : Int32) : Option (Int32 × zSt) :=
  zBd (fX6_whyNotSponge S a0 v1) (fun r2 => zBr (r2 = 0) (zBd (fX6_spongeOff S a0 v1) (fun S5 => some ((0 : Int32), S5))) (some (((10 : Int32) + r2), S)))
set_option maxHeartbeats 4000000 in
set_option maxRecDepth 100000 in
theorem mX0_liveSponge {l : Launch} {D : va_G} {cy : Nat → ClassId} {q : Nat → Nat} {A : Nat → Prop} {S : zSt} {a0 : Nat} {v1 : Int32} (hq : zQ A q zNC) (ha0 : zLife a0) {z : (Int32 × zSt)} (h : fX0_liveSponge S a0 v1 = some z) : zMq l yX0_liveSponge cX0_liveSponge 3 (some .int) rmX0_liveSponge [.ref (q a0), .int v1] zsh zNC D cy q A S z := by
  refine Met.ofW (cc := cX0_liveSponge) (maxL := 3) (ret := (some .int)) (by decide) rfl ?_
  intro p e s m args below meth c s₁ B hml hv
  obtain ⟨rfl, hP, hK⟩ := hv
  have cx : zX RX0 cX0_liveSponge 3 p s m ([.ref (q a0), .int v1]).toArray c D cy := ⟨B.exec, B.bytes, hml, findClass_of_methodNamed B.named, fun w hw => atoms_spec (ws := Cond.code yX0_liveSponge cX0_liveSponge 3 (some .int) :: zTB) B.pre w (List.mem_cons_of_mem _ hw), hK⟩
  have hx := cx.1
  have hb := cx.2.1
  have hr := B.returns
  have hlk := B.notSynchronized
  have hS : va_S A s.heap s.heap [] := va_S.rf
  have hl := lv_entry ([.ref (q a0), .int v1]) (n := 3) (Nat.le_of_ble_eq_true rfl)
  rw [lg_entry_eq]
  generalize (lg_sl ([.ref (q a0), .int v1]) ++ List.replicate (3 - (lg_sl ([.ref (q a0), .int v1])).length) Slot.unset).toArray = ls at hl ⊢
  have hl : lv_has ls 3 [(0, .ref (q a0)), (1, .int v1)] := hl
  unfold fX0_liveSponge at h
  refine lv_aload_n (pc := 0) hx hb dX0_liveSponge_0 rfl (lv_at hl 0 rfl) ?_
  refine lv_iload_n (pc := 1) hx hb dX0_liveSponge_1 rfl (lv_at hl 1 rfl) ?_
  obtain ⟨r2, k1, h⟩ := zBd_e h
  refine zr_VI (pc := 2) (rest := []) cx cv_X0_135 (mX6_whyNotSponge ha0 k1) ⟨⟨rfl, rfl⟩, Nat.le_of_ble_eq_true rfl, Nat.le_of_ble_eq_true rfl⟩ ⟨Nat.le_of_ble_eq_true rfl, Nat.le_of_ble_eq_true rfl⟩ hP (nX6_0 ha0) (sX6_0 ha0) rfl hl.1 rfl rfl (Nat.le_of_ble_eq_true rfl) dX0_liveSponge_2 ?_
  refine lv_istore_n (lv' := [(2, .int r2), (0, .ref (q a0)), (1, .int v1)]) (pc := 5) hx hb dX0_liveSponge_5 rfl hl (by decide) rfl (fun ls hl => ?_)
  refine lv_iload_n (pc := 6) hx hb dX0_liveSponge_6 rfl (lv_at hl 0 rfl) ?_
  refine lv_if_eq (pc := 7) (tgt := 15) hx hb dX0_liveSponge_7 (by decide) (fun c3 => ?_) (fun c3 => ?_)
  · replace h := zBr_t c3 h
    refine lv_aload_n (pc := 15) hx hb dX0_liveSponge_15 rfl (lv_at hl 1 rfl) ?_
    refine lv_iload_n (pc := 16) hx hb dX0_liveSponge_16 rfl (lv_at hl 2 rfl) ?_
    obtain ⟨S5, k4, h⟩ := zBd_e h
    refine zr_VV (pc := 17) (rest := []) cx cv_X0_139 (mX6_spongeOff hq ha0 k4) ⟨⟨rfl, rfl⟩, Nat.le_of_ble_eq_true rfl, Nat.le_of_ble_eq_true rfl⟩ ⟨Nat.le_of_ble_eq_true rfl, Nat.le_of_ble_eq_true rfl⟩ hP hS (nX6_0 ha0) (sX6_0 ha0) rfl hl.1 rfl rfl (Nat.le_of_ble_eq_true rfl) dX0_liveSponge_17 (fun H locs hP hS => ?_)
    refine lv_iconst (pc := 20) hx hb dX0_liveSponge_20 zc_0 ?_
    have hz := Option.some.inj h
    exact zr_rqI (pc := 21) cx hr hlk hP hS hz dX0_liveSponge_21
  · replace h := zBr_f c3 h
    refine lv_bipush (pc := 10) hx hb dX0_liveSponge_10 zb_10 ?_
    refine lv_iload_n (pc := 12) hx hb dX0_liveSponge_12 rfl (lv_at hl 0 rfl) ?_
    refine lv_iadd (pc := 13) hx hb dX0_liveSponge_13 ?_
    have hz := Option.some.inj h
    exact zr_rqI (pc := 14) cx hr hlk hP hS hz dX0_liveSponge_14
-- X0_liveLine
abbrev rmX0_liveLine : Room := { frames := 4, cells := 0, slots := 0, locals := 89 }
def fX0_liveLine (S : zSt) (a1 : Nat) (v2 : Int32) : Option (Int32 × zSt) :=
  zGd (zIx v2 40) (zBr ((S.1 241 v2.toNatClampNeg) = 8) (zBp (fX0_liveDoes S a1 v2) (fun r7 S6 => some (r7, S6))) (zBr ((S.1 241 v2.toNatClampNeg) = 9) (zGd (zIx v2 40) (zBp (fX0_liveSponge S a1 (S.1 242 v2.toNatClampNeg)) (fun r11 S10 => some (r11, S10)))) (zBr ((S.1 241 v2.toNatClampNeg) = 10) (zGd (zIx v2 40) (zGd (zIx v2 40) (zBp (fX0_liveCarry S a1 (S.1 242 v2.toNatClampNeg) (S.1 243 v2.toNatClampNeg)) (fun r16 S15 => some (r16, S15))))) (zGd (zIx v2 40) (zBp (fX0_liveDay S a1 (S.1 242 v2.toNatClampNeg)) (fun r20 S19 => some (r20, S19)))))))
set_option maxHeartbeats 4000000 in
set_option maxRecDepth 100000 in
theorem mX0_liveLine {l : Launch} {D : va_G} {cy : Nat → ClassId} {q : Nat → Nat} {A : Nat → Prop} {S : zSt} {a1 : Nat} {v2 : Int32} (hq : zQ A q zNC) (ha1 : zLife a1) {z : (Int32 × zSt)} (h : fX0_liveLine S a1 v2 = some z) : zMq l yX0_liveLine cX0_liveLine 3 (some .int) rmX0_liveLine [.ref (q 240), .ref (q a1), .int v2] zsh zNC D cy q A S z := by
  refine Met.ofW (cc := cX0_liveLine) (maxL := 3) (ret := (some .int)) (by decide) rfl ?_
  intro p e s m args below meth c s₁ B hml hv
  obtain ⟨rfl, hP, hK⟩ := hv
  have cx : zX RX0 cX0_liveLine 3 p s m ([.ref (q 240), .ref (q a1), .int v2]).toArray c D cy := ⟨B.exec, B.bytes, hml, findClass_of_methodNamed B.named, fun w hw => atoms_spec (ws := Cond.code yX0_liveLine cX0_liveLine 3 (some .int) :: zTB) B.pre w (List.mem_cons_of_mem _ hw), hK⟩
  have hx := cx.1
  have hb := cx.2.1
  have hr := B.returns
  have hlk := B.notSynchronized
  have hS : va_S A s.heap s.heap [] := va_S.rf
  have hl := lv_entry ([.ref (q 240), .ref (q a1), .int v2]) (n := 3) (Nat.le_of_ble_eq_true rfl)
  rw [lg_entry_eq]
  generalize (lg_sl ([.ref (q 240), .ref (q a1), .int v2]) ++ List.replicate (3 - (lg_sl ([.ref (q 240), .ref (q a1), .int v2])).length) Slot.unset).toArray = ls at hl ⊢
  have hl : lv_has ls 3 [(0, .ref (q 240)), (1, .ref (q a1)), (2, .int v2)] := hl
  unfold fX0_liveLine at h
  refine lv_aload_n (pc := 0) hx hb dX0_liveLine_0 rfl (lv_at hl 0 rfl) ?_
  refine zr_getR (pc := 1) (t := 241) cx lk_X0_9 hP nC_240 sC_240 rfl dX0_liveLine_1 ?_
  refine lv_iload_n (pc := 4) hx hb dX0_liveLine_4 rfl (lv_at hl 2 rfl) ?_
  obtain ⟨g1, h⟩ := zGd_e h
  refine zr_iald (pc := 5) cx hP nC_241 sC_241 g1 dX0_liveLine_5 ?_
  by_cases c2 : (S.1 241 v2.toNatClampNeg) = 8
  · replace h := zBr_t c2 h
    refine lv_tableIn (pc := 6) (off := 26) (tgt := 32) hx hb dX0_liveLine_6 (by rw [c2]; decide) (by rw [c2]; decide) (by rw [c2]; rfl) (by decide) ?_
    refine lv_aload_n (pc := 32) hx hb dX0_liveLine_32 rfl (lv_at hl 0 rfl) ?_
    refine lv_aload_n (pc := 33) hx hb dX0_liveLine_33 rfl (lv_at hl 1 rfl) ?_
    refine lv_iload_n (pc := 34) hx hb dX0_liveLine_34 rfl (lv_at hl 2 rfl) ?_
    obtain ⟨r7, S6, k5, h⟩ := zBp_e h
    refine zr_VQ (pc := 35) (rest := []) cx cv_X0_115 (mX0_liveDoes hq ha1 k5) ⟨⟨rfl, rfl⟩, Nat.le_of_ble_eq_true rfl, Nat.le_of_ble_eq_true rfl⟩ ⟨Nat.le_of_ble_eq_true rfl, Nat.le_of_ble_eq_true rfl⟩ hP hS nC_240 sC_240 rfl hl.1 rfl rfl (Nat.le_of_ble_eq_true rfl) dX0_liveLine_35 (fun H locs hP hS => ?_)
    have hz := Option.some.inj h
    exact zr_rqI (pc := 38) cx hr hlk hP hS hz dX0_liveLine_38
  · replace h := zBr_f c2 h
    by_cases c3 : (S.1 241 v2.toNatClampNeg) = 9
    · replace h := zBr_t c3 h
      refine lv_tableIn (pc := 6) (off := 33) (tgt := 39) hx hb dX0_liveLine_6 (by rw [c3]; decide) (by rw [c3]; decide) (by rw [c3]; rfl) (by decide) ?_
      refine lv_aload_n (pc := 39) hx hb dX0_liveLine_39 rfl (lv_at hl 1 rfl) ?_
      refine lv_aload_n (pc := 40) hx hb dX0_liveLine_40 rfl (lv_at hl 0 rfl) ?_
      refine zr_getR (pc := 41) (t := 242) cx lk_X0_15 hP nC_240 sC_240 rfl dX0_liveLine_41 ?_
      refine lv_iload_n (pc := 44) hx hb dX0_liveLine_44 rfl (lv_at hl 2 rfl) ?_
      obtain ⟨g8, h⟩ := zGd_e h
      refine zr_iald (pc := 45) cx hP nC_242 sC_242 g8 dX0_liveLine_45 ?_
      obtain ⟨r11, S10, k9, h⟩ := zBp_e h
      refine zr_SQ (pc := 46) (rest := []) cx cv_X0_118 (mX0_liveSponge hq ha1 k9) ⟨⟨rfl, rfl⟩, Nat.le_of_ble_eq_true rfl, Nat.le_of_ble_eq_true rfl⟩ ⟨Nat.le_of_ble_eq_true rfl, Nat.le_of_ble_eq_true rfl⟩ hP hS hl.1 rfl rfl (Nat.le_of_ble_eq_true rfl) dX0_liveLine_46 (fun H locs hP hS => ?_)
      have hz := Option.some.inj h
      exact zr_rqI (pc := 49) cx hr hlk hP hS hz dX0_liveLine_49
    · replace h := zBr_f c3 h
      by_cases c4 : (S.1 241 v2.toNatClampNeg) = 10
      · replace h := zBr_t c4 h
        refine lv_tableIn (pc := 6) (off := 44) (tgt := 50) hx hb dX0_liveLine_6 (by rw [c4]; decide) (by rw [c4]; decide) (by rw [c4]; rfl) (by decide) ?_
        refine lv_aload_n (pc := 50) hx hb dX0_liveLine_50 rfl (lv_at hl 1 rfl) ?_
        refine lv_aload_n (pc := 51) hx hb dX0_liveLine_51 rfl (lv_at hl 0 rfl) ?_
        refine zr_getR (pc := 52) (t := 242) cx lk_X0_15 hP nC_240 sC_240 rfl dX0_liveLine_52 ?_
        refine lv_iload_n (pc := 55) hx hb dX0_liveLine_55 rfl (lv_at hl 2 rfl) ?_
        obtain ⟨g12, h⟩ := zGd_e h
        refine zr_iald (pc := 56) cx hP nC_242 sC_242 g12 dX0_liveLine_56 ?_
        refine lv_aload_n (pc := 57) hx hb dX0_liveLine_57 rfl (lv_at hl 0 rfl) ?_
        refine zr_getR (pc := 58) (t := 243) cx lk_X0_18 hP nC_240 sC_240 rfl dX0_liveLine_58 ?_
        refine lv_iload_n (pc := 61) hx hb dX0_liveLine_61 rfl (lv_at hl 2 rfl) ?_
        obtain ⟨g13, h⟩ := zGd_e h
        refine zr_iald (pc := 62) cx hP nC_243 sC_243 g13 dX0_liveLine_62 ?_
        obtain ⟨r16, S15, k14, h⟩ := zBp_e h
        refine zr_SQ (pc := 63) (rest := []) cx cv_X0_121 (mX0_liveCarry hq ha1 k14) ⟨⟨rfl, rfl⟩, Nat.le_of_ble_eq_true rfl, Nat.le_of_ble_eq_true rfl⟩ ⟨Nat.le_of_ble_eq_true rfl, Nat.le_of_ble_eq_true rfl⟩ hP hS hl.1 rfl rfl (Nat.le_of_ble_eq_true rfl) dX0_liveLine_63 (fun H locs hP hS => ?_)
        have hz := Option.some.inj h
        exact zr_rqI (pc := 66) cx hr hlk hP hS hz dX0_liveLine_66
      · replace h := zBr_f c4 h
        refine zr_tsD (pc := 6) (tgt := 67) hx hb dX0_liveLine_6 (fun h1 h2 => ?_) (by decide) ?_
        · rcases (show ((S.1 241 v2.toNatClampNeg)).toInt = 8 ∨ ((S.1 241 v2.toNatClampNeg)).toInt = 9 ∨ ((S.1 241 v2.toNatClampNeg)).toInt = 10 by omega) with e9 | e9 | e9
          · exact absurd (Int32.toInt_inj.mp (e9.trans (by decide))) c2
          · exact absurd (Int32.toInt_inj.mp (e9.trans (by decide))) c3
          · exact absurd (Int32.toInt_inj.mp (e9.trans (by decide))) c4
        · skip
          refine lv_aload_n (pc := 67) hx hb dX0_liveLine_67 rfl (lv_at hl 1 rfl) ?_
          refine lv_aload_n (pc := 68) hx hb dX0_liveLine_68 rfl (lv_at hl 0 rfl) ?_
          refine zr_getR (pc := 69) (t := 242) cx lk_X0_15 hP nC_240 sC_240 rfl dX0_liveLine_69 ?_
          refine lv_iload_n (pc := 72) hx hb dX0_liveLine_72 rfl (lv_at hl 2 rfl) ?_
          obtain ⟨g17, h⟩ := zGd_e h
          refine zr_iald (pc := 73) cx hP nC_242 sC_242 g17 dX0_liveLine_73 ?_
          obtain ⟨r20, S19, k18, h⟩ := zBp_e h
          refine zr_SQ (pc := 74) (rest := []) cx cv_X0_125 (mX0_liveDay hq ha1 k18) ⟨⟨rfl, rfl⟩, Nat.le_of_ble_eq_true rfl, Nat.le_of_ble_eq_true rfl⟩ ⟨Nat.le_of_ble_eq_true rfl, Nat.le_of_ble_eq_true rfl⟩ hP hS hl.1 rfl rfl (Nat.le_of_ble_eq_true rfl) dX0_liveLine_74 (fun H locs hP hS => ?_)
          have hz := Option.some.inj h
          exact zr_rqI (pc := 77) cx hr hlk hP hS hz dX0_liveLine_77
-- J6_bitCount_0f7a4
abbrev rmJ6_bitCount_0f7a4 : Room := { frames := 0, cells := 0, slots := 0, locals := 0 }
def fJ6_bitCount_0f7a4 (v0 : Int32) : Option Int32 :=
  zLt (v0 - ((zUsh v0 (1 : Int32)) &&& (1431655765 : Int32))) (fun x1 => zLt ((x1 &&& (858993459 : Int32)) + ((zUsh x1 (2 : Int32)) &&& (858993459 : Int32))) (fun x2 => zLt ((x2 + (zUsh x2 (4 : Int32))) &&& (252645135 : Int32)) (fun x3 => zLt (x3 + (zUsh x3 (8 : Int32))) (fun x4 => zLt (x4 + (zUsh x4 (16 : Int32))) (fun x5 => some (x5 &&& (63 : Int32)))))))
set_option maxHeartbeats 4000000 in
set_option maxRecDepth 100000 in
theorem mJ6_bitCount_0f7a4 {l : Launch} {D : va_G} {cy : Nat → ClassId} {v0 : Int32} {z : Int32} (h : fJ6_bitCount_0f7a4 v0 = some z) : zMi l yJ6_bitCount_0f7a4 cJ6_bitCount_0f7a4 1 (some .int) rmJ6_bitCount_0f7a4 [.int v0] (zPk D cy) z := by
  refine Met.ofW (cc := cJ6_bitCount_0f7a4) (maxL := 1) (ret := (some .int)) (by decide) rfl ?_
  intro p e s m args below meth c s₁ B hml hv
  obtain ⟨rfl, hK⟩ := hv
  have cx : zX RJ6 cJ6_bitCount_0f7a4 1 p s m ([.int v0]).toArray c D cy := ⟨B.exec, B.bytes, hml, findClass_of_methodNamed B.named, fun w hw => atoms_spec (ws := Cond.code yJ6_bitCount_0f7a4 cJ6_bitCount_0f7a4 1 (some .int) :: zTB) B.pre w (List.mem_cons_of_mem _ hw), hK⟩
  have hx := cx.1
  have hb := cx.2.1
  have hr := B.returns
  have hlk := B.notSynchronized
  have hl := lv_entry ([.int v0]) (n := 1) (Nat.le_of_ble_eq_true rfl)
  rw [lg_entry_eq]
  generalize (lg_sl ([.int v0]) ++ List.replicate (1 - (lg_sl ([.int v0])).length) Slot.unset).toArray = ls at hl ⊢
  have hl : lv_has ls 1 [(0, .int v0)] := hl
  unfold fJ6_bitCount_0f7a4 at h
  refine lv_iload_n (pc := 0) hx hb dJ6_bitCount_0f7a4_0 rfl (lv_at hl 0 rfl) ?_
  refine lv_iload_n (pc := 1) hx hb dJ6_bitCount_0f7a4_1 rfl (lv_at hl 0 rfl) ?_
  refine lv_iconst (pc := 2) hx hb dJ6_bitCount_0f7a4_2 zc_1 ?_
  refine lv_iushr (v := (zUsh v0 (1 : Int32))) (pc := 3) hx hb dJ6_bitCount_0f7a4_3 rfl ?_
  refine lv_ldcw (pc := 4) hx hb cx.2.2.2.1 (cx.2.2.2.2.1 _ wd_734) dJ6_bitCount_0f7a4_4 ?_
  refine lv_iand (pc := 7) hx hb dJ6_bitCount_0f7a4_7 ?_
  refine lv_isub (pc := 8) hx hb dJ6_bitCount_0f7a4_8 ?_
  obtain ⟨x1, ex1, h⟩ := zLt_e h
  refine zr_nmI ex1 ?_
  refine lv_istore_n (lv' := [(0, .int x1)]) (pc := 9) hx hb dJ6_bitCount_0f7a4_9 rfl hl (by decide) rfl (fun ls hl => ?_)
  refine lv_iload_n (pc := 10) hx hb dJ6_bitCount_0f7a4_10 rfl (lv_at hl 0 rfl) ?_
  refine lv_ldcw (pc := 11) hx hb cx.2.2.2.1 (cx.2.2.2.2.1 _ wd_735) dJ6_bitCount_0f7a4_11 ?_
  refine lv_iand (pc := 14) hx hb dJ6_bitCount_0f7a4_14 ?_
  refine lv_iload_n (pc := 15) hx hb dJ6_bitCount_0f7a4_15 rfl (lv_at hl 0 rfl) ?_
  refine lv_iconst (pc := 16) hx hb dJ6_bitCount_0f7a4_16 zc_2 ?_
  refine lv_iushr (v := (zUsh x1 (2 : Int32))) (pc := 17) hx hb dJ6_bitCount_0f7a4_17 rfl ?_
  refine lv_ldcw (pc := 18) hx hb cx.2.2.2.1 (cx.2.2.2.2.1 _ wd_735) dJ6_bitCount_0f7a4_18 ?_
  refine lv_iand (pc := 21) hx hb dJ6_bitCount_0f7a4_21 ?_
  refine lv_iadd (pc := 22) hx hb dJ6_bitCount_0f7a4_22 ?_
  obtain ⟨x2, ex2, h⟩ := zLt_e h
  refine zr_nmI ex2 ?_
  refine lv_istore_n (lv' := [(0, .int x2)]) (pc := 23) hx hb dJ6_bitCount_0f7a4_23 rfl hl (by decide) rfl (fun ls hl => ?_)
  refine lv_iload_n (pc := 24) hx hb dJ6_bitCount_0f7a4_24 rfl (lv_at hl 0 rfl) ?_
  refine lv_iload_n (pc := 25) hx hb dJ6_bitCount_0f7a4_25 rfl (lv_at hl 0 rfl) ?_
  refine lv_iconst (pc := 26) hx hb dJ6_bitCount_0f7a4_26 zc_4 ?_
  refine lv_iushr (v := (zUsh x2 (4 : Int32))) (pc := 27) hx hb dJ6_bitCount_0f7a4_27 rfl ?_
  refine lv_iadd (pc := 28) hx hb dJ6_bitCount_0f7a4_28 ?_
  refine lv_ldcw (pc := 29) hx hb cx.2.2.2.1 (cx.2.2.2.2.1 _ wd_736) dJ6_bitCount_0f7a4_29 ?_
  refine lv_iand (pc := 32) hx hb dJ6_bitCount_0f7a4_32 ?_
  obtain ⟨x3, ex3, h⟩ := zLt_e h
  refine zr_nmI ex3 ?_
  refine lv_istore_n (lv' := [(0, .int x3)]) (pc := 33) hx hb dJ6_bitCount_0f7a4_33 rfl hl (by decide) rfl (fun ls hl => ?_)
  refine lv_iload_n (pc := 34) hx hb dJ6_bitCount_0f7a4_34 rfl (lv_at hl 0 rfl) ?_
  refine lv_iload_n (pc := 35) hx hb dJ6_bitCount_0f7a4_35 rfl (lv_at hl 0 rfl) ?_
  refine lv_bipush (pc := 36) hx hb dJ6_bitCount_0f7a4_36 zb_8 ?_
  refine lv_iushr (v := (zUsh x3 (8 : Int32))) (pc := 38) hx hb dJ6_bitCount_0f7a4_38 rfl ?_
  refine lv_iadd (pc := 39) hx hb dJ6_bitCount_0f7a4_39 ?_
  obtain ⟨x4, ex4, h⟩ := zLt_e h
  refine zr_nmI ex4 ?_
  refine lv_istore_n (lv' := [(0, .int x4)]) (pc := 40) hx hb dJ6_bitCount_0f7a4_40 rfl hl (by decide) rfl (fun ls hl => ?_)
  refine lv_iload_n (pc := 41) hx hb dJ6_bitCount_0f7a4_41 rfl (lv_at hl 0 rfl) ?_
  refine lv_iload_n (pc := 42) hx hb dJ6_bitCount_0f7a4_42 rfl (lv_at hl 0 rfl) ?_
  refine lv_bipush (pc := 43) hx hb dJ6_bitCount_0f7a4_43 zb_16 ?_
  refine lv_iushr (v := (zUsh x4 (16 : Int32))) (pc := 45) hx hb dJ6_bitCount_0f7a4_45 rfl ?_
  refine lv_iadd (pc := 46) hx hb dJ6_bitCount_0f7a4_46 ?_
  obtain ⟨x5, ex5, h⟩ := zLt_e h
  refine zr_nmI ex5 ?_
  refine lv_istore_n (lv' := [(0, .int x5)]) (pc := 47) hx hb dJ6_bitCount_0f7a4_47 rfl hl (by decide) rfl (fun ls hl => ?_)
  refine lv_iload_n (pc := 48) hx hb dJ6_bitCount_0f7a4_48 rfl (lv_at hl 0 rfl) ?_
  refine lv_bipush (pc := 49) hx hb dJ6_bitCount_0f7a4_49 zb_63 ?_
  refine lv_iand (pc := 51) hx hb dJ6_bitCount_0f7a4_51 ?_
  have hz := Option.some.inj h
  exact zr_reI (pc := 52) cx hr hlk hz dJ6_bitCount_0f7a4_52
-- X6_witnessesBy
abbrev rmX6_witnessesBy : Room := { frames := 1, cells := 0, slots := 0, locals := 20 }
def fX6_witnessesBy_47 (S : zSt) (a0 : Nat) (v1 : Int32) (v2 : Int32) (v3 : Int32) (v4 : Int32) : Option ((Int32 × Int32) ⊕ Int32) :=
  zLt (v4 + (1 : Int32)) (fun x8 => some (.inl (v3, x8)))
set_option maxHeartbeats 4000000 in
set_option maxRecDepth 100000 in
theorem kX6_witnessesBy_47 {p : Program} {l : Launch} {e : Env} {s : State} {m : MethodId} {args : Array Value} {below : List Frame} {meth : Method} {c : Code} {D : va_G} {cy : Nat → ClassId} {q : Nat → Nat} (cx : zX RX6 cX6_witnessesBy 5 p s m args c D cy) (hr : meth.sig.returnType = (some .int)) (hlk : meth.locks = false) {a0 : Nat} (ha0 : zLife a0) {z : Int32} {S : zSt} {v1 : Int32} {v2 : Int32} {v3 : Int32} {v4 : Int32} {C1 : ((Int32 × Int32) ⊕ Int32) → Prop} (hb1 : ∀ (v3 : Int32) (v4 : Int32), C1 (.inl (v3, v4)) → ∀ (ls : Array Slot), lv_has ls 5 [(0, .ref (q a0)), (1, .int v1), (2, .int v2), (3, .int v3), (4, .int v4)] → W p l e rmX6_witnessesBy s m args below meth c s.heap [] 0 0 (MQ below (vp_Si (fun x => x = z)) args s 0 0 (fun _ => False)) (F0 m 5 ls [])) (hx1 : ∀ a, C1 (.inr a) → a = z) (hP : va_P D vwCl (zW zsh zNC cy q S) s.heap) {x : ((Int32 × Int32) ⊕ Int32)} (h : fX6_witnessesBy_47 S a0 v1 v2 v3 v4 = some x) (hc : C1 x) {ls : Array Slot} (hl : lv_has ls 5 [(0, .ref (q a0)), (1, .int v1), (2, .int v2), (3, .int v3), (4, .int v4)]) : W p l e rmX6_witnessesBy s m args below meth c s.heap [] 0 0 (MQ below (vp_Si (fun x => x = z)) args s 0 0 (fun _ => False)) (F0 m 47 ls []) := by
  have hx := cx.1
  have hb := cx.2.1
  unfold fX6_witnessesBy_47 at h
  obtain ⟨x8, ex8, h⟩ := zLt_e h
  refine lv_iinc (v := x8) (lv' := [(4, .int x8), (0, .ref (q a0)), (1, .int v1), (2, .int v2), (3, .int v3)]) (pc := 47) hx hb dX6_witnessesBy_47 hl (k := 4) rfl (by rw [zc_1]; exact ex8.symm) (by decide) rfl (fun ls hl => ?_)
  refine lv_goto (pc := 50) (tgt := 5) hx hb dX6_witnessesBy_50 (by decide) ?_
  cases h
  exact hb1 _ _ hc _ (lv_sub hl [1, 2, 3, 4, 0] rfl)
def fX6_witnessesBy_5 (S : zSt) (a0 : Nat) (v1 : Int32) (v2 : Int32) (t : (Int32 × Int32)) : Option ((Int32 × Int32) ⊕ Int32) :=
  match t with
  | (v3, v4) => zBd (fX6_plants S a0) (fun r2 => zBr (r2 ≤ v4) (zXr (some v3)) (zGd (zIx v4 6) (zGd (zIx v1 12) (zBr ((S.1 (a0 + 6 + v4.toNatClampNeg) v1.toNatClampNeg) = (-1 : Int32)) (fX6_witnessesBy_47 S a0 v1 v2 v3 v4) (zGd (zIx v4 6) (zGd (zIx v1 12) (zBr (v2 < (S.1 (a0 + 6 + v4.toNatClampNeg) v1.toNatClampNeg)) (fX6_witnessesBy_47 S a0 v1 v2 v3 v4) (zLt (v3 ||| ((1 : Int32) <<< (v4 &&& 31))) (fun x12 => fX6_witnessesBy_47 S a0 v1 v2 x12 v4)))))))))
set_option maxHeartbeats 4000000 in
set_option maxRecDepth 100000 in
theorem kX6_witnessesBy_5B {p : Program} {l : Launch} {e : Env} {s : State} {m : MethodId} {args : Array Value} {below : List Frame} {meth : Method} {c : Code} {D : va_G} {cy : Nat → ClassId} {q : Nat → Nat} (cx : zX RX6 cX6_witnessesBy 5 p s m args c D cy) (hr : meth.sig.returnType = (some .int)) (hlk : meth.locks = false) {a0 : Nat} (ha0 : zLife a0) {z : Int32} {S : zSt} {v1 : Int32} {v2 : Int32} {v3 : Int32} {v4 : Int32} {C1 : ((Int32 × Int32) ⊕ Int32) → Prop} (hb1 : ∀ (v3 : Int32) (v4 : Int32), C1 (.inl (v3, v4)) → ∀ (ls : Array Slot), lv_has ls 5 [(0, .ref (q a0)), (1, .int v1), (2, .int v2), (3, .int v3), (4, .int v4)] → W p l e rmX6_witnessesBy s m args below meth c s.heap [] 0 0 (MQ below (vp_Si (fun x => x = z)) args s 0 0 (fun _ => False)) (F0 m 5 ls [])) (hx1 : ∀ a, C1 (.inr a) → a = z) (hP : va_P D vwCl (zW zsh zNC cy q S) s.heap) {x : ((Int32 × Int32) ⊕ Int32)} (h : fX6_witnessesBy_5 S a0 v1 v2 (v3, v4) = some x) (hc : C1 x) {ls : Array Slot} (hl : lv_has ls 5 [(0, .ref (q a0)), (1, .int v1), (2, .int v2), (3, .int v3), (4, .int v4)]) : W p l e rmX6_witnessesBy s m args below meth c s.heap [] 0 0 (MQ below (vp_Si (fun x => x = z)) args s 0 0 (fun _ => False)) (F0 m 5 ls []) := by
  have hx := cx.1
  have hb := cx.2.1
  unfold fX6_witnessesBy_5 at h
  dsimp only at h
  refine lv_iload (pc := 5) hx hb dX6_witnessesBy_5 (lv_at hl 4 rfl) ?_
  refine lv_aload_n (pc := 7) hx hb dX6_witnessesBy_7 rfl (lv_at hl 0 rfl) ?_
  obtain ⟨r2, k1, h⟩ := zBd_e h
  refine zr_VI (pc := 8) (rest := [.int v4]) cx cv_X6_86 (mX6_plants ha0 k1) ⟨⟨rfl, rfl⟩, Nat.le_of_ble_eq_true rfl, Nat.le_of_ble_eq_true rfl⟩ ⟨Nat.le_of_ble_eq_true rfl, Nat.le_of_ble_eq_true rfl⟩ hP (nX6_0 ha0) (sX6_0 ha0) rfl hl.1 rfl rfl (Nat.le_of_ble_eq_true rfl) dX6_witnessesBy_8 ?_
  refine lv_icmp_ge (pc := 11) (tgt := 53) hx hb dX6_witnessesBy_11 (by decide) (fun c3 => ?_) (fun c3 => ?_)
  · replace h := zBr_t c3 h
    obtain ⟨y4, h, ex⟩ := zXr_e h
    have hc := hx1 y4 (by rw [ex] at hc; exact hc)
    rw [hc] at h
    refine lv_iload_n (pc := 53) hx hb dX6_witnessesBy_53 rfl (lv_at hl 3 rfl) ?_
    have hz := Option.some.inj h
    exact zr_reI (pc := 54) cx hr hlk hz dX6_witnessesBy_54
  · replace h := zBr_f c3 h
    refine lv_aload_n (pc := 14) hx hb dX6_witnessesBy_14 rfl (lv_at hl 0 rfl) ?_
    refine zr_getR (pc := 15) (t := (a0 + 5)) cx lk_X6_26 hP (nX6_0 ha0) (sX6_0 ha0) rfl dX6_witnessesBy_15 ?_
    refine lv_iload (pc := 18) hx hb dX6_witnessesBy_18 (lv_at hl 4 rfl) ?_
    obtain ⟨g5, h⟩ := zGd_e h
    refine zr_aald (pc := 20) (g := (a0 + 6 + v4.toNatClampNeg)) cx hP (nX6_5 ha0) (sX6_5 ha0) (Or.inr (Or.inr rfl)) g5 rfl dX6_witnessesBy_20 ?_
    refine lv_iload_n (pc := 21) hx hb dX6_witnessesBy_21 rfl (lv_at hl 1 rfl) ?_
    obtain ⟨g6, h⟩ := zGd_e h
    refine zr_iald (pc := 22) cx hP (nX6_r ha0 g5) (sX6_r ha0 g5) g6 dX6_witnessesBy_22 ?_
    refine lv_iconst (pc := 23) hx hb dX6_witnessesBy_23 zc_m1 ?_
    refine lv_icmp_eq (pc := 24) (tgt := 47) hx hb dX6_witnessesBy_24 (by decide) (fun c7 => ?_) (fun c7 => ?_)
    · replace h := zBr_t c7 h
      exact kX6_witnessesBy_47 cx hr hlk ha0 hb1 hx1 hP h hc (lv_sub hl [0, 1, 2, 3, 4] rfl)
    · replace h := zBr_f c7 h
      refine lv_aload_n (pc := 27) hx hb dX6_witnessesBy_27 rfl (lv_at hl 0 rfl) ?_
      refine zr_getR (pc := 28) (t := (a0 + 5)) cx lk_X6_26 hP (nX6_0 ha0) (sX6_0 ha0) rfl dX6_witnessesBy_28 ?_
      refine lv_iload (pc := 31) hx hb dX6_witnessesBy_31 (lv_at hl 4 rfl) ?_
      obtain ⟨g9, h⟩ := zGd_e h
      refine zr_aald (pc := 33) (g := (a0 + 6 + v4.toNatClampNeg)) cx hP (nX6_5 ha0) (sX6_5 ha0) (Or.inr (Or.inr rfl)) g9 rfl dX6_witnessesBy_33 ?_
      refine lv_iload_n (pc := 34) hx hb dX6_witnessesBy_34 rfl (lv_at hl 1 rfl) ?_
      obtain ⟨g10, h⟩ := zGd_e h
      refine zr_iald (pc := 35) cx hP (nX6_r ha0 g9) (sX6_r ha0 g9) g10 dX6_witnessesBy_35 ?_
      refine lv_iload_n (pc := 36) hx hb dX6_witnessesBy_36 rfl (lv_at hl 2 rfl) ?_
      refine lv_icmp_gt (pc := 37) (tgt := 47) hx hb dX6_witnessesBy_37 (by decide) (fun c11 => ?_) (fun c11 => ?_)
      · replace h := zBr_t c11 h
        exact kX6_witnessesBy_47 cx hr hlk ha0 hb1 hx1 hP h hc (lv_sub hl [0, 1, 2, 3, 4] rfl)
      · replace h := zBr_f c11 h
        refine lv_iload_n (pc := 40) hx hb dX6_witnessesBy_40 rfl (lv_at hl 3 rfl) ?_
        refine lv_iconst (pc := 41) hx hb dX6_witnessesBy_41 zc_1 ?_
        refine lv_iload (pc := 42) hx hb dX6_witnessesBy_42 (lv_at hl 4 rfl) ?_
        refine lv_ishl (pc := 44) hx hb dX6_witnessesBy_44 ?_
        refine lv_ior (pc := 45) hx hb dX6_witnessesBy_45 ?_
        obtain ⟨x12, ex12, h⟩ := zLt_e h
        refine zr_nmI ex12 ?_
        refine lv_istore_n (lv' := [(3, .int x12), (0, .ref (q a0)), (1, .int v1), (2, .int v2), (4, .int v4)]) (pc := 46) hx hb dX6_witnessesBy_46 rfl hl (by decide) rfl (fun ls hl => ?_)
        exact kX6_witnessesBy_47 cx hr hlk ha0 hb1 hx1 hP h hc (lv_sub hl [1, 2, 3, 0, 4] rfl)
set_option maxHeartbeats 4000000 in
set_option maxRecDepth 100000 in
theorem kX6_witnessesBy_5 {p : Program} {l : Launch} {e : Env} {s : State} {m : MethodId} {args : Array Value} {below : List Frame} {meth : Method} {c : Code} {D : va_G} {cy : Nat → ClassId} {q : Nat → Nat} (cx : zX RX6 cX6_witnessesBy 5 p s m args c D cy) (hr : meth.sig.returnType = (some .int)) (hlk : meth.locks = false) {a0 : Nat} (ha0 : zLife a0) {z : Int32} {S : zSt} {v1 : Int32} {v2 : Int32} (hP : va_P D vwCl (zW zsh zNC cy q S) s.heap) : ∀ (n : Nat) (v3 : Int32) (v4 : Int32), zLp (fX6_witnessesBy_5 S a0 v1 v2) n (v3, v4) = some z → ∀ (ls : Array Slot), lv_has ls 5 [(0, .ref (q a0)), (1, .int v1), (2, .int v2), (3, .int v3), (4, .int v4)] → W p l e rmX6_witnessesBy s m args below meth c s.heap [] 0 0 (MQ below (vp_Si (fun x => x = z)) args s 0 0 (fun _ => False)) (F0 m 5 ls []) := by
  intro n
  induction n with
  | zero =>
    intro v3 v4 h
    cases h
  | succ n ih =>
    intro v3 v4 h ls hl
    obtain ⟨x, h, hk⟩ := zLp_e h
    exact kX6_witnessesBy_5B cx hr hlk ha0  (C1 := zKt (fun t => zLp (fX6_witnessesBy_5 S a0 v1 v2) n t = some z) (fun a => a = z)) (fun v3 v4 ht ls hl => ih v3 v4 ht ls hl) (fun a ha => ha) hP h hk hl
def fX6_witnessesBy (S : zSt) (a0 : Nat) (v1 : Int32) (v2 : Int32) : Option Int32 :=
  zLp (fX6_witnessesBy_5 S a0 v1 v2) 2000 ((0 : Int32), (0 : Int32))
set_option maxHeartbeats 4000000 in
set_option maxRecDepth 100000 in
theorem mX6_witnessesBy {l : Launch} {D : va_G} {cy : Nat → ClassId} {q : Nat → Nat} {S : zSt} {a0 : Nat} {v1 : Int32} {v2 : Int32} (ha0 : zLife a0) {z : Int32} (h : fX6_witnessesBy S a0 v1 v2 = some z) : zMi l yX6_witnessesBy cX6_witnessesBy 5 (some .int) rmX6_witnessesBy [.ref (q a0), .int v1, .int v2] (zPr zsh zNC D cy q S) z := by
  refine Met.ofW (cc := cX6_witnessesBy) (maxL := 5) (ret := (some .int)) (by decide) rfl ?_
  intro p e s m args below meth c s₁ B hml hv
  obtain ⟨rfl, hP, hK⟩ := hv
  have cx : zX RX6 cX6_witnessesBy 5 p s m ([.ref (q a0), .int v1, .int v2]).toArray c D cy := ⟨B.exec, B.bytes, hml, findClass_of_methodNamed B.named, fun w hw => atoms_spec (ws := Cond.code yX6_witnessesBy cX6_witnessesBy 5 (some .int) :: zTB) B.pre w (List.mem_cons_of_mem _ hw), hK⟩
  have hx := cx.1
  have hb := cx.2.1
  have hr := B.returns
  have hlk := B.notSynchronized
  have hl := lv_entry ([.ref (q a0), .int v1, .int v2]) (n := 5) (Nat.le_of_ble_eq_true rfl)
  rw [lg_entry_eq]
  generalize (lg_sl ([.ref (q a0), .int v1, .int v2]) ++ List.replicate (5 - (lg_sl ([.ref (q a0), .int v1, .int v2])).length) Slot.unset).toArray = ls at hl ⊢
  have hl : lv_has ls 5 [(0, .ref (q a0)), (1, .int v1), (2, .int v2)] := hl
  unfold fX6_witnessesBy at h
  refine lv_iconst (pc := 0) hx hb dX6_witnessesBy_0 zc_0 ?_
  refine lv_istore_n (lv' := [(3, .int (0 : Int32)), (0, .ref (q a0)), (1, .int v1), (2, .int v2)]) (pc := 1) hx hb dX6_witnessesBy_1 rfl hl (by decide) rfl (fun ls hl => ?_)
  refine lv_iconst (pc := 2) hx hb dX6_witnessesBy_2 zc_0 ?_
  refine lv_istore (lv' := [(4, .int (0 : Int32)), (3, .int (0 : Int32)), (0, .ref (q a0)), (1, .int v1), (2, .int v2)]) (pc := 3) hx hb dX6_witnessesBy_3 hl (by decide) rfl (fun ls hl => ?_)
  exact kX6_witnessesBy_5 cx hr hlk ha0 hP 2000 _ _ h _ (lv_sub hl [2, 3, 4, 1, 0] rfl)
-- X6_isProved
abbrev rmX6_isProved : Room := { frames := 2, cells := 0, slots := 0, locals := 44 }
def fX6_isProved (S : zSt) (a0 : Nat) (v1 : Int32) : Option Int32 :=
  zBd (fX6_witnessesBy S a0 v1 (S.1 a0 1)) (fun r2 => zBd (fJ6_bitCount_0f7a4 r2) (fun r4 => zBr (r4 < (S.1 (zHs a0) 11)) (some (0 : Int32)) (some (1 : Int32))))
set_option maxHeartbeats 4000000 in
set_option maxRecDepth 100000 in
theorem mX6_isProved {l : Launch} {D : va_G} {cy : Nat → ClassId} {q : Nat → Nat} {S : zSt} {a0 : Nat} {v1 : Int32} (ha0 : zLife a0) {z : Int32} (h : fX6_isProved S a0 v1 = some z) : zMi l yX6_isProved cX6_isProved 2 (some .boolean) rmX6_isProved [.ref (q a0), .int v1] (zPr zsh zNC D cy q S) z := by
  refine Met.ofW (cc := cX6_isProved) (maxL := 2) (ret := (some .boolean)) (by decide) rfl ?_
  intro p e s m args below meth c s₁ B hml hv
  obtain ⟨rfl, hP, hK⟩ := hv
  have cx : zX RX6 cX6_isProved 2 p s m ([.ref (q a0), .int v1]).toArray c D cy := ⟨B.exec, B.bytes, hml, findClass_of_methodNamed B.named, fun w hw => atoms_spec (ws := Cond.code yX6_isProved cX6_isProved 2 (some .boolean) :: zTB) B.pre w (List.mem_cons_of_mem _ hw), hK⟩
  have hx := cx.1
  have hb := cx.2.1
  have hr := B.returns
  have hlk := B.notSynchronized
  have hl := lv_entry ([.ref (q a0), .int v1]) (n := 2) (Nat.le_of_ble_eq_true rfl)
  rw [lg_entry_eq]
  generalize (lg_sl ([.ref (q a0), .int v1]) ++ List.replicate (2 - (lg_sl ([.ref (q a0), .int v1])).length) Slot.unset).toArray = ls at hl ⊢
  have hl : lv_has ls 2 [(0, .ref (q a0)), (1, .int v1)] := hl
  unfold fX6_isProved at h
  refine lv_aload_n (pc := 0) hx hb dX6_isProved_0 rfl (lv_at hl 0 rfl) ?_
  refine lv_iload_n (pc := 1) hx hb dX6_isProved_1 rfl (lv_at hl 1 rfl) ?_
  refine lv_aload_n (pc := 2) hx hb dX6_isProved_2 rfl (lv_at hl 0 rfl) ?_
  refine zr_getI (pc := 3) cx lk_X6_42 hP (nX6_0 ha0) (sX6_0 ha0) rfl dX6_isProved_3 ?_
  obtain ⟨r2, k1, h⟩ := zBd_e h
  refine zr_VI (pc := 6) (rest := []) cx cv_X6_106 (mX6_witnessesBy ha0 k1) ⟨⟨rfl, rfl⟩, Nat.le_of_ble_eq_true rfl, Nat.le_of_ble_eq_true rfl⟩ ⟨Nat.le_of_ble_eq_true rfl, Nat.le_of_ble_eq_true rfl⟩ hP (nX6_0 ha0) (sX6_0 ha0) rfl hl.1 rfl rfl (Nat.le_of_ble_eq_true rfl) dX6_isProved_6 ?_
  obtain ⟨r4, k3, h⟩ := zBd_e h
  refine zr_SI (pc := 9) (rest := []) cx cv_X6_109 (mJ6_bitCount_0f7a4 k3) ⟨⟨rfl, rfl⟩, Nat.le_of_ble_eq_true rfl, Nat.le_of_ble_eq_true rfl⟩ ⟨Nat.le_of_ble_eq_true rfl, Nat.le_of_ble_eq_true rfl⟩ (zr_preK cx) hl.1 rfl rfl (Nat.le_of_ble_eq_true rfl) dX6_isProved_9 ?_
  refine lv_aload_n (pc := 12) hx hb dX6_isProved_12 rfl (lv_at hl 0 rfl) ?_
  refine zr_getR (pc := 13) (t := (zHs a0)) cx lk_X6_38 hP (nX6_0 ha0) (sX6_0 ha0) rfl dX6_isProved_13 ?_
  refine zr_getI (pc := 16) cx lk_X6_114 hP (nX3_0 (zHs_ok ha0)) (sX3_0 (zHs_ok ha0)) rfl dX6_isProved_16 ?_
  refine lv_icmp_lt (pc := 19) (tgt := 26) hx hb dX6_isProved_19 (by decide) (fun c5 => ?_) (fun c5 => ?_)
  · replace h := zBr_t c5 h
    refine lv_iconst (pc := 26) hx hb dX6_isProved_26 zc_0 ?_
    have hz := Option.some.inj h
    exact zr_reZ (pc := 27) cx hr hlk hz (by decide) dX6_isProved_27
  · replace h := zBr_f c5 h
    refine lv_iconst (pc := 22) hx hb dX6_isProved_22 zc_1 ?_
    refine lv_goto (pc := 23) (tgt := 27) hx hb dX6_isProved_23 (by decide) ?_
    have hz := Option.some.inj h
    exact zr_reZ (pc := 27) cx hr hlk hz (by decide) dX6_isProved_27
-- X6_actsProved
abbrev rmX6_actsProved : Room := { frames := 3, cells := 0, slots := 0, locals := 65 }
def fX6_actsProved_26 (S : zSt) (a0 : Nat) (v1 : Int32) (v2 : Int32) : Option ((Int32 × Int32) ⊕ Int32) :=
  zLt (v2 + (1 : Int32)) (fun x6 => some (.inl (v1, x6)))
set_option maxHeartbeats 4000000 in
set_option maxRecDepth 100000 in
theorem kX6_actsProved_26 {p : Program} {l : Launch} {e : Env} {s : State} {m : MethodId} {args : Array Value} {below : List Frame} {meth : Method} {c : Code} {D : va_G} {cy : Nat → ClassId} {q : Nat → Nat} (cx : zX RX6 cX6_actsProved 3 p s m args c D cy) (hr : meth.sig.returnType = (some .int)) (hlk : meth.locks = false) {a0 : Nat} (ha0 : zLife a0) {z : Int32} {S : zSt} {v1 : Int32} {v2 : Int32} {C1 : ((Int32 × Int32) ⊕ Int32) → Prop} (hb1 : ∀ (v1 : Int32) (v2 : Int32), C1 (.inl (v1, v2)) → ∀ (ls : Array Slot), lv_has ls 3 [(0, .ref (q a0)), (1, .int v1), (2, .int v2)] → W p l e rmX6_actsProved s m args below meth c s.heap [] 0 0 (MQ below (vp_Si (fun x => x = z)) args s 0 0 (fun _ => False)) (F0 m 4 ls [])) (hx1 : ∀ a, C1 (.inr a) → a = z) (hP : va_P D vwCl (zW zsh zNC cy q S) s.heap) {x : ((Int32 × Int32) ⊕ Int32)} (h : fX6_actsProved_26 S a0 v1 v2 = some x) (hc : C1 x) {ls : Array Slot} (hl : lv_has ls 3 [(0, .ref (q a0)), (1, .int v1), (2, .int v2)]) : W p l e rmX6_actsProved s m args below meth c s.heap [] 0 0 (MQ below (vp_Si (fun x => x = z)) args s 0 0 (fun _ => False)) (F0 m 26 ls []) := by
  have hx := cx.1
  have hb := cx.2.1
  unfold fX6_actsProved_26 at h
  obtain ⟨x6, ex6, h⟩ := zLt_e h
  refine lv_iinc (v := x6) (lv' := [(2, .int x6), (0, .ref (q a0)), (1, .int v1)]) (pc := 26) hx hb dX6_actsProved_26 hl (k := 2) rfl (by rw [zc_1]; exact ex6.symm) (by decide) rfl (fun ls hl => ?_)
  refine lv_goto (pc := 29) (tgt := 4) hx hb dX6_actsProved_29 (by decide) ?_
  cases h
  exact hb1 _ _ hc _ (lv_sub hl [1, 2, 0] rfl)
def fX6_actsProved_4 (S : zSt) (a0 : Nat) (t : (Int32 × Int32)) : Option ((Int32 × Int32) ⊕ Int32) :=
  match t with
  | (v1, v2) => zBr ((S.1 a0 2) ≤ v2) (zXr (some v1)) (zBd (fX6_isProved S a0 v2) (fun r4 => zBr (r4 = 0) (fX6_actsProved_26 S a0 v1 v2) (zLt (v1 ||| ((1 : Int32) <<< (v2 &&& 31))) (fun x7 => fX6_actsProved_26 S a0 x7 v2))))
set_option maxHeartbeats 4000000 in
set_option maxRecDepth 100000 in
theorem kX6_actsProved_4B {p : Program} {l : Launch} {e : Env} {s : State} {m : MethodId} {args : Array Value} {below : List Frame} {meth : Method} {c : Code} {D : va_G} {cy : Nat → ClassId} {q : Nat → Nat} (cx : zX RX6 cX6_actsProved 3 p s m args c D cy) (hr : meth.sig.returnType = (some .int)) (hlk : meth.locks = false) {a0 : Nat} (ha0 : zLife a0) {z : Int32} {S : zSt} {v1 : Int32} {v2 : Int32} {C1 : ((Int32 × Int32) ⊕ Int32) → Prop} (hb1 : ∀ (v1 : Int32) (v2 : Int32), C1 (.inl (v1, v2)) → ∀ (ls : Array Slot), lv_has ls 3 [(0, .ref (q a0)), (1, .int v1), (2, .int v2)] → W p l e rmX6_actsProved s m args below meth c s.heap [] 0 0 (MQ below (vp_Si (fun x => x = z)) args s 0 0 (fun _ => False)) (F0 m 4 ls [])) (hx1 : ∀ a, C1 (.inr a) → a = z) (hP : va_P D vwCl (zW zsh zNC cy q S) s.heap) {x : ((Int32 × Int32) ⊕ Int32)} (h : fX6_actsProved_4 S a0 (v1, v2) = some x) (hc : C1 x) {ls : Array Slot} (hl : lv_has ls 3 [(0, .ref (q a0)), (1, .int v1), (2, .int v2)]) : W p l e rmX6_actsProved s m args below meth c s.heap [] 0 0 (MQ below (vp_Si (fun x => x = z)) args s 0 0 (fun _ => False)) (F0 m 4 ls []) := by
  have hx := cx.1
  have hb := cx.2.1
  unfold fX6_actsProved_4 at h
  dsimp only at h
  refine lv_iload_n (pc := 4) hx hb dX6_actsProved_4 rfl (lv_at hl 2 rfl) ?_
  refine lv_aload_n (pc := 5) hx hb dX6_actsProved_5 rfl (lv_at hl 0 rfl) ?_
  refine zr_getI (pc := 6) cx lk_X6_46 hP (nX6_0 ha0) (sX6_0 ha0) rfl dX6_actsProved_6 ?_
  refine lv_icmp_ge (pc := 9) (tgt := 32) hx hb dX6_actsProved_9 (by decide) (fun c1 => ?_) (fun c1 => ?_)
  · replace h := zBr_t c1 h
    obtain ⟨y2, h, ex⟩ := zXr_e h
    have hc := hx1 y2 (by rw [ex] at hc; exact hc)
    rw [hc] at h
    refine lv_iload_n (pc := 32) hx hb dX6_actsProved_32 rfl (lv_at hl 1 rfl) ?_
    have hz := Option.some.inj h
    exact zr_reI (pc := 33) cx hr hlk hz dX6_actsProved_33
  · replace h := zBr_f c1 h
    refine lv_aload_n (pc := 12) hx hb dX6_actsProved_12 rfl (lv_at hl 0 rfl) ?_
    refine lv_iload_n (pc := 13) hx hb dX6_actsProved_13 rfl (lv_at hl 2 rfl) ?_
    obtain ⟨r4, k3, h⟩ := zBd_e h
    refine zr_VI (pc := 14) (rest := []) cx cv_X6_117 (mX6_isProved ha0 k3) ⟨⟨rfl, rfl⟩, Nat.le_of_ble_eq_true rfl, Nat.le_of_ble_eq_true rfl⟩ ⟨Nat.le_of_ble_eq_true rfl, Nat.le_of_ble_eq_true rfl⟩ hP (nX6_0 ha0) (sX6_0 ha0) rfl hl.1 rfl rfl (Nat.le_of_ble_eq_true rfl) dX6_actsProved_14 ?_
    refine lv_if_eq (pc := 17) (tgt := 26) hx hb dX6_actsProved_17 (by decide) (fun c5 => ?_) (fun c5 => ?_)
    · replace h := zBr_t c5 h
      exact kX6_actsProved_26 cx hr hlk ha0 hb1 hx1 hP h hc (lv_sub hl [0, 1, 2] rfl)
    · replace h := zBr_f c5 h
      refine lv_iload_n (pc := 20) hx hb dX6_actsProved_20 rfl (lv_at hl 1 rfl) ?_
      refine lv_iconst (pc := 21) hx hb dX6_actsProved_21 zc_1 ?_
      refine lv_iload_n (pc := 22) hx hb dX6_actsProved_22 rfl (lv_at hl 2 rfl) ?_
      refine lv_ishl (pc := 23) hx hb dX6_actsProved_23 ?_
      refine lv_ior (pc := 24) hx hb dX6_actsProved_24 ?_
      obtain ⟨x7, ex7, h⟩ := zLt_e h
      refine zr_nmI ex7 ?_
      refine lv_istore_n (lv' := [(1, .int x7), (0, .ref (q a0)), (2, .int v2)]) (pc := 25) hx hb dX6_actsProved_25 rfl hl (by decide) rfl (fun ls hl => ?_)
      exact kX6_actsProved_26 cx hr hlk ha0 hb1 hx1 hP h hc (lv_sub hl [1, 0, 2] rfl)
set_option maxHeartbeats 4000000 in
set_option maxRecDepth 100000 in
theorem kX6_actsProved_4 {p : Program} {l : Launch} {e : Env} {s : State} {m : MethodId} {args : Array Value} {below : List Frame} {meth : Method} {c : Code} {D : va_G} {cy : Nat → ClassId} {q : Nat → Nat} (cx : zX RX6 cX6_actsProved 3 p s m args c D cy) (hr : meth.sig.returnType = (some .int)) (hlk : meth.locks = false) {a0 : Nat} (ha0 : zLife a0) {z : Int32} {S : zSt} (hP : va_P D vwCl (zW zsh zNC cy q S) s.heap) : ∀ (n : Nat) (v1 : Int32) (v2 : Int32), zLp (fX6_actsProved_4 S a0) n (v1, v2) = some z → ∀ (ls : Array Slot), lv_has ls 3 [(0, .ref (q a0)), (1, .int v1), (2, .int v2)] → W p l e rmX6_actsProved s m args below meth c s.heap [] 0 0 (MQ below (vp_Si (fun x => x = z)) args s 0 0 (fun _ => False)) (F0 m 4 ls []) := by
  intro n
  induction n with
  | zero =>
    intro v1 v2 h
    cases h
  | succ n ih =>
    intro v1 v2 h ls hl
    obtain ⟨x, h, hk⟩ := zLp_e h
    exact kX6_actsProved_4B cx hr hlk ha0  (C1 := zKt (fun t => zLp (fX6_actsProved_4 S a0) n t = some z) (fun a => a = z)) (fun v1 v2 ht ls hl => ih v1 v2 ht ls hl) (fun a ha => ha) hP h hk hl
def fX6_actsProved (S : zSt) (a0 : Nat) : Option Int32 :=
  zLp (fX6_actsProved_4 S a0) 2000 ((0 : Int32), (0 : Int32))
set_option maxHeartbeats 4000000 in
set_option maxRecDepth 100000 in
theorem mX6_actsProved {l : Launch} {D : va_G} {cy : Nat → ClassId} {q : Nat → Nat} {S : zSt} {a0 : Nat} (ha0 : zLife a0) {z : Int32} (h : fX6_actsProved S a0 = some z) : zMi l yX6_actsProved cX6_actsProved 3 (some .int) rmX6_actsProved [.ref (q a0)] (zPr zsh zNC D cy q S) z := by
  refine Met.ofW (cc := cX6_actsProved) (maxL := 3) (ret := (some .int)) (by decide) rfl ?_
  intro p e s m args below meth c s₁ B hml hv
  obtain ⟨rfl, hP, hK⟩ := hv
  have cx : zX RX6 cX6_actsProved 3 p s m ([.ref (q a0)]).toArray c D cy := ⟨B.exec, B.bytes, hml, findClass_of_methodNamed B.named, fun w hw => atoms_spec (ws := Cond.code yX6_actsProved cX6_actsProved 3 (some .int) :: zTB) B.pre w (List.mem_cons_of_mem _ hw), hK⟩
  have hx := cx.1
  have hb := cx.2.1
  have hr := B.returns
  have hlk := B.notSynchronized
  have hl := lv_entry ([.ref (q a0)]) (n := 3) (Nat.le_of_ble_eq_true rfl)
  rw [lg_entry_eq]
  generalize (lg_sl ([.ref (q a0)]) ++ List.replicate (3 - (lg_sl ([.ref (q a0)])).length) Slot.unset).toArray = ls at hl ⊢
  have hl : lv_has ls 3 [(0, .ref (q a0))] := hl
  unfold fX6_actsProved at h
  refine lv_iconst (pc := 0) hx hb dX6_actsProved_0 zc_0 ?_
  refine lv_istore_n (lv' := [(1, .int (0 : Int32)), (0, .ref (q a0))]) (pc := 1) hx hb dX6_actsProved_1 rfl hl (by decide) rfl (fun ls hl => ?_)
  refine lv_iconst (pc := 2) hx hb dX6_actsProved_2 zc_0 ?_
  refine lv_istore_n (lv' := [(2, .int (0 : Int32)), (1, .int (0 : Int32)), (0, .ref (q a0))]) (pc := 3) hx hb dX6_actsProved_3 rfl hl (by decide) rfl (fun ls hl => ?_)
  exact kX6_actsProved_4 cx hr hlk ha0 hP 2000 _ _ h _ (lv_sub hl [2, 1, 0] rfl)
-- X0_judge
abbrev rmX0_judge : Room := { frames := 5, cells := 0, slots := 0, locals := 111 }
def fX0_judge_60 (S : zSt) (a1 : Nat) : Option zSt :=
  zLt (zI S 240 9 (S.1 a1 1)) (fun S5 => zBd (fX6_actsProved S5 a1) (fun r7 => zLt (zI S5 240 10 r7) (fun S8 => some S8)))
set_option maxHeartbeats 4000000 in
set_option maxRecDepth 100000 in
theorem kX0_judge_60 {p : Program} {l : Launch} {e : Env} {s : State} {m : MethodId} {args : Array Value} {below : List Frame} {meth : Method} {c : Code} {D : va_G} {cy : Nat → ClassId} {q : Nat → Nat} {A : Nat → Prop} (cx : zX RX0 cX0_judge 3 p s m args c D cy) (hr : meth.sig.returnType = none) (hlk : meth.locks = false) (hq : zQ A q zNC) {a1 : Nat} (ha1 : zLife a1) {z : zSt} {S : zSt} (h : fX0_judge_60 S a1 = some z) {H : Heap} {locs : List Loc} (hP : va_P D vwCl (zW zsh zNC cy q S) H) (hS : va_S A s.heap H locs) {ls : Array Slot} (hl : lv_has ls 3 [(0, .ref (q 240)), (1, .ref (q a1))]) : W p l e rmX0_judge s m args below meth c H locs 0 0 (MQ below (va_Qv (fun (u : zSt) => u = z) (fun u t => va_P D vwCl (zW zsh zNC cy q u) t.heap) A) args s 0 0 A) (F0 m 60 ls []) := by
  have hx := cx.1
  have hb := cx.2.1
  unfold fX0_judge_60 at h
  refine lv_aload_n (pc := 60) hx hb dX0_judge_60 rfl (lv_at hl 0 rfl) ?_
  refine lv_aload_n (pc := 61) hx hb dX0_judge_61 rfl (lv_at hl 1 rfl) ?_
  refine zr_getI (pc := 62) cx lk_X0_106 hP (nX6_0 ha1) (sX6_0 ha1) rfl dX0_judge_62 ?_
  obtain ⟨S5, eS5, h⟩ := zLt_e h
  refine zr_putI (pc := 65) cx lq_X0_31 hq hP hS nC_240 sC_240 rfl rfl rfl dX0_judge_65 (fun H locs hP hS => ?_)
  rw [← eS5] at hP
  refine lv_aload_n (pc := 68) hx hb dX0_judge_68 rfl (lv_at hl 0 rfl) ?_
  refine lv_aload_n (pc := 69) hx hb dX0_judge_69 rfl (lv_at hl 1 rfl) ?_
  obtain ⟨r7, k6, h⟩ := zBd_e h
  refine zr_VI (pc := 70) (rest := [.ref (q 240)]) cx cv_X0_111 (mX6_actsProved ha1 k6) ⟨⟨rfl, rfl⟩, Nat.le_of_ble_eq_true rfl, Nat.le_of_ble_eq_true rfl⟩ ⟨Nat.le_of_ble_eq_true rfl, Nat.le_of_ble_eq_true rfl⟩ hP (nX6_0 ha1) (sX6_0 ha1) rfl hl.1 rfl rfl (Nat.le_of_ble_eq_true rfl) dX0_judge_70 ?_
  obtain ⟨S8, eS8, h⟩ := zLt_e h
  refine zr_putI (pc := 73) cx lq_X0_34 hq hP hS nC_240 sC_240 rfl rfl rfl dX0_judge_73 (fun H locs hP hS => ?_)
  rw [← eS8] at hP
  have hz := Option.some.inj h
  exact zr_rqV (pc := 76) cx hr hlk hP hS hz dX0_judge_76
def fX0_judge_54 (S : zSt) (a1 : Nat) (v2 : Int32) : Option ((zSt × Int32) ⊕ zSt) :=
  zLt (v2 + (1 : Int32)) (fun x16 => some (.inl (S, x16)))
set_option maxHeartbeats 4000000 in
set_option maxRecDepth 100000 in
theorem kX0_judge_54 {p : Program} {l : Launch} {e : Env} {s : State} {m : MethodId} {args : Array Value} {below : List Frame} {meth : Method} {c : Code} {D : va_G} {cy : Nat → ClassId} {q : Nat → Nat} {A : Nat → Prop} (cx : zX RX0 cX0_judge 3 p s m args c D cy) (hr : meth.sig.returnType = none) (hlk : meth.locks = false) (hq : zQ A q zNC) {a1 : Nat} (ha1 : zLife a1) {z : zSt} {S : zSt} {v2 : Int32} {C1 : ((zSt × Int32) ⊕ zSt) → Prop} (hb1 : ∀ (S : zSt) (v2 : Int32), C1 (.inl (S, v2)) → ∀ (H : Heap) (locs : List Loc), va_P D vwCl (zW zsh zNC cy q S) H → va_S A s.heap H locs → ∀ (ls : Array Slot), lv_has ls 3 [(0, .ref (q 240)), (1, .ref (q a1)), (2, .int v2)] → W p l e rmX0_judge s m args below meth c H locs 0 0 (MQ below (va_Qv (fun (u : zSt) => u = z) (fun u t => va_P D vwCl (zW zsh zNC cy q u) t.heap) A) args s 0 0 A) (F0 m 12 ls [])) (hx1 : ∀ a, C1 (.inr a) → a = z) {x : ((zSt × Int32) ⊕ zSt)} (h : fX0_judge_54 S a1 v2 = some x) (hc : C1 x) {H : Heap} {locs : List Loc} (hP : va_P D vwCl (zW zsh zNC cy q S) H) (hS : va_S A s.heap H locs) {ls : Array Slot} (hl : lv_has ls 3 [(0, .ref (q 240)), (1, .ref (q a1)), (2, .int v2)]) : W p l e rmX0_judge s m args below meth c H locs 0 0 (MQ below (va_Qv (fun (u : zSt) => u = z) (fun u t => va_P D vwCl (zW zsh zNC cy q u) t.heap) A) args s 0 0 A) (F0 m 54 ls []) := by
  have hx := cx.1
  have hb := cx.2.1
  unfold fX0_judge_54 at h
  obtain ⟨x16, ex16, h⟩ := zLt_e h
  refine lv_iinc (v := x16) (lv' := [(2, .int x16), (0, .ref (q 240)), (1, .ref (q a1))]) (pc := 54) hx hb dX0_judge_54 hl (k := 2) rfl (by rw [zc_1]; exact ex16.symm) (by decide) rfl (fun ls hl => ?_)
  refine lv_goto (pc := 57) (tgt := 12) hx hb dX0_judge_57 (by decide) ?_
  cases h
  exact hb1 _ _ hc _ _ hP hS _ (lv_sub hl [1, 2, 0] rfl)
def fX0_judge_12 (a1 : Nat) (t : (zSt × Int32)) : Option ((zSt × Int32) ⊕ zSt) :=
  match t with
  | (S, v2) => zBr ((S.1 240 6) ≤ v2) (zXr (fX0_judge_60 S a1)) (zBr ((S.1 240 7) = 0) (zBp (fX0_liveLine S a1 v2) (fun r13 S12 => zLt (zI S12 240 7 r13) (fun S14 => zBr ((S14.1 240 7) = 0) (zLt (zI S14 240 8 ((S14.1 240 8) + (1 : Int32))) (fun S17 => fX0_judge_54 S17 a1 v2)) (fX0_judge_54 S14 a1 v2)))) (zXr (fX0_judge_60 S a1)))
set_option maxHeartbeats 4000000 in
set_option maxRecDepth 100000 in
theorem kX0_judge_12B {p : Program} {l : Launch} {e : Env} {s : State} {m : MethodId} {args : Array Value} {below : List Frame} {meth : Method} {c : Code} {D : va_G} {cy : Nat → ClassId} {q : Nat → Nat} {A : Nat → Prop} (cx : zX RX0 cX0_judge 3 p s m args c D cy) (hr : meth.sig.returnType = none) (hlk : meth.locks = false) (hq : zQ A q zNC) {a1 : Nat} (ha1 : zLife a1) {z : zSt} {S : zSt} {v2 : Int32} {C1 : ((zSt × Int32) ⊕ zSt) → Prop} (hb1 : ∀ (S : zSt) (v2 : Int32), C1 (.inl (S, v2)) → ∀ (H : Heap) (locs : List Loc), va_P D vwCl (zW zsh zNC cy q S) H → va_S A s.heap H locs → ∀ (ls : Array Slot), lv_has ls 3 [(0, .ref (q 240)), (1, .ref (q a1)), (2, .int v2)] → W p l e rmX0_judge s m args below meth c H locs 0 0 (MQ below (va_Qv (fun (u : zSt) => u = z) (fun u t => va_P D vwCl (zW zsh zNC cy q u) t.heap) A) args s 0 0 A) (F0 m 12 ls [])) (hx1 : ∀ a, C1 (.inr a) → a = z) {x : ((zSt × Int32) ⊕ zSt)} (h : fX0_judge_12 a1 (S, v2) = some x) (hc : C1 x) {H : Heap} {locs : List Loc} (hP : va_P D vwCl (zW zsh zNC cy q S) H) (hS : va_S A s.heap H locs) {ls : Array Slot} (hl : lv_has ls 3 [(0, .ref (q 240)), (1, .ref (q a1)), (2, .int v2)]) : W p l e rmX0_judge s m args below meth c H locs 0 0 (MQ below (va_Qv (fun (u : zSt) => u = z) (fun u t => va_P D vwCl (zW zsh zNC cy q u) t.heap) A) args s 0 0 A) (F0 m 12 ls []) := by
  have hx := cx.1
  have hb := cx.2.1
  unfold fX0_judge_12 at h
  dsimp only at h
  refine lv_iload_n (pc := 12) hx hb dX0_judge_12 rfl (lv_at hl 2 rfl) ?_
  refine lv_aload_n (pc := 13) hx hb dX0_judge_13 rfl (lv_at hl 0 rfl) ?_
  refine zr_getI (pc := 14) cx lk_X0_51 hP nC_240 sC_240 rfl dX0_judge_14 ?_
  refine lv_icmp_ge (pc := 17) (tgt := 60) hx hb dX0_judge_17 (by decide) (fun c3 => ?_) (fun c3 => ?_)
  · replace h := zBr_t c3 h
    obtain ⟨y4, h, ex⟩ := zXr_e h
    have hc := hx1 y4 (by rw [ex] at hc; exact hc)
    rw [hc] at h
    exact kX0_judge_60 cx hr hlk hq ha1 h hP hS (lv_sub hl [0, 1] rfl)
  · replace h := zBr_f c3 h
    refine lv_aload_n (pc := 20) hx hb dX0_judge_20 rfl (lv_at hl 0 rfl) ?_
    refine zr_getI (pc := 21) cx lk_X0_24 hP nC_240 sC_240 rfl dX0_judge_21 ?_
    refine lv_if_ne (pc := 24) (tgt := 60) hx hb dX0_judge_24 (by decide) (fun c9 => ?_) (fun c9 => ?_)
    · replace h := zBr_f c9 h
      obtain ⟨y10, h, ex⟩ := zXr_e h
      have hc := hx1 y10 (by rw [ex] at hc; exact hc)
      rw [hc] at h
      exact kX0_judge_60 cx hr hlk hq ha1 h hP hS (lv_sub hl [0, 1] rfl)
    · replace h := zBr_t c9 h
      refine lv_aload_n (pc := 27) hx hb dX0_judge_27 rfl (lv_at hl 0 rfl) ?_
      refine lv_aload_n (pc := 28) hx hb dX0_judge_28 rfl (lv_at hl 0 rfl) ?_
      refine lv_aload_n (pc := 29) hx hb dX0_judge_29 rfl (lv_at hl 1 rfl) ?_
      refine lv_iload_n (pc := 30) hx hb dX0_judge_30 rfl (lv_at hl 2 rfl) ?_
      obtain ⟨r13, S12, k11, h⟩ := zBp_e h
      refine zr_VQ (pc := 31) (rest := [.ref (q 240)]) cx cv_X0_102 (mX0_liveLine hq ha1 k11) ⟨⟨rfl, rfl⟩, Nat.le_of_ble_eq_true rfl, Nat.le_of_ble_eq_true rfl⟩ ⟨Nat.le_of_ble_eq_true rfl, Nat.le_of_ble_eq_true rfl⟩ hP hS nC_240 sC_240 rfl hl.1 rfl rfl (Nat.le_of_ble_eq_true rfl) dX0_judge_31 (fun H locs hP hS => ?_)
      obtain ⟨S14, eS14, h⟩ := zLt_e h
      refine zr_putI (pc := 34) cx lq_X0_24 hq hP hS nC_240 sC_240 rfl rfl rfl dX0_judge_34 (fun H locs hP hS => ?_)
      rw [← eS14] at hP
      refine lv_aload_n (pc := 37) hx hb dX0_judge_37 rfl (lv_at hl 0 rfl) ?_
      refine zr_getI (pc := 38) cx lk_X0_24 hP nC_240 sC_240 rfl dX0_judge_38 ?_
      refine lv_if_ne (pc := 41) (tgt := 54) hx hb dX0_judge_41 (by decide) (fun c15 => ?_) (fun c15 => ?_)
      · replace h := zBr_f c15 h
        exact kX0_judge_54 cx hr hlk hq ha1 hb1 hx1 h hc hP hS (lv_sub hl [0, 1, 2] rfl)
      · replace h := zBr_t c15 h
        refine lv_aload_n (pc := 44) hx hb dX0_judge_44 rfl (lv_at hl 0 rfl) ?_
        refine lv_dup (pc := 45) hx hb dX0_judge_45 rfl ?_
        refine zr_getI (pc := 46) cx lk_X0_28 hP nC_240 sC_240 rfl dX0_judge_46 ?_
        refine lv_iconst (pc := 49) hx hb dX0_judge_49 zc_1 ?_
        refine lv_iadd (pc := 50) hx hb dX0_judge_50 ?_
        obtain ⟨S17, eS17, h⟩ := zLt_e h
        refine zr_putI (pc := 51) cx lq_X0_28 hq hP hS nC_240 sC_240 rfl rfl rfl dX0_judge_51 (fun H locs hP hS => ?_)
        rw [← eS17] at hP
        exact kX0_judge_54 cx hr hlk hq ha1 hb1 hx1 h hc hP hS (lv_sub hl [0, 1, 2] rfl)
set_option maxHeartbeats 4000000 in
set_option maxRecDepth 100000 in
theorem kX0_judge_12 {p : Program} {l : Launch} {e : Env} {s : State} {m : MethodId} {args : Array Value} {below : List Frame} {meth : Method} {c : Code} {D : va_G} {cy : Nat → ClassId} {q : Nat → Nat} {A : Nat → Prop} (cx : zX RX0 cX0_judge 3 p s m args c D cy) (hr : meth.sig.returnType = none) (hlk : meth.locks = false) (hq : zQ A q zNC) {a1 : Nat} (ha1 : zLife a1) {z : zSt} : ∀ (n : Nat) (S : zSt) (v2 : Int32), zLp (fX0_judge_12 a1) n (S, v2) = some z → ∀ (H : Heap) (locs : List Loc), va_P D vwCl (zW zsh zNC cy q S) H → va_S A s.heap H locs → ∀ (ls : Array Slot), lv_has ls 3 [(0, .ref (q 240)), (1, .ref (q a1)), (2, .int v2)] → W p l e rmX0_judge s m args below meth c H locs 0 0 (MQ below (va_Qv (fun (u : zSt) => u = z) (fun u t => va_P D vwCl (zW zsh zNC cy q u) t.heap) A) args s 0 0 A) (F0 m 12 ls []) := by
  intro n
  induction n with
  | zero =>
    intro S v2 h
    cases h
  | succ n ih =>
    intro S v2 h H locs hP hS ls hl
    obtain ⟨x, h, hk⟩ := zLp_e h
    exact kX0_judge_12B cx hr hlk hq ha1  (C1 := zKt (fun t => zLp (fX0_judge_12 a1) n t = some z) (fun a => a = z)) (fun S v2 ht H locs hP hS ls hl => ih S v2 ht H locs hP hS ls hl) (fun a ha => ha) h hk hP hS hl
def fX0_judge (S : zSt) (a1 : Nat) : Option zSt :=
  zLt (zI S 240 7 (0 : Int32)) (fun S1 => zLt (zI S1 240 8 (0 : Int32)) (fun S2 => zLp (fX0_judge_12 a1) 2000 (S2, (0 : Int32))))
set_option maxHeartbeats 4000000 in
set_option maxRecDepth 100000 in
theorem mX0_judge {l : Launch} {D : va_G} {cy : Nat → ClassId} {q : Nat → Nat} {A : Nat → Prop} {S : zSt} {a1 : Nat} (hq : zQ A q zNC) (ha1 : zLife a1) {z : zSt} (h : fX0_judge S a1 = some z) : zMv l yX0_judge cX0_judge 3 none rmX0_judge [.ref (q 240), .ref (q a1)] zsh zNC D cy q A S z := by
  refine Met.ofW (cc := cX0_judge) (maxL := 3) (ret := none) (by decide) rfl ?_
  intro p e s m args below meth c s₁ B hml hv
  obtain ⟨rfl, hP, hK⟩ := hv
  have cx : zX RX0 cX0_judge 3 p s m ([.ref (q 240), .ref (q a1)]).toArray c D cy := ⟨B.exec, B.bytes, hml, findClass_of_methodNamed B.named, fun w hw => atoms_spec (ws := Cond.code yX0_judge cX0_judge 3 none :: zTB) B.pre w (List.mem_cons_of_mem _ hw), hK⟩
  have hx := cx.1
  have hb := cx.2.1
  have hr := B.returns
  have hlk := B.notSynchronized
  have hS : va_S A s.heap s.heap [] := va_S.rf
  have hl := lv_entry ([.ref (q 240), .ref (q a1)]) (n := 3) (Nat.le_of_ble_eq_true rfl)
  rw [lg_entry_eq]
  generalize (lg_sl ([.ref (q 240), .ref (q a1)]) ++ List.replicate (3 - (lg_sl ([.ref (q 240), .ref (q a1)])).length) Slot.unset).toArray = ls at hl ⊢
  have hl : lv_has ls 3 [(0, .ref (q 240)), (1, .ref (q a1))] := hl
  unfold fX0_judge at h
  refine lv_aload_n (pc := 0) hx hb dX0_judge_0 rfl (lv_at hl 0 rfl) ?_
  refine lv_iconst (pc := 1) hx hb dX0_judge_1 zc_0 ?_
  obtain ⟨S1, eS1, h⟩ := zLt_e h
  refine zr_putI (pc := 2) cx lq_X0_24 hq hP hS nC_240 sC_240 rfl rfl rfl dX0_judge_2 (fun H locs hP hS => ?_)
  rw [← eS1] at hP
  refine lv_aload_n (pc := 5) hx hb dX0_judge_5 rfl (lv_at hl 0 rfl) ?_
  refine lv_iconst (pc := 6) hx hb dX0_judge_6 zc_0 ?_
  obtain ⟨S2, eS2, h⟩ := zLt_e h
  refine zr_putI (pc := 7) cx lq_X0_28 hq hP hS nC_240 sC_240 rfl rfl rfl dX0_judge_7 (fun H locs hP hS => ?_)
  rw [← eS2] at hP
  refine lv_iconst (pc := 10) hx hb dX0_judge_10 zc_0 ?_
  refine lv_istore_n (lv' := [(2, .int (0 : Int32)), (0, .ref (q 240)), (1, .ref (q a1))]) (pc := 11) hx hb dX0_judge_11 rfl hl (by decide) rfl (fun ls hl => ?_)
  exact kX0_judge_12 cx hr hlk hq ha1 2000 _ _ h _ _ hP hS _ (lv_sub hl [1, 2, 0] rfl)
-- X9_failAt
abbrev rmX9_failAt : Room := { frames := 0, cells := 0, slots := 0, locals := 0 }
def fX9_failAt (S : zSt) (v1 : Int32) (v2 : Int32) : Option (Int32 × zSt) :=
  zLt (zI S 1 9 v1) (fun S1 => zLt (zI S1 1 10 v2) (fun S2 => some ((0 : Int32), S2)))
set_option maxHeartbeats 4000000 in
set_option maxRecDepth 100000 in
theorem mX9_failAt {l : Launch} {D : va_G} {cy : Nat → ClassId} {q : Nat → Nat} {A : Nat → Prop} {S : zSt} {v1 : Int32} {v2 : Int32} (hq : zQ A q zNC) {z : (Int32 × zSt)} (h : fX9_failAt S v1 v2 = some z) : zMq l yX9_failAt cX9_failAt 3 (some .boolean) rmX9_failAt [.ref (q 1), .int v1, .int v2] zsh zNC D cy q A S z := by
  refine Met.ofW (cc := cX9_failAt) (maxL := 3) (ret := (some .boolean)) (by decide) rfl ?_
  intro p e s m args below meth c s₁ B hml hv
  obtain ⟨rfl, hP, hK⟩ := hv
  have cx : zX RX9 cX9_failAt 3 p s m ([.ref (q 1), .int v1, .int v2]).toArray c D cy := ⟨B.exec, B.bytes, hml, findClass_of_methodNamed B.named, fun w hw => atoms_spec (ws := Cond.code yX9_failAt cX9_failAt 3 (some .boolean) :: zTB) B.pre w (List.mem_cons_of_mem _ hw), hK⟩
  have hx := cx.1
  have hb := cx.2.1
  have hr := B.returns
  have hlk := B.notSynchronized
  have hS : va_S A s.heap s.heap [] := va_S.rf
  have hl := lv_entry ([.ref (q 1), .int v1, .int v2]) (n := 3) (Nat.le_of_ble_eq_true rfl)
  rw [lg_entry_eq]
  generalize (lg_sl ([.ref (q 1), .int v1, .int v2]) ++ List.replicate (3 - (lg_sl ([.ref (q 1), .int v1, .int v2])).length) Slot.unset).toArray = ls at hl ⊢
  have hl : lv_has ls 3 [(0, .ref (q 1)), (1, .int v1), (2, .int v2)] := hl
  unfold fX9_failAt at h
  refine lv_aload_n (pc := 0) hx hb dX9_failAt_0 rfl (lv_at hl 0 rfl) ?_
  refine lv_iload_n (pc := 1) hx hb dX9_failAt_1 rfl (lv_at hl 1 rfl) ?_
  obtain ⟨S1, eS1, h⟩ := zLt_e h
  refine zr_putI (pc := 2) cx lq_X9_40 hq hP hS nC_1 sC_1 rfl rfl rfl dX9_failAt_2 (fun H locs hP hS => ?_)
  rw [← eS1] at hP
  refine lv_aload_n (pc := 5) hx hb dX9_failAt_5 rfl (lv_at hl 0 rfl) ?_
  refine lv_iload_n (pc := 6) hx hb dX9_failAt_6 rfl (lv_at hl 2 rfl) ?_
  obtain ⟨S2, eS2, h⟩ := zLt_e h
  refine zr_putI (pc := 7) cx lq_X9_43 hq hP hS nC_1 sC_1 rfl rfl rfl dX9_failAt_7 (fun H locs hP hS => ?_)
  rw [← eS2] at hP
  refine lv_iconst (pc := 10) hx hb dX9_failAt_10 zc_0 ?_
  have hz := Option.some.inj h
  exact zr_rqZ (pc := 11) cx hr hlk hP hS hz (by decide) dX9_failAt_11
-- X9_fail
abbrev rmX9_fail : Room := { frames := 1, cells := 0, slots := 0, locals := 22 }
def fX9_fail (S : zSt) (v1 : Int32) : Option (Int32 × zSt) :=
  zBp (fX9_failAt S v1 (S.1 1 6)) (fun r3 S2 => zGd (zBo r3) (some (r3, S2)))
set_option maxHeartbeats 4000000 in
set_option maxRecDepth 100000 in
theorem mX9_fail {l : Launch} {D : va_G} {cy : Nat → ClassId} {q : Nat → Nat} {A : Nat → Prop} {S : zSt} {v1 : Int32} (hq : zQ A q zNC) {z : (Int32 × zSt)} (h : fX9_fail S v1 = some z) : zMq l yX9_fail cX9_fail 2 (some .boolean) rmX9_fail [.ref (q 1), .int v1] zsh zNC D cy q A S z := by
  refine Met.ofW (cc := cX9_fail) (maxL := 2) (ret := (some .boolean)) (by decide) rfl ?_
  intro p e s m args below meth c s₁ B hml hv
  obtain ⟨rfl, hP, hK⟩ := hv
  have cx : zX RX9 cX9_fail 2 p s m ([.ref (q 1), .int v1]).toArray c D cy := ⟨B.exec, B.bytes, hml, findClass_of_methodNamed B.named, fun w hw => atoms_spec (ws := Cond.code yX9_fail cX9_fail 2 (some .boolean) :: zTB) B.pre w (List.mem_cons_of_mem _ hw), hK⟩
  have hx := cx.1
  have hb := cx.2.1
  have hr := B.returns
  have hlk := B.notSynchronized
  have hS : va_S A s.heap s.heap [] := va_S.rf
  have hl := lv_entry ([.ref (q 1), .int v1]) (n := 2) (Nat.le_of_ble_eq_true rfl)
  rw [lg_entry_eq]
  generalize (lg_sl ([.ref (q 1), .int v1]) ++ List.replicate (2 - (lg_sl ([.ref (q 1), .int v1])).length) Slot.unset).toArray = ls at hl ⊢
  have hl : lv_has ls 2 [(0, .ref (q 1)), (1, .int v1)] := hl
  unfold fX9_fail at h
  refine lv_aload_n (pc := 0) hx hb dX9_fail_0 rfl (lv_at hl 0 rfl) ?_
  refine lv_iload_n (pc := 1) hx hb dX9_fail_1 rfl (lv_at hl 1 rfl) ?_
  refine lv_aload_n (pc := 2) hx hb dX9_fail_2 rfl (lv_at hl 0 rfl) ?_
  refine zr_getI (pc := 3) cx lk_X9_55 hP nC_1 sC_1 rfl dX9_fail_3 ?_
  obtain ⟨r3, S2, k1, h⟩ := zBp_e h
  refine zr_VQ (pc := 6) (rest := []) cx cv_X9_71 (mX9_failAt hq k1) ⟨⟨rfl, rfl⟩, Nat.le_of_ble_eq_true rfl, Nat.le_of_ble_eq_true rfl⟩ ⟨Nat.le_of_ble_eq_true rfl, Nat.le_of_ble_eq_true rfl⟩ hP hS nC_1 sC_1 rfl hl.1 rfl rfl (Nat.le_of_ble_eq_true rfl) dX9_fail_6 (fun H locs hP hS => ?_)
  obtain ⟨g4, h⟩ := zGd_e h
  have hz := Option.some.inj h
  exact zr_rqZ (pc := 9) cx hr hlk hP hS hz g4 dX9_fail_9
-- X9_readRun
abbrev rmX9_readRun : Room := { frames := 0, cells := 0, slots := 0, locals := 0 }
def fX9_readRun_193 (S : zSt)  (v3 : Int32) : Option ((zSt × Int32) ⊕ zSt) :=
  zLt (v3 + (1 : Int32)) (fun x14 => some (.inl (S, x14)))
set_option maxHeartbeats 4000000 in
set_option maxRecDepth 100000 in
theorem kX9_readRun_193 {p : Program} {l : Launch} {e : Env} {s : State} {m : MethodId} {args : Array Value} {below : List Frame} {meth : Method} {c : Code} {D : va_G} {cy : Nat → ClassId} {q : Nat → Nat} {A : Nat → Prop} (cx : zX RX9 cX9_readRun 4 p s m args c D cy) (hr : meth.sig.returnType = none) (hlk : meth.locks = false) (hq : zQ A q zNC) {z : zSt} {S : zSt} {v3 : Int32} {C1 : ((zSt × Int32) ⊕ zSt) → Prop} (hb1 : ∀ (S : zSt) (v3 : Int32), C1 (.inl (S, v3)) → ∀ (H : Heap) (locs : List Loc), va_P D vwCl (zW zsh zNC cy q S) H → va_S A s.heap H locs → ∀ (ls : Array Slot), lv_has ls 4 [(0, .ref (q 1)), (3, .int v3)] → W p l e rmX9_readRun s m args below meth c H locs 0 0 (MQ below (va_Qv (fun (u : zSt) => u = z) (fun u t => va_P D vwCl (zW zsh zNC cy q u) t.heap) A) args s 0 0 A) (F0 m 159 ls [])) (hx1 : ∀ a, C1 (.inr a) → a = z) {x : ((zSt × Int32) ⊕ zSt)} (h : fX9_readRun_193 S v3 = some x) (hc : C1 x) {H : Heap} {locs : List Loc} (hP : va_P D vwCl (zW zsh zNC cy q S) H) (hS : va_S A s.heap H locs) {ls : Array Slot} (hl : lv_has ls 4 [(0, .ref (q 1)), (3, .int v3)]) : W p l e rmX9_readRun s m args below meth c H locs 0 0 (MQ below (va_Qv (fun (u : zSt) => u = z) (fun u t => va_P D vwCl (zW zsh zNC cy q u) t.heap) A) args s 0 0 A) (F0 m 193 ls []) := by
  have hx := cx.1
  have hb := cx.2.1
  unfold fX9_readRun_193 at h
  obtain ⟨x14, ex14, h⟩ := zLt_e h
  refine lv_iinc (v := x14) (lv' := [(3, .int x14), (0, .ref (q 1))]) (pc := 193) hx hb dX9_readRun_193 hl (k := 1) rfl (by rw [zc_1]; exact ex14.symm) (by decide) rfl (fun ls hl => ?_)
  refine lv_goto (pc := 196) (tgt := 159) hx hb dX9_readRun_196 (by decide) ?_
  cases h
  exact hb1 _ _ hc _ _ hP hS _ (lv_sub hl [1, 0] rfl)
def fX9_readRun_159  (t : (zSt × Int32)) : Option ((zSt × Int32) ⊕ zSt) :=
  match t with
  | (S, v3) => zBr ((S.1 1 5) = (100 : Int32)) (zBr ((22 : Int32) ≤ v3) (zXr (some S)) (zGd (zIx v3 22) (zBr ((lg_cmp (S.2 3 v3.toNatClampNeg) (S.2 1 7)) = 0) (zLt (zI S 1 5 v3) (fun S15 => fX9_readRun_193 S15 v3)) (fX9_readRun_193 S v3)))) (zXr (some S))
set_option maxHeartbeats 4000000 in
set_option maxRecDepth 100000 in
theorem kX9_readRun_159B {p : Program} {l : Launch} {e : Env} {s : State} {m : MethodId} {args : Array Value} {below : List Frame} {meth : Method} {c : Code} {D : va_G} {cy : Nat → ClassId} {q : Nat → Nat} {A : Nat → Prop} (cx : zX RX9 cX9_readRun 4 p s m args c D cy) (hr : meth.sig.returnType = none) (hlk : meth.locks = false) (hq : zQ A q zNC) {z : zSt} {S : zSt} {v3 : Int32} {C1 : ((zSt × Int32) ⊕ zSt) → Prop} (hb1 : ∀ (S : zSt) (v3 : Int32), C1 (.inl (S, v3)) → ∀ (H : Heap) (locs : List Loc), va_P D vwCl (zW zsh zNC cy q S) H → va_S A s.heap H locs → ∀ (ls : Array Slot), lv_has ls 4 [(0, .ref (q 1)), (3, .int v3)] → W p l e rmX9_readRun s m args below meth c H locs 0 0 (MQ below (va_Qv (fun (u : zSt) => u = z) (fun u t => va_P D vwCl (zW zsh zNC cy q u) t.heap) A) args s 0 0 A) (F0 m 159 ls [])) (hx1 : ∀ a, C1 (.inr a) → a = z) {x : ((zSt × Int32) ⊕ zSt)} (h : fX9_readRun_159 (S, v3) = some x) (hc : C1 x) {H : Heap} {locs : List Loc} (hP : va_P D vwCl (zW zsh zNC cy q S) H) (hS : va_S A s.heap H locs) {ls : Array Slot} (hl : lv_has ls 4 [(0, .ref (q 1)), (3, .int v3)]) : W p l e rmX9_readRun s m args below meth c H locs 0 0 (MQ below (va_Qv (fun (u : zSt) => u = z) (fun u t => va_P D vwCl (zW zsh zNC cy q u) t.heap) A) args s 0 0 A) (F0 m 159 ls []) := by
  have hx := cx.1
  have hb := cx.2.1
  unfold fX9_readRun_159 at h
  dsimp only at h
  refine lv_aload_n (pc := 159) hx hb dX9_readRun_159 rfl (lv_at hl 0 rfl) ?_
  refine zr_getI (pc := 160) cx lk_X9_58 hP nC_1 sC_1 rfl dX9_readRun_160 ?_
  refine lv_bipush (pc := 163) hx hb dX9_readRun_163 zb_100 ?_
  refine lv_icmp_ne (pc := 165) (tgt := 199) hx hb dX9_readRun_165 (by decide) (fun c8 => ?_) (fun c8 => ?_)
  · replace h := zBr_f c8 h
    obtain ⟨y9, h, ex⟩ := zXr_e h
    have hc := hx1 y9 (by rw [ex] at hc; exact hc)
    rw [hc] at h
    have hz := Option.some.inj h
    exact zr_rqV (pc := 199) cx hr hlk hP hS hz dX9_readRun_199
  · replace h := zBr_t c8 h
    refine lv_iload_n (pc := 168) hx hb dX9_readRun_168 rfl (lv_at hl 1 rfl) ?_
    refine lv_bipush (pc := 169) hx hb dX9_readRun_169 zb_22 ?_
    refine lv_icmp_ge (pc := 171) (tgt := 199) hx hb dX9_readRun_171 (by decide) (fun c10 => ?_) (fun c10 => ?_)
    · replace h := zBr_t c10 h
      obtain ⟨y11, h, ex⟩ := zXr_e h
      have hc := hx1 y11 (by rw [ex] at hc; exact hc)
      rw [hc] at h
      have hz := Option.some.inj h
      exact zr_rqV (pc := 199) cx hr hlk hP hS hz dX9_readRun_199
    · replace h := zBr_f c10 h
      refine lv_aload_n (pc := 174) hx hb dX9_readRun_174 rfl (lv_at hl 0 rfl) ?_
      refine zr_getR (pc := 175) (t := 3) cx lk_X9_15 hP nC_1 sC_1 rfl dX9_readRun_175 ?_
      refine lv_iload_n (pc := 178) hx hb dX9_readRun_178 rfl (lv_at hl 1 rfl) ?_
      obtain ⟨g12, h⟩ := zGd_e h
      refine zr_lald (pc := 179) cx hP nC_3 sC_3 g12 dX9_readRun_179 ?_
      refine lv_aload_n (pc := 180) hx hb dX9_readRun_180 rfl (lv_at hl 0 rfl) ?_
      refine zr_getJ (pc := 181) cx lk_X9_64 hP nC_1 sC_1 rfl dX9_readRun_181 ?_
      refine W.lcmp (pc := 184) hx hb dX9_readRun_184 ?_
      refine lv_if_ne (pc := 185) (tgt := 193) hx hb dX9_readRun_185 (by decide) (fun c13 => ?_) (fun c13 => ?_)
      · replace h := zBr_f c13 h
        exact kX9_readRun_193 cx hr hlk hq hb1 hx1 h hc hP hS (lv_sub hl [0, 1] rfl)
      · replace h := zBr_t c13 h
        refine lv_aload_n (pc := 188) hx hb dX9_readRun_188 rfl (lv_at hl 0 rfl) ?_
        refine lv_iload_n (pc := 189) hx hb dX9_readRun_189 rfl (lv_at hl 1 rfl) ?_
        obtain ⟨S15, eS15, h⟩ := zLt_e h
        refine zr_putI (pc := 190) cx lq_X9_58 hq hP hS nC_1 sC_1 rfl rfl rfl dX9_readRun_190 (fun H locs hP hS => ?_)
        rw [← eS15] at hP
        exact kX9_readRun_193 cx hr hlk hq hb1 hx1 h hc hP hS (lv_sub hl [0, 1] rfl)
set_option maxHeartbeats 4000000 in
set_option maxRecDepth 100000 in
theorem kX9_readRun_159 {p : Program} {l : Launch} {e : Env} {s : State} {m : MethodId} {args : Array Value} {below : List Frame} {meth : Method} {c : Code} {D : va_G} {cy : Nat → ClassId} {q : Nat → Nat} {A : Nat → Prop} (cx : zX RX9 cX9_readRun 4 p s m args c D cy) (hr : meth.sig.returnType = none) (hlk : meth.locks = false) (hq : zQ A q zNC) {z : zSt} : ∀ (n : Nat) (S : zSt) (v3 : Int32), zLp (fX9_readRun_159) n (S, v3) = some z → ∀ (H : Heap) (locs : List Loc), va_P D vwCl (zW zsh zNC cy q S) H → va_S A s.heap H locs → ∀ (ls : Array Slot), lv_has ls 4 [(0, .ref (q 1)), (3, .int v3)] → W p l e rmX9_readRun s m args below meth c H locs 0 0 (MQ below (va_Qv (fun (u : zSt) => u = z) (fun u t => va_P D vwCl (zW zsh zNC cy q u) t.heap) A) args s 0 0 A) (F0 m 159 ls []) := by
  intro n
  induction n with
  | zero =>
    intro S v3 h
    cases h
  | succ n ih =>
    intro S v3 h H locs hP hS ls hl
    obtain ⟨x, h, hk⟩ := zLp_e h
    exact kX9_readRun_159B cx hr hlk hq  (C1 := zKt (fun t => zLp (fX9_readRun_159) n t = some z) (fun a => a = z)) (fun S v3 ht H locs hP hS ls hl => ih S v3 ht H locs hP hS ls hl) (fun a ha => ha) h hk hP hS hl
def fX9_readRun_154 (S : zSt)  (t0 : Int32) : Option zSt :=
  zLt (zI S 1 5 t0) (fun S7 => zLp (fX9_readRun_159) 2000 (S7, (0 : Int32)))
set_option maxHeartbeats 4000000 in
set_option maxRecDepth 100000 in
theorem kX9_readRun_154 {p : Program} {l : Launch} {e : Env} {s : State} {m : MethodId} {args : Array Value} {below : List Frame} {meth : Method} {c : Code} {D : va_G} {cy : Nat → ClassId} {q : Nat → Nat} {A : Nat → Prop} (cx : zX RX9 cX9_readRun 4 p s m args c D cy) (hr : meth.sig.returnType = none) (hlk : meth.locks = false) (hq : zQ A q zNC) {z : zSt} {S : zSt} {t0 : Int32} (h : fX9_readRun_154 S t0 = some z) {H : Heap} {locs : List Loc} (hP : va_P D vwCl (zW zsh zNC cy q S) H) (hS : va_S A s.heap H locs) {ls : Array Slot} (hl : lv_has ls 4 [(0, .ref (q 1))]) : W p l e rmX9_readRun s m args below meth c H locs 0 0 (MQ below (va_Qv (fun (u : zSt) => u = z) (fun u t => va_P D vwCl (zW zsh zNC cy q u) t.heap) A) args s 0 0 A) (F0 m 154 ls [.int t0, .ref (q 1)]) := by
  have hx := cx.1
  have hb := cx.2.1
  unfold fX9_readRun_154 at h
  obtain ⟨S7, eS7, h⟩ := zLt_e h
  refine zr_putI (pc := 154) cx lq_X9_58 hq hP hS nC_1 sC_1 rfl rfl rfl dX9_readRun_154 (fun H locs hP hS => ?_)
  rw [← eS7] at hP
  refine lv_iconst (pc := 157) hx hb dX9_readRun_157 zc_0 ?_
  refine lv_istore_n (lv' := [(3, .int (0 : Int32)), (0, .ref (q 1))]) (pc := 158) hx hb dX9_readRun_158 rfl hl (by decide) rfl (fun ls hl => ?_)
  exact kX9_readRun_159 cx hr hlk hq 2000 _ _ h _ _ hP hS _ (lv_sub hl [1, 0] rfl)
def fX9_readRun_152 (S : zSt)  : Option zSt :=
  fX9_readRun_154 S (103 : Int32)
set_option maxHeartbeats 4000000 in
set_option maxRecDepth 100000 in
theorem kX9_readRun_152 {p : Program} {l : Launch} {e : Env} {s : State} {m : MethodId} {args : Array Value} {below : List Frame} {meth : Method} {c : Code} {D : va_G} {cy : Nat → ClassId} {q : Nat → Nat} {A : Nat → Prop} (cx : zX RX9 cX9_readRun 4 p s m args c D cy) (hr : meth.sig.returnType = none) (hlk : meth.locks = false) (hq : zQ A q zNC) {z : zSt} {S : zSt} (h : fX9_readRun_152 S = some z) {H : Heap} {locs : List Loc} (hP : va_P D vwCl (zW zsh zNC cy q S) H) (hS : va_S A s.heap H locs) {ls : Array Slot} (hl : lv_has ls 4 [(0, .ref (q 1))]) : W p l e rmX9_readRun s m args below meth c H locs 0 0 (MQ below (va_Qv (fun (u : zSt) => u = z) (fun u t => va_P D vwCl (zW zsh zNC cy q u) t.heap) A) args s 0 0 A) (F0 m 152 ls [.ref (q 1)]) := by
  have hx := cx.1
  have hb := cx.2.1
  unfold fX9_readRun_152 at h
  refine lv_bipush (pc := 152) hx hb dX9_readRun_152 zb_103 ?_
  exact kX9_readRun_154 cx hr hlk hq h hP hS (lv_sub hl [0] rfl)
def fX9_readRun_115 (S : zSt)  (v1 : Int32) (v2 : Int32) : Option zSt :=
  zBr (v1 = 0) (zBr ((3 : Int32) < v2) (zLt (zI S 1 5 (103 : Int32)) (fun S18 => some S18)) (zLt (zI S 1 5 (101 : Int32)) (fun S19 => some S19))) (zBr (v2 = 0) (zBr ((7 : Int32) < v1) (fX9_readRun_152 S) (fX9_readRun_154 S (100 : Int32))) (fX9_readRun_152 S))
set_option maxHeartbeats 4000000 in
set_option maxRecDepth 100000 in
theorem kX9_readRun_115 {p : Program} {l : Launch} {e : Env} {s : State} {m : MethodId} {args : Array Value} {below : List Frame} {meth : Method} {c : Code} {D : va_G} {cy : Nat → ClassId} {q : Nat → Nat} {A : Nat → Prop} (cx : zX RX9 cX9_readRun 4 p s m args c D cy) (hr : meth.sig.returnType = none) (hlk : meth.locks = false) (hq : zQ A q zNC) {z : zSt} {S : zSt} {v1 : Int32} {v2 : Int32} (h : fX9_readRun_115 S v1 v2 = some z) {H : Heap} {locs : List Loc} (hP : va_P D vwCl (zW zsh zNC cy q S) H) (hS : va_S A s.heap H locs) {ls : Array Slot} (hl : lv_has ls 4 [(0, .ref (q 1)), (1, .int v1), (2, .int v2)]) : W p l e rmX9_readRun s m args below meth c H locs 0 0 (MQ below (va_Qv (fun (u : zSt) => u = z) (fun u t => va_P D vwCl (zW zsh zNC cy q u) t.heap) A) args s 0 0 A) (F0 m 115 ls []) := by
  have hx := cx.1
  have hb := cx.2.1
  unfold fX9_readRun_115 at h
  refine lv_iload_n (pc := 115) hx hb dX9_readRun_115 rfl (lv_at hl 1 rfl) ?_
  refine lv_if_ne (pc := 116) (tgt := 136) hx hb dX9_readRun_116 (by decide) (fun c5 => ?_) (fun c5 => ?_)
  · replace h := zBr_f c5 h
    refine lv_aload_n (pc := 136) hx hb dX9_readRun_136 rfl (lv_at hl 0 rfl) ?_
    refine lv_iload_n (pc := 137) hx hb dX9_readRun_137 rfl (lv_at hl 2 rfl) ?_
    refine lv_if_ne (pc := 138) (tgt := 152) hx hb dX9_readRun_138 (by decide) (fun c6 => ?_) (fun c6 => ?_)
    · replace h := zBr_f c6 h
      exact kX9_readRun_152 cx hr hlk hq h hP hS (lv_sub hl [0] rfl)
    · replace h := zBr_t c6 h
      refine lv_iload_n (pc := 141) hx hb dX9_readRun_141 rfl (lv_at hl 1 rfl) ?_
      refine lv_bipush (pc := 142) hx hb dX9_readRun_142 zb_7 ?_
      refine lv_icmp_gt (pc := 144) (tgt := 152) hx hb dX9_readRun_144 (by decide) (fun c16 => ?_) (fun c16 => ?_)
      · replace h := zBr_t c16 h
        exact kX9_readRun_152 cx hr hlk hq h hP hS (lv_sub hl [0] rfl)
      · replace h := zBr_f c16 h
        refine lv_bipush (pc := 147) hx hb dX9_readRun_147 zb_100 ?_
        refine lv_goto (pc := 149) (tgt := 154) hx hb dX9_readRun_149 (by decide) ?_
        exact kX9_readRun_154 cx hr hlk hq h hP hS (lv_sub hl [0] rfl)
  · replace h := zBr_t c5 h
    refine lv_aload_n (pc := 119) hx hb dX9_readRun_119 rfl (lv_at hl 0 rfl) ?_
    refine lv_iload_n (pc := 120) hx hb dX9_readRun_120 rfl (lv_at hl 2 rfl) ?_
    refine lv_iconst (pc := 121) hx hb dX9_readRun_121 zc_3 ?_
    refine lv_icmp_gt (pc := 122) (tgt := 130) hx hb dX9_readRun_122 (by decide) (fun c17 => ?_) (fun c17 => ?_)
    · replace h := zBr_t c17 h
      refine lv_bipush (pc := 130) hx hb dX9_readRun_130 zb_103 ?_
      obtain ⟨S18, eS18, h⟩ := zLt_e h
      refine zr_putI (pc := 132) cx lq_X9_58 hq hP hS nC_1 sC_1 rfl rfl rfl dX9_readRun_132 (fun H locs hP hS => ?_)
      rw [← eS18] at hP
      have hz := Option.some.inj h
      exact zr_rqV (pc := 135) cx hr hlk hP hS hz dX9_readRun_135
    · replace h := zBr_f c17 h
      refine lv_bipush (pc := 125) hx hb dX9_readRun_125 zb_101 ?_
      refine lv_goto (pc := 127) (tgt := 132) hx hb dX9_readRun_127 (by decide) ?_
      obtain ⟨S19, eS19, h⟩ := zLt_e h
      refine zr_putI (pc := 132) cx lq_X9_58 hq hP hS nC_1 sC_1 rfl rfl rfl dX9_readRun_132 (fun H locs hP hS => ?_)
      rw [← eS19] at hP
      have hz := Option.some.inj h
      exact zr_rqV (pc := 135) cx hr hlk hP hS hz dX9_readRun_135
def fX9_readRun_102 (S : zSt)  (v1 : Int32) (v2 : Int32) : Option ((zSt × Int32 × Int32) ⊕ zSt) :=
  zLt (zI S 1 4 ((S.1 1 4) + (1 : Int32))) (fun S29 => some (.inl (S29, v1, v2)))
set_option maxHeartbeats 4000000 in
set_option maxRecDepth 100000 in
theorem kX9_readRun_102 {p : Program} {l : Launch} {e : Env} {s : State} {m : MethodId} {args : Array Value} {below : List Frame} {meth : Method} {c : Code} {D : va_G} {cy : Nat → ClassId} {q : Nat → Nat} {A : Nat → Prop} (cx : zX RX9 cX9_readRun 4 p s m args c D cy) (hr : meth.sig.returnType = none) (hlk : meth.locks = false) (hq : zQ A q zNC) {z : zSt} {S : zSt} {v1 : Int32} {v2 : Int32} {C1 : ((zSt × Int32 × Int32) ⊕ zSt) → Prop} (hb1 : ∀ (S : zSt) (v1 : Int32) (v2 : Int32), C1 (.inl (S, v1, v2)) → ∀ (H : Heap) (locs : List Loc), va_P D vwCl (zW zsh zNC cy q S) H → va_S A s.heap H locs → ∀ (ls : Array Slot), lv_has ls 4 [(0, .ref (q 1)), (1, .int v1), (2, .int v2)] → W p l e rmX9_readRun s m args below meth c H locs 0 0 (MQ below (va_Qv (fun (u : zSt) => u = z) (fun u t => va_P D vwCl (zW zsh zNC cy q u) t.heap) A) args s 0 0 A) (F0 m 14 ls [])) (hx1 : ∀ a, C1 (.inr a) → a = z) {x : ((zSt × Int32 × Int32) ⊕ zSt)} (h : fX9_readRun_102 S v1 v2 = some x) (hc : C1 x) {H : Heap} {locs : List Loc} (hP : va_P D vwCl (zW zsh zNC cy q S) H) (hS : va_S A s.heap H locs) {ls : Array Slot} (hl : lv_has ls 4 [(0, .ref (q 1)), (1, .int v1), (2, .int v2)]) : W p l e rmX9_readRun s m args below meth c H locs 0 0 (MQ below (va_Qv (fun (u : zSt) => u = z) (fun u t => va_P D vwCl (zW zsh zNC cy q u) t.heap) A) args s 0 0 A) (F0 m 102 ls []) := by
  have hx := cx.1
  have hb := cx.2.1
  unfold fX9_readRun_102 at h
  refine lv_aload_n (pc := 102) hx hb dX9_readRun_102 rfl (lv_at hl 0 rfl) ?_
  refine lv_dup (pc := 103) hx hb dX9_readRun_103 rfl ?_
  refine zr_getI (pc := 104) cx lk_X9_37 hP nC_1 sC_1 rfl dX9_readRun_104 ?_
  refine lv_iconst (pc := 107) hx hb dX9_readRun_107 zc_1 ?_
  refine lv_iadd (pc := 108) hx hb dX9_readRun_108 ?_
  obtain ⟨S29, eS29, h⟩ := zLt_e h
  refine zr_putI (pc := 109) cx lq_X9_37 hq hP hS nC_1 sC_1 rfl rfl rfl dX9_readRun_109 (fun H locs hP hS => ?_)
  rw [← eS29] at hP
  refine lv_goto (pc := 112) (tgt := 14) hx hb dX9_readRun_112 (by decide) ?_
  cases h
  exact hb1 _ _ _ hc _ _ hP hS _ (lv_sub hl [0, 1, 2] rfl)
def fX9_readRun_71 (S : zSt)  (v1 : Int32) (v2 : Int32) (v3 : Int32) : Option ((zSt × Int32 × Int32) ⊕ zSt) :=
  zBr (v3 < (48 : Int32)) (zXr (fX9_readRun_115 S v1 v2)) (zBr ((57 : Int32) < v3) (zXr (fX9_readRun_115 S v1 v2)) (zLt (v2 + (1 : Int32)) (fun x27 => zLt (zI S 1 8 ((((S.1 1 8) * (10 : Int32)) + v3) - (48 : Int32))) (fun S28 => fX9_readRun_102 S28 v1 x27))))
set_option maxHeartbeats 4000000 in
set_option maxRecDepth 100000 in
theorem kX9_readRun_71 {p : Program} {l : Launch} {e : Env} {s : State} {m : MethodId} {args : Array Value} {below : List Frame} {meth : Method} {c : Code} {D : va_G} {cy : Nat → ClassId} {q : Nat → Nat} {A : Nat → Prop} (cx : zX RX9 cX9_readRun 4 p s m args c D cy) (hr : meth.sig.returnType = none) (hlk : meth.locks = false) (hq : zQ A q zNC) {z : zSt} {S : zSt} {v1 : Int32} {v2 : Int32} {v3 : Int32} {C1 : ((zSt × Int32 × Int32) ⊕ zSt) → Prop} (hb1 : ∀ (S : zSt) (v1 : Int32) (v2 : Int32), C1 (.inl (S, v1, v2)) → ∀ (H : Heap) (locs : List Loc), va_P D vwCl (zW zsh zNC cy q S) H → va_S A s.heap H locs → ∀ (ls : Array Slot), lv_has ls 4 [(0, .ref (q 1)), (1, .int v1), (2, .int v2)] → W p l e rmX9_readRun s m args below meth c H locs 0 0 (MQ below (va_Qv (fun (u : zSt) => u = z) (fun u t => va_P D vwCl (zW zsh zNC cy q u) t.heap) A) args s 0 0 A) (F0 m 14 ls [])) (hx1 : ∀ a, C1 (.inr a) → a = z) {x : ((zSt × Int32 × Int32) ⊕ zSt)} (h : fX9_readRun_71 S v1 v2 v3 = some x) (hc : C1 x) {H : Heap} {locs : List Loc} (hP : va_P D vwCl (zW zsh zNC cy q S) H) (hS : va_S A s.heap H locs) {ls : Array Slot} (hl : lv_has ls 4 [(0, .ref (q 1)), (1, .int v1), (2, .int v2), (3, .int v3)]) : W p l e rmX9_readRun s m args below meth c H locs 0 0 (MQ below (va_Qv (fun (u : zSt) => u = z) (fun u t => va_P D vwCl (zW zsh zNC cy q u) t.heap) A) args s 0 0 A) (F0 m 71 ls []) := by
  have hx := cx.1
  have hb := cx.2.1
  unfold fX9_readRun_71 at h
  refine lv_iload_n (pc := 71) hx hb dX9_readRun_71 rfl (lv_at hl 3 rfl) ?_
  refine lv_bipush (pc := 72) hx hb dX9_readRun_72 zb_48 ?_
  refine lv_icmp_lt (pc := 74) (tgt := 115) hx hb dX9_readRun_74 (by decide) (fun c23 => ?_) (fun c23 => ?_)
  · replace h := zBr_t c23 h
    obtain ⟨y24, h, ex⟩ := zXr_e h
    have hc := hx1 y24 (by rw [ex] at hc; exact hc)
    rw [hc] at h
    exact kX9_readRun_115 cx hr hlk hq h hP hS (lv_sub hl [0, 1, 2] rfl)
  · replace h := zBr_f c23 h
    refine lv_iload_n (pc := 77) hx hb dX9_readRun_77 rfl (lv_at hl 3 rfl) ?_
    refine lv_bipush (pc := 78) hx hb dX9_readRun_78 zb_57 ?_
    refine lv_icmp_gt (pc := 80) (tgt := 115) hx hb dX9_readRun_80 (by decide) (fun c25 => ?_) (fun c25 => ?_)
    · replace h := zBr_t c25 h
      obtain ⟨y26, h, ex⟩ := zXr_e h
      have hc := hx1 y26 (by rw [ex] at hc; exact hc)
      rw [hc] at h
      exact kX9_readRun_115 cx hr hlk hq h hP hS (lv_sub hl [0, 1, 2] rfl)
    · replace h := zBr_f c25 h
      obtain ⟨x27, ex27, h⟩ := zLt_e h
      refine lv_iinc (v := x27) (lv' := [(2, .int x27), (0, .ref (q 1)), (1, .int v1), (3, .int v3)]) (pc := 83) hx hb dX9_readRun_83 hl (k := 2) rfl (by rw [zc_1]; exact ex27.symm) (by decide) rfl (fun ls hl => ?_)
      refine lv_aload_n (pc := 86) hx hb dX9_readRun_86 rfl (lv_at hl 1 rfl) ?_
      refine lv_aload_n (pc := 87) hx hb dX9_readRun_87 rfl (lv_at hl 1 rfl) ?_
      refine zr_getI (pc := 88) cx lk_X9_68 hP nC_1 sC_1 rfl dX9_readRun_88 ?_
      refine lv_bipush (pc := 91) hx hb dX9_readRun_91 zb_10 ?_
      refine lv_imul (pc := 93) hx hb dX9_readRun_93 ?_
      refine lv_iload_n (pc := 94) hx hb dX9_readRun_94 rfl (lv_at hl 3 rfl) ?_
      refine lv_iadd (pc := 95) hx hb dX9_readRun_95 ?_
      refine lv_bipush (pc := 96) hx hb dX9_readRun_96 zb_48 ?_
      refine lv_isub (pc := 98) hx hb dX9_readRun_98 ?_
      obtain ⟨S28, eS28, h⟩ := zLt_e h
      refine zr_putI (pc := 99) cx lq_X9_68 hq hP hS nC_1 sC_1 rfl rfl rfl dX9_readRun_99 (fun H locs hP hS => ?_)
      rw [← eS28] at hP
      exact kX9_readRun_102 cx hr hlk hq hb1 hx1 h hc hP hS (lv_sub hl [1, 2, 0] rfl)
def fX9_readRun_14  (t : (zSt × Int32 × Int32)) : Option ((zSt × Int32 × Int32) ⊕ zSt) :=
  match t with
  | (S, v1, v2) => zBr ((S.1 1 1) ≤ (S.1 1 4)) (zXr (fX9_readRun_115 S v1 v2)) (zGd (zIx (S.1 1 4) 940) (zLt (S.1 2 (S.1 1 4).toNatClampNeg) (fun x21 => zBr (x21 < (97 : Int32)) (fX9_readRun_71 S v1 v2 x21) (zBr ((122 : Int32) < x21) (fX9_readRun_71 S v1 v2 x21) (zLt (v1 + (1 : Int32)) (fun x31 => zLt (zJ S 1 7 ((zLsh (S.2 1 7) (5 : Int32)) ||| ((((x21 - (97 : Int32)) + (1 : Int32))).toInt64))) (fun S32 => fX9_readRun_102 S32 x31 v2)))))))
set_option maxHeartbeats 4000000 in
set_option maxRecDepth 100000 in
theorem kX9_readRun_14B {p : Program} {l : Launch} {e : Env} {s : State} {m : MethodId} {args : Array Value} {below : List Frame} {meth : Method} {c : Code} {D : va_G} {cy : Nat → ClassId} {q : Nat → Nat} {A : Nat → Prop} (cx : zX RX9 cX9_readRun 4 p s m args c D cy) (hr : meth.sig.returnType = none) (hlk : meth.locks = false) (hq : zQ A q zNC) {z : zSt} {S : zSt} {v1 : Int32} {v2 : Int32} {C1 : ((zSt × Int32 × Int32) ⊕ zSt) → Prop} (hb1 : ∀ (S : zSt) (v1 : Int32) (v2 : Int32), C1 (.inl (S, v1, v2)) → ∀ (H : Heap) (locs : List Loc), va_P D vwCl (zW zsh zNC cy q S) H → va_S A s.heap H locs → ∀ (ls : Array Slot), lv_has ls 4 [(0, .ref (q 1)), (1, .int v1), (2, .int v2)] → W p l e rmX9_readRun s m args below meth c H locs 0 0 (MQ below (va_Qv (fun (u : zSt) => u = z) (fun u t => va_P D vwCl (zW zsh zNC cy q u) t.heap) A) args s 0 0 A) (F0 m 14 ls [])) (hx1 : ∀ a, C1 (.inr a) → a = z) {x : ((zSt × Int32 × Int32) ⊕ zSt)} (h : fX9_readRun_14 (S, v1, v2) = some x) (hc : C1 x) {H : Heap} {locs : List Loc} (hP : va_P D vwCl (zW zsh zNC cy q S) H) (hS : va_S A s.heap H locs) {ls : Array Slot} (hl : lv_has ls 4 [(0, .ref (q 1)), (1, .int v1), (2, .int v2)]) : W p l e rmX9_readRun s m args below meth c H locs 0 0 (MQ below (va_Qv (fun (u : zSt) => u = z) (fun u t => va_P D vwCl (zW zsh zNC cy q u) t.heap) A) args s 0 0 A) (F0 m 14 ls []) := by
  have hx := cx.1
  have hb := cx.2.1
  unfold fX9_readRun_14 at h
  dsimp only at h
  refine lv_aload_n (pc := 14) hx hb dX9_readRun_14 rfl (lv_at hl 0 rfl) ?_
  refine zr_getI (pc := 15) cx lk_X9_37 hP nC_1 sC_1 rfl dX9_readRun_15 ?_
  refine lv_aload_n (pc := 18) hx hb dX9_readRun_18 rfl (lv_at hl 0 rfl) ?_
  refine zr_getI (pc := 19) cx lk_X9_31 hP nC_1 sC_1 rfl dX9_readRun_19 ?_
  refine lv_icmp_ge (pc := 22) (tgt := 115) hx hb dX9_readRun_22 (by decide) (fun c3 => ?_) (fun c3 => ?_)
  · replace h := zBr_t c3 h
    obtain ⟨y4, h, ex⟩ := zXr_e h
    have hc := hx1 y4 (by rw [ex] at hc; exact hc)
    rw [hc] at h
    exact kX9_readRun_115 cx hr hlk hq h hP hS (lv_sub hl [0, 1, 2] rfl)
  · replace h := zBr_f c3 h
    refine lv_aload_n (pc := 25) hx hb dX9_readRun_25 rfl (lv_at hl 0 rfl) ?_
    refine zr_getR (pc := 26) (t := 2) cx lk_X9_9 hP nC_1 sC_1 rfl dX9_readRun_26 ?_
    refine lv_aload_n (pc := 29) hx hb dX9_readRun_29 rfl (lv_at hl 0 rfl) ?_
    refine zr_getI (pc := 30) cx lk_X9_37 hP nC_1 sC_1 rfl dX9_readRun_30 ?_
    obtain ⟨g20, h⟩ := zGd_e h
    refine zr_cald (pc := 33) cx hP nC_2 sC_2 g20 dX9_readRun_33 ?_
    obtain ⟨x21, ex21, h⟩ := zLt_e h
    refine zr_nmI ex21 ?_
    refine lv_istore_n (lv' := [(3, .int x21), (0, .ref (q 1)), (1, .int v1), (2, .int v2)]) (pc := 34) hx hb dX9_readRun_34 rfl hl (by decide) rfl (fun ls hl => ?_)
    refine lv_iload_n (pc := 35) hx hb dX9_readRun_35 rfl (lv_at hl 0 rfl) ?_
    refine lv_bipush (pc := 36) hx hb dX9_readRun_36 zb_97 ?_
    refine lv_icmp_lt (pc := 38) (tgt := 71) hx hb dX9_readRun_38 (by decide) (fun c22 => ?_) (fun c22 => ?_)
    · replace h := zBr_t c22 h
      exact kX9_readRun_71 cx hr hlk hq hb1 hx1 h hc hP hS (lv_sub hl [1, 2, 3, 0] rfl)
    · replace h := zBr_f c22 h
      refine lv_iload_n (pc := 41) hx hb dX9_readRun_41 rfl (lv_at hl 0 rfl) ?_
      refine lv_bipush (pc := 42) hx hb dX9_readRun_42 zb_122 ?_
      refine lv_icmp_gt (pc := 44) (tgt := 71) hx hb dX9_readRun_44 (by decide) (fun c30 => ?_) (fun c30 => ?_)
      · replace h := zBr_t c30 h
        exact kX9_readRun_71 cx hr hlk hq hb1 hx1 h hc hP hS (lv_sub hl [1, 2, 3, 0] rfl)
      · replace h := zBr_f c30 h
        obtain ⟨x31, ex31, h⟩ := zLt_e h
        refine lv_iinc (v := x31) (lv' := [(1, .int x31), (3, .int x21), (0, .ref (q 1)), (2, .int v2)]) (pc := 47) hx hb dX9_readRun_47 hl (k := 2) rfl (by rw [zc_1]; exact ex31.symm) (by decide) rfl (fun ls hl => ?_)
        refine lv_aload_n (pc := 50) hx hb dX9_readRun_50 rfl (lv_at hl 2 rfl) ?_
        refine lv_aload_n (pc := 51) hx hb dX9_readRun_51 rfl (lv_at hl 2 rfl) ?_
        refine zr_getJ (pc := 52) cx lk_X9_64 hP nC_1 sC_1 rfl dX9_readRun_52 ?_
        refine lv_iconst (pc := 55) hx hb dX9_readRun_55 zc_5 ?_
        refine lv_lshl (v := (zLsh (S.2 1 7) (5 : Int32))) (pc := 56) hx hb dX9_readRun_56 rfl ?_
        refine lv_iload_n (pc := 57) hx hb dX9_readRun_57 rfl (lv_at hl 1 rfl) ?_
        refine lv_bipush (pc := 58) hx hb dX9_readRun_58 zb_97 ?_
        refine lv_isub (pc := 60) hx hb dX9_readRun_60 ?_
        refine lv_iconst (pc := 61) hx hb dX9_readRun_61 zc_1 ?_
        refine lv_iadd (pc := 62) hx hb dX9_readRun_62 ?_
        refine lv_i2l (v := ((((x21 - (97 : Int32)) + (1 : Int32))).toInt64)) (pc := 63) hx hb dX9_readRun_63 rfl ?_
        refine lv_lor (pc := 64) hx hb dX9_readRun_64 ?_
        obtain ⟨S32, eS32, h⟩ := zLt_e h
        refine zr_putJ (pc := 65) cx lq_X9_64 hq hP hS nC_1 sC_1 rfl dX9_readRun_65 (fun H locs hP hS => ?_)
        rw [← eS32] at hP
        refine lv_goto (pc := 68) (tgt := 102) hx hb dX9_readRun_68 (by decide) ?_
        exact kX9_readRun_102 cx hr hlk hq hb1 hx1 h hc hP hS (lv_sub hl [2, 0, 3] rfl)
set_option maxHeartbeats 4000000 in
set_option maxRecDepth 100000 in
theorem kX9_readRun_14 {p : Program} {l : Launch} {e : Env} {s : State} {m : MethodId} {args : Array Value} {below : List Frame} {meth : Method} {c : Code} {D : va_G} {cy : Nat → ClassId} {q : Nat → Nat} {A : Nat → Prop} (cx : zX RX9 cX9_readRun 4 p s m args c D cy) (hr : meth.sig.returnType = none) (hlk : meth.locks = false) (hq : zQ A q zNC) {z : zSt} : ∀ (n : Nat) (S : zSt) (v1 : Int32) (v2 : Int32), zLp (fX9_readRun_14) n (S, v1, v2) = some z → ∀ (H : Heap) (locs : List Loc), va_P D vwCl (zW zsh zNC cy q S) H → va_S A s.heap H locs → ∀ (ls : Array Slot), lv_has ls 4 [(0, .ref (q 1)), (1, .int v1), (2, .int v2)] → W p l e rmX9_readRun s m args below meth c H locs 0 0 (MQ below (va_Qv (fun (u : zSt) => u = z) (fun u t => va_P D vwCl (zW zsh zNC cy q u) t.heap) A) args s 0 0 A) (F0 m 14 ls []) := by
  intro n
  induction n with
  | zero =>
    intro S v1 v2 h
    cases h
  | succ n ih =>
    intro S v1 v2 h H locs hP hS ls hl
    obtain ⟨x, h, hk⟩ := zLp_e h
    exact kX9_readRun_14B cx hr hlk hq  (C1 := zKt (fun t => zLp (fX9_readRun_14) n t = some z) (fun a => a = z)) (fun S v1 v2 ht H locs hP hS ls hl => ih S v1 v2 ht H locs hP hS ls hl) (fun a ha => ha) h hk hP hS hl
def fX9_readRun (S : zSt) : Option zSt :=
  zLt (zJ S 1 7 (0 : Int64)) (fun S1 => zLt (zI S1 1 8 (0 : Int32)) (fun S2 => zLp (fX9_readRun_14) 2000 (S2, (0 : Int32), (0 : Int32))))
set_option maxHeartbeats 4000000 in
set_option maxRecDepth 100000 in
theorem mX9_readRun {l : Launch} {D : va_G} {cy : Nat → ClassId} {q : Nat → Nat} {A : Nat → Prop} {S : zSt} (hq : zQ A q zNC) {z : zSt} (h : fX9_readRun S = some z) : zMv l yX9_readRun cX9_readRun 4 none rmX9_readRun [.ref (q 1)] zsh zNC D cy q A S z := by
  refine Met.ofW (cc := cX9_readRun) (maxL := 4) (ret := none) (by decide) rfl ?_
  intro p e s m args below meth c s₁ B hml hv
  obtain ⟨rfl, hP, hK⟩ := hv
  have cx : zX RX9 cX9_readRun 4 p s m ([.ref (q 1)]).toArray c D cy := ⟨B.exec, B.bytes, hml, findClass_of_methodNamed B.named, fun w hw => atoms_spec (ws := Cond.code yX9_readRun cX9_readRun 4 none :: zTB) B.pre w (List.mem_cons_of_mem _ hw), hK⟩
  have hx := cx.1
  have hb := cx.2.1
  have hr := B.returns
  have hlk := B.notSynchronized
  have hS : va_S A s.heap s.heap [] := va_S.rf
  have hl := lv_entry ([.ref (q 1)]) (n := 4) (Nat.le_of_ble_eq_true rfl)
  rw [lg_entry_eq]
  generalize (lg_sl ([.ref (q 1)]) ++ List.replicate (4 - (lg_sl ([.ref (q 1)])).length) Slot.unset).toArray = ls at hl ⊢
  have hl : lv_has ls 4 [(0, .ref (q 1))] := hl
  unfold fX9_readRun at h
  refine lv_iconst (pc := 0) hx hb dX9_readRun_0 zc_0 ?_
  refine lv_istore_n (lv' := [(1, .int (0 : Int32)), (0, .ref (q 1))]) (pc := 1) hx hb dX9_readRun_1 rfl hl (by decide) rfl (fun ls hl => ?_)
  refine lv_iconst (pc := 2) hx hb dX9_readRun_2 zc_0 ?_
  refine lv_istore_n (lv' := [(2, .int (0 : Int32)), (1, .int (0 : Int32)), (0, .ref (q 1))]) (pc := 3) hx hb dX9_readRun_3 rfl hl (by decide) rfl (fun ls hl => ?_)
  refine lv_aload_n (pc := 4) hx hb dX9_readRun_4 rfl (lv_at hl 2 rfl) ?_
  refine lv_lconst (v := 0) (pc := 5) hx hb dX9_readRun_5 rfl ?_
  obtain ⟨S1, eS1, h⟩ := zLt_e h
  refine zr_putJ (pc := 6) cx lq_X9_64 hq hP hS nC_1 sC_1 rfl dX9_readRun_6 (fun H locs hP hS => ?_)
  rw [← eS1] at hP
  refine lv_aload_n (pc := 9) hx hb dX9_readRun_9 rfl (lv_at hl 2 rfl) ?_
  refine lv_iconst (pc := 10) hx hb dX9_readRun_10 zc_0 ?_
  obtain ⟨S2, eS2, h⟩ := zLt_e h
  refine zr_putI (pc := 11) cx lq_X9_68 hq hP hS nC_1 sC_1 rfl rfl rfl dX9_readRun_11 (fun H locs hP hS => ?_)
  rw [← eS2] at hP
  exact kX9_readRun_14 cx hr hlk hq 2000 _ _ _ h _ _ hP hS _ (lv_sub hl [2, 1, 0] rfl)
-- X9_read
abbrev rmX9_read : Room := { frames := 1, cells := 0, slots := 0, locals := 23 }
def fX9_read_185 (S : zSt)  (t0 : Int32) : Option zSt :=
  zLt (zI S 1 5 t0) (fun S12 => zLt (zI S12 1 4 ((S12.1 1 4) + (1 : Int32))) (fun S13 => some S13))
set_option maxHeartbeats 4000000 in
set_option maxRecDepth 100000 in
theorem kX9_read_185 {p : Program} {l : Launch} {e : Env} {s : State} {m : MethodId} {args : Array Value} {below : List Frame} {meth : Method} {c : Code} {D : va_G} {cy : Nat → ClassId} {q : Nat → Nat} {A : Nat → Prop} (cx : zX RX9 cX9_read 4 p s m args c D cy) (hr : meth.sig.returnType = none) (hlk : meth.locks = false) (hq : zQ A q zNC) {z : zSt} {S : zSt} {t0 : Int32} (h : fX9_read_185 S t0 = some z) {H : Heap} {locs : List Loc} (hP : va_P D vwCl (zW zsh zNC cy q S) H) (hS : va_S A s.heap H locs) {ls : Array Slot} (hl : lv_has ls 4 [(0, .ref (q 1))]) : W p l e rmX9_read s m args below meth c H locs 0 0 (MQ below (va_Qv (fun (u : zSt) => u = z) (fun u t => va_P D vwCl (zW zsh zNC cy q u) t.heap) A) args s 0 0 A) (F0 m 185 ls [.int t0, .ref (q 1)]) := by
  have hx := cx.1
  have hb := cx.2.1
  unfold fX9_read_185 at h
  obtain ⟨S12, eS12, h⟩ := zLt_e h
  refine zr_putI (pc := 185) cx lq_X9_58 hq hP hS nC_1 sC_1 rfl rfl rfl dX9_read_185 (fun H locs hP hS => ?_)
  rw [← eS12] at hP
  refine lv_aload_n (pc := 188) hx hb dX9_read_188 rfl (lv_at hl 0 rfl) ?_
  refine lv_dup (pc := 189) hx hb dX9_read_189 rfl ?_
  refine zr_getI (pc := 190) cx lk_X9_37 hP nC_1 sC_1 rfl dX9_read_190 ?_
  refine lv_iconst (pc := 193) hx hb dX9_read_193 zc_1 ?_
  refine lv_iadd (pc := 194) hx hb dX9_read_194 ?_
  obtain ⟨S13, eS13, h⟩ := zLt_e h
  refine zr_putI (pc := 195) cx lq_X9_37 hq hP hS nC_1 sC_1 rfl rfl rfl dX9_read_195 (fun H locs hP hS => ?_)
  rw [← eS13] at hP
  have hz := Option.some.inj h
  exact zr_rqV (pc := 198) cx hr hlk hP hS hz dX9_read_198
def fX9_read_173 (S : zSt)  (v2 : Int32) (t0 : Int32) : Option zSt :=
  zBr (t0 = 0) (fX9_read_185 S (103 : Int32)) (fX9_read_185 S v2)
set_option maxHeartbeats 4000000 in
set_option maxRecDepth 100000 in
theorem kX9_read_173 {p : Program} {l : Launch} {e : Env} {s : State} {m : MethodId} {args : Array Value} {below : List Frame} {meth : Method} {c : Code} {D : va_G} {cy : Nat → ClassId} {q : Nat → Nat} {A : Nat → Prop} (cx : zX RX9 cX9_read 4 p s m args c D cy) (hr : meth.sig.returnType = none) (hlk : meth.locks = false) (hq : zQ A q zNC) {z : zSt} {S : zSt} {v2 : Int32} {t0 : Int32} (h : fX9_read_173 S v2 t0 = some z) {H : Heap} {locs : List Loc} (hP : va_P D vwCl (zW zsh zNC cy q S) H) (hS : va_S A s.heap H locs) {ls : Array Slot} (hl : lv_has ls 4 [(0, .ref (q 1)), (2, .int v2)]) : W p l e rmX9_read s m args below meth c H locs 0 0 (MQ below (va_Qv (fun (u : zSt) => u = z) (fun u t => va_P D vwCl (zW zsh zNC cy q u) t.heap) A) args s 0 0 A) (F0 m 173 ls [.int t0]) := by
  have hx := cx.1
  have hb := cx.2.1
  unfold fX9_read_173 at h
  refine lv_istore_n (lv' := [(3, .int t0), (0, .ref (q 1)), (2, .int v2)]) (pc := 173) hx hb dX9_read_173 rfl hl (by decide) rfl (fun ls hl => ?_)
  refine lv_aload_n (pc := 174) hx hb dX9_read_174 rfl (lv_at hl 1 rfl) ?_
  refine lv_iload_n (pc := 175) hx hb dX9_read_175 rfl (lv_at hl 0 rfl) ?_
  refine lv_if_eq (pc := 176) (tgt := 183) hx hb dX9_read_176 (by decide) (fun c11 => ?_) (fun c11 => ?_)
  · replace h := zBr_t c11 h
    refine lv_bipush (pc := 183) hx hb dX9_read_183 zb_103 ?_
    exact kX9_read_185 cx hr hlk hq h hP hS (lv_sub hl [1] rfl)
  · replace h := zBr_f c11 h
    refine lv_iload_n (pc := 179) hx hb dX9_read_179 rfl (lv_at hl 2 rfl) ?_
    refine lv_goto (pc := 180) (tgt := 185) hx hb dX9_read_180 (by decide) ?_
    exact kX9_read_185 cx hr hlk hq h hP hS (lv_sub hl [1] rfl)
def fX9_read_168 (S : zSt)  (v2 : Int32) : Option zSt :=
  fX9_read_173 S v2 (1 : Int32)
set_option maxHeartbeats 4000000 in
set_option maxRecDepth 100000 in
theorem kX9_read_168 {p : Program} {l : Launch} {e : Env} {s : State} {m : MethodId} {args : Array Value} {below : List Frame} {meth : Method} {c : Code} {D : va_G} {cy : Nat → ClassId} {q : Nat → Nat} {A : Nat → Prop} (cx : zX RX9 cX9_read 4 p s m args c D cy) (hr : meth.sig.returnType = none) (hlk : meth.locks = false) (hq : zQ A q zNC) {z : zSt} {S : zSt} {v2 : Int32} (h : fX9_read_168 S v2 = some z) {H : Heap} {locs : List Loc} (hP : va_P D vwCl (zW zsh zNC cy q S) H) (hS : va_S A s.heap H locs) {ls : Array Slot} (hl : lv_has ls 4 [(0, .ref (q 1)), (2, .int v2)]) : W p l e rmX9_read s m args below meth c H locs 0 0 (MQ below (va_Qv (fun (u : zSt) => u = z) (fun u t => va_P D vwCl (zW zsh zNC cy q u) t.heap) A) args s 0 0 A) (F0 m 168 ls []) := by
  have hx := cx.1
  have hb := cx.2.1
  unfold fX9_read_168 at h
  refine lv_iconst (pc := 168) hx hb dX9_read_168 zc_1 ?_
  refine lv_goto (pc := 169) (tgt := 173) hx hb dX9_read_169 (by decide) ?_
  exact kX9_read_173 cx hr hlk hq h hP hS (lv_sub hl [0, 1] rfl)
def fX9_read_172 (S : zSt)  (v2 : Int32) : Option zSt :=
  fX9_read_173 S v2 (0 : Int32)
set_option maxHeartbeats 4000000 in
set_option maxRecDepth 100000 in
theorem kX9_read_172 {p : Program} {l : Launch} {e : Env} {s : State} {m : MethodId} {args : Array Value} {below : List Frame} {meth : Method} {c : Code} {D : va_G} {cy : Nat → ClassId} {q : Nat → Nat} {A : Nat → Prop} (cx : zX RX9 cX9_read 4 p s m args c D cy) (hr : meth.sig.returnType = none) (hlk : meth.locks = false) (hq : zQ A q zNC) {z : zSt} {S : zSt} {v2 : Int32} (h : fX9_read_172 S v2 = some z) {H : Heap} {locs : List Loc} (hP : va_P D vwCl (zW zsh zNC cy q S) H) (hS : va_S A s.heap H locs) {ls : Array Slot} (hl : lv_has ls 4 [(0, .ref (q 1)), (2, .int v2)]) : W p l e rmX9_read s m args below meth c H locs 0 0 (MQ below (va_Qv (fun (u : zSt) => u = z) (fun u t => va_P D vwCl (zW zsh zNC cy q u) t.heap) A) args s 0 0 A) (F0 m 172 ls []) := by
  have hx := cx.1
  have hb := cx.2.1
  unfold fX9_read_172 at h
  refine lv_iconst (pc := 172) hx hb dX9_read_172 zc_0 ?_
  exact kX9_read_173 cx hr hlk hq h hP hS (lv_sub hl [0, 1] rfl)
def fX9_read_144 (S : zSt)  (v2 : Int32) : Option zSt :=
  zBr (v2 = (40 : Int32)) (fX9_read_168 S v2) (zBr (v2 = (41 : Int32)) (fX9_read_168 S v2) (zBr (v2 < (59 : Int32)) (fX9_read_172 S v2) (zBr ((62 : Int32) < v2) (fX9_read_172 S v2) (fX9_read_168 S v2))))
set_option maxHeartbeats 4000000 in
set_option maxRecDepth 100000 in
theorem kX9_read_144 {p : Program} {l : Launch} {e : Env} {s : State} {m : MethodId} {args : Array Value} {below : List Frame} {meth : Method} {c : Code} {D : va_G} {cy : Nat → ClassId} {q : Nat → Nat} {A : Nat → Prop} (cx : zX RX9 cX9_read 4 p s m args c D cy) (hr : meth.sig.returnType = none) (hlk : meth.locks = false) (hq : zQ A q zNC) {z : zSt} {S : zSt} {v2 : Int32} (h : fX9_read_144 S v2 = some z) {H : Heap} {locs : List Loc} (hP : va_P D vwCl (zW zsh zNC cy q S) H) (hS : va_S A s.heap H locs) {ls : Array Slot} (hl : lv_has ls 4 [(0, .ref (q 1)), (2, .int v2)]) : W p l e rmX9_read s m args below meth c H locs 0 0 (MQ below (va_Qv (fun (u : zSt) => u = z) (fun u t => va_P D vwCl (zW zsh zNC cy q u) t.heap) A) args s 0 0 A) (F0 m 144 ls []) := by
  have hx := cx.1
  have hb := cx.2.1
  unfold fX9_read_144 at h
  refine lv_iload_n (pc := 144) hx hb dX9_read_144 rfl (lv_at hl 1 rfl) ?_
  refine lv_bipush (pc := 145) hx hb dX9_read_145 zb_40 ?_
  refine lv_icmp_eq (pc := 147) (tgt := 168) hx hb dX9_read_147 (by decide) (fun c10 => ?_) (fun c10 => ?_)
  · replace h := zBr_t c10 h
    exact kX9_read_168 cx hr hlk hq h hP hS (lv_sub hl [0, 1] rfl)
  · replace h := zBr_f c10 h
    refine lv_iload_n (pc := 150) hx hb dX9_read_150 rfl (lv_at hl 1 rfl) ?_
    refine lv_bipush (pc := 151) hx hb dX9_read_151 zb_41 ?_
    refine lv_icmp_eq (pc := 153) (tgt := 168) hx hb dX9_read_153 (by decide) (fun c14 => ?_) (fun c14 => ?_)
    · replace h := zBr_t c14 h
      exact kX9_read_168 cx hr hlk hq h hP hS (lv_sub hl [0, 1] rfl)
    · replace h := zBr_f c14 h
      refine lv_iload_n (pc := 156) hx hb dX9_read_156 rfl (lv_at hl 1 rfl) ?_
      refine lv_bipush (pc := 157) hx hb dX9_read_157 zb_59 ?_
      refine lv_icmp_lt (pc := 159) (tgt := 172) hx hb dX9_read_159 (by decide) (fun c15 => ?_) (fun c15 => ?_)
      · replace h := zBr_t c15 h
        exact kX9_read_172 cx hr hlk hq h hP hS (lv_sub hl [0, 1] rfl)
      · replace h := zBr_f c15 h
        refine lv_iload_n (pc := 162) hx hb dX9_read_162 rfl (lv_at hl 1 rfl) ?_
        refine lv_bipush (pc := 163) hx hb dX9_read_163 zb_62 ?_
        refine lv_icmp_gt (pc := 165) (tgt := 172) hx hb dX9_read_165 (by decide) (fun c16 => ?_) (fun c16 => ?_)
        · replace h := zBr_t c16 h
          exact kX9_read_172 cx hr hlk hq h hP hS (lv_sub hl [0, 1] rfl)
        · replace h := zBr_f c16 h
          exact kX9_read_168 cx hr hlk hq h hP hS (lv_sub hl [0, 1] rfl)
def fX9_read_139 (S : zSt)  : Option zSt :=
  zBd (fX9_readRun S) (fun S19 => some S19)
set_option maxHeartbeats 4000000 in
set_option maxRecDepth 100000 in
theorem kX9_read_139 {p : Program} {l : Launch} {e : Env} {s : State} {m : MethodId} {args : Array Value} {below : List Frame} {meth : Method} {c : Code} {D : va_G} {cy : Nat → ClassId} {q : Nat → Nat} {A : Nat → Prop} (cx : zX RX9 cX9_read 4 p s m args c D cy) (hr : meth.sig.returnType = none) (hlk : meth.locks = false) (hq : zQ A q zNC) {z : zSt} {S : zSt} (h : fX9_read_139 S = some z) {H : Heap} {locs : List Loc} (hP : va_P D vwCl (zW zsh zNC cy q S) H) (hS : va_S A s.heap H locs) {ls : Array Slot} (hl : lv_has ls 4 [(0, .ref (q 1))]) : W p l e rmX9_read s m args below meth c H locs 0 0 (MQ below (va_Qv (fun (u : zSt) => u = z) (fun u t => va_P D vwCl (zW zsh zNC cy q u) t.heap) A) args s 0 0 A) (F0 m 139 ls []) := by
  have hx := cx.1
  have hb := cx.2.1
  unfold fX9_read_139 at h
  refine lv_aload_n (pc := 139) hx hb dX9_read_139 rfl (lv_at hl 0 rfl) ?_
  obtain ⟨S19, k18, h⟩ := zBd_e h
  refine zr_VV (pc := 140) (rest := []) cx cv_X9_61 (mX9_readRun hq k18) ⟨⟨rfl, rfl⟩, Nat.le_of_ble_eq_true rfl, Nat.le_of_ble_eq_true rfl⟩ ⟨Nat.le_of_ble_eq_true rfl, Nat.le_of_ble_eq_true rfl⟩ hP hS nC_1 sC_1 rfl hl.1 rfl rfl (Nat.le_of_ble_eq_true rfl) dX9_read_140 (fun H locs hP hS => ?_)
  have hz := Option.some.inj h
  exact zr_rqV (pc := 143) cx hr hlk hP hS hz dX9_read_143
def fX9_read_127 (S : zSt)  (v2 : Int32) : Option zSt :=
  zBr (v2 < (48 : Int32)) (fX9_read_144 S v2) (zBr ((57 : Int32) < v2) (fX9_read_144 S v2) (fX9_read_139 S))
set_option maxHeartbeats 4000000 in
set_option maxRecDepth 100000 in
theorem kX9_read_127 {p : Program} {l : Launch} {e : Env} {s : State} {m : MethodId} {args : Array Value} {below : List Frame} {meth : Method} {c : Code} {D : va_G} {cy : Nat → ClassId} {q : Nat → Nat} {A : Nat → Prop} (cx : zX RX9 cX9_read 4 p s m args c D cy) (hr : meth.sig.returnType = none) (hlk : meth.locks = false) (hq : zQ A q zNC) {z : zSt} {S : zSt} {v2 : Int32} (h : fX9_read_127 S v2 = some z) {H : Heap} {locs : List Loc} (hP : va_P D vwCl (zW zsh zNC cy q S) H) (hS : va_S A s.heap H locs) {ls : Array Slot} (hl : lv_has ls 4 [(0, .ref (q 1)), (2, .int v2)]) : W p l e rmX9_read s m args below meth c H locs 0 0 (MQ below (va_Qv (fun (u : zSt) => u = z) (fun u t => va_P D vwCl (zW zsh zNC cy q u) t.heap) A) args s 0 0 A) (F0 m 127 ls []) := by
  have hx := cx.1
  have hb := cx.2.1
  unfold fX9_read_127 at h
  refine lv_iload_n (pc := 127) hx hb dX9_read_127 rfl (lv_at hl 1 rfl) ?_
  refine lv_bipush (pc := 128) hx hb dX9_read_128 zb_48 ?_
  refine lv_icmp_lt (pc := 130) (tgt := 144) hx hb dX9_read_130 (by decide) (fun c9 => ?_) (fun c9 => ?_)
  · replace h := zBr_t c9 h
    exact kX9_read_144 cx hr hlk hq h hP hS (lv_sub hl [0, 1] rfl)
  · replace h := zBr_f c9 h
    refine lv_iload_n (pc := 133) hx hb dX9_read_133 rfl (lv_at hl 1 rfl) ?_
    refine lv_bipush (pc := 134) hx hb dX9_read_134 zb_57 ?_
    refine lv_icmp_gt (pc := 136) (tgt := 144) hx hb dX9_read_136 (by decide) (fun c17 => ?_) (fun c17 => ?_)
    · replace h := zBr_t c17 h
      exact kX9_read_144 cx hr hlk hq h hP hS (lv_sub hl [0, 1] rfl)
    · replace h := zBr_f c17 h
      exact kX9_read_139 cx hr hlk hq h hP hS (lv_sub hl [0] rfl)
def fX9_read_61 (S : zSt)  (v1 : Int32) : Option zSt :=
  zBr ((S.1 1 4) < v1) (zLt (zI S 1 6 (S.1 1 4)) (fun S5 => zGd (zIx (S5.1 1 4) 940) (zLt (S5.1 2 (S5.1 1 4).toNatClampNeg) (fun x7 => zBr (x7 < (97 : Int32)) (fX9_read_127 S5 x7) (zBr (x7 ≤ (122 : Int32)) (fX9_read_139 S5) (fX9_read_127 S5 x7)))))) (zLt (zI S 1 6 v1) (fun S21 => zBr ((S21.1 1 1) ≤ (S21.1 1 3)) (zLt (zI S21 1 5 (102 : Int32)) (fun S23 => some S23)) (zLt (zI S21 1 5 (103 : Int32)) (fun S24 => some S24))))
set_option maxHeartbeats 4000000 in
set_option maxRecDepth 100000 in
theorem kX9_read_61 {p : Program} {l : Launch} {e : Env} {s : State} {m : MethodId} {args : Array Value} {below : List Frame} {meth : Method} {c : Code} {D : va_G} {cy : Nat → ClassId} {q : Nat → Nat} {A : Nat → Prop} (cx : zX RX9 cX9_read 4 p s m args c D cy) (hr : meth.sig.returnType = none) (hlk : meth.locks = false) (hq : zQ A q zNC) {z : zSt} {S : zSt} {v1 : Int32} (h : fX9_read_61 S v1 = some z) {H : Heap} {locs : List Loc} (hP : va_P D vwCl (zW zsh zNC cy q S) H) (hS : va_S A s.heap H locs) {ls : Array Slot} (hl : lv_has ls 4 [(0, .ref (q 1)), (1, .int v1)]) : W p l e rmX9_read s m args below meth c H locs 0 0 (MQ below (va_Qv (fun (u : zSt) => u = z) (fun u t => va_P D vwCl (zW zsh zNC cy q u) t.heap) A) args s 0 0 A) (F0 m 61 ls []) := by
  have hx := cx.1
  have hb := cx.2.1
  unfold fX9_read_61 at h
  refine lv_aload_n (pc := 61) hx hb dX9_read_61 rfl (lv_at hl 0 rfl) ?_
  refine zr_getI (pc := 62) cx lk_X9_37 hP nC_1 sC_1 rfl dX9_read_62 ?_
  refine lv_iload_n (pc := 65) hx hb dX9_read_65 rfl (lv_at hl 1 rfl) ?_
  refine lv_icmp_lt (pc := 66) (tgt := 97) hx hb dX9_read_66 (by decide) (fun c4 => ?_) (fun c4 => ?_)
  · replace h := zBr_t c4 h
    refine lv_aload_n (pc := 97) hx hb dX9_read_97 rfl (lv_at hl 0 rfl) ?_
    refine lv_aload_n (pc := 98) hx hb dX9_read_98 rfl (lv_at hl 0 rfl) ?_
    refine zr_getI (pc := 99) cx lk_X9_37 hP nC_1 sC_1 rfl dX9_read_99 ?_
    obtain ⟨S5, eS5, h⟩ := zLt_e h
    refine zr_putI (pc := 102) cx lq_X9_55 hq hP hS nC_1 sC_1 rfl rfl rfl dX9_read_102 (fun H locs hP hS => ?_)
    rw [← eS5] at hP
    refine lv_aload_n (pc := 105) hx hb dX9_read_105 rfl (lv_at hl 0 rfl) ?_
    refine zr_getR (pc := 106) (t := 2) cx lk_X9_9 hP nC_1 sC_1 rfl dX9_read_106 ?_
    refine lv_aload_n (pc := 109) hx hb dX9_read_109 rfl (lv_at hl 0 rfl) ?_
    refine zr_getI (pc := 110) cx lk_X9_37 hP nC_1 sC_1 rfl dX9_read_110 ?_
    obtain ⟨g6, h⟩ := zGd_e h
    refine zr_cald (pc := 113) cx hP nC_2 sC_2 g6 dX9_read_113 ?_
    obtain ⟨x7, ex7, h⟩ := zLt_e h
    refine zr_nmI ex7 ?_
    refine lv_istore_n (lv' := [(2, .int x7), (0, .ref (q 1)), (1, .int v1)]) (pc := 114) hx hb dX9_read_114 rfl hl (by decide) rfl (fun ls hl => ?_)
    refine lv_iload_n (pc := 115) hx hb dX9_read_115 rfl (lv_at hl 0 rfl) ?_
    refine lv_bipush (pc := 116) hx hb dX9_read_116 zb_97 ?_
    refine lv_icmp_lt (pc := 118) (tgt := 127) hx hb dX9_read_118 (by decide) (fun c8 => ?_) (fun c8 => ?_)
    · replace h := zBr_t c8 h
      exact kX9_read_127 cx hr hlk hq h hP hS (lv_sub hl [1, 0] rfl)
    · replace h := zBr_f c8 h
      refine lv_iload_n (pc := 121) hx hb dX9_read_121 rfl (lv_at hl 0 rfl) ?_
      refine lv_bipush (pc := 122) hx hb dX9_read_122 zb_122 ?_
      refine lv_icmp_le (pc := 124) (tgt := 139) hx hb dX9_read_124 (by decide) (fun c20 => ?_) (fun c20 => ?_)
      · replace h := zBr_t c20 h
        exact kX9_read_139 cx hr hlk hq h hP hS (lv_sub hl [1] rfl)
      · replace h := zBr_f c20 h
        exact kX9_read_127 cx hr hlk hq h hP hS (lv_sub hl [1, 0] rfl)
  · replace h := zBr_f c4 h
    refine lv_aload_n (pc := 69) hx hb dX9_read_69 rfl (lv_at hl 0 rfl) ?_
    refine lv_iload_n (pc := 70) hx hb dX9_read_70 rfl (lv_at hl 1 rfl) ?_
    obtain ⟨S21, eS21, h⟩ := zLt_e h
    refine zr_putI (pc := 71) cx lq_X9_55 hq hP hS nC_1 sC_1 rfl rfl rfl dX9_read_71 (fun H locs hP hS => ?_)
    rw [← eS21] at hP
    refine lv_aload_n (pc := 74) hx hb dX9_read_74 rfl (lv_at hl 0 rfl) ?_
    refine lv_aload_n (pc := 75) hx hb dX9_read_75 rfl (lv_at hl 0 rfl) ?_
    refine zr_getI (pc := 76) cx lk_X9_31 hP nC_1 sC_1 rfl dX9_read_76 ?_
    refine lv_aload_n (pc := 79) hx hb dX9_read_79 rfl (lv_at hl 0 rfl) ?_
    refine zr_getI (pc := 80) cx lk_X9_34 hP nC_1 sC_1 rfl dX9_read_80 ?_
    refine lv_icmp_le (pc := 83) (tgt := 91) hx hb dX9_read_83 (by decide) (fun c22 => ?_) (fun c22 => ?_)
    · replace h := zBr_t c22 h
      refine lv_bipush (pc := 91) hx hb dX9_read_91 zb_102 ?_
      obtain ⟨S23, eS23, h⟩ := zLt_e h
      refine zr_putI (pc := 93) cx lq_X9_58 hq hP hS nC_1 sC_1 rfl rfl rfl dX9_read_93 (fun H locs hP hS => ?_)
      rw [← eS23] at hP
      have hz := Option.some.inj h
      exact zr_rqV (pc := 96) cx hr hlk hP hS hz dX9_read_96
    · replace h := zBr_f c22 h
      refine lv_bipush (pc := 86) hx hb dX9_read_86 zb_103 ?_
      refine lv_goto (pc := 88) (tgt := 93) hx hb dX9_read_88 (by decide) ?_
      obtain ⟨S24, eS24, h⟩ := zLt_e h
      refine zr_putI (pc := 93) cx lq_X9_58 hq hP hS nC_1 sC_1 rfl rfl rfl dX9_read_93 (fun H locs hP hS => ?_)
      rw [← eS24] at hP
      have hz := Option.some.inj h
      exact zr_rqV (pc := 96) cx hr hlk hP hS hz dX9_read_96
def fX9_read_48 (S : zSt)  (v1 : Int32) : Option (zSt ⊕ zSt) :=
  zLt (zI S 1 4 ((S.1 1 4) + (1 : Int32))) (fun S27 => some (.inl (S27)))
set_option maxHeartbeats 4000000 in
set_option maxRecDepth 100000 in
theorem kX9_read_48 {p : Program} {l : Launch} {e : Env} {s : State} {m : MethodId} {args : Array Value} {below : List Frame} {meth : Method} {c : Code} {D : va_G} {cy : Nat → ClassId} {q : Nat → Nat} {A : Nat → Prop} (cx : zX RX9 cX9_read 4 p s m args c D cy) (hr : meth.sig.returnType = none) (hlk : meth.locks = false) (hq : zQ A q zNC) {z : zSt} {S : zSt} {v1 : Int32} {C1 : (zSt ⊕ zSt) → Prop} (hb1 : ∀ (S : zSt), C1 (.inl (S)) → ∀ (H : Heap) (locs : List Loc), va_P D vwCl (zW zsh zNC cy q S) H → va_S A s.heap H locs → ∀ (ls : Array Slot), lv_has ls 4 [(0, .ref (q 1)), (1, .int v1)] → W p l e rmX9_read s m args below meth c H locs 0 0 (MQ below (va_Qv (fun (u : zSt) => u = z) (fun u t => va_P D vwCl (zW zsh zNC cy q u) t.heap) A) args s 0 0 A) (F0 m 12 ls [])) (hx1 : ∀ a, C1 (.inr a) → a = z) {x : (zSt ⊕ zSt)} (h : fX9_read_48 S v1 = some x) (hc : C1 x) {H : Heap} {locs : List Loc} (hP : va_P D vwCl (zW zsh zNC cy q S) H) (hS : va_S A s.heap H locs) {ls : Array Slot} (hl : lv_has ls 4 [(0, .ref (q 1)), (1, .int v1)]) : W p l e rmX9_read s m args below meth c H locs 0 0 (MQ below (va_Qv (fun (u : zSt) => u = z) (fun u t => va_P D vwCl (zW zsh zNC cy q u) t.heap) A) args s 0 0 A) (F0 m 48 ls []) := by
  have hx := cx.1
  have hb := cx.2.1
  unfold fX9_read_48 at h
  refine lv_aload_n (pc := 48) hx hb dX9_read_48 rfl (lv_at hl 0 rfl) ?_
  refine lv_dup (pc := 49) hx hb dX9_read_49 rfl ?_
  refine zr_getI (pc := 50) cx lk_X9_37 hP nC_1 sC_1 rfl dX9_read_50 ?_
  refine lv_iconst (pc := 53) hx hb dX9_read_53 zc_1 ?_
  refine lv_iadd (pc := 54) hx hb dX9_read_54 ?_
  obtain ⟨S27, eS27, h⟩ := zLt_e h
  refine zr_putI (pc := 55) cx lq_X9_37 hq hP hS nC_1 sC_1 rfl rfl rfl dX9_read_55 (fun H locs hP hS => ?_)
  rw [← eS27] at hP
  refine lv_goto (pc := 58) (tgt := 12) hx hb dX9_read_58 (by decide) ?_
  cases h
  exact hb1 _ hc _ _ hP hS _ (lv_sub hl [0, 1] rfl)
def fX9_read_12  (v1 : Int32) (t : zSt) : Option (zSt ⊕ zSt) :=
  match t with
  | S => zBr (v1 ≤ (S.1 1 4)) (zXr (fX9_read_61 S v1)) (zGd (zIx (S.1 1 4) 940) (zBr ((S.1 2 (S.1 1 4).toNatClampNeg) = (32 : Int32)) (fX9_read_48 S v1) (zGd (zIx (S.1 1 4) 940) (zBr ((S.1 2 (S.1 1 4).toNatClampNeg) = (10 : Int32)) (fX9_read_48 S v1) (zXr (fX9_read_61 S v1))))))
set_option maxHeartbeats 4000000 in
set_option maxRecDepth 100000 in
theorem kX9_read_12B {p : Program} {l : Launch} {e : Env} {s : State} {m : MethodId} {args : Array Value} {below : List Frame} {meth : Method} {c : Code} {D : va_G} {cy : Nat → ClassId} {q : Nat → Nat} {A : Nat → Prop} (cx : zX RX9 cX9_read 4 p s m args c D cy) (hr : meth.sig.returnType = none) (hlk : meth.locks = false) (hq : zQ A q zNC) {z : zSt} {S : zSt} {v1 : Int32} {C1 : (zSt ⊕ zSt) → Prop} (hb1 : ∀ (S : zSt), C1 (.inl (S)) → ∀ (H : Heap) (locs : List Loc), va_P D vwCl (zW zsh zNC cy q S) H → va_S A s.heap H locs → ∀ (ls : Array Slot), lv_has ls 4 [(0, .ref (q 1)), (1, .int v1)] → W p l e rmX9_read s m args below meth c H locs 0 0 (MQ below (va_Qv (fun (u : zSt) => u = z) (fun u t => va_P D vwCl (zW zsh zNC cy q u) t.heap) A) args s 0 0 A) (F0 m 12 ls [])) (hx1 : ∀ a, C1 (.inr a) → a = z) {x : (zSt ⊕ zSt)} (h : fX9_read_12 v1 (S) = some x) (hc : C1 x) {H : Heap} {locs : List Loc} (hP : va_P D vwCl (zW zsh zNC cy q S) H) (hS : va_S A s.heap H locs) {ls : Array Slot} (hl : lv_has ls 4 [(0, .ref (q 1)), (1, .int v1)]) : W p l e rmX9_read s m args below meth c H locs 0 0 (MQ below (va_Qv (fun (u : zSt) => u = z) (fun u t => va_P D vwCl (zW zsh zNC cy q u) t.heap) A) args s 0 0 A) (F0 m 12 ls []) := by
  have hx := cx.1
  have hb := cx.2.1
  unfold fX9_read_12 at h
  dsimp only at h
  refine lv_aload_n (pc := 12) hx hb dX9_read_12 rfl (lv_at hl 0 rfl) ?_
  refine zr_getI (pc := 13) cx lk_X9_37 hP nC_1 sC_1 rfl dX9_read_13 ?_
  refine lv_iload_n (pc := 16) hx hb dX9_read_16 rfl (lv_at hl 1 rfl) ?_
  refine lv_icmp_ge (pc := 17) (tgt := 61) hx hb dX9_read_17 (by decide) (fun c2 => ?_) (fun c2 => ?_)
  · replace h := zBr_t c2 h
    obtain ⟨y3, h, ex⟩ := zXr_e h
    have hc := hx1 y3 (by rw [ex] at hc; exact hc)
    rw [hc] at h
    exact kX9_read_61 cx hr hlk hq h hP hS (lv_sub hl [0, 1] rfl)
  · replace h := zBr_f c2 h
    refine lv_aload_n (pc := 20) hx hb dX9_read_20 rfl (lv_at hl 0 rfl) ?_
    refine zr_getR (pc := 21) (t := 2) cx lk_X9_9 hP nC_1 sC_1 rfl dX9_read_21 ?_
    refine lv_aload_n (pc := 24) hx hb dX9_read_24 rfl (lv_at hl 0 rfl) ?_
    refine zr_getI (pc := 25) cx lk_X9_37 hP nC_1 sC_1 rfl dX9_read_25 ?_
    obtain ⟨g25, h⟩ := zGd_e h
    refine zr_cald (pc := 28) cx hP nC_2 sC_2 g25 dX9_read_28 ?_
    refine lv_bipush (pc := 29) hx hb dX9_read_29 zb_32 ?_
    refine lv_icmp_eq (pc := 31) (tgt := 48) hx hb dX9_read_31 (by decide) (fun c26 => ?_) (fun c26 => ?_)
    · replace h := zBr_t c26 h
      exact kX9_read_48 cx hr hlk hq hb1 hx1 h hc hP hS (lv_sub hl [0, 1] rfl)
    · replace h := zBr_f c26 h
      refine lv_aload_n (pc := 34) hx hb dX9_read_34 rfl (lv_at hl 0 rfl) ?_
      refine zr_getR (pc := 35) (t := 2) cx lk_X9_9 hP nC_1 sC_1 rfl dX9_read_35 ?_
      refine lv_aload_n (pc := 38) hx hb dX9_read_38 rfl (lv_at hl 0 rfl) ?_
      refine zr_getI (pc := 39) cx lk_X9_37 hP nC_1 sC_1 rfl dX9_read_39 ?_
      obtain ⟨g28, h⟩ := zGd_e h
      refine zr_cald (pc := 42) cx hP nC_2 sC_2 g28 dX9_read_42 ?_
      refine lv_bipush (pc := 43) hx hb dX9_read_43 zb_10 ?_
      refine lv_icmp_ne (pc := 45) (tgt := 61) hx hb dX9_read_45 (by decide) (fun c29 => ?_) (fun c29 => ?_)
      · replace h := zBr_f c29 h
        obtain ⟨y30, h, ex⟩ := zXr_e h
        have hc := hx1 y30 (by rw [ex] at hc; exact hc)
        rw [hc] at h
        exact kX9_read_61 cx hr hlk hq h hP hS (lv_sub hl [0, 1] rfl)
      · replace h := zBr_t c29 h
        exact kX9_read_48 cx hr hlk hq hb1 hx1 h hc hP hS (lv_sub hl [0, 1] rfl)
set_option maxHeartbeats 4000000 in
set_option maxRecDepth 100000 in
theorem kX9_read_12 {p : Program} {l : Launch} {e : Env} {s : State} {m : MethodId} {args : Array Value} {below : List Frame} {meth : Method} {c : Code} {D : va_G} {cy : Nat → ClassId} {q : Nat → Nat} {A : Nat → Prop} (cx : zX RX9 cX9_read 4 p s m args c D cy) (hr : meth.sig.returnType = none) (hlk : meth.locks = false) (hq : zQ A q zNC) {z : zSt} {v1 : Int32} : ∀ (n : Nat) (S : zSt), zLp (fX9_read_12 v1) n (S) = some z → ∀ (H : Heap) (locs : List Loc), va_P D vwCl (zW zsh zNC cy q S) H → va_S A s.heap H locs → ∀ (ls : Array Slot), lv_has ls 4 [(0, .ref (q 1)), (1, .int v1)] → W p l e rmX9_read s m args below meth c H locs 0 0 (MQ below (va_Qv (fun (u : zSt) => u = z) (fun u t => va_P D vwCl (zW zsh zNC cy q u) t.heap) A) args s 0 0 A) (F0 m 12 ls []) := by
  intro n
  induction n with
  | zero =>
    intro S h
    cases h
  | succ n ih =>
    intro S h H locs hP hS ls hl
    obtain ⟨x, h, hk⟩ := zLp_e h
    exact kX9_read_12B cx hr hlk hq  (C1 := zKt (fun t => zLp (fX9_read_12 v1) n t = some z) (fun a => a = z)) (fun S ht H locs hP hS ls hl => ih S ht H locs hP hS ls hl) (fun a ha => ha) h hk hP hS hl
def fX9_read (S : zSt) : Option zSt :=
  zLt (if (S.1 1 3) < (S.1 1 1) then (S.1 1 3) else (S.1 1 1)) (fun x1 => zLp (fX9_read_12 x1) 2000 (S))
set_option maxHeartbeats 4000000 in
set_option maxRecDepth 100000 in
theorem mX9_read {l : Launch} {D : va_G} {cy : Nat → ClassId} {q : Nat → Nat} {A : Nat → Prop} {S : zSt} (hq : zQ A q zNC) {z : zSt} (h : fX9_read S = some z) : zMv l yX9_read cX9_read 4 none rmX9_read [.ref (q 1)] zsh zNC D cy q A S z := by
  refine Met.ofW (cc := cX9_read) (maxL := 4) (ret := none) (by decide) rfl ?_
  intro p e s m args below meth c s₁ B hml hv
  obtain ⟨rfl, hP, hK⟩ := hv
  have cx : zX RX9 cX9_read 4 p s m ([.ref (q 1)]).toArray c D cy := ⟨B.exec, B.bytes, hml, findClass_of_methodNamed B.named, fun w hw => atoms_spec (ws := Cond.code yX9_read cX9_read 4 none :: zTB) B.pre w (List.mem_cons_of_mem _ hw), hK⟩
  have hx := cx.1
  have hb := cx.2.1
  have hr := B.returns
  have hlk := B.notSynchronized
  have hS : va_S A s.heap s.heap [] := va_S.rf
  have hl := lv_entry ([.ref (q 1)]) (n := 4) (Nat.le_of_ble_eq_true rfl)
  rw [lg_entry_eq]
  generalize (lg_sl ([.ref (q 1)]) ++ List.replicate (4 - (lg_sl ([.ref (q 1)])).length) Slot.unset).toArray = ls at hl ⊢
  have hl : lv_has ls 4 [(0, .ref (q 1))] := hl
  unfold fX9_read at h
  refine lv_aload_n (pc := 0) hx hb dX9_read_0 rfl (lv_at hl 0 rfl) ?_
  refine zr_getI (pc := 1) cx lk_X9_31 hP nC_1 sC_1 rfl dX9_read_1 ?_
  refine lv_aload_n (pc := 4) hx hb dX9_read_4 rfl (lv_at hl 0 rfl) ?_
  refine zr_getI (pc := 5) cx lk_X9_34 hP nC_1 sC_1 rfl dX9_read_5 ?_
  refine zr_min (pc := 8) cx lb_X9_49 ⟨Nat.le_of_ble_eq_true rfl, Nat.le_of_ble_eq_true rfl, Nat.le_of_ble_eq_true rfl, Nat.le_of_ble_eq_true rfl⟩ hl.1 dX9_read_8 ?_
  obtain ⟨x1, ex1, h⟩ := zLt_e h
  refine zr_nmI ex1 ?_
  refine lv_istore_n (lv' := [(1, .int x1), (0, .ref (q 1))]) (pc := 11) hx hb dX9_read_11 rfl hl (by decide) rfl (fun ls hl => ?_)
  exact kX9_read_12 cx hr hlk hq 2000 _ h _ _ hP hS _ (lv_sub hl [1, 0] rfl)
