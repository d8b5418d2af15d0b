theorem wd_1 : (Jvm.Cond.initialized "ParlourLeaves") ∈ zTB := List.mem_filter.mpr ⟨List.mem_append_right _ (List.mem_append_left _ (List.mem_of_getElem? (i := 1) rfl)), rfl⟩
theorem wd_7 : (Jvm.Cond.initialized "ParlourLeaves$House") ∈ zTB := List.mem_filter.mpr ⟨List.mem_append_right _ (List.mem_append_left _ (List.mem_of_getElem? (i := 7) rfl)), rfl⟩
theorem wd_8 : (Jvm.Cond.initialized "ParlourLeaves$Life") ∈ zTB := List.mem_filter.mpr ⟨List.mem_append_right _ (List.mem_append_left _ (List.mem_of_getElem? (i := 8) rfl)), rfl⟩
theorem wd_20 : (Jvm.Cond.initialized "java/lang/Math") ∈ zTB := List.mem_filter.mpr ⟨List.mem_append_right _ (List.mem_append_left _ (List.mem_of_getElem? (i := 20) rfl)), rfl⟩
theorem wd_147 : (Jvm.Cond.fieldLink "ParlourLeaves$House" (9 : Nat) "ParlourLeaves$House" "size" "[I") ∈ zTB := List.mem_filter.mpr ⟨List.mem_append_right _ (List.mem_append_left _ (List.mem_of_getElem? (i := 147) rfl)), rfl⟩
theorem wd_152 : (Jvm.Cond.fieldLink "ParlourLeaves$Life" (60 : Nat) "ParlourLeaves$House" "size" "[I") ∈ zTB := List.mem_filter.mpr ⟨List.mem_append_right _ (List.mem_append_left _ (List.mem_of_getElem? (i := 152) rfl)), rfl⟩
theorem wd_154 : (Jvm.Cond.fieldLink "ParlourLeaves$House" (15 : Nat) "ParlourLeaves$House" "sight" "[I") ∈ zTB := List.mem_filter.mpr ⟨List.mem_append_right _ (List.mem_append_left _ (List.mem_of_getElem? (i := 154) rfl)), rfl⟩
theorem wd_164 : (Jvm.Cond.fieldLink "ParlourLeaves$Life" (83 : Nat) "ParlourLeaves$House" "slow" "[I") ∈ zTB := List.mem_filter.mpr ⟨List.mem_append_right _ (List.mem_append_left _ (List.mem_of_getElem? (i := 164) rfl)), rfl⟩
theorem wd_168 : (Jvm.Cond.fieldLink "ParlourLeaves$Life" (63 : Nat) "ParlourLeaves$House" "fern" "[I") ∈ zTB := List.mem_filter.mpr ⟨List.mem_append_right _ (List.mem_append_left _ (List.mem_of_getElem? (i := 168) rfl)), rfl⟩
theorem wd_179 : (Jvm.Cond.fieldLink "ParlourLeaves$Life" (66 : Nat) "ParlourLeaves$House" "dusty" "I") ∈ zTB := List.mem_filter.mpr ⟨List.mem_append_right _ (List.mem_append_left _ (List.mem_of_getElem? (i := 179) rfl)), rfl⟩
theorem wd_187 : (Jvm.Cond.laysFinal "ParlourLeaves$House" "ParlourLeaves$House" "size" "[I") ∈ zTB := List.mem_filter.mpr ⟨List.mem_append_right _ (List.mem_append_left _ (List.mem_of_getElem? (i := 187) rfl)), rfl⟩
theorem wd_189 : (Jvm.Cond.laysFinal "ParlourLeaves$House" "ParlourLeaves$House" "sight" "[I") ∈ zTB := List.mem_filter.mpr ⟨List.mem_append_right _ (List.mem_append_left _ (List.mem_of_getElem? (i := 189) rfl)), rfl⟩
theorem wd_191 : (Jvm.Cond.laysFinal "ParlourLeaves$House" "ParlourLeaves$House" "home" "[I") ∈ zTB := List.mem_filter.mpr ⟨List.mem_append_right _ (List.mem_append_left _ (List.mem_of_getElem? (i := 191) rfl)), rfl⟩
theorem wd_193 : (Jvm.Cond.laysFinal "ParlourLeaves$House" "ParlourLeaves$House" "slow" "[I") ∈ zTB := List.mem_filter.mpr ⟨List.mem_append_right _ (List.mem_append_left _ (List.mem_of_getElem? (i := 193) rfl)), rfl⟩
theorem wd_195 : (Jvm.Cond.laysFinal "ParlourLeaves$House" "ParlourLeaves$House" "fern" "[I") ∈ zTB := List.mem_filter.mpr ⟨List.mem_append_right _ (List.mem_append_left _ (List.mem_of_getElem? (i := 195) rfl)), rfl⟩
theorem wd_197 : (Jvm.Cond.laysFinal "ParlourLeaves$House" "ParlourLeaves$House" "plantWord" "[J") ∈ zTB := List.mem_filter.mpr ⟨List.mem_append_right _ (List.mem_append_left _ (List.mem_of_getElem? (i := 197) rfl)), rfl⟩
theorem wd_199 : (Jvm.Cond.laysFinal "ParlourLeaves$House" "ParlourLeaves$House" "word" "[J") ∈ zTB := List.mem_filter.mpr ⟨List.mem_append_right _ (List.mem_append_left _ (List.mem_of_getElem? (i := 199) rfl)), rfl⟩
theorem wd_201 : (Jvm.Cond.laysFinal "ParlourLeaves$House" "ParlourLeaves$House" "wordSort" "[I") ∈ zTB := List.mem_filter.mpr ⟨List.mem_append_right _ (List.mem_append_left _ (List.mem_of_getElem? (i := 201) rfl)), rfl⟩
theorem wd_203 : (Jvm.Cond.laysFinal "ParlourLeaves$House" "ParlourLeaves$House" "wordNumber" "[I") ∈ zTB := List.mem_filter.mpr ⟨List.mem_append_right _ (List.mem_append_left _ (List.mem_of_getElem? (i := 203) rfl)), rfl⟩
theorem wd_205 : (Jvm.Cond.lays "ParlourLeaves$House" "ParlourLeaves$House" "words" "I") ∈ zTB := List.mem_filter.mpr ⟨List.mem_append_right _ (List.mem_append_left _ (List.mem_of_getElem? (i := 205) rfl)), rfl⟩
theorem wd_207 : (Jvm.Cond.lays "ParlourLeaves$House" "ParlourLeaves$House" "dusty" "I") ∈ zTB := List.mem_filter.mpr ⟨List.mem_append_right _ (List.mem_append_left _ (List.mem_of_getElem? (i := 207) rfl)), rfl⟩
theorem wd_209 : (Jvm.Cond.lays "ParlourLeaves$House" "ParlourLeaves$House" "proof" "I") ∈ zTB := List.mem_filter.mpr ⟨List.mem_append_right _ (List.mem_append_left _ (List.mem_of_getElem? (i := 209) rfl)), rfl⟩
theorem wd_221 : (Jvm.Cond.fieldLink "ParlourLeaves$Life" (38 : Nat) "ParlourLeaves$Life" "house" "LParlourLeaves$House;") ∈ zTB := List.mem_filter.mpr ⟨List.mem_append_right _ (List.mem_append_left _ (List.mem_of_getElem? (i := 221) rfl)), rfl⟩
theorem wd_224 : (Jvm.Cond.fieldLink "ParlourLeaves$Life" (42 : Nat) "ParlourLeaves$Life" "day" "I") ∈ zTB := List.mem_filter.mpr ⟨List.mem_append_right _ (List.mem_append_left _ (List.mem_of_getElem? (i := 224) rfl)), rfl⟩
theorem wd_228 : (Jvm.Cond.fieldLink "ParlourLeaves$Life" (46 : Nat) "ParlourLeaves$Life" "acts" "I") ∈ zTB := List.mem_filter.mpr ⟨List.mem_append_right _ (List.mem_append_left _ (List.mem_of_getElem? (i := 228) rfl)), rfl⟩
theorem wd_230 : (Jvm.Cond.fieldLink "ParlourLeaves$Life" (9 : Nat) "ParlourLeaves$Life" "doer" "[I") ∈ zTB := List.mem_filter.mpr ⟨List.mem_append_right _ (List.mem_append_left _ (List.mem_of_getElem? (i := 230) rfl)), rfl⟩
theorem wd_232 : (Jvm.Cond.fieldLink "ParlourLeaves$Life" (15 : Nat) "ParlourLeaves$Life" "deed" "[I") ∈ zTB := List.mem_filter.mpr ⟨List.mem_append_right _ (List.mem_append_left _ (List.mem_of_getElem? (i := 232) rfl)), rfl⟩
theorem wd_234 : (Jvm.Cond.fieldLink "ParlourLeaves$Life" (18 : Nat) "ParlourLeaves$Life" "where" "[I") ∈ zTB := List.mem_filter.mpr ⟨List.mem_append_right _ (List.mem_append_left _ (List.mem_of_getElem? (i := 234) rfl)), rfl⟩
theorem wd_236 : (Jvm.Cond.fieldLink "ParlourLeaves$Life" (21 : Nat) "ParlourLeaves$Life" "when" "[I") ∈ zTB := List.mem_filter.mpr ⟨List.mem_append_right _ (List.mem_append_left _ (List.mem_of_getElem? (i := 236) rfl)), rfl⟩
theorem wd_238 : (Jvm.Cond.fieldLink "ParlourLeaves$Life" (26 : Nat) "ParlourLeaves$Life" "leafDay" "[[I") ∈ zTB := List.mem_filter.mpr ⟨List.mem_append_right _ (List.mem_append_left _ (List.mem_of_getElem? (i := 238) rfl)), rfl⟩
theorem wd_241 : (Jvm.Cond.fieldLink "ParlourLeaves$Life" (29 : Nat) "ParlourLeaves$Life" "latestLeaf" "[I") ∈ zTB := List.mem_filter.mpr ⟨List.mem_append_right _ (List.mem_append_right _ (List.mem_append_left _ (List.mem_of_getElem? (i := 1) rfl))), rfl⟩
theorem wd_242 : (Jvm.Cond.fieldLink "ParlourLeaves$Life" (32 : Nat) "ParlourLeaves$Life" "at" "[I") ∈ zTB := List.mem_filter.mpr ⟨List.mem_append_right _ (List.mem_append_right _ (List.mem_append_left _ (List.mem_of_getElem? (i := 2) rfl))), rfl⟩
theorem wd_246 : (Jvm.Cond.fieldLink "ParlourLeaves$Life" (35 : Nat) "ParlourLeaves$Life" "dust" "[I") ∈ zTB := List.mem_filter.mpr ⟨List.mem_append_right _ (List.mem_append_right _ (List.mem_append_left _ (List.mem_of_getElem? (i := 6) rfl))), rfl⟩
theorem wd_250 : (Jvm.Cond.laysFinal "ParlourLeaves$Life" "ParlourLeaves$Life" "house" "LParlourLeaves$House;") ∈ zTB := List.mem_filter.mpr ⟨List.mem_append_right _ (List.mem_append_right _ (List.mem_append_left _ (List.mem_of_getElem? (i := 10) rfl))), rfl⟩
theorem wd_252 : (Jvm.Cond.lays "ParlourLeaves$Life" "ParlourLeaves$Life" "day" "I") ∈ zTB := List.mem_filter.mpr ⟨List.mem_append_right _ (List.mem_append_right _ (List.mem_append_left _ (List.mem_of_getElem? (i := 12) rfl))), rfl⟩
theorem wd_254 : (Jvm.Cond.lays "ParlourLeaves$Life" "ParlourLeaves$Life" "acts" "I") ∈ zTB := List.mem_filter.mpr ⟨List.mem_append_right _ (List.mem_append_right _ (List.mem_append_left _ (List.mem_of_getElem? (i := 14) rfl))), rfl⟩
theorem wd_256 : (Jvm.Cond.laysFinal "ParlourLeaves$Life" "ParlourLeaves$Life" "doer" "[I") ∈ zTB := List.mem_filter.mpr ⟨List.mem_append_right _ (List.mem_append_right _ (List.mem_append_left _ (List.mem_of_getElem? (i := 16) rfl))), rfl⟩
theorem wd_258 : (Jvm.Cond.laysFinal "ParlourLeaves$Life" "ParlourLeaves$Life" "deed" "[I") ∈ zTB := List.mem_filter.mpr ⟨List.mem_append_right _ (List.mem_append_right _ (List.mem_append_left _ (List.mem_of_getElem? (i := 18) rfl))), rfl⟩
theorem wd_260 : (Jvm.Cond.laysFinal "ParlourLeaves$Life" "ParlourLeaves$Life" "where" "[I") ∈ zTB := List.mem_filter.mpr ⟨List.mem_append_right _ (List.mem_append_right _ (List.mem_append_left _ (List.mem_of_getElem? (i := 20) rfl))), rfl⟩
theorem wd_262 : (Jvm.Cond.laysFinal "ParlourLeaves$Life" "ParlourLeaves$Life" "when" "[I") ∈ zTB := List.mem_filter.mpr ⟨List.mem_append_right _ (List.mem_append_right _ (List.mem_append_left _ (List.mem_of_getElem? (i := 22) rfl))), rfl⟩
theorem wd_264 : (Jvm.Cond.laysFinal "ParlourLeaves$Life" "ParlourLeaves$Life" "leafDay" "[[I") ∈ zTB := List.mem_filter.mpr ⟨List.mem_append_right _ (List.mem_append_right _ (List.mem_append_left _ (List.mem_of_getElem? (i := 24) rfl))), rfl⟩
theorem wd_266 : (Jvm.Cond.laysFinal "ParlourLeaves$Life" "ParlourLeaves$Life" "latestLeaf" "[I") ∈ zTB := List.mem_filter.mpr ⟨List.mem_append_right _ (List.mem_append_right _ (List.mem_append_left _ (List.mem_of_getElem? (i := 26) rfl))), rfl⟩
theorem wd_268 : (Jvm.Cond.laysFinal "ParlourLeaves$Life" "ParlourLeaves$Life" "at" "[I") ∈ zTB := List.mem_filter.mpr ⟨List.mem_append_right _ (List.mem_append_right _ (List.mem_append_left _ (List.mem_of_getElem? (i := 28) rfl))), rfl⟩
theorem wd_270 : (Jvm.Cond.laysFinal "ParlourLeaves$Life" "ParlourLeaves$Life" "dust" "[I") ∈ zTB := List.mem_filter.mpr ⟨List.mem_append_right _ (List.mem_append_right _ (List.mem_append_left _ (List.mem_of_getElem? (i := 30) rfl))), rfl⟩
theorem wd_645 : (Jvm.Cond.static ({ cls := "ParlourLeaves", name := "hasBit", desc := "(II)Z" } : Jvm.MethodName)) ∈ zTB := List.mem_filter.mpr ⟨List.mem_append_right _ (List.mem_append_right _ (List.mem_append_right _ (List.mem_append_left _ (List.mem_of_getElem? (i := 165) rfl)))), rfl⟩
theorem wd_646 : (Jvm.Cond.code ({ cls := "ParlourLeaves", name := "hasBit", desc := "(II)Z" } : Jvm.MethodName) prog_1_method_43_code (2 : Nat) (Option.some Jvm.ClassFile.FieldType.boolean)) ∈ zTB := List.mem_filter.mpr ⟨List.mem_append_right _ (List.mem_append_right _ (List.mem_append_right _ (List.mem_append_left _ (List.mem_of_getElem? (i := 166) rfl)))), rfl⟩
theorem wd_727 : (Jvm.Cond.methodLink "ParlourLeaves$Life" (86 : Nat) ({ cls := "ParlourLeaves$Life", name := "plants", desc := "()I" } : Jvm.MethodName)) ∈ zTB := List.mem_filter.mpr ⟨List.mem_append_right _ (List.mem_append_right _ (List.mem_append_right _ (List.mem_append_right _ (List.mem_append_left _ (List.mem_of_getElem? (i := 7) rfl))))), rfl⟩
theorem wd_728 : (Jvm.Cond.instanceMethod ({ cls := "ParlourLeaves$Life", name := "plants", desc := "()I" } : Jvm.MethodName)) ∈ zTB := List.mem_filter.mpr ⟨List.mem_append_right _ (List.mem_append_right _ (List.mem_append_right _ (List.mem_append_right _ (List.mem_append_left _ (List.mem_of_getElem? (i := 8) rfl))))), rfl⟩
theorem wd_729 : (Jvm.Cond.selects "ParlourLeaves$Life" ({ cls := "ParlourLeaves$Life", name := "plants", desc := "()I" } : Jvm.MethodName) ({ cls := "ParlourLeaves$Life", name := "plants", desc := "()I" } : Jvm.MethodName)) ∈ zTB := List.mem_filter.mpr ⟨List.mem_append_right _ (List.mem_append_right _ (List.mem_append_right _ (List.mem_append_right _ (List.mem_append_left _ (List.mem_of_getElem? (i := 9) rfl))))), rfl⟩
theorem wd_730 : (Jvm.Cond.code ({ cls := "ParlourLeaves$Life", name := "plants", desc := "()I" } : Jvm.MethodName) prog_8_method_5_code (1 : Nat) (Option.some Jvm.ClassFile.FieldType.int)) ∈ zTB := List.mem_filter.mpr ⟨List.mem_append_right _ (List.mem_append_right _ (List.mem_append_right _ (List.mem_append_right _ (List.mem_append_left _ (List.mem_of_getElem? (i := 10) rfl))))), rfl⟩
theorem wd_734 : (Jvm.Cond.constant "java/lang/Integer" (265 : Nat) (1431655765 : Int32)) ∈ zTB := List.mem_filter.mpr ⟨List.mem_append_right _ (List.mem_append_right _ (List.mem_append_right _ (List.mem_append_right _ (List.mem_append_left _ (List.mem_of_getElem? (i := 14) rfl))))), rfl⟩
theorem wd_735 : (Jvm.Cond.constant "java/lang/Integer" (266 : Nat) (858993459 : Int32)) ∈ zTB := List.mem_filter.mpr ⟨List.mem_append_right _ (List.mem_append_right _ (List.mem_append_right _ (List.mem_append_right _ (List.mem_append_left _ (List.mem_of_getElem? (i := 15) rfl))))), rfl⟩
theorem wd_736 : (Jvm.Cond.constant "java/lang/Integer" (267 : Nat) (252645135 : Int32)) ∈ zTB := List.mem_filter.mpr ⟨List.mem_append_right _ (List.mem_append_right _ (List.mem_append_right _ (List.mem_append_right _ (List.mem_append_left _ (List.mem_of_getElem? (i := 16) rfl))))), rfl⟩
theorem wd_741 : (Jvm.Cond.methodLink "ParlourLeaves$Life" (69 : Nat) ({ cls := "ParlourLeaves$Life", name := "isBlind", desc := "(I)Z" } : Jvm.MethodName)) ∈ zTB := List.mem_filter.mpr ⟨List.mem_append_right _ (List.mem_append_right _ (List.mem_append_right _ (List.mem_append_right _ (List.mem_append_left _ (List.mem_of_getElem? (i := 21) rfl))))), rfl⟩
theorem wd_742 : (Jvm.Cond.instanceMethod ({ cls := "ParlourLeaves$Life", name := "isBlind", desc := "(I)Z" } : Jvm.MethodName)) ∈ zTB := List.mem_filter.mpr ⟨List.mem_append_right _ (List.mem_append_right _ (List.mem_append_right _ (List.mem_append_right _ (List.mem_append_left _ (List.mem_of_getElem? (i := 22) rfl))))), rfl⟩
theorem wd_743 : (Jvm.Cond.selects "ParlourLeaves$Life" ({ cls := "ParlourLeaves$Life", name := "isBlind", desc := "(I)Z" } : Jvm.MethodName) ({ cls := "ParlourLeaves$Life", name := "isBlind", desc := "(I)Z" } : Jvm.MethodName)) ∈ zTB := List.mem_filter.mpr ⟨List.mem_append_right _ (List.mem_append_right _ (List.mem_append_right _ (List.mem_append_right _ (List.mem_append_left _ (List.mem_of_getElem? (i := 23) rfl))))), rfl⟩
theorem wd_744 : (Jvm.Cond.code ({ cls := "ParlourLeaves$Life", name := "isBlind", desc := "(I)Z" } : Jvm.MethodName) prog_8_method_7_code (2 : Nat) (Option.some Jvm.ClassFile.FieldType.boolean)) ∈ zTB := List.mem_filter.mpr ⟨List.mem_append_right _ (List.mem_append_right _ (List.mem_append_right _ (List.mem_append_right _ (List.mem_append_left _ (List.mem_of_getElem? (i := 24) rfl))))), rfl⟩
theorem wd_769 : (Jvm.Cond.methodLink "ParlourLeaves$Life" (90 : Nat) ({ cls := "ParlourLeaves$Life", name := "seenBy", desc := "(I)I" } : Jvm.MethodName)) ∈ zTB := List.mem_filter.mpr ⟨List.mem_append_right _ (List.mem_append_right _ (List.mem_append_right _ (List.mem_append_right _ (List.mem_append_left _ (List.mem_of_getElem? (i := 49) rfl))))), rfl⟩
theorem wd_770 : (Jvm.Cond.instanceMethod ({ cls := "ParlourLeaves$Life", name := "seenBy", desc := "(I)I" } : Jvm.MethodName)) ∈ zTB := List.mem_filter.mpr ⟨List.mem_append_right _ (List.mem_append_right _ (List.mem_append_right _ (List.mem_append_right _ (List.mem_append_left _ (List.mem_of_getElem? (i := 50) rfl))))), rfl⟩
theorem wd_771 : (Jvm.Cond.selects "ParlourLeaves$Life" ({ cls := "ParlourLeaves$Life", name := "seenBy", desc := "(I)I" } : Jvm.MethodName) ({ cls := "ParlourLeaves$Life", name := "seenBy", desc := "(I)I" } : Jvm.MethodName)) ∈ zTB := List.mem_filter.mpr ⟨List.mem_append_right _ (List.mem_append_right _ (List.mem_append_right _ (List.mem_append_right _ (List.mem_append_left _ (List.mem_of_getElem? (i := 51) rfl))))), rfl⟩
theorem wd_772 : (Jvm.Cond.code ({ cls := "ParlourLeaves$Life", name := "seenBy", desc := "(I)I" } : Jvm.MethodName) prog_8_method_8_code (2 : Nat) (Option.some Jvm.ClassFile.FieldType.int)) ∈ zTB := List.mem_filter.mpr ⟨List.mem_append_right _ (List.mem_append_right _ (List.mem_append_right _ (List.mem_append_right _ (List.mem_append_left _ (List.mem_of_getElem? (i := 52) rfl))))), rfl⟩
theorem wd_773 : (Jvm.Cond.methodLink "ParlourLeaves$Life" (73 : Nat) ({ cls := "ParlourLeaves$House", name := "reach", desc := "(I)I" } : Jvm.MethodName)) ∈ zTB := List.mem_filter.mpr ⟨List.mem_append_right _ (List.mem_append_right _ (List.mem_append_right _ (List.mem_append_right _ (List.mem_append_left _ (List.mem_of_getElem? (i := 53) rfl))))), rfl⟩
theorem wd_774 : (Jvm.Cond.instanceMethod ({ cls := "ParlourLeaves$House", name := "reach", desc := "(I)I" } : Jvm.MethodName)) ∈ zTB := List.mem_filter.mpr ⟨List.mem_append_right _ (List.mem_append_right _ (List.mem_append_right _ (List.mem_append_right _ (List.mem_append_left _ (List.mem_of_getElem? (i := 54) rfl))))), rfl⟩
theorem wd_775 : (Jvm.Cond.selects "ParlourLeaves$House" ({ cls := "ParlourLeaves$House", name := "reach", desc := "(I)I" } : Jvm.MethodName) ({ cls := "ParlourLeaves$House", name := "reach", desc := "(I)I" } : Jvm.MethodName)) ∈ zTB := List.mem_filter.mpr ⟨List.mem_append_right _ (List.mem_append_right _ (List.mem_append_right _ (List.mem_append_right _ (List.mem_append_left _ (List.mem_of_getElem? (i := 55) rfl))))), rfl⟩
theorem wd_776 : (Jvm.Cond.code ({ cls := "ParlourLeaves$House", name := "reach", desc := "(I)I" } : Jvm.MethodName) prog_5_method_9_code (2 : Nat) (Option.some Jvm.ClassFile.FieldType.int)) ∈ zTB := List.mem_filter.mpr ⟨List.mem_append_right _ (List.mem_append_right _ (List.mem_append_right _ (List.mem_append_right _ (List.mem_append_left _ (List.mem_of_getElem? (i := 56) rfl))))), rfl⟩
theorem wd_803 : (Jvm.Cond.methodLink "ParlourLeaves$Life" (97 : Nat) ({ cls := "ParlourLeaves$Life", name := "nextLeafDay", desc := "(I)I" } : Jvm.MethodName)) ∈ zTB := List.mem_filter.mpr ⟨List.mem_append_right _ (List.mem_append_right _ (List.mem_append_right _ (List.mem_append_right _ (List.mem_append_left _ (List.mem_of_getElem? (i := 83) rfl))))), rfl⟩
theorem wd_804 : (Jvm.Cond.instanceMethod ({ cls := "ParlourLeaves$Life", name := "nextLeafDay", desc := "(I)I" } : Jvm.MethodName)) ∈ zTB := List.mem_filter.mpr ⟨List.mem_append_right _ (List.mem_append_right _ (List.mem_append_right _ (List.mem_append_right _ (List.mem_append_left _ (List.mem_of_getElem? (i := 84) rfl))))), rfl⟩
theorem wd_805 : (Jvm.Cond.selects "ParlourLeaves$Life" ({ cls := "ParlourLeaves$Life", name := "nextLeafDay", desc := "(I)I" } : Jvm.MethodName) ({ cls := "ParlourLeaves$Life", name := "nextLeafDay", desc := "(I)I" } : Jvm.MethodName)) ∈ zTB := List.mem_filter.mpr ⟨List.mem_append_right _ (List.mem_append_right _ (List.mem_append_right _ (List.mem_append_right _ (List.mem_append_left _ (List.mem_of_getElem? (i := 85) rfl))))), rfl⟩
theorem wd_806 : (Jvm.Cond.code ({ cls := "ParlourLeaves$Life", name := "nextLeafDay", desc := "(I)I" } : Jvm.MethodName) prog_8_method_9_code (2 : Nat) (Option.some Jvm.ClassFile.FieldType.int)) ∈ zTB := List.mem_filter.mpr ⟨List.mem_append_right _ (List.mem_append_right _ (List.mem_append_right _ (List.mem_append_right _ (List.mem_append_left _ (List.mem_of_getElem? (i := 86) rfl))))), rfl⟩
theorem wd_807 : (Jvm.Cond.methodLink "ParlourLeaves$Life" (77 : Nat) ({ cls := "java/lang/Math", name := "max", desc := "(II)I" } : Jvm.MethodName)) ∈ zTB := List.mem_filter.mpr ⟨List.mem_append_right _ (List.mem_append_right _ (List.mem_append_right _ (List.mem_append_right _ (List.mem_append_left _ (List.mem_of_getElem? (i := 87) rfl))))), rfl⟩
theorem wd_808 : (Jvm.Cond.static ({ cls := "java/lang/Math", name := "max", desc := "(II)I" } : Jvm.MethodName)) ∈ zTB := List.mem_filter.mpr ⟨List.mem_append_right _ (List.mem_append_right _ (List.mem_append_right _ (List.mem_append_right _ (List.mem_append_left _ (List.mem_of_getElem? (i := 88) rfl))))), rfl⟩
theorem wd_809 : (Jvm.Cond.code ({ cls := "java/lang/Math", name := "max", desc := "(II)I" } : Jvm.MethodName) prog_23_method_65_code (2 : Nat) (Option.some Jvm.ClassFile.FieldType.int)) ∈ zTB := List.mem_filter.mpr ⟨List.mem_append_right _ (List.mem_append_right _ (List.mem_append_right _ (List.mem_append_right _ (List.mem_append_left _ (List.mem_of_getElem? (i := 89) rfl))))), rfl⟩
theorem zc_1 : Int32.ofInt (1) = (1 : Int32) := by decide
theorem zc_2 : Int32.ofInt (2) = (2 : Int32) := by decide
theorem zc_4 : Int32.ofInt (4) = (4 : Int32) := by decide
theorem zb_8 : (Int8.ofInt (8)).toInt32 = (8 : Int32) := by decide
theorem zb_16 : (Int8.ofInt (16)).toInt32 = (16 : Int32) := by decide
theorem zb_63 : (Int8.ofInt (63)).toInt32 = (63 : Int32) := by decide
theorem zc_0 : Int32.ofInt (0) = (0 : Int32) := by decide
theorem wsin_X3 : ∀ w ∈ u_ws RX3 TX3 12, w ∈ zTB := (List.forall_mem_cons.mpr ⟨wd_187, (List.forall_mem_cons.mpr ⟨wd_189, (List.forall_mem_cons.mpr ⟨wd_191, (List.forall_mem_cons.mpr ⟨wd_193, (List.forall_mem_cons.mpr ⟨wd_195, (List.forall_mem_cons.mpr ⟨wd_197, (List.forall_mem_cons.mpr ⟨wd_199, (List.forall_mem_cons.mpr ⟨wd_201, (List.forall_mem_cons.mpr ⟨wd_203, (List.forall_mem_cons.mpr ⟨wd_205, (List.forall_mem_cons.mpr ⟨wd_207, (List.forall_mem_cons.mpr ⟨wd_209, (fun _ h => absurd h List.not_mem_nil)⟩)⟩)⟩)⟩)⟩)⟩)⟩)⟩)⟩)⟩)⟩)⟩)
theorem wsin_X6 : ∀ w ∈ u_ws RX6 TX6 11, w ∈ zTB := (List.forall_mem_cons.mpr ⟨wd_250, (List.forall_mem_cons.mpr ⟨wd_252, (List.forall_mem_cons.mpr ⟨wd_254, (List.forall_mem_cons.mpr ⟨wd_256, (List.forall_mem_cons.mpr ⟨wd_258, (List.forall_mem_cons.mpr ⟨wd_260, (List.forall_mem_cons.mpr ⟨wd_262, (List.forall_mem_cons.mpr ⟨wd_264, (List.forall_mem_cons.mpr ⟨wd_266, (List.forall_mem_cons.mpr ⟨wd_268, (List.forall_mem_cons.mpr ⟨wd_270, (fun _ h => absurd h List.not_mem_nil)⟩)⟩)⟩)⟩)⟩)⟩)⟩)⟩)⟩)⟩)⟩)
theorem dn_X6_isBlind : zDn yX6_isBlind 1 := ⟨by decide, by decide, by decide +kernel⟩
theorem dn_X3_reach : zDn yX3_reach 1 := ⟨by decide, by decide, by decide +kernel⟩
theorem zs_400 : (Int16.ofInt (400)).toInt32 = (400 : Int32) := by decide
theorem zb_12 : (Int8.ofInt (12)).toInt32 = (12 : Int32) := by decide
theorem dn_X6_plants : zDn yX6_plants 0 := ⟨by decide, by decide, by decide +kernel⟩
theorem zc_m1 : Int32.ofInt (-1) = (-1 : Int32) := by decide
theorem dn_X6_seenBy : zDn yX6_seenBy 1 := ⟨by decide, by decide, by decide +kernel⟩
theorem dn_X11_hasBit : zDn yX11_hasBit 2 := ⟨by decide, by decide, by decide +kernel⟩
theorem dn_X6_nextLeafDay : zDn yX6_nextLeafDay 1 := ⟨by decide, by decide, by decide +kernel⟩
theorem lk_X3_9 : zLk RX3 9 4 0 := ⟨"ParlourLeaves$House", RX3, TX3, 12, rfl, by decide, wsin_X3, wd_147, rfl⟩
theorem lk_X3_15 : zLk RX3 15 4 1 := ⟨"ParlourLeaves$House", RX3, TX3, 12, rfl, by decide, wsin_X3, wd_154, rfl⟩
theorem lk_X6_38 : zLk RX6 38 7 0 := ⟨"ParlourLeaves$Life", RX6, TX6, 11, rfl, by decide, wsin_X6, wd_221, rfl⟩
theorem lk_X6_60 : zLk RX6 60 4 0 := ⟨"ParlourLeaves$House", RX3, TX3, 12, rfl, by decide, wsin_X3, wd_152, rfl⟩
theorem lk_X6_63 : zLk RX6 63 4 4 := ⟨"ParlourLeaves$House", RX3, TX3, 12, rfl, by decide, wsin_X3, wd_168, rfl⟩
theorem lk_X6_35 : zLk RX6 35 7 10 := ⟨"ParlourLeaves$Life", RX6, TX6, 11, rfl, by decide, wsin_X6, wd_246, rfl⟩
theorem lk_X6_66 : zLk RX6 66 4 10 := ⟨"ParlourLeaves$House", RX3, TX3, 12, rfl, by decide, wsin_X3, wd_179, rfl⟩
theorem cv_X6_69 : zCV RX6 RX6 69 yX6_isBlind cX6_isBlind 2 (some .boolean) 1 := ⟨rfl, dn_X6_isBlind, wd_741, wd_742, wd_743, wd_8, wd_744⟩
theorem lk_X6_32 : zLk RX6 32 7 9 := ⟨"ParlourLeaves$Life", RX6, TX6, 11, rfl, by decide, wsin_X6, wd_242, rfl⟩
theorem cv_X6_73 : zCV RX6 RX3 73 yX3_reach cX3_reach 2 (some .int) 1 := ⟨rfl, dn_X3_reach, wd_773, wd_774, wd_775, wd_7, wd_776⟩
theorem lk_X6_42 : zLk RX6 42 7 1 := ⟨"ParlourLeaves$Life", RX6, TX6, 11, rfl, by decide, wsin_X6, wd_224, rfl⟩
theorem lk_X6_29 : zLk RX6 29 7 8 := ⟨"ParlourLeaves$Life", RX6, TX6, 11, rfl, by decide, wsin_X6, wd_241, rfl⟩
theorem lb_X6_77 : zMx RX6 77 := ⟨wd_807, wd_808, wd_20, wd_809⟩
theorem lk_X6_83 : zLk RX6 83 4 3 := ⟨"ParlourLeaves$House", RX3, TX3, 12, rfl, by decide, wsin_X3, wd_164, rfl⟩
theorem lk_X6_46 : zLk RX6 46 7 2 := ⟨"ParlourLeaves$Life", RX6, TX6, 11, rfl, by decide, wsin_X6, wd_228, rfl⟩
theorem cv_X6_86 : zCV RX6 RX6 86 yX6_plants cX6_plants 1 (some .int) 0 := ⟨rfl, dn_X6_plants, wd_727, wd_728, wd_729, wd_8, wd_730⟩
theorem lk_X6_26 : zLk RX6 26 7 7 := ⟨"ParlourLeaves$Life", RX6, TX6, 11, rfl, by decide, wsin_X6, wd_238, rfl⟩
theorem lk_X6_9 : zLk RX6 9 7 3 := ⟨"ParlourLeaves$Life", RX6, TX6, 11, rfl, by decide, wsin_X6, wd_230, rfl⟩
theorem lk_X6_15 : zLk RX6 15 7 4 := ⟨"ParlourLeaves$Life", RX6, TX6, 11, rfl, by decide, wsin_X6, wd_232, rfl⟩
theorem lk_X6_18 : zLk RX6 18 7 5 := ⟨"ParlourLeaves$Life", RX6, TX6, 11, rfl, by decide, wsin_X6, wd_234, rfl⟩
theorem lk_X6_21 : zLk RX6 21 7 6 := ⟨"ParlourLeaves$Life", RX6, TX6, 11, rfl, by decide, wsin_X6, wd_236, rfl⟩
theorem lq_X6_46 : zLq RX6 46 7 2 .int := ⟨"ParlourLeaves$Life", RX6, TX6, 11, tyX6, rfl, by decide, wsin_X6, wd_228, rfl, rfl, by decide +kernel, tyX6_ok, nmX6⟩
theorem cv_X6_90 : zCV RX6 RX6 90 yX6_seenBy cX6_seenBy 2 (some .int) 1 := ⟨rfl, dn_X6_seenBy, wd_769, wd_770, wd_771, wd_8, wd_772⟩
theorem cv_X6_93 : zCN RX6 "ParlourLeaves" 93 yX11_hasBit cX11_hasBit 2 (some .boolean) 2 := ⟨dn_X11_hasBit, (List.mem_of_getElem? (i := 11) rfl), wd_645, wd_1, wd_646⟩
theorem cv_X6_97 : zCV RX6 RX6 97 yX6_nextLeafDay cX6_nextLeafDay 2 (some .int) 1 := ⟨rfl, dn_X6_nextLeafDay, wd_803, wd_804, wd_805, wd_8, wd_806⟩
theorem dJ6_bitCount_0f7a4_0 : decode cJ6_bitCount_0f7a4 0 = .ok (.iload_n 0, 1) := by decide +kernel
theorem dJ6_bitCount_0f7a4_1 : decode cJ6_bitCount_0f7a4 1 = .ok (.iload_n 0, 1) := by decide +kernel
theorem dJ6_bitCount_0f7a4_2 : decode cJ6_bitCount_0f7a4 2 = .ok (.iconst 1, 1) := by decide +kernel
theorem dJ6_bitCount_0f7a4_3 : decode cJ6_bitCount_0f7a4 3 = .ok (.iushr, 1) := by decide +kernel
theorem dJ6_bitCount_0f7a4_4 : decode cJ6_bitCount_0f7a4 4 = .ok (.ldc_w 265, 3) := by decide +kernel
theorem dJ6_bitCount_0f7a4_7 : decode cJ6_bitCount_0f7a4 7 = .ok (.iand, 1) := by decide +kernel
theorem dJ6_bitCount_0f7a4_8 : decode cJ6_bitCount_0f7a4 8 = .ok (.isub, 1) := by decide +kernel
theorem dJ6_bitCount_0f7a4_9 : decode cJ6_bitCount_0f7a4 9 = .ok (.istore_n 0, 1) := by decide +kernel
theorem dJ6_bitCount_0f7a4_10 : decode cJ6_bitCount_0f7a4 10 = .ok (.iload_n 0, 1) := by decide +kernel
theorem dJ6_bitCount_0f7a4_11 : decode cJ6_bitCount_0f7a4 11 = .ok (.ldc_w 266, 3) := by decide +kernel
theorem dJ6_bitCount_0f7a4_14 : decode cJ6_bitCount_0f7a4 14 = .ok (.iand, 1) := by decide +kernel
theorem dJ6_bitCount_0f7a4_15 : decode cJ6_bitCount_0f7a4 15 = .ok (.iload_n 0, 1) := by decide +kernel
theorem dJ6_bitCount_0f7a4_16 : decode cJ6_bitCount_0f7a4 16 = .ok (.iconst 2, 1) := by decide +kernel
theorem dJ6_bitCount_0f7a4_17 : decode cJ6_bitCount_0f7a4 17 = .ok (.iushr, 1) := by decide +kernel
theorem dJ6_bitCount_0f7a4_18 : decode cJ6_bitCount_0f7a4 18 = .ok (.ldc_w 266, 3) := by decide +kernel
theorem dJ6_bitCount_0f7a4_21 : decode cJ6_bitCount_0f7a4 21 = .ok (.iand, 1) := by decide +kernel
theorem dJ6_bitCount_0f7a4_22 : decode cJ6_bitCount_0f7a4 22 = .ok (.iadd, 1) := by decide +kernel
theorem dJ6_bitCount_0f7a4_23 : decode cJ6_bitCount_0f7a4 23 = .ok (.istore_n 0, 1) := by decide +kernel
theorem dJ6_bitCount_0f7a4_24 : decode cJ6_bitCount_0f7a4 24 = .ok (.iload_n 0, 1) := by decide +kernel
theorem dJ6_bitCount_0f7a4_25 : decode cJ6_bitCount_0f7a4 25 = .ok (.iload_n 0, 1) := by decide +kernel
theorem dJ6_bitCount_0f7a4_26 : decode cJ6_bitCount_0f7a4 26 = .ok (.iconst 4, 1) := by decide +kernel
theorem dJ6_bitCount_0f7a4_27 : decode cJ6_bitCount_0f7a4 27 = .ok (.iushr, 1) := by decide +kernel
theorem dJ6_bitCount_0f7a4_28 : decode cJ6_bitCount_0f7a4 28 = .ok (.iadd, 1) := by decide +kernel
theorem dJ6_bitCount_0f7a4_29 : decode cJ6_bitCount_0f7a4 29 = .ok (.ldc_w 267, 3) := by decide +kernel
theorem dJ6_bitCount_0f7a4_32 : decode cJ6_bitCount_0f7a4 32 = .ok (.iand, 1) := by decide +kernel
theorem dJ6_bitCount_0f7a4_33 : decode cJ6_bitCount_0f7a4 33 = .ok (.istore_n 0, 1) := by decide +kernel
theorem dJ6_bitCount_0f7a4_34 : decode cJ6_bitCount_0f7a4 34 = .ok (.iload_n 0, 1) := by decide +kernel
theorem dJ6_bitCount_0f7a4_35 : decode cJ6_bitCount_0f7a4 35 = .ok (.iload_n 0, 1) := by decide +kernel
theorem dJ6_bitCount_0f7a4_36 : decode cJ6_bitCount_0f7a4 36 = .ok (.bipush 8, 2) := by decide +kernel
theorem dJ6_bitCount_0f7a4_38 : decode cJ6_bitCount_0f7a4 38 = .ok (.iushr, 1) := by decide +kernel
theorem dJ6_bitCount_0f7a4_39 : decode cJ6_bitCount_0f7a4 39 = .ok (.iadd, 1) := by decide +kernel
theorem dJ6_bitCount_0f7a4_40 : decode cJ6_bitCount_0f7a4 40 = .ok (.istore_n 0, 1) := by decide +kernel
theorem dJ6_bitCount_0f7a4_41 : decode cJ6_bitCount_0f7a4 41 = .ok (.iload_n 0, 1) := by decide +kernel
theorem dJ6_bitCount_0f7a4_42 : decode cJ6_bitCount_0f7a4 42 = .ok (.iload_n 0, 1) := by decide +kernel
theorem dJ6_bitCount_0f7a4_43 : decode cJ6_bitCount_0f7a4 43 = .ok (.bipush 16, 2) := by decide +kernel
theorem dJ6_bitCount_0f7a4_45 : decode cJ6_bitCount_0f7a4 45 = .ok (.iushr, 1) := by decide +kernel
theorem dJ6_bitCount_0f7a4_46 : decode cJ6_bitCount_0f7a4 46 = .ok (.iadd, 1) := by decide +kernel
theorem dJ6_bitCount_0f7a4_47 : decode cJ6_bitCount_0f7a4 47 = .ok (.istore_n 0, 1) := by decide +kernel
theorem dJ6_bitCount_0f7a4_48 : decode cJ6_bitCount_0f7a4 48 = .ok (.iload_n 0, 1) := by decide +kernel
theorem dJ6_bitCount_0f7a4_49 : decode cJ6_bitCount_0f7a4 49 = .ok (.bipush 63, 2) := by decide +kernel
theorem dJ6_bitCount_0f7a4_51 : decode cJ6_bitCount_0f7a4 51 = .ok (.iand, 1) := by decide +kernel
theorem dJ6_bitCount_0f7a4_52 : decode cJ6_bitCount_0f7a4 52 = .ok (.ireturn, 1) := by decide +kernel
theorem dX11_hasBit_0 : decode cX11_hasBit 0 = .ok (.iload_n 0, 1) := by decide +kernel
theorem dX11_hasBit_1 : decode cX11_hasBit 1 = .ok (.iload_n 1, 1) := by decide +kernel
theorem dX11_hasBit_2 : decode cX11_hasBit 2 = .ok (.iushr, 1) := by decide +kernel
theorem dX11_hasBit_3 : decode cX11_hasBit 3 = .ok (.iconst 1, 1) := by decide +kernel
theorem dX11_hasBit_4 : decode cX11_hasBit 4 = .ok (.iand, 1) := by decide +kernel
theorem dX11_hasBit_5 : decode cX11_hasBit 5 = .ok (.iconst 1, 1) := by decide +kernel
theorem dX11_hasBit_6 : decode cX11_hasBit 6 = .ok (.if_icmp .ne 7, 3) := by decide +kernel
theorem dX11_hasBit_9 : decode cX11_hasBit 9 = .ok (.iconst 1, 1) := by decide +kernel
theorem dX11_hasBit_10 : decode cX11_hasBit 10 = .ok (.goto 4, 3) := by decide +kernel
theorem dX11_hasBit_13 : decode cX11_hasBit 13 = .ok (.iconst 0, 1) := by decide +kernel
theorem dX11_hasBit_14 : decode cX11_hasBit 14 = .ok (.ireturn, 1) := by decide +kernel
theorem dX11_allBits_0 : decode cX11_allBits 0 = .ok (.iconst 1, 1) := by decide +kernel
theorem dX11_allBits_1 : decode cX11_allBits 1 = .ok (.iload_n 0, 1) := by decide +kernel
theorem dX11_allBits_2 : decode cX11_allBits 2 = .ok (.ishl, 1) := by decide +kernel
theorem dX11_allBits_3 : decode cX11_allBits 3 = .ok (.iconst 1, 1) := by decide +kernel
theorem dX11_allBits_4 : decode cX11_allBits 4 = .ok (.isub, 1) := by decide +kernel
theorem dX11_allBits_5 : decode cX11_allBits 5 = .ok (.ireturn, 1) := by decide +kernel
theorem dX3_has_0 : decode cX3_has 0 = .ok (.iload_n 2, 1) := by decide +kernel
theorem dX3_has_1 : decode cX3_has 1 = .ok (.ifCond .lt 17, 3) := by decide +kernel
theorem dX3_has_4 : decode cX3_has 4 = .ok (.iload_n 2, 1) := by decide +kernel
theorem dX3_has_5 : decode cX3_has 5 = .ok (.aload_n 0, 1) := by decide +kernel
theorem dX3_has_6 : decode cX3_has 6 = .ok (.getfield 9, 3) := by decide +kernel
theorem dX3_has_9 : decode cX3_has 9 = .ok (.iload_n 1, 1) := by decide +kernel
theorem dX3_has_10 : decode cX3_has 10 = .ok (.iaload, 1) := by decide +kernel
theorem dX3_has_11 : decode cX3_has 11 = .ok (.if_icmp .ge 7, 3) := by decide +kernel
theorem dX3_has_14 : decode cX3_has 14 = .ok (.iconst 1, 1) := by decide +kernel
theorem dX3_has_15 : decode cX3_has 15 = .ok (.goto 4, 3) := by decide +kernel
theorem dX3_has_18 : decode cX3_has 18 = .ok (.iconst 0, 1) := by decide +kernel
theorem dX3_has_19 : decode cX3_has 19 = .ok (.ireturn, 1) := by decide +kernel
theorem dX3_reach_0 : decode cX3_reach 0 = .ok (.aload_n 0, 1) := by decide +kernel
theorem dX3_reach_1 : decode cX3_reach 1 = .ok (.getfield 15, 3) := by decide +kernel
theorem dX3_reach_4 : decode cX3_reach 4 = .ok (.iload_n 1, 1) := by decide +kernel
theorem dX3_reach_5 : decode cX3_reach 5 = .ok (.iaload, 1) := by decide +kernel
theorem dX3_reach_6 : decode cX3_reach 6 = .ok (.iconst 1, 1) := by decide +kernel
theorem dX3_reach_7 : decode cX3_reach 7 = .ok (.iload_n 1, 1) := by decide +kernel
theorem dX3_reach_8 : decode cX3_reach 8 = .ok (.ishl, 1) := by decide +kernel
theorem dX3_reach_9 : decode cX3_reach 9 = .ok (.ior, 1) := by decide +kernel
theorem dX3_reach_10 : decode cX3_reach 10 = .ok (.ireturn, 1) := by decide +kernel
theorem dX6_plants_0 : decode cX6_plants 0 = .ok (.aload_n 0, 1) := by decide +kernel
theorem dX6_plants_1 : decode cX6_plants 1 = .ok (.getfield 38, 3) := by decide +kernel
theorem dX6_plants_4 : decode cX6_plants 4 = .ok (.getfield 60, 3) := by decide +kernel
theorem dX6_plants_7 : decode cX6_plants 7 = .ok (.iconst 1, 1) := by decide +kernel
theorem dX6_plants_8 : decode cX6_plants 8 = .ok (.iaload, 1) := by decide +kernel
theorem dX6_plants_9 : decode cX6_plants 9 = .ok (.ireturn, 1) := by decide +kernel
theorem dX6_isBlind_0 : decode cX6_isBlind 0 = .ok (.aload_n 0, 1) := by decide +kernel
theorem dX6_isBlind_1 : decode cX6_isBlind 1 = .ok (.getfield 38, 3) := by decide +kernel
theorem dX6_isBlind_4 : decode cX6_isBlind 4 = .ok (.getfield 63, 3) := by decide +kernel
theorem dX6_isBlind_7 : decode cX6_isBlind 7 = .ok (.iload_n 1, 1) := by decide +kernel
theorem dX6_isBlind_8 : decode cX6_isBlind 8 = .ok (.iaload, 1) := by decide +kernel
theorem dX6_isBlind_9 : decode cX6_isBlind 9 = .ok (.iconst 1, 1) := by decide +kernel
theorem dX6_isBlind_10 : decode cX6_isBlind 10 = .ok (.if_icmp .eq 19, 3) := by decide +kernel
theorem dX6_isBlind_13 : decode cX6_isBlind 13 = .ok (.aload_n 0, 1) := by decide +kernel
theorem dX6_isBlind_14 : decode cX6_isBlind 14 = .ok (.getfield 35, 3) := by decide +kernel
theorem dX6_isBlind_17 : decode cX6_isBlind 17 = .ok (.iload_n 1, 1) := by decide +kernel
theorem dX6_isBlind_18 : decode cX6_isBlind 18 = .ok (.iaload, 1) := by decide +kernel
theorem dX6_isBlind_19 : decode cX6_isBlind 19 = .ok (.aload_n 0, 1) := by decide +kernel
theorem dX6_isBlind_20 : decode cX6_isBlind 20 = .ok (.getfield 38, 3) := by decide +kernel
theorem dX6_isBlind_23 : decode cX6_isBlind 23 = .ok (.getfield 66, 3) := by decide +kernel
theorem dX6_isBlind_26 : decode cX6_isBlind 26 = .ok (.if_icmp .lt 7, 3) := by decide +kernel
theorem dX6_isBlind_29 : decode cX6_isBlind 29 = .ok (.iconst 1, 1) := by decide +kernel
theorem dX6_isBlind_30 : decode cX6_isBlind 30 = .ok (.goto 4, 3) := by decide +kernel
theorem dX6_isBlind_33 : decode cX6_isBlind 33 = .ok (.iconst 0, 1) := by decide +kernel
theorem dX6_isBlind_34 : decode cX6_isBlind 34 = .ok (.ireturn, 1) := by decide +kernel
theorem dX6_seenBy_0 : decode cX6_seenBy 0 = .ok (.aload_n 0, 1) := by decide +kernel
theorem dX6_seenBy_1 : decode cX6_seenBy 1 = .ok (.iload_n 1, 1) := by decide +kernel
theorem dX6_seenBy_2 : decode cX6_seenBy 2 = .ok (.invokevirtual 69, 3) := by decide +kernel
theorem dX6_seenBy_5 : decode cX6_seenBy 5 = .ok (.ifCond .eq 7, 3) := by decide +kernel
theorem dX6_seenBy_8 : decode cX6_seenBy 8 = .ok (.iconst 0, 1) := by decide +kernel
theorem dX6_seenBy_9 : decode cX6_seenBy 9 = .ok (.goto 16, 3) := by decide +kernel
theorem dX6_seenBy_12 : decode cX6_seenBy 12 = .ok (.aload_n 0, 1) := by decide +kernel
theorem dX6_seenBy_13 : decode cX6_seenBy 13 = .ok (.getfield 38, 3) := by decide +kernel
theorem dX6_seenBy_16 : decode cX6_seenBy 16 = .ok (.aload_n 0, 1) := by decide +kernel
theorem dX6_seenBy_17 : decode cX6_seenBy 17 = .ok (.getfield 32, 3) := by decide +kernel
theorem dX6_seenBy_20 : decode cX6_seenBy 20 = .ok (.iload_n 1, 1) := by decide +kernel
theorem dX6_seenBy_21 : decode cX6_seenBy 21 = .ok (.iaload, 1) := by decide +kernel
theorem dX6_seenBy_22 : decode cX6_seenBy 22 = .ok (.invokevirtual 73, 3) := by decide +kernel
theorem dX6_seenBy_25 : decode cX6_seenBy 25 = .ok (.ireturn, 1) := by decide +kernel
theorem dX6_nextLeafDay_0 : decode cX6_nextLeafDay 0 = .ok (.aload_n 0, 1) := by decide +kernel
theorem dX6_nextLeafDay_1 : decode cX6_nextLeafDay 1 = .ok (.getfield 42, 3) := by decide +kernel
theorem dX6_nextLeafDay_4 : decode cX6_nextLeafDay 4 = .ok (.aload_n 0, 1) := by decide +kernel
theorem dX6_nextLeafDay_5 : decode cX6_nextLeafDay 5 = .ok (.getfield 29, 3) := by decide +kernel
theorem dX6_nextLeafDay_8 : decode cX6_nextLeafDay 8 = .ok (.iload_n 1, 1) := by decide +kernel
theorem dX6_nextLeafDay_9 : decode cX6_nextLeafDay 9 = .ok (.iaload, 1) := by decide +kernel
theorem dX6_nextLeafDay_10 : decode cX6_nextLeafDay 10 = .ok (.invokestatic 77, 3) := by decide +kernel
theorem dX6_nextLeafDay_13 : decode cX6_nextLeafDay 13 = .ok (.aload_n 0, 1) := by decide +kernel
theorem dX6_nextLeafDay_14 : decode cX6_nextLeafDay 14 = .ok (.getfield 38, 3) := by decide +kernel
theorem dX6_nextLeafDay_17 : decode cX6_nextLeafDay 17 = .ok (.getfield 83, 3) := by decide +kernel
theorem dX6_nextLeafDay_20 : decode cX6_nextLeafDay 20 = .ok (.iload_n 1, 1) := by decide +kernel
theorem dX6_nextLeafDay_21 : decode cX6_nextLeafDay 21 = .ok (.iaload, 1) := by decide +kernel
theorem dX6_nextLeafDay_22 : decode cX6_nextLeafDay 22 = .ok (.iadd, 1) := by decide +kernel
theorem dX6_nextLeafDay_23 : decode cX6_nextLeafDay 23 = .ok (.ireturn, 1) := by decide +kernel
theorem dX6_hasAct_0 : decode cX6_hasAct 0 = .ok (.iload_n 1, 1) := by decide +kernel
theorem dX6_hasAct_1 : decode cX6_hasAct 1 = .ok (.ifCond .lt 15, 3) := by decide +kernel
theorem dX6_hasAct_4 : decode cX6_hasAct 4 = .ok (.iload_n 1, 1) := by decide +kernel
theorem dX6_hasAct_5 : decode cX6_hasAct 5 = .ok (.aload_n 0, 1) := by decide +kernel
theorem dX6_hasAct_6 : decode cX6_hasAct 6 = .ok (.getfield 46, 3) := by decide +kernel
theorem dX6_hasAct_9 : decode cX6_hasAct 9 = .ok (.if_icmp .ge 7, 3) := by decide +kernel
theorem dX6_hasAct_12 : decode cX6_hasAct 12 = .ok (.iconst 1, 1) := by decide +kernel
theorem dX6_hasAct_13 : decode cX6_hasAct 13 = .ok (.goto 4, 3) := by decide +kernel
theorem dX6_hasAct_16 : decode cX6_hasAct 16 = .ok (.iconst 0, 1) := by decide +kernel
theorem dX6_hasAct_17 : decode cX6_hasAct 17 = .ok (.ireturn, 1) := by decide +kernel
theorem dX6_daysLeft_0 : decode cX6_daysLeft 0 = .ok (.sipush 400, 3) := by decide +kernel
theorem dX6_daysLeft_3 : decode cX6_daysLeft 3 = .ok (.aload_n 0, 1) := by decide +kernel
theorem dX6_daysLeft_4 : decode cX6_daysLeft 4 = .ok (.getfield 42, 3) := by decide +kernel
theorem dX6_daysLeft_7 : decode cX6_daysLeft 7 = .ok (.isub, 1) := by decide +kernel
theorem dX6_daysLeft_8 : decode cX6_daysLeft 8 = .ok (.ireturn, 1) := by decide +kernel
theorem dX6_whyNotDo_0 : decode cX6_whyNotDo 0 = .ok (.aload_n 0, 1) := by decide +kernel
theorem dX6_whyNotDo_1 : decode cX6_whyNotDo 1 = .ok (.getfield 46, 3) := by decide +kernel
theorem dX6_whyNotDo_4 : decode cX6_whyNotDo 4 = .ok (.bipush 12, 2) := by decide +kernel
theorem dX6_whyNotDo_6 : decode cX6_whyNotDo 6 = .ok (.if_icmp .lt 7, 3) := by decide +kernel
theorem dX6_whyNotDo_9 : decode cX6_whyNotDo 9 = .ok (.iconst 1, 1) := by decide +kernel
theorem dX6_whyNotDo_10 : decode cX6_whyNotDo 10 = .ok (.goto 4, 3) := by decide +kernel
theorem dX6_whyNotDo_13 : decode cX6_whyNotDo 13 = .ok (.iconst 0, 1) := by decide +kernel
theorem dX6_whyNotDo_14 : decode cX6_whyNotDo 14 = .ok (.ireturn, 1) := by decide +kernel
theorem dX6_witnessesBy_0 : decode cX6_witnessesBy 0 = .ok (.iconst 0, 1) := by decide +kernel
theorem dX6_witnessesBy_1 : decode cX6_witnessesBy 1 = .ok (.istore_n 3, 1) := by decide +kernel
theorem dX6_witnessesBy_2 : decode cX6_witnessesBy 2 = .ok (.iconst 0, 1) := by decide +kernel
theorem dX6_witnessesBy_3 : decode cX6_witnessesBy 3 = .ok (.istore 4, 2) := by decide +kernel
theorem dX6_witnessesBy_5 : decode cX6_witnessesBy 5 = .ok (.iload 4, 2) := by decide +kernel
theorem dX6_witnessesBy_7 : decode cX6_witnessesBy 7 = .ok (.aload_n 0, 1) := by decide +kernel
theorem dX6_witnessesBy_8 : decode cX6_witnessesBy 8 = .ok (.invokevirtual 86, 3) := by decide +kernel
theorem dX6_witnessesBy_11 : decode cX6_witnessesBy 11 = .ok (.if_icmp .ge 42, 3) := by decide +kernel
theorem dX6_witnessesBy_14 : decode cX6_witnessesBy 14 = .ok (.aload_n 0, 1) := by decide +kernel
theorem dX6_witnessesBy_15 : decode cX6_witnessesBy 15 = .ok (.getfield 26, 3) := by decide +kernel
theorem dX6_witnessesBy_18 : decode cX6_witnessesBy 18 = .ok (.iload 4, 2) := by decide +kernel
theorem dX6_witnessesBy_20 : decode cX6_witnessesBy 20 = .ok (.aaload, 1) := by decide +kernel
theorem dX6_witnessesBy_21 : decode cX6_witnessesBy 21 = .ok (.iload_n 1, 1) := by decide +kernel
theorem dX6_witnessesBy_22 : decode cX6_witnessesBy 22 = .ok (.iaload, 1) := by decide +kernel
theorem dX6_witnessesBy_23 : decode cX6_witnessesBy 23 = .ok (.iconst (-1), 1) := by decide +kernel
theorem dX6_witnessesBy_24 : decode cX6_witnessesBy 24 = .ok (.if_icmp .eq 23, 3) := by decide +kernel
theorem dX6_witnessesBy_27 : decode cX6_witnessesBy 27 = .ok (.aload_n 0, 1) := by decide +kernel
theorem dX6_witnessesBy_28 : decode cX6_witnessesBy 28 = .ok (.getfield 26, 3) := by decide +kernel
theorem dX6_witnessesBy_31 : decode cX6_witnessesBy 31 = .ok (.iload 4, 2) := by decide +kernel
theorem dX6_witnessesBy_33 : decode cX6_witnessesBy 33 = .ok (.aaload, 1) := by decide +kernel
theorem dX6_witnessesBy_34 : decode cX6_witnessesBy 34 = .ok (.iload_n 1, 1) := by decide +kernel
theorem dX6_witnessesBy_35 : decode cX6_witnessesBy 35 = .ok (.iaload, 1) := by decide +kernel
theorem dX6_witnessesBy_36 : decode cX6_witnessesBy 36 = .ok (.iload_n 2, 1) := by decide +kernel
theorem dX6_witnessesBy_37 : decode cX6_witnessesBy 37 = .ok (.if_icmp .gt 10, 3) := by decide +kernel
theorem dX6_witnessesBy_40 : decode cX6_witnessesBy 40 = .ok (.iload_n 3, 1) := by decide +kernel
theorem dX6_witnessesBy_41 : decode cX6_witnessesBy 41 = .ok (.iconst 1, 1) := by decide +kernel
theorem dX6_witnessesBy_42 : decode cX6_witnessesBy 42 = .ok (.iload 4, 2) := by decide +kernel
theorem dX6_witnessesBy_44 : decode cX6_witnessesBy 44 = .ok (.ishl, 1) := by decide +kernel
theorem dX6_witnessesBy_45 : decode cX6_witnessesBy 45 = .ok (.ior, 1) := by decide +kernel
theorem dX6_witnessesBy_46 : decode cX6_witnessesBy 46 = .ok (.istore_n 3, 1) := by decide +kernel
theorem dX6_witnessesBy_47 : decode cX6_witnessesBy 47 = .ok (.iinc 4 1, 3) := by decide +kernel
theorem dX6_witnessesBy_50 : decode cX6_witnessesBy 50 = .ok (.goto (-45), 3) := by decide +kernel
theorem dX6_witnessesBy_53 : decode cX6_witnessesBy 53 = .ok (.iload_n 3, 1) := by decide +kernel
theorem dX6_witnessesBy_54 : decode cX6_witnessesBy 54 = .ok (.ireturn, 1) := by decide +kernel
theorem dX6_doDeed_0 : decode cX6_doDeed 0 = .ok (.aload_n 0, 1) := by decide +kernel
theorem dX6_doDeed_1 : decode cX6_doDeed 1 = .ok (.getfield 46, 3) := by decide +kernel
theorem dX6_doDeed_4 : decode cX6_doDeed 4 = .ok (.bipush 12, 2) := by decide +kernel
theorem dX6_doDeed_6 : decode cX6_doDeed 6 = .ok (.if_icmp .lt 4, 3) := by decide +kernel
theorem dX6_doDeed_9 : decode cX6_doDeed 9 = .ok (.return_, 1) := by decide +kernel
theorem dX6_doDeed_10 : decode cX6_doDeed 10 = .ok (.aload_n 0, 1) := by decide +kernel
theorem dX6_doDeed_11 : decode cX6_doDeed 11 = .ok (.getfield 9, 3) := by decide +kernel
theorem dX6_doDeed_14 : decode cX6_doDeed 14 = .ok (.aload_n 0, 1) := by decide +kernel
theorem dX6_doDeed_15 : decode cX6_doDeed 15 = .ok (.getfield 46, 3) := by decide +kernel
theorem dX6_doDeed_18 : decode cX6_doDeed 18 = .ok (.iload_n 1, 1) := by decide +kernel
theorem dX6_doDeed_19 : decode cX6_doDeed 19 = .ok (.iastore, 1) := by decide +kernel
theorem dX6_doDeed_20 : decode cX6_doDeed 20 = .ok (.aload_n 0, 1) := by decide +kernel
theorem dX6_doDeed_21 : decode cX6_doDeed 21 = .ok (.getfield 15, 3) := by decide +kernel
theorem dX6_doDeed_24 : decode cX6_doDeed 24 = .ok (.aload_n 0, 1) := by decide +kernel
theorem dX6_doDeed_25 : decode cX6_doDeed 25 = .ok (.getfield 46, 3) := by decide +kernel
theorem dX6_doDeed_28 : decode cX6_doDeed 28 = .ok (.iload_n 2, 1) := by decide +kernel
theorem dX6_doDeed_29 : decode cX6_doDeed 29 = .ok (.iastore, 1) := by decide +kernel
theorem dX6_doDeed_30 : decode cX6_doDeed 30 = .ok (.aload_n 0, 1) := by decide +kernel
theorem dX6_doDeed_31 : decode cX6_doDeed 31 = .ok (.getfield 18, 3) := by decide +kernel
theorem dX6_doDeed_34 : decode cX6_doDeed 34 = .ok (.aload_n 0, 1) := by decide +kernel
theorem dX6_doDeed_35 : decode cX6_doDeed 35 = .ok (.getfield 46, 3) := by decide +kernel
theorem dX6_doDeed_38 : decode cX6_doDeed 38 = .ok (.iload_n 3, 1) := by decide +kernel
theorem dX6_doDeed_39 : decode cX6_doDeed 39 = .ok (.iastore, 1) := by decide +kernel
theorem dX6_doDeed_40 : decode cX6_doDeed 40 = .ok (.aload_n 0, 1) := by decide +kernel
theorem dX6_doDeed_41 : decode cX6_doDeed 41 = .ok (.getfield 21, 3) := by decide +kernel
theorem dX6_doDeed_44 : decode cX6_doDeed 44 = .ok (.aload_n 0, 1) := by decide +kernel
theorem dX6_doDeed_45 : decode cX6_doDeed 45 = .ok (.getfield 46, 3) := by decide +kernel
theorem dX6_doDeed_48 : decode cX6_doDeed 48 = .ok (.aload_n 0, 1) := by decide +kernel
theorem dX6_doDeed_49 : decode cX6_doDeed 49 = .ok (.getfield 42, 3) := by decide +kernel
theorem dX6_doDeed_52 : decode cX6_doDeed 52 = .ok (.iastore, 1) := by decide +kernel
theorem dX6_doDeed_53 : decode cX6_doDeed 53 = .ok (.iconst 0, 1) := by decide +kernel
theorem dX6_doDeed_54 : decode cX6_doDeed 54 = .ok (.istore 4, 2) := by decide +kernel
theorem dX6_doDeed_56 : decode cX6_doDeed 56 = .ok (.iload 4, 2) := by decide +kernel
theorem dX6_doDeed_58 : decode cX6_doDeed 58 = .ok (.aload_n 0, 1) := by decide +kernel
theorem dX6_doDeed_59 : decode cX6_doDeed 59 = .ok (.invokevirtual 86, 3) := by decide +kernel
theorem dX6_doDeed_62 : decode cX6_doDeed 62 = .ok (.if_icmp .ge 67, 3) := by decide +kernel
theorem dX6_doDeed_65 : decode cX6_doDeed 65 = .ok (.aload_n 0, 1) := by decide +kernel
theorem dX6_doDeed_66 : decode cX6_doDeed 66 = .ok (.getfield 26, 3) := by decide +kernel
theorem dX6_doDeed_69 : decode cX6_doDeed 69 = .ok (.iload 4, 2) := by decide +kernel
theorem dX6_doDeed_71 : decode cX6_doDeed 71 = .ok (.aaload, 1) := by decide +kernel
theorem dX6_doDeed_72 : decode cX6_doDeed 72 = .ok (.aload_n 0, 1) := by decide +kernel
theorem dX6_doDeed_73 : decode cX6_doDeed 73 = .ok (.getfield 46, 3) := by decide +kernel
theorem dX6_doDeed_76 : decode cX6_doDeed 76 = .ok (.iconst (-1), 1) := by decide +kernel
theorem dX6_doDeed_77 : decode cX6_doDeed 77 = .ok (.iastore, 1) := by decide +kernel
theorem dX6_doDeed_78 : decode cX6_doDeed 78 = .ok (.aload_n 0, 1) := by decide +kernel
theorem dX6_doDeed_79 : decode cX6_doDeed 79 = .ok (.iload 4, 2) := by decide +kernel
theorem dX6_doDeed_81 : decode cX6_doDeed 81 = .ok (.invokevirtual 90, 3) := by decide +kernel
theorem dX6_doDeed_84 : decode cX6_doDeed 84 = .ok (.iload_n 3, 1) := by decide +kernel
theorem dX6_doDeed_85 : decode cX6_doDeed 85 = .ok (.invokestatic 93, 3) := by decide +kernel
theorem dX6_doDeed_88 : decode cX6_doDeed 88 = .ok (.ifCond .eq 35, 3) := by decide +kernel
theorem dX6_doDeed_91 : decode cX6_doDeed 91 = .ok (.aload_n 0, 1) := by decide +kernel
theorem dX6_doDeed_92 : decode cX6_doDeed 92 = .ok (.getfield 29, 3) := by decide +kernel
theorem dX6_doDeed_95 : decode cX6_doDeed 95 = .ok (.iload 4, 2) := by decide +kernel
theorem dX6_doDeed_97 : decode cX6_doDeed 97 = .ok (.aload_n 0, 1) := by decide +kernel
theorem dX6_doDeed_98 : decode cX6_doDeed 98 = .ok (.iload 4, 2) := by decide +kernel
theorem dX6_doDeed_100 : decode cX6_doDeed 100 = .ok (.invokevirtual 97, 3) := by decide +kernel
theorem dX6_doDeed_103 : decode cX6_doDeed 103 = .ok (.iastore, 1) := by decide +kernel
theorem dX6_doDeed_104 : decode cX6_doDeed 104 = .ok (.aload_n 0, 1) := by decide +kernel
theorem dX6_doDeed_105 : decode cX6_doDeed 105 = .ok (.getfield 26, 3) := by decide +kernel
theorem dX6_doDeed_108 : decode cX6_doDeed 108 = .ok (.iload 4, 2) := by decide +kernel
theorem dX6_doDeed_110 : decode cX6_doDeed 110 = .ok (.aaload, 1) := by decide +kernel
theorem dX6_doDeed_111 : decode cX6_doDeed 111 = .ok (.aload_n 0, 1) := by decide +kernel
theorem dX6_doDeed_112 : decode cX6_doDeed 112 = .ok (.getfield 46, 3) := by decide +kernel
theorem dX6_doDeed_115 : decode cX6_doDeed 115 = .ok (.aload_n 0, 1) := by decide +kernel
theorem dX6_doDeed_116 : decode cX6_doDeed 116 = .ok (.getfield 29, 3) := by decide +kernel
theorem dX6_doDeed_119 : decode cX6_doDeed 119 = .ok (.iload 4, 2) := by decide +kernel
theorem dX6_doDeed_121 : decode cX6_doDeed 121 = .ok (.iaload, 1) := by decide +kernel
theorem dX6_doDeed_122 : decode cX6_doDeed 122 = .ok (.iastore, 1) := by decide +kernel
theorem dX6_doDeed_123 : decode cX6_doDeed 123 = .ok (.iinc 4 1, 3) := by decide +kernel
theorem dX6_doDeed_126 : decode cX6_doDeed 126 = .ok (.goto (-70), 3) := by decide +kernel
theorem dX6_doDeed_129 : decode cX6_doDeed 129 = .ok (.aload_n 0, 1) := by decide +kernel
theorem dX6_doDeed_130 : decode cX6_doDeed 130 = .ok (.dup, 1) := by decide +kernel
theorem dX6_doDeed_131 : decode cX6_doDeed 131 = .ok (.getfield 46, 3) := by decide +kernel
theorem dX6_doDeed_134 : decode cX6_doDeed 134 = .ok (.iconst 1, 1) := by decide +kernel
theorem dX6_doDeed_135 : decode cX6_doDeed 135 = .ok (.iadd, 1) := by decide +kernel
theorem dX6_doDeed_136 : decode cX6_doDeed 136 = .ok (.putfield 46, 3) := by decide +kernel
theorem dX6_doDeed_139 : decode cX6_doDeed 139 = .ok (.return_, 1) := by decide +kernel
-- J6_bitCount_0f7a4
abbrev rmJ6_bitCount_0f7a4 : Room := { frames := 0, cells := 0, slots := 0, locals := 0 }
def fJ6_bitCount_0f7a4 (v0 : Int32) : Option Int32 :=
  zLt (v0 - ((zUsh v0 (1 : Int32)) &&& (1431655765 : Int32))) (fun x1 => zLt ((x1 &&& (858993459 : Int32)) + ((zUsh x1 (2 : Int32)) &&& (858993459 : Int32))) (fun x2 => zLt ((x2 + (zUsh x2 (4 : Int32))) &&& (252645135 : Int32)) (fun x3 => zLt (x3 + (zUsh x3 (8 : Int32))) (fun x4 => zLt (x4 + (zUsh x4 (16 : Int32))) (fun x5 => some (x5 &&& (63 : Int32)))))))
set_option maxHeartbeats 4000000 in
set_option maxRecDepth 100000 in
theorem mJ6_bitCount_0f7a4 {l : Launch} {D : va_G} {cy : Nat → ClassId} {q : Nat → Nat} {v0 : Int32} {z : Int32} (h : fJ6_bitCount_0f7a4 v0 = some z) : zMi l yJ6_bitCount_0f7a4 cJ6_bitCount_0f7a4 1 (some .int) rmJ6_bitCount_0f7a4 [.int v0] (zPk D cy) z := by
  refine Met.ofW (cc := cJ6_bitCount_0f7a4) (maxL := 1) (ret := (some .int)) (by decide) rfl ?_
  intro p e s m args below meth c s₁ B hml hv
  obtain ⟨rfl, hK⟩ := hv
  have cx : zX RJ6 cJ6_bitCount_0f7a4 1 p s m ([.int v0]).toArray c D cy := ⟨B.exec, B.bytes, hml, findClass_of_methodNamed B.named, fun w hw => atoms_spec (ws := Cond.code yJ6_bitCount_0f7a4 cJ6_bitCount_0f7a4 1 (some .int) :: zTB) B.pre w (List.mem_cons_of_mem _ hw), hK⟩
  have hx := cx.1
  have hb := cx.2.1
  have hr := B.returns
  have hlk := B.notSynchronized
  have hl := lv_entry ([.int v0]) (n := 1) (Nat.le_of_ble_eq_true rfl)
  rw [lg_entry_eq]
  generalize (lg_sl ([.int v0]) ++ List.replicate (1 - (lg_sl ([.int v0])).length) Slot.unset).toArray = ls at hl ⊢
  have hl : lv_has ls 1 [(0, .int v0)] := hl
  unfold fJ6_bitCount_0f7a4 at h
  refine lv_iload_n (pc := 0) hx hb dJ6_bitCount_0f7a4_0 rfl (lv_at hl 0 rfl) ?_
  refine lv_iload_n (pc := 1) hx hb dJ6_bitCount_0f7a4_1 rfl (lv_at hl 0 rfl) ?_
  refine lv_iconst (pc := 2) hx hb dJ6_bitCount_0f7a4_2 zc_1 ?_
  refine lv_iushr (v := (zUsh v0 (1 : Int32))) (pc := 3) hx hb dJ6_bitCount_0f7a4_3 rfl ?_
  refine lv_ldcw (pc := 4) hx hb cx.2.2.2.1 (cx.2.2.2.2.1 _ wd_734) dJ6_bitCount_0f7a4_4 ?_
  refine lv_iand (pc := 7) hx hb dJ6_bitCount_0f7a4_7 ?_
  refine lv_isub (pc := 8) hx hb dJ6_bitCount_0f7a4_8 ?_
  obtain ⟨x1, ex1, h⟩ := zLt_e h
  refine zr_nmI ex1 ?_
  refine lv_istore_n (lv' := [(0, .int x1)]) (pc := 9) hx hb dJ6_bitCount_0f7a4_9 rfl hl (by decide) rfl (fun ls hl => ?_)
  refine lv_iload_n (pc := 10) hx hb dJ6_bitCount_0f7a4_10 rfl (lv_at hl 0 rfl) ?_
  refine lv_ldcw (pc := 11) hx hb cx.2.2.2.1 (cx.2.2.2.2.1 _ wd_735) dJ6_bitCount_0f7a4_11 ?_
  refine lv_iand (pc := 14) hx hb dJ6_bitCount_0f7a4_14 ?_
  refine lv_iload_n (pc := 15) hx hb dJ6_bitCount_0f7a4_15 rfl (lv_at hl 0 rfl) ?_
  refine lv_iconst (pc := 16) hx hb dJ6_bitCount_0f7a4_16 zc_2 ?_
  refine lv_iushr (v := (zUsh x1 (2 : Int32))) (pc := 17) hx hb dJ6_bitCount_0f7a4_17 rfl ?_
  refine lv_ldcw (pc := 18) hx hb cx.2.2.2.1 (cx.2.2.2.2.1 _ wd_735) dJ6_bitCount_0f7a4_18 ?_
  refine lv_iand (pc := 21) hx hb dJ6_bitCount_0f7a4_21 ?_
  refine lv_iadd (pc := 22) hx hb dJ6_bitCount_0f7a4_22 ?_
  obtain ⟨x2, ex2, h⟩ := zLt_e h
  refine zr_nmI ex2 ?_
  refine lv_istore_n (lv' := [(0, .int x2)]) (pc := 23) hx hb dJ6_bitCount_0f7a4_23 rfl hl (by decide) rfl (fun ls hl => ?_)
  refine lv_iload_n (pc := 24) hx hb dJ6_bitCount_0f7a4_24 rfl (lv_at hl 0 rfl) ?_
  refine lv_iload_n (pc := 25) hx hb dJ6_bitCount_0f7a4_25 rfl (lv_at hl 0 rfl) ?_
  refine lv_iconst (pc := 26) hx hb dJ6_bitCount_0f7a4_26 zc_4 ?_
  refine lv_iushr (v := (zUsh x2 (4 : Int32))) (pc := 27) hx hb dJ6_bitCount_0f7a4_27 rfl ?_
  refine lv_iadd (pc := 28) hx hb dJ6_bitCount_0f7a4_28 ?_
  refine lv_ldcw (pc := 29) hx hb cx.2.2.2.1 (cx.2.2.2.2.1 _ wd_736) dJ6_bitCount_0f7a4_29 ?_
  refine lv_iand (pc := 32) hx hb dJ6_bitCount_0f7a4_32 ?_
  obtain ⟨x3, ex3, h⟩ := zLt_e h
  refine zr_nmI ex3 ?_
  refine lv_istore_n (lv' := [(0, .int x3)]) (pc := 33) hx hb dJ6_bitCount_0f7a4_33 rfl hl (by decide) rfl (fun ls hl => ?_)
  refine lv_iload_n (pc := 34) hx hb dJ6_bitCount_0f7a4_34 rfl (lv_at hl 0 rfl) ?_
  refine lv_iload_n (pc := 35) hx hb dJ6_bitCount_0f7a4_35 rfl (lv_at hl 0 rfl) ?_
  refine lv_bipush (pc := 36) hx hb dJ6_bitCount_0f7a4_36 zb_8 ?_
  refine lv_iushr (v := (zUsh x3 (8 : Int32))) (pc := 38) hx hb dJ6_bitCount_0f7a4_38 rfl ?_
  refine lv_iadd (pc := 39) hx hb dJ6_bitCount_0f7a4_39 ?_
  obtain ⟨x4, ex4, h⟩ := zLt_e h
  refine zr_nmI ex4 ?_
  refine lv_istore_n (lv' := [(0, .int x4)]) (pc := 40) hx hb dJ6_bitCount_0f7a4_40 rfl hl (by decide) rfl (fun ls hl => ?_)
  refine lv_iload_n (pc := 41) hx hb dJ6_bitCount_0f7a4_41 rfl (lv_at hl 0 rfl) ?_
  refine lv_iload_n (pc := 42) hx hb dJ6_bitCount_0f7a4_42 rfl (lv_at hl 0 rfl) ?_
  refine lv_bipush (pc := 43) hx hb dJ6_bitCount_0f7a4_43 zb_16 ?_
  refine lv_iushr (v := (zUsh x4 (16 : Int32))) (pc := 45) hx hb dJ6_bitCount_0f7a4_45 rfl ?_
  refine lv_iadd (pc := 46) hx hb dJ6_bitCount_0f7a4_46 ?_
  obtain ⟨x5, ex5, h⟩ := zLt_e h
  refine zr_nmI ex5 ?_
  refine lv_istore_n (lv' := [(0, .int x5)]) (pc := 47) hx hb dJ6_bitCount_0f7a4_47 rfl hl (by decide) rfl (fun ls hl => ?_)
  refine lv_iload_n (pc := 48) hx hb dJ6_bitCount_0f7a4_48 rfl (lv_at hl 0 rfl) ?_
  refine lv_bipush (pc := 49) hx hb dJ6_bitCount_0f7a4_49 zb_63 ?_
  refine lv_iand (pc := 51) hx hb dJ6_bitCount_0f7a4_51 ?_
  have hz := Option.some.inj h
  exact zr_reI (pc := 52) cx hr hlk hz dJ6_bitCount_0f7a4_52
-- X11_hasBit
abbrev rmX11_hasBit : Room := { frames := 0, cells := 0, slots := 0, locals := 0 }
def fX11_hasBit (v0 : Int32) (v1 : Int32) : Option Int32 :=
  zBr (((zUsh v0 v1) &&& (1 : Int32)) = (1 : Int32)) (some (1 : Int32)) (some (0 : Int32))
set_option maxHeartbeats 4000000 in
set_option maxRecDepth 100000 in
theorem mX11_hasBit {l : Launch} {D : va_G} {cy : Nat → ClassId} {q : Nat → Nat} {v0 : Int32} {v1 : Int32} {z : Int32} (h : fX11_hasBit v0 v1 = some z) : zMi l yX11_hasBit cX11_hasBit 2 (some .boolean) rmX11_hasBit [.int v0, .int v1] (zPk D cy) z := by
  refine Met.ofW (cc := cX11_hasBit) (maxL := 2) (ret := (some .boolean)) (by decide) rfl ?_
  intro p e s m args below meth c s₁ B hml hv
  obtain ⟨rfl, hK⟩ := hv
  have cx : zX RX11 cX11_hasBit 2 p s m ([.int v0, .int v1]).toArray c D cy := ⟨B.exec, B.bytes, hml, findClass_of_methodNamed B.named, fun w hw => atoms_spec (ws := Cond.code yX11_hasBit cX11_hasBit 2 (some .boolean) :: zTB) B.pre w (List.mem_cons_of_mem _ hw), hK⟩
  have hx := cx.1
  have hb := cx.2.1
  have hr := B.returns
  have hlk := B.notSynchronized
  have hl := lv_entry ([.int v0, .int v1]) (n := 2) (Nat.le_of_ble_eq_true rfl)
  rw [lg_entry_eq]
  generalize (lg_sl ([.int v0, .int v1]) ++ List.replicate (2 - (lg_sl ([.int v0, .int v1])).length) Slot.unset).toArray = ls at hl ⊢
  have hl : lv_has ls 2 [(0, .int v0), (1, .int v1)] := hl
  unfold fX11_hasBit at h
  refine lv_iload_n (pc := 0) hx hb dX11_hasBit_0 rfl (lv_at hl 0 rfl) ?_
  refine lv_iload_n (pc := 1) hx hb dX11_hasBit_1 rfl (lv_at hl 1 rfl) ?_
  refine lv_iushr (v := (zUsh v0 v1)) (pc := 2) hx hb dX11_hasBit_2 rfl ?_
  refine lv_iconst (pc := 3) hx hb dX11_hasBit_3 zc_1 ?_
  refine lv_iand (pc := 4) hx hb dX11_hasBit_4 ?_
  refine lv_iconst (pc := 5) hx hb dX11_hasBit_5 zc_1 ?_
  refine lv_icmp_ne (pc := 6) (tgt := 13) hx hb dX11_hasBit_6 (by decide) (fun c1 => ?_) (fun c1 => ?_)
  · replace h := zBr_f c1 h
    refine lv_iconst (pc := 13) hx hb dX11_hasBit_13 zc_0 ?_
    have hz := Option.some.inj h
    exact zr_reZ (pc := 14) cx hr hlk hz (by decide) dX11_hasBit_14
  · replace h := zBr_t c1 h
    refine lv_iconst (pc := 9) hx hb dX11_hasBit_9 zc_1 ?_
    refine lv_goto (pc := 10) (tgt := 14) hx hb dX11_hasBit_10 (by decide) ?_
    have hz := Option.some.inj h
    exact zr_reZ (pc := 14) cx hr hlk hz (by decide) dX11_hasBit_14
-- X11_allBits
abbrev rmX11_allBits : Room := { frames := 0, cells := 0, slots := 0, locals := 0 }
def fX11_allBits (v0 : Int32) : Option Int32 :=
  some (((1 : Int32) <<< (v0 &&& 31)) - (1 : Int32))
set_option maxHeartbeats 4000000 in
set_option maxRecDepth 100000 in
theorem mX11_allBits {l : Launch} {D : va_G} {cy : Nat → ClassId} {q : Nat → Nat} {v0 : Int32} {z : Int32} (h : fX11_allBits v0 = some z) : zMi l yX11_allBits cX11_allBits 1 (some .int) rmX11_allBits [.int v0] (zPk D cy) z := by
  refine Met.ofW (cc := cX11_allBits) (maxL := 1) (ret := (some .int)) (by decide) rfl ?_
  intro p e s m args below meth c s₁ B hml hv
  obtain ⟨rfl, hK⟩ := hv
  have cx : zX RX11 cX11_allBits 1 p s m ([.int v0]).toArray c D cy := ⟨B.exec, B.bytes, hml, findClass_of_methodNamed B.named, fun w hw => atoms_spec (ws := Cond.code yX11_allBits cX11_allBits 1 (some .int) :: zTB) B.pre w (List.mem_cons_of_mem _ hw), hK⟩
  have hx := cx.1
  have hb := cx.2.1
  have hr := B.returns
  have hlk := B.notSynchronized
  have hl := lv_entry ([.int v0]) (n := 1) (Nat.le_of_ble_eq_true rfl)
  rw [lg_entry_eq]
  generalize (lg_sl ([.int v0]) ++ List.replicate (1 - (lg_sl ([.int v0])).length) Slot.unset).toArray = ls at hl ⊢
  have hl : lv_has ls 1 [(0, .int v0)] := hl
  unfold fX11_allBits at h
  refine lv_iconst (pc := 0) hx hb dX11_allBits_0 zc_1 ?_
  refine lv_iload_n (pc := 1) hx hb dX11_allBits_1 rfl (lv_at hl 0 rfl) ?_
  refine lv_ishl (pc := 2) hx hb dX11_allBits_2 ?_
  refine lv_iconst (pc := 3) hx hb dX11_allBits_3 zc_1 ?_
  refine lv_isub (pc := 4) hx hb dX11_allBits_4 ?_
  have hz := Option.some.inj h
  exact zr_reI (pc := 5) cx hr hlk hz dX11_allBits_5
-- X3_has
abbrev rmX3_has : Room := { frames := 0, cells := 0, slots := 0, locals := 0 }
def fX3_has (S : zSt) (a0 : Nat) (v1 : Int32) (v2 : Int32) : Option Int32 :=
  zBr (v2 < 0) (some (0 : Int32)) (zGd (zIx v1 4) (zBr ((S.1 (a0 + 1) v1.toNatClampNeg) ≤ v2) (some (0 : Int32)) (some (1 : Int32))))
set_option maxHeartbeats 4000000 in
set_option maxRecDepth 100000 in
theorem mX3_has {l : Launch} {D : va_G} {cy : Nat → ClassId} {q : Nat → Nat} {S : zSt} {a0 : Nat} {v1 : Int32} {v2 : Int32} (ha0 : zHouse a0) {z : Int32} (h : fX3_has S a0 v1 v2 = some z) : zMi l yX3_has cX3_has 3 (some .boolean) rmX3_has [.ref (q a0), .int v1, .int v2] (zPr zsh zNC D cy q S) z := by
  refine Met.ofW (cc := cX3_has) (maxL := 3) (ret := (some .boolean)) (by decide) rfl ?_
  intro p e s m args below meth c s₁ B hml hv
  obtain ⟨rfl, hP, hK⟩ := hv
  have cx : zX RX3 cX3_has 3 p s m ([.ref (q a0), .int v1, .int v2]).toArray c D cy := ⟨B.exec, B.bytes, hml, findClass_of_methodNamed B.named, fun w hw => atoms_spec (ws := Cond.code yX3_has cX3_has 3 (some .boolean) :: zTB) B.pre w (List.mem_cons_of_mem _ hw), hK⟩
  have hx := cx.1
  have hb := cx.2.1
  have hr := B.returns
  have hlk := B.notSynchronized
  have hl := lv_entry ([.ref (q a0), .int v1, .int v2]) (n := 3) (Nat.le_of_ble_eq_true rfl)
  rw [lg_entry_eq]
  generalize (lg_sl ([.ref (q a0), .int v1, .int v2]) ++ List.replicate (3 - (lg_sl ([.ref (q a0), .int v1, .int v2])).length) Slot.unset).toArray = ls at hl ⊢
  have hl : lv_has ls 3 [(0, .ref (q a0)), (1, .int v1), (2, .int v2)] := hl
  unfold fX3_has at h
  refine lv_iload_n (pc := 0) hx hb dX3_has_0 rfl (lv_at hl 2 rfl) ?_
  refine lv_if_lt (pc := 1) (tgt := 18) hx hb dX3_has_1 (by decide) (fun c1 => ?_) (fun c1 => ?_)
  · replace h := zBr_t c1 h
    refine lv_iconst (pc := 18) hx hb dX3_has_18 zc_0 ?_
    have hz := Option.some.inj h
    exact zr_reZ (pc := 19) cx hr hlk hz (by decide) dX3_has_19
  · replace h := zBr_f c1 h
    refine lv_iload_n (pc := 4) hx hb dX3_has_4 rfl (lv_at hl 2 rfl) ?_
    refine lv_aload_n (pc := 5) hx hb dX3_has_5 rfl (lv_at hl 0 rfl) ?_
    refine zr_getR (pc := 6) (t := (a0 + 1)) cx lk_X3_9 hP (nX3_0 ha0) (sX3_0 ha0) rfl dX3_has_6 ?_
    refine lv_iload_n (pc := 9) hx hb dX3_has_9 rfl (lv_at hl 1 rfl) ?_
    obtain ⟨g2, h⟩ := zGd_e h
    refine zr_iald (pc := 10) cx hP (nX3_1 ha0) (sX3_1 ha0) g2 dX3_has_10 ?_
    refine lv_icmp_ge (pc := 11) (tgt := 18) hx hb dX3_has_11 (by decide) (fun c3 => ?_) (fun c3 => ?_)
    · replace h := zBr_t c3 h
      refine lv_iconst (pc := 18) hx hb dX3_has_18 zc_0 ?_
      have hz := Option.some.inj h
      exact zr_reZ (pc := 19) cx hr hlk hz (by decide) dX3_has_19
    · replace h := zBr_f c3 h
      refine lv_iconst (pc := 14) hx hb dX3_has_14 zc_1 ?_
      refine lv_goto (pc := 15) (tgt := 19) hx hb dX3_has_15 (by decide) ?_
      have hz := Option.some.inj h
      exact zr_reZ (pc := 19) cx hr hlk hz (by decide) dX3_has_19
-- X3_reach
abbrev rmX3_reach : Room := { frames := 0, cells := 0, slots := 0, locals := 0 }
def fX3_reach (S : zSt) (a0 : Nat) (v1 : Int32) : Option Int32 :=
  zGd (zIx v1 5) (some ((S.1 (a0 + 2) v1.toNatClampNeg) ||| ((1 : Int32) <<< (v1 &&& 31))))
set_option maxHeartbeats 4000000 in
set_option maxRecDepth 100000 in
theorem mX3_reach {l : Launch} {D : va_G} {cy : Nat → ClassId} {q : Nat → Nat} {S : zSt} {a0 : Nat} {v1 : Int32} (ha0 : zHouse a0) {z : Int32} (h : fX3_reach S a0 v1 = some z) : zMi l yX3_reach cX3_reach 2 (some .int) rmX3_reach [.ref (q a0), .int v1] (zPr zsh zNC D cy q S) z := by
  refine Met.ofW (cc := cX3_reach) (maxL := 2) (ret := (some .int)) (by decide) rfl ?_
  intro p e s m args below meth c s₁ B hml hv
  obtain ⟨rfl, hP, hK⟩ := hv
  have cx : zX RX3 cX3_reach 2 p s m ([.ref (q a0), .int v1]).toArray c D cy := ⟨B.exec, B.bytes, hml, findClass_of_methodNamed B.named, fun w hw => atoms_spec (ws := Cond.code yX3_reach cX3_reach 2 (some .int) :: zTB) B.pre w (List.mem_cons_of_mem _ hw), hK⟩
  have hx := cx.1
  have hb := cx.2.1
  have hr := B.returns
  have hlk := B.notSynchronized
  have hl := lv_entry ([.ref (q a0), .int v1]) (n := 2) (Nat.le_of_ble_eq_true rfl)
  rw [lg_entry_eq]
  generalize (lg_sl ([.ref (q a0), .int v1]) ++ List.replicate (2 - (lg_sl ([.ref (q a0), .int v1])).length) Slot.unset).toArray = ls at hl ⊢
  have hl : lv_has ls 2 [(0, .ref (q a0)), (1, .int v1)] := hl
  unfold fX3_reach at h
  refine lv_aload_n (pc := 0) hx hb dX3_reach_0 rfl (lv_at hl 0 rfl) ?_
  refine zr_getR (pc := 1) (t := (a0 + 2)) cx lk_X3_15 hP (nX3_0 ha0) (sX3_0 ha0) rfl dX3_reach_1 ?_
  refine lv_iload_n (pc := 4) hx hb dX3_reach_4 rfl (lv_at hl 1 rfl) ?_
  obtain ⟨g1, h⟩ := zGd_e h
  refine zr_iald (pc := 5) cx hP (nX3_2 ha0) (sX3_2 ha0) g1 dX3_reach_5 ?_
  refine lv_iconst (pc := 6) hx hb dX3_reach_6 zc_1 ?_
  refine lv_iload_n (pc := 7) hx hb dX3_reach_7 rfl (lv_at hl 1 rfl) ?_
  refine lv_ishl (pc := 8) hx hb dX3_reach_8 ?_
  refine lv_ior (pc := 9) hx hb dX3_reach_9 ?_
  have hz := Option.some.inj h
  exact zr_reI (pc := 10) cx hr hlk hz dX3_reach_10
-- X6_plants
abbrev rmX6_plants : Room := { frames := 0, cells := 0, slots := 0, locals := 0 }
def fX6_plants (S : zSt) (a0 : Nat) : Option Int32 :=
  zGd (zIx (1 : Int32) 4) (some (S.1 ((zHs a0) + 1) (1 : Int32).toNatClampNeg))
set_option maxHeartbeats 4000000 in
set_option maxRecDepth 100000 in
theorem mX6_plants {l : Launch} {D : va_G} {cy : Nat → ClassId} {q : Nat → Nat} {S : zSt} {a0 : Nat} (ha0 : zLife a0) {z : Int32} (h : fX6_plants S a0 = some z) : zMi l yX6_plants cX6_plants 1 (some .int) rmX6_plants [.ref (q a0)] (zPr zsh zNC D cy q S) z := by
  refine Met.ofW (cc := cX6_plants) (maxL := 1) (ret := (some .int)) (by decide) rfl ?_
  intro p e s m args below meth c s₁ B hml hv
  obtain ⟨rfl, hP, hK⟩ := hv
  have cx : zX RX6 cX6_plants 1 p s m ([.ref (q a0)]).toArray c D cy := ⟨B.exec, B.bytes, hml, findClass_of_methodNamed B.named, fun w hw => atoms_spec (ws := Cond.code yX6_plants cX6_plants 1 (some .int) :: zTB) B.pre w (List.mem_cons_of_mem _ hw), hK⟩
  have hx := cx.1
  have hb := cx.2.1
  have hr := B.returns
  have hlk := B.notSynchronized
  have hl := lv_entry ([.ref (q a0)]) (n := 1) (Nat.le_of_ble_eq_true rfl)
  rw [lg_entry_eq]
  generalize (lg_sl ([.ref (q a0)]) ++ List.replicate (1 - (lg_sl ([.ref (q a0)])).length) Slot.unset).toArray = ls at hl ⊢
  have hl : lv_has ls 1 [(0, .ref (q a0))] := hl
  unfold fX6_plants at h
  refine lv_aload_n (pc := 0) hx hb dX6_plants_0 rfl (lv_at hl 0 rfl) ?_
  refine zr_getR (pc := 1) (t := (zHs a0)) cx lk_X6_38 hP (nX6_0 ha0) (sX6_0 ha0) rfl dX6_plants_1 ?_
  refine zr_getR (pc := 4) (t := ((zHs a0) + 1)) cx lk_X6_60 hP (nX3_0 (zHs_ok ha0)) (sX3_0 (zHs_ok ha0)) rfl dX6_plants_4 ?_
  refine lv_iconst (pc := 7) hx hb dX6_plants_7 zc_1 ?_
  obtain ⟨g1, h⟩ := zGd_e h
  refine zr_iald (pc := 8) cx hP (nX3_1 (zHs_ok ha0)) (sX3_1 (zHs_ok ha0)) g1 dX6_plants_8 ?_
  have hz := Option.some.inj h
  exact zr_reI (pc := 9) cx hr hlk hz dX6_plants_9
-- X6_isBlind
abbrev rmX6_isBlind : Room := { frames := 0, cells := 0, slots := 0, locals := 0 }
def fX6_isBlind (S : zSt) (a0 : Nat) (v1 : Int32) : Option Int32 :=
  zGd (zIx v1 6) (zBr ((S.1 ((zHs a0) + 5) v1.toNatClampNeg) = (1 : Int32)) (some (1 : Int32)) (zGd (zIx v1 6) (zBr ((S.1 (a0 + 14) v1.toNatClampNeg) < (S.1 (zHs a0) 10)) (some (0 : Int32)) (some (1 : Int32)))))
set_option maxHeartbeats 4000000 in
set_option maxRecDepth 100000 in
theorem mX6_isBlind {l : Launch} {D : va_G} {cy : Nat → ClassId} {q : Nat → Nat} {S : zSt} {a0 : Nat} {v1 : Int32} (ha0 : zLife a0) {z : Int32} (h : fX6_isBlind S a0 v1 = some z) : zMi l yX6_isBlind cX6_isBlind 2 (some .boolean) rmX6_isBlind [.ref (q a0), .int v1] (zPr zsh zNC D cy q S) z := by
  refine Met.ofW (cc := cX6_isBlind) (maxL := 2) (ret := (some .boolean)) (by decide) rfl ?_
  intro p e s m args below meth c s₁ B hml hv
  obtain ⟨rfl, hP, hK⟩ := hv
  have cx : zX RX6 cX6_isBlind 2 p s m ([.ref (q a0), .int v1]).toArray c D cy := ⟨B.exec, B.bytes, hml, findClass_of_methodNamed B.named, fun w hw => atoms_spec (ws := Cond.code yX6_isBlind cX6_isBlind 2 (some .boolean) :: zTB) B.pre w (List.mem_cons_of_mem _ hw), hK⟩
  have hx := cx.1
  have hb := cx.2.1
  have hr := B.returns
  have hlk := B.notSynchronized
  have hl := lv_entry ([.ref (q a0), .int v1]) (n := 2) (Nat.le_of_ble_eq_true rfl)
  rw [lg_entry_eq]
  generalize (lg_sl ([.ref (q a0), .int v1]) ++ List.replicate (2 - (lg_sl ([.ref (q a0), .int v1])).length) Slot.unset).toArray = ls at hl ⊢
  have hl : lv_has ls 2 [(0, .ref (q a0)), (1, .int v1)] := hl
  unfold fX6_isBlind at h
  refine lv_aload_n (pc := 0) hx hb dX6_isBlind_0 rfl (lv_at hl 0 rfl) ?_
  refine zr_getR (pc := 1) (t := (zHs a0)) cx lk_X6_38 hP (nX6_0 ha0) (sX6_0 ha0) rfl dX6_isBlind_1 ?_
  refine zr_getR (pc := 4) (t := ((zHs a0) + 5)) cx lk_X6_63 hP (nX3_0 (zHs_ok ha0)) (sX3_0 (zHs_ok ha0)) rfl dX6_isBlind_4 ?_
  refine lv_iload_n (pc := 7) hx hb dX6_isBlind_7 rfl (lv_at hl 1 rfl) ?_
  obtain ⟨g1, h⟩ := zGd_e h
  refine zr_iald (pc := 8) cx hP (nX3_5 (zHs_ok ha0)) (sX3_5 (zHs_ok ha0)) g1 dX6_isBlind_8 ?_
  refine lv_iconst (pc := 9) hx hb dX6_isBlind_9 zc_1 ?_
  refine lv_icmp_eq (pc := 10) (tgt := 29) hx hb dX6_isBlind_10 (by decide) (fun c2 => ?_) (fun c2 => ?_)
  · replace h := zBr_t c2 h
    refine lv_iconst (pc := 29) hx hb dX6_isBlind_29 zc_1 ?_
    refine lv_goto (pc := 30) (tgt := 34) hx hb dX6_isBlind_30 (by decide) ?_
    have hz := Option.some.inj h
    exact zr_reZ (pc := 34) cx hr hlk hz (by decide) dX6_isBlind_34
  · replace h := zBr_f c2 h
    refine lv_aload_n (pc := 13) hx hb dX6_isBlind_13 rfl (lv_at hl 0 rfl) ?_
    refine zr_getR (pc := 14) (t := (a0 + 14)) cx lk_X6_35 hP (nX6_0 ha0) (sX6_0 ha0) rfl dX6_isBlind_14 ?_
    refine lv_iload_n (pc := 17) hx hb dX6_isBlind_17 rfl (lv_at hl 1 rfl) ?_
    obtain ⟨g3, h⟩ := zGd_e h
    refine zr_iald (pc := 18) cx hP (nX6_14 ha0) (sX6_14 ha0) g3 dX6_isBlind_18 ?_
    refine lv_aload_n (pc := 19) hx hb dX6_isBlind_19 rfl (lv_at hl 0 rfl) ?_
    refine zr_getR (pc := 20) (t := (zHs a0)) cx lk_X6_38 hP (nX6_0 ha0) (sX6_0 ha0) rfl dX6_isBlind_20 ?_
    refine zr_getI (pc := 23) cx lk_X6_66 hP (nX3_0 (zHs_ok ha0)) (sX3_0 (zHs_ok ha0)) rfl dX6_isBlind_23 ?_
    refine lv_icmp_lt (pc := 26) (tgt := 33) hx hb dX6_isBlind_26 (by decide) (fun c4 => ?_) (fun c4 => ?_)
    · replace h := zBr_t c4 h
      refine lv_iconst (pc := 33) hx hb dX6_isBlind_33 zc_0 ?_
      have hz := Option.some.inj h
      exact zr_reZ (pc := 34) cx hr hlk hz (by decide) dX6_isBlind_34
    · replace h := zBr_f c4 h
      refine lv_iconst (pc := 29) hx hb dX6_isBlind_29 zc_1 ?_
      refine lv_goto (pc := 30) (tgt := 34) hx hb dX6_isBlind_30 (by decide) ?_
      have hz := Option.some.inj h
      exact zr_reZ (pc := 34) cx hr hlk hz (by decide) dX6_isBlind_34
-- X6_seenBy
abbrev rmX6_seenBy : Room := { frames := 1, cells := 0, slots := 0, locals := 21 }
def fX6_seenBy (S : zSt) (a0 : Nat) (v1 : Int32) : Option Int32 :=
  zBd (fX6_isBlind S a0 v1) (fun r2 => zBr (r2 = 0) (zGd (zIx v1 6) (zBd (fX3_reach S (zHs a0) (S.1 (a0 + 13) v1.toNatClampNeg)) (fun r6 => some r6))) (some (0 : Int32)))
set_option maxHeartbeats 4000000 in
set_option maxRecDepth 100000 in
theorem mX6_seenBy {l : Launch} {D : va_G} {cy : Nat → ClassId} {q : Nat → Nat} {S : zSt} {a0 : Nat} {v1 : Int32} (ha0 : zLife a0) {z : Int32} (h : fX6_seenBy S a0 v1 = some z) : zMi l yX6_seenBy cX6_seenBy 2 (some .int) rmX6_seenBy [.ref (q a0), .int v1] (zPr zsh zNC D cy q S) z := by
  refine Met.ofW (cc := cX6_seenBy) (maxL := 2) (ret := (some .int)) (by decide) rfl ?_
  intro p e s m args below meth c s₁ B hml hv
  obtain ⟨rfl, hP, hK⟩ := hv
  have cx : zX RX6 cX6_seenBy 2 p s m ([.ref (q a0), .int v1]).toArray c D cy := ⟨B.exec, B.bytes, hml, findClass_of_methodNamed B.named, fun w hw => atoms_spec (ws := Cond.code yX6_seenBy cX6_seenBy 2 (some .int) :: zTB) B.pre w (List.mem_cons_of_mem _ hw), hK⟩
  have hx := cx.1
  have hb := cx.2.1
  have hr := B.returns
  have hlk := B.notSynchronized
  have hl := lv_entry ([.ref (q a0), .int v1]) (n := 2) (Nat.le_of_ble_eq_true rfl)
  rw [lg_entry_eq]
  generalize (lg_sl ([.ref (q a0), .int v1]) ++ List.replicate (2 - (lg_sl ([.ref (q a0), .int v1])).length) Slot.unset).toArray = ls at hl ⊢
  have hl : lv_has ls 2 [(0, .ref (q a0)), (1, .int v1)] := hl
  unfold fX6_seenBy at h
  refine lv_aload_n (pc := 0) hx hb dX6_seenBy_0 rfl (lv_at hl 0 rfl) ?_
  refine lv_iload_n (pc := 1) hx hb dX6_seenBy_1 rfl (lv_at hl 1 rfl) ?_
  obtain ⟨r2, k1, h⟩ := zBd_e h
  refine zr_VI (pc := 2) (rest := []) cx cv_X6_69 (mX6_isBlind ha0 k1) ⟨⟨rfl, rfl⟩, Nat.le_of_ble_eq_true rfl, Nat.le_of_ble_eq_true rfl⟩ ⟨Nat.le_of_ble_eq_true rfl, Nat.le_of_ble_eq_true rfl⟩ hP (nX6_0 ha0) (sX6_0 ha0) rfl hl.1 rfl rfl (Nat.le_of_ble_eq_true rfl) dX6_seenBy_2 ?_
  refine lv_if_eq (pc := 5) (tgt := 12) hx hb dX6_seenBy_5 (by decide) (fun c3 => ?_) (fun c3 => ?_)
  · replace h := zBr_t c3 h
    refine lv_aload_n (pc := 12) hx hb dX6_seenBy_12 rfl (lv_at hl 0 rfl) ?_
    refine zr_getR (pc := 13) (t := (zHs a0)) cx lk_X6_38 hP (nX6_0 ha0) (sX6_0 ha0) rfl dX6_seenBy_13 ?_
    refine lv_aload_n (pc := 16) hx hb dX6_seenBy_16 rfl (lv_at hl 0 rfl) ?_
    refine zr_getR (pc := 17) (t := (a0 + 13)) cx lk_X6_32 hP (nX6_0 ha0) (sX6_0 ha0) rfl dX6_seenBy_17 ?_
    refine lv_iload_n (pc := 20) hx hb dX6_seenBy_20 rfl (lv_at hl 1 rfl) ?_
    obtain ⟨g4, h⟩ := zGd_e h
    refine zr_iald (pc := 21) cx hP (nX6_13 ha0) (sX6_13 ha0) g4 dX6_seenBy_21 ?_
    obtain ⟨r6, k5, h⟩ := zBd_e h
    refine zr_VI (pc := 22) (rest := []) cx cv_X6_73 (mX3_reach (zHs_ok ha0) k5) ⟨⟨rfl, rfl⟩, Nat.le_of_ble_eq_true rfl, Nat.le_of_ble_eq_true rfl⟩ ⟨Nat.le_of_ble_eq_true rfl, Nat.le_of_ble_eq_true rfl⟩ hP (nX3_0 (zHs_ok ha0)) (sX3_0 (zHs_ok ha0)) rfl hl.1 rfl rfl (Nat.le_of_ble_eq_true rfl) dX6_seenBy_22 ?_
    have hz := Option.some.inj h
    exact zr_reI (pc := 25) cx hr hlk hz dX6_seenBy_25
  · replace h := zBr_f c3 h
    refine lv_iconst (pc := 8) hx hb dX6_seenBy_8 zc_0 ?_
    refine lv_goto (pc := 9) (tgt := 25) hx hb dX6_seenBy_9 (by decide) ?_
    have hz := Option.some.inj h
    exact zr_reI (pc := 25) cx hr hlk hz dX6_seenBy_25
-- X6_nextLeafDay
abbrev rmX6_nextLeafDay : Room := { frames := 1, cells := 0, slots := 0, locals := 21 }
def fX6_nextLeafDay (S : zSt) (a0 : Nat) (v1 : Int32) : Option Int32 :=
  zGd (zIx v1 6) (zGd (zIx v1 6) (some ((if (S.1 a0 1) < (S.1 (a0 + 12) v1.toNatClampNeg) then (S.1 (a0 + 12) v1.toNatClampNeg) else (S.1 a0 1)) + (S.1 ((zHs a0) + 4) v1.toNatClampNeg))))
set_option maxHeartbeats 4000000 in
set_option maxRecDepth 100000 in
theorem mX6_nextLeafDay {l : Launch} {D : va_G} {cy : Nat → ClassId} {q : Nat → Nat} {S : zSt} {a0 : Nat} {v1 : Int32} (ha0 : zLife a0) {z : Int32} (h : fX6_nextLeafDay S a0 v1 = some z) : zMi l yX6_nextLeafDay cX6_nextLeafDay 2 (some .int) rmX6_nextLeafDay [.ref (q a0), .int v1] (zPr zsh zNC D cy q S) z := by
  refine Met.ofW (cc := cX6_nextLeafDay) (maxL := 2) (ret := (some .int)) (by decide) rfl ?_
  intro p e s m args below meth c s₁ B hml hv
  obtain ⟨rfl, hP, hK⟩ := hv
  have cx : zX RX6 cX6_nextLeafDay 2 p s m ([.ref (q a0), .int v1]).toArray c D cy := ⟨B.exec, B.bytes, hml, findClass_of_methodNamed B.named, fun w hw => atoms_spec (ws := Cond.code yX6_nextLeafDay cX6_nextLeafDay 2 (some .int) :: zTB) B.pre w (List.mem_cons_of_mem _ hw), hK⟩
  have hx := cx.1
  have hb := cx.2.1
  have hr := B.returns
  have hlk := B.notSynchronized
  have hl := lv_entry ([.ref (q a0), .int v1]) (n := 2) (Nat.le_of_ble_eq_true rfl)
  rw [lg_entry_eq]
  generalize (lg_sl ([.ref (q a0), .int v1]) ++ List.replicate (2 - (lg_sl ([.ref (q a0), .int v1])).length) Slot.unset).toArray = ls at hl ⊢
  have hl : lv_has ls 2 [(0, .ref (q a0)), (1, .int v1)] := hl
  unfold fX6_nextLeafDay at h
  refine lv_aload_n (pc := 0) hx hb dX6_nextLeafDay_0 rfl (lv_at hl 0 rfl) ?_
  refine zr_getI (pc := 1) cx lk_X6_42 hP (nX6_0 ha0) (sX6_0 ha0) rfl dX6_nextLeafDay_1 ?_
  refine lv_aload_n (pc := 4) hx hb dX6_nextLeafDay_4 rfl (lv_at hl 0 rfl) ?_
  refine zr_getR (pc := 5) (t := (a0 + 12)) cx lk_X6_29 hP (nX6_0 ha0) (sX6_0 ha0) rfl dX6_nextLeafDay_5 ?_
  refine lv_iload_n (pc := 8) hx hb dX6_nextLeafDay_8 rfl (lv_at hl 1 rfl) ?_
  obtain ⟨g1, h⟩ := zGd_e h
  refine zr_iald (pc := 9) cx hP (nX6_12 ha0) (sX6_12 ha0) g1 dX6_nextLeafDay_9 ?_
  refine zr_max (pc := 10) cx lb_X6_77 ⟨Nat.le_of_ble_eq_true rfl, Nat.le_of_ble_eq_true rfl, Nat.le_of_ble_eq_true rfl, Nat.le_of_ble_eq_true rfl⟩ hl.1 dX6_nextLeafDay_10 ?_
  refine lv_aload_n (pc := 13) hx hb dX6_nextLeafDay_13 rfl (lv_at hl 0 rfl) ?_
  refine zr_getR (pc := 14) (t := (zHs a0)) cx lk_X6_38 hP (nX6_0 ha0) (sX6_0 ha0) rfl dX6_nextLeafDay_14 ?_
  refine zr_getR (pc := 17) (t := ((zHs a0) + 4)) cx lk_X6_83 hP (nX3_0 (zHs_ok ha0)) (sX3_0 (zHs_ok ha0)) rfl dX6_nextLeafDay_17 ?_
  refine lv_iload_n (pc := 20) hx hb dX6_nextLeafDay_20 rfl (lv_at hl 1 rfl) ?_
  obtain ⟨g2, h⟩ := zGd_e h
  refine zr_iald (pc := 21) cx hP (nX3_4 (zHs_ok ha0)) (sX3_4 (zHs_ok ha0)) g2 dX6_nextLeafDay_21 ?_
  refine lv_iadd (pc := 22) hx hb dX6_nextLeafDay_22 ?_
  have hz := Option.some.inj h
  exact zr_reI (pc := 23) cx hr hlk hz dX6_nextLeafDay_23
-- X6_hasAct
abbrev rmX6_hasAct : Room := { frames := 0, cells := 0, slots := 0, locals := 0 }
def fX6_hasAct (S : zSt) (a0 : Nat) (v1 : Int32) : Option Int32 :=
  zBr (v1 < 0) (some (0 : Int32)) (zBr ((S.1 a0 2) ≤ v1) (some (0 : Int32)) (some (1 : Int32)))
set_option maxHeartbeats 4000000 in
set_option maxRecDepth 100000 in
theorem mX6_hasAct {l : Launch} {D : va_G} {cy : Nat → ClassId} {q : Nat → Nat} {S : zSt} {a0 : Nat} {v1 : Int32} (ha0 : zLife a0) {z : Int32} (h : fX6_hasAct S a0 v1 = some z) : zMi l yX6_hasAct cX6_hasAct 2 (some .boolean) rmX6_hasAct [.ref (q a0), .int v1] (zPr zsh zNC D cy q S) z := by
  refine Met.ofW (cc := cX6_hasAct) (maxL := 2) (ret := (some .boolean)) (by decide) rfl ?_
  intro p e s m args below meth c s₁ B hml hv
  obtain ⟨rfl, hP, hK⟩ := hv
  have cx : zX RX6 cX6_hasAct 2 p s m ([.ref (q a0), .int v1]).toArray c D cy := ⟨B.exec, B.bytes, hml, findClass_of_methodNamed B.named, fun w hw => atoms_spec (ws := Cond.code yX6_hasAct cX6_hasAct 2 (some .boolean) :: zTB) B.pre w (List.mem_cons_of_mem _ hw), hK⟩
  have hx := cx.1
  have hb := cx.2.1
  have hr := B.returns
  have hlk := B.notSynchronized
  have hl := lv_entry ([.ref (q a0), .int v1]) (n := 2) (Nat.le_of_ble_eq_true rfl)
  rw [lg_entry_eq]
  generalize (lg_sl ([.ref (q a0), .int v1]) ++ List.replicate (2 - (lg_sl ([.ref (q a0), .int v1])).length) Slot.unset).toArray = ls at hl ⊢
  have hl : lv_has ls 2 [(0, .ref (q a0)), (1, .int v1)] := hl
  unfold fX6_hasAct at h
  refine lv_iload_n (pc := 0) hx hb dX6_hasAct_0 rfl (lv_at hl 1 rfl) ?_
  refine lv_if_lt (pc := 1) (tgt := 16) hx hb dX6_hasAct_1 (by decide) (fun c1 => ?_) (fun c1 => ?_)
  · replace h := zBr_t c1 h
    refine lv_iconst (pc := 16) hx hb dX6_hasAct_16 zc_0 ?_
    have hz := Option.some.inj h
    exact zr_reZ (pc := 17) cx hr hlk hz (by decide) dX6_hasAct_17
  · replace h := zBr_f c1 h
    refine lv_iload_n (pc := 4) hx hb dX6_hasAct_4 rfl (lv_at hl 1 rfl) ?_
    refine lv_aload_n (pc := 5) hx hb dX6_hasAct_5 rfl (lv_at hl 0 rfl) ?_
    refine zr_getI (pc := 6) cx lk_X6_46 hP (nX6_0 ha0) (sX6_0 ha0) rfl dX6_hasAct_6 ?_
    refine lv_icmp_ge (pc := 9) (tgt := 16) hx hb dX6_hasAct_9 (by decide) (fun c2 => ?_) (fun c2 => ?_)
    · replace h := zBr_t c2 h
      refine lv_iconst (pc := 16) hx hb dX6_hasAct_16 zc_0 ?_
      have hz := Option.some.inj h
      exact zr_reZ (pc := 17) cx hr hlk hz (by decide) dX6_hasAct_17
    · replace h := zBr_f c2 h
      refine lv_iconst (pc := 12) hx hb dX6_hasAct_12 zc_1 ?_
      refine lv_goto (pc := 13) (tgt := 17) hx hb dX6_hasAct_13 (by decide) ?_
      have hz := Option.some.inj h
      exact zr_reZ (pc := 17) cx hr hlk hz (by decide) dX6_hasAct_17
-- X6_daysLeft
abbrev rmX6_daysLeft : Room := { frames := 0, cells := 0, slots := 0, locals := 0 }
def fX6_daysLeft (S : zSt) (a0 : Nat) : Option Int32 :=
  some ((400 : Int32) - (S.1 a0 1))
set_option maxHeartbeats 4000000 in
set_option maxRecDepth 100000 in
theorem mX6_daysLeft {l : Launch} {D : va_G} {cy : Nat → ClassId} {q : Nat → Nat} {S : zSt} {a0 : Nat} (ha0 : zLife a0) {z : Int32} (h : fX6_daysLeft S a0 = some z) : zMi l yX6_daysLeft cX6_daysLeft 1 (some .int) rmX6_daysLeft [.ref (q a0)] (zPr zsh zNC D cy q S) z := by
  refine Met.ofW (cc := cX6_daysLeft) (maxL := 1) (ret := (some .int)) (by decide) rfl ?_
  intro p e s m args below meth c s₁ B hml hv
  obtain ⟨rfl, hP, hK⟩ := hv
  have cx : zX RX6 cX6_daysLeft 1 p s m ([.ref (q a0)]).toArray c D cy := ⟨B.exec, B.bytes, hml, findClass_of_methodNamed B.named, fun w hw => atoms_spec (ws := Cond.code yX6_daysLeft cX6_daysLeft 1 (some .int) :: zTB) B.pre w (List.mem_cons_of_mem _ hw), hK⟩
  have hx := cx.1
  have hb := cx.2.1
  have hr := B.returns
  have hlk := B.notSynchronized
  have hl := lv_entry ([.ref (q a0)]) (n := 1) (Nat.le_of_ble_eq_true rfl)
  rw [lg_entry_eq]
  generalize (lg_sl ([.ref (q a0)]) ++ List.replicate (1 - (lg_sl ([.ref (q a0)])).length) Slot.unset).toArray = ls at hl ⊢
  have hl : lv_has ls 1 [(0, .ref (q a0))] := hl
  unfold fX6_daysLeft at h
  refine lv_sipush (pc := 0) hx hb dX6_daysLeft_0 zs_400 ?_
  refine lv_aload_n (pc := 3) hx hb dX6_daysLeft_3 rfl (lv_at hl 0 rfl) ?_
  refine zr_getI (pc := 4) cx lk_X6_42 hP (nX6_0 ha0) (sX6_0 ha0) rfl dX6_daysLeft_4 ?_
  refine lv_isub (pc := 7) hx hb dX6_daysLeft_7 ?_
  have hz := Option.some.inj h
  exact zr_reI (pc := 8) cx hr hlk hz dX6_daysLeft_8
-- X6_whyNotDo
abbrev rmX6_whyNotDo : Room := { frames := 0, cells := 0, slots := 0, locals := 0 }
def fX6_whyNotDo (S : zSt) (a0 : Nat) : Option Int32 :=
  zBr ((S.1 a0 2) < (12 : Int32)) (some (0 : Int32)) (some (1 : Int32))
set_option maxHeartbeats 4000000 in
set_option maxRecDepth 100000 in
theorem mX6_whyNotDo {l : Launch} {D : va_G} {cy : Nat → ClassId} {q : Nat → Nat} {S : zSt} {a0 : Nat} (ha0 : zLife a0) {z : Int32} (h : fX6_whyNotDo S a0 = some z) : zMi l yX6_whyNotDo cX6_whyNotDo 1 (some .int) rmX6_whyNotDo [.ref (q a0)] (zPr zsh zNC D cy q S) z := by
  refine Met.ofW (cc := cX6_whyNotDo) (maxL := 1) (ret := (some .int)) (by decide) rfl ?_
  intro p e s m args below meth c s₁ B hml hv
  obtain ⟨rfl, hP, hK⟩ := hv
  have cx : zX RX6 cX6_whyNotDo 1 p s m ([.ref (q a0)]).toArray c D cy := ⟨B.exec, B.bytes, hml, findClass_of_methodNamed B.named, fun w hw => atoms_spec (ws := Cond.code yX6_whyNotDo cX6_whyNotDo 1 (some .int) :: zTB) B.pre w (List.mem_cons_of_mem _ hw), hK⟩
  have hx := cx.1
  have hb := cx.2.1
  have hr := B.returns
  have hlk := B.notSynchronized
  have hl := lv_entry ([.ref (q a0)]) (n := 1) (Nat.le_of_ble_eq_true rfl)
  rw [lg_entry_eq]
  generalize (lg_sl ([.ref (q a0)]) ++ List.replicate (1 - (lg_sl ([.ref (q a0)])).length) Slot.unset).toArray = ls at hl ⊢
  have hl : lv_has ls 1 [(0, .ref (q a0))] := hl
  unfold fX6_whyNotDo at h
  refine lv_aload_n (pc := 0) hx hb dX6_whyNotDo_0 rfl (lv_at hl 0 rfl) ?_
  refine zr_getI (pc := 1) cx lk_X6_46 hP (nX6_0 ha0) (sX6_0 ha0) rfl dX6_whyNotDo_1 ?_
  refine lv_bipush (pc := 4) hx hb dX6_whyNotDo_4 zb_12 ?_
  refine lv_icmp_lt (pc := 6) (tgt := 13) hx hb dX6_whyNotDo_6 (by decide) (fun c1 => ?_) (fun c1 => ?_)
  · replace h := zBr_t c1 h
    refine lv_iconst (pc := 13) hx hb dX6_whyNotDo_13 zc_0 ?_
    have hz := Option.some.inj h
    exact zr_reI (pc := 14) cx hr hlk hz dX6_whyNotDo_14
  · replace h := zBr_f c1 h
    refine lv_iconst (pc := 9) hx hb dX6_whyNotDo_9 zc_1 ?_
    refine lv_goto (pc := 10) (tgt := 14) hx hb dX6_whyNotDo_10 (by decide) ?_
    have hz := Option.some.inj h
    exact zr_reI (pc := 14) cx hr hlk hz dX6_whyNotDo_14
-- X6_witnessesBy
abbrev rmX6_witnessesBy : Room := { frames := 1, cells := 0, slots := 0, locals := 20 }
def fX6_witnessesBy_47 (S : zSt) (a0 : Nat) (v1 : Int32) (v2 : Int32) (v3 : Int32) (v4 : Int32) : Option ((Int32 × Int32) ⊕ Int32) :=
  zLt (v4 + (1 : Int32)) (fun x8 => some (.inl (v3, x8)))
set_option maxHeartbeats 4000000 in
set_option maxRecDepth 100000 in
theorem kX6_witnessesBy_47 {p : Program} {l : Launch} {e : Env} {s : State} {m : MethodId} {args : Array Value} {below : List Frame} {meth : Method} {c : Code} {D : va_G} {cy : Nat → ClassId} {q : Nat → Nat} (cx : zX RX6 cX6_witnessesBy 5 p s m args c D cy) (hr : meth.sig.returnType = (some .int)) (hlk : meth.locks = false) {a0 : Nat} (ha0 : zLife a0) {z : Int32} {S : zSt} {v1 : Int32} {v2 : Int32} {v3 : Int32} {v4 : Int32} {C1 : ((Int32 × Int32) ⊕ Int32) → Prop} (hb1 : ∀ (v3 : Int32) (v4 : Int32), C1 (.inl (v3, v4)) → ∀ (ls : Array Slot), lv_has ls 5 [(0, .ref (q a0)), (1, .int v1), (2, .int v2), (3, .int v3), (4, .int v4)] → W p l e rmX6_witnessesBy s m args below meth c s.heap [] 0 0 (MQ below (vp_Si (fun x => x = z)) args s 0 0 (fun _ => False)) (F0 m 5 ls [])) (hx1 : ∀ a, C1 (.inr a) → a = z) (hP : va_P D vwCl (zW zsh zNC cy q S) s.heap) {x : ((Int32 × Int32) ⊕ Int32)} (h : fX6_witnessesBy_47 S a0 v1 v2 v3 v4 = some x) (hc : C1 x) {ls : Array Slot} (hl : lv_has ls 5 [(0, .ref (q a0)), (1, .int v1), (2, .int v2), (3, .int v3), (4, .int v4)]) : W p l e rmX6_witnessesBy s m args below meth c s.heap [] 0 0 (MQ below (vp_Si (fun x => x = z)) args s 0 0 (fun _ => False)) (F0 m 47 ls []) := by
  have hx := cx.1
  have hb := cx.2.1
  unfold fX6_witnessesBy_47 at h
  obtain ⟨x8, ex8, h⟩ := zLt_e h
  refine lv_iinc (v := x8) (lv' := [(4, .int x8), (0, .ref (q a0)), (1, .int v1), (2, .int v2), (3, .int v3)]) (pc := 47) hx hb dX6_witnessesBy_47 hl (k := 4) rfl (by rw [zc_1]; exact ex8.symm) (by decide) rfl (fun ls hl => ?_)
  refine lv_goto (pc := 50) (tgt := 5) hx hb dX6_witnessesBy_50 (by decide) ?_
  cases h
  exact hb1 _ _ hc _ (lv_sub hl [1, 2, 3, 4, 0] rfl)
def fX6_witnessesBy_5 (S : zSt) (a0 : Nat) (v1 : Int32) (v2 : Int32) (t : (Int32 × Int32)) : Option ((Int32 × Int32) ⊕ Int32) :=
  match t with
  | (v3, v4) => zBd (fX6_plants S a0) (fun r2 => zBr (r2 ≤ v4) (zXr (some v3)) (zGd (zIx v4 6) (zGd (zIx v1 12) (zBr ((S.1 (a0 + 6 + v4.toNatClampNeg) v1.toNatClampNeg) = (-1 : Int32)) (fX6_witnessesBy_47 S a0 v1 v2 v3 v4) (zGd (zIx v4 6) (zGd (zIx v1 12) (zBr (v2 < (S.1 (a0 + 6 + v4.toNatClampNeg) v1.toNatClampNeg)) (fX6_witnessesBy_47 S a0 v1 v2 v3 v4) (zLt (v3 ||| ((1 : Int32) <<< (v4 &&& 31))) (fun x12 => fX6_witnessesBy_47 S a0 v1 v2 x12 v4)))))))))
set_option maxHeartbeats 4000000 in
set_option maxRecDepth 100000 in
theorem kX6_witnessesBy_5B {p : Program} {l : Launch} {e : Env} {s : State} {m : MethodId} {args : Array Value} {below : List Frame} {meth : Method} {c : Code} {D : va_G} {cy : Nat → ClassId} {q : Nat → Nat} (cx : zX RX6 cX6_witnessesBy 5 p s m args c D cy) (hr : meth.sig.returnType = (some .int)) (hlk : meth.locks = false) {a0 : Nat} (ha0 : zLife a0) {z : Int32} {S : zSt} {v1 : Int32} {v2 : Int32} {v3 : Int32} {v4 : Int32} {C1 : ((Int32 × Int32) ⊕ Int32) → Prop} (hb1 : ∀ (v3 : Int32) (v4 : Int32), C1 (.inl (v3, v4)) → ∀ (ls : Array Slot), lv_has ls 5 [(0, .ref (q a0)), (1, .int v1), (2, .int v2), (3, .int v3), (4, .int v4)] → W p l e rmX6_witnessesBy s m args below meth c s.heap [] 0 0 (MQ below (vp_Si (fun x => x = z)) args s 0 0 (fun _ => False)) (F0 m 5 ls [])) (hx1 : ∀ a, C1 (.inr a) → a = z) (hP : va_P D vwCl (zW zsh zNC cy q S) s.heap) {x : ((Int32 × Int32) ⊕ Int32)} (h : fX6_witnessesBy_5 S a0 v1 v2 (v3, v4) = some x) (hc : C1 x) {ls : Array Slot} (hl : lv_has ls 5 [(0, .ref (q a0)), (1, .int v1), (2, .int v2), (3, .int v3), (4, .int v4)]) : W p l e rmX6_witnessesBy s m args below meth c s.heap [] 0 0 (MQ below (vp_Si (fun x => x = z)) args s 0 0 (fun _ => False)) (F0 m 5 ls []) := by
  have hx := cx.1
  have hb := cx.2.1
  unfold fX6_witnessesBy_5 at h
  dsimp only at h
  refine lv_iload (pc := 5) hx hb dX6_witnessesBy_5 (lv_at hl 4 rfl) ?_
  refine lv_aload_n (pc := 7) hx hb dX6_witnessesBy_7 rfl (lv_at hl 0 rfl) ?_
  obtain ⟨r2, k1, h⟩ := zBd_e h
  refine zr_VI (pc := 8) (rest := [.int v4]) cx cv_X6_86 (mX6_plants ha0 k1) ⟨⟨rfl, rfl⟩, Nat.le_of_ble_eq_true rfl, Nat.le_of_ble_eq_true rfl⟩ ⟨Nat.le_of_ble_eq_true rfl, Nat.le_of_ble_eq_true rfl⟩ hP (nX6_0 ha0) (sX6_0 ha0) rfl hl.1 rfl rfl (Nat.le_of_ble_eq_true rfl) dX6_witnessesBy_8 ?_
  refine lv_icmp_ge (pc := 11) (tgt := 53) hx hb dX6_witnessesBy_11 (by decide) (fun c3 => ?_) (fun c3 => ?_)
  · replace h := zBr_t c3 h
    obtain ⟨y4, h, ex⟩ := zXr_e h
    have hc := hx1 y4 (by rw [ex] at hc; exact hc)
    rw [hc] at h
    refine lv_iload_n (pc := 53) hx hb dX6_witnessesBy_53 rfl (lv_at hl 3 rfl) ?_
    have hz := Option.some.inj h
    exact zr_reI (pc := 54) cx hr hlk hz dX6_witnessesBy_54
  · replace h := zBr_f c3 h
    refine lv_aload_n (pc := 14) hx hb dX6_witnessesBy_14 rfl (lv_at hl 0 rfl) ?_
    refine zr_getR (pc := 15) (t := (a0 + 5)) cx lk_X6_26 hP (nX6_0 ha0) (sX6_0 ha0) rfl dX6_witnessesBy_15 ?_
    refine lv_iload (pc := 18) hx hb dX6_witnessesBy_18 (lv_at hl 4 rfl) ?_
    obtain ⟨g5, h⟩ := zGd_e h
    refine zr_aald (pc := 20) (g := (a0 + 6 + v4.toNatClampNeg)) cx hP (nX6_5 ha0) (sX6_5 ha0) (Or.inr (Or.inr rfl)) g5 rfl dX6_witnessesBy_20 ?_
    refine lv_iload_n (pc := 21) hx hb dX6_witnessesBy_21 rfl (lv_at hl 1 rfl) ?_
    obtain ⟨g6, h⟩ := zGd_e h
    refine zr_iald (pc := 22) cx hP (nX6_r ha0 g5) (sX6_r ha0 g5) g6 dX6_witnessesBy_22 ?_
    refine lv_iconst (pc := 23) hx hb dX6_witnessesBy_23 zc_m1 ?_
    refine lv_icmp_eq (pc := 24) (tgt := 47) hx hb dX6_witnessesBy_24 (by decide) (fun c7 => ?_) (fun c7 => ?_)
    · replace h := zBr_t c7 h
      exact kX6_witnessesBy_47 cx hr hlk ha0 hb1 hx1 hP h hc (lv_sub hl [0, 1, 2, 3, 4] rfl)
    · replace h := zBr_f c7 h
      refine lv_aload_n (pc := 27) hx hb dX6_witnessesBy_27 rfl (lv_at hl 0 rfl) ?_
      refine zr_getR (pc := 28) (t := (a0 + 5)) cx lk_X6_26 hP (nX6_0 ha0) (sX6_0 ha0) rfl dX6_witnessesBy_28 ?_
      refine lv_iload (pc := 31) hx hb dX6_witnessesBy_31 (lv_at hl 4 rfl) ?_
      obtain ⟨g9, h⟩ := zGd_e h
      refine zr_aald (pc := 33) (g := (a0 + 6 + v4.toNatClampNeg)) cx hP (nX6_5 ha0) (sX6_5 ha0) (Or.inr (Or.inr rfl)) g9 rfl dX6_witnessesBy_33 ?_
      refine lv_iload_n (pc := 34) hx hb dX6_witnessesBy_34 rfl (lv_at hl 1 rfl) ?_
      obtain ⟨g10, h⟩ := zGd_e h
      refine zr_iald (pc := 35) cx hP (nX6_r ha0 g9) (sX6_r ha0 g9) g10 dX6_witnessesBy_35 ?_
      refine lv_iload_n (pc := 36) hx hb dX6_witnessesBy_36 rfl (lv_at hl 2 rfl) ?_
      refine lv_icmp_gt (pc := 37) (tgt := 47) hx hb dX6_witnessesBy_37 (by decide) (fun c11 => ?_) (fun c11 => ?_)
      · replace h := zBr_t c11 h
        exact kX6_witnessesBy_47 cx hr hlk ha0 hb1 hx1 hP h hc (lv_sub hl [0, 1, 2, 3, 4] rfl)
      · replace h := zBr_f c11 h
        refine lv_iload_n (pc := 40) hx hb dX6_witnessesBy_40 rfl (lv_at hl 3 rfl) ?_
        refine lv_iconst (pc := 41) hx hb dX6_witnessesBy_41 zc_1 ?_
        refine lv_iload (pc := 42) hx hb dX6_witnessesBy_42 (lv_at hl 4 rfl) ?_
        refine lv_ishl (pc := 44) hx hb dX6_witnessesBy_44 ?_
        refine lv_ior (pc := 45) hx hb dX6_witnessesBy_45 ?_
        obtain ⟨x12, ex12, h⟩ := zLt_e h
        refine zr_nmI ex12 ?_
        refine lv_istore_n (lv' := [(3, .int x12), (0, .ref (q a0)), (1, .int v1), (2, .int v2), (4, .int v4)]) (pc := 46) hx hb dX6_witnessesBy_46 rfl hl (by decide) rfl (fun ls hl => ?_)
        exact kX6_witnessesBy_47 cx hr hlk ha0 hb1 hx1 hP h hc (lv_sub hl [1, 2, 3, 0, 4] rfl)
set_option maxHeartbeats 4000000 in
set_option maxRecDepth 100000 in
theorem kX6_witnessesBy_5 {p : Program} {l : Launch} {e : Env} {s : State} {m : MethodId} {args : Array Value} {below : List Frame} {meth : Method} {c : Code} {D : va_G} {cy : Nat → ClassId} {q : Nat → Nat} (cx : zX RX6 cX6_witnessesBy 5 p s m args c D cy) (hr : meth.sig.returnType = (some .int)) (hlk : meth.locks = false) {a0 : Nat} (ha0 : zLife a0) {z : Int32} {S : zSt} {v1 : Int32} {v2 : Int32} (hP : va_P D vwCl (zW zsh zNC cy q S) s.heap) : ∀ (n : Nat) (v3 : Int32) (v4 : Int32), zLp (fX6_witnessesBy_5 S a0 v1 v2) n (v3, v4) = some z → ∀ (ls : Array Slot), lv_has ls 5 [(0, .ref (q a0)), (1, .int v1), (2, .int v2), (3, .int v3), (4, .int v4)] → W p l e rmX6_witnessesBy s m args below meth c s.heap [] 0 0 (MQ below (vp_Si (fun x => x = z)) args s 0 0 (fun _ => False)) (F0 m 5 ls []) := by
  intro n
  induction n with
  | zero =>
    intro v3 v4 h
    cases h
  | succ n ih =>
    intro v3 v4 h ls hl
    obtain ⟨x, h, hk⟩ := zLp_e h
    exact kX6_witnessesBy_5B cx hr hlk ha0  (C1 := zKt (fun t => zLp (fX6_witnessesBy_5 S a0 v1 v2) n t = some z) (fun a => a = z)) (fun v3 v4 ht ls hl => ih v3 v4 ht ls hl) (fun a ha => ha) hP h hk hl
def fX6_witnessesBy (S : zSt) (a0 : Nat) (v1 : Int32) (v2 : Int32) : Option Int32 :=
  zLp (fX6_witnessesBy_5 S a0 v1 v2) 2000 ((0 : Int32), (0 : Int32))
set_option maxHeartbeats 4000000 in
set_option maxRecDepth 100000 in
theorem mX6_witnessesBy {l : Launch} {D : va_G} {cy : Nat → ClassId} {q : Nat → Nat} {S : zSt} {a0 : Nat} {v1 : Int32} {v2 : Int32} (ha0 : zLife a0) {z : Int32} (h : fX6_witnessesBy S a0 v1 v2 = some z) : zMi l yX6_witnessesBy cX6_witnessesBy 5 (some .int) rmX6_witnessesBy [.ref (q a0), .int v1, .int v2] (zPr zsh zNC D cy q S) z := by
  refine Met.ofW (cc := cX6_witnessesBy) (maxL := 5) (ret := (some .int)) (by decide) rfl ?_
  intro p e s m args below meth c s₁ B hml hv
  obtain ⟨rfl, hP, hK⟩ := hv
  have cx : zX RX6 cX6_witnessesBy 5 p s m ([.ref (q a0), .int v1, .int v2]).toArray c D cy := ⟨B.exec, B.bytes, hml, findClass_of_methodNamed B.named, fun w hw => atoms_spec (ws := Cond.code yX6_witnessesBy cX6_witnessesBy 5 (some .int) :: zTB) B.pre w (List.mem_cons_of_mem _ hw), hK⟩
  have hx := cx.1
  have hb := cx.2.1
  have hr := B.returns
  have hlk := B.notSynchronized
  have hl := lv_entry ([.ref (q a0), .int v1, .int v2]) (n := 5) (Nat.le_of_ble_eq_true rfl)
  rw [lg_entry_eq]
  generalize (lg_sl ([.ref (q a0), .int v1, .int v2]) ++ List.replicate (5 - (lg_sl ([.ref (q a0), .int v1, .int v2])).length) Slot.unset).toArray = ls at hl ⊢
  have hl : lv_has ls 5 [(0, .ref (q a0)), (1, .int v1), (2, .int v2)] := hl
  unfold fX6_witnessesBy at h
  refine lv_iconst (pc := 0) hx hb dX6_witnessesBy_0 zc_0 ?_
  refine lv_istore_n (lv' := [(3, .int (0 : Int32)), (0, .ref (q a0)), (1, .int v1), (2, .int v2)]) (pc := 1) hx hb dX6_witnessesBy_1 rfl hl (by decide) rfl (fun ls hl => ?_)
  refine lv_iconst (pc := 2) hx hb dX6_witnessesBy_2 zc_0 ?_
  refine lv_istore (lv' := [(4, .int (0 : Int32)), (3, .int (0 : Int32)), (0, .ref (q a0)), (1, .int v1), (2, .int v2)]) (pc := 3) hx hb dX6_witnessesBy_3 hl (by decide) rfl (fun ls hl => ?_)
  exact kX6_witnessesBy_5 cx hr hlk ha0 hP 2000 _ _ h _ (lv_sub hl [2, 3, 4, 1, 0] rfl)
-- X6_doDeed
abbrev rmX6_doDeed : Room := { frames := 2, cells := 0, slots := 0, locals := 42 }
def fX6_doDeed_123 (S : zSt) (a0 : Nat) (v3 : Int32) (v4 : Int32) : Option ((zSt × Int32) ⊕ zSt) :=
  zLt (v4 + (1 : Int32)) (fun x23 => some (.inl (S, x23)))
set_option maxHeartbeats 4000000 in
set_option maxRecDepth 100000 in
theorem kX6_doDeed_123 {p : Program} {l : Launch} {e : Env} {s : State} {m : MethodId} {args : Array Value} {below : List Frame} {meth : Method} {c : Code} {D : va_G} {cy : Nat → ClassId} {q : Nat → Nat} {A : Nat → Prop} (cx : zX RX6 cX6_doDeed 5 p s m args c D cy) (hr : meth.sig.returnType = none) (hlk : meth.locks = false) (hq : zQ A q zNC) {a0 : Nat} (ha0 : zLife a0) {z : zSt} {S : zSt} {v3 : Int32} {v4 : Int32} {C1 : ((zSt × Int32) ⊕ zSt) → Prop} (hb1 : ∀ (S : zSt) (v4 : Int32), C1 (.inl (S, v4)) → ∀ (H : Heap) (locs : List Loc), va_P D vwCl (zW zsh zNC cy q S) H → va_S A s.heap H locs → ∀ (ls : Array Slot), lv_has ls 5 [(0, .ref (q a0)), (3, .int v3), (4, .int v4)] → W p l e rmX6_doDeed s m args below meth c H locs 0 0 (MQ below (va_Qv (fun (u : zSt) => u = z) (fun u t => va_P D vwCl (zW zsh zNC cy q u) t.heap) A) args s 0 0 A) (F0 m 56 ls [])) (hx1 : ∀ a, C1 (.inr a) → a = z) {x : ((zSt × Int32) ⊕ zSt)} (h : fX6_doDeed_123 S a0 v3 v4 = some x) (hc : C1 x) {H : Heap} {locs : List Loc} (hP : va_P D vwCl (zW zsh zNC cy q S) H) (hS : va_S A s.heap H locs) {ls : Array Slot} (hl : lv_has ls 5 [(0, .ref (q a0)), (3, .int v3), (4, .int v4)]) : W p l e rmX6_doDeed s m args below meth c H locs 0 0 (MQ below (va_Qv (fun (u : zSt) => u = z) (fun u t => va_P D vwCl (zW zsh zNC cy q u) t.heap) A) args s 0 0 A) (F0 m 123 ls []) := by
  have hx := cx.1
  have hb := cx.2.1
  unfold fX6_doDeed_123 at h
  obtain ⟨x23, ex23, h⟩ := zLt_e h
  refine lv_iinc (v := x23) (lv' := [(4, .int x23), (0, .ref (q a0)), (3, .int v3)]) (pc := 123) hx hb dX6_doDeed_123 hl (k := 2) rfl (by rw [zc_1]; exact ex23.symm) (by decide) rfl (fun ls hl => ?_)
  refine lv_goto (pc := 126) (tgt := 56) hx hb dX6_doDeed_126 (by decide) ?_
  cases h
  exact hb1 _ _ hc _ _ hP hS _ (lv_sub hl [1, 2, 0] rfl)
def fX6_doDeed_56 (a0 : Nat) (v3 : Int32) (t : (zSt × Int32)) : Option ((zSt × Int32) ⊕ zSt) :=
  match t with
  | (S, v4) => zBd (fX6_plants S a0) (fun r11 => zBr (r11 ≤ v4) (zXr (zLt (zI S a0 2 ((S.1 a0 2) + (1 : Int32))) (fun S14 => some S14))) (zGd (zIx v4 6) (zGd (zIx (S.1 a0 2) 12) (zLt (zI S (a0 + 6 + v4.toNatClampNeg) (S.1 a0 2).toNatClampNeg (-1 : Int32)) (fun S17 => zBd (fX6_seenBy S17 a0 v4) (fun r19 => zBd (fX11_hasBit r19 v3) (fun r21 => zBr (r21 = 0) (fX6_doDeed_123 S17 a0 v3 v4) (zBd (fX6_nextLeafDay S17 a0 v4) (fun r25 => zGd (zIx v4 6) (zLt (zI S17 (a0 + 12) v4.toNatClampNeg r25) (fun S27 => zGd (zIx v4 6) (zGd (zIx v4 6) (zGd (zIx (S27.1 a0 2) 12) (zLt (zI S27 (a0 + 6 + v4.toNatClampNeg) (S27.1 a0 2).toNatClampNeg (S27.1 (a0 + 12) v4.toNatClampNeg)) (fun S31 => fX6_doDeed_123 S31 a0 v3 v4)))))))))))))))
set_option maxHeartbeats 4000000 in
set_option maxRecDepth 100000 in
theorem kX6_doDeed_56B {p : Program} {l : Launch} {e : Env} {s : State} {m : MethodId} {args : Array Value} {below : List Frame} {meth : Method} {c : Code} {D : va_G} {cy : Nat → ClassId} {q : Nat → Nat} {A : Nat → Prop} (cx : zX RX6 cX6_doDeed 5 p s m args c D cy) (hr : meth.sig.returnType = none) (hlk : meth.locks = false) (hq : zQ A q zNC) {a0 : Nat} (ha0 : zLife a0) {z : zSt} {S : zSt} {v3 : Int32} {v4 : Int32} {C1 : ((zSt × Int32) ⊕ zSt) → Prop} (hb1 : ∀ (S : zSt) (v4 : Int32), C1 (.inl (S, v4)) → ∀ (H : Heap) (locs : List Loc), va_P D vwCl (zW zsh zNC cy q S) H → va_S A s.heap H locs → ∀ (ls : Array Slot), lv_has ls 5 [(0, .ref (q a0)), (3, .int v3), (4, .int v4)] → W p l e rmX6_doDeed s m args below meth c H locs 0 0 (MQ below (va_Qv (fun (u : zSt) => u = z) (fun u t => va_P D vwCl (zW zsh zNC cy q u) t.heap) A) args s 0 0 A) (F0 m 56 ls [])) (hx1 : ∀ a, C1 (.inr a) → a = z) {x : ((zSt × Int32) ⊕ zSt)} (h : fX6_doDeed_56 a0 v3 (S, v4) = some x) (hc : C1 x) {H : Heap} {locs : List Loc} (hP : va_P D vwCl (zW zsh zNC cy q S) H) (hS : va_S A s.heap H locs) {ls : Array Slot} (hl : lv_has ls 5 [(0, .ref (q a0)), (3, .int v3), (4, .int v4)]) : W p l e rmX6_doDeed s m args below meth c H locs 0 0 (MQ below (va_Qv (fun (u : zSt) => u = z) (fun u t => va_P D vwCl (zW zsh zNC cy q u) t.heap) A) args s 0 0 A) (F0 m 56 ls []) := by
  have hx := cx.1
  have hb := cx.2.1
  unfold fX6_doDeed_56 at h
  dsimp only at h
  refine lv_iload (pc := 56) hx hb dX6_doDeed_56 (lv_at hl 2 rfl) ?_
  refine lv_aload_n (pc := 58) hx hb dX6_doDeed_58 rfl (lv_at hl 0 rfl) ?_
  obtain ⟨r11, k10, h⟩ := zBd_e h
  refine zr_VI (pc := 59) (rest := [.int v4]) cx cv_X6_86 (mX6_plants ha0 k10) ⟨⟨rfl, rfl⟩, Nat.le_of_ble_eq_true rfl, Nat.le_of_ble_eq_true rfl⟩ ⟨Nat.le_of_ble_eq_true rfl, Nat.le_of_ble_eq_true rfl⟩ hP (nX6_0 ha0) (sX6_0 ha0) rfl hl.1 rfl rfl (Nat.le_of_ble_eq_true rfl) dX6_doDeed_59 ?_
  refine lv_icmp_ge (pc := 62) (tgt := 129) hx hb dX6_doDeed_62 (by decide) (fun c12 => ?_) (fun c12 => ?_)
  · replace h := zBr_t c12 h
    obtain ⟨y13, h, ex⟩ := zXr_e h
    have hc := hx1 y13 (by rw [ex] at hc; exact hc)
    rw [hc] at h
    refine lv_aload_n (pc := 129) hx hb dX6_doDeed_129 rfl (lv_at hl 0 rfl) ?_
    refine lv_dup (pc := 130) hx hb dX6_doDeed_130 rfl ?_
    refine zr_getI (pc := 131) cx lk_X6_46 hP (nX6_0 ha0) (sX6_0 ha0) rfl dX6_doDeed_131 ?_
    refine lv_iconst (pc := 134) hx hb dX6_doDeed_134 zc_1 ?_
    refine lv_iadd (pc := 135) hx hb dX6_doDeed_135 ?_
    obtain ⟨S14, eS14, h⟩ := zLt_e h
    refine zr_putI (pc := 136) cx lq_X6_46 hq hP hS (nX6_0 ha0) (sX6_0 ha0) rfl rfl rfl dX6_doDeed_136 (fun H locs hP hS => ?_)
    rw [← eS14] at hP
    have hz := Option.some.inj h
    exact zr_rqV (pc := 139) cx hr hlk hP hS hz dX6_doDeed_139
  · replace h := zBr_f c12 h
    refine lv_aload_n (pc := 65) hx hb dX6_doDeed_65 rfl (lv_at hl 0 rfl) ?_
    refine zr_getR (pc := 66) (t := (a0 + 5)) cx lk_X6_26 hP (nX6_0 ha0) (sX6_0 ha0) rfl dX6_doDeed_66 ?_
    refine lv_iload (pc := 69) hx hb dX6_doDeed_69 (lv_at hl 2 rfl) ?_
    obtain ⟨g15, h⟩ := zGd_e h
    refine zr_aald (pc := 71) (g := (a0 + 6 + v4.toNatClampNeg)) cx hP (nX6_5 ha0) (sX6_5 ha0) (Or.inr (Or.inr rfl)) g15 rfl dX6_doDeed_71 ?_
    refine lv_aload_n (pc := 72) hx hb dX6_doDeed_72 rfl (lv_at hl 0 rfl) ?_
    refine zr_getI (pc := 73) cx lk_X6_46 hP (nX6_0 ha0) (sX6_0 ha0) rfl dX6_doDeed_73 ?_
    refine lv_iconst (pc := 76) hx hb dX6_doDeed_76 zc_m1 ?_
    obtain ⟨g16, h⟩ := zGd_e h
    obtain ⟨S17, eS17, h⟩ := zLt_e h
    refine zr_iast (pc := 77) cx hq hP hS (nX6_r ha0 g15) (sX6_r ha0 g15) g16 dX6_doDeed_77 (fun H locs hP hS => ?_)
    rw [← eS17] at hP
    refine lv_aload_n (pc := 78) hx hb dX6_doDeed_78 rfl (lv_at hl 0 rfl) ?_
    refine lv_iload (pc := 79) hx hb dX6_doDeed_79 (lv_at hl 2 rfl) ?_
    obtain ⟨r19, k18, h⟩ := zBd_e h
    refine zr_VI (pc := 81) (rest := []) cx cv_X6_90 (mX6_seenBy ha0 k18) ⟨⟨rfl, rfl⟩, Nat.le_of_ble_eq_true rfl, Nat.le_of_ble_eq_true rfl⟩ ⟨Nat.le_of_ble_eq_true rfl, Nat.le_of_ble_eq_true rfl⟩ hP (nX6_0 ha0) (sX6_0 ha0) rfl hl.1 rfl rfl (Nat.le_of_ble_eq_true rfl) dX6_doDeed_81 ?_
    refine lv_iload_n (pc := 84) hx hb dX6_doDeed_84 rfl (lv_at hl 1 rfl) ?_
    obtain ⟨r21, k20, h⟩ := zBd_e h
    refine zr_NI (pc := 85) (rest := []) cx cv_X6_93 (mX11_hasBit k20) ⟨⟨rfl, rfl⟩, Nat.le_of_ble_eq_true rfl, Nat.le_of_ble_eq_true rfl⟩ ⟨Nat.le_of_ble_eq_true rfl, Nat.le_of_ble_eq_true rfl⟩ (zr_preK cx) hl.1 rfl rfl (Nat.le_of_ble_eq_true rfl) dX6_doDeed_85 ?_
    refine lv_if_eq (pc := 88) (tgt := 123) hx hb dX6_doDeed_88 (by decide) (fun c22 => ?_) (fun c22 => ?_)
    · replace h := zBr_t c22 h
      exact kX6_doDeed_123 cx hr hlk hq ha0 hb1 hx1 h hc hP hS (lv_sub hl [0, 1, 2] rfl)
    · replace h := zBr_f c22 h
      refine lv_aload_n (pc := 91) hx hb dX6_doDeed_91 rfl (lv_at hl 0 rfl) ?_
      refine zr_getR (pc := 92) (t := (a0 + 12)) cx lk_X6_29 hP (nX6_0 ha0) (sX6_0 ha0) rfl dX6_doDeed_92 ?_
      refine lv_iload (pc := 95) hx hb dX6_doDeed_95 (lv_at hl 2 rfl) ?_
      refine lv_aload_n (pc := 97) hx hb dX6_doDeed_97 rfl (lv_at hl 0 rfl) ?_
      refine lv_iload (pc := 98) hx hb dX6_doDeed_98 (lv_at hl 2 rfl) ?_
      obtain ⟨r25, k24, h⟩ := zBd_e h
      refine zr_VI (pc := 100) (rest := [.int v4, .ref (q (a0 + 12))]) cx cv_X6_97 (mX6_nextLeafDay ha0 k24) ⟨⟨rfl, rfl⟩, Nat.le_of_ble_eq_true rfl, Nat.le_of_ble_eq_true rfl⟩ ⟨Nat.le_of_ble_eq_true rfl, Nat.le_of_ble_eq_true rfl⟩ hP (nX6_0 ha0) (sX6_0 ha0) rfl hl.1 rfl rfl (Nat.le_of_ble_eq_true rfl) dX6_doDeed_100 ?_
      obtain ⟨g26, h⟩ := zGd_e h
      obtain ⟨S27, eS27, h⟩ := zLt_e h
      refine zr_iast (pc := 103) cx hq hP hS (nX6_12 ha0) (sX6_12 ha0) g26 dX6_doDeed_103 (fun H locs hP hS => ?_)
      rw [← eS27] at hP
      refine lv_aload_n (pc := 104) hx hb dX6_doDeed_104 rfl (lv_at hl 0 rfl) ?_
      refine zr_getR (pc := 105) (t := (a0 + 5)) cx lk_X6_26 hP (nX6_0 ha0) (sX6_0 ha0) rfl dX6_doDeed_105 ?_
      refine lv_iload (pc := 108) hx hb dX6_doDeed_108 (lv_at hl 2 rfl) ?_
      obtain ⟨g28, h⟩ := zGd_e h
      refine zr_aald (pc := 110) (g := (a0 + 6 + v4.toNatClampNeg)) cx hP (nX6_5 ha0) (sX6_5 ha0) (Or.inr (Or.inr rfl)) g28 rfl dX6_doDeed_110 ?_
      refine lv_aload_n (pc := 111) hx hb dX6_doDeed_111 rfl (lv_at hl 0 rfl) ?_
      refine zr_getI (pc := 112) cx lk_X6_46 hP (nX6_0 ha0) (sX6_0 ha0) rfl dX6_doDeed_112 ?_
      refine lv_aload_n (pc := 115) hx hb dX6_doDeed_115 rfl (lv_at hl 0 rfl) ?_
      refine zr_getR (pc := 116) (t := (a0 + 12)) cx lk_X6_29 hP (nX6_0 ha0) (sX6_0 ha0) rfl dX6_doDeed_116 ?_
      refine lv_iload (pc := 119) hx hb dX6_doDeed_119 (lv_at hl 2 rfl) ?_
      obtain ⟨g29, h⟩ := zGd_e h
      refine zr_iald (pc := 121) cx hP (nX6_12 ha0) (sX6_12 ha0) g29 dX6_doDeed_121 ?_
      obtain ⟨g30, h⟩ := zGd_e h
      obtain ⟨S31, eS31, h⟩ := zLt_e h
      refine zr_iast (pc := 122) cx hq hP hS (nX6_r ha0 g28) (sX6_r ha0 g28) g30 dX6_doDeed_122 (fun H locs hP hS => ?_)
      rw [← eS31] at hP
      exact kX6_doDeed_123 cx hr hlk hq ha0 hb1 hx1 h hc hP hS (lv_sub hl [0, 1, 2] rfl)
set_option maxHeartbeats 4000000 in
set_option maxRecDepth 100000 in
theorem kX6_doDeed_56 {p : Program} {l : Launch} {e : Env} {s : State} {m : MethodId} {args : Array Value} {below : List Frame} {meth : Method} {c : Code} {D : va_G} {cy : Nat → ClassId} {q : Nat → Nat} {A : Nat → Prop} (cx : zX RX6 cX6_doDeed 5 p s m args c D cy) (hr : meth.sig.returnType = none) (hlk : meth.locks = false) (hq : zQ A q zNC) {a0 : Nat} (ha0 : zLife a0) {z : zSt} {v3 : Int32} : ∀ (n : Nat) (S : zSt) (v4 : Int32), zLp (fX6_doDeed_56 a0 v3) n (S, v4) = some z → ∀ (H : Heap) (locs : List Loc), va_P D vwCl (zW zsh zNC cy q S) H → va_S A s.heap H locs → ∀ (ls : Array Slot), lv_has ls 5 [(0, .ref (q a0)), (3, .int v3), (4, .int v4)] → W p l e rmX6_doDeed s m args below meth c H locs 0 0 (MQ below (va_Qv (fun (u : zSt) => u = z) (fun u t => va_P D vwCl (zW zsh zNC cy q u) t.heap) A) args s 0 0 A) (F0 m 56 ls []) := by
  intro n
  induction n with
  | zero =>
    intro S v4 h
    cases h
  | succ n ih =>
    intro S v4 h H locs hP hS ls hl
    obtain ⟨x, h, hk⟩ := zLp_e h
    exact kX6_doDeed_56B cx hr hlk hq ha0  (C1 := zKt (fun t => zLp (fX6_doDeed_56 a0 v3) n t = some z) (fun a => a = z)) (fun S v4 ht H locs hP hS ls hl => ih S v4 ht H locs hP hS ls hl) (fun a ha => ha) h hk hP hS hl
def fX6_doDeed (S : zSt) (a0 : Nat) (v1 : Int32) (v2 : Int32) (v3 : Int32) : Option zSt :=
  zBr ((S.1 a0 2) < (12 : Int32)) (zGd (zIx (S.1 a0 2) 12) (zLt (zI S (a0 + 1) (S.1 a0 2).toNatClampNeg v1) (fun S3 => zGd (zIx (S3.1 a0 2) 12) (zLt (zI S3 (a0 + 2) (S3.1 a0 2).toNatClampNeg v2) (fun S5 => zGd (zIx (S5.1 a0 2) 12) (zLt (zI S5 (a0 + 3) (S5.1 a0 2).toNatClampNeg v3) (fun S7 => zGd (zIx (S7.1 a0 2) 12) (zLt (zI S7 (a0 + 4) (S7.1 a0 2).toNatClampNeg (S7.1 a0 1)) (fun S9 => zLp (fX6_doDeed_56 a0 v3) 2000 (S9, (0 : Int32))))))))))) (some S)
set_option maxHeartbeats 4000000 in
set_option maxRecDepth 100000 in
theorem mX6_doDeed {l : Launch} {D : va_G} {cy : Nat → ClassId} {q : Nat → Nat} {A : Nat → Prop} {S : zSt} {a0 : Nat} {v1 : Int32} {v2 : Int32} {v3 : Int32} (hq : zQ A q zNC) (ha0 : zLife a0) {z : zSt} (h : fX6_doDeed S a0 v1 v2 v3 = some z) : zMv l yX6_doDeed cX6_doDeed 5 none rmX6_doDeed [.ref (q a0), .int v1, .int v2, .int v3] zsh zNC D cy q A S z := by
  refine Met.ofW (cc := cX6_doDeed) (maxL := 5) (ret := none) (by decide) rfl ?_
  intro p e s m args below meth c s₁ B hml hv
  obtain ⟨rfl, hP, hK⟩ := hv
  have cx : zX RX6 cX6_doDeed 5 p s m ([.ref (q a0), .int v1, .int v2, .int v3]).toArray c D cy := ⟨B.exec, B.bytes, hml, findClass_of_methodNamed B.named, fun w hw => atoms_spec (ws := Cond.code yX6_doDeed cX6_doDeed 5 none :: zTB) B.pre w (List.mem_cons_of_mem _ hw), hK⟩
  have hx := cx.1
  have hb := cx.2.1
  have hr := B.returns
  have hlk := B.notSynchronized
  have hS : va_S A s.heap s.heap [] := va_S.rf
  have hl := lv_entry ([.ref (q a0), .int v1, .int v2, .int v3]) (n := 5) (Nat.le_of_ble_eq_true rfl)
  rw [lg_entry_eq]
  generalize (lg_sl ([.ref (q a0), .int v1, .int v2, .int v3]) ++ List.replicate (5 - (lg_sl ([.ref (q a0), .int v1, .int v2, .int v3])).length) Slot.unset).toArray = ls at hl ⊢
  have hl : lv_has ls 5 [(0, .ref (q a0)), (1, .int v1), (2, .int v2), (3, .int v3)] := hl
  unfold fX6_doDeed at h
  refine lv_aload_n (pc := 0) hx hb dX6_doDeed_0 rfl (lv_at hl 0 rfl) ?_
  refine zr_getI (pc := 1) cx lk_X6_46 hP (nX6_0 ha0) (sX6_0 ha0) rfl dX6_doDeed_1 ?_
  refine lv_bipush (pc := 4) hx hb dX6_doDeed_4 zb_12 ?_
  refine lv_icmp_lt (pc := 6) (tgt := 10) hx hb dX6_doDeed_6 (by decide) (fun c1 => ?_) (fun c1 => ?_)
  · replace h := zBr_t c1 h
    refine lv_aload_n (pc := 10) hx hb dX6_doDeed_10 rfl (lv_at hl 0 rfl) ?_
    refine zr_getR (pc := 11) (t := (a0 + 1)) cx lk_X6_9 hP (nX6_0 ha0) (sX6_0 ha0) rfl dX6_doDeed_11 ?_
    refine lv_aload_n (pc := 14) hx hb dX6_doDeed_14 rfl (lv_at hl 0 rfl) ?_
    refine zr_getI (pc := 15) cx lk_X6_46 hP (nX6_0 ha0) (sX6_0 ha0) rfl dX6_doDeed_15 ?_
    refine lv_iload_n (pc := 18) hx hb dX6_doDeed_18 rfl (lv_at hl 1 rfl) ?_
    obtain ⟨g2, h⟩ := zGd_e h
    obtain ⟨S3, eS3, h⟩ := zLt_e h
    refine zr_iast (pc := 19) cx hq hP hS (nX6_1 ha0) (sX6_1 ha0) g2 dX6_doDeed_19 (fun H locs hP hS => ?_)
    rw [← eS3] at hP
    refine lv_aload_n (pc := 20) hx hb dX6_doDeed_20 rfl (lv_at hl 0 rfl) ?_
    refine zr_getR (pc := 21) (t := (a0 + 2)) cx lk_X6_15 hP (nX6_0 ha0) (sX6_0 ha0) rfl dX6_doDeed_21 ?_
    refine lv_aload_n (pc := 24) hx hb dX6_doDeed_24 rfl (lv_at hl 0 rfl) ?_
    refine zr_getI (pc := 25) cx lk_X6_46 hP (nX6_0 ha0) (sX6_0 ha0) rfl dX6_doDeed_25 ?_
    refine lv_iload_n (pc := 28) hx hb dX6_doDeed_28 rfl (lv_at hl 2 rfl) ?_
    obtain ⟨g4, h⟩ := zGd_e h
    obtain ⟨S5, eS5, h⟩ := zLt_e h
    refine zr_iast (pc := 29) cx hq hP hS (nX6_2 ha0) (sX6_2 ha0) g4 dX6_doDeed_29 (fun H locs hP hS => ?_)
    rw [← eS5] at hP
    refine lv_aload_n (pc := 30) hx hb dX6_doDeed_30 rfl (lv_at hl 0 rfl) ?_
    refine zr_getR (pc := 31) (t := (a0 + 3)) cx lk_X6_18 hP (nX6_0 ha0) (sX6_0 ha0) rfl dX6_doDeed_31 ?_
    refine lv_aload_n (pc := 34) hx hb dX6_doDeed_34 rfl (lv_at hl 0 rfl) ?_
    refine zr_getI (pc := 35) cx lk_X6_46 hP (nX6_0 ha0) (sX6_0 ha0) rfl dX6_doDeed_35 ?_
    refine lv_iload_n (pc := 38) hx hb dX6_doDeed_38 rfl (lv_at hl 3 rfl) ?_
    obtain ⟨g6, h⟩ := zGd_e h
    obtain ⟨S7, eS7, h⟩ := zLt_e h
    refine zr_iast (pc := 39) cx hq hP hS (nX6_3 ha0) (sX6_3 ha0) g6 dX6_doDeed_39 (fun H locs hP hS => ?_)
    rw [← eS7] at hP
    refine lv_aload_n (pc := 40) hx hb dX6_doDeed_40 rfl (lv_at hl 0 rfl) ?_
    refine zr_getR (pc := 41) (t := (a0 + 4)) cx lk_X6_21 hP (nX6_0 ha0) (sX6_0 ha0) rfl dX6_doDeed_41 ?_
    refine lv_aload_n (pc := 44) hx hb dX6_doDeed_44 rfl (lv_at hl 0 rfl) ?_
    refine zr_getI (pc := 45) cx lk_X6_46 hP (nX6_0 ha0) (sX6_0 ha0) rfl dX6_doDeed_45 ?_
    refine lv_aload_n (pc := 48) hx hb dX6_doDeed_48 rfl (lv_at hl 0 rfl) ?_
    refine zr_getI (pc := 49) cx lk_X6_42 hP (nX6_0 ha0) (sX6_0 ha0) rfl dX6_doDeed_49 ?_
    obtain ⟨g8, h⟩ := zGd_e h
    obtain ⟨S9, eS9, h⟩ := zLt_e h
    refine zr_iast (pc := 52) cx hq hP hS (nX6_4 ha0) (sX6_4 ha0) g8 dX6_doDeed_52 (fun H locs hP hS => ?_)
    rw [← eS9] at hP
    refine lv_iconst (pc := 53) hx hb dX6_doDeed_53 zc_0 ?_
    refine lv_istore (lv' := [(4, .int (0 : Int32)), (0, .ref (q a0)), (1, .int v1), (2, .int v2), (3, .int v3)]) (pc := 54) hx hb dX6_doDeed_54 hl (by decide) rfl (fun ls hl => ?_)
    exact kX6_doDeed_56 cx hr hlk hq ha0 2000 _ _ h _ _ hP hS _ (lv_sub hl [1, 4, 0] rfl)
  · replace h := zBr_f c1 h
    have hz := Option.some.inj h
    exact zr_rqV (pc := 9) cx hr hlk hP hS hz dX6_doDeed_9
