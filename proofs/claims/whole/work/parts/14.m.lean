theorem wd_157 : (Jvm.Cond.fieldLink "ParlourLeaves" (217 : Nat) "ParlourLeaves$House" "sight" "[I") ∈ zTB := List.mem_filter.mpr ⟨List.mem_append_right _ (List.mem_append_left _ (List.mem_of_getElem? (i := 157) rfl)), rfl⟩
theorem wd_169 : (Jvm.Cond.fieldLink "ParlourLeaves$Sentence" (112 : Nat) "ParlourLeaves$House" "fern" "[I") ∈ zTB := List.mem_filter.mpr ⟨List.mem_append_right _ (List.mem_append_left _ (List.mem_of_getElem? (i := 169) rfl)), rfl⟩
theorem wd_183 : (Jvm.Cond.fieldLink "ParlourLeaves$Foresight" (49 : Nat) "ParlourLeaves$House" "proof" "I") ∈ zTB := List.mem_filter.mpr ⟨List.mem_append_right _ (List.mem_append_left _ (List.mem_of_getElem? (i := 183) rfl)), rfl⟩
theorem wd_223 : (Jvm.Cond.fieldLink "ParlourLeaves$Sentence" (108 : Nat) "ParlourLeaves$Life" "house" "LParlourLeaves$House;") ∈ zTB := List.mem_filter.mpr ⟨List.mem_append_right _ (List.mem_append_left _ (List.mem_of_getElem? (i := 223) rfl)), rfl⟩
theorem wd_226 : (Jvm.Cond.fieldLink "ParlourLeaves" (200 : Nat) "ParlourLeaves$Life" "day" "I") ∈ zTB := List.mem_filter.mpr ⟨List.mem_append_right _ (List.mem_append_left _ (List.mem_of_getElem? (i := 226) rfl)), rfl⟩
theorem wd_229 : (Jvm.Cond.fieldLink "ParlourLeaves" (220 : Nat) "ParlourLeaves$Life" "acts" "I") ∈ zTB := List.mem_filter.mpr ⟨List.mem_append_right _ (List.mem_append_left _ (List.mem_of_getElem? (i := 229) rfl)), rfl⟩
theorem wd_239 : (Jvm.Cond.fieldLink "ParlourLeaves$Foresight" (35 : Nat) "ParlourLeaves$Life" "leafDay" "[[I") ∈ zTB := List.mem_filter.mpr ⟨List.mem_append_right _ (List.mem_append_left _ (List.mem_of_getElem? (i := 239) rfl)), rfl⟩
theorem wd_245 : (Jvm.Cond.fieldLink "ParlourLeaves$Sentence" (117 : Nat) "ParlourLeaves$Life" "at" "[I") ∈ zTB := List.mem_filter.mpr ⟨List.mem_append_right _ (List.mem_append_right _ (List.mem_append_left _ (List.mem_of_getElem? (i := 5) rfl))), rfl⟩
theorem wd_249 : (Jvm.Cond.fieldLink "ParlourLeaves$Sentence" (141 : Nat) "ParlourLeaves$Life" "dust" "[I") ∈ zTB := List.mem_filter.mpr ⟨List.mem_append_right _ (List.mem_append_right _ (List.mem_append_left _ (List.mem_of_getElem? (i := 9) rfl))), rfl⟩
theorem wd_312 : (Jvm.Cond.fieldLink "ParlourLeaves$Sentence" (21 : Nat) "ParlourLeaves$Sentence" "open" "[I") ∈ zTB := List.mem_filter.mpr ⟨List.mem_append_right _ (List.mem_append_right _ (List.mem_append_left _ (List.mem_of_getElem? (i := 72) rfl))), rfl⟩
theorem wd_315 : (Jvm.Cond.fieldLink "ParlourLeaves" (384 : Nat) "ParlourLeaves$Sentence" "ones" "I") ∈ zTB := List.mem_filter.mpr ⟨List.mem_append_right _ (List.mem_append_right _ (List.mem_append_left _ (List.mem_of_getElem? (i := 75) rfl))), rfl⟩
theorem wd_330 : (Jvm.Cond.fieldLink "ParlourLeaves" (400 : Nat) "ParlourLeaves$Image" "house" "LParlourLeaves$House;") ∈ zTB := List.mem_filter.mpr ⟨List.mem_append_right _ (List.mem_append_right _ (List.mem_append_left _ (List.mem_of_getElem? (i := 90) rfl))), rfl⟩
theorem wd_332 : (Jvm.Cond.fieldLink "ParlourLeaves" (401 : Nat) "ParlourLeaves$Image" "life" "LParlourLeaves$Life;") ∈ zTB := List.mem_filter.mpr ⟨List.mem_append_right _ (List.mem_append_right _ (List.mem_append_left _ (List.mem_of_getElem? (i := 92) rfl))), rfl⟩
theorem wd_334 : (Jvm.Cond.fieldLink "ParlourLeaves" (402 : Nat) "ParlourLeaves$Image" "sentence" "LParlourLeaves$Sentence;") ∈ zTB := List.mem_filter.mpr ⟨List.mem_append_right _ (List.mem_append_right _ (List.mem_append_left _ (List.mem_of_getElem? (i := 94) rfl))), rfl⟩
theorem wd_336 : (Jvm.Cond.fieldLink "ParlourLeaves" (396 : Nat) "ParlourLeaves$Image" "kept" "Z") ∈ zTB := List.mem_filter.mpr ⟨List.mem_append_right _ (List.mem_append_right _ (List.mem_append_left _ (List.mem_of_getElem? (i := 96) rfl))), rfl⟩
theorem wd_386 : (Jvm.Cond.fieldLink "ParlourLeaves" (371 : Nat) "ParlourLeaves$BookText" "dayThen" "I") ∈ zTB := List.mem_filter.mpr ⟨List.mem_append_right _ (List.mem_append_right _ (List.mem_append_left _ (List.mem_of_getElem? (i := 146) rfl))), rfl⟩
theorem wd_388 : (Jvm.Cond.fieldLink "ParlourLeaves" (374 : Nat) "ParlourLeaves$BookText" "provedThen" "I") ∈ zTB := List.mem_filter.mpr ⟨List.mem_append_right _ (List.mem_append_right _ (List.mem_append_left _ (List.mem_of_getElem? (i := 148) rfl))), rfl⟩
theorem wd_449 : (Jvm.Cond.fieldLink "ParlourLeaves" (309 : Nat) "ParlourLeaves$Way" "steps" "[I") ∈ zTB := List.mem_filter.mpr ⟨List.mem_append_right _ (List.mem_append_right _ (List.mem_append_left _ (List.mem_of_getElem? (i := 209) rfl))), rfl⟩
theorem wd_451 : (Jvm.Cond.fieldLink "ParlourLeaves" (308 : Nat) "ParlourLeaves$Way" "length" "I") ∈ zTB := List.mem_filter.mpr ⟨List.mem_append_right _ (List.mem_append_right _ (List.mem_append_left _ (List.mem_of_getElem? (i := 211) rfl))), rfl⟩
theorem wd_515 : (Jvm.Cond.fieldLink "ParlourLeaves" (89 : Nat) "ParlourLeaves" "way" "LParlourLeaves$Way;") ∈ zTB := List.mem_filter.mpr ⟨List.mem_append_right _ (List.mem_append_right _ (List.mem_append_right _ (List.mem_append_left _ (List.mem_of_getElem? (i := 35) rfl)))), rfl⟩
theorem wd_672 : (Jvm.Cond.methodLink "ParlourLeaves" (134 : Nat) ({ cls := "ParlourLeaves$House", name := "copyFrom", desc := "(LParlourLeaves$House;)V" } : Jvm.MethodName)) ∈ zTB := List.mem_filter.mpr ⟨List.mem_append_right _ (List.mem_append_right _ (List.mem_append_right _ (List.mem_append_left _ (List.mem_of_getElem? (i := 192) rfl)))), rfl⟩
theorem wd_683 : (Jvm.Cond.methodLink "ParlourLeaves" (140 : Nat) ({ cls := "ParlourLeaves$Past", name := "forget", desc := "()V" } : Jvm.MethodName)) ∈ zTB := List.mem_filter.mpr ⟨List.mem_append_right _ (List.mem_append_right _ (List.mem_append_right _ (List.mem_append_left _ (List.mem_of_getElem? (i := 203) rfl)))), rfl⟩
theorem wd_684 : (Jvm.Cond.instanceMethod ({ cls := "ParlourLeaves$Past", name := "forget", desc := "()V" } : Jvm.MethodName)) ∈ zTB := List.mem_filter.mpr ⟨List.mem_append_right _ (List.mem_append_right _ (List.mem_append_right _ (List.mem_append_left _ (List.mem_of_getElem? (i := 204) rfl)))), rfl⟩
theorem wd_685 : (Jvm.Cond.selects "ParlourLeaves$Past" ({ cls := "ParlourLeaves$Past", name := "forget", desc := "()V" } : Jvm.MethodName) ({ cls := "ParlourLeaves$Past", name := "forget", desc := "()V" } : Jvm.MethodName)) ∈ zTB := List.mem_filter.mpr ⟨List.mem_append_right _ (List.mem_append_right _ (List.mem_append_right _ (List.mem_append_left _ (List.mem_of_getElem? (i := 205) rfl)))), rfl⟩
theorem wd_686 : (Jvm.Cond.code ({ cls := "ParlourLeaves$Past", name := "forget", desc := "()V" } : Jvm.MethodName) prog_9_method_2_code (1 : Nat) (Option.none : Option Jvm.ClassFile.FieldType)) ∈ zTB := List.mem_filter.mpr ⟨List.mem_append_right _ (List.mem_append_right _ (List.mem_append_right _ (List.mem_append_left _ (List.mem_of_getElem? (i := 206) rfl)))), rfl⟩
theorem wd_737 : (Jvm.Cond.methodLink "ParlourLeaves" (226 : Nat) ({ cls := "ParlourLeaves$Life", name := "plantsThatSee", desc := "()I" } : Jvm.MethodName)) ∈ zTB := List.mem_filter.mpr ⟨List.mem_append_right _ (List.mem_append_right _ (List.mem_append_right _ (List.mem_append_right _ (List.mem_append_left _ (List.mem_of_getElem? (i := 17) rfl))))), rfl⟩
theorem wd_738 : (Jvm.Cond.instanceMethod ({ cls := "ParlourLeaves$Life", name := "plantsThatSee", desc := "()I" } : Jvm.MethodName)) ∈ zTB := List.mem_filter.mpr ⟨List.mem_append_right _ (List.mem_append_right _ (List.mem_append_right _ (List.mem_append_right _ (List.mem_append_left _ (List.mem_of_getElem? (i := 18) rfl))))), rfl⟩
theorem wd_739 : (Jvm.Cond.selects "ParlourLeaves$Life" ({ cls := "ParlourLeaves$Life", name := "plantsThatSee", desc := "()I" } : Jvm.MethodName) ({ cls := "ParlourLeaves$Life", name := "plantsThatSee", desc := "()I" } : Jvm.MethodName)) ∈ zTB := List.mem_filter.mpr ⟨List.mem_append_right _ (List.mem_append_right _ (List.mem_append_right _ (List.mem_append_right _ (List.mem_append_left _ (List.mem_of_getElem? (i := 19) rfl))))), rfl⟩
theorem wd_740 : (Jvm.Cond.code ({ cls := "ParlourLeaves$Life", name := "plantsThatSee", desc := "()I" } : Jvm.MethodName) prog_8_method_25_code (3 : Nat) (Option.some Jvm.ClassFile.FieldType.int)) ∈ zTB := List.mem_filter.mpr ⟨List.mem_append_right _ (List.mem_append_right _ (List.mem_append_right _ (List.mem_append_right _ (List.mem_append_left _ (List.mem_of_getElem? (i := 20) rfl))))), rfl⟩
theorem wd_745 : (Jvm.Cond.methodLink "ParlourLeaves" (229 : Nat) ({ cls := "ParlourLeaves$Life", name := "plantsWithDust", desc := "()I" } : Jvm.MethodName)) ∈ zTB := List.mem_filter.mpr ⟨List.mem_append_right _ (List.mem_append_right _ (List.mem_append_right _ (List.mem_append_right _ (List.mem_append_left _ (List.mem_of_getElem? (i := 25) rfl))))), rfl⟩
theorem wd_746 : (Jvm.Cond.instanceMethod ({ cls := "ParlourLeaves$Life", name := "plantsWithDust", desc := "()I" } : Jvm.MethodName)) ∈ zTB := List.mem_filter.mpr ⟨List.mem_append_right _ (List.mem_append_right _ (List.mem_append_right _ (List.mem_append_right _ (List.mem_append_left _ (List.mem_of_getElem? (i := 26) rfl))))), rfl⟩
theorem wd_747 : (Jvm.Cond.selects "ParlourLeaves$Life" ({ cls := "ParlourLeaves$Life", name := "plantsWithDust", desc := "()I" } : Jvm.MethodName) ({ cls := "ParlourLeaves$Life", name := "plantsWithDust", desc := "()I" } : Jvm.MethodName)) ∈ zTB := List.mem_filter.mpr ⟨List.mem_append_right _ (List.mem_append_right _ (List.mem_append_right _ (List.mem_append_right _ (List.mem_append_left _ (List.mem_of_getElem? (i := 27) rfl))))), rfl⟩
theorem wd_748 : (Jvm.Cond.code ({ cls := "ParlourLeaves$Life", name := "plantsWithDust", desc := "()I" } : Jvm.MethodName) prog_8_method_26_code (3 : Nat) (Option.some Jvm.ClassFile.FieldType.int)) ∈ zTB := List.mem_filter.mpr ⟨List.mem_append_right _ (List.mem_append_right _ (List.mem_append_right _ (List.mem_append_right _ (List.mem_append_left _ (List.mem_of_getElem? (i := 28) rfl))))), rfl⟩
theorem wd_749 : (Jvm.Cond.methodLink "ParlourLeaves" (232 : Nat) ({ cls := "ParlourLeaves$Life", name := "allLeavesCome", desc := "()I" } : Jvm.MethodName)) ∈ zTB := List.mem_filter.mpr ⟨List.mem_append_right _ (List.mem_append_right _ (List.mem_append_right _ (List.mem_append_right _ (List.mem_append_left _ (List.mem_of_getElem? (i := 29) rfl))))), rfl⟩
theorem wd_750 : (Jvm.Cond.instanceMethod ({ cls := "ParlourLeaves$Life", name := "allLeavesCome", desc := "()I" } : Jvm.MethodName)) ∈ zTB := List.mem_filter.mpr ⟨List.mem_append_right _ (List.mem_append_right _ (List.mem_append_right _ (List.mem_append_right _ (List.mem_append_left _ (List.mem_of_getElem? (i := 30) rfl))))), rfl⟩
theorem wd_751 : (Jvm.Cond.selects "ParlourLeaves$Life" ({ cls := "ParlourLeaves$Life", name := "allLeavesCome", desc := "()I" } : Jvm.MethodName) ({ cls := "ParlourLeaves$Life", name := "allLeavesCome", desc := "()I" } : Jvm.MethodName)) ∈ zTB := List.mem_filter.mpr ⟨List.mem_append_right _ (List.mem_append_right _ (List.mem_append_right _ (List.mem_append_right _ (List.mem_append_left _ (List.mem_of_getElem? (i := 31) rfl))))), rfl⟩
theorem wd_752 : (Jvm.Cond.code ({ cls := "ParlourLeaves$Life", name := "allLeavesCome", desc := "()I" } : Jvm.MethodName) prog_8_method_29_code (3 : Nat) (Option.some Jvm.ClassFile.FieldType.int)) ∈ zTB := List.mem_filter.mpr ⟨List.mem_append_right _ (List.mem_append_right _ (List.mem_append_right _ (List.mem_append_right _ (List.mem_append_left _ (List.mem_of_getElem? (i := 32) rfl))))), rfl⟩
theorem wd_757 : (Jvm.Cond.methodLink "ParlourLeaves" (235 : Nat) ({ cls := "ParlourLeaves$Life", name := "allLeavesDue", desc := "()I" } : Jvm.MethodName)) ∈ zTB := List.mem_filter.mpr ⟨List.mem_append_right _ (List.mem_append_right _ (List.mem_append_right _ (List.mem_append_right _ (List.mem_append_left _ (List.mem_of_getElem? (i := 37) rfl))))), rfl⟩
theorem wd_758 : (Jvm.Cond.instanceMethod ({ cls := "ParlourLeaves$Life", name := "allLeavesDue", desc := "()I" } : Jvm.MethodName)) ∈ zTB := List.mem_filter.mpr ⟨List.mem_append_right _ (List.mem_append_right _ (List.mem_append_right _ (List.mem_append_right _ (List.mem_append_left _ (List.mem_of_getElem? (i := 38) rfl))))), rfl⟩
theorem wd_759 : (Jvm.Cond.selects "ParlourLeaves$Life" ({ cls := "ParlourLeaves$Life", name := "allLeavesDue", desc := "()I" } : Jvm.MethodName) ({ cls := "ParlourLeaves$Life", name := "allLeavesDue", desc := "()I" } : Jvm.MethodName)) ∈ zTB := List.mem_filter.mpr ⟨List.mem_append_right _ (List.mem_append_right _ (List.mem_append_right _ (List.mem_append_right _ (List.mem_append_left _ (List.mem_of_getElem? (i := 39) rfl))))), rfl⟩
theorem wd_760 : (Jvm.Cond.code ({ cls := "ParlourLeaves$Life", name := "allLeavesDue", desc := "()I" } : Jvm.MethodName) prog_8_method_30_code (3 : Nat) (Option.some Jvm.ClassFile.FieldType.int)) ∈ zTB := List.mem_filter.mpr ⟨List.mem_append_right _ (List.mem_append_right _ (List.mem_append_right _ (List.mem_append_right _ (List.mem_append_left _ (List.mem_of_getElem? (i := 40) rfl))))), rfl⟩
theorem wd_765 : (Jvm.Cond.methodLink "ParlourLeaves" (238 : Nat) ({ cls := "ParlourLeaves$Life", name := "parloursUnseen", desc := "()I" } : Jvm.MethodName)) ∈ zTB := List.mem_filter.mpr ⟨List.mem_append_right _ (List.mem_append_right _ (List.mem_append_right _ (List.mem_append_right _ (List.mem_append_left _ (List.mem_of_getElem? (i := 45) rfl))))), rfl⟩
theorem wd_766 : (Jvm.Cond.instanceMethod ({ cls := "ParlourLeaves$Life", name := "parloursUnseen", desc := "()I" } : Jvm.MethodName)) ∈ zTB := List.mem_filter.mpr ⟨List.mem_append_right _ (List.mem_append_right _ (List.mem_append_right _ (List.mem_append_right _ (List.mem_append_left _ (List.mem_of_getElem? (i := 46) rfl))))), rfl⟩
theorem wd_767 : (Jvm.Cond.selects "ParlourLeaves$Life" ({ cls := "ParlourLeaves$Life", name := "parloursUnseen", desc := "()I" } : Jvm.MethodName) ({ cls := "ParlourLeaves$Life", name := "parloursUnseen", desc := "()I" } : Jvm.MethodName)) ∈ zTB := List.mem_filter.mpr ⟨List.mem_append_right _ (List.mem_append_right _ (List.mem_append_right _ (List.mem_append_right _ (List.mem_append_left _ (List.mem_of_getElem? (i := 47) rfl))))), rfl⟩
theorem wd_768 : (Jvm.Cond.code ({ cls := "ParlourLeaves$Life", name := "parloursUnseen", desc := "()I" } : Jvm.MethodName) prog_8_method_28_code (3 : Nat) (Option.some Jvm.ClassFile.FieldType.int)) ∈ zTB := List.mem_filter.mpr ⟨List.mem_append_right _ (List.mem_append_right _ (List.mem_append_right _ (List.mem_append_right _ (List.mem_append_left _ (List.mem_of_getElem? (i := 48) rfl))))), rfl⟩
theorem wd_814 : (Jvm.Cond.methodLink "ParlourLeaves" (252 : Nat) ({ cls := "ParlourLeaves$Life", name := "whyNotSponge", desc := "(I)I" } : Jvm.MethodName)) ∈ zTB := List.mem_filter.mpr ⟨List.mem_append_right _ (List.mem_append_right _ (List.mem_append_right _ (List.mem_append_right _ (List.mem_append_left _ (List.mem_of_getElem? (i := 94) rfl))))), rfl⟩
theorem wd_818 : (Jvm.Cond.methodLink "ParlourLeaves" (255 : Nat) ({ cls := "ParlourLeaves$Life", name := "spongeOff", desc := "(I)V" } : Jvm.MethodName)) ∈ zTB := List.mem_filter.mpr ⟨List.mem_append_right _ (List.mem_append_right _ (List.mem_append_right _ (List.mem_append_right _ (List.mem_append_left _ (List.mem_of_getElem? (i := 98) rfl))))), rfl⟩
theorem wd_872 : (Jvm.Cond.methodLink "ParlourLeaves" (281 : Nat) ({ cls := "ParlourLeaves$Foresight", name := "dayOfProof", desc := "(I)I" } : Jvm.MethodName)) ∈ zTB := List.mem_filter.mpr ⟨List.mem_append_right _ (List.mem_append_right _ (List.mem_append_right _ (List.mem_append_right _ (List.mem_append_left _ (List.mem_of_getElem? (i := 152) rfl))))), rfl⟩
theorem wd_873 : (Jvm.Cond.instanceMethod ({ cls := "ParlourLeaves$Foresight", name := "dayOfProof", desc := "(I)I" } : Jvm.MethodName)) ∈ zTB := List.mem_filter.mpr ⟨List.mem_append_right _ (List.mem_append_right _ (List.mem_append_right _ (List.mem_append_right _ (List.mem_append_left _ (List.mem_of_getElem? (i := 153) rfl))))), rfl⟩
theorem wd_874 : (Jvm.Cond.selects "ParlourLeaves$Foresight" ({ cls := "ParlourLeaves$Foresight", name := "dayOfProof", desc := "(I)I" } : Jvm.MethodName) ({ cls := "ParlourLeaves$Foresight", name := "dayOfProof", desc := "(I)I" } : Jvm.MethodName)) ∈ zTB := List.mem_filter.mpr ⟨List.mem_append_right _ (List.mem_append_right _ (List.mem_append_right _ (List.mem_append_right _ (List.mem_append_left _ (List.mem_of_getElem? (i := 154) rfl))))), rfl⟩
theorem wd_875 : (Jvm.Cond.code ({ cls := "ParlourLeaves$Foresight", name := "dayOfProof", desc := "(I)I" } : Jvm.MethodName) prog_4_method_2_code (6 : Nat) (Option.some Jvm.ClassFile.FieldType.int)) ∈ zTB := List.mem_filter.mpr ⟨List.mem_append_right _ (List.mem_append_right _ (List.mem_append_right _ (List.mem_append_right _ (List.mem_append_left _ (List.mem_of_getElem? (i := 155) rfl))))), rfl⟩
theorem wd_877 : (Jvm.Cond.methodLink "ParlourLeaves$Foresight" (39 : Nat) ({ cls := "ParlourLeaves$Life", name := "witnessesBy", desc := "(II)I" } : Jvm.MethodName)) ∈ zTB := List.mem_filter.mpr ⟨List.mem_append_right _ (List.mem_append_right _ (List.mem_append_right _ (List.mem_append_right _ (List.mem_append_left _ (List.mem_of_getElem? (i := 157) rfl))))), rfl⟩
theorem wd_943 : (Jvm.Cond.methodLink "ParlourLeaves" (301 : Nat) ({ cls := "ParlourLeaves$Life", name := "parloursWithDust", desc := "()I" } : Jvm.MethodName)) ∈ zTB := List.mem_filter.mpr ⟨List.mem_append_right _ (List.mem_append_right _ (List.mem_append_right _ (List.mem_append_right _ (List.mem_append_left _ (List.mem_of_getElem? (i := 223) rfl))))), rfl⟩
theorem wd_944 : (Jvm.Cond.instanceMethod ({ cls := "ParlourLeaves$Life", name := "parloursWithDust", desc := "()I" } : Jvm.MethodName)) ∈ zTB := List.mem_filter.mpr ⟨List.mem_append_right _ (List.mem_append_right _ (List.mem_append_right _ (List.mem_append_right _ (List.mem_append_left _ (List.mem_of_getElem? (i := 224) rfl))))), rfl⟩
theorem wd_945 : (Jvm.Cond.selects "ParlourLeaves$Life" ({ cls := "ParlourLeaves$Life", name := "parloursWithDust", desc := "()I" } : Jvm.MethodName) ({ cls := "ParlourLeaves$Life", name := "parloursWithDust", desc := "()I" } : Jvm.MethodName)) ∈ zTB := List.mem_filter.mpr ⟨List.mem_append_right _ (List.mem_append_right _ (List.mem_append_right _ (List.mem_append_right _ (List.mem_append_left _ (List.mem_of_getElem? (i := 225) rfl))))), rfl⟩
theorem wd_946 : (Jvm.Cond.code ({ cls := "ParlourLeaves$Life", name := "parloursWithDust", desc := "()I" } : Jvm.MethodName) prog_8_method_27_code (3 : Nat) (Option.some Jvm.ClassFile.FieldType.int)) ∈ zTB := List.mem_filter.mpr ⟨List.mem_append_right _ (List.mem_append_right _ (List.mem_append_right _ (List.mem_append_right _ (List.mem_append_left _ (List.mem_of_getElem? (i := 226) rfl))))), rfl⟩
theorem wd_947 : (Jvm.Cond.methodLink "ParlourLeaves" (304 : Nat) ({ cls := "ParlourLeaves$Way", name := "find", desc := "(LParlourLeaves$House;II)I" } : Jvm.MethodName)) ∈ zTB := List.mem_filter.mpr ⟨List.mem_append_right _ (List.mem_append_right _ (List.mem_append_right _ (List.mem_append_right _ (List.mem_append_left _ (List.mem_of_getElem? (i := 227) rfl))))), rfl⟩
theorem wd_948 : (Jvm.Cond.instanceMethod ({ cls := "ParlourLeaves$Way", name := "find", desc := "(LParlourLeaves$House;II)I" } : Jvm.MethodName)) ∈ zTB := List.mem_filter.mpr ⟨List.mem_append_right _ (List.mem_append_right _ (List.mem_append_right _ (List.mem_append_right _ (List.mem_append_left _ (List.mem_of_getElem? (i := 228) rfl))))), rfl⟩
theorem wd_949 : (Jvm.Cond.selects "ParlourLeaves$Way" ({ cls := "ParlourLeaves$Way", name := "find", desc := "(LParlourLeaves$House;II)I" } : Jvm.MethodName) ({ cls := "ParlourLeaves$Way", name := "find", desc := "(LParlourLeaves$House;II)I" } : Jvm.MethodName)) ∈ zTB := List.mem_filter.mpr ⟨List.mem_append_right _ (List.mem_append_right _ (List.mem_append_right _ (List.mem_append_right _ (List.mem_append_left _ (List.mem_of_getElem? (i := 229) rfl))))), rfl⟩
theorem wd_950 : (Jvm.Cond.code ({ cls := "ParlourLeaves$Way", name := "find", desc := "(LParlourLeaves$House;II)I" } : Jvm.MethodName) prog_12_method_2_code (11 : Nat) (Option.some Jvm.ClassFile.FieldType.int)) ∈ zTB := List.mem_filter.mpr ⟨List.mem_append_right _ (List.mem_append_right _ (List.mem_append_right _ (List.mem_append_right _ (List.mem_append_left _ (List.mem_of_getElem? (i := 230) rfl))))), rfl⟩
theorem wd_1320 : (Jvm.Cond.methodLink "ParlourLeaves" (381 : Nat) ({ cls := "ParlourLeaves$Sentence", name := "copyFrom", desc := "(LParlourLeaves$Sentence;)V" } : Jvm.MethodName)) ∈ zTB := List.mem_filter.mpr ⟨List.mem_append_right _ (List.mem_append_right _ (List.mem_append_right _ (List.mem_append_right _ (List.mem_append_right _ (List.mem_append_right _ (List.mem_append_left _ (List.mem_of_getElem? (i := 120) rfl))))))), rfl⟩
theorem wd_1329 : (Jvm.Cond.methodLink "ParlourLeaves" (387 : Nat) ({ cls := "ParlourLeaves$Sentence", name := "plantsOf", desc := "(LParlourLeaves$Life;)I" } : Jvm.MethodName)) ∈ zTB := List.mem_filter.mpr ⟨List.mem_append_right _ (List.mem_append_right _ (List.mem_append_right _ (List.mem_append_right _ (List.mem_append_right _ (List.mem_append_right _ (List.mem_append_left _ (List.mem_of_getElem? (i := 129) rfl))))))), rfl⟩
theorem wd_1330 : (Jvm.Cond.instanceMethod ({ cls := "ParlourLeaves$Sentence", name := "plantsOf", desc := "(LParlourLeaves$Life;)I" } : Jvm.MethodName)) ∈ zTB := List.mem_filter.mpr ⟨List.mem_append_right _ (List.mem_append_right _ (List.mem_append_right _ (List.mem_append_right _ (List.mem_append_right _ (List.mem_append_right _ (List.mem_append_left _ (List.mem_of_getElem? (i := 130) rfl))))))), rfl⟩
theorem wd_1331 : (Jvm.Cond.selects "ParlourLeaves$Sentence" ({ cls := "ParlourLeaves$Sentence", name := "plantsOf", desc := "(LParlourLeaves$Life;)I" } : Jvm.MethodName) ({ cls := "ParlourLeaves$Sentence", name := "plantsOf", desc := "(LParlourLeaves$Life;)I" } : Jvm.MethodName)) ∈ zTB := List.mem_filter.mpr ⟨List.mem_append_right _ (List.mem_append_right _ (List.mem_append_right _ (List.mem_append_right _ (List.mem_append_right _ (List.mem_append_right _ (List.mem_append_left _ (List.mem_of_getElem? (i := 131) rfl))))))), rfl⟩
theorem wd_1332 : (Jvm.Cond.code ({ cls := "ParlourLeaves$Sentence", name := "plantsOf", desc := "(LParlourLeaves$Life;)I" } : Jvm.MethodName) prog_10_method_10_code (6 : Nat) (Option.some Jvm.ClassFile.FieldType.int)) ∈ zTB := List.mem_filter.mpr ⟨List.mem_append_right _ (List.mem_append_right _ (List.mem_append_right _ (List.mem_append_right _ (List.mem_append_right _ (List.mem_append_right _ (List.mem_append_left _ (List.mem_of_getElem? (i := 132) rfl))))))), rfl⟩
theorem wd_1333 : (Jvm.Cond.methodLink "ParlourLeaves$Sentence" (88 : Nat) ({ cls := "ParlourLeaves$Life", name := "plants", desc := "()I" } : Jvm.MethodName)) ∈ zTB := List.mem_filter.mpr ⟨List.mem_append_right _ (List.mem_append_right _ (List.mem_append_right _ (List.mem_append_right _ (List.mem_append_right _ (List.mem_append_right _ (List.mem_append_left _ (List.mem_of_getElem? (i := 133) rfl))))))), rfl⟩
theorem wd_1335 : (Jvm.Cond.methodLink "ParlourLeaves$Sentence" (97 : Nat) ({ cls := "ParlourLeaves$Sentence", name := "plantsThat", desc := "(LParlourLeaves$Life;I)I" } : Jvm.MethodName)) ∈ zTB := List.mem_filter.mpr ⟨List.mem_append_right _ (List.mem_append_right _ (List.mem_append_right _ (List.mem_append_right _ (List.mem_append_right _ (List.mem_append_right _ (List.mem_append_left _ (List.mem_of_getElem? (i := 135) rfl))))))), rfl⟩
theorem wd_1337 : (Jvm.Cond.instanceMethod ({ cls := "ParlourLeaves$Sentence", name := "plantsThat", desc := "(LParlourLeaves$Life;I)I" } : Jvm.MethodName)) ∈ zTB := List.mem_filter.mpr ⟨List.mem_append_right _ (List.mem_append_right _ (List.mem_append_right _ (List.mem_append_right _ (List.mem_append_right _ (List.mem_append_right _ (List.mem_append_left _ (List.mem_of_getElem? (i := 137) rfl))))))), rfl⟩
theorem wd_1338 : (Jvm.Cond.code ({ cls := "ParlourLeaves$Sentence", name := "plantsThat", desc := "(LParlourLeaves$Life;I)I" } : Jvm.MethodName) prog_10_method_11_code (5 : Nat) (Option.some Jvm.ClassFile.FieldType.int)) ∈ zTB := List.mem_filter.mpr ⟨List.mem_append_right _ (List.mem_append_right _ (List.mem_append_right _ (List.mem_append_right _ (List.mem_append_right _ (List.mem_append_right _ (List.mem_append_left _ (List.mem_of_getElem? (i := 138) rfl))))))), rfl⟩
theorem wd_1339 : (Jvm.Cond.methodLink "ParlourLeaves$Sentence" (101 : Nat) ({ cls := "ParlourLeaves$Sentence", name := "isSo", desc := "(LParlourLeaves$Life;II)Z" } : Jvm.MethodName)) ∈ zTB := List.mem_filter.mpr ⟨List.mem_append_right _ (List.mem_append_right _ (List.mem_append_right _ (List.mem_append_right _ (List.mem_append_right _ (List.mem_append_right _ (List.mem_append_left _ (List.mem_of_getElem? (i := 139) rfl))))))), rfl⟩
theorem wd_1341 : (Jvm.Cond.instanceMethod ({ cls := "ParlourLeaves$Sentence", name := "isSo", desc := "(LParlourLeaves$Life;II)Z" } : Jvm.MethodName)) ∈ zTB := List.mem_filter.mpr ⟨List.mem_append_right _ (List.mem_append_right _ (List.mem_append_right _ (List.mem_append_right _ (List.mem_append_right _ (List.mem_append_right _ (List.mem_append_left _ (List.mem_of_getElem? (i := 141) rfl))))))), rfl⟩
theorem wd_1342 : (Jvm.Cond.code ({ cls := "ParlourLeaves$Sentence", name := "isSo", desc := "(LParlourLeaves$Life;II)Z" } : Jvm.MethodName) prog_10_method_12_code (4 : Nat) (Option.some Jvm.ClassFile.FieldType.boolean)) ∈ zTB := List.mem_filter.mpr ⟨List.mem_append_right _ (List.mem_append_right _ (List.mem_append_right _ (List.mem_append_right _ (List.mem_append_right _ (List.mem_append_right _ (List.mem_append_left _ (List.mem_of_getElem? (i := 142) rfl))))))), rfl⟩
theorem wd_1343 : (Jvm.Cond.methodLink "ParlourLeaves$Sentence" (105 : Nat) ({ cls := "ParlourLeaves$Life", name := "isBlind", desc := "(I)Z" } : Jvm.MethodName)) ∈ zTB := List.mem_filter.mpr ⟨List.mem_append_right _ (List.mem_append_right _ (List.mem_append_right _ (List.mem_append_right _ (List.mem_append_right _ (List.mem_append_right _ (List.mem_append_left _ (List.mem_of_getElem? (i := 143) rfl))))))), rfl⟩
theorem wd_1344 : (Jvm.Cond.methodLink "ParlourLeaves$Sentence" (120 : Nat) ({ cls := "ParlourLeaves$Life", name := "seenBy", desc := "(I)I" } : Jvm.MethodName)) ∈ zTB := List.mem_filter.mpr ⟨List.mem_append_right _ (List.mem_append_right _ (List.mem_append_right _ (List.mem_append_right _ (List.mem_append_right _ (List.mem_append_right _ (List.mem_append_left _ (List.mem_of_getElem? (i := 144) rfl))))))), rfl⟩
theorem wd_1346 : (Jvm.Cond.methodLink "ParlourLeaves$Sentence" (127 : Nat) ({ cls := "ParlourLeaves$Life", name := "actsShown", desc := "(I)I" } : Jvm.MethodName)) ∈ zTB := List.mem_filter.mpr ⟨List.mem_append_right _ (List.mem_append_right _ (List.mem_append_right _ (List.mem_append_right _ (List.mem_append_right _ (List.mem_append_right _ (List.mem_append_left _ (List.mem_of_getElem? (i := 146) rfl))))))), rfl⟩
theorem wd_1347 : (Jvm.Cond.methodLink "ParlourLeaves$Sentence" (130 : Nat) ({ cls := "ParlourLeaves$Life", name := "actsOf", desc := "(I)I" } : Jvm.MethodName)) ∈ zTB := List.mem_filter.mpr ⟨List.mem_append_right _ (List.mem_append_right _ (List.mem_append_right _ (List.mem_append_right _ (List.mem_append_right _ (List.mem_append_right _ (List.mem_append_left _ (List.mem_of_getElem? (i := 147) rfl))))))), rfl⟩
theorem wd_1348 : (Jvm.Cond.methodLink "ParlourLeaves$Sentence" (133 : Nat) ({ cls := "java/lang/Integer", name := "bitCount", desc := "(I)I" } : Jvm.MethodName)) ∈ zTB := List.mem_filter.mpr ⟨List.mem_append_right _ (List.mem_append_right _ (List.mem_append_right _ (List.mem_append_right _ (List.mem_append_right _ (List.mem_append_right _ (List.mem_append_left _ (List.mem_of_getElem? (i := 148) rfl))))))), rfl⟩
theorem wd_1349 : (Jvm.Cond.methodLink "ParlourLeaves$Sentence" (138 : Nat) ({ cls := "ParlourLeaves$Sentence", name := "compares", desc := "(II)Z" } : Jvm.MethodName)) ∈ zTB := List.mem_filter.mpr ⟨List.mem_append_right _ (List.mem_append_right _ (List.mem_append_right _ (List.mem_append_right _ (List.mem_append_right _ (List.mem_append_right _ (List.mem_append_left _ (List.mem_of_getElem? (i := 149) rfl))))))), rfl⟩
theorem wd_1351 : (Jvm.Cond.instanceMethod ({ cls := "ParlourLeaves$Sentence", name := "compares", desc := "(II)Z" } : Jvm.MethodName)) ∈ zTB := List.mem_filter.mpr ⟨List.mem_append_right _ (List.mem_append_right _ (List.mem_append_right _ (List.mem_append_right _ (List.mem_append_right _ (List.mem_append_right _ (List.mem_append_left _ (List.mem_of_getElem? (i := 151) rfl))))))), rfl⟩
theorem wd_1352 : (Jvm.Cond.code ({ cls := "ParlourLeaves$Sentence", name := "compares", desc := "(II)Z" } : Jvm.MethodName) prog_10_method_13_code (3 : Nat) (Option.some Jvm.ClassFile.FieldType.boolean)) ∈ zTB := List.mem_filter.mpr ⟨List.mem_append_right _ (List.mem_append_right _ (List.mem_append_right _ (List.mem_append_right _ (List.mem_append_right _ (List.mem_append_right _ (List.mem_append_left _ (List.mem_of_getElem? (i := 152) rfl))))))), rfl⟩
theorem wd_1353 : (Jvm.Cond.methodLink "ParlourLeaves" (390 : Nat) ({ cls := "ParlourLeaves", name := "plantAt", desc := "(II)I" } : Jvm.MethodName)) ∈ zTB := List.mem_filter.mpr ⟨List.mem_append_right _ (List.mem_append_right _ (List.mem_append_right _ (List.mem_append_right _ (List.mem_append_right _ (List.mem_append_right _ (List.mem_append_left _ (List.mem_of_getElem? (i := 153) rfl))))))), rfl⟩
theorem wd_1354 : (Jvm.Cond.static ({ cls := "ParlourLeaves", name := "plantAt", desc := "(II)I" } : Jvm.MethodName)) ∈ zTB := List.mem_filter.mpr ⟨List.mem_append_right _ (List.mem_append_right _ (List.mem_append_right _ (List.mem_append_right _ (List.mem_append_right _ (List.mem_append_right _ (List.mem_append_left _ (List.mem_of_getElem? (i := 154) rfl))))))), rfl⟩
theorem wd_1355 : (Jvm.Cond.code ({ cls := "ParlourLeaves", name := "plantAt", desc := "(II)I" } : Jvm.MethodName) prog_1_method_41_code (4 : Nat) (Option.some Jvm.ClassFile.FieldType.int)) ∈ zTB := List.mem_filter.mpr ⟨List.mem_append_right _ (List.mem_append_right _ (List.mem_append_right _ (List.mem_append_right _ (List.mem_append_right _ (List.mem_append_right _ (List.mem_append_left _ (List.mem_of_getElem? (i := 155) rfl))))))), rfl⟩
theorem wd_1356 : (Jvm.Cond.methodLink "ParlourLeaves" (410 : Nat) ({ cls := "ParlourLeaves", name := "hasBit", desc := "(II)Z" } : Jvm.MethodName)) ∈ zTB := List.mem_filter.mpr ⟨List.mem_append_right _ (List.mem_append_right _ (List.mem_append_right _ (List.mem_append_right _ (List.mem_append_right _ (List.mem_append_right _ (List.mem_append_left _ (List.mem_of_getElem? (i := 156) rfl))))))), rfl⟩
theorem wp_2_12 : Cond.selects "ParlourLeaves$Sentence" (⟨"ParlourLeaves$Sentence", "compares", "(II)Z"⟩ : MethodName) (⟨"ParlourLeaves$Sentence", "compares", "(II)Z"⟩ : MethodName) ∈ zTB := List.mem_filter.mpr ⟨List.mem_append_left _ (List.mem_map.mpr ⟨((⟨"ParlourLeaves$Sentence", "compares", "(II)Z"⟩ : MethodName), 6), (List.mem_append_right _ (List.mem_append_left _ (List.mem_of_getElem? (i := 12) rfl))), rfl⟩), rfl⟩
theorem wp_2_11 : Cond.selects "ParlourLeaves$Sentence" (⟨"ParlourLeaves$Sentence", "isSo", "(LParlourLeaves$Life;II)Z"⟩ : MethodName) (⟨"ParlourLeaves$Sentence", "isSo", "(LParlourLeaves$Life;II)Z"⟩ : MethodName) ∈ zTB := List.mem_filter.mpr ⟨List.mem_append_left _ (List.mem_map.mpr ⟨((⟨"ParlourLeaves$Sentence", "isSo", "(LParlourLeaves$Life;II)Z"⟩ : MethodName), 6), (List.mem_append_right _ (List.mem_append_left _ (List.mem_of_getElem? (i := 11) rfl))), rfl⟩), rfl⟩
theorem wp_2_10 : Cond.selects "ParlourLeaves$Sentence" (⟨"ParlourLeaves$Sentence", "plantsThat", "(LParlourLeaves$Life;I)I"⟩ : MethodName) (⟨"ParlourLeaves$Sentence", "plantsThat", "(LParlourLeaves$Life;I)I"⟩ : MethodName) ∈ zTB := List.mem_filter.mpr ⟨List.mem_append_left _ (List.mem_map.mpr ⟨((⟨"ParlourLeaves$Sentence", "plantsThat", "(LParlourLeaves$Life;I)I"⟩ : MethodName), 6), (List.mem_append_right _ (List.mem_append_left _ (List.mem_of_getElem? (i := 10) rfl))), rfl⟩), rfl⟩
theorem dn_X6_plantsThatSee : zDn yX6_plantsThatSee 0 := ⟨by decide, by decide, by decide +kernel⟩
theorem dn_X6_plantsWithDust : zDn yX6_plantsWithDust 0 := ⟨by decide, by decide, by decide +kernel⟩
theorem dn_X6_allLeavesCome : zDn yX6_allLeavesCome 0 := ⟨by decide, by decide, by decide +kernel⟩
theorem dn_X6_allLeavesDue : zDn yX6_allLeavesDue 0 := ⟨by decide, by decide, by decide +kernel⟩
theorem dn_X6_parloursUnseen : zDn yX6_parloursUnseen 0 := ⟨by decide, by decide, by decide +kernel⟩
theorem zb_30 : (Int8.ofInt (30)).toInt32 = (30 : Int32) := by decide
theorem dn_X2_dayOfProof : zDn yX2_dayOfProof 1 := ⟨by decide, by decide, by decide +kernel⟩
theorem dn_X7_forget : zDn yX7_forget 0 := ⟨by decide, by decide, by decide +kernel⟩
theorem dn_X6_parloursWithDust : zDn yX6_parloursWithDust 0 := ⟨by decide, by decide, by decide +kernel⟩
theorem dn_X10_find : zDn yX10_find 3 := ⟨by decide, by decide, by decide +kernel⟩
theorem dn_X8_compares : zDn yX8_compares 2 := ⟨by decide, by decide, by decide +kernel⟩
theorem dn_X8_isSo : zDn yX8_isSo 3 := ⟨by decide, by decide, by decide +kernel⟩
theorem zb_13 : (Int8.ofInt (13)).toInt32 = (13 : Int32) := by decide
theorem zb_14 : (Int8.ofInt (14)).toInt32 = (14 : Int32) := by decide
theorem dn_X8_plantsThat : zDn yX8_plantsThat 2 := ⟨by decide, by decide, by decide +kernel⟩
theorem dn_X8_plantsOf : zDn yX8_plantsOf 1 := ⟨by decide, by decide, by decide +kernel⟩
theorem dn_X11_plantAt : zDn yX11_plantAt 2 := ⟨by decide, by decide, by decide +kernel⟩
theorem lk_X11_200 : zLk RX11 200 7 1 := ⟨"ParlourLeaves$Life", RX6, TX6, 11, rfl, by decide, wsin_X6, wd_226, rfl⟩
theorem lk_X11_220 : zLk RX11 220 7 2 := ⟨"ParlourLeaves$Life", RX6, TX6, 11, rfl, by decide, wsin_X6, wd_229, rfl⟩
theorem cv_X11_226 : zCV RX11 RX6 226 yX6_plantsThatSee cX6_plantsThatSee 3 (some .int) 0 := ⟨rfl, dn_X6_plantsThatSee, wd_737, wd_738, wd_739, wd_8, wd_740⟩
theorem cv_X11_229 : zCV RX11 RX6 229 yX6_plantsWithDust cX6_plantsWithDust 3 (some .int) 0 := ⟨rfl, dn_X6_plantsWithDust, wd_745, wd_746, wd_747, wd_8, wd_748⟩
theorem cv_X11_232 : zCV RX11 RX6 232 yX6_allLeavesCome cX6_allLeavesCome 3 (some .int) 0 := ⟨rfl, dn_X6_allLeavesCome, wd_749, wd_750, wd_751, wd_8, wd_752⟩
theorem cv_X11_235 : zCV RX11 RX6 235 yX6_allLeavesDue cX6_allLeavesDue 3 (some .int) 0 := ⟨rfl, dn_X6_allLeavesDue, wd_757, wd_758, wd_759, wd_8, wd_760⟩
theorem cv_X11_238 : zCV RX11 RX6 238 yX6_parloursUnseen cX6_parloursUnseen 3 (some .int) 0 := ⟨rfl, dn_X6_parloursUnseen, wd_765, wd_766, wd_767, wd_8, wd_768⟩
theorem cv_X11_410 : zCS RX11 410 yX11_hasBit cX11_hasBit 2 (some .boolean) 2 := ⟨dn_X11_hasBit, wd_1356, wd_645, wd_1, wd_646⟩
theorem lk_X2_35 : zLk RX2 35 7 7 := ⟨"ParlourLeaves$Life", RX6, TX6, 11, rfl, by decide, wsin_X6, wd_239, rfl⟩
theorem cv_X2_39 : zCV RX2 RX6 39 yX6_witnessesBy cX6_witnessesBy 5 (some .int) 2 := ⟨rfl, dn_X6_witnessesBy, wd_877, wd_724, wd_725, wd_8, wd_726⟩
theorem lk_X2_49 : zLk RX2 49 4 11 := ⟨"ParlourLeaves$House", RX3, TX3, 12, rfl, by decide, wsin_X3, wd_183, rfl⟩
theorem cv_X11_281 : zCV RX11 RX2 281 yX2_dayOfProof cX2_dayOfProof 6 (some .int) 1 := ⟨rfl, dn_X2_dayOfProof, wd_872, wd_873, wd_874, wd_14, wd_875⟩
theorem lk_X11_396 : zLk RX11 396 6 3 := ⟨"ParlourLeaves$Image", RX5, TX5, 4, rfl, by decide, wsin_X5, wd_336, rfl⟩
theorem lk_X11_400 : zLk RX11 400 6 0 := ⟨"ParlourLeaves$Image", RX5, TX5, 4, rfl, by decide, wsin_X5, wd_330, rfl⟩
theorem cv_X11_134 : zCV RX11 RX3 134 yX3_copyFrom cX3_copyFrom 2 none 1 := ⟨rfl, dn_X3_copyFrom, wd_672, wd_673, wd_674, wd_7, wd_675⟩
theorem lk_X11_401 : zLk RX11 401 6 1 := ⟨"ParlourLeaves$Image", RX5, TX5, 4, rfl, by decide, wsin_X5, wd_332, rfl⟩
theorem lk_X11_402 : zLk RX11 402 6 2 := ⟨"ParlourLeaves$Image", RX5, TX5, 4, rfl, by decide, wsin_X5, wd_334, rfl⟩
theorem cv_X11_381 : zCV RX11 RX8 381 yX8_copyFrom cX8_copyFrom 2 none 1 := ⟨rfl, dn_X8_copyFrom, wd_1320, wd_1321, wd_1322, wd_11, wd_1323⟩
theorem cv_X11_140 : zCV RX11 RX7 140 yX7_forget cX7_forget 1 none 0 := ⟨rfl, dn_X7_forget, wd_683, wd_684, wd_685, wd_9, wd_686⟩
theorem lk_X11_89 : zLk RX11 89 12 11 := ⟨"ParlourLeaves", RX11, TX11, 17, rfl, by decide, wsin_X11, wd_515, rfl⟩
theorem cv_X11_301 : zCV RX11 RX6 301 yX6_parloursWithDust cX6_parloursWithDust 3 (some .int) 0 := ⟨rfl, dn_X6_parloursWithDust, wd_943, wd_944, wd_945, wd_8, wd_946⟩
theorem cv_X11_304 : zCV RX11 RX10 304 yX10_find cX10_find 11 (some .int) 3 := ⟨rfl, dn_X10_find, wd_947, wd_948, wd_949, wd_15, wd_950⟩
theorem lk_X11_308 : zLk RX11 308 11 4 := ⟨"ParlourLeaves$Way", RX10, TX10, 5, rfl, by decide, wsin_X10, wd_451, rfl⟩
theorem lk_X11_309 : zLk RX11 309 11 3 := ⟨"ParlourLeaves$Way", RX10, TX10, 5, rfl, by decide, wsin_X10, wd_449, rfl⟩
theorem lk_X8_108 : zLk RX8 108 7 0 := ⟨"ParlourLeaves$Life", RX6, TX6, 11, rfl, by decide, wsin_X6, wd_223, rfl⟩
theorem lk_X8_112 : zLk RX8 112 4 4 := ⟨"ParlourLeaves$House", RX3, TX3, 12, rfl, by decide, wsin_X3, wd_169, rfl⟩
theorem cv_X8_105 : zCV RX8 RX6 105 yX6_isBlind cX6_isBlind 2 (some .boolean) 1 := ⟨rfl, dn_X6_isBlind, wd_1343, wd_742, wd_743, wd_8, wd_744⟩
theorem lk_X8_117 : zLk RX8 117 7 9 := ⟨"ParlourLeaves$Life", RX6, TX6, 11, rfl, by decide, wsin_X6, wd_245, rfl⟩
theorem cv_X8_120 : zCV RX8 RX6 120 yX6_seenBy cX6_seenBy 2 (some .int) 1 := ⟨rfl, dn_X6_seenBy, wd_1344, wd_770, wd_771, wd_8, wd_772⟩
theorem cv_X8_123 : zCN RX8 "ParlourLeaves" 123 yX11_hasBit cX11_hasBit 2 (some .boolean) 2 := ⟨dn_X11_hasBit, (List.mem_of_getElem? (i := 16) rfl), wd_645, wd_1, wd_646⟩
theorem cv_X8_127 : zCV RX8 RX6 127 yX6_actsShown cX6_actsShown 4 (some .int) 1 := ⟨rfl, dn_X6_actsShown, wd_1346, wd_754, wd_755, wd_8, wd_756⟩
theorem cv_X8_130 : zCV RX8 RX6 130 yX6_actsOf cX6_actsOf 4 (some .int) 1 := ⟨rfl, dn_X6_actsOf, wd_1347, wd_861, wd_862, wd_8, wd_863⟩
theorem cv_X8_133 : zCS RX8 133 yJ6_bitCount_0f7a4 cJ6_bitCount_0f7a4 1 (some .int) 1 := ⟨dn_J6_bitCount_0f7a4, wd_1348, wd_732, wd_27, wd_733⟩
theorem cv_X8_138 : zCV RX8 RX8 138 yX8_compares cX8_compares 3 (some .boolean) 2 := ⟨rfl, dn_X8_compares, wd_1349, wd_1351, wp_2_12, wd_11, wd_1352⟩
theorem lk_X8_141 : zLk RX8 141 7 10 := ⟨"ParlourLeaves$Life", RX6, TX6, 11, rfl, by decide, wsin_X6, wd_249, rfl⟩
theorem cv_X8_88 : zCV RX8 RX6 88 yX6_plants cX6_plants 1 (some .int) 0 := ⟨rfl, dn_X6_plants, wd_1333, wd_728, wd_729, wd_8, wd_730⟩
theorem cv_X8_101 : zCV RX8 RX8 101 yX8_isSo cX8_isSo 4 (some .boolean) 3 := ⟨rfl, dn_X8_isSo, wd_1339, wd_1341, wp_2_11, wd_11, wd_1342⟩
theorem cv_X8_93 : zCN RX8 "ParlourLeaves" 93 yX11_allBits cX11_allBits 1 (some .int) 1 := ⟨dn_X11_allBits, (List.mem_of_getElem? (i := 15) rfl), wd_778, wd_1, wd_779⟩
theorem lk_X8_21 : zLk RX8 21 9 3 := ⟨"ParlourLeaves$Sentence", RX8, TX8, 6, rfl, by decide, wsin_X8, wd_312, rfl⟩
theorem cv_X8_97 : zCV RX8 RX8 97 yX8_plantsThat cX8_plantsThat 5 (some .int) 2 := ⟨rfl, dn_X8_plantsThat, wd_1335, wd_1337, wp_2_10, wd_11, wd_1338⟩
theorem lk_X11_384 : zLk RX11 384 9 5 := ⟨"ParlourLeaves$Sentence", RX8, TX8, 6, rfl, by decide, wsin_X8, wd_315, rfl⟩
theorem cv_X11_387 : zCV RX11 RX8 387 yX8_plantsOf cX8_plantsOf 6 (some .int) 1 := ⟨rfl, dn_X8_plantsOf, wd_1329, wd_1330, wd_1331, wd_11, wd_1332⟩
theorem cv_X11_390 : zCS RX11 390 yX11_plantAt cX11_plantAt 4 (some .int) 2 := ⟨dn_X11_plantAt, wd_1353, wd_1354, wd_1, wd_1355⟩
theorem lk_X11_217 : zLk RX11 217 4 1 := ⟨"ParlourLeaves$House", RX3, TX3, 12, rfl, by decide, wsin_X3, wd_157, rfl⟩
theorem cv_X11_252 : zCV RX11 RX6 252 yX6_whyNotSponge cX6_whyNotSponge 2 (some .int) 1 := ⟨rfl, dn_X6_whyNotSponge, wd_814, wd_815, wd_816, wd_8, wd_817⟩
theorem cv_X11_255 : zCV RX11 RX6 255 yX6_spongeOff cX6_spongeOff 2 none 1 := ⟨rfl, dn_X6_spongeOff, wd_818, wd_819, wd_820, wd_8, wd_821⟩
theorem lk_X11_371 : zLk RX11 371 1 9 := ⟨"ParlourLeaves$BookText", RX0, TX0, 11, rfl, by decide, wsin_X0, wd_386, rfl⟩
theorem lk_X11_374 : zLk RX11 374 1 10 := ⟨"ParlourLeaves$BookText", RX0, TX0, 11, rfl, by decide, wsin_X0, wd_388, rfl⟩
theorem dX6_plantsWithDust_0 : decode cX6_plantsWithDust 0 = .ok (.iconst 0, 1) := by decide +kernel
theorem dX6_plantsWithDust_1 : decode cX6_plantsWithDust 1 = .ok (.istore_n 1, 1) := by decide +kernel
theorem dX6_plantsWithDust_2 : decode cX6_plantsWithDust 2 = .ok (.iconst 0, 1) := by decide +kernel
theorem dX6_plantsWithDust_3 : decode cX6_plantsWithDust 3 = .ok (.istore_n 2, 1) := by decide +kernel
theorem dX6_plantsWithDust_4 : decode cX6_plantsWithDust 4 = .ok (.iload_n 2, 1) := by decide +kernel
theorem dX6_plantsWithDust_5 : decode cX6_plantsWithDust 5 = .ok (.aload_n 0, 1) := by decide +kernel
theorem dX6_plantsWithDust_6 : decode cX6_plantsWithDust 6 = .ok (.invokevirtual 86, 3) := by decide +kernel
theorem dX6_plantsWithDust_9 : decode cX6_plantsWithDust 9 = .ok (.if_icmp .ge 24, 3) := by decide +kernel
theorem dX6_plantsWithDust_12 : decode cX6_plantsWithDust 12 = .ok (.aload_n 0, 1) := by decide +kernel
theorem dX6_plantsWithDust_13 : decode cX6_plantsWithDust 13 = .ok (.getfield 35, 3) := by decide +kernel
theorem dX6_plantsWithDust_16 : decode cX6_plantsWithDust 16 = .ok (.iload_n 2, 1) := by decide +kernel
theorem dX6_plantsWithDust_17 : decode cX6_plantsWithDust 17 = .ok (.iaload, 1) := by decide +kernel
theorem dX6_plantsWithDust_18 : decode cX6_plantsWithDust 18 = .ok (.ifCond .le 9, 3) := by decide +kernel
theorem dX6_plantsWithDust_21 : decode cX6_plantsWithDust 21 = .ok (.iload_n 1, 1) := by decide +kernel
theorem dX6_plantsWithDust_22 : decode cX6_plantsWithDust 22 = .ok (.iconst 1, 1) := by decide +kernel
theorem dX6_plantsWithDust_23 : decode cX6_plantsWithDust 23 = .ok (.iload_n 2, 1) := by decide +kernel
theorem dX6_plantsWithDust_24 : decode cX6_plantsWithDust 24 = .ok (.ishl, 1) := by decide +kernel
theorem dX6_plantsWithDust_25 : decode cX6_plantsWithDust 25 = .ok (.ior, 1) := by decide +kernel
theorem dX6_plantsWithDust_26 : decode cX6_plantsWithDust 26 = .ok (.istore_n 1, 1) := by decide +kernel
theorem dX6_plantsWithDust_27 : decode cX6_plantsWithDust 27 = .ok (.iinc 2 1, 3) := by decide +kernel
theorem dX6_plantsWithDust_30 : decode cX6_plantsWithDust 30 = .ok (.goto (-26), 3) := by decide +kernel
theorem dX6_plantsWithDust_33 : decode cX6_plantsWithDust 33 = .ok (.iload_n 1, 1) := by decide +kernel
theorem dX6_plantsWithDust_34 : decode cX6_plantsWithDust 34 = .ok (.ireturn, 1) := by decide +kernel
theorem dX11_now_0 : decode cX11_now 0 = .ok (.iload_n 1, 1) := by decide +kernel
theorem dX11_now_1 : decode cX11_now 1 = .ok (.tableswitch 111 0 7 #[47, 55, 63, 71, 79, 87, 95, 103], 47) := by decide +kernel
theorem dX11_now_48 : decode cX11_now 48 = .ok (.aload_n 0, 1) := by decide +kernel
theorem dX11_now_49 : decode cX11_now 49 = .ok (.getfield 28, 3) := by decide +kernel
theorem dX11_now_52 : decode cX11_now 52 = .ok (.getfield 200, 3) := by decide +kernel
theorem dX11_now_55 : decode cX11_now 55 = .ok (.ireturn, 1) := by decide +kernel
theorem dX11_now_56 : decode cX11_now 56 = .ok (.aload_n 0, 1) := by decide +kernel
theorem dX11_now_57 : decode cX11_now 57 = .ok (.getfield 28, 3) := by decide +kernel
theorem dX11_now_60 : decode cX11_now 60 = .ok (.getfield 220, 3) := by decide +kernel
theorem dX11_now_63 : decode cX11_now 63 = .ok (.ireturn, 1) := by decide +kernel
theorem dX11_now_64 : decode cX11_now 64 = .ok (.aload_n 0, 1) := by decide +kernel
theorem dX11_now_65 : decode cX11_now 65 = .ok (.getfield 28, 3) := by decide +kernel
theorem dX11_now_68 : decode cX11_now 68 = .ok (.invokevirtual 223, 3) := by decide +kernel
theorem dX11_now_71 : decode cX11_now 71 = .ok (.ireturn, 1) := by decide +kernel
theorem dX11_now_72 : decode cX11_now 72 = .ok (.aload_n 0, 1) := by decide +kernel
theorem dX11_now_73 : decode cX11_now 73 = .ok (.getfield 28, 3) := by decide +kernel
theorem dX11_now_76 : decode cX11_now 76 = .ok (.invokevirtual 226, 3) := by decide +kernel
theorem dX11_now_79 : decode cX11_now 79 = .ok (.ireturn, 1) := by decide +kernel
theorem dX11_now_80 : decode cX11_now 80 = .ok (.aload_n 0, 1) := by decide +kernel
theorem dX11_now_81 : decode cX11_now 81 = .ok (.getfield 28, 3) := by decide +kernel
theorem dX11_now_84 : decode cX11_now 84 = .ok (.invokevirtual 229, 3) := by decide +kernel
theorem dX11_now_87 : decode cX11_now 87 = .ok (.ireturn, 1) := by decide +kernel
theorem dX11_now_88 : decode cX11_now 88 = .ok (.aload_n 0, 1) := by decide +kernel
theorem dX11_now_89 : decode cX11_now 89 = .ok (.getfield 28, 3) := by decide +kernel
theorem dX11_now_92 : decode cX11_now 92 = .ok (.invokevirtual 232, 3) := by decide +kernel
theorem dX11_now_95 : decode cX11_now 95 = .ok (.ireturn, 1) := by decide +kernel
theorem dX11_now_96 : decode cX11_now 96 = .ok (.aload_n 0, 1) := by decide +kernel
theorem dX11_now_97 : decode cX11_now 97 = .ok (.getfield 28, 3) := by decide +kernel
theorem dX11_now_100 : decode cX11_now 100 = .ok (.invokevirtual 235, 3) := by decide +kernel
theorem dX11_now_103 : decode cX11_now 103 = .ok (.ireturn, 1) := by decide +kernel
theorem dX11_now_104 : decode cX11_now 104 = .ok (.aload_n 0, 1) := by decide +kernel
theorem dX11_now_105 : decode cX11_now 105 = .ok (.getfield 28, 3) := by decide +kernel
theorem dX11_now_108 : decode cX11_now 108 = .ok (.invokevirtual 238, 3) := by decide +kernel
theorem dX11_now_111 : decode cX11_now 111 = .ok (.ireturn, 1) := by decide +kernel
theorem dX11_now_112 : decode cX11_now 112 = .ok (.iconst (-1), 1) := by decide +kernel
theorem dX11_now_113 : decode cX11_now 113 = .ok (.ireturn, 1) := by decide +kernel
theorem dX11_odds_0 : decode cX11_odds 0 = .ok (.aload_n 0, 1) := by decide +kernel
theorem dX11_odds_1 : decode cX11_odds 1 = .ok (.getfield 19, 3) := by decide +kernel
theorem dX11_odds_4 : decode cX11_odds 4 = .ok (.iconst 2, 1) := by decide +kernel
theorem dX11_odds_5 : decode cX11_odds 5 = .ok (.iload_n 1, 1) := by decide +kernel
theorem dX11_odds_6 : decode cX11_odds 6 = .ok (.invokevirtual 149, 3) := by decide +kernel
theorem dX11_odds_9 : decode cX11_odds 9 = .ok (.ifCond .eq 14, 3) := by decide +kernel
theorem dX11_odds_12 : decode cX11_odds 12 = .ok (.iload_n 2, 1) := by decide +kernel
theorem dX11_odds_13 : decode cX11_odds 13 = .ok (.iconst 1, 1) := by decide +kernel
theorem dX11_odds_14 : decode cX11_odds 14 = .ok (.if_icmp .lt 9, 3) := by decide +kernel
theorem dX11_odds_17 : decode cX11_odds 17 = .ok (.iload_n 2, 1) := by decide +kernel
theorem dX11_odds_18 : decode cX11_odds 18 = .ok (.bipush 30, 2) := by decide +kernel
theorem dX11_odds_20 : decode cX11_odds 20 = .ok (.if_icmp .le 5, 3) := by decide +kernel
theorem dX11_odds_23 : decode cX11_odds 23 = .ok (.iconst (-1), 1) := by decide +kernel
theorem dX11_odds_24 : decode cX11_odds 24 = .ok (.ireturn, 1) := by decide +kernel
theorem dX11_odds_25 : decode cX11_odds 25 = .ok (.iconst 0, 1) := by decide +kernel
theorem dX11_odds_26 : decode cX11_odds 26 = .ok (.istore 4, 2) := by decide +kernel
theorem dX11_odds_28 : decode cX11_odds 28 = .ok (.iconst 0, 1) := by decide +kernel
theorem dX11_odds_29 : decode cX11_odds 29 = .ok (.istore 5, 2) := by decide +kernel
theorem dX11_odds_31 : decode cX11_odds 31 = .ok (.iload 5, 2) := by decide +kernel
theorem dX11_odds_33 : decode cX11_odds 33 = .ok (.iload_n 2, 1) := by decide +kernel
theorem dX11_odds_34 : decode cX11_odds 34 = .ok (.if_icmp .ge 60, 3) := by decide +kernel
theorem dX11_odds_37 : decode cX11_odds 37 = .ok (.aload_n 0, 1) := by decide +kernel
theorem dX11_odds_38 : decode cX11_odds 38 = .ok (.getfield 32, 3) := by decide +kernel
theorem dX11_odds_41 : decode cX11_odds 41 = .ok (.aload_n 0, 1) := by decide +kernel
theorem dX11_odds_42 : decode cX11_odds 42 = .ok (.getfield 28, 3) := by decide +kernel
theorem dX11_odds_45 : decode cX11_odds 45 = .ok (.invokevirtual 357, 3) := by decide +kernel
theorem dX11_odds_48 : decode cX11_odds 48 = .ok (.aload_n 0, 1) := by decide +kernel
theorem dX11_odds_49 : decode cX11_odds 49 = .ok (.getfield 96, 3) := by decide +kernel
theorem dX11_odds_52 : decode cX11_odds 52 = .ok (.aload_n 0, 1) := by decide +kernel
theorem dX11_odds_53 : decode cX11_odds 53 = .ok (.getfield 32, 3) := by decide +kernel
theorem dX11_odds_56 : decode cX11_odds 56 = .ok (.bipush 20, 2) := by decide +kernel
theorem dX11_odds_58 : decode cX11_odds 58 = .ok (.iload_n 3, 1) := by decide +kernel
theorem dX11_odds_59 : decode cX11_odds 59 = .ok (.iload 5, 2) := by decide +kernel
theorem dX11_odds_61 : decode cX11_odds 61 = .ok (.iadd, 1) := by decide +kernel
theorem dX11_odds_62 : decode cX11_odds 62 = .ok (.invokevirtual 353, 3) := by decide +kernel
theorem dX11_odds_65 : decode cX11_odds 65 = .ok (.pop, 1) := by decide +kernel
theorem dX11_odds_66 : decode cX11_odds 66 = .ok (.aload_n 0, 1) := by decide +kernel
theorem dX11_odds_67 : decode cX11_odds 67 = .ok (.getfield 32, 3) := by decide +kernel
theorem dX11_odds_70 : decode cX11_odds 70 = .ok (.invokevirtual 223, 3) := by decide +kernel
theorem dX11_odds_73 : decode cX11_odds 73 = .ok (.aload_n 0, 1) := by decide +kernel
theorem dX11_odds_74 : decode cX11_odds 74 = .ok (.getfield 32, 3) := by decide +kernel
theorem dX11_odds_77 : decode cX11_odds 77 = .ok (.iload_n 1, 1) := by decide +kernel
theorem dX11_odds_78 : decode cX11_odds 78 = .ok (.invokevirtual 275, 3) := by decide +kernel
theorem dX11_odds_81 : decode cX11_odds 81 = .ok (.iand, 1) := by decide +kernel
theorem dX11_odds_82 : decode cX11_odds 82 = .ok (.ifCond .eq 6, 3) := by decide +kernel
theorem dX11_odds_85 : decode cX11_odds 85 = .ok (.iinc 4 1, 3) := by decide +kernel
theorem dX11_odds_88 : decode cX11_odds 88 = .ok (.iinc 5 1, 3) := by decide +kernel
theorem dX11_odds_91 : decode cX11_odds 91 = .ok (.goto (-60), 3) := by decide +kernel
theorem dX11_odds_94 : decode cX11_odds 94 = .ok (.iload 4, 2) := by decide +kernel
theorem dX11_odds_96 : decode cX11_odds 96 = .ok (.ireturn, 1) := by decide +kernel
theorem dX11_plantAt_0 : decode cX11_plantAt 0 = .ok (.iload_n 1, 1) := by decide +kernel
theorem dX11_plantAt_1 : decode cX11_plantAt 1 = .ok (.istore_n 2, 1) := by decide +kernel
theorem dX11_plantAt_2 : decode cX11_plantAt 2 = .ok (.iconst 0, 1) := by decide +kernel
theorem dX11_plantAt_3 : decode cX11_plantAt 3 = .ok (.istore_n 3, 1) := by decide +kernel
theorem dX11_plantAt_4 : decode cX11_plantAt 4 = .ok (.iload_n 3, 1) := by decide +kernel
theorem dX11_plantAt_5 : decode cX11_plantAt 5 = .ok (.bipush 6, 2) := by decide +kernel
theorem dX11_plantAt_7 : decode cX11_plantAt 7 = .ok (.if_icmp .ge 26, 3) := by decide +kernel
theorem dX11_plantAt_10 : decode cX11_plantAt 10 = .ok (.iload_n 0, 1) := by decide +kernel
theorem dX11_plantAt_11 : decode cX11_plantAt 11 = .ok (.iload_n 3, 1) := by decide +kernel
theorem dX11_plantAt_12 : decode cX11_plantAt 12 = .ok (.invokestatic 410, 3) := by decide +kernel
theorem dX11_plantAt_15 : decode cX11_plantAt 15 = .ok (.ifCond .eq 12, 3) := by decide +kernel
theorem dX11_plantAt_18 : decode cX11_plantAt 18 = .ok (.iload_n 2, 1) := by decide +kernel
theorem dX11_plantAt_19 : decode cX11_plantAt 19 = .ok (.ifCond .ne 5, 3) := by decide +kernel
theorem dX11_plantAt_22 : decode cX11_plantAt 22 = .ok (.iload_n 3, 1) := by decide +kernel
theorem dX11_plantAt_23 : decode cX11_plantAt 23 = .ok (.ireturn, 1) := by decide +kernel
theorem dX11_plantAt_24 : decode cX11_plantAt 24 = .ok (.iinc 2 (-1), 3) := by decide +kernel
theorem dX11_plantAt_27 : decode cX11_plantAt 27 = .ok (.iinc 3 1, 3) := by decide +kernel
theorem dX11_plantAt_30 : decode cX11_plantAt 30 = .ok (.goto (-26), 3) := by decide +kernel
theorem dX11_plantAt_33 : decode cX11_plantAt 33 = .ok (.iconst (-1), 1) := by decide +kernel
theorem dX11_plantAt_34 : decode cX11_plantAt 34 = .ok (.ireturn, 1) := by decide +kernel
theorem dX2_dayOfProof_0 : decode cX2_dayOfProof 0 = .ok (.iconst (-1), 1) := by decide +kernel
theorem dX2_dayOfProof_1 : decode cX2_dayOfProof 1 = .ok (.istore_n 2, 1) := by decide +kernel
theorem dX2_dayOfProof_2 : decode cX2_dayOfProof 2 = .ok (.iconst 0, 1) := by decide +kernel
theorem dX2_dayOfProof_3 : decode cX2_dayOfProof 3 = .ok (.istore_n 3, 1) := by decide +kernel
theorem dX2_dayOfProof_4 : decode cX2_dayOfProof 4 = .ok (.iload_n 3, 1) := by decide +kernel
theorem dX2_dayOfProof_5 : decode cX2_dayOfProof 5 = .ok (.aload_n 0, 1) := by decide +kernel
theorem dX2_dayOfProof_6 : decode cX2_dayOfProof 6 = .ok (.getfield 25, 3) := by decide +kernel
theorem dX2_dayOfProof_9 : decode cX2_dayOfProof 9 = .ok (.invokevirtual 29, 3) := by decide +kernel
theorem dX2_dayOfProof_12 : decode cX2_dayOfProof 12 = .ok (.if_icmp .ge 85, 3) := by decide +kernel
theorem dX2_dayOfProof_15 : decode cX2_dayOfProof 15 = .ok (.aload_n 0, 1) := by decide +kernel
theorem dX2_dayOfProof_16 : decode cX2_dayOfProof 16 = .ok (.getfield 25, 3) := by decide +kernel
theorem dX2_dayOfProof_19 : decode cX2_dayOfProof 19 = .ok (.getfield 35, 3) := by decide +kernel
theorem dX2_dayOfProof_22 : decode cX2_dayOfProof 22 = .ok (.iload_n 3, 1) := by decide +kernel
theorem dX2_dayOfProof_23 : decode cX2_dayOfProof 23 = .ok (.aaload, 1) := by decide +kernel
theorem dX2_dayOfProof_24 : decode cX2_dayOfProof 24 = .ok (.iload_n 1, 1) := by decide +kernel
theorem dX2_dayOfProof_25 : decode cX2_dayOfProof 25 = .ok (.iaload, 1) := by decide +kernel
theorem dX2_dayOfProof_26 : decode cX2_dayOfProof 26 = .ok (.istore 4, 2) := by decide +kernel
theorem dX2_dayOfProof_28 : decode cX2_dayOfProof 28 = .ok (.iload 4, 2) := by decide +kernel
theorem dX2_dayOfProof_30 : decode cX2_dayOfProof 30 = .ok (.iconst (-1), 1) := by decide +kernel
theorem dX2_dayOfProof_31 : decode cX2_dayOfProof 31 = .ok (.if_icmp .eq 30, 3) := by decide +kernel
theorem dX2_dayOfProof_34 : decode cX2_dayOfProof 34 = .ok (.aload_n 0, 1) := by decide +kernel
theorem dX2_dayOfProof_35 : decode cX2_dayOfProof 35 = .ok (.getfield 25, 3) := by decide +kernel
theorem dX2_dayOfProof_38 : decode cX2_dayOfProof 38 = .ok (.iload_n 1, 1) := by decide +kernel
theorem dX2_dayOfProof_39 : decode cX2_dayOfProof 39 = .ok (.iload 4, 2) := by decide +kernel
theorem dX2_dayOfProof_41 : decode cX2_dayOfProof 41 = .ok (.invokevirtual 39, 3) := by decide +kernel
theorem dX2_dayOfProof_44 : decode cX2_dayOfProof 44 = .ok (.invokestatic 43, 3) := by decide +kernel
theorem dX2_dayOfProof_47 : decode cX2_dayOfProof 47 = .ok (.aload_n 0, 1) := by decide +kernel
theorem dX2_dayOfProof_48 : decode cX2_dayOfProof 48 = .ok (.getfield 21, 3) := by decide +kernel
theorem dX2_dayOfProof_51 : decode cX2_dayOfProof 51 = .ok (.getfield 49, 3) := by decide +kernel
theorem dX2_dayOfProof_54 : decode cX2_dayOfProof 54 = .ok (.if_icmp .lt 7, 3) := by decide +kernel
theorem dX2_dayOfProof_57 : decode cX2_dayOfProof 57 = .ok (.iconst 1, 1) := by decide +kernel
theorem dX2_dayOfProof_58 : decode cX2_dayOfProof 58 = .ok (.goto 4, 3) := by decide +kernel
theorem dX2_dayOfProof_61 : decode cX2_dayOfProof 61 = .ok (.iconst 0, 1) := by decide +kernel
theorem dX2_dayOfProof_62 : decode cX2_dayOfProof 62 = .ok (.istore 5, 2) := by decide +kernel
theorem dX2_dayOfProof_64 : decode cX2_dayOfProof 64 = .ok (.iload 5, 2) := by decide +kernel
theorem dX2_dayOfProof_66 : decode cX2_dayOfProof 66 = .ok (.ifCond .eq 25, 3) := by decide +kernel
theorem dX2_dayOfProof_69 : decode cX2_dayOfProof 69 = .ok (.iload 4, 2) := by decide +kernel
theorem dX2_dayOfProof_71 : decode cX2_dayOfProof 71 = .ok (.sipush 400, 3) := by decide +kernel
theorem dX2_dayOfProof_74 : decode cX2_dayOfProof 74 = .ok (.if_icmp .gt 17, 3) := by decide +kernel
theorem dX2_dayOfProof_77 : decode cX2_dayOfProof 77 = .ok (.iload_n 2, 1) := by decide +kernel
theorem dX2_dayOfProof_78 : decode cX2_dayOfProof 78 = .ok (.iconst (-1), 1) := by decide +kernel
theorem dX2_dayOfProof_79 : decode cX2_dayOfProof 79 = .ok (.if_icmp .eq 9, 3) := by decide +kernel
theorem dX2_dayOfProof_82 : decode cX2_dayOfProof 82 = .ok (.iload 4, 2) := by decide +kernel
theorem dX2_dayOfProof_84 : decode cX2_dayOfProof 84 = .ok (.iload_n 2, 1) := by decide +kernel
theorem dX2_dayOfProof_85 : decode cX2_dayOfProof 85 = .ok (.if_icmp .ge 6, 3) := by decide +kernel
theorem dX2_dayOfProof_88 : decode cX2_dayOfProof 88 = .ok (.iload 4, 2) := by decide +kernel
theorem dX2_dayOfProof_90 : decode cX2_dayOfProof 90 = .ok (.istore_n 2, 1) := by decide +kernel
theorem dX2_dayOfProof_91 : decode cX2_dayOfProof 91 = .ok (.iinc 3 1, 3) := by decide +kernel
theorem dX2_dayOfProof_94 : decode cX2_dayOfProof 94 = .ok (.goto (-90), 3) := by decide +kernel
theorem dX2_dayOfProof_97 : decode cX2_dayOfProof 97 = .ok (.iload_n 2, 1) := by decide +kernel
theorem dX2_dayOfProof_98 : decode cX2_dayOfProof 98 = .ok (.ireturn, 1) := by decide +kernel
theorem dX11_proves_0 : decode cX11_proves 0 = .ok (.aload_n 0, 1) := by decide +kernel
theorem dX11_proves_1 : decode cX11_proves 1 = .ok (.getfield 28, 3) := by decide +kernel
theorem dX11_proves_4 : decode cX11_proves 4 = .ok (.iload_n 1, 1) := by decide +kernel
theorem dX11_proves_5 : decode cX11_proves 5 = .ok (.invokevirtual 184, 3) := by decide +kernel
theorem dX11_proves_8 : decode cX11_proves 8 = .ok (.ifCond .eq 14, 3) := by decide +kernel
theorem dX11_proves_11 : decode cX11_proves 11 = .ok (.aload_n 0, 1) := by decide +kernel
theorem dX11_proves_12 : decode cX11_proves 12 = .ok (.getfield 82, 3) := by decide +kernel
theorem dX11_proves_15 : decode cX11_proves 15 = .ok (.iload_n 1, 1) := by decide +kernel
theorem dX11_proves_16 : decode cX11_proves 16 = .ok (.invokevirtual 281, 3) := by decide +kernel
theorem dX11_proves_19 : decode cX11_proves 19 = .ok (.goto 4, 3) := by decide +kernel
theorem dX11_proves_22 : decode cX11_proves 22 = .ok (.iconst (-1), 1) := by decide +kernel
theorem dX11_proves_23 : decode cX11_proves 23 = .ok (.ireturn, 1) := by decide +kernel
theorem dX7_forget_0 : decode cX7_forget 0 = .ok (.aload_n 0, 1) := by decide +kernel
theorem dX7_forget_1 : decode cX7_forget 1 = .ok (.iconst 0, 1) := by decide +kernel
theorem dX7_forget_2 : decode cX7_forget 2 = .ok (.putfield 20, 3) := by decide +kernel
theorem dX7_forget_5 : decode cX7_forget 5 = .ok (.return_, 1) := by decide +kernel
theorem dX11_restore_0 : decode cX11_restore 0 = .ok (.iload_n 1, 1) := by decide +kernel
theorem dX11_restore_1 : decode cX11_restore 1 = .ok (.ifCond .lt 20, 3) := by decide +kernel
theorem dX11_restore_4 : decode cX11_restore 4 = .ok (.iload_n 1, 1) := by decide +kernel
theorem dX11_restore_5 : decode cX11_restore 5 = .ok (.iconst 2, 1) := by decide +kernel
theorem dX11_restore_6 : decode cX11_restore 6 = .ok (.if_icmp .ge 15, 3) := by decide +kernel
theorem dX11_restore_9 : decode cX11_restore 9 = .ok (.aload_n 0, 1) := by decide +kernel
theorem dX11_restore_10 : decode cX11_restore 10 = .ok (.getfield 44, 3) := by decide +kernel
theorem dX11_restore_13 : decode cX11_restore 13 = .ok (.iload_n 1, 1) := by decide +kernel
theorem dX11_restore_14 : decode cX11_restore 14 = .ok (.aaload, 1) := by decide +kernel
theorem dX11_restore_15 : decode cX11_restore 15 = .ok (.getfield 396, 3) := by decide +kernel
theorem dX11_restore_18 : decode cX11_restore 18 = .ok (.ifCond .ne 5, 3) := by decide +kernel
theorem dX11_restore_21 : decode cX11_restore 21 = .ok (.iconst 0, 1) := by decide +kernel
theorem dX11_restore_22 : decode cX11_restore 22 = .ok (.ireturn, 1) := by decide +kernel
theorem dX11_restore_23 : decode cX11_restore 23 = .ok (.aload_n 0, 1) := by decide +kernel
theorem dX11_restore_24 : decode cX11_restore 24 = .ok (.getfield 19, 3) := by decide +kernel
theorem dX11_restore_27 : decode cX11_restore 27 = .ok (.aload_n 0, 1) := by decide +kernel
theorem dX11_restore_28 : decode cX11_restore 28 = .ok (.getfield 44, 3) := by decide +kernel
theorem dX11_restore_31 : decode cX11_restore 31 = .ok (.iload_n 1, 1) := by decide +kernel
theorem dX11_restore_32 : decode cX11_restore 32 = .ok (.aaload, 1) := by decide +kernel
theorem dX11_restore_33 : decode cX11_restore 33 = .ok (.getfield 400, 3) := by decide +kernel
theorem dX11_restore_36 : decode cX11_restore 36 = .ok (.invokevirtual 134, 3) := by decide +kernel
theorem dX11_restore_39 : decode cX11_restore 39 = .ok (.aload_n 0, 1) := by decide +kernel
theorem dX11_restore_40 : decode cX11_restore 40 = .ok (.getfield 28, 3) := by decide +kernel
theorem dX11_restore_43 : decode cX11_restore 43 = .ok (.aload_n 0, 1) := by decide +kernel
theorem dX11_restore_44 : decode cX11_restore 44 = .ok (.getfield 44, 3) := by decide +kernel
theorem dX11_restore_47 : decode cX11_restore 47 = .ok (.iload_n 1, 1) := by decide +kernel
theorem dX11_restore_48 : decode cX11_restore 48 = .ok (.aaload, 1) := by decide +kernel
theorem dX11_restore_49 : decode cX11_restore 49 = .ok (.getfield 401, 3) := by decide +kernel
theorem dX11_restore_52 : decode cX11_restore 52 = .ok (.invokevirtual 357, 3) := by decide +kernel
theorem dX11_restore_55 : decode cX11_restore 55 = .ok (.aload_n 0, 1) := by decide +kernel
theorem dX11_restore_56 : decode cX11_restore 56 = .ok (.getfield 70, 3) := by decide +kernel
theorem dX11_restore_59 : decode cX11_restore 59 = .ok (.aload_n 0, 1) := by decide +kernel
theorem dX11_restore_60 : decode cX11_restore 60 = .ok (.getfield 44, 3) := by decide +kernel
theorem dX11_restore_63 : decode cX11_restore 63 = .ok (.iload_n 1, 1) := by decide +kernel
theorem dX11_restore_64 : decode cX11_restore 64 = .ok (.aaload, 1) := by decide +kernel
theorem dX11_restore_65 : decode cX11_restore 65 = .ok (.getfield 402, 3) := by decide +kernel
theorem dX11_restore_68 : decode cX11_restore 68 = .ok (.invokevirtual 381, 3) := by decide +kernel
theorem dX11_restore_71 : decode cX11_restore 71 = .ok (.aload_n 0, 1) := by decide +kernel
theorem dX11_restore_72 : decode cX11_restore 72 = .ok (.getfield 38, 3) := by decide +kernel
theorem dX11_restore_75 : decode cX11_restore 75 = .ok (.invokevirtual 140, 3) := by decide +kernel
theorem dX11_restore_78 : decode cX11_restore 78 = .ok (.iconst 1, 1) := by decide +kernel
theorem dX11_restore_79 : decode cX11_restore 79 = .ok (.ireturn, 1) := by decide +kernel
theorem dX6_parloursWithDust_0 : decode cX6_parloursWithDust 0 = .ok (.iconst 0, 1) := by decide +kernel
theorem dX6_parloursWithDust_1 : decode cX6_parloursWithDust 1 = .ok (.istore_n 1, 1) := by decide +kernel
theorem dX6_parloursWithDust_2 : decode cX6_parloursWithDust 2 = .ok (.iconst 0, 1) := by decide +kernel
theorem dX6_parloursWithDust_3 : decode cX6_parloursWithDust 3 = .ok (.istore_n 2, 1) := by decide +kernel
theorem dX6_parloursWithDust_4 : decode cX6_parloursWithDust 4 = .ok (.iload_n 2, 1) := by decide +kernel
theorem dX6_parloursWithDust_5 : decode cX6_parloursWithDust 5 = .ok (.aload_n 0, 1) := by decide +kernel
theorem dX6_parloursWithDust_6 : decode cX6_parloursWithDust 6 = .ok (.invokevirtual 86, 3) := by decide +kernel
theorem dX6_parloursWithDust_9 : decode cX6_parloursWithDust 9 = .ok (.if_icmp .ge 29, 3) := by decide +kernel
theorem dX6_parloursWithDust_12 : decode cX6_parloursWithDust 12 = .ok (.aload_n 0, 1) := by decide +kernel
theorem dX6_parloursWithDust_13 : decode cX6_parloursWithDust 13 = .ok (.getfield 35, 3) := by decide +kernel
theorem dX6_parloursWithDust_16 : decode cX6_parloursWithDust 16 = .ok (.iload_n 2, 1) := by decide +kernel
theorem dX6_parloursWithDust_17 : decode cX6_parloursWithDust 17 = .ok (.iaload, 1) := by decide +kernel
theorem dX6_parloursWithDust_18 : decode cX6_parloursWithDust 18 = .ok (.ifCond .le 14, 3) := by decide +kernel
theorem dX6_parloursWithDust_21 : decode cX6_parloursWithDust 21 = .ok (.iload_n 1, 1) := by decide +kernel
theorem dX6_parloursWithDust_22 : decode cX6_parloursWithDust 22 = .ok (.iconst 1, 1) := by decide +kernel
theorem dX6_parloursWithDust_23 : decode cX6_parloursWithDust 23 = .ok (.aload_n 0, 1) := by decide +kernel
theorem dX6_parloursWithDust_24 : decode cX6_parloursWithDust 24 = .ok (.getfield 32, 3) := by decide +kernel
theorem dX6_parloursWithDust_27 : decode cX6_parloursWithDust 27 = .ok (.iload_n 2, 1) := by decide +kernel
theorem dX6_parloursWithDust_28 : decode cX6_parloursWithDust 28 = .ok (.iaload, 1) := by decide +kernel
theorem dX6_parloursWithDust_29 : decode cX6_parloursWithDust 29 = .ok (.ishl, 1) := by decide +kernel
theorem dX6_parloursWithDust_30 : decode cX6_parloursWithDust 30 = .ok (.ior, 1) := by decide +kernel
theorem dX6_parloursWithDust_31 : decode cX6_parloursWithDust 31 = .ok (.istore_n 1, 1) := by decide +kernel
theorem dX6_parloursWithDust_32 : decode cX6_parloursWithDust 32 = .ok (.iinc 2 1, 3) := by decide +kernel
theorem dX6_parloursWithDust_35 : decode cX6_parloursWithDust 35 = .ok (.goto (-31), 3) := by decide +kernel
theorem dX6_parloursWithDust_38 : decode cX6_parloursWithDust 38 = .ok (.iload_n 1, 1) := by decide +kernel
theorem dX6_parloursWithDust_39 : decode cX6_parloursWithDust 39 = .ok (.ireturn, 1) := by decide +kernel
theorem dX11_round_0 : decode cX11_round 0 = .ok (.aload_n 0, 1) := by decide +kernel
theorem dX11_round_1 : decode cX11_round 1 = .ok (.getfield 19, 3) := by decide +kernel
theorem dX11_round_4 : decode cX11_round 4 = .ok (.iconst 0, 1) := by decide +kernel
theorem dX11_round_5 : decode cX11_round 5 = .ok (.iload_n 1, 1) := by decide +kernel
theorem dX11_round_6 : decode cX11_round 6 = .ok (.invokevirtual 149, 3) := by decide +kernel
theorem dX11_round_9 : decode cX11_round 9 = .ok (.ifCond .eq 25, 3) := by decide +kernel
theorem dX11_round_12 : decode cX11_round 12 = .ok (.aload_n 0, 1) := by decide +kernel
theorem dX11_round_13 : decode cX11_round 13 = .ok (.getfield 89, 3) := by decide +kernel
theorem dX11_round_16 : decode cX11_round 16 = .ok (.aload_n 0, 1) := by decide +kernel
theorem dX11_round_17 : decode cX11_round 17 = .ok (.getfield 19, 3) := by decide +kernel
theorem dX11_round_20 : decode cX11_round 20 = .ok (.iload_n 1, 1) := by decide +kernel
theorem dX11_round_21 : decode cX11_round 21 = .ok (.aload_n 0, 1) := by decide +kernel
theorem dX11_round_22 : decode cX11_round 22 = .ok (.getfield 28, 3) := by decide +kernel
theorem dX11_round_25 : decode cX11_round 25 = .ok (.invokevirtual 301, 3) := by decide +kernel
theorem dX11_round_28 : decode cX11_round 28 = .ok (.invokevirtual 304, 3) := by decide +kernel
theorem dX11_round_31 : decode cX11_round 31 = .ok (.goto 4, 3) := by decide +kernel
theorem dX11_round_34 : decode cX11_round 34 = .ok (.iconst (-1), 1) := by decide +kernel
theorem dX11_round_35 : decode cX11_round 35 = .ok (.ireturn, 1) := by decide +kernel
theorem dX11_roundAt_0 : decode cX11_roundAt 0 = .ok (.iload_n 1, 1) := by decide +kernel
theorem dX11_roundAt_1 : decode cX11_roundAt 1 = .ok (.ifCond .lt 26, 3) := by decide +kernel
theorem dX11_roundAt_4 : decode cX11_roundAt 4 = .ok (.iload_n 1, 1) := by decide +kernel
theorem dX11_roundAt_5 : decode cX11_roundAt 5 = .ok (.aload_n 0, 1) := by decide +kernel
theorem dX11_roundAt_6 : decode cX11_roundAt 6 = .ok (.getfield 89, 3) := by decide +kernel
theorem dX11_roundAt_9 : decode cX11_roundAt 9 = .ok (.getfield 308, 3) := by decide +kernel
theorem dX11_roundAt_12 : decode cX11_roundAt 12 = .ok (.if_icmp .ge 15, 3) := by decide +kernel
theorem dX11_roundAt_15 : decode cX11_roundAt 15 = .ok (.aload_n 0, 1) := by decide +kernel
theorem dX11_roundAt_16 : decode cX11_roundAt 16 = .ok (.getfield 89, 3) := by decide +kernel
theorem dX11_roundAt_19 : decode cX11_roundAt 19 = .ok (.getfield 309, 3) := by decide +kernel
theorem dX11_roundAt_22 : decode cX11_roundAt 22 = .ok (.iload_n 1, 1) := by decide +kernel
theorem dX11_roundAt_23 : decode cX11_roundAt 23 = .ok (.iaload, 1) := by decide +kernel
theorem dX11_roundAt_24 : decode cX11_roundAt 24 = .ok (.goto 4, 3) := by decide +kernel
theorem dX11_roundAt_27 : decode cX11_roundAt 27 = .ok (.iconst (-1), 1) := by decide +kernel
theorem dX11_roundAt_28 : decode cX11_roundAt 28 = .ok (.ireturn, 1) := by decide +kernel
theorem dX8_compares_0 : decode cX8_compares 0 = .ok (.aload_n 0, 1) := by decide +kernel
theorem dX8_compares_1 : decode cX8_compares 1 = .ok (.getfield 15, 3) := by decide +kernel
theorem dX8_compares_4 : decode cX8_compares 4 = .ok (.iload_n 2, 1) := by decide +kernel
theorem dX8_compares_5 : decode cX8_compares 5 = .ok (.iaload, 1) := by decide +kernel
theorem dX8_compares_6 : decode cX8_compares 6 = .ok (.lookupswitch 58 #[(60, 26), (61, 42)], 26) := by decide +kernel
theorem dX8_compares_32 : decode cX8_compares 32 = .ok (.iload_n 1, 1) := by decide +kernel
theorem dX8_compares_33 : decode cX8_compares 33 = .ok (.aload_n 0, 1) := by decide +kernel
theorem dX8_compares_34 : decode cX8_compares 34 = .ok (.getfield 18, 3) := by decide +kernel
theorem dX8_compares_37 : decode cX8_compares 37 = .ok (.iload_n 2, 1) := by decide +kernel
theorem dX8_compares_38 : decode cX8_compares 38 = .ok (.iaload, 1) := by decide +kernel
theorem dX8_compares_39 : decode cX8_compares 39 = .ok (.if_icmp .ge 7, 3) := by decide +kernel
theorem dX8_compares_42 : decode cX8_compares 42 = .ok (.iconst 1, 1) := by decide +kernel
theorem dX8_compares_43 : decode cX8_compares 43 = .ok (.goto 4, 3) := by decide +kernel
theorem dX8_compares_46 : decode cX8_compares 46 = .ok (.iconst 0, 1) := by decide +kernel
theorem dX8_compares_47 : decode cX8_compares 47 = .ok (.ireturn, 1) := by decide +kernel
theorem dX8_compares_48 : decode cX8_compares 48 = .ok (.iload_n 1, 1) := by decide +kernel
theorem dX8_compares_49 : decode cX8_compares 49 = .ok (.aload_n 0, 1) := by decide +kernel
theorem dX8_compares_50 : decode cX8_compares 50 = .ok (.getfield 18, 3) := by decide +kernel
theorem dX8_compares_53 : decode cX8_compares 53 = .ok (.iload_n 2, 1) := by decide +kernel
theorem dX8_compares_54 : decode cX8_compares 54 = .ok (.iaload, 1) := by decide +kernel
theorem dX8_compares_55 : decode cX8_compares 55 = .ok (.if_icmp .ne 7, 3) := by decide +kernel
theorem dX8_compares_58 : decode cX8_compares 58 = .ok (.iconst 1, 1) := by decide +kernel
theorem dX8_compares_59 : decode cX8_compares 59 = .ok (.goto 4, 3) := by decide +kernel
theorem dX8_compares_62 : decode cX8_compares 62 = .ok (.iconst 0, 1) := by decide +kernel
theorem dX8_compares_63 : decode cX8_compares 63 = .ok (.ireturn, 1) := by decide +kernel
theorem dX8_compares_64 : decode cX8_compares 64 = .ok (.iload_n 1, 1) := by decide +kernel
theorem dX8_compares_65 : decode cX8_compares 65 = .ok (.aload_n 0, 1) := by decide +kernel
theorem dX8_compares_66 : decode cX8_compares 66 = .ok (.getfield 18, 3) := by decide +kernel
theorem dX8_compares_69 : decode cX8_compares 69 = .ok (.iload_n 2, 1) := by decide +kernel
theorem dX8_compares_70 : decode cX8_compares 70 = .ok (.iaload, 1) := by decide +kernel
theorem dX8_compares_71 : decode cX8_compares 71 = .ok (.if_icmp .le 7, 3) := by decide +kernel
theorem dX8_compares_74 : decode cX8_compares 74 = .ok (.iconst 1, 1) := by decide +kernel
theorem dX8_compares_75 : decode cX8_compares 75 = .ok (.goto 4, 3) := by decide +kernel
theorem dX8_compares_78 : decode cX8_compares 78 = .ok (.iconst 0, 1) := by decide +kernel
theorem dX8_compares_79 : decode cX8_compares 79 = .ok (.ireturn, 1) := by decide +kernel
theorem dX8_isSo_0 : decode cX8_isSo 0 = .ok (.aload_n 0, 1) := by decide +kernel
theorem dX8_isSo_1 : decode cX8_isSo 1 = .ok (.getfield 11, 3) := by decide +kernel
theorem dX8_isSo_4 : decode cX8_isSo 4 = .ok (.iload_n 3, 1) := by decide +kernel
theorem dX8_isSo_5 : decode cX8_isSo 5 = .ok (.iaload, 1) := by decide +kernel
theorem dX8_isSo_6 : decode cX8_isSo 6 = .ok (.tableswitch 198 3 20 #[92, 198, 198, 198, 198, 198, 198, 198, 198, 198, 198, 198, 86, 111, 132, 147, 172, 186], 86) := by decide +kernel
theorem dX8_isSo_92 : decode cX8_isSo 92 = .ok (.aload_n 1, 1) := by decide +kernel
theorem dX8_isSo_93 : decode cX8_isSo 93 = .ok (.iload_n 2, 1) := by decide +kernel
theorem dX8_isSo_94 : decode cX8_isSo 94 = .ok (.invokevirtual 105, 3) := by decide +kernel
theorem dX8_isSo_97 : decode cX8_isSo 97 = .ok (.ireturn, 1) := by decide +kernel
theorem dX8_isSo_98 : decode cX8_isSo 98 = .ok (.aload_n 1, 1) := by decide +kernel
theorem dX8_isSo_99 : decode cX8_isSo 99 = .ok (.getfield 108, 3) := by decide +kernel
theorem dX8_isSo_102 : decode cX8_isSo 102 = .ok (.getfield 112, 3) := by decide +kernel
theorem dX8_isSo_105 : decode cX8_isSo 105 = .ok (.iload_n 2, 1) := by decide +kernel
theorem dX8_isSo_106 : decode cX8_isSo 106 = .ok (.iaload, 1) := by decide +kernel
theorem dX8_isSo_107 : decode cX8_isSo 107 = .ok (.iconst 1, 1) := by decide +kernel
theorem dX8_isSo_108 : decode cX8_isSo 108 = .ok (.if_icmp .ne 7, 3) := by decide +kernel
theorem dX8_isSo_111 : decode cX8_isSo 111 = .ok (.iconst 1, 1) := by decide +kernel
theorem dX8_isSo_112 : decode cX8_isSo 112 = .ok (.goto 4, 3) := by decide +kernel
theorem dX8_isSo_115 : decode cX8_isSo 115 = .ok (.iconst 0, 1) := by decide +kernel
theorem dX8_isSo_116 : decode cX8_isSo 116 = .ok (.ireturn, 1) := by decide +kernel
theorem dX8_isSo_117 : decode cX8_isSo 117 = .ok (.aload_n 1, 1) := by decide +kernel
theorem dX8_isSo_118 : decode cX8_isSo 118 = .ok (.getfield 117, 3) := by decide +kernel
theorem dX8_isSo_121 : decode cX8_isSo 121 = .ok (.iload_n 2, 1) := by decide +kernel
theorem dX8_isSo_122 : decode cX8_isSo 122 = .ok (.iaload, 1) := by decide +kernel
theorem dX8_isSo_123 : decode cX8_isSo 123 = .ok (.aload_n 0, 1) := by decide +kernel
theorem dX8_isSo_124 : decode cX8_isSo 124 = .ok (.getfield 15, 3) := by decide +kernel
theorem dX8_isSo_127 : decode cX8_isSo 127 = .ok (.iload_n 3, 1) := by decide +kernel
theorem dX8_isSo_128 : decode cX8_isSo 128 = .ok (.iaload, 1) := by decide +kernel
theorem dX8_isSo_129 : decode cX8_isSo 129 = .ok (.if_icmp .ne 7, 3) := by decide +kernel
theorem dX8_isSo_132 : decode cX8_isSo 132 = .ok (.iconst 1, 1) := by decide +kernel
theorem dX8_isSo_133 : decode cX8_isSo 133 = .ok (.goto 4, 3) := by decide +kernel
theorem dX8_isSo_136 : decode cX8_isSo 136 = .ok (.iconst 0, 1) := by decide +kernel
theorem dX8_isSo_137 : decode cX8_isSo 137 = .ok (.ireturn, 1) := by decide +kernel
theorem dX8_isSo_138 : decode cX8_isSo 138 = .ok (.aload_n 1, 1) := by decide +kernel
theorem dX8_isSo_139 : decode cX8_isSo 139 = .ok (.iload_n 2, 1) := by decide +kernel
theorem dX8_isSo_140 : decode cX8_isSo 140 = .ok (.invokevirtual 120, 3) := by decide +kernel
theorem dX8_isSo_143 : decode cX8_isSo 143 = .ok (.aload_n 0, 1) := by decide +kernel
theorem dX8_isSo_144 : decode cX8_isSo 144 = .ok (.getfield 15, 3) := by decide +kernel
theorem dX8_isSo_147 : decode cX8_isSo 147 = .ok (.iload_n 3, 1) := by decide +kernel
theorem dX8_isSo_148 : decode cX8_isSo 148 = .ok (.iaload, 1) := by decide +kernel
theorem dX8_isSo_149 : decode cX8_isSo 149 = .ok (.invokestatic 123, 3) := by decide +kernel
theorem dX8_isSo_152 : decode cX8_isSo 152 = .ok (.ireturn, 1) := by decide +kernel
theorem dX8_isSo_153 : decode cX8_isSo 153 = .ok (.aload_n 1, 1) := by decide +kernel
theorem dX8_isSo_154 : decode cX8_isSo 154 = .ok (.iload_n 2, 1) := by decide +kernel
theorem dX8_isSo_155 : decode cX8_isSo 155 = .ok (.invokevirtual 127, 3) := by decide +kernel
theorem dX8_isSo_158 : decode cX8_isSo 158 = .ok (.aload_n 1, 1) := by decide +kernel
theorem dX8_isSo_159 : decode cX8_isSo 159 = .ok (.aload_n 0, 1) := by decide +kernel
theorem dX8_isSo_160 : decode cX8_isSo 160 = .ok (.getfield 15, 3) := by decide +kernel
theorem dX8_isSo_163 : decode cX8_isSo 163 = .ok (.iload_n 3, 1) := by decide +kernel
theorem dX8_isSo_164 : decode cX8_isSo 164 = .ok (.iaload, 1) := by decide +kernel
theorem dX8_isSo_165 : decode cX8_isSo 165 = .ok (.invokevirtual 130, 3) := by decide +kernel
theorem dX8_isSo_168 : decode cX8_isSo 168 = .ok (.iand, 1) := by decide +kernel
theorem dX8_isSo_169 : decode cX8_isSo 169 = .ok (.ifCond .eq 7, 3) := by decide +kernel
theorem dX8_isSo_172 : decode cX8_isSo 172 = .ok (.iconst 1, 1) := by decide +kernel
theorem dX8_isSo_173 : decode cX8_isSo 173 = .ok (.goto 4, 3) := by decide +kernel
theorem dX8_isSo_176 : decode cX8_isSo 176 = .ok (.iconst 0, 1) := by decide +kernel
theorem dX8_isSo_177 : decode cX8_isSo 177 = .ok (.ireturn, 1) := by decide +kernel
theorem dX8_isSo_178 : decode cX8_isSo 178 = .ok (.aload_n 0, 1) := by decide +kernel
theorem dX8_isSo_179 : decode cX8_isSo 179 = .ok (.aload_n 1, 1) := by decide +kernel
theorem dX8_isSo_180 : decode cX8_isSo 180 = .ok (.iload_n 2, 1) := by decide +kernel
theorem dX8_isSo_181 : decode cX8_isSo 181 = .ok (.invokevirtual 127, 3) := by decide +kernel
theorem dX8_isSo_184 : decode cX8_isSo 184 = .ok (.invokestatic 133, 3) := by decide +kernel
theorem dX8_isSo_187 : decode cX8_isSo 187 = .ok (.iload_n 3, 1) := by decide +kernel
theorem dX8_isSo_188 : decode cX8_isSo 188 = .ok (.invokevirtual 138, 3) := by decide +kernel
theorem dX8_isSo_191 : decode cX8_isSo 191 = .ok (.ireturn, 1) := by decide +kernel
theorem dX8_isSo_192 : decode cX8_isSo 192 = .ok (.aload_n 0, 1) := by decide +kernel
theorem dX8_isSo_193 : decode cX8_isSo 193 = .ok (.aload_n 1, 1) := by decide +kernel
theorem dX8_isSo_194 : decode cX8_isSo 194 = .ok (.getfield 141, 3) := by decide +kernel
theorem dX8_isSo_197 : decode cX8_isSo 197 = .ok (.iload_n 2, 1) := by decide +kernel
theorem dX8_isSo_198 : decode cX8_isSo 198 = .ok (.iaload, 1) := by decide +kernel
theorem dX8_isSo_199 : decode cX8_isSo 199 = .ok (.iload_n 3, 1) := by decide +kernel
theorem dX8_isSo_200 : decode cX8_isSo 200 = .ok (.invokevirtual 138, 3) := by decide +kernel
theorem dX8_isSo_203 : decode cX8_isSo 203 = .ok (.ireturn, 1) := by decide +kernel
theorem dX8_isSo_204 : decode cX8_isSo 204 = .ok (.aload_n 0, 1) := by decide +kernel
theorem dX8_isSo_205 : decode cX8_isSo 205 = .ok (.iload_n 2, 1) := by decide +kernel
theorem dX8_isSo_206 : decode cX8_isSo 206 = .ok (.iload_n 3, 1) := by decide +kernel
theorem dX8_isSo_207 : decode cX8_isSo 207 = .ok (.invokevirtual 138, 3) := by decide +kernel
theorem dX8_isSo_210 : decode cX8_isSo 210 = .ok (.ireturn, 1) := by decide +kernel
theorem dX8_plantsThat_0 : decode cX8_plantsThat 0 = .ok (.iconst 0, 1) := by decide +kernel
theorem dX8_plantsThat_1 : decode cX8_plantsThat 1 = .ok (.istore_n 3, 1) := by decide +kernel
theorem dX8_plantsThat_2 : decode cX8_plantsThat 2 = .ok (.iconst 0, 1) := by decide +kernel
theorem dX8_plantsThat_3 : decode cX8_plantsThat 3 = .ok (.istore 4, 2) := by decide +kernel
theorem dX8_plantsThat_5 : decode cX8_plantsThat 5 = .ok (.iload 4, 2) := by decide +kernel
theorem dX8_plantsThat_7 : decode cX8_plantsThat 7 = .ok (.aload_n 1, 1) := by decide +kernel
theorem dX8_plantsThat_8 : decode cX8_plantsThat 8 = .ok (.invokevirtual 88, 3) := by decide +kernel
theorem dX8_plantsThat_11 : decode cX8_plantsThat 11 = .ok (.if_icmp .ge 27, 3) := by decide +kernel
theorem dX8_plantsThat_14 : decode cX8_plantsThat 14 = .ok (.aload_n 0, 1) := by decide +kernel
theorem dX8_plantsThat_15 : decode cX8_plantsThat 15 = .ok (.aload_n 1, 1) := by decide +kernel
theorem dX8_plantsThat_16 : decode cX8_plantsThat 16 = .ok (.iload 4, 2) := by decide +kernel
theorem dX8_plantsThat_18 : decode cX8_plantsThat 18 = .ok (.iload_n 2, 1) := by decide +kernel
theorem dX8_plantsThat_19 : decode cX8_plantsThat 19 = .ok (.invokevirtual 101, 3) := by decide +kernel
theorem dX8_plantsThat_22 : decode cX8_plantsThat 22 = .ok (.ifCond .eq 10, 3) := by decide +kernel
theorem dX8_plantsThat_25 : decode cX8_plantsThat 25 = .ok (.iload_n 3, 1) := by decide +kernel
theorem dX8_plantsThat_26 : decode cX8_plantsThat 26 = .ok (.iconst 1, 1) := by decide +kernel
theorem dX8_plantsThat_27 : decode cX8_plantsThat 27 = .ok (.iload 4, 2) := by decide +kernel
theorem dX8_plantsThat_29 : decode cX8_plantsThat 29 = .ok (.ishl, 1) := by decide +kernel
theorem dX8_plantsThat_30 : decode cX8_plantsThat 30 = .ok (.ior, 1) := by decide +kernel
theorem dX8_plantsThat_31 : decode cX8_plantsThat 31 = .ok (.istore_n 3, 1) := by decide +kernel
theorem dX8_plantsThat_32 : decode cX8_plantsThat 32 = .ok (.iinc 4 1, 3) := by decide +kernel
theorem dX8_plantsThat_35 : decode cX8_plantsThat 35 = .ok (.goto (-30), 3) := by decide +kernel
theorem dX8_plantsThat_38 : decode cX8_plantsThat 38 = .ok (.iload_n 3, 1) := by decide +kernel
theorem dX8_plantsThat_39 : decode cX8_plantsThat 39 = .ok (.ireturn, 1) := by decide +kernel
theorem dX8_plantsOf_0 : decode cX8_plantsOf 0 = .ok (.aload_n 1, 1) := by decide +kernel
theorem dX8_plantsOf_1 : decode cX8_plantsOf 1 = .ok (.invokevirtual 88, 3) := by decide +kernel
theorem dX8_plantsOf_4 : decode cX8_plantsOf 4 = .ok (.invokestatic 93, 3) := by decide +kernel
theorem dX8_plantsOf_7 : decode cX8_plantsOf 7 = .ok (.istore_n 2, 1) := by decide +kernel
theorem dX8_plantsOf_8 : decode cX8_plantsOf 8 = .ok (.iconst 0, 1) := by decide +kernel
theorem dX8_plantsOf_9 : decode cX8_plantsOf 9 = .ok (.istore_n 3, 1) := by decide +kernel
theorem dX8_plantsOf_10 : decode cX8_plantsOf 10 = .ok (.iconst 0, 1) := by decide +kernel
theorem dX8_plantsOf_11 : decode cX8_plantsOf 11 = .ok (.istore 4, 2) := by decide +kernel
theorem dX8_plantsOf_13 : decode cX8_plantsOf 13 = .ok (.iload 4, 2) := by decide +kernel
theorem dX8_plantsOf_15 : decode cX8_plantsOf 15 = .ok (.aload_n 0, 1) := by decide +kernel
theorem dX8_plantsOf_16 : decode cX8_plantsOf 16 = .ok (.getfield 24, 3) := by decide +kernel
theorem dX8_plantsOf_19 : decode cX8_plantsOf 19 = .ok (.if_icmp .ge 182, 3) := by decide +kernel
theorem dX8_plantsOf_22 : decode cX8_plantsOf 22 = .ok (.aload_n 0, 1) := by decide +kernel
theorem dX8_plantsOf_23 : decode cX8_plantsOf 23 = .ok (.getfield 11, 3) := by decide +kernel
theorem dX8_plantsOf_26 : decode cX8_plantsOf 26 = .ok (.iload 4, 2) := by decide +kernel
theorem dX8_plantsOf_28 : decode cX8_plantsOf 28 = .ok (.iaload, 1) := by decide +kernel
theorem dX8_plantsOf_29 : decode cX8_plantsOf 29 = .ok (.bipush 13, 2) := by decide +kernel
theorem dX8_plantsOf_31 : decode cX8_plantsOf 31 = .ok (.if_icmp .eq 15, 3) := by decide +kernel
theorem dX8_plantsOf_34 : decode cX8_plantsOf 34 = .ok (.aload_n 0, 1) := by decide +kernel
theorem dX8_plantsOf_35 : decode cX8_plantsOf 35 = .ok (.getfield 11, 3) := by decide +kernel
theorem dX8_plantsOf_38 : decode cX8_plantsOf 38 = .ok (.iload 4, 2) := by decide +kernel
theorem dX8_plantsOf_40 : decode cX8_plantsOf 40 = .ok (.iaload, 1) := by decide +kernel
theorem dX8_plantsOf_41 : decode cX8_plantsOf 41 = .ok (.bipush 12, 2) := by decide +kernel
theorem dX8_plantsOf_43 : decode cX8_plantsOf 43 = .ok (.if_icmp .ne 7, 3) := by decide +kernel
theorem dX8_plantsOf_46 : decode cX8_plantsOf 46 = .ok (.iconst 1, 1) := by decide +kernel
theorem dX8_plantsOf_47 : decode cX8_plantsOf 47 = .ok (.goto 4, 3) := by decide +kernel
theorem dX8_plantsOf_50 : decode cX8_plantsOf 50 = .ok (.iconst 0, 1) := by decide +kernel
theorem dX8_plantsOf_51 : decode cX8_plantsOf 51 = .ok (.istore 5, 2) := by decide +kernel
theorem dX8_plantsOf_53 : decode cX8_plantsOf 53 = .ok (.iload 5, 2) := by decide +kernel
theorem dX8_plantsOf_55 : decode cX8_plantsOf 55 = .ok (.ifCond .eq 67, 3) := by decide +kernel
theorem dX8_plantsOf_58 : decode cX8_plantsOf 58 = .ok (.iload_n 3, 1) := by decide +kernel
theorem dX8_plantsOf_59 : decode cX8_plantsOf 59 = .ok (.iconst 2, 1) := by decide +kernel
theorem dX8_plantsOf_60 : decode cX8_plantsOf 60 = .ok (.if_icmp .lt 62, 3) := by decide +kernel
theorem dX8_plantsOf_63 : decode cX8_plantsOf 63 = .ok (.iinc 3 (-1), 3) := by decide +kernel
theorem dX8_plantsOf_66 : decode cX8_plantsOf 66 = .ok (.aload_n 0, 1) := by decide +kernel
theorem dX8_plantsOf_67 : decode cX8_plantsOf 67 = .ok (.getfield 21, 3) := by decide +kernel
theorem dX8_plantsOf_70 : decode cX8_plantsOf 70 = .ok (.iload_n 3, 1) := by decide +kernel
theorem dX8_plantsOf_71 : decode cX8_plantsOf 71 = .ok (.iconst 1, 1) := by decide +kernel
theorem dX8_plantsOf_72 : decode cX8_plantsOf 72 = .ok (.isub, 1) := by decide +kernel
theorem dX8_plantsOf_73 : decode cX8_plantsOf 73 = .ok (.aload_n 0, 1) := by decide +kernel
theorem dX8_plantsOf_74 : decode cX8_plantsOf 74 = .ok (.getfield 11, 3) := by decide +kernel
theorem dX8_plantsOf_77 : decode cX8_plantsOf 77 = .ok (.iload 4, 2) := by decide +kernel
theorem dX8_plantsOf_79 : decode cX8_plantsOf 79 = .ok (.iaload, 1) := by decide +kernel
theorem dX8_plantsOf_80 : decode cX8_plantsOf 80 = .ok (.bipush 13, 2) := by decide +kernel
theorem dX8_plantsOf_82 : decode cX8_plantsOf 82 = .ok (.if_icmp .ne 21, 3) := by decide +kernel
theorem dX8_plantsOf_85 : decode cX8_plantsOf 85 = .ok (.aload_n 0, 1) := by decide +kernel
theorem dX8_plantsOf_86 : decode cX8_plantsOf 86 = .ok (.getfield 21, 3) := by decide +kernel
theorem dX8_plantsOf_89 : decode cX8_plantsOf 89 = .ok (.iload_n 3, 1) := by decide +kernel
theorem dX8_plantsOf_90 : decode cX8_plantsOf 90 = .ok (.iconst 1, 1) := by decide +kernel
theorem dX8_plantsOf_91 : decode cX8_plantsOf 91 = .ok (.isub, 1) := by decide +kernel
theorem dX8_plantsOf_92 : decode cX8_plantsOf 92 = .ok (.iaload, 1) := by decide +kernel
theorem dX8_plantsOf_93 : decode cX8_plantsOf 93 = .ok (.aload_n 0, 1) := by decide +kernel
theorem dX8_plantsOf_94 : decode cX8_plantsOf 94 = .ok (.getfield 21, 3) := by decide +kernel
theorem dX8_plantsOf_97 : decode cX8_plantsOf 97 = .ok (.iload_n 3, 1) := by decide +kernel
theorem dX8_plantsOf_98 : decode cX8_plantsOf 98 = .ok (.iaload, 1) := by decide +kernel
theorem dX8_plantsOf_99 : decode cX8_plantsOf 99 = .ok (.iand, 1) := by decide +kernel
theorem dX8_plantsOf_100 : decode cX8_plantsOf 100 = .ok (.goto 18, 3) := by decide +kernel
theorem dX8_plantsOf_103 : decode cX8_plantsOf 103 = .ok (.aload_n 0, 1) := by decide +kernel
theorem dX8_plantsOf_104 : decode cX8_plantsOf 104 = .ok (.getfield 21, 3) := by decide +kernel
theorem dX8_plantsOf_107 : decode cX8_plantsOf 107 = .ok (.iload_n 3, 1) := by decide +kernel
theorem dX8_plantsOf_108 : decode cX8_plantsOf 108 = .ok (.iconst 1, 1) := by decide +kernel
theorem dX8_plantsOf_109 : decode cX8_plantsOf 109 = .ok (.isub, 1) := by decide +kernel
theorem dX8_plantsOf_110 : decode cX8_plantsOf 110 = .ok (.iaload, 1) := by decide +kernel
theorem dX8_plantsOf_111 : decode cX8_plantsOf 111 = .ok (.aload_n 0, 1) := by decide +kernel
theorem dX8_plantsOf_112 : decode cX8_plantsOf 112 = .ok (.getfield 21, 3) := by decide +kernel
theorem dX8_plantsOf_115 : decode cX8_plantsOf 115 = .ok (.iload_n 3, 1) := by decide +kernel
theorem dX8_plantsOf_116 : decode cX8_plantsOf 116 = .ok (.iaload, 1) := by decide +kernel
theorem dX8_plantsOf_117 : decode cX8_plantsOf 117 = .ok (.ior, 1) := by decide +kernel
theorem dX8_plantsOf_118 : decode cX8_plantsOf 118 = .ok (.iastore, 1) := by decide +kernel
theorem dX8_plantsOf_119 : decode cX8_plantsOf 119 = .ok (.goto 76, 3) := by decide +kernel
theorem dX8_plantsOf_122 : decode cX8_plantsOf 122 = .ok (.aload_n 0, 1) := by decide +kernel
theorem dX8_plantsOf_123 : decode cX8_plantsOf 123 = .ok (.getfield 11, 3) := by decide +kernel
theorem dX8_plantsOf_126 : decode cX8_plantsOf 126 = .ok (.iload 4, 2) := by decide +kernel
theorem dX8_plantsOf_128 : decode cX8_plantsOf 128 = .ok (.iaload, 1) := by decide +kernel
theorem dX8_plantsOf_129 : decode cX8_plantsOf 129 = .ok (.bipush 14, 2) := by decide +kernel
theorem dX8_plantsOf_131 : decode cX8_plantsOf 131 = .ok (.if_icmp .ne 31, 3) := by decide +kernel
theorem dX8_plantsOf_134 : decode cX8_plantsOf 134 = .ok (.iload_n 3, 1) := by decide +kernel
theorem dX8_plantsOf_135 : decode cX8_plantsOf 135 = .ok (.iconst 1, 1) := by decide +kernel
theorem dX8_plantsOf_136 : decode cX8_plantsOf 136 = .ok (.if_icmp .lt 26, 3) := by decide +kernel
theorem dX8_plantsOf_139 : decode cX8_plantsOf 139 = .ok (.aload_n 0, 1) := by decide +kernel
theorem dX8_plantsOf_140 : decode cX8_plantsOf 140 = .ok (.getfield 21, 3) := by decide +kernel
theorem dX8_plantsOf_143 : decode cX8_plantsOf 143 = .ok (.iload_n 3, 1) := by decide +kernel
theorem dX8_plantsOf_144 : decode cX8_plantsOf 144 = .ok (.iconst 1, 1) := by decide +kernel
theorem dX8_plantsOf_145 : decode cX8_plantsOf 145 = .ok (.isub, 1) := by decide +kernel
theorem dX8_plantsOf_146 : decode cX8_plantsOf 146 = .ok (.iload_n 2, 1) := by decide +kernel
theorem dX8_plantsOf_147 : decode cX8_plantsOf 147 = .ok (.aload_n 0, 1) := by decide +kernel
theorem dX8_plantsOf_148 : decode cX8_plantsOf 148 = .ok (.getfield 21, 3) := by decide +kernel
theorem dX8_plantsOf_151 : decode cX8_plantsOf 151 = .ok (.iload_n 3, 1) := by decide +kernel
theorem dX8_plantsOf_152 : decode cX8_plantsOf 152 = .ok (.iconst 1, 1) := by decide +kernel
theorem dX8_plantsOf_153 : decode cX8_plantsOf 153 = .ok (.isub, 1) := by decide +kernel
theorem dX8_plantsOf_154 : decode cX8_plantsOf 154 = .ok (.iaload, 1) := by decide +kernel
theorem dX8_plantsOf_155 : decode cX8_plantsOf 155 = .ok (.iconst (-1), 1) := by decide +kernel
theorem dX8_plantsOf_156 : decode cX8_plantsOf 156 = .ok (.ixor, 1) := by decide +kernel
theorem dX8_plantsOf_157 : decode cX8_plantsOf 157 = .ok (.iand, 1) := by decide +kernel
theorem dX8_plantsOf_158 : decode cX8_plantsOf 158 = .ok (.iastore, 1) := by decide +kernel
theorem dX8_plantsOf_159 : decode cX8_plantsOf 159 = .ok (.goto 36, 3) := by decide +kernel
theorem dX8_plantsOf_162 : decode cX8_plantsOf 162 = .ok (.iload 5, 2) := by decide +kernel
theorem dX8_plantsOf_164 : decode cX8_plantsOf 164 = .ok (.ifCond .ne 31, 3) := by decide +kernel
theorem dX8_plantsOf_167 : decode cX8_plantsOf 167 = .ok (.aload_n 0, 1) := by decide +kernel
theorem dX8_plantsOf_168 : decode cX8_plantsOf 168 = .ok (.getfield 11, 3) := by decide +kernel
theorem dX8_plantsOf_171 : decode cX8_plantsOf 171 = .ok (.iload 4, 2) := by decide +kernel
theorem dX8_plantsOf_173 : decode cX8_plantsOf 173 = .ok (.iaload, 1) := by decide +kernel
theorem dX8_plantsOf_174 : decode cX8_plantsOf 174 = .ok (.bipush 14, 2) := by decide +kernel
theorem dX8_plantsOf_176 : decode cX8_plantsOf 176 = .ok (.if_icmp .eq 19, 3) := by decide +kernel
theorem dX8_plantsOf_179 : decode cX8_plantsOf 179 = .ok (.aload_n 0, 1) := by decide +kernel
theorem dX8_plantsOf_180 : decode cX8_plantsOf 180 = .ok (.getfield 21, 3) := by decide +kernel
theorem dX8_plantsOf_183 : decode cX8_plantsOf 183 = .ok (.iload_n 3, 1) := by decide +kernel
theorem dX8_plantsOf_184 : decode cX8_plantsOf 184 = .ok (.aload_n 0, 1) := by decide +kernel
theorem dX8_plantsOf_185 : decode cX8_plantsOf 185 = .ok (.aload_n 1, 1) := by decide +kernel
theorem dX8_plantsOf_186 : decode cX8_plantsOf 186 = .ok (.iload 4, 2) := by decide +kernel
theorem dX8_plantsOf_188 : decode cX8_plantsOf 188 = .ok (.invokevirtual 97, 3) := by decide +kernel
theorem dX8_plantsOf_191 : decode cX8_plantsOf 191 = .ok (.iastore, 1) := by decide +kernel
theorem dX8_plantsOf_192 : decode cX8_plantsOf 192 = .ok (.iinc 3 1, 3) := by decide +kernel
theorem dX8_plantsOf_195 : decode cX8_plantsOf 195 = .ok (.iinc 4 1, 3) := by decide +kernel
theorem dX8_plantsOf_198 : decode cX8_plantsOf 198 = .ok (.goto (-185), 3) := by decide +kernel
theorem dX8_plantsOf_201 : decode cX8_plantsOf 201 = .ok (.iload_n 3, 1) := by decide +kernel
theorem dX8_plantsOf_202 : decode cX8_plantsOf 202 = .ok (.iconst 1, 1) := by decide +kernel
theorem dX8_plantsOf_203 : decode cX8_plantsOf 203 = .ok (.if_icmp .ne 12, 3) := by decide +kernel
theorem dX8_plantsOf_206 : decode cX8_plantsOf 206 = .ok (.aload_n 0, 1) := by decide +kernel
theorem dX8_plantsOf_207 : decode cX8_plantsOf 207 = .ok (.getfield 21, 3) := by decide +kernel
theorem dX8_plantsOf_210 : decode cX8_plantsOf 210 = .ok (.iconst 0, 1) := by decide +kernel
theorem dX8_plantsOf_211 : decode cX8_plantsOf 211 = .ok (.iaload, 1) := by decide +kernel
theorem dX8_plantsOf_212 : decode cX8_plantsOf 212 = .ok (.goto 4, 3) := by decide +kernel
theorem dX8_plantsOf_215 : decode cX8_plantsOf 215 = .ok (.iconst 0, 1) := by decide +kernel
theorem dX8_plantsOf_216 : decode cX8_plantsOf 216 = .ok (.ireturn, 1) := by decide +kernel
theorem dX11_said_0 : decode cX11_said 0 = .ok (.aload_n 0, 1) := by decide +kernel
theorem dX11_said_1 : decode cX11_said 1 = .ok (.getfield 70, 3) := by decide +kernel
theorem dX11_said_4 : decode cX11_said 4 = .ok (.getfield 384, 3) := by decide +kernel
theorem dX11_said_7 : decode cX11_said 7 = .ok (.ifCond .eq 8, 3) := by decide +kernel
theorem dX11_said_10 : decode cX11_said 10 = .ok (.iload_n 1, 1) := by decide +kernel
theorem dX11_said_11 : decode cX11_said 11 = .ok (.iconst (-1), 1) := by decide +kernel
theorem dX11_said_12 : decode cX11_said 12 = .ok (.if_icmp .ge 5, 3) := by decide +kernel
theorem dX11_said_15 : decode cX11_said 15 = .ok (.iconst (-1), 1) := by decide +kernel
theorem dX11_said_16 : decode cX11_said 16 = .ok (.ireturn, 1) := by decide +kernel
theorem dX11_said_17 : decode cX11_said 17 = .ok (.aload_n 0, 1) := by decide +kernel
theorem dX11_said_18 : decode cX11_said 18 = .ok (.getfield 70, 3) := by decide +kernel
theorem dX11_said_21 : decode cX11_said 21 = .ok (.aload_n 0, 1) := by decide +kernel
theorem dX11_said_22 : decode cX11_said 22 = .ok (.getfield 28, 3) := by decide +kernel
theorem dX11_said_25 : decode cX11_said 25 = .ok (.invokevirtual 387, 3) := by decide +kernel
theorem dX11_said_28 : decode cX11_said 28 = .ok (.istore_n 2, 1) := by decide +kernel
theorem dX11_said_29 : decode cX11_said 29 = .ok (.iload_n 1, 1) := by decide +kernel
theorem dX11_said_30 : decode cX11_said 30 = .ok (.iconst (-1), 1) := by decide +kernel
theorem dX11_said_31 : decode cX11_said 31 = .ok (.if_icmp .ne 10, 3) := by decide +kernel
theorem dX11_said_34 : decode cX11_said 34 = .ok (.iload_n 2, 1) := by decide +kernel
theorem dX11_said_35 : decode cX11_said 35 = .ok (.invokestatic 176, 3) := by decide +kernel
theorem dX11_said_38 : decode cX11_said 38 = .ok (.goto 8, 3) := by decide +kernel
theorem dX11_said_41 : decode cX11_said 41 = .ok (.iload_n 2, 1) := by decide +kernel
theorem dX11_said_42 : decode cX11_said 42 = .ok (.iload_n 1, 1) := by decide +kernel
theorem dX11_said_43 : decode cX11_said 43 = .ok (.invokestatic 390, 3) := by decide +kernel
theorem dX11_said_46 : decode cX11_said 46 = .ok (.ireturn, 1) := by decide +kernel
theorem dX11_sights_0 : decode cX11_sights 0 = .ok (.aload_n 0, 1) := by decide +kernel
theorem dX11_sights_1 : decode cX11_sights 1 = .ok (.getfield 19, 3) := by decide +kernel
theorem dX11_sights_4 : decode cX11_sights 4 = .ok (.iconst 0, 1) := by decide +kernel
theorem dX11_sights_5 : decode cX11_sights 5 = .ok (.iload_n 1, 1) := by decide +kernel
theorem dX11_sights_6 : decode cX11_sights 6 = .ok (.invokevirtual 149, 3) := by decide +kernel
theorem dX11_sights_9 : decode cX11_sights 9 = .ok (.ifCond .eq 15, 3) := by decide +kernel
theorem dX11_sights_12 : decode cX11_sights 12 = .ok (.aload_n 0, 1) := by decide +kernel
theorem dX11_sights_13 : decode cX11_sights 13 = .ok (.getfield 19, 3) := by decide +kernel
theorem dX11_sights_16 : decode cX11_sights 16 = .ok (.getfield 217, 3) := by decide +kernel
theorem dX11_sights_19 : decode cX11_sights 19 = .ok (.iload_n 1, 1) := by decide +kernel
theorem dX11_sights_20 : decode cX11_sights 20 = .ok (.iaload, 1) := by decide +kernel
theorem dX11_sights_21 : decode cX11_sights 21 = .ok (.goto 4, 3) := by decide +kernel
theorem dX11_sights_24 : decode cX11_sights 24 = .ok (.iconst (-1), 1) := by decide +kernel
theorem dX11_sights_25 : decode cX11_sights 25 = .ok (.ireturn, 1) := by decide +kernel
theorem dX11_sponge_0 : decode cX11_sponge 0 = .ok (.aload_n 0, 1) := by decide +kernel
theorem dX11_sponge_1 : decode cX11_sponge 1 = .ok (.getfield 19, 3) := by decide +kernel
theorem dX11_sponge_4 : decode cX11_sponge 4 = .ok (.iconst 1, 1) := by decide +kernel
theorem dX11_sponge_5 : decode cX11_sponge 5 = .ok (.iload_n 1, 1) := by decide +kernel
theorem dX11_sponge_6 : decode cX11_sponge 6 = .ok (.invokevirtual 149, 3) := by decide +kernel
theorem dX11_sponge_9 : decode cX11_sponge 9 = .ok (.ifCond .ne 5, 3) := by decide +kernel
theorem dX11_sponge_12 : decode cX11_sponge 12 = .ok (.iconst (-1), 1) := by decide +kernel
theorem dX11_sponge_13 : decode cX11_sponge 13 = .ok (.ireturn, 1) := by decide +kernel
theorem dX11_sponge_14 : decode cX11_sponge 14 = .ok (.aload_n 0, 1) := by decide +kernel
theorem dX11_sponge_15 : decode cX11_sponge 15 = .ok (.getfield 28, 3) := by decide +kernel
theorem dX11_sponge_18 : decode cX11_sponge 18 = .ok (.iload_n 1, 1) := by decide +kernel
theorem dX11_sponge_19 : decode cX11_sponge 19 = .ok (.invokevirtual 252, 3) := by decide +kernel
theorem dX11_sponge_22 : decode cX11_sponge 22 = .ok (.istore_n 2, 1) := by decide +kernel
theorem dX11_sponge_23 : decode cX11_sponge 23 = .ok (.iload_n 2, 1) := by decide +kernel
theorem dX11_sponge_24 : decode cX11_sponge 24 = .ok (.ifCond .ne 22, 3) := by decide +kernel
theorem dX11_sponge_27 : decode cX11_sponge 27 = .ok (.aload_n 0, 1) := by decide +kernel
theorem dX11_sponge_28 : decode cX11_sponge 28 = .ok (.getfield 38, 3) := by decide +kernel
theorem dX11_sponge_31 : decode cX11_sponge 31 = .ok (.aload_n 0, 1) := by decide +kernel
theorem dX11_sponge_32 : decode cX11_sponge 32 = .ok (.getfield 28, 3) := by decide +kernel
theorem dX11_sponge_35 : decode cX11_sponge 35 = .ok (.invokevirtual 244, 3) := by decide +kernel
theorem dX11_sponge_38 : decode cX11_sponge 38 = .ok (.aload_n 0, 1) := by decide +kernel
theorem dX11_sponge_39 : decode cX11_sponge 39 = .ok (.getfield 28, 3) := by decide +kernel
theorem dX11_sponge_42 : decode cX11_sponge 42 = .ok (.iload_n 1, 1) := by decide +kernel
theorem dX11_sponge_43 : decode cX11_sponge 43 = .ok (.invokevirtual 255, 3) := by decide +kernel
theorem dX11_sponge_46 : decode cX11_sponge 46 = .ok (.iload_n 2, 1) := by decide +kernel
theorem dX11_sponge_47 : decode cX11_sponge 47 = .ok (.ireturn, 1) := by decide +kernel
theorem dX11_told_0 : decode cX11_told 0 = .ok (.iload_n 1, 1) := by decide +kernel
theorem dX11_told_1 : decode cX11_told 1 = .ok (.tableswitch 63 0 3 #[31, 39, 47, 55], 31) := by decide +kernel
theorem dX11_told_32 : decode cX11_told 32 = .ok (.aload_n 0, 1) := by decide +kernel
theorem dX11_told_33 : decode cX11_told 33 = .ok (.getfield 63, 3) := by decide +kernel
theorem dX11_told_36 : decode cX11_told 36 = .ok (.getfield 368, 3) := by decide +kernel
theorem dX11_told_39 : decode cX11_told 39 = .ok (.ireturn, 1) := by decide +kernel
theorem dX11_told_40 : decode cX11_told 40 = .ok (.aload_n 0, 1) := by decide +kernel
theorem dX11_told_41 : decode cX11_told 41 = .ok (.getfield 63, 3) := by decide +kernel
theorem dX11_told_44 : decode cX11_told 44 = .ok (.getfield 365, 3) := by decide +kernel
theorem dX11_told_47 : decode cX11_told 47 = .ok (.ireturn, 1) := by decide +kernel
theorem dX11_told_48 : decode cX11_told 48 = .ok (.aload_n 0, 1) := by decide +kernel
theorem dX11_told_49 : decode cX11_told 49 = .ok (.getfield 63, 3) := by decide +kernel
theorem dX11_told_52 : decode cX11_told 52 = .ok (.getfield 371, 3) := by decide +kernel
theorem dX11_told_55 : decode cX11_told 55 = .ok (.ireturn, 1) := by decide +kernel
theorem dX11_told_56 : decode cX11_told 56 = .ok (.aload_n 0, 1) := by decide +kernel
theorem dX11_told_57 : decode cX11_told 57 = .ok (.getfield 63, 3) := by decide +kernel
theorem dX11_told_60 : decode cX11_told 60 = .ok (.getfield 374, 3) := by decide +kernel
theorem dX11_told_63 : decode cX11_told 63 = .ok (.ireturn, 1) := by decide +kernel
theorem dX11_told_64 : decode cX11_told 64 = .ok (.iconst (-1), 1) := by decide +kernel
theorem dX11_told_65 : decode cX11_told 65 = .ok (.ireturn, 1) := by decide +kernel
theorem dX7_takeBack_0 : decode cX7_takeBack 0 = .ok (.aload_n 0, 1) := by decide +kernel
theorem dX7_takeBack_1 : decode cX7_takeBack 1 = .ok (.getfield 20, 3) := by decide +kernel
theorem dX7_takeBack_4 : decode cX7_takeBack 4 = .ok (.ifCond .ne 5, 3) := by decide +kernel
theorem dX7_takeBack_7 : decode cX7_takeBack 7 = .ok (.iconst (-1), 1) := by decide +kernel
theorem dX7_takeBack_8 : decode cX7_takeBack 8 = .ok (.ireturn, 1) := by decide +kernel
theorem dX7_takeBack_9 : decode cX7_takeBack 9 = .ok (.aload_n 0, 1) := by decide +kernel
theorem dX7_takeBack_10 : decode cX7_takeBack 10 = .ok (.aload_n 0, 1) := by decide +kernel
theorem dX7_takeBack_11 : decode cX7_takeBack 11 = .ok (.getfield 24, 3) := by decide +kernel
theorem dX7_takeBack_14 : decode cX7_takeBack 14 = .ok (.bipush 8, 2) := by decide +kernel
theorem dX7_takeBack_16 : decode cX7_takeBack 16 = .ok (.iadd, 1) := by decide +kernel
theorem dX7_takeBack_17 : decode cX7_takeBack 17 = .ok (.iconst 1, 1) := by decide +kernel
theorem dX7_takeBack_18 : decode cX7_takeBack 18 = .ok (.isub, 1) := by decide +kernel
theorem dX7_takeBack_19 : decode cX7_takeBack 19 = .ok (.bipush 8, 2) := by decide +kernel
theorem dX7_takeBack_21 : decode cX7_takeBack 21 = .ok (.irem, 1) := by decide +kernel
theorem dX7_takeBack_22 : decode cX7_takeBack 22 = .ok (.putfield 24, 3) := by decide +kernel
theorem dX7_takeBack_25 : decode cX7_takeBack 25 = .ok (.aload_n 1, 1) := by decide +kernel
theorem dX7_takeBack_26 : decode cX7_takeBack 26 = .ok (.aload_n 0, 1) := by decide +kernel
theorem dX7_takeBack_27 : decode cX7_takeBack 27 = .ok (.getfield 11, 3) := by decide +kernel
theorem dX7_takeBack_30 : decode cX7_takeBack 30 = .ok (.aload_n 0, 1) := by decide +kernel
theorem dX7_takeBack_31 : decode cX7_takeBack 31 = .ok (.getfield 24, 3) := by decide +kernel
theorem dX7_takeBack_34 : decode cX7_takeBack 34 = .ok (.aaload, 1) := by decide +kernel
theorem dX7_takeBack_35 : decode cX7_takeBack 35 = .ok (.invokevirtual 27, 3) := by decide +kernel
theorem dX7_takeBack_38 : decode cX7_takeBack 38 = .ok (.aload_n 0, 1) := by decide +kernel
theorem dX7_takeBack_39 : decode cX7_takeBack 39 = .ok (.dup, 1) := by decide +kernel
theorem dX7_takeBack_40 : decode cX7_takeBack 40 = .ok (.getfield 20, 3) := by decide +kernel
theorem dX7_takeBack_43 : decode cX7_takeBack 43 = .ok (.iconst 1, 1) := by decide +kernel
theorem dX7_takeBack_44 : decode cX7_takeBack 44 = .ok (.isub, 1) := by decide +kernel
theorem dX7_takeBack_45 : decode cX7_takeBack 45 = .ok (.putfield 20, 3) := by decide +kernel
theorem dX7_takeBack_48 : decode cX7_takeBack 48 = .ok (.aload_n 0, 1) := by decide +kernel
theorem dX7_takeBack_49 : decode cX7_takeBack 49 = .ok (.getfield 20, 3) := by decide +kernel
theorem dX7_takeBack_52 : decode cX7_takeBack 52 = .ok (.ireturn, 1) := by decide +kernel
-- X6_plantsWithDust
abbrev rmX6_plantsWithDust : Room := { frames := 1, cells := 0, slots := 0, locals := 20 }
def fX6_plantsWithDust_27 (S : zSt) (a0 : Nat) (v1 : Int32) (v2 : Int32) : Option ((Int32 × Int32) ⊕ Int32) :=
  zLt (v2 + (1 : Int32)) (fun x7 => some (.inl (v1, x7)))
set_option maxHeartbeats 4000000 in
set_option maxRecDepth 100000 in
theorem kX6_plantsWithDust_27 {p : Program} {l : Launch} {e : Env} {s : State} {m : MethodId} {args : Array Value} {below : List Frame} {meth : Method} {c : Code} {D : va_G} {cy : Nat → ClassId} {q : Nat → Nat} (cx : zX RX6 cX6_plantsWithDust 3 p s m args c D cy) (hr : meth.sig.returnType = (some .int)) (hlk : meth.locks = false) {a0 : Nat} (ha0 : zLife a0) {z : Int32} {S : zSt} {v1 : Int32} {v2 : Int32} {C1 : ((Int32 × Int32) ⊕ Int32) → Prop} (hb1 : ∀ (v1 : Int32) (v2 : Int32), C1 (.inl (v1, v2)) → ∀ (ls : Array Slot), lv_has ls 3 [(0, .ref (q a0)), (1, .int v1), (2, .int v2)] → W p l e rmX6_plantsWithDust s m args below meth c s.heap [] 0 0 (MQ below (vp_Si (fun x => x = z)) args s 0 0 (fun _ => False)) (F0 m 4 ls [])) (hx1 : ∀ a, C1 (.inr a) → a = z) (hP : va_P D vwCl (zW zsh zNC cy q S) s.heap) {x : ((Int32 × Int32) ⊕ Int32)} (h : fX6_plantsWithDust_27 S a0 v1 v2 = some x) (hc : C1 x) {ls : Array Slot} (hl : lv_has ls 3 [(0, .ref (q a0)), (1, .int v1), (2, .int v2)]) : W p l e rmX6_plantsWithDust s m args below meth c s.heap [] 0 0 (MQ below (vp_Si (fun x => x = z)) args s 0 0 (fun _ => False)) (F0 m 27 ls []) := by
  have hx := cx.1
  have hb := cx.2.1
  unfold fX6_plantsWithDust_27 at h
  obtain ⟨x7, ex7, h⟩ := zLt_e h
  refine lv_iinc (v := x7) (lv' := [(2, .int x7), (0, .ref (q a0)), (1, .int v1)]) (pc := 27) hx hb dX6_plantsWithDust_27 hl (k := 2) rfl (by rw [zc_1]; exact ex7.symm) (by decide) rfl (fun ls hl => ?_)
  refine lv_goto (pc := 30) (tgt := 4) hx hb dX6_plantsWithDust_30 (by decide) ?_
  cases h
  exact hb1 _ _ hc _ (lv_sub hl [1, 2, 0] rfl)
def fX6_plantsWithDust_4 (S : zSt) (a0 : Nat) (t : (Int32 × Int32)) : Option ((Int32 × Int32) ⊕ Int32) :=
  match t with
  | (v1, v2) => zBd (fX6_plants S a0) (fun r2 => zBr (r2 ≤ v2) (zXr (some v1)) (zGd (zIx v2 6) (zBr ((S.1 (a0 + 14) v2.toNatClampNeg) ≤ 0) (fX6_plantsWithDust_27 S a0 v1 v2) (zLt (v1 ||| ((1 : Int32) <<< (v2 &&& 31))) (fun x8 => fX6_plantsWithDust_27 S a0 x8 v2)))))
set_option maxHeartbeats 4000000 in
set_option maxRecDepth 100000 in
theorem kX6_plantsWithDust_4B {p : Program} {l : Launch} {e : Env} {s : State} {m : MethodId} {args : Array Value} {below : List Frame} {meth : Method} {c : Code} {D : va_G} {cy : Nat → ClassId} {q : Nat → Nat} (cx : zX RX6 cX6_plantsWithDust 3 p s m args c D cy) (hr : meth.sig.returnType = (some .int)) (hlk : meth.locks = false) {a0 : Nat} (ha0 : zLife a0) {z : Int32} {S : zSt} {v1 : Int32} {v2 : Int32} {C1 : ((Int32 × Int32) ⊕ Int32) → Prop} (hb1 : ∀ (v1 : Int32) (v2 : Int32), C1 (.inl (v1, v2)) → ∀ (ls : Array Slot), lv_has ls 3 [(0, .ref (q a0)), (1, .int v1), (2, .int v2)] → W p l e rmX6_plantsWithDust s m args below meth c s.heap [] 0 0 (MQ below (vp_Si (fun x => x = z)) args s 0 0 (fun _ => False)) (F0 m 4 ls [])) (hx1 : ∀ a, C1 (.inr a) → a = z) (hP : va_P D vwCl (zW zsh zNC cy q S) s.heap) {x : ((Int32 × Int32) ⊕ Int32)} (h : fX6_plantsWithDust_4 S a0 (v1, v2) = some x) (hc : C1 x) {ls : Array Slot} (hl : lv_has ls 3 [(0, .ref (q a0)), (1, .int v1), (2, .int v2)]) : W p l e rmX6_plantsWithDust s m args below meth c s.heap [] 0 0 (MQ below (vp_Si (fun x => x = z)) args s 0 0 (fun _ => False)) (F0 m 4 ls []) := by
  have hx := cx.1
  have hb := cx.2.1
  unfold fX6_plantsWithDust_4 at h
  dsimp only at h
  refine lv_iload_n (pc := 4) hx hb dX6_plantsWithDust_4 rfl (lv_at hl 2 rfl) ?_
  refine lv_aload_n (pc := 5) hx hb dX6_plantsWithDust_5 rfl (lv_at hl 0 rfl) ?_
  obtain ⟨r2, k1, h⟩ := zBd_e h
  refine zr_VI (pc := 6) (rest := [.int v2]) cx cv_X6_86 (mX6_plants ha0 k1) ⟨⟨rfl, rfl⟩, Nat.le_of_ble_eq_true rfl, Nat.le_of_ble_eq_true rfl⟩ ⟨Nat.le_of_ble_eq_true rfl, Nat.le_of_ble_eq_true rfl⟩ hP (nX6_0 ha0) (sX6_0 ha0) rfl hl.1 rfl rfl (Nat.le_of_ble_eq_true rfl) dX6_plantsWithDust_6 ?_
  refine lv_icmp_ge (pc := 9) (tgt := 33) hx hb dX6_plantsWithDust_9 (by decide) (fun c3 => ?_) (fun c3 => ?_)
  · replace h := zBr_t c3 h
    obtain ⟨y4, h, ex⟩ := zXr_e h
    have hc := hx1 y4 (by rw [ex] at hc; exact hc)
    rw [hc] at h
    refine lv_iload_n (pc := 33) hx hb dX6_plantsWithDust_33 rfl (lv_at hl 1 rfl) ?_
    have hz := Option.some.inj h
    exact zr_reI (pc := 34) cx hr hlk hz dX6_plantsWithDust_34
  · replace h := zBr_f c3 h
    refine lv_aload_n (pc := 12) hx hb dX6_plantsWithDust_12 rfl (lv_at hl 0 rfl) ?_
    refine zr_getR (pc := 13) (t := (a0 + 14)) cx lk_X6_35 hP (nX6_0 ha0) (sX6_0 ha0) rfl dX6_plantsWithDust_13 ?_
    refine lv_iload_n (pc := 16) hx hb dX6_plantsWithDust_16 rfl (lv_at hl 2 rfl) ?_
    obtain ⟨g5, h⟩ := zGd_e h
    refine zr_iald (pc := 17) cx hP (nX6_14 ha0) (sX6_14 ha0) g5 dX6_plantsWithDust_17 ?_
    refine lv_if_le (pc := 18) (tgt := 27) hx hb dX6_plantsWithDust_18 (by decide) (fun c6 => ?_) (fun c6 => ?_)
    · replace h := zBr_t c6 h
      exact kX6_plantsWithDust_27 cx hr hlk ha0 hb1 hx1 hP h hc (lv_sub hl [0, 1, 2] rfl)
    · replace h := zBr_f c6 h
      refine lv_iload_n (pc := 21) hx hb dX6_plantsWithDust_21 rfl (lv_at hl 1 rfl) ?_
      refine lv_iconst (pc := 22) hx hb dX6_plantsWithDust_22 zc_1 ?_
      refine lv_iload_n (pc := 23) hx hb dX6_plantsWithDust_23 rfl (lv_at hl 2 rfl) ?_
      refine lv_ishl (pc := 24) hx hb dX6_plantsWithDust_24 ?_
      refine lv_ior (pc := 25) hx hb dX6_plantsWithDust_25 ?_
      obtain ⟨x8, ex8, h⟩ := zLt_e h
      refine zr_nmI ex8 ?_
      refine lv_istore_n (lv' := [(1, .int x8), (0, .ref (q a0)), (2, .int v2)]) (pc := 26) hx hb dX6_plantsWithDust_26 rfl hl (by decide) rfl (fun ls hl => ?_)
      exact kX6_plantsWithDust_27 cx hr hlk ha0 hb1 hx1 hP h hc (lv_sub hl [1, 0, 2] rfl)
set_option maxHeartbeats 4000000 in
set_option maxRecDepth 100000 in
theorem kX6_plantsWithDust_4 {p : Program} {l : Launch} {e : Env} {s : State} {m : MethodId} {args : Array Value} {below : List Frame} {meth : Method} {c : Code} {D : va_G} {cy : Nat → ClassId} {q : Nat → Nat} (cx : zX RX6 cX6_plantsWithDust 3 p s m args c D cy) (hr : meth.sig.returnType = (some .int)) (hlk : meth.locks = false) {a0 : Nat} (ha0 : zLife a0) {z : Int32} {S : zSt} (hP : va_P D vwCl (zW zsh zNC cy q S) s.heap) : ∀ (n : Nat) (v1 : Int32) (v2 : Int32), zLp (fX6_plantsWithDust_4 S a0) n (v1, v2) = some z → ∀ (ls : Array Slot), lv_has ls 3 [(0, .ref (q a0)), (1, .int v1), (2, .int v2)] → W p l e rmX6_plantsWithDust s m args below meth c s.heap [] 0 0 (MQ below (vp_Si (fun x => x = z)) args s 0 0 (fun _ => False)) (F0 m 4 ls []) := by
  intro n
  induction n with
  | zero =>
    intro v1 v2 h
    cases h
  | succ n ih =>
    intro v1 v2 h ls hl
    obtain ⟨x, h, hk⟩ := zLp_e h
    exact kX6_plantsWithDust_4B cx hr hlk ha0  (C1 := zKt (fun t => zLp (fX6_plantsWithDust_4 S a0) n t = some z) (fun a => a = z)) (fun v1 v2 ht ls hl => ih v1 v2 ht ls hl) (fun a ha => ha) hP h hk hl
def fX6_plantsWithDust (S : zSt) (a0 : Nat) : Option Int32 :=
  zLp (fX6_plantsWithDust_4 S a0) 2000 ((0 : Int32), (0 : Int32))
set_option maxHeartbeats 4000000 in
set_option maxRecDepth 100000 in
theorem mX6_plantsWithDust {l : Launch} {D : va_G} {cy : Nat → ClassId} {q : Nat → Nat} {S : zSt} {a0 : Nat} (ha0 : zLife a0) {z : Int32} (h : fX6_plantsWithDust S a0 = some z) : zMi l yX6_plantsWithDust cX6_plantsWithDust 3 (some .int) rmX6_plantsWithDust [.ref (q a0)] (zPr zsh zNC D cy q S) z := by
  refine Met.ofW (cc := cX6_plantsWithDust) (maxL := 3) (ret := (some .int)) (by decide) rfl ?_
  intro p e s m args below meth c s₁ B hml hv
  obtain ⟨rfl, hP, hK⟩ := hv
  have cx : zX RX6 cX6_plantsWithDust 3 p s m ([.ref (q a0)]).toArray c D cy := ⟨B.exec, B.bytes, hml, findClass_of_methodNamed B.named, fun w hw => atoms_spec (ws := Cond.code yX6_plantsWithDust cX6_plantsWithDust 3 (some .int) :: zTB) B.pre w (List.mem_cons_of_mem _ hw), hK⟩
  have hx := cx.1
  have hb := cx.2.1
  have hr := B.returns
  have hlk := B.notSynchronized
  have hl := lv_entry ([.ref (q a0)]) (n := 3) (Nat.le_of_ble_eq_true rfl)
  rw [lg_entry_eq]
  generalize (lg_sl ([.ref (q a0)]) ++ List.replicate (3 - (lg_sl ([.ref (q a0)])).length) Slot.unset).toArray = ls at hl ⊢
  have hl : lv_has ls 3 [(0, .ref (q a0))] := hl
  unfold fX6_plantsWithDust at h
  refine lv_iconst (pc := 0) hx hb dX6_plantsWithDust_0 zc_0 ?_
  refine lv_istore_n (lv' := [(1, .int (0 : Int32)), (0, .ref (q a0))]) (pc := 1) hx hb dX6_plantsWithDust_1 rfl hl (by decide) rfl (fun ls hl => ?_)
  refine lv_iconst (pc := 2) hx hb dX6_plantsWithDust_2 zc_0 ?_
  refine lv_istore_n (lv' := [(2, .int (0 : Int32)), (1, .int (0 : Int32)), (0, .ref (q a0))]) (pc := 3) hx hb dX6_plantsWithDust_3 rfl hl (by decide) rfl (fun ls hl => ?_)
  exact kX6_plantsWithDust_4 cx hr hlk ha0 hP 2000 _ _ h _ (lv_sub hl [2, 1, 0] rfl)
-- X11_now
abbrev rmX11_now : Room := { frames := 4, cells := 0, slots := 0, locals := 87 }
def fX11_now (S : zSt) (v1 : Int32) : Option Int32 :=
  zBr (v1 = 0) (some (S.1 14 1)) (zBr (v1 = 1) (some (S.1 14 2)) (zBr (v1 = 2) (zBd (fX6_actsProved S 14) (fun r10 => some r10)) (zBr (v1 = 3) (zBd (fX6_plantsThatSee S 14) (fun r12 => some r12)) (zBr (v1 = 4) (zBd (fX6_plantsWithDust S 14) (fun r14 => some r14)) (zBr (v1 = 5) (zBd (fX6_allLeavesCome S 14) (fun r16 => some r16)) (zBr (v1 = 6) (zBd (fX6_allLeavesDue S 14) (fun r18 => some r18)) (zBr (v1 = 7) (zBd (fX6_parloursUnseen S 14) (fun r20 => some r20)) (some (-1 : Int32)))))))))
set_option maxHeartbeats 4000000 in
set_option maxRecDepth 100000 in
theorem mX11_now {l : Launch} {D : va_G} {cy : Nat → ClassId} {q : Nat → Nat} {S : zSt} {v1 : Int32} {z : Int32} (h : fX11_now S v1 = some z) : zMi l yX11_now cX11_now 2 (some .int) rmX11_now [.ref (q 0), .int v1] (zPr zsh zNC D cy q S) z := by
  refine Met.ofW (cc := cX11_now) (maxL := 2) (ret := (some .int)) (by decide) rfl ?_
  intro p e s m args below meth c s₁ B hml hv
  obtain ⟨rfl, hP, hK⟩ := hv
  have cx : zX RX11 cX11_now 2 p s m ([.ref (q 0), .int v1]).toArray c D cy := ⟨B.exec, B.bytes, hml, findClass_of_methodNamed B.named, fun w hw => atoms_spec (ws := Cond.code yX11_now cX11_now 2 (some .int) :: zTB) B.pre w (List.mem_cons_of_mem _ hw), hK⟩
  have hx := cx.1
  have hb := cx.2.1
  have hr := B.returns
  have hlk := B.notSynchronized
  have hl := lv_entry ([.ref (q 0), .int v1]) (n := 2) (Nat.le_of_ble_eq_true rfl)
  rw [lg_entry_eq]
  generalize (lg_sl ([.ref (q 0), .int v1]) ++ List.replicate (2 - (lg_sl ([.ref (q 0), .int v1])).length) Slot.unset).toArray = ls at hl ⊢
  have hl : lv_has ls 2 [(0, .ref (q 0)), (1, .int v1)] := hl
  unfold fX11_now at h
  refine lv_iload_n (pc := 0) hx hb dX11_now_0 rfl (lv_at hl 1 rfl) ?_
  by_cases c1 : v1 = 0
  · replace h := zBr_t c1 h
    refine lv_tableIn (pc := 1) (off := 47) (tgt := 48) hx hb dX11_now_1 (by rw [c1]; decide) (by rw [c1]; decide) (by rw [c1]; rfl) (by decide) ?_
    refine lv_aload_n (pc := 48) hx hb dX11_now_48 rfl (lv_at hl 0 rfl) ?_
    refine zr_getR (pc := 49) (t := 14) cx lk_X11_28 hP nC_0 sC_0 rfl dX11_now_49 ?_
    refine zr_getI (pc := 52) cx lk_X11_200 hP (nX6_0 zLife_14) (sX6_0 zLife_14) rfl dX11_now_52 ?_
    have hz := Option.some.inj h
    exact zr_reI (pc := 55) cx hr hlk hz dX11_now_55
  · replace h := zBr_f c1 h
    by_cases c2 : v1 = 1
    · replace h := zBr_t c2 h
      refine lv_tableIn (pc := 1) (off := 55) (tgt := 56) hx hb dX11_now_1 (by rw [c2]; decide) (by rw [c2]; decide) (by rw [c2]; rfl) (by decide) ?_
      refine lv_aload_n (pc := 56) hx hb dX11_now_56 rfl (lv_at hl 0 rfl) ?_
      refine zr_getR (pc := 57) (t := 14) cx lk_X11_28 hP nC_0 sC_0 rfl dX11_now_57 ?_
      refine zr_getI (pc := 60) cx lk_X11_220 hP (nX6_0 zLife_14) (sX6_0 zLife_14) rfl dX11_now_60 ?_
      have hz := Option.some.inj h
      exact zr_reI (pc := 63) cx hr hlk hz dX11_now_63
    · replace h := zBr_f c2 h
      by_cases c3 : v1 = 2
      · replace h := zBr_t c3 h
        refine lv_tableIn (pc := 1) (off := 63) (tgt := 64) hx hb dX11_now_1 (by rw [c3]; decide) (by rw [c3]; decide) (by rw [c3]; rfl) (by decide) ?_
        refine lv_aload_n (pc := 64) hx hb dX11_now_64 rfl (lv_at hl 0 rfl) ?_
        refine zr_getR (pc := 65) (t := 14) cx lk_X11_28 hP nC_0 sC_0 rfl dX11_now_65 ?_
        obtain ⟨r10, k9, h⟩ := zBd_e h
        refine zr_VI (pc := 68) (rest := []) cx cv_X11_223 (mX6_actsProved zLife_14 k9) ⟨⟨rfl, rfl⟩, Nat.le_of_ble_eq_true rfl, Nat.le_of_ble_eq_true rfl⟩ ⟨Nat.le_of_ble_eq_true rfl, Nat.le_of_ble_eq_true rfl⟩ hP (nX6_0 zLife_14) (sX6_0 zLife_14) rfl hl.1 rfl rfl (Nat.le_of_ble_eq_true rfl) dX11_now_68 ?_
        have hz := Option.some.inj h
        exact zr_reI (pc := 71) cx hr hlk hz dX11_now_71
      · replace h := zBr_f c3 h
        by_cases c4 : v1 = 3
        · replace h := zBr_t c4 h
          refine lv_tableIn (pc := 1) (off := 71) (tgt := 72) hx hb dX11_now_1 (by rw [c4]; decide) (by rw [c4]; decide) (by rw [c4]; rfl) (by decide) ?_
          refine lv_aload_n (pc := 72) hx hb dX11_now_72 rfl (lv_at hl 0 rfl) ?_
          refine zr_getR (pc := 73) (t := 14) cx lk_X11_28 hP nC_0 sC_0 rfl dX11_now_73 ?_
          obtain ⟨r12, k11, h⟩ := zBd_e h
          refine zr_VI (pc := 76) (rest := []) cx cv_X11_226 (mX6_plantsThatSee zLife_14 k11) ⟨⟨rfl, rfl⟩, Nat.le_of_ble_eq_true rfl, Nat.le_of_ble_eq_true rfl⟩ ⟨Nat.le_of_ble_eq_true rfl, Nat.le_of_ble_eq_true rfl⟩ hP (nX6_0 zLife_14) (sX6_0 zLife_14) rfl hl.1 rfl rfl (Nat.le_of_ble_eq_true rfl) dX11_now_76 ?_
          have hz := Option.some.inj h
          exact zr_reI (pc := 79) cx hr hlk hz dX11_now_79
        · replace h := zBr_f c4 h
          by_cases c5 : v1 = 4
          · replace h := zBr_t c5 h
            refine lv_tableIn (pc := 1) (off := 79) (tgt := 80) hx hb dX11_now_1 (by rw [c5]; decide) (by rw [c5]; decide) (by rw [c5]; rfl) (by decide) ?_
            refine lv_aload_n (pc := 80) hx hb dX11_now_80 rfl (lv_at hl 0 rfl) ?_
            refine zr_getR (pc := 81) (t := 14) cx lk_X11_28 hP nC_0 sC_0 rfl dX11_now_81 ?_
            obtain ⟨r14, k13, h⟩ := zBd_e h
            refine zr_VI (pc := 84) (rest := []) cx cv_X11_229 (mX6_plantsWithDust zLife_14 k13) ⟨⟨rfl, rfl⟩, Nat.le_of_ble_eq_true rfl, Nat.le_of_ble_eq_true rfl⟩ ⟨Nat.le_of_ble_eq_true rfl, Nat.le_of_ble_eq_true rfl⟩ hP (nX6_0 zLife_14) (sX6_0 zLife_14) rfl hl.1 rfl rfl (Nat.le_of_ble_eq_true rfl) dX11_now_84 ?_
            have hz := Option.some.inj h
            exact zr_reI (pc := 87) cx hr hlk hz dX11_now_87
          · replace h := zBr_f c5 h
            by_cases c6 : v1 = 5
            · replace h := zBr_t c6 h
              refine lv_tableIn (pc := 1) (off := 87) (tgt := 88) hx hb dX11_now_1 (by rw [c6]; decide) (by rw [c6]; decide) (by rw [c6]; rfl) (by decide) ?_
              refine lv_aload_n (pc := 88) hx hb dX11_now_88 rfl (lv_at hl 0 rfl) ?_
              refine zr_getR (pc := 89) (t := 14) cx lk_X11_28 hP nC_0 sC_0 rfl dX11_now_89 ?_
              obtain ⟨r16, k15, h⟩ := zBd_e h
              refine zr_VI (pc := 92) (rest := []) cx cv_X11_232 (mX6_allLeavesCome zLife_14 k15) ⟨⟨rfl, rfl⟩, Nat.le_of_ble_eq_true rfl, Nat.le_of_ble_eq_true rfl⟩ ⟨Nat.le_of_ble_eq_true rfl, Nat.le_of_ble_eq_true rfl⟩ hP (nX6_0 zLife_14) (sX6_0 zLife_14) rfl hl.1 rfl rfl (Nat.le_of_ble_eq_true rfl) dX11_now_92 ?_
              have hz := Option.some.inj h
              exact zr_reI (pc := 95) cx hr hlk hz dX11_now_95
            · replace h := zBr_f c6 h
              by_cases c7 : v1 = 6
              · replace h := zBr_t c7 h
                refine lv_tableIn (pc := 1) (off := 95) (tgt := 96) hx hb dX11_now_1 (by rw [c7]; decide) (by rw [c7]; decide) (by rw [c7]; rfl) (by decide) ?_
                refine lv_aload_n (pc := 96) hx hb dX11_now_96 rfl (lv_at hl 0 rfl) ?_
                refine zr_getR (pc := 97) (t := 14) cx lk_X11_28 hP nC_0 sC_0 rfl dX11_now_97 ?_
                obtain ⟨r18, k17, h⟩ := zBd_e h
                refine zr_VI (pc := 100) (rest := []) cx cv_X11_235 (mX6_allLeavesDue zLife_14 k17) ⟨⟨rfl, rfl⟩, Nat.le_of_ble_eq_true rfl, Nat.le_of_ble_eq_true rfl⟩ ⟨Nat.le_of_ble_eq_true rfl, Nat.le_of_ble_eq_true rfl⟩ hP (nX6_0 zLife_14) (sX6_0 zLife_14) rfl hl.1 rfl rfl (Nat.le_of_ble_eq_true rfl) dX11_now_100 ?_
                have hz := Option.some.inj h
                exact zr_reI (pc := 103) cx hr hlk hz dX11_now_103
              · replace h := zBr_f c7 h
                by_cases c8 : v1 = 7
                · replace h := zBr_t c8 h
                  refine lv_tableIn (pc := 1) (off := 103) (tgt := 104) hx hb dX11_now_1 (by rw [c8]; decide) (by rw [c8]; decide) (by rw [c8]; rfl) (by decide) ?_
                  refine lv_aload_n (pc := 104) hx hb dX11_now_104 rfl (lv_at hl 0 rfl) ?_
                  refine zr_getR (pc := 105) (t := 14) cx lk_X11_28 hP nC_0 sC_0 rfl dX11_now_105 ?_
                  obtain ⟨r20, k19, h⟩ := zBd_e h
                  refine zr_VI (pc := 108) (rest := []) cx cv_X11_238 (mX6_parloursUnseen zLife_14 k19) ⟨⟨rfl, rfl⟩, Nat.le_of_ble_eq_true rfl, Nat.le_of_ble_eq_true rfl⟩ ⟨Nat.le_of_ble_eq_true rfl, Nat.le_of_ble_eq_true rfl⟩ hP (nX6_0 zLife_14) (sX6_0 zLife_14) rfl hl.1 rfl rfl (Nat.le_of_ble_eq_true rfl) dX11_now_108 ?_
                  have hz := Option.some.inj h
                  exact zr_reI (pc := 111) cx hr hlk hz dX11_now_111
                · replace h := zBr_f c8 h
                  refine zr_tsD (pc := 1) (tgt := 112) hx hb dX11_now_1 (fun h1 h2 => ?_) (by decide) ?_
                  · rcases (show (v1).toInt = 0 ∨ (v1).toInt = 1 ∨ (v1).toInt = 2 ∨ (v1).toInt = 3 ∨ (v1).toInt = 4 ∨ (v1).toInt = 5 ∨ (v1).toInt = 6 ∨ (v1).toInt = 7 by omega) with e9 | e9 | e9 | e9 | e9 | e9 | e9 | e9
                    · exact absurd (Int32.toInt_inj.mp (e9.trans (by decide))) c1
                    · exact absurd (Int32.toInt_inj.mp (e9.trans (by decide))) c2
                    · exact absurd (Int32.toInt_inj.mp (e9.trans (by decide))) c3
                    · exact absurd (Int32.toInt_inj.mp (e9.trans (by decide))) c4
                    · exact absurd (Int32.toInt_inj.mp (e9.trans (by decide))) c5
                    · exact absurd (Int32.toInt_inj.mp (e9.trans (by decide))) c6
                    · exact absurd (Int32.toInt_inj.mp (e9.trans (by decide))) c7
                    · exact absurd (Int32.toInt_inj.mp (e9.trans (by decide))) c8
                  · skip
                    refine lv_iconst (pc := 112) hx hb dX11_now_112 zc_m1 ?_
                    have hz := Option.some.inj h
                    exact zr_reI (pc := 113) cx hr hlk hz dX11_now_113
-- X11_odds
abbrev rmX11_odds : Room := { frames := 6, cells := 0, slots := 0, locals := 140 }
def fX11_odds_88 (S : zSt)  (v1 : Int32) (v2 : Int32) (v3 : Int32) (v4 : Int32) (v5 : Int32) : Option ((zSt × Int32 × Int32) ⊕ (Int32 × zSt)) :=
  zLt (v5 + (1 : Int32)) (fun x18 => some (.inl (S, v4, x18)))
set_option maxHeartbeats 4000000 in
set_option maxRecDepth 100000 in
theorem kX11_odds_88 {p : Program} {l : Launch} {e : Env} {s : State} {m : MethodId} {args : Array Value} {below : List Frame} {meth : Method} {c : Code} {D : va_G} {cy : Nat → ClassId} {q : Nat → Nat} {A : Nat → Prop} (cx : zX RX11 cX11_odds 6 p s m args c D cy) (hr : meth.sig.returnType = (some .int)) (hlk : meth.locks = false) (hq : zQ A q zNC) {z : (Int32 × zSt)} {S : zSt} {v1 : Int32} {v2 : Int32} {v3 : Int32} {v4 : Int32} {v5 : Int32} {C1 : ((zSt × Int32 × Int32) ⊕ (Int32 × zSt)) → Prop} (hb1 : ∀ (S : zSt) (v4 : Int32) (v5 : Int32), C1 (.inl (S, v4, v5)) → ∀ (H : Heap) (locs : List Loc), va_P D vwCl (zW zsh zNC cy q S) H → va_S A s.heap H locs → ∀ (ls : Array Slot), lv_has ls 6 [(0, .ref (q 0)), (1, .int v1), (2, .int v2), (3, .int v3), (4, .int v4), (5, .int v5)] → W p l e rmX11_odds s m args below meth c H locs 0 0 (MQ below (va_Qi (fun (r : Int32) (u : zSt) => (r, u) = z) (fun u t => va_P D vwCl (zW zsh zNC cy q u) t.heap) A) args s 0 0 A) (F0 m 31 ls [])) (hx1 : ∀ a, C1 (.inr a) → a = z) {x : ((zSt × Int32 × Int32) ⊕ (Int32 × zSt))} (h : fX11_odds_88 S v1 v2 v3 v4 v5 = some x) (hc : C1 x) {H : Heap} {locs : List Loc} (hP : va_P D vwCl (zW zsh zNC cy q S) H) (hS : va_S A s.heap H locs) {ls : Array Slot} (hl : lv_has ls 6 [(0, .ref (q 0)), (1, .int v1), (2, .int v2), (3, .int v3), (4, .int v4), (5, .int v5)]) : W p l e rmX11_odds s m args below meth c H locs 0 0 (MQ below (va_Qi (fun (r : Int32) (u : zSt) => (r, u) = z) (fun u t => va_P D vwCl (zW zsh zNC cy q u) t.heap) A) args s 0 0 A) (F0 m 88 ls []) := by
  have hx := cx.1
  have hb := cx.2.1
  unfold fX11_odds_88 at h
  obtain ⟨x18, ex18, h⟩ := zLt_e h
  refine lv_iinc (v := x18) (lv' := [(5, .int x18), (0, .ref (q 0)), (1, .int v1), (2, .int v2), (3, .int v3), (4, .int v4)]) (pc := 88) hx hb dX11_odds_88 hl (k := 5) rfl (by rw [zc_1]; exact ex18.symm) (by decide) rfl (fun ls hl => ?_)
  refine lv_goto (pc := 91) (tgt := 31) hx hb dX11_odds_91 (by decide) ?_
  cases h
  exact hb1 _ _ _ hc _ _ hP hS _ (lv_sub hl [1, 2, 3, 4, 5, 0] rfl)
def fX11_odds_31  (v1 : Int32) (v2 : Int32) (v3 : Int32) (t : (zSt × Int32 × Int32)) : Option ((zSt × Int32 × Int32) ⊕ (Int32 × zSt)) :=
  match t with
  | (S, v4, v5) => zBr (v2 ≤ v5) (zXr (some (v4, S))) (zBd (fX6_copyFrom S 29 14) (fun S9 => zBp (fX1_liveDays S9 29 (20 : Int32) (v3 + v5)) (fun r12 S11 => zBd (fX6_actsProved S11 29) (fun r14 => zBd (fX6_actsOf S11 29 v1) (fun r16 => zBr ((r14 &&& r16) = 0) (fX11_odds_88 S11 v1 v2 v3 v4 v5) (zLt (v4 + (1 : Int32)) (fun x19 => fX11_odds_88 S11 v1 v2 v3 x19 v5)))))))
set_option maxHeartbeats 4000000 in
set_option maxRecDepth 100000 in
theorem kX11_odds_31B {p : Program} {l : Launch} {e : Env} {s : State} {m : MethodId} {args : Array Value} {below : List Frame} {meth : Method} {c : Code} {D : va_G} {cy : Nat → ClassId} {q : Nat → Nat} {A : Nat → Prop} (cx : zX RX11 cX11_odds 6 p s m args c D cy) (hr : meth.sig.returnType = (some .int)) (hlk : meth.locks = false) (hq : zQ A q zNC) {z : (Int32 × zSt)} {S : zSt} {v1 : Int32} {v2 : Int32} {v3 : Int32} {v4 : Int32} {v5 : Int32} {C1 : ((zSt × Int32 × Int32) ⊕ (Int32 × zSt)) → Prop} (hb1 : ∀ (S : zSt) (v4 : Int32) (v5 : Int32), C1 (.inl (S, v4, v5)) → ∀ (H : Heap) (locs : List Loc), va_P D vwCl (zW zsh zNC cy q S) H → va_S A s.heap H locs → ∀ (ls : Array Slot), lv_has ls 6 [(0, .ref (q 0)), (1, .int v1), (2, .int v2), (3, .int v3), (4, .int v4), (5, .int v5)] → W p l e rmX11_odds s m args below meth c H locs 0 0 (MQ below (va_Qi (fun (r : Int32) (u : zSt) => (r, u) = z) (fun u t => va_P D vwCl (zW zsh zNC cy q u) t.heap) A) args s 0 0 A) (F0 m 31 ls [])) (hx1 : ∀ a, C1 (.inr a) → a = z) {x : ((zSt × Int32 × Int32) ⊕ (Int32 × zSt))} (h : fX11_odds_31 v1 v2 v3 (S, v4, v5) = some x) (hc : C1 x) {H : Heap} {locs : List Loc} (hP : va_P D vwCl (zW zsh zNC cy q S) H) (hS : va_S A s.heap H locs) {ls : Array Slot} (hl : lv_has ls 6 [(0, .ref (q 0)), (1, .int v1), (2, .int v2), (3, .int v3), (4, .int v4), (5, .int v5)]) : W p l e rmX11_odds s m args below meth c H locs 0 0 (MQ below (va_Qi (fun (r : Int32) (u : zSt) => (r, u) = z) (fun u t => va_P D vwCl (zW zsh zNC cy q u) t.heap) A) args s 0 0 A) (F0 m 31 ls []) := by
  have hx := cx.1
  have hb := cx.2.1
  unfold fX11_odds_31 at h
  dsimp only at h
  refine lv_iload (pc := 31) hx hb dX11_odds_31 (lv_at hl 5 rfl) ?_
  refine lv_iload_n (pc := 33) hx hb dX11_odds_33 rfl (lv_at hl 2 rfl) ?_
  refine lv_icmp_ge (pc := 34) (tgt := 94) hx hb dX11_odds_34 (by decide) (fun c6 => ?_) (fun c6 => ?_)
  · replace h := zBr_t c6 h
    obtain ⟨y7, h, ex⟩ := zXr_e h
    have hc := hx1 y7 (by rw [ex] at hc; exact hc)
    rw [hc] at h
    refine lv_iload (pc := 94) hx hb dX11_odds_94 (lv_at hl 4 rfl) ?_
    have hz := Option.some.inj h
    exact zr_rqI (pc := 96) cx hr hlk hP hS hz dX11_odds_96
  · replace h := zBr_f c6 h
    refine lv_aload_n (pc := 37) hx hb dX11_odds_37 rfl (lv_at hl 0 rfl) ?_
    refine zr_getR (pc := 38) (t := 29) cx lk_X11_32 hP nC_0 sC_0 rfl dX11_odds_38 ?_
    refine lv_aload_n (pc := 41) hx hb dX11_odds_41 rfl (lv_at hl 0 rfl) ?_
    refine zr_getR (pc := 42) (t := 14) cx lk_X11_28 hP nC_0 sC_0 rfl dX11_odds_42 ?_
    obtain ⟨S9, k8, h⟩ := zBd_e h
    refine zr_VV (pc := 45) (rest := []) cx cv_X11_357 (mX6_copyFrom hq zLife_29 zLife_14 k8) ⟨⟨rfl, rfl⟩, Nat.le_of_ble_eq_true rfl, Nat.le_of_ble_eq_true rfl⟩ ⟨Nat.le_of_ble_eq_true rfl, Nat.le_of_ble_eq_true rfl⟩ hP hS (nX6_0 zLife_29) (sX6_0 zLife_29) rfl hl.1 rfl rfl (Nat.le_of_ble_eq_true rfl) dX11_odds_45 (fun H locs hP hS => ?_)
    refine lv_aload_n (pc := 48) hx hb dX11_odds_48 rfl (lv_at hl 0 rfl) ?_
    refine zr_getR (pc := 49) (t := 261) cx lk_X11_96 hP nC_0 sC_0 rfl dX11_odds_49 ?_
    refine lv_aload_n (pc := 52) hx hb dX11_odds_52 rfl (lv_at hl 0 rfl) ?_
    refine zr_getR (pc := 53) (t := 29) cx lk_X11_32 hP nC_0 sC_0 rfl dX11_odds_53 ?_
    refine lv_bipush (pc := 56) hx hb dX11_odds_56 zb_20 ?_
    refine lv_iload_n (pc := 58) hx hb dX11_odds_58 rfl (lv_at hl 3 rfl) ?_
    refine lv_iload (pc := 59) hx hb dX11_odds_59 (lv_at hl 5 rfl) ?_
    refine lv_iadd (pc := 61) hx hb dX11_odds_61 ?_
    obtain ⟨r12, S11, k10, h⟩ := zBp_e h
    refine zr_VQ (pc := 62) (rest := []) cx cv_X11_353 (mX1_liveDays hq zLife_29 k10) ⟨⟨rfl, rfl⟩, Nat.le_of_ble_eq_true rfl, Nat.le_of_ble_eq_true rfl⟩ ⟨Nat.le_of_ble_eq_true rfl, Nat.le_of_ble_eq_true rfl⟩ hP hS nC_261 sC_261 rfl hl.1 rfl rfl (Nat.le_of_ble_eq_true rfl) dX11_odds_62 (fun H locs hP hS => ?_)
    refine lv_pop (pc := 65) hx hb dX11_odds_65 rfl ?_
    refine lv_aload_n (pc := 66) hx hb dX11_odds_66 rfl (lv_at hl 0 rfl) ?_
    refine zr_getR (pc := 67) (t := 29) cx lk_X11_32 hP nC_0 sC_0 rfl dX11_odds_67 ?_
    obtain ⟨r14, k13, h⟩ := zBd_e h
    refine zr_VI (pc := 70) (rest := []) cx cv_X11_223 (mX6_actsProved zLife_29 k13) ⟨⟨rfl, rfl⟩, Nat.le_of_ble_eq_true rfl, Nat.le_of_ble_eq_true rfl⟩ ⟨Nat.le_of_ble_eq_true rfl, Nat.le_of_ble_eq_true rfl⟩ hP (nX6_0 zLife_29) (sX6_0 zLife_29) rfl hl.1 rfl rfl (Nat.le_of_ble_eq_true rfl) dX11_odds_70 ?_
    refine lv_aload_n (pc := 73) hx hb dX11_odds_73 rfl (lv_at hl 0 rfl) ?_
    refine zr_getR (pc := 74) (t := 29) cx lk_X11_32 hP nC_0 sC_0 rfl dX11_odds_74 ?_
    refine lv_iload_n (pc := 77) hx hb dX11_odds_77 rfl (lv_at hl 1 rfl) ?_
    obtain ⟨r16, k15, h⟩ := zBd_e h
    refine zr_VI (pc := 78) (rest := [.int r14]) cx cv_X11_275 (mX6_actsOf zLife_29 k15) ⟨⟨rfl, rfl⟩, Nat.le_of_ble_eq_true rfl, Nat.le_of_ble_eq_true rfl⟩ ⟨Nat.le_of_ble_eq_true rfl, Nat.le_of_ble_eq_true rfl⟩ hP (nX6_0 zLife_29) (sX6_0 zLife_29) rfl hl.1 rfl rfl (Nat.le_of_ble_eq_true rfl) dX11_odds_78 ?_
    refine lv_iand (pc := 81) hx hb dX11_odds_81 ?_
    refine lv_if_eq (pc := 82) (tgt := 88) hx hb dX11_odds_82 (by decide) (fun c17 => ?_) (fun c17 => ?_)
    · replace h := zBr_t c17 h
      exact kX11_odds_88 cx hr hlk hq hb1 hx1 h hc hP hS (lv_sub hl [0, 1, 2, 3, 4, 5] rfl)
    · replace h := zBr_f c17 h
      obtain ⟨x19, ex19, h⟩ := zLt_e h
      refine lv_iinc (v := x19) (lv' := [(4, .int x19), (0, .ref (q 0)), (1, .int v1), (2, .int v2), (3, .int v3), (5, .int v5)]) (pc := 85) hx hb dX11_odds_85 hl (k := 4) rfl (by rw [zc_1]; exact ex19.symm) (by decide) rfl (fun ls hl => ?_)
      exact kX11_odds_88 cx hr hlk hq hb1 hx1 h hc hP hS (lv_sub hl [1, 2, 3, 4, 0, 5] rfl)
set_option maxHeartbeats 4000000 in
set_option maxRecDepth 100000 in
theorem kX11_odds_31 {p : Program} {l : Launch} {e : Env} {s : State} {m : MethodId} {args : Array Value} {below : List Frame} {meth : Method} {c : Code} {D : va_G} {cy : Nat → ClassId} {q : Nat → Nat} {A : Nat → Prop} (cx : zX RX11 cX11_odds 6 p s m args c D cy) (hr : meth.sig.returnType = (some .int)) (hlk : meth.locks = false) (hq : zQ A q zNC) {z : (Int32 × zSt)} {v1 : Int32} {v2 : Int32} {v3 : Int32} : ∀ (n : Nat) (S : zSt) (v4 : Int32) (v5 : Int32), zLp (fX11_odds_31 v1 v2 v3) n (S, v4, v5) = some z → ∀ (H : Heap) (locs : List Loc), va_P D vwCl (zW zsh zNC cy q S) H → va_S A s.heap H locs → ∀ (ls : Array Slot), lv_has ls 6 [(0, .ref (q 0)), (1, .int v1), (2, .int v2), (3, .int v3), (4, .int v4), (5, .int v5)] → W p l e rmX11_odds s m args below meth c H locs 0 0 (MQ below (va_Qi (fun (r : Int32) (u : zSt) => (r, u) = z) (fun u t => va_P D vwCl (zW zsh zNC cy q u) t.heap) A) args s 0 0 A) (F0 m 31 ls []) := by
  intro n
  induction n with
  | zero =>
    intro S v4 v5 h
    cases h
  | succ n ih =>
    intro S v4 v5 h H locs hP hS ls hl
    obtain ⟨x, h, hk⟩ := zLp_e h
    exact kX11_odds_31B cx hr hlk hq  (C1 := zKt (fun t => zLp (fX11_odds_31 v1 v2 v3) n t = some z) (fun a => a = z)) (fun S v4 v5 ht H locs hP hS ls hl => ih S v4 v5 ht H locs hP hS ls hl) (fun a ha => ha) h hk hP hS hl
def fX11_odds (S : zSt) (v1 : Int32) (v2 : Int32) (v3 : Int32) : Option (Int32 × zSt) :=
  zBd (fX3_has S 4 (2 : Int32) v1) (fun r2 => zBr (r2 = 0) (some ((-1 : Int32), S)) (zBr (v2 < (1 : Int32)) (some ((-1 : Int32), S)) (zBr (v2 ≤ (30 : Int32)) (zLp (fX11_odds_31 v1 v2 v3) 2000 (S, (0 : Int32), (0 : Int32))) (some ((-1 : Int32), S)))))
set_option maxHeartbeats 4000000 in
set_option maxRecDepth 100000 in
theorem mX11_odds {l : Launch} {D : va_G} {cy : Nat → ClassId} {q : Nat → Nat} {A : Nat → Prop} {S : zSt} {v1 : Int32} {v2 : Int32} {v3 : Int32} (hq : zQ A q zNC) {z : (Int32 × zSt)} (h : fX11_odds S v1 v2 v3 = some z) : zMq l yX11_odds cX11_odds 6 (some .int) rmX11_odds [.ref (q 0), .int v1, .int v2, .int v3] zsh zNC D cy q A S z := by
  refine Met.ofW (cc := cX11_odds) (maxL := 6) (ret := (some .int)) (by decide) rfl ?_
  intro p e s m args below meth c s₁ B hml hv
  obtain ⟨rfl, hP, hK⟩ := hv
  have cx : zX RX11 cX11_odds 6 p s m ([.ref (q 0), .int v1, .int v2, .int v3]).toArray c D cy := ⟨B.exec, B.bytes, hml, findClass_of_methodNamed B.named, fun w hw => atoms_spec (ws := Cond.code yX11_odds cX11_odds 6 (some .int) :: zTB) B.pre w (List.mem_cons_of_mem _ hw), hK⟩
  have hx := cx.1
  have hb := cx.2.1
  have hr := B.returns
  have hlk := B.notSynchronized
  have hS : va_S A s.heap s.heap [] := va_S.rf
  have hl := lv_entry ([.ref (q 0), .int v1, .int v2, .int v3]) (n := 6) (Nat.le_of_ble_eq_true rfl)
  rw [lg_entry_eq]
  generalize (lg_sl ([.ref (q 0), .int v1, .int v2, .int v3]) ++ List.replicate (6 - (lg_sl ([.ref (q 0), .int v1, .int v2, .int v3])).length) Slot.unset).toArray = ls at hl ⊢
  have hl : lv_has ls 6 [(0, .ref (q 0)), (1, .int v1), (2, .int v2), (3, .int v3)] := hl
  unfold fX11_odds at h
  refine lv_aload_n (pc := 0) hx hb dX11_odds_0 rfl (lv_at hl 0 rfl) ?_
  refine zr_getR (pc := 1) (t := 4) cx lk_X11_19 hP nC_0 sC_0 rfl dX11_odds_1 ?_
  refine lv_iconst (pc := 4) hx hb dX11_odds_4 zc_2 ?_
  refine lv_iload_n (pc := 5) hx hb dX11_odds_5 rfl (lv_at hl 1 rfl) ?_
  obtain ⟨r2, k1, h⟩ := zBd_e h
  refine zr_VI (pc := 6) (rest := []) cx cv_X11_149 (mX3_has zHouse_4 k1) ⟨⟨rfl, rfl⟩, Nat.le_of_ble_eq_true rfl, Nat.le_of_ble_eq_true rfl⟩ ⟨Nat.le_of_ble_eq_true rfl, Nat.le_of_ble_eq_true rfl⟩ hP (nX3_0 zHouse_4) (sX3_0 zHouse_4) rfl hl.1 rfl rfl (Nat.le_of_ble_eq_true rfl) dX11_odds_6 ?_
  refine lv_if_eq (pc := 9) (tgt := 23) hx hb dX11_odds_9 (by decide) (fun c3 => ?_) (fun c3 => ?_)
  · replace h := zBr_t c3 h
    refine lv_iconst (pc := 23) hx hb dX11_odds_23 zc_m1 ?_
    have hz := Option.some.inj h
    exact zr_rqI (pc := 24) cx hr hlk hP hS hz dX11_odds_24
  · replace h := zBr_f c3 h
    refine lv_iload_n (pc := 12) hx hb dX11_odds_12 rfl (lv_at hl 2 rfl) ?_
    refine lv_iconst (pc := 13) hx hb dX11_odds_13 zc_1 ?_
    refine lv_icmp_lt (pc := 14) (tgt := 23) hx hb dX11_odds_14 (by decide) (fun c4 => ?_) (fun c4 => ?_)
    · replace h := zBr_t c4 h
      refine lv_iconst (pc := 23) hx hb dX11_odds_23 zc_m1 ?_
      have hz := Option.some.inj h
      exact zr_rqI (pc := 24) cx hr hlk hP hS hz dX11_odds_24
    · replace h := zBr_f c4 h
      refine lv_iload_n (pc := 17) hx hb dX11_odds_17 rfl (lv_at hl 2 rfl) ?_
      refine lv_bipush (pc := 18) hx hb dX11_odds_18 zb_30 ?_
      refine lv_icmp_le (pc := 20) (tgt := 25) hx hb dX11_odds_20 (by decide) (fun c5 => ?_) (fun c5 => ?_)
      · replace h := zBr_t c5 h
        refine lv_iconst (pc := 25) hx hb dX11_odds_25 zc_0 ?_
        refine lv_istore (lv' := [(4, .int (0 : Int32)), (0, .ref (q 0)), (1, .int v1), (2, .int v2), (3, .int v3)]) (pc := 26) hx hb dX11_odds_26 hl (by decide) rfl (fun ls hl => ?_)
        refine lv_iconst (pc := 28) hx hb dX11_odds_28 zc_0 ?_
        refine lv_istore (lv' := [(5, .int (0 : Int32)), (4, .int (0 : Int32)), (0, .ref (q 0)), (1, .int v1), (2, .int v2), (3, .int v3)]) (pc := 29) hx hb dX11_odds_29 hl (by decide) rfl (fun ls hl => ?_)
        exact kX11_odds_31 cx hr hlk hq 2000 _ _ _ h _ _ hP hS _ (lv_sub hl [2, 3, 4, 5, 1, 0] rfl)
      · replace h := zBr_f c5 h
        refine lv_iconst (pc := 23) hx hb dX11_odds_23 zc_m1 ?_
        have hz := Option.some.inj h
        exact zr_rqI (pc := 24) cx hr hlk hP hS hz dX11_odds_24
-- X11_plantAt
abbrev rmX11_plantAt : Room := { frames := 1, cells := 0, slots := 0, locals := 21 }
def fX11_plantAt_27  (v0 : Int32) (v2 : Int32) (v3 : Int32) : Option ((Int32 × Int32) ⊕ Int32) :=
  zLt (v3 + (1 : Int32)) (fun x6 => some (.inl (v2, x6)))
set_option maxHeartbeats 4000000 in
set_option maxRecDepth 100000 in
theorem kX11_plantAt_27 {p : Program} {l : Launch} {e : Env} {s : State} {m : MethodId} {args : Array Value} {below : List Frame} {meth : Method} {c : Code} {D : va_G} {cy : Nat → ClassId} (cx : zX RX11 cX11_plantAt 4 p s m args c D cy) (hr : meth.sig.returnType = (some .int)) (hlk : meth.locks = false) {z : Int32} {v0 : Int32} {v2 : Int32} {v3 : Int32} {C1 : ((Int32 × Int32) ⊕ Int32) → Prop} (hb1 : ∀ (v2 : Int32) (v3 : Int32), C1 (.inl (v2, v3)) → ∀ (ls : Array Slot), lv_has ls 4 [(0, .int v0), (2, .int v2), (3, .int v3)] → W p l e rmX11_plantAt s m args below meth c s.heap [] 0 0 (MQ below (vp_Si (fun x => x = z)) args s 0 0 (fun _ => False)) (F0 m 4 ls [])) (hx1 : ∀ a, C1 (.inr a) → a = z) {x : ((Int32 × Int32) ⊕ Int32)} (h : fX11_plantAt_27 v0 v2 v3 = some x) (hc : C1 x) {ls : Array Slot} (hl : lv_has ls 4 [(0, .int v0), (2, .int v2), (3, .int v3)]) : W p l e rmX11_plantAt s m args below meth c s.heap [] 0 0 (MQ below (vp_Si (fun x => x = z)) args s 0 0 (fun _ => False)) (F0 m 27 ls []) := by
  have hx := cx.1
  have hb := cx.2.1
  unfold fX11_plantAt_27 at h
  obtain ⟨x6, ex6, h⟩ := zLt_e h
  refine lv_iinc (v := x6) (lv' := [(3, .int x6), (0, .int v0), (2, .int v2)]) (pc := 27) hx hb dX11_plantAt_27 hl (k := 2) rfl (by rw [zc_1]; exact ex6.symm) (by decide) rfl (fun ls hl => ?_)
  refine lv_goto (pc := 30) (tgt := 4) hx hb dX11_plantAt_30 (by decide) ?_
  cases h
  exact hb1 _ _ hc _ (lv_sub hl [1, 2, 0] rfl)
def fX11_plantAt_4  (v0 : Int32) (t : (Int32 × Int32)) : Option ((Int32 × Int32) ⊕ Int32) :=
  match t with
  | (v2, v3) => zBr ((6 : Int32) ≤ v3) (zXr (some (-1 : Int32))) (zBd (fX11_hasBit v0 v3) (fun r4 => zBr (r4 = 0) (fX11_plantAt_27 v0 v2 v3) (zBr (v2 = 0) (zXr (some v3)) (zLt (v2 + (-1 : Int32)) (fun x8 => fX11_plantAt_27 v0 x8 v3)))))
set_option maxHeartbeats 4000000 in
set_option maxRecDepth 100000 in
theorem kX11_plantAt_4B {p : Program} {l : Launch} {e : Env} {s : State} {m : MethodId} {args : Array Value} {below : List Frame} {meth : Method} {c : Code} {D : va_G} {cy : Nat → ClassId} (cx : zX RX11 cX11_plantAt 4 p s m args c D cy) (hr : meth.sig.returnType = (some .int)) (hlk : meth.locks = false) {z : Int32} {v0 : Int32} {v2 : Int32} {v3 : Int32} {C1 : ((Int32 × Int32) ⊕ Int32) → Prop} (hb1 : ∀ (v2 : Int32) (v3 : Int32), C1 (.inl (v2, v3)) → ∀ (ls : Array Slot), lv_has ls 4 [(0, .int v0), (2, .int v2), (3, .int v3)] → W p l e rmX11_plantAt s m args below meth c s.heap [] 0 0 (MQ below (vp_Si (fun x => x = z)) args s 0 0 (fun _ => False)) (F0 m 4 ls [])) (hx1 : ∀ a, C1 (.inr a) → a = z) {x : ((Int32 × Int32) ⊕ Int32)} (h : fX11_plantAt_4 v0 (v2, v3) = some x) (hc : C1 x) {ls : Array Slot} (hl : lv_has ls 4 [(0, .int v0), (2, .int v2), (3, .int v3)]) : W p l e rmX11_plantAt s m args below meth c s.heap [] 0 0 (MQ below (vp_Si (fun x => x = z)) args s 0 0 (fun _ => False)) (F0 m 4 ls []) := by
  have hx := cx.1
  have hb := cx.2.1
  unfold fX11_plantAt_4 at h
  dsimp only at h
  refine lv_iload_n (pc := 4) hx hb dX11_plantAt_4 rfl (lv_at hl 2 rfl) ?_
  refine lv_bipush (pc := 5) hx hb dX11_plantAt_5 zb_6 ?_
  refine lv_icmp_ge (pc := 7) (tgt := 33) hx hb dX11_plantAt_7 (by decide) (fun c1 => ?_) (fun c1 => ?_)
  · replace h := zBr_t c1 h
    obtain ⟨y2, h, ex⟩ := zXr_e h
    have hc := hx1 y2 (by rw [ex] at hc; exact hc)
    rw [hc] at h
    refine lv_iconst (pc := 33) hx hb dX11_plantAt_33 zc_m1 ?_
    have hz := Option.some.inj h
    exact zr_reI (pc := 34) cx hr hlk hz dX11_plantAt_34
  · replace h := zBr_f c1 h
    refine lv_iload_n (pc := 10) hx hb dX11_plantAt_10 rfl (lv_at hl 0 rfl) ?_
    refine lv_iload_n (pc := 11) hx hb dX11_plantAt_11 rfl (lv_at hl 2 rfl) ?_
    obtain ⟨r4, k3, h⟩ := zBd_e h
    refine zr_SI (pc := 12) (rest := []) cx cv_X11_410 (mX11_hasBit k3) ⟨⟨rfl, rfl⟩, Nat.le_of_ble_eq_true rfl, Nat.le_of_ble_eq_true rfl⟩ ⟨Nat.le_of_ble_eq_true rfl, Nat.le_of_ble_eq_true rfl⟩ (zr_preK cx) hl.1 rfl rfl (Nat.le_of_ble_eq_true rfl) dX11_plantAt_12 ?_
    refine lv_if_eq (pc := 15) (tgt := 27) hx hb dX11_plantAt_15 (by decide) (fun c5 => ?_) (fun c5 => ?_)
    · replace h := zBr_t c5 h
      exact kX11_plantAt_27 cx hr hlk hb1 hx1 h hc (lv_sub hl [0, 1, 2] rfl)
    · replace h := zBr_f c5 h
      refine lv_iload_n (pc := 18) hx hb dX11_plantAt_18 rfl (lv_at hl 1 rfl) ?_
      refine lv_if_ne (pc := 19) (tgt := 24) hx hb dX11_plantAt_19 (by decide) (fun c7 => ?_) (fun c7 => ?_)
      · replace h := zBr_f c7 h
        obtain ⟨x8, ex8, h⟩ := zLt_e h
        refine lv_iinc (v := x8) (lv' := [(2, .int x8), (0, .int v0), (3, .int v3)]) (pc := 24) hx hb dX11_plantAt_24 hl (k := 1) rfl (by rw [zc_m1]; exact ex8.symm) (by decide) rfl (fun ls hl => ?_)
        exact kX11_plantAt_27 cx hr hlk hb1 hx1 h hc (lv_sub hl [1, 0, 2] rfl)
      · replace h := zBr_t c7 h
        obtain ⟨y9, h, ex⟩ := zXr_e h
        have hc := hx1 y9 (by rw [ex] at hc; exact hc)
        rw [hc] at h
        refine lv_iload_n (pc := 22) hx hb dX11_plantAt_22 rfl (lv_at hl 2 rfl) ?_
        have hz := Option.some.inj h
        exact zr_reI (pc := 23) cx hr hlk hz dX11_plantAt_23
set_option maxHeartbeats 4000000 in
set_option maxRecDepth 100000 in
theorem kX11_plantAt_4 {p : Program} {l : Launch} {e : Env} {s : State} {m : MethodId} {args : Array Value} {below : List Frame} {meth : Method} {c : Code} {D : va_G} {cy : Nat → ClassId} (cx : zX RX11 cX11_plantAt 4 p s m args c D cy) (hr : meth.sig.returnType = (some .int)) (hlk : meth.locks = false) {z : Int32} {v0 : Int32} : ∀ (n : Nat) (v2 : Int32) (v3 : Int32), zLp (fX11_plantAt_4 v0) n (v2, v3) = some z → ∀ (ls : Array Slot), lv_has ls 4 [(0, .int v0), (2, .int v2), (3, .int v3)] → W p l e rmX11_plantAt s m args below meth c s.heap [] 0 0 (MQ below (vp_Si (fun x => x = z)) args s 0 0 (fun _ => False)) (F0 m 4 ls []) := by
  intro n
  induction n with
  | zero =>
    intro v2 v3 h
    cases h
  | succ n ih =>
    intro v2 v3 h ls hl
    obtain ⟨x, h, hk⟩ := zLp_e h
    exact kX11_plantAt_4B cx hr hlk  (C1 := zKt (fun t => zLp (fX11_plantAt_4 v0) n t = some z) (fun a => a = z)) (fun v2 v3 ht ls hl => ih v2 v3 ht ls hl) (fun a ha => ha) h hk hl
def fX11_plantAt (v0 : Int32) (v1 : Int32) : Option Int32 :=
  zLp (fX11_plantAt_4 v0) 2000 (v1, (0 : Int32))
set_option maxHeartbeats 4000000 in
set_option maxRecDepth 100000 in
theorem mX11_plantAt {l : Launch} {D : va_G} {cy : Nat → ClassId} {v0 : Int32} {v1 : Int32} {z : Int32} (h : fX11_plantAt v0 v1 = some z) : zMi l yX11_plantAt cX11_plantAt 4 (some .int) rmX11_plantAt [.int v0, .int v1] (zPk D cy) z := by
  refine Met.ofW (cc := cX11_plantAt) (maxL := 4) (ret := (some .int)) (by decide) rfl ?_
  intro p e s m args below meth c s₁ B hml hv
  obtain ⟨rfl, hK⟩ := hv
  have cx : zX RX11 cX11_plantAt 4 p s m ([.int v0, .int v1]).toArray c D cy := ⟨B.exec, B.bytes, hml, findClass_of_methodNamed B.named, fun w hw => atoms_spec (ws := Cond.code yX11_plantAt cX11_plantAt 4 (some .int) :: zTB) B.pre w (List.mem_cons_of_mem _ hw), hK⟩
  have hx := cx.1
  have hb := cx.2.1
  have hr := B.returns
  have hlk := B.notSynchronized
  have hl := lv_entry ([.int v0, .int v1]) (n := 4) (Nat.le_of_ble_eq_true rfl)
  rw [lg_entry_eq]
  generalize (lg_sl ([.int v0, .int v1]) ++ List.replicate (4 - (lg_sl ([.int v0, .int v1])).length) Slot.unset).toArray = ls at hl ⊢
  have hl : lv_has ls 4 [(0, .int v0), (1, .int v1)] := hl
  unfold fX11_plantAt at h
  refine lv_iload_n (pc := 0) hx hb dX11_plantAt_0 rfl (lv_at hl 1 rfl) ?_
  refine lv_istore_n (lv' := [(2, .int v1), (0, .int v0), (1, .int v1)]) (pc := 1) hx hb dX11_plantAt_1 rfl hl (by decide) rfl (fun ls hl => ?_)
  refine lv_iconst (pc := 2) hx hb dX11_plantAt_2 zc_0 ?_
  refine lv_istore_n (lv' := [(3, .int (0 : Int32)), (2, .int v1), (0, .int v0), (1, .int v1)]) (pc := 3) hx hb dX11_plantAt_3 rfl hl (by decide) rfl (fun ls hl => ?_)
  exact kX11_plantAt_4 cx hr hlk 2000 _ _ h _ (lv_sub hl [2, 1, 0] rfl)
-- X2_dayOfProof
abbrev rmX2_dayOfProof : Room := { frames := 2, cells := 0, slots := 0, locals := 44 }
def fX2_dayOfProof_91 (S : zSt)  (v1 : Int32) (v2 : Int32) (v3 : Int32) : Option ((Int32 × Int32) ⊕ Int32) :=
  zLt (v3 + (1 : Int32)) (fun x10 => some (.inl (v2, x10)))
set_option maxHeartbeats 4000000 in
set_option maxRecDepth 100000 in
theorem kX2_dayOfProof_91 {p : Program} {l : Launch} {e : Env} {s : State} {m : MethodId} {args : Array Value} {below : List Frame} {meth : Method} {c : Code} {D : va_G} {cy : Nat → ClassId} {q : Nat → Nat} (cx : zX RX2 cX2_dayOfProof 6 p s m args c D cy) (hr : meth.sig.returnType = (some .int)) (hlk : meth.locks = false) {z : Int32} {S : zSt} {v1 : Int32} {v2 : Int32} {v3 : Int32} {C1 : ((Int32 × Int32) ⊕ Int32) → Prop} (hb1 : ∀ (v2 : Int32) (v3 : Int32), C1 (.inl (v2, v3)) → ∀ (ls : Array Slot), lv_has ls 6 [(0, .ref (q 255)), (1, .int v1), (2, .int v2), (3, .int v3)] → W p l e rmX2_dayOfProof s m args below meth c s.heap [] 0 0 (MQ below (vp_Si (fun x => x = z)) args s 0 0 (fun _ => False)) (F0 m 4 ls [])) (hx1 : ∀ a, C1 (.inr a) → a = z) (hP : va_P D vwCl (zW zsh zNC cy q S) s.heap) {x : ((Int32 × Int32) ⊕ Int32)} (h : fX2_dayOfProof_91 S v1 v2 v3 = some x) (hc : C1 x) {ls : Array Slot} (hl : lv_has ls 6 [(0, .ref (q 255)), (1, .int v1), (2, .int v2), (3, .int v3)]) : W p l e rmX2_dayOfProof s m args below meth c s.heap [] 0 0 (MQ below (vp_Si (fun x => x = z)) args s 0 0 (fun _ => False)) (F0 m 91 ls []) := by
  have hx := cx.1
  have hb := cx.2.1
  unfold fX2_dayOfProof_91 at h
  obtain ⟨x10, ex10, h⟩ := zLt_e h
  refine lv_iinc (v := x10) (lv' := [(3, .int x10), (0, .ref (q 255)), (1, .int v1), (2, .int v2)]) (pc := 91) hx hb dX2_dayOfProof_91 hl (k := 3) rfl (by rw [zc_1]; exact ex10.symm) (by decide) rfl (fun ls hl => ?_)
  refine lv_goto (pc := 94) (tgt := 4) hx hb dX2_dayOfProof_94 (by decide) ?_
  cases h
  exact hb1 _ _ hc _ (lv_sub hl [1, 2, 3, 0] rfl)
def fX2_dayOfProof_88 (S : zSt)  (v1 : Int32) (v3 : Int32) (v4 : Int32) : Option ((Int32 × Int32) ⊕ Int32) :=
  fX2_dayOfProof_91 S v1 v4 v3
set_option maxHeartbeats 4000000 in
set_option maxRecDepth 100000 in
theorem kX2_dayOfProof_88 {p : Program} {l : Launch} {e : Env} {s : State} {m : MethodId} {args : Array Value} {below : List Frame} {meth : Method} {c : Code} {D : va_G} {cy : Nat → ClassId} {q : Nat → Nat} (cx : zX RX2 cX2_dayOfProof 6 p s m args c D cy) (hr : meth.sig.returnType = (some .int)) (hlk : meth.locks = false) {z : Int32} {S : zSt} {v1 : Int32} {v3 : Int32} {v4 : Int32} {C1 : ((Int32 × Int32) ⊕ Int32) → Prop} (hb1 : ∀ (v2 : Int32) (v3 : Int32), C1 (.inl (v2, v3)) → ∀ (ls : Array Slot), lv_has ls 6 [(0, .ref (q 255)), (1, .int v1), (2, .int v2), (3, .int v3)] → W p l e rmX2_dayOfProof s m args below meth c s.heap [] 0 0 (MQ below (vp_Si (fun x => x = z)) args s 0 0 (fun _ => False)) (F0 m 4 ls [])) (hx1 : ∀ a, C1 (.inr a) → a = z) (hP : va_P D vwCl (zW zsh zNC cy q S) s.heap) {x : ((Int32 × Int32) ⊕ Int32)} (h : fX2_dayOfProof_88 S v1 v3 v4 = some x) (hc : C1 x) {ls : Array Slot} (hl : lv_has ls 6 [(0, .ref (q 255)), (1, .int v1), (3, .int v3), (4, .int v4)]) : W p l e rmX2_dayOfProof s m args below meth c s.heap [] 0 0 (MQ below (vp_Si (fun x => x = z)) args s 0 0 (fun _ => False)) (F0 m 88 ls []) := by
  have hx := cx.1
  have hb := cx.2.1
  unfold fX2_dayOfProof_88 at h
  refine lv_iload (pc := 88) hx hb dX2_dayOfProof_88 (lv_at hl 3 rfl) ?_
  refine lv_istore_n (lv' := [(2, .int v4), (0, .ref (q 255)), (1, .int v1), (3, .int v3), (4, .int v4)]) (pc := 90) hx hb dX2_dayOfProof_90 rfl hl (by decide) rfl (fun ls hl => ?_)
  exact kX2_dayOfProof_91 cx hr hlk hb1 hx1 hP h hc (lv_sub hl [1, 2, 0, 3] rfl)
def fX2_dayOfProof_62 (S : zSt)  (v1 : Int32) (v2 : Int32) (v3 : Int32) (v4 : Int32) (t0 : Int32) : Option ((Int32 × Int32) ⊕ Int32) :=
  zBr (t0 = 0) (fX2_dayOfProof_91 S v1 v2 v3) (zBr ((400 : Int32) < v4) (fX2_dayOfProof_91 S v1 v2 v3) (zBr (v2 = (-1 : Int32)) (fX2_dayOfProof_88 S v1 v3 v4) (zBr (v2 ≤ v4) (fX2_dayOfProof_91 S v1 v2 v3) (fX2_dayOfProof_88 S v1 v3 v4))))
set_option maxHeartbeats 4000000 in
set_option maxRecDepth 100000 in
theorem kX2_dayOfProof_62 {p : Program} {l : Launch} {e : Env} {s : State} {m : MethodId} {args : Array Value} {below : List Frame} {meth : Method} {c : Code} {D : va_G} {cy : Nat → ClassId} {q : Nat → Nat} (cx : zX RX2 cX2_dayOfProof 6 p s m args c D cy) (hr : meth.sig.returnType = (some .int)) (hlk : meth.locks = false) {z : Int32} {S : zSt} {v1 : Int32} {v2 : Int32} {v3 : Int32} {v4 : Int32} {t0 : Int32} {C1 : ((Int32 × Int32) ⊕ Int32) → Prop} (hb1 : ∀ (v2 : Int32) (v3 : Int32), C1 (.inl (v2, v3)) → ∀ (ls : Array Slot), lv_has ls 6 [(0, .ref (q 255)), (1, .int v1), (2, .int v2), (3, .int v3)] → W p l e rmX2_dayOfProof s m args below meth c s.heap [] 0 0 (MQ below (vp_Si (fun x => x = z)) args s 0 0 (fun _ => False)) (F0 m 4 ls [])) (hx1 : ∀ a, C1 (.inr a) → a = z) (hP : va_P D vwCl (zW zsh zNC cy q S) s.heap) {x : ((Int32 × Int32) ⊕ Int32)} (h : fX2_dayOfProof_62 S v1 v2 v3 v4 t0 = some x) (hc : C1 x) {ls : Array Slot} (hl : lv_has ls 6 [(0, .ref (q 255)), (1, .int v1), (2, .int v2), (3, .int v3), (4, .int v4)]) : W p l e rmX2_dayOfProof s m args below meth c s.heap [] 0 0 (MQ below (vp_Si (fun x => x = z)) args s 0 0 (fun _ => False)) (F0 m 62 ls [.int t0]) := by
  have hx := cx.1
  have hb := cx.2.1
  unfold fX2_dayOfProof_62 at h
  refine lv_istore (lv' := [(5, .int t0), (0, .ref (q 255)), (1, .int v1), (2, .int v2), (3, .int v3), (4, .int v4)]) (pc := 62) hx hb dX2_dayOfProof_62 hl (by decide) rfl (fun ls hl => ?_)
  refine lv_iload (pc := 64) hx hb dX2_dayOfProof_64 (lv_at hl 0 rfl) ?_
  refine lv_if_eq (pc := 66) (tgt := 91) hx hb dX2_dayOfProof_66 (by decide) (fun c9 => ?_) (fun c9 => ?_)
  · replace h := zBr_t c9 h
    exact kX2_dayOfProof_91 cx hr hlk hb1 hx1 hP h hc (lv_sub hl [1, 2, 3, 4] rfl)
  · replace h := zBr_f c9 h
    refine lv_iload (pc := 69) hx hb dX2_dayOfProof_69 (lv_at hl 5 rfl) ?_
    refine lv_sipush (pc := 71) hx hb dX2_dayOfProof_71 zs_400 ?_
    refine lv_icmp_gt (pc := 74) (tgt := 91) hx hb dX2_dayOfProof_74 (by decide) (fun c11 => ?_) (fun c11 => ?_)
    · replace h := zBr_t c11 h
      exact kX2_dayOfProof_91 cx hr hlk hb1 hx1 hP h hc (lv_sub hl [1, 2, 3, 4] rfl)
    · replace h := zBr_f c11 h
      refine lv_iload_n (pc := 77) hx hb dX2_dayOfProof_77 rfl (lv_at hl 3 rfl) ?_
      refine lv_iconst (pc := 78) hx hb dX2_dayOfProof_78 zc_m1 ?_
      refine lv_icmp_eq (pc := 79) (tgt := 88) hx hb dX2_dayOfProof_79 (by decide) (fun c12 => ?_) (fun c12 => ?_)
      · replace h := zBr_t c12 h
        exact kX2_dayOfProof_88 cx hr hlk hb1 hx1 hP h hc (lv_sub hl [1, 2, 4, 5] rfl)
      · replace h := zBr_f c12 h
        refine lv_iload (pc := 82) hx hb dX2_dayOfProof_82 (lv_at hl 5 rfl) ?_
        refine lv_iload_n (pc := 84) hx hb dX2_dayOfProof_84 rfl (lv_at hl 3 rfl) ?_
        refine lv_icmp_ge (pc := 85) (tgt := 91) hx hb dX2_dayOfProof_85 (by decide) (fun c13 => ?_) (fun c13 => ?_)
        · replace h := zBr_t c13 h
          exact kX2_dayOfProof_91 cx hr hlk hb1 hx1 hP h hc (lv_sub hl [1, 2, 3, 4] rfl)
        · replace h := zBr_f c13 h
          exact kX2_dayOfProof_88 cx hr hlk hb1 hx1 hP h hc (lv_sub hl [1, 2, 4, 5] rfl)
def fX2_dayOfProof_61 (S : zSt)  (v1 : Int32) (v2 : Int32) (v3 : Int32) (v4 : Int32) : Option ((Int32 × Int32) ⊕ Int32) :=
  fX2_dayOfProof_62 S v1 v2 v3 v4 (0 : Int32)
set_option maxHeartbeats 4000000 in
set_option maxRecDepth 100000 in
theorem kX2_dayOfProof_61 {p : Program} {l : Launch} {e : Env} {s : State} {m : MethodId} {args : Array Value} {below : List Frame} {meth : Method} {c : Code} {D : va_G} {cy : Nat → ClassId} {q : Nat → Nat} (cx : zX RX2 cX2_dayOfProof 6 p s m args c D cy) (hr : meth.sig.returnType = (some .int)) (hlk : meth.locks = false) {z : Int32} {S : zSt} {v1 : Int32} {v2 : Int32} {v3 : Int32} {v4 : Int32} {C1 : ((Int32 × Int32) ⊕ Int32) → Prop} (hb1 : ∀ (v2 : Int32) (v3 : Int32), C1 (.inl (v2, v3)) → ∀ (ls : Array Slot), lv_has ls 6 [(0, .ref (q 255)), (1, .int v1), (2, .int v2), (3, .int v3)] → W p l e rmX2_dayOfProof s m args below meth c s.heap [] 0 0 (MQ below (vp_Si (fun x => x = z)) args s 0 0 (fun _ => False)) (F0 m 4 ls [])) (hx1 : ∀ a, C1 (.inr a) → a = z) (hP : va_P D vwCl (zW zsh zNC cy q S) s.heap) {x : ((Int32 × Int32) ⊕ Int32)} (h : fX2_dayOfProof_61 S v1 v2 v3 v4 = some x) (hc : C1 x) {ls : Array Slot} (hl : lv_has ls 6 [(0, .ref (q 255)), (1, .int v1), (2, .int v2), (3, .int v3), (4, .int v4)]) : W p l e rmX2_dayOfProof s m args below meth c s.heap [] 0 0 (MQ below (vp_Si (fun x => x = z)) args s 0 0 (fun _ => False)) (F0 m 61 ls []) := by
  have hx := cx.1
  have hb := cx.2.1
  unfold fX2_dayOfProof_61 at h
  refine lv_iconst (pc := 61) hx hb dX2_dayOfProof_61 zc_0 ?_
  exact kX2_dayOfProof_62 cx hr hlk hb1 hx1 hP h hc (lv_sub hl [0, 1, 2, 3, 4] rfl)
def fX2_dayOfProof_4 (S : zSt)  (v1 : Int32) (t : (Int32 × Int32)) : Option ((Int32 × Int32) ⊕ Int32) :=
  match t with
  | (v2, v3) => zBd (fX6_plants S 14) (fun r2 => zBr (r2 ≤ v3) (zXr (some v2)) (zGd (zIx v3 6) (zGd (zIx v1 12) (zLt (S.1 (14 + 6 + v3.toNatClampNeg) v1.toNatClampNeg) (fun x7 => zBr (x7 = (-1 : Int32)) (fX2_dayOfProof_61 S v1 v2 v3 x7) (zBd (fX6_witnessesBy S 14 v1 x7) (fun r15 => zBd (fJ6_bitCount_0f7a4 r15) (fun r17 => zBr (r17 < (S.1 4 11)) (fX2_dayOfProof_61 S v1 v2 v3 x7) (fX2_dayOfProof_62 S v1 v2 v3 x7 (1 : Int32))))))))))
set_option maxHeartbeats 4000000 in
set_option maxRecDepth 100000 in
theorem kX2_dayOfProof_4B {p : Program} {l : Launch} {e : Env} {s : State} {m : MethodId} {args : Array Value} {below : List Frame} {meth : Method} {c : Code} {D : va_G} {cy : Nat → ClassId} {q : Nat → Nat} (cx : zX RX2 cX2_dayOfProof 6 p s m args c D cy) (hr : meth.sig.returnType = (some .int)) (hlk : meth.locks = false) {z : Int32} {S : zSt} {v1 : Int32} {v2 : Int32} {v3 : Int32} {C1 : ((Int32 × Int32) ⊕ Int32) → Prop} (hb1 : ∀ (v2 : Int32) (v3 : Int32), C1 (.inl (v2, v3)) → ∀ (ls : Array Slot), lv_has ls 6 [(0, .ref (q 255)), (1, .int v1), (2, .int v2), (3, .int v3)] → W p l e rmX2_dayOfProof s m args below meth c s.heap [] 0 0 (MQ below (vp_Si (fun x => x = z)) args s 0 0 (fun _ => False)) (F0 m 4 ls [])) (hx1 : ∀ a, C1 (.inr a) → a = z) (hP : va_P D vwCl (zW zsh zNC cy q S) s.heap) {x : ((Int32 × Int32) ⊕ Int32)} (h : fX2_dayOfProof_4 S v1 (v2, v3) = some x) (hc : C1 x) {ls : Array Slot} (hl : lv_has ls 6 [(0, .ref (q 255)), (1, .int v1), (2, .int v2), (3, .int v3)]) : W p l e rmX2_dayOfProof s m args below meth c s.heap [] 0 0 (MQ below (vp_Si (fun x => x = z)) args s 0 0 (fun _ => False)) (F0 m 4 ls []) := by
  have hx := cx.1
  have hb := cx.2.1
  unfold fX2_dayOfProof_4 at h
  dsimp only at h
  refine lv_iload_n (pc := 4) hx hb dX2_dayOfProof_4 rfl (lv_at hl 3 rfl) ?_
  refine lv_aload_n (pc := 5) hx hb dX2_dayOfProof_5 rfl (lv_at hl 0 rfl) ?_
  refine zr_getR (pc := 6) (t := 14) cx lk_X2_25 hP nC_255 sC_255 rfl dX2_dayOfProof_6 ?_
  obtain ⟨r2, k1, h⟩ := zBd_e h
  refine zr_VI (pc := 9) (rest := [.int v3]) cx cv_X2_29 (mX6_plants zLife_14 k1) ⟨⟨rfl, rfl⟩, Nat.le_of_ble_eq_true rfl, Nat.le_of_ble_eq_true rfl⟩ ⟨Nat.le_of_ble_eq_true rfl, Nat.le_of_ble_eq_true rfl⟩ hP (nX6_0 zLife_14) (sX6_0 zLife_14) rfl hl.1 rfl rfl (Nat.le_of_ble_eq_true rfl) dX2_dayOfProof_9 ?_
  refine lv_icmp_ge (pc := 12) (tgt := 97) hx hb dX2_dayOfProof_12 (by decide) (fun c3 => ?_) (fun c3 => ?_)
  · replace h := zBr_t c3 h
    obtain ⟨y4, h, ex⟩ := zXr_e h
    have hc := hx1 y4 (by rw [ex] at hc; exact hc)
    rw [hc] at h
    refine lv_iload_n (pc := 97) hx hb dX2_dayOfProof_97 rfl (lv_at hl 2 rfl) ?_
    have hz := Option.some.inj h
    exact zr_reI (pc := 98) cx hr hlk hz dX2_dayOfProof_98
  · replace h := zBr_f c3 h
    refine lv_aload_n (pc := 15) hx hb dX2_dayOfProof_15 rfl (lv_at hl 0 rfl) ?_
    refine zr_getR (pc := 16) (t := 14) cx lk_X2_25 hP nC_255 sC_255 rfl dX2_dayOfProof_16 ?_
    refine zr_getR (pc := 19) (t := (14 + 5)) cx lk_X2_35 hP (nX6_0 zLife_14) (sX6_0 zLife_14) rfl dX2_dayOfProof_19 ?_
    refine lv_iload_n (pc := 22) hx hb dX2_dayOfProof_22 rfl (lv_at hl 3 rfl) ?_
    obtain ⟨g5, h⟩ := zGd_e h
    refine zr_aald (pc := 23) (g := (14 + 6 + v3.toNatClampNeg)) cx hP (nX6_5 zLife_14) (sX6_5 zLife_14) (Or.inr (Or.inr rfl)) g5 rfl dX2_dayOfProof_23 ?_
    refine lv_iload_n (pc := 24) hx hb dX2_dayOfProof_24 rfl (lv_at hl 1 rfl) ?_
    obtain ⟨g6, h⟩ := zGd_e h
    refine zr_iald (pc := 25) cx hP (nX6_r zLife_14 g5) (sX6_r zLife_14 g5) g6 dX2_dayOfProof_25 ?_
    obtain ⟨x7, ex7, h⟩ := zLt_e h
    refine zr_nmI ex7 ?_
    refine lv_istore (lv' := [(4, .int x7), (0, .ref (q 255)), (1, .int v1), (2, .int v2), (3, .int v3)]) (pc := 26) hx hb dX2_dayOfProof_26 hl (by decide) rfl (fun ls hl => ?_)
    refine lv_iload (pc := 28) hx hb dX2_dayOfProof_28 (lv_at hl 0 rfl) ?_
    refine lv_iconst (pc := 30) hx hb dX2_dayOfProof_30 zc_m1 ?_
    refine lv_icmp_eq (pc := 31) (tgt := 61) hx hb dX2_dayOfProof_31 (by decide) (fun c8 => ?_) (fun c8 => ?_)
    · replace h := zBr_t c8 h
      exact kX2_dayOfProof_61 cx hr hlk hb1 hx1 hP h hc (lv_sub hl [1, 2, 3, 4, 0] rfl)
    · replace h := zBr_f c8 h
      refine lv_aload_n (pc := 34) hx hb dX2_dayOfProof_34 rfl (lv_at hl 1 rfl) ?_
      refine zr_getR (pc := 35) (t := 14) cx lk_X2_25 hP nC_255 sC_255 rfl dX2_dayOfProof_35 ?_
      refine lv_iload_n (pc := 38) hx hb dX2_dayOfProof_38 rfl (lv_at hl 2 rfl) ?_
      refine lv_iload (pc := 39) hx hb dX2_dayOfProof_39 (lv_at hl 0 rfl) ?_
      obtain ⟨r15, k14, h⟩ := zBd_e h
      refine zr_VI (pc := 41) (rest := []) cx cv_X2_39 (mX6_witnessesBy zLife_14 k14) ⟨⟨rfl, rfl⟩, Nat.le_of_ble_eq_true rfl, Nat.le_of_ble_eq_true rfl⟩ ⟨Nat.le_of_ble_eq_true rfl, Nat.le_of_ble_eq_true rfl⟩ hP (nX6_0 zLife_14) (sX6_0 zLife_14) rfl hl.1 rfl rfl (Nat.le_of_ble_eq_true rfl) dX2_dayOfProof_41 ?_
      obtain ⟨r17, k16, h⟩ := zBd_e h
      refine zr_SI (pc := 44) (rest := []) cx cv_X2_43 (mJ6_bitCount_0f7a4 k16) ⟨⟨rfl, rfl⟩, Nat.le_of_ble_eq_true rfl, Nat.le_of_ble_eq_true rfl⟩ ⟨Nat.le_of_ble_eq_true rfl, Nat.le_of_ble_eq_true rfl⟩ (zr_preK cx) hl.1 rfl rfl (Nat.le_of_ble_eq_true rfl) dX2_dayOfProof_44 ?_
      refine lv_aload_n (pc := 47) hx hb dX2_dayOfProof_47 rfl (lv_at hl 1 rfl) ?_
      refine zr_getR (pc := 48) (t := 4) cx lk_X2_21 hP nC_255 sC_255 rfl dX2_dayOfProof_48 ?_
      refine zr_getI (pc := 51) cx lk_X2_49 hP (nX3_0 zHouse_4) (sX3_0 zHouse_4) rfl dX2_dayOfProof_51 ?_
      refine lv_icmp_lt (pc := 54) (tgt := 61) hx hb dX2_dayOfProof_54 (by decide) (fun c18 => ?_) (fun c18 => ?_)
      · replace h := zBr_t c18 h
        exact kX2_dayOfProof_61 cx hr hlk hb1 hx1 hP h hc (lv_sub hl [1, 2, 3, 4, 0] rfl)
      · replace h := zBr_f c18 h
        refine lv_iconst (pc := 57) hx hb dX2_dayOfProof_57 zc_1 ?_
        refine lv_goto (pc := 58) (tgt := 62) hx hb dX2_dayOfProof_58 (by decide) ?_
        exact kX2_dayOfProof_62 cx hr hlk hb1 hx1 hP h hc (lv_sub hl [1, 2, 3, 4, 0] rfl)
set_option maxHeartbeats 4000000 in
set_option maxRecDepth 100000 in
theorem kX2_dayOfProof_4 {p : Program} {l : Launch} {e : Env} {s : State} {m : MethodId} {args : Array Value} {below : List Frame} {meth : Method} {c : Code} {D : va_G} {cy : Nat → ClassId} {q : Nat → Nat} (cx : zX RX2 cX2_dayOfProof 6 p s m args c D cy) (hr : meth.sig.returnType = (some .int)) (hlk : meth.locks = false) {z : Int32} {S : zSt} {v1 : Int32} (hP : va_P D vwCl (zW zsh zNC cy q S) s.heap) : ∀ (n : Nat) (v2 : Int32) (v3 : Int32), zLp (fX2_dayOfProof_4 S v1) n (v2, v3) = some z → ∀ (ls : Array Slot), lv_has ls 6 [(0, .ref (q 255)), (1, .int v1), (2, .int v2), (3, .int v3)] → W p l e rmX2_dayOfProof s m args below meth c s.heap [] 0 0 (MQ below (vp_Si (fun x => x = z)) args s 0 0 (fun _ => False)) (F0 m 4 ls []) := by
  intro n
  induction n with
  | zero =>
    intro v2 v3 h
    cases h
  | succ n ih =>
    intro v2 v3 h ls hl
    obtain ⟨x, h, hk⟩ := zLp_e h
    exact kX2_dayOfProof_4B cx hr hlk  (C1 := zKt (fun t => zLp (fX2_dayOfProof_4 S v1) n t = some z) (fun a => a = z)) (fun v2 v3 ht ls hl => ih v2 v3 ht ls hl) (fun a ha => ha) hP h hk hl
def fX2_dayOfProof (S : zSt) (v1 : Int32) : Option Int32 :=
  zLp (fX2_dayOfProof_4 S v1) 2000 ((-1 : Int32), (0 : Int32))
set_option maxHeartbeats 4000000 in
set_option maxRecDepth 100000 in
theorem mX2_dayOfProof {l : Launch} {D : va_G} {cy : Nat → ClassId} {q : Nat → Nat} {S : zSt} {v1 : Int32} {z : Int32} (h : fX2_dayOfProof S v1 = some z) : zMi l yX2_dayOfProof cX2_dayOfProof 6 (some .int) rmX2_dayOfProof [.ref (q 255), .int v1] (zPr zsh zNC D cy q S) z := by
  refine Met.ofW (cc := cX2_dayOfProof) (maxL := 6) (ret := (some .int)) (by decide) rfl ?_
  intro p e s m args below meth c s₁ B hml hv
  obtain ⟨rfl, hP, hK⟩ := hv
  have cx : zX RX2 cX2_dayOfProof 6 p s m ([.ref (q 255), .int v1]).toArray c D cy := ⟨B.exec, B.bytes, hml, findClass_of_methodNamed B.named, fun w hw => atoms_spec (ws := Cond.code yX2_dayOfProof cX2_dayOfProof 6 (some .int) :: zTB) B.pre w (List.mem_cons_of_mem _ hw), hK⟩
  have hx := cx.1
  have hb := cx.2.1
  have hr := B.returns
  have hlk := B.notSynchronized
  have hl := lv_entry ([.ref (q 255), .int v1]) (n := 6) (Nat.le_of_ble_eq_true rfl)
  rw [lg_entry_eq]
  generalize (lg_sl ([.ref (q 255), .int v1]) ++ List.replicate (6 - (lg_sl ([.ref (q 255), .int v1])).length) Slot.unset).toArray = ls at hl ⊢
  have hl : lv_has ls 6 [(0, .ref (q 255)), (1, .int v1)] := hl
  unfold fX2_dayOfProof at h
  refine lv_iconst (pc := 0) hx hb dX2_dayOfProof_0 zc_m1 ?_
  refine lv_istore_n (lv' := [(2, .int (-1 : Int32)), (0, .ref (q 255)), (1, .int v1)]) (pc := 1) hx hb dX2_dayOfProof_1 rfl hl (by decide) rfl (fun ls hl => ?_)
  refine lv_iconst (pc := 2) hx hb dX2_dayOfProof_2 zc_0 ?_
  refine lv_istore_n (lv' := [(3, .int (0 : Int32)), (2, .int (-1 : Int32)), (0, .ref (q 255)), (1, .int v1)]) (pc := 3) hx hb dX2_dayOfProof_3 rfl hl (by decide) rfl (fun ls hl => ?_)
  exact kX2_dayOfProof_4 cx hr hlk hP 2000 _ _ h _ (lv_sub hl [2, 3, 1, 0] rfl)
-- X11_proves
abbrev rmX11_proves : Room := { frames := 3, cells := 0, slots := 0, locals := 69 }
def fX11_proves (S : zSt) (v1 : Int32) : Option Int32 :=
  zBd (fX6_hasAct S 14 v1) (fun r2 => zBr (r2 = 0) (some (-1 : Int32)) (zBd (fX2_dayOfProof S v1) (fun r5 => some r5)))
set_option maxHeartbeats 4000000 in
set_option maxRecDepth 100000 in
theorem mX11_proves {l : Launch} {D : va_G} {cy : Nat → ClassId} {q : Nat → Nat} {S : zSt} {v1 : Int32} {z : Int32} (h : fX11_proves S v1 = some z) : zMi l yX11_proves cX11_proves 2 (some .int) rmX11_proves [.ref (q 0), .int v1] (zPr zsh zNC D cy q S) z := by
  refine Met.ofW (cc := cX11_proves) (maxL := 2) (ret := (some .int)) (by decide) rfl ?_
  intro p e s m args below meth c s₁ B hml hv
  obtain ⟨rfl, hP, hK⟩ := hv
  have cx : zX RX11 cX11_proves 2 p s m ([.ref (q 0), .int v1]).toArray c D cy := ⟨B.exec, B.bytes, hml, findClass_of_methodNamed B.named, fun w hw => atoms_spec (ws := Cond.code yX11_proves cX11_proves 2 (some .int) :: zTB) B.pre w (List.mem_cons_of_mem _ hw), hK⟩
  have hx := cx.1
  have hb := cx.2.1
  have hr := B.returns
  have hlk := B.notSynchronized
  have hl := lv_entry ([.ref (q 0), .int v1]) (n := 2) (Nat.le_of_ble_eq_true rfl)
  rw [lg_entry_eq]
  generalize (lg_sl ([.ref (q 0), .int v1]) ++ List.replicate (2 - (lg_sl ([.ref (q 0), .int v1])).length) Slot.unset).toArray = ls at hl ⊢
  have hl : lv_has ls 2 [(0, .ref (q 0)), (1, .int v1)] := hl
  unfold fX11_proves at h
  refine lv_aload_n (pc := 0) hx hb dX11_proves_0 rfl (lv_at hl 0 rfl) ?_
  refine zr_getR (pc := 1) (t := 14) cx lk_X11_28 hP nC_0 sC_0 rfl dX11_proves_1 ?_
  refine lv_iload_n (pc := 4) hx hb dX11_proves_4 rfl (lv_at hl 1 rfl) ?_
  obtain ⟨r2, k1, h⟩ := zBd_e h
  refine zr_VI (pc := 5) (rest := []) cx cv_X11_184 (mX6_hasAct zLife_14 k1) ⟨⟨rfl, rfl⟩, Nat.le_of_ble_eq_true rfl, Nat.le_of_ble_eq_true rfl⟩ ⟨Nat.le_of_ble_eq_true rfl, Nat.le_of_ble_eq_true rfl⟩ hP (nX6_0 zLife_14) (sX6_0 zLife_14) rfl hl.1 rfl rfl (Nat.le_of_ble_eq_true rfl) dX11_proves_5 ?_
  refine lv_if_eq (pc := 8) (tgt := 22) hx hb dX11_proves_8 (by decide) (fun c3 => ?_) (fun c3 => ?_)
  · replace h := zBr_t c3 h
    refine lv_iconst (pc := 22) hx hb dX11_proves_22 zc_m1 ?_
    have hz := Option.some.inj h
    exact zr_reI (pc := 23) cx hr hlk hz dX11_proves_23
  · replace h := zBr_f c3 h
    refine lv_aload_n (pc := 11) hx hb dX11_proves_11 rfl (lv_at hl 0 rfl) ?_
    refine zr_getR (pc := 12) (t := 255) cx lk_X11_82 hP nC_0 sC_0 rfl dX11_proves_12 ?_
    refine lv_iload_n (pc := 15) hx hb dX11_proves_15 rfl (lv_at hl 1 rfl) ?_
    obtain ⟨r5, k4, h⟩ := zBd_e h
    refine zr_VI (pc := 16) (rest := []) cx cv_X11_281 (mX2_dayOfProof k4) ⟨⟨rfl, rfl⟩, Nat.le_of_ble_eq_true rfl, Nat.le_of_ble_eq_true rfl⟩ ⟨Nat.le_of_ble_eq_true rfl, Nat.le_of_ble_eq_true rfl⟩ hP nC_255 sC_255 rfl hl.1 rfl rfl (Nat.le_of_ble_eq_true rfl) dX11_proves_16 ?_
    refine lv_goto (pc := 19) (tgt := 23) hx hb dX11_proves_19 (by decide) ?_
    have hz := Option.some.inj h
    exact zr_reI (pc := 23) cx hr hlk hz dX11_proves_23
-- X7_forget
abbrev rmX7_forget : Room := { frames := 0, cells := 0, slots := 0, locals := 0 }
def fX7_forget (S : zSt) : Option zSt :=
  zLt (zI S 44 2 (0 : Int32)) (fun S1 => some S1)
set_option maxHeartbeats 4000000 in
set_option maxRecDepth 100000 in
theorem mX7_forget {l : Launch} {D : va_G} {cy : Nat → ClassId} {q : Nat → Nat} {A : Nat → Prop} {S : zSt} (hq : zQ A q zNC) {z : zSt} (h : fX7_forget S = some z) : zMv l yX7_forget cX7_forget 1 none rmX7_forget [.ref (q 44)] zsh zNC D cy q A S z := by
  refine Met.ofW (cc := cX7_forget) (maxL := 1) (ret := none) (by decide) rfl ?_
  intro p e s m args below meth c s₁ B hml hv
  obtain ⟨rfl, hP, hK⟩ := hv
  have cx : zX RX7 cX7_forget 1 p s m ([.ref (q 44)]).toArray c D cy := ⟨B.exec, B.bytes, hml, findClass_of_methodNamed B.named, fun w hw => atoms_spec (ws := Cond.code yX7_forget cX7_forget 1 none :: zTB) B.pre w (List.mem_cons_of_mem _ hw), hK⟩
  have hx := cx.1
  have hb := cx.2.1
  have hr := B.returns
  have hlk := B.notSynchronized
  have hS : va_S A s.heap s.heap [] := va_S.rf
  have hl := lv_entry ([.ref (q 44)]) (n := 1) (Nat.le_of_ble_eq_true rfl)
  rw [lg_entry_eq]
  generalize (lg_sl ([.ref (q 44)]) ++ List.replicate (1 - (lg_sl ([.ref (q 44)])).length) Slot.unset).toArray = ls at hl ⊢
  have hl : lv_has ls 1 [(0, .ref (q 44))] := hl
  unfold fX7_forget at h
  refine lv_aload_n (pc := 0) hx hb dX7_forget_0 rfl (lv_at hl 0 rfl) ?_
  refine lv_iconst (pc := 1) hx hb dX7_forget_1 zc_0 ?_
  obtain ⟨S1, eS1, h⟩ := zLt_e h
  refine zr_putI (pc := 2) cx lq_X7_20 hq hP hS nC_44 sC_44 rfl rfl rfl dX7_forget_2 (fun H locs hP hS => ?_)
  rw [← eS1] at hP
  have hz := Option.some.inj h
  exact zr_rqV (pc := 5) cx hr hlk hP hS hz dX7_forget_5
-- X11_restore
abbrev rmX11_restore : Room := { frames := 2, cells := 0, slots := 0, locals := 70 }
def fX11_restore (S : zSt) (v1 : Int32) : Option (Int32 × zSt) :=
  zBr (v1 < 0) (some ((0 : Int32), S)) (zBr ((2 : Int32) ≤ v1) (some ((0 : Int32), S)) (zGd (zIx v1 2) (zBr ((S.1 (167 + 31 * v1.toNatClampNeg) 3) = 0) (some ((0 : Int32), S)) (zGd (zIx v1 2) (zBd (fX3_copyFrom S 4 ((167 + 31 * v1.toNatClampNeg) + 1)) (fun S7 => zGd (zIx v1 2) (zBd (fX6_copyFrom S7 14 ((167 + 31 * v1.toNatClampNeg) + 11)) (fun S10 => zGd (zIx v1 2) (zBd (fX8_copyFrom S10 245 ((167 + 31 * v1.toNatClampNeg) + 26)) (fun S13 => zBd (fX7_forget S13) (fun S15 => some ((1 : Int32), S15))))))))))))
set_option maxHeartbeats 4000000 in
set_option maxRecDepth 100000 in
theorem mX11_restore {l : Launch} {D : va_G} {cy : Nat → ClassId} {q : Nat → Nat} {A : Nat → Prop} {S : zSt} {v1 : Int32} (hq : zQ A q zNC) {z : (Int32 × zSt)} (h : fX11_restore S v1 = some z) : zMq l yX11_restore cX11_restore 2 (some .boolean) rmX11_restore [.ref (q 0), .int v1] zsh zNC D cy q A S z := by
  refine Met.ofW (cc := cX11_restore) (maxL := 2) (ret := (some .boolean)) (by decide) rfl ?_
  intro p e s m args below meth c s₁ B hml hv
  obtain ⟨rfl, hP, hK⟩ := hv
  have cx : zX RX11 cX11_restore 2 p s m ([.ref (q 0), .int v1]).toArray c D cy := ⟨B.exec, B.bytes, hml, findClass_of_methodNamed B.named, fun w hw => atoms_spec (ws := Cond.code yX11_restore cX11_restore 2 (some .boolean) :: zTB) B.pre w (List.mem_cons_of_mem _ hw), hK⟩
  have hx := cx.1
  have hb := cx.2.1
  have hr := B.returns
  have hlk := B.notSynchronized
  have hS : va_S A s.heap s.heap [] := va_S.rf
  have hl := lv_entry ([.ref (q 0), .int v1]) (n := 2) (Nat.le_of_ble_eq_true rfl)
  rw [lg_entry_eq]
  generalize (lg_sl ([.ref (q 0), .int v1]) ++ List.replicate (2 - (lg_sl ([.ref (q 0), .int v1])).length) Slot.unset).toArray = ls at hl ⊢
  have hl : lv_has ls 2 [(0, .ref (q 0)), (1, .int v1)] := hl
  unfold fX11_restore at h
  refine lv_iload_n (pc := 0) hx hb dX11_restore_0 rfl (lv_at hl 1 rfl) ?_
  refine lv_if_lt (pc := 1) (tgt := 21) hx hb dX11_restore_1 (by decide) (fun c1 => ?_) (fun c1 => ?_)
  · replace h := zBr_t c1 h
    refine lv_iconst (pc := 21) hx hb dX11_restore_21 zc_0 ?_
    have hz := Option.some.inj h
    exact zr_rqZ (pc := 22) cx hr hlk hP hS hz (by decide) dX11_restore_22
  · replace h := zBr_f c1 h
    refine lv_iload_n (pc := 4) hx hb dX11_restore_4 rfl (lv_at hl 1 rfl) ?_
    refine lv_iconst (pc := 5) hx hb dX11_restore_5 zc_2 ?_
    refine lv_icmp_ge (pc := 6) (tgt := 21) hx hb dX11_restore_6 (by decide) (fun c2 => ?_) (fun c2 => ?_)
    · replace h := zBr_t c2 h
      refine lv_iconst (pc := 21) hx hb dX11_restore_21 zc_0 ?_
      have hz := Option.some.inj h
      exact zr_rqZ (pc := 22) cx hr hlk hP hS hz (by decide) dX11_restore_22
    · replace h := zBr_f c2 h
      refine lv_aload_n (pc := 9) hx hb dX11_restore_9 rfl (lv_at hl 0 rfl) ?_
      refine zr_getR (pc := 10) (t := 166) cx lk_X11_44 hP nC_0 sC_0 rfl dX11_restore_10 ?_
      refine lv_iload_n (pc := 13) hx hb dX11_restore_13 rfl (lv_at hl 1 rfl) ?_
      obtain ⟨g3, h⟩ := zGd_e h
      refine zr_aald (pc := 14) (g := (167 + 31 * v1.toNatClampNeg)) cx hP nC_166 sC_166 (Or.inl rfl) g3 rfl dX11_restore_14 ?_
      refine zr_getI (pc := 15) cx lk_X11_396 hP (nX5_0 (zIm_ix g3)) (sX5_0 (zIm_ix g3)) rfl dX11_restore_15 ?_
      refine lv_if_ne (pc := 18) (tgt := 23) hx hb dX11_restore_18 (by decide) (fun c4 => ?_) (fun c4 => ?_)
      · replace h := zBr_f c4 h
        refine lv_aload_n (pc := 23) hx hb dX11_restore_23 rfl (lv_at hl 0 rfl) ?_
        refine zr_getR (pc := 24) (t := 4) cx lk_X11_19 hP nC_0 sC_0 rfl dX11_restore_24 ?_
        refine lv_aload_n (pc := 27) hx hb dX11_restore_27 rfl (lv_at hl 0 rfl) ?_
        refine zr_getR (pc := 28) (t := 166) cx lk_X11_44 hP nC_0 sC_0 rfl dX11_restore_28 ?_
        refine lv_iload_n (pc := 31) hx hb dX11_restore_31 rfl (lv_at hl 1 rfl) ?_
        obtain ⟨g5, h⟩ := zGd_e h
        refine zr_aald (pc := 32) (g := (167 + 31 * v1.toNatClampNeg)) cx hP nC_166 sC_166 (Or.inl rfl) g5 rfl dX11_restore_32 ?_
        refine zr_getR (pc := 33) (t := ((167 + 31 * v1.toNatClampNeg) + 1)) cx lk_X11_400 hP (nX5_0 (zIm_ix g5)) (sX5_0 (zIm_ix g5)) rfl dX11_restore_33 ?_
        obtain ⟨S7, k6, h⟩ := zBd_e h
        refine zr_VV (pc := 36) (rest := []) cx cv_X11_134 (mX3_copyFrom hq zHouse_4 (zIm_h (zIm_ix g5)) k6) ⟨⟨rfl, rfl⟩, Nat.le_of_ble_eq_true rfl, Nat.le_of_ble_eq_true rfl⟩ ⟨Nat.le_of_ble_eq_true rfl, Nat.le_of_ble_eq_true rfl⟩ hP hS (nX3_0 zHouse_4) (sX3_0 zHouse_4) rfl hl.1 rfl rfl (Nat.le_of_ble_eq_true rfl) dX11_restore_36 (fun H locs hP hS => ?_)
        refine lv_aload_n (pc := 39) hx hb dX11_restore_39 rfl (lv_at hl 0 rfl) ?_
        refine zr_getR (pc := 40) (t := 14) cx lk_X11_28 hP nC_0 sC_0 rfl dX11_restore_40 ?_
        refine lv_aload_n (pc := 43) hx hb dX11_restore_43 rfl (lv_at hl 0 rfl) ?_
        refine zr_getR (pc := 44) (t := 166) cx lk_X11_44 hP nC_0 sC_0 rfl dX11_restore_44 ?_
        refine lv_iload_n (pc := 47) hx hb dX11_restore_47 rfl (lv_at hl 1 rfl) ?_
        obtain ⟨g8, h⟩ := zGd_e h
        refine zr_aald (pc := 48) (g := (167 + 31 * v1.toNatClampNeg)) cx hP nC_166 sC_166 (Or.inl rfl) g8 rfl dX11_restore_48 ?_
        refine zr_getR (pc := 49) (t := ((167 + 31 * v1.toNatClampNeg) + 11)) cx lk_X11_401 hP (nX5_0 (zIm_ix g8)) (sX5_0 (zIm_ix g8)) rfl dX11_restore_49 ?_
        obtain ⟨S10, k9, h⟩ := zBd_e h
        refine zr_VV (pc := 52) (rest := []) cx cv_X11_357 (mX6_copyFrom hq zLife_14 (zIm_l (zIm_ix g8)) k9) ⟨⟨rfl, rfl⟩, Nat.le_of_ble_eq_true rfl, Nat.le_of_ble_eq_true rfl⟩ ⟨Nat.le_of_ble_eq_true rfl, Nat.le_of_ble_eq_true rfl⟩ hP hS (nX6_0 zLife_14) (sX6_0 zLife_14) rfl hl.1 rfl rfl (Nat.le_of_ble_eq_true rfl) dX11_restore_52 (fun H locs hP hS => ?_)
        refine lv_aload_n (pc := 55) hx hb dX11_restore_55 rfl (lv_at hl 0 rfl) ?_
        refine zr_getR (pc := 56) (t := 245) cx lk_X11_70 hP nC_0 sC_0 rfl dX11_restore_56 ?_
        refine lv_aload_n (pc := 59) hx hb dX11_restore_59 rfl (lv_at hl 0 rfl) ?_
        refine zr_getR (pc := 60) (t := 166) cx lk_X11_44 hP nC_0 sC_0 rfl dX11_restore_60 ?_
        refine lv_iload_n (pc := 63) hx hb dX11_restore_63 rfl (lv_at hl 1 rfl) ?_
        obtain ⟨g11, h⟩ := zGd_e h
        refine zr_aald (pc := 64) (g := (167 + 31 * v1.toNatClampNeg)) cx hP nC_166 sC_166 (Or.inl rfl) g11 rfl dX11_restore_64 ?_
        refine zr_getR (pc := 65) (t := ((167 + 31 * v1.toNatClampNeg) + 26)) cx lk_X11_402 hP (nX5_0 (zIm_ix g11)) (sX5_0 (zIm_ix g11)) rfl dX11_restore_65 ?_
        obtain ⟨S13, k12, h⟩ := zBd_e h
        refine zr_VV (pc := 68) (rest := []) cx cv_X11_381 (mX8_copyFrom hq zSent_245 (zIm_s (zIm_ix g11)) k12) ⟨⟨rfl, rfl⟩, Nat.le_of_ble_eq_true rfl, Nat.le_of_ble_eq_true rfl⟩ ⟨Nat.le_of_ble_eq_true rfl, Nat.le_of_ble_eq_true rfl⟩ hP hS (nX8_0 zSent_245) (sX8_0 zSent_245) rfl hl.1 rfl rfl (Nat.le_of_ble_eq_true rfl) dX11_restore_68 (fun H locs hP hS => ?_)
        refine lv_aload_n (pc := 71) hx hb dX11_restore_71 rfl (lv_at hl 0 rfl) ?_
        refine zr_getR (pc := 72) (t := 44) cx lk_X11_38 hP nC_0 sC_0 rfl dX11_restore_72 ?_
        obtain ⟨S15, k14, h⟩ := zBd_e h
        refine zr_VV (pc := 75) (rest := []) cx cv_X11_140 (mX7_forget hq k14) ⟨⟨rfl, rfl⟩, Nat.le_of_ble_eq_true rfl, Nat.le_of_ble_eq_true rfl⟩ ⟨Nat.le_of_ble_eq_true rfl, Nat.le_of_ble_eq_true rfl⟩ hP hS nC_44 sC_44 rfl hl.1 rfl rfl (Nat.le_of_ble_eq_true rfl) dX11_restore_75 (fun H locs hP hS => ?_)
        refine lv_iconst (pc := 78) hx hb dX11_restore_78 zc_1 ?_
        have hz := Option.some.inj h
        exact zr_rqZ (pc := 79) cx hr hlk hP hS hz (by decide) dX11_restore_79
      · replace h := zBr_t c4 h
        refine lv_iconst (pc := 21) hx hb dX11_restore_21 zc_0 ?_
        have hz := Option.some.inj h
        exact zr_rqZ (pc := 22) cx hr hlk hP hS hz (by decide) dX11_restore_22
-- X6_parloursWithDust
abbrev rmX6_parloursWithDust : Room := { frames := 1, cells := 0, slots := 0, locals := 20 }
def fX6_parloursWithDust_32 (S : zSt) (a0 : Nat) (v1 : Int32) (v2 : Int32) : Option ((Int32 × Int32) ⊕ Int32) :=
  zLt (v2 + (1 : Int32)) (fun x7 => some (.inl (v1, x7)))
set_option maxHeartbeats 4000000 in
set_option maxRecDepth 100000 in
theorem kX6_parloursWithDust_32 {p : Program} {l : Launch} {e : Env} {s : State} {m : MethodId} {args : Array Value} {below : List Frame} {meth : Method} {c : Code} {D : va_G} {cy : Nat → ClassId} {q : Nat → Nat} (cx : zX RX6 cX6_parloursWithDust 3 p s m args c D cy) (hr : meth.sig.returnType = (some .int)) (hlk : meth.locks = false) {a0 : Nat} (ha0 : zLife a0) {z : Int32} {S : zSt} {v1 : Int32} {v2 : Int32} {C1 : ((Int32 × Int32) ⊕ Int32) → Prop} (hb1 : ∀ (v1 : Int32) (v2 : Int32), C1 (.inl (v1, v2)) → ∀ (ls : Array Slot), lv_has ls 3 [(0, .ref (q a0)), (1, .int v1), (2, .int v2)] → W p l e rmX6_parloursWithDust s m args below meth c s.heap [] 0 0 (MQ below (vp_Si (fun x => x = z)) args s 0 0 (fun _ => False)) (F0 m 4 ls [])) (hx1 : ∀ a, C1 (.inr a) → a = z) (hP : va_P D vwCl (zW zsh zNC cy q S) s.heap) {x : ((Int32 × Int32) ⊕ Int32)} (h : fX6_parloursWithDust_32 S a0 v1 v2 = some x) (hc : C1 x) {ls : Array Slot} (hl : lv_has ls 3 [(0, .ref (q a0)), (1, .int v1), (2, .int v2)]) : W p l e rmX6_parloursWithDust s m args below meth c s.heap [] 0 0 (MQ below (vp_Si (fun x => x = z)) args s 0 0 (fun _ => False)) (F0 m 32 ls []) := by
  have hx := cx.1
  have hb := cx.2.1
  unfold fX6_parloursWithDust_32 at h
  obtain ⟨x7, ex7, h⟩ := zLt_e h
  refine lv_iinc (v := x7) (lv' := [(2, .int x7), (0, .ref (q a0)), (1, .int v1)]) (pc := 32) hx hb dX6_parloursWithDust_32 hl (k := 2) rfl (by rw [zc_1]; exact ex7.symm) (by decide) rfl (fun ls hl => ?_)
  refine lv_goto (pc := 35) (tgt := 4) hx hb dX6_parloursWithDust_35 (by decide) ?_
  cases h
  exact hb1 _ _ hc _ (lv_sub hl [1, 2, 0] rfl)
def fX6_parloursWithDust_4 (S : zSt) (a0 : Nat) (t : (Int32 × Int32)) : Option ((Int32 × Int32) ⊕ Int32) :=
  match t with
  | (v1, v2) => zBd (fX6_plants S a0) (fun r2 => zBr (r2 ≤ v2) (zXr (some v1)) (zGd (zIx v2 6) (zBr ((S.1 (a0 + 14) v2.toNatClampNeg) ≤ 0) (fX6_parloursWithDust_32 S a0 v1 v2) (zGd (zIx v2 6) (zLt (v1 ||| ((1 : Int32) <<< ((S.1 (a0 + 13) v2.toNatClampNeg) &&& 31))) (fun x9 => fX6_parloursWithDust_32 S a0 x9 v2))))))
set_option maxHeartbeats 4000000 in
set_option maxRecDepth 100000 in
theorem kX6_parloursWithDust_4B {p : Program} {l : Launch} {e : Env} {s : State} {m : MethodId} {args : Array Value} {below : List Frame} {meth : Method} {c : Code} {D : va_G} {cy : Nat → ClassId} {q : Nat → Nat} (cx : zX RX6 cX6_parloursWithDust 3 p s m args c D cy) (hr : meth.sig.returnType = (some .int)) (hlk : meth.locks = false) {a0 : Nat} (ha0 : zLife a0) {z : Int32} {S : zSt} {v1 : Int32} {v2 : Int32} {C1 : ((Int32 × Int32) ⊕ Int32) → Prop} (hb1 : ∀ (v1 : Int32) (v2 : Int32), C1 (.inl (v1, v2)) → ∀ (ls : Array Slot), lv_has ls 3 [(0, .ref (q a0)), (1, .int v1), (2, .int v2)] → W p l e rmX6_parloursWithDust s m args below meth c s.heap [] 0 0 (MQ below (vp_Si (fun x => x = z)) args s 0 0 (fun _ => False)) (F0 m 4 ls [])) (hx1 : ∀ a, C1 (.inr a) → a = z) (hP : va_P D vwCl (zW zsh zNC cy q S) s.heap) {x : ((Int32 × Int32) ⊕ Int32)} (h : fX6_parloursWithDust_4 S a0 (v1, v2) = some x) (hc : C1 x) {ls : Array Slot} (hl : lv_has ls 3 [(0, .ref (q a0)), (1, .int v1), (2, .int v2)]) : W p l e rmX6_parloursWithDust s m args below meth c s.heap [] 0 0 (MQ below (vp_Si (fun x => x = z)) args s 0 0 (fun _ => False)) (F0 m 4 ls []) := by
  have hx := cx.1
  have hb := cx.2.1
  unfold fX6_parloursWithDust_4 at h
  dsimp only at h
  refine lv_iload_n (pc := 4) hx hb dX6_parloursWithDust_4 rfl (lv_at hl 2 rfl) ?_
  refine lv_aload_n (pc := 5) hx hb dX6_parloursWithDust_5 rfl (lv_at hl 0 rfl) ?_
  obtain ⟨r2, k1, h⟩ := zBd_e h
  refine zr_VI (pc := 6) (rest := [.int v2]) cx cv_X6_86 (mX6_plants ha0 k1) ⟨⟨rfl, rfl⟩, Nat.le_of_ble_eq_true rfl, Nat.le_of_ble_eq_true rfl⟩ ⟨Nat.le_of_ble_eq_true rfl, Nat.le_of_ble_eq_true rfl⟩ hP (nX6_0 ha0) (sX6_0 ha0) rfl hl.1 rfl rfl (Nat.le_of_ble_eq_true rfl) dX6_parloursWithDust_6 ?_
  refine lv_icmp_ge (pc := 9) (tgt := 38) hx hb dX6_parloursWithDust_9 (by decide) (fun c3 => ?_) (fun c3 => ?_)
  · replace h := zBr_t c3 h
    obtain ⟨y4, h, ex⟩ := zXr_e h
    have hc := hx1 y4 (by rw [ex] at hc; exact hc)
    rw [hc] at h
    refine lv_iload_n (pc := 38) hx hb dX6_parloursWithDust_38 rfl (lv_at hl 1 rfl) ?_
    have hz := Option.some.inj h
    exact zr_reI (pc := 39) cx hr hlk hz dX6_parloursWithDust_39
  · replace h := zBr_f c3 h
    refine lv_aload_n (pc := 12) hx hb dX6_parloursWithDust_12 rfl (lv_at hl 0 rfl) ?_
    refine zr_getR (pc := 13) (t := (a0 + 14)) cx lk_X6_35 hP (nX6_0 ha0) (sX6_0 ha0) rfl dX6_parloursWithDust_13 ?_
    refine lv_iload_n (pc := 16) hx hb dX6_parloursWithDust_16 rfl (lv_at hl 2 rfl) ?_
    obtain ⟨g5, h⟩ := zGd_e h
    refine zr_iald (pc := 17) cx hP (nX6_14 ha0) (sX6_14 ha0) g5 dX6_parloursWithDust_17 ?_
    refine lv_if_le (pc := 18) (tgt := 32) hx hb dX6_parloursWithDust_18 (by decide) (fun c6 => ?_) (fun c6 => ?_)
    · replace h := zBr_t c6 h
      exact kX6_parloursWithDust_32 cx hr hlk ha0 hb1 hx1 hP h hc (lv_sub hl [0, 1, 2] rfl)
    · replace h := zBr_f c6 h
      refine lv_iload_n (pc := 21) hx hb dX6_parloursWithDust_21 rfl (lv_at hl 1 rfl) ?_
      refine lv_iconst (pc := 22) hx hb dX6_parloursWithDust_22 zc_1 ?_
      refine lv_aload_n (pc := 23) hx hb dX6_parloursWithDust_23 rfl (lv_at hl 0 rfl) ?_
      refine zr_getR (pc := 24) (t := (a0 + 13)) cx lk_X6_32 hP (nX6_0 ha0) (sX6_0 ha0) rfl dX6_parloursWithDust_24 ?_
      refine lv_iload_n (pc := 27) hx hb dX6_parloursWithDust_27 rfl (lv_at hl 2 rfl) ?_
      obtain ⟨g8, h⟩ := zGd_e h
      refine zr_iald (pc := 28) cx hP (nX6_13 ha0) (sX6_13 ha0) g8 dX6_parloursWithDust_28 ?_
      refine lv_ishl (pc := 29) hx hb dX6_parloursWithDust_29 ?_
      refine lv_ior (pc := 30) hx hb dX6_parloursWithDust_30 ?_
      obtain ⟨x9, ex9, h⟩ := zLt_e h
      refine zr_nmI ex9 ?_
      refine lv_istore_n (lv' := [(1, .int x9), (0, .ref (q a0)), (2, .int v2)]) (pc := 31) hx hb dX6_parloursWithDust_31 rfl hl (by decide) rfl (fun ls hl => ?_)
      exact kX6_parloursWithDust_32 cx hr hlk ha0 hb1 hx1 hP h hc (lv_sub hl [1, 0, 2] rfl)
set_option maxHeartbeats 4000000 in
set_option maxRecDepth 100000 in
theorem kX6_parloursWithDust_4 {p : Program} {l : Launch} {e : Env} {s : State} {m : MethodId} {args : Array Value} {below : List Frame} {meth : Method} {c : Code} {D : va_G} {cy : Nat → ClassId} {q : Nat → Nat} (cx : zX RX6 cX6_parloursWithDust 3 p s m args c D cy) (hr : meth.sig.returnType = (some .int)) (hlk : meth.locks = false) {a0 : Nat} (ha0 : zLife a0) {z : Int32} {S : zSt} (hP : va_P D vwCl (zW zsh zNC cy q S) s.heap) : ∀ (n : Nat) (v1 : Int32) (v2 : Int32), zLp (fX6_parloursWithDust_4 S a0) n (v1, v2) = some z → ∀ (ls : Array Slot), lv_has ls 3 [(0, .ref (q a0)), (1, .int v1), (2, .int v2)] → W p l e rmX6_parloursWithDust s m args below meth c s.heap [] 0 0 (MQ below (vp_Si (fun x => x = z)) args s 0 0 (fun _ => False)) (F0 m 4 ls []) := by
  intro n
  induction n with
  | zero =>
    intro v1 v2 h
    cases h
  | succ n ih =>
    intro v1 v2 h ls hl
    obtain ⟨x, h, hk⟩ := zLp_e h
    exact kX6_parloursWithDust_4B cx hr hlk ha0  (C1 := zKt (fun t => zLp (fX6_parloursWithDust_4 S a0) n t = some z) (fun a => a = z)) (fun v1 v2 ht ls hl => ih v1 v2 ht ls hl) (fun a ha => ha) hP h hk hl
def fX6_parloursWithDust (S : zSt) (a0 : Nat) : Option Int32 :=
  zLp (fX6_parloursWithDust_4 S a0) 2000 ((0 : Int32), (0 : Int32))
set_option maxHeartbeats 4000000 in
set_option maxRecDepth 100000 in
theorem mX6_parloursWithDust {l : Launch} {D : va_G} {cy : Nat → ClassId} {q : Nat → Nat} {S : zSt} {a0 : Nat} (ha0 : zLife a0) {z : Int32} (h : fX6_parloursWithDust S a0 = some z) : zMi l yX6_parloursWithDust cX6_parloursWithDust 3 (some .int) rmX6_parloursWithDust [.ref (q a0)] (zPr zsh zNC D cy q S) z := by
  refine Met.ofW (cc := cX6_parloursWithDust) (maxL := 3) (ret := (some .int)) (by decide) rfl ?_
  intro p e s m args below meth c s₁ B hml hv
  obtain ⟨rfl, hP, hK⟩ := hv
  have cx : zX RX6 cX6_parloursWithDust 3 p s m ([.ref (q a0)]).toArray c D cy := ⟨B.exec, B.bytes, hml, findClass_of_methodNamed B.named, fun w hw => atoms_spec (ws := Cond.code yX6_parloursWithDust cX6_parloursWithDust 3 (some .int) :: zTB) B.pre w (List.mem_cons_of_mem _ hw), hK⟩
  have hx := cx.1
  have hb := cx.2.1
  have hr := B.returns
  have hlk := B.notSynchronized
  have hl := lv_entry ([.ref (q a0)]) (n := 3) (Nat.le_of_ble_eq_true rfl)
  rw [lg_entry_eq]
  generalize (lg_sl ([.ref (q a0)]) ++ List.replicate (3 - (lg_sl ([.ref (q a0)])).length) Slot.unset).toArray = ls at hl ⊢
  have hl : lv_has ls 3 [(0, .ref (q a0))] := hl
  unfold fX6_parloursWithDust at h
  refine lv_iconst (pc := 0) hx hb dX6_parloursWithDust_0 zc_0 ?_
  refine lv_istore_n (lv' := [(1, .int (0 : Int32)), (0, .ref (q a0))]) (pc := 1) hx hb dX6_parloursWithDust_1 rfl hl (by decide) rfl (fun ls hl => ?_)
  refine lv_iconst (pc := 2) hx hb dX6_parloursWithDust_2 zc_0 ?_
  refine lv_istore_n (lv' := [(2, .int (0 : Int32)), (1, .int (0 : Int32)), (0, .ref (q a0))]) (pc := 3) hx hb dX6_parloursWithDust_3 rfl hl (by decide) rfl (fun ls hl => ?_)
  exact kX6_parloursWithDust_4 cx hr hlk ha0 hP 2000 _ _ h _ (lv_sub hl [2, 1, 0] rfl)
-- X11_round
abbrev rmX11_round : Room := { frames := 2, cells := 0, slots := 0, locals := 53 }
def fX11_round (S : zSt) (v1 : Int32) : Option (Int32 × zSt) :=
  zBd (fX3_has S 4 (0 : Int32) v1) (fun r2 => zBr (r2 = 0) (some ((-1 : Int32), S)) (zBd (fX6_parloursWithDust S 14) (fun r5 => zBp (fX10_find S 4 v1 r5) (fun r8 S7 => some (r8, S7)))))
set_option maxHeartbeats 4000000 in
set_option maxRecDepth 100000 in
theorem mX11_round {l : Launch} {D : va_G} {cy : Nat → ClassId} {q : Nat → Nat} {A : Nat → Prop} {S : zSt} {v1 : Int32} (hq : zQ A q zNC) {z : (Int32 × zSt)} (h : fX11_round S v1 = some z) : zMq l yX11_round cX11_round 2 (some .int) rmX11_round [.ref (q 0), .int v1] zsh zNC D cy q A S z := by
  refine Met.ofW (cc := cX11_round) (maxL := 2) (ret := (some .int)) (by decide) rfl ?_
  intro p e s m args below meth c s₁ B hml hv
  obtain ⟨rfl, hP, hK⟩ := hv
  have cx : zX RX11 cX11_round 2 p s m ([.ref (q 0), .int v1]).toArray c D cy := ⟨B.exec, B.bytes, hml, findClass_of_methodNamed B.named, fun w hw => atoms_spec (ws := Cond.code yX11_round cX11_round 2 (some .int) :: zTB) B.pre w (List.mem_cons_of_mem _ hw), hK⟩
  have hx := cx.1
  have hb := cx.2.1
  have hr := B.returns
  have hlk := B.notSynchronized
  have hS : va_S A s.heap s.heap [] := va_S.rf
  have hl := lv_entry ([.ref (q 0), .int v1]) (n := 2) (Nat.le_of_ble_eq_true rfl)
  rw [lg_entry_eq]
  generalize (lg_sl ([.ref (q 0), .int v1]) ++ List.replicate (2 - (lg_sl ([.ref (q 0), .int v1])).length) Slot.unset).toArray = ls at hl ⊢
  have hl : lv_has ls 2 [(0, .ref (q 0)), (1, .int v1)] := hl
  unfold fX11_round at h
  refine lv_aload_n (pc := 0) hx hb dX11_round_0 rfl (lv_at hl 0 rfl) ?_
  refine zr_getR (pc := 1) (t := 4) cx lk_X11_19 hP nC_0 sC_0 rfl dX11_round_1 ?_
  refine lv_iconst (pc := 4) hx hb dX11_round_4 zc_0 ?_
  refine lv_iload_n (pc := 5) hx hb dX11_round_5 rfl (lv_at hl 1 rfl) ?_
  obtain ⟨r2, k1, h⟩ := zBd_e h
  refine zr_VI (pc := 6) (rest := []) cx cv_X11_149 (mX3_has zHouse_4 k1) ⟨⟨rfl, rfl⟩, Nat.le_of_ble_eq_true rfl, Nat.le_of_ble_eq_true rfl⟩ ⟨Nat.le_of_ble_eq_true rfl, Nat.le_of_ble_eq_true rfl⟩ hP (nX3_0 zHouse_4) (sX3_0 zHouse_4) rfl hl.1 rfl rfl (Nat.le_of_ble_eq_true rfl) dX11_round_6 ?_
  refine lv_if_eq (pc := 9) (tgt := 34) hx hb dX11_round_9 (by decide) (fun c3 => ?_) (fun c3 => ?_)
  · replace h := zBr_t c3 h
    refine lv_iconst (pc := 34) hx hb dX11_round_34 zc_m1 ?_
    have hz := Option.some.inj h
    exact zr_rqI (pc := 35) cx hr hlk hP hS hz dX11_round_35
  · replace h := zBr_f c3 h
    refine lv_aload_n (pc := 12) hx hb dX11_round_12 rfl (lv_at hl 0 rfl) ?_
    refine zr_getR (pc := 13) (t := 256) cx lk_X11_89 hP nC_0 sC_0 rfl dX11_round_13 ?_
    refine lv_aload_n (pc := 16) hx hb dX11_round_16 rfl (lv_at hl 0 rfl) ?_
    refine zr_getR (pc := 17) (t := 4) cx lk_X11_19 hP nC_0 sC_0 rfl dX11_round_17 ?_
    refine lv_iload_n (pc := 20) hx hb dX11_round_20 rfl (lv_at hl 1 rfl) ?_
    refine lv_aload_n (pc := 21) hx hb dX11_round_21 rfl (lv_at hl 0 rfl) ?_
    refine zr_getR (pc := 22) (t := 14) cx lk_X11_28 hP nC_0 sC_0 rfl dX11_round_22 ?_
    obtain ⟨r5, k4, h⟩ := zBd_e h
    refine zr_VI (pc := 25) (rest := [.int v1, .ref (q 4), .ref (q 256)]) cx cv_X11_301 (mX6_parloursWithDust zLife_14 k4) ⟨⟨rfl, rfl⟩, Nat.le_of_ble_eq_true rfl, Nat.le_of_ble_eq_true rfl⟩ ⟨Nat.le_of_ble_eq_true rfl, Nat.le_of_ble_eq_true rfl⟩ hP (nX6_0 zLife_14) (sX6_0 zLife_14) rfl hl.1 rfl rfl (Nat.le_of_ble_eq_true rfl) dX11_round_25 ?_
    obtain ⟨r8, S7, k6, h⟩ := zBp_e h
    refine zr_VQ (pc := 28) (rest := []) cx cv_X11_304 (mX10_find hq zHouse_4 k6) ⟨⟨rfl, rfl⟩, Nat.le_of_ble_eq_true rfl, Nat.le_of_ble_eq_true rfl⟩ ⟨Nat.le_of_ble_eq_true rfl, Nat.le_of_ble_eq_true rfl⟩ hP hS nC_256 sC_256 rfl hl.1 rfl rfl (Nat.le_of_ble_eq_true rfl) dX11_round_28 (fun H locs hP hS => ?_)
    refine lv_goto (pc := 31) (tgt := 35) hx hb dX11_round_31 (by decide) ?_
    have hz := Option.some.inj h
    exact zr_rqI (pc := 35) cx hr hlk hP hS hz dX11_round_35
-- X11_roundAt
abbrev rmX11_roundAt : Room := { frames := 0, cells := 0, slots := 0, locals := 0 }
def fX11_roundAt (S : zSt) (v1 : Int32) : Option Int32 :=
  zBr (v1 < 0) (some (-1 : Int32)) (zBr ((S.1 256 4) ≤ v1) (some (-1 : Int32)) (zGd (zIx v1 160) (some (S.1 260 v1.toNatClampNeg))))
set_option maxHeartbeats 4000000 in
set_option maxRecDepth 100000 in
theorem mX11_roundAt {l : Launch} {D : va_G} {cy : Nat → ClassId} {q : Nat → Nat} {S : zSt} {v1 : Int32} {z : Int32} (h : fX11_roundAt S v1 = some z) : zMi l yX11_roundAt cX11_roundAt 2 (some .int) rmX11_roundAt [.ref (q 0), .int v1] (zPr zsh zNC D cy q S) z := by
  refine Met.ofW (cc := cX11_roundAt) (maxL := 2) (ret := (some .int)) (by decide) rfl ?_
  intro p e s m args below meth c s₁ B hml hv
  obtain ⟨rfl, hP, hK⟩ := hv
  have cx : zX RX11 cX11_roundAt 2 p s m ([.ref (q 0), .int v1]).toArray c D cy := ⟨B.exec, B.bytes, hml, findClass_of_methodNamed B.named, fun w hw => atoms_spec (ws := Cond.code yX11_roundAt cX11_roundAt 2 (some .int) :: zTB) B.pre w (List.mem_cons_of_mem _ hw), hK⟩
  have hx := cx.1
  have hb := cx.2.1
  have hr := B.returns
  have hlk := B.notSynchronized
  have hl := lv_entry ([.ref (q 0), .int v1]) (n := 2) (Nat.le_of_ble_eq_true rfl)
  rw [lg_entry_eq]
  generalize (lg_sl ([.ref (q 0), .int v1]) ++ List.replicate (2 - (lg_sl ([.ref (q 0), .int v1])).length) Slot.unset).toArray = ls at hl ⊢
  have hl : lv_has ls 2 [(0, .ref (q 0)), (1, .int v1)] := hl
  unfold fX11_roundAt at h
  refine lv_iload_n (pc := 0) hx hb dX11_roundAt_0 rfl (lv_at hl 1 rfl) ?_
  refine lv_if_lt (pc := 1) (tgt := 27) hx hb dX11_roundAt_1 (by decide) (fun c1 => ?_) (fun c1 => ?_)
  · replace h := zBr_t c1 h
    refine lv_iconst (pc := 27) hx hb dX11_roundAt_27 zc_m1 ?_
    have hz := Option.some.inj h
    exact zr_reI (pc := 28) cx hr hlk hz dX11_roundAt_28
  · replace h := zBr_f c1 h
    refine lv_iload_n (pc := 4) hx hb dX11_roundAt_4 rfl (lv_at hl 1 rfl) ?_
    refine lv_aload_n (pc := 5) hx hb dX11_roundAt_5 rfl (lv_at hl 0 rfl) ?_
    refine zr_getR (pc := 6) (t := 256) cx lk_X11_89 hP nC_0 sC_0 rfl dX11_roundAt_6 ?_
    refine zr_getI (pc := 9) cx lk_X11_308 hP nC_256 sC_256 rfl dX11_roundAt_9 ?_
    refine lv_icmp_ge (pc := 12) (tgt := 27) hx hb dX11_roundAt_12 (by decide) (fun c2 => ?_) (fun c2 => ?_)
    · replace h := zBr_t c2 h
      refine lv_iconst (pc := 27) hx hb dX11_roundAt_27 zc_m1 ?_
      have hz := Option.some.inj h
      exact zr_reI (pc := 28) cx hr hlk hz dX11_roundAt_28
    · replace h := zBr_f c2 h
      refine lv_aload_n (pc := 15) hx hb dX11_roundAt_15 rfl (lv_at hl 0 rfl) ?_
      refine zr_getR (pc := 16) (t := 256) cx lk_X11_89 hP nC_0 sC_0 rfl dX11_roundAt_16 ?_
      refine zr_getR (pc := 19) (t := 260) cx lk_X11_309 hP nC_256 sC_256 rfl dX11_roundAt_19 ?_
      refine lv_iload_n (pc := 22) hx hb dX11_roundAt_22 rfl (lv_at hl 1 rfl) ?_
      obtain ⟨g3, h⟩ := zGd_e h
      refine zr_iald (pc := 23) cx hP nC_260 sC_260 g3 dX11_roundAt_23 ?_
      refine lv_goto (pc := 24) (tgt := 28) hx hb dX11_roundAt_24 (by decide) ?_
      have hz := Option.some.inj h
      exact zr_reI (pc := 28) cx hr hlk hz dX11_roundAt_28
-- X8_compares
abbrev rmX8_compares : Room := { frames := 0, cells := 0, slots := 0, locals := 0 }
def fX8_compares (S : zSt) (a0 : Nat) (v1 : Int32) (v2 : Int32) : Option Int32 :=
  zGd (zIx v2 40) (zBr ((S.1 (a0 + 2) v2.toNatClampNeg) = 60) (zGd (zIx v2 40) (zBr ((S.1 (a0 + 3) v2.toNatClampNeg) ≤ v1) (some (0 : Int32)) (some (1 : Int32)))) (zBr ((S.1 (a0 + 2) v2.toNatClampNeg) = 61) (zGd (zIx v2 40) (zBr (v1 = (S.1 (a0 + 3) v2.toNatClampNeg)) (some (1 : Int32)) (some (0 : Int32)))) (zGd (zIx v2 40) (zBr (v1 ≤ (S.1 (a0 + 3) v2.toNatClampNeg)) (some (0 : Int32)) (some (1 : Int32))))))
set_option maxHeartbeats 4000000 in
set_option maxRecDepth 100000 in
theorem mX8_compares {l : Launch} {D : va_G} {cy : Nat → ClassId} {q : Nat → Nat} {S : zSt} {a0 : Nat} {v1 : Int32} {v2 : Int32} (ha0 : zSent a0) {z : Int32} (h : fX8_compares S a0 v1 v2 = some z) : zMi l yX8_compares cX8_compares 3 (some .boolean) rmX8_compares [.ref (q a0), .int v1, .int v2] (zPr zsh zNC D cy q S) z := by
  refine Met.ofW (cc := cX8_compares) (maxL := 3) (ret := (some .boolean)) (by decide) rfl ?_
  intro p e s m args below meth c s₁ B hml hv
  obtain ⟨rfl, hP, hK⟩ := hv
  have cx : zX RX8 cX8_compares 3 p s m ([.ref (q a0), .int v1, .int v2]).toArray c D cy := ⟨B.exec, B.bytes, hml, findClass_of_methodNamed B.named, fun w hw => atoms_spec (ws := Cond.code yX8_compares cX8_compares 3 (some .boolean) :: zTB) B.pre w (List.mem_cons_of_mem _ hw), hK⟩
  have hx := cx.1
  have hb := cx.2.1
  have hr := B.returns
  have hlk := B.notSynchronized
  have hl := lv_entry ([.ref (q a0), .int v1, .int v2]) (n := 3) (Nat.le_of_ble_eq_true rfl)
  rw [lg_entry_eq]
  generalize (lg_sl ([.ref (q a0), .int v1, .int v2]) ++ List.replicate (3 - (lg_sl ([.ref (q a0), .int v1, .int v2])).length) Slot.unset).toArray = ls at hl ⊢
  have hl : lv_has ls 3 [(0, .ref (q a0)), (1, .int v1), (2, .int v2)] := hl
  unfold fX8_compares at h
  refine lv_aload_n (pc := 0) hx hb dX8_compares_0 rfl (lv_at hl 0 rfl) ?_
  refine zr_getR (pc := 1) (t := (a0 + 2)) cx lk_X8_15 hP (nX8_0 ha0) (sX8_0 ha0) rfl dX8_compares_1 ?_
  refine lv_iload_n (pc := 4) hx hb dX8_compares_4 rfl (lv_at hl 2 rfl) ?_
  obtain ⟨g1, h⟩ := zGd_e h
  refine zr_iald (pc := 5) cx hP (nX8_2 ha0) (sX8_2 ha0) g1 dX8_compares_5 ?_
  by_cases c2 : (S.1 (a0 + 2) v2.toNatClampNeg) = 60
  · replace h := zBr_t c2 h
    refine lv_lookup (pc := 6) (off := 26) (tgt := 32) hx hb dX8_compares_6 rfl (by rw [c2]; rfl) (by decide) ?_
    refine lv_iload_n (pc := 32) hx hb dX8_compares_32 rfl (lv_at hl 1 rfl) ?_
    refine lv_aload_n (pc := 33) hx hb dX8_compares_33 rfl (lv_at hl 0 rfl) ?_
    refine zr_getR (pc := 34) (t := (a0 + 3)) cx lk_X8_18 hP (nX8_0 ha0) (sX8_0 ha0) rfl dX8_compares_34 ?_
    refine lv_iload_n (pc := 37) hx hb dX8_compares_37 rfl (lv_at hl 2 rfl) ?_
    obtain ⟨g4, h⟩ := zGd_e h
    refine zr_iald (pc := 38) cx hP (nX8_3 ha0) (sX8_3 ha0) g4 dX8_compares_38 ?_
    refine lv_icmp_ge (pc := 39) (tgt := 46) hx hb dX8_compares_39 (by decide) (fun c5 => ?_) (fun c5 => ?_)
    · replace h := zBr_t c5 h
      refine lv_iconst (pc := 46) hx hb dX8_compares_46 zc_0 ?_
      have hz := Option.some.inj h
      exact zr_reZ (pc := 47) cx hr hlk hz (by decide) dX8_compares_47
    · replace h := zBr_f c5 h
      refine lv_iconst (pc := 42) hx hb dX8_compares_42 zc_1 ?_
      refine lv_goto (pc := 43) (tgt := 47) hx hb dX8_compares_43 (by decide) ?_
      have hz := Option.some.inj h
      exact zr_reZ (pc := 47) cx hr hlk hz (by decide) dX8_compares_47
  · replace h := zBr_f c2 h
    by_cases c3 : (S.1 (a0 + 2) v2.toNatClampNeg) = 61
    · replace h := zBr_t c3 h
      refine lv_lookup (pc := 6) (off := 42) (tgt := 48) hx hb dX8_compares_6 rfl (by rw [c3]; rfl) (by decide) ?_
      refine lv_iload_n (pc := 48) hx hb dX8_compares_48 rfl (lv_at hl 1 rfl) ?_
      refine lv_aload_n (pc := 49) hx hb dX8_compares_49 rfl (lv_at hl 0 rfl) ?_
      refine zr_getR (pc := 50) (t := (a0 + 3)) cx lk_X8_18 hP (nX8_0 ha0) (sX8_0 ha0) rfl dX8_compares_50 ?_
      refine lv_iload_n (pc := 53) hx hb dX8_compares_53 rfl (lv_at hl 2 rfl) ?_
      obtain ⟨g6, h⟩ := zGd_e h
      refine zr_iald (pc := 54) cx hP (nX8_3 ha0) (sX8_3 ha0) g6 dX8_compares_54 ?_
      refine lv_icmp_ne (pc := 55) (tgt := 62) hx hb dX8_compares_55 (by decide) (fun c7 => ?_) (fun c7 => ?_)
      · replace h := zBr_f c7 h
        refine lv_iconst (pc := 62) hx hb dX8_compares_62 zc_0 ?_
        have hz := Option.some.inj h
        exact zr_reZ (pc := 63) cx hr hlk hz (by decide) dX8_compares_63
      · replace h := zBr_t c7 h
        refine lv_iconst (pc := 58) hx hb dX8_compares_58 zc_1 ?_
        refine lv_goto (pc := 59) (tgt := 63) hx hb dX8_compares_59 (by decide) ?_
        have hz := Option.some.inj h
        exact zr_reZ (pc := 63) cx hr hlk hz (by decide) dX8_compares_63
    · replace h := zBr_f c3 h
      refine lv_lookup (pc := 6) (off := 58) (tgt := 64) hx hb dX8_compares_6 rfl (by show Op.lookupswitch.offset [(60, 26), (61, 42)] 58 _ = _; rw [lv_osw c2 (by decide), lv_osw c3 (by decide)]; rfl) (by decide) ?_
      refine lv_iload_n (pc := 64) hx hb dX8_compares_64 rfl (lv_at hl 1 rfl) ?_
      refine lv_aload_n (pc := 65) hx hb dX8_compares_65 rfl (lv_at hl 0 rfl) ?_
      refine zr_getR (pc := 66) (t := (a0 + 3)) cx lk_X8_18 hP (nX8_0 ha0) (sX8_0 ha0) rfl dX8_compares_66 ?_
      refine lv_iload_n (pc := 69) hx hb dX8_compares_69 rfl (lv_at hl 2 rfl) ?_
      obtain ⟨g8, h⟩ := zGd_e h
      refine zr_iald (pc := 70) cx hP (nX8_3 ha0) (sX8_3 ha0) g8 dX8_compares_70 ?_
      refine lv_icmp_le (pc := 71) (tgt := 78) hx hb dX8_compares_71 (by decide) (fun c9 => ?_) (fun c9 => ?_)
      · replace h := zBr_t c9 h
        refine lv_iconst (pc := 78) hx hb dX8_compares_78 zc_0 ?_
        have hz := Option.some.inj h
        exact zr_reZ (pc := 79) cx hr hlk hz (by decide) dX8_compares_79
      · replace h := zBr_f c9 h
        refine lv_iconst (pc := 74) hx hb dX8_compares_74 zc_1 ?_
        refine lv_goto (pc := 75) (tgt := 79) hx hb dX8_compares_75 (by decide) ?_
        have hz := Option.some.inj h
        exact zr_reZ (pc := 79) cx hr hlk hz (by decide) dX8_compares_79
-- X8_isSo
abbrev rmX8_isSo : Room := { frames := 2, cells := 0, slots := 0, locals := 42 }
def fX8_isSo (S : zSt) (a0 : Nat) (a1 : Nat) (v2 : Int32) (v3 : Int32) : Option Int32 :=
  zGd (zIx v3 40) (zBr ((S.1 (a0 + 1) v3.toNatClampNeg) = 3) (zGd (zIx v2 6) (zBr ((S.1 ((zHs a1) + 5) v2.toNatClampNeg) = (1 : Int32)) (some (1 : Int32)) (some (0 : Int32)))) (zBr ((S.1 (a0 + 1) v3.toNatClampNeg) = 15) (zBd (fX6_isBlind S a1 v2) (fun r12 => zGd (zBo r12) (some r12))) (zBr ((S.1 (a0 + 1) v3.toNatClampNeg) = 16) (zGd (zIx v2 6) (zGd (zIx v3 40) (zBr ((S.1 (a1 + 13) v2.toNatClampNeg) = (S.1 (a0 + 2) v3.toNatClampNeg)) (some (1 : Int32)) (some (0 : Int32))))) (zBr ((S.1 (a0 + 1) v3.toNatClampNeg) = 17) (zBd (fX6_seenBy S a1 v2) (fun r18 => zGd (zIx v3 40) (zBd (fX11_hasBit r18 (S.1 (a0 + 2) v3.toNatClampNeg)) (fun r21 => zGd (zBo r21) (some r21))))) (zBr ((S.1 (a0 + 1) v3.toNatClampNeg) = 18) (zBd (fX6_actsShown S a1 v2) (fun r24 => zGd (zIx v3 40) (zBd (fX6_actsOf S a1 (S.1 (a0 + 2) v3.toNatClampNeg)) (fun r27 => zBr ((r24 &&& r27) = 0) (some (0 : Int32)) (some (1 : Int32)))))) (zBr ((S.1 (a0 + 1) v3.toNatClampNeg) = 19) (zBd (fX6_actsShown S a1 v2) (fun r30 => zBd (fJ6_bitCount_0f7a4 r30) (fun r32 => zBd (fX8_compares S a0 r32 v3) (fun r34 => zGd (zBo r34) (some r34))))) (zBr ((S.1 (a0 + 1) v3.toNatClampNeg) = 20) (zGd (zIx v2 6) (zBd (fX8_compares S a0 (S.1 (a1 + 14) v2.toNatClampNeg) v3) (fun r38 => zGd (zBo r38) (some r38)))) (zBd (fX8_compares S a0 v2 v3) (fun r41 => zGd (zBo r41) (some r41))))))))))
set_option maxHeartbeats 4000000 in
set_option maxRecDepth 100000 in
theorem mX8_isSo {l : Launch} {D : va_G} {cy : Nat → ClassId} {q : Nat → Nat} {S : zSt} {a0 : Nat} {a1 : Nat} {v2 : Int32} {v3 : Int32} (ha0 : zSent a0) (ha1 : zLife a1) {z : Int32} (h : fX8_isSo S a0 a1 v2 v3 = some z) : zMi l yX8_isSo cX8_isSo 4 (some .boolean) rmX8_isSo [.ref (q a0), .ref (q a1), .int v2, .int v3] (zPr zsh zNC D cy q S) z := by
  refine Met.ofW (cc := cX8_isSo) (maxL := 4) (ret := (some .boolean)) (by decide) rfl ?_
  intro p e s m args below meth c s₁ B hml hv
  obtain ⟨rfl, hP, hK⟩ := hv
  have cx : zX RX8 cX8_isSo 4 p s m ([.ref (q a0), .ref (q a1), .int v2, .int v3]).toArray c D cy := ⟨B.exec, B.bytes, hml, findClass_of_methodNamed B.named, fun w hw => atoms_spec (ws := Cond.code yX8_isSo cX8_isSo 4 (some .boolean) :: zTB) B.pre w (List.mem_cons_of_mem _ hw), hK⟩
  have hx := cx.1
  have hb := cx.2.1
  have hr := B.returns
  have hlk := B.notSynchronized
  have hl := lv_entry ([.ref (q a0), .ref (q a1), .int v2, .int v3]) (n := 4) (Nat.le_of_ble_eq_true rfl)
  rw [lg_entry_eq]
  generalize (lg_sl ([.ref (q a0), .ref (q a1), .int v2, .int v3]) ++ List.replicate (4 - (lg_sl ([.ref (q a0), .ref (q a1), .int v2, .int v3])).length) Slot.unset).toArray = ls at hl ⊢
  have hl : lv_has ls 4 [(0, .ref (q a0)), (1, .ref (q a1)), (2, .int v2), (3, .int v3)] := hl
  unfold fX8_isSo at h
  refine lv_aload_n (pc := 0) hx hb dX8_isSo_0 rfl (lv_at hl 0 rfl) ?_
  refine zr_getR (pc := 1) (t := (a0 + 1)) cx lk_X8_11 hP (nX8_0 ha0) (sX8_0 ha0) rfl dX8_isSo_1 ?_
  refine lv_iload_n (pc := 4) hx hb dX8_isSo_4 rfl (lv_at hl 3 rfl) ?_
  obtain ⟨g1, h⟩ := zGd_e h
  refine zr_iald (pc := 5) cx hP (nX8_1 ha0) (sX8_1 ha0) g1 dX8_isSo_5 ?_
  by_cases c2 : (S.1 (a0 + 1) v3.toNatClampNeg) = 3
  · replace h := zBr_t c2 h
    refine lv_tableIn (pc := 6) (off := 92) (tgt := 98) hx hb dX8_isSo_6 (by rw [c2]; decide) (by rw [c2]; decide) (by rw [c2]; rfl) (by decide) ?_
    refine lv_aload_n (pc := 98) hx hb dX8_isSo_98 rfl (lv_at hl 1 rfl) ?_
    refine zr_getR (pc := 99) (t := (zHs a1)) cx lk_X8_108 hP (nX6_0 ha1) (sX6_0 ha1) rfl dX8_isSo_99 ?_
    refine zr_getR (pc := 102) (t := ((zHs a1) + 5)) cx lk_X8_112 hP (nX3_0 (zHs_ok ha1)) (sX3_0 (zHs_ok ha1)) rfl dX8_isSo_102 ?_
    refine lv_iload_n (pc := 105) hx hb dX8_isSo_105 rfl (lv_at hl 2 rfl) ?_
    obtain ⟨g9, h⟩ := zGd_e h
    refine zr_iald (pc := 106) cx hP (nX3_5 (zHs_ok ha1)) (sX3_5 (zHs_ok ha1)) g9 dX8_isSo_106 ?_
    refine lv_iconst (pc := 107) hx hb dX8_isSo_107 zc_1 ?_
    refine lv_icmp_ne (pc := 108) (tgt := 115) hx hb dX8_isSo_108 (by decide) (fun c10 => ?_) (fun c10 => ?_)
    · replace h := zBr_f c10 h
      refine lv_iconst (pc := 115) hx hb dX8_isSo_115 zc_0 ?_
      have hz := Option.some.inj h
      exact zr_reZ (pc := 116) cx hr hlk hz (by decide) dX8_isSo_116
    · replace h := zBr_t c10 h
      refine lv_iconst (pc := 111) hx hb dX8_isSo_111 zc_1 ?_
      refine lv_goto (pc := 112) (tgt := 116) hx hb dX8_isSo_112 (by decide) ?_
      have hz := Option.some.inj h
      exact zr_reZ (pc := 116) cx hr hlk hz (by decide) dX8_isSo_116
  · replace h := zBr_f c2 h
    by_cases c3 : (S.1 (a0 + 1) v3.toNatClampNeg) = 15
    · replace h := zBr_t c3 h
      refine lv_tableIn (pc := 6) (off := 86) (tgt := 92) hx hb dX8_isSo_6 (by rw [c3]; decide) (by rw [c3]; decide) (by rw [c3]; rfl) (by decide) ?_
      refine lv_aload_n (pc := 92) hx hb dX8_isSo_92 rfl (lv_at hl 1 rfl) ?_
      refine lv_iload_n (pc := 93) hx hb dX8_isSo_93 rfl (lv_at hl 2 rfl) ?_
      obtain ⟨r12, k11, h⟩ := zBd_e h
      refine zr_VI (pc := 94) (rest := []) cx cv_X8_105 (mX6_isBlind ha1 k11) ⟨⟨rfl, rfl⟩, Nat.le_of_ble_eq_true rfl, Nat.le_of_ble_eq_true rfl⟩ ⟨Nat.le_of_ble_eq_true rfl, Nat.le_of_ble_eq_true rfl⟩ hP (nX6_0 ha1) (sX6_0 ha1) rfl hl.1 rfl rfl (Nat.le_of_ble_eq_true rfl) dX8_isSo_94 ?_
      obtain ⟨g13, h⟩ := zGd_e h
      have hz := Option.some.inj h
      exact zr_reZ (pc := 97) cx hr hlk hz g13 dX8_isSo_97
    · replace h := zBr_f c3 h
      by_cases c4 : (S.1 (a0 + 1) v3.toNatClampNeg) = 16
      · replace h := zBr_t c4 h
        refine lv_tableIn (pc := 6) (off := 111) (tgt := 117) hx hb dX8_isSo_6 (by rw [c4]; decide) (by rw [c4]; decide) (by rw [c4]; rfl) (by decide) ?_
        refine lv_aload_n (pc := 117) hx hb dX8_isSo_117 rfl (lv_at hl 1 rfl) ?_
        refine zr_getR (pc := 118) (t := (a1 + 13)) cx lk_X8_117 hP (nX6_0 ha1) (sX6_0 ha1) rfl dX8_isSo_118 ?_
        refine lv_iload_n (pc := 121) hx hb dX8_isSo_121 rfl (lv_at hl 2 rfl) ?_
        obtain ⟨g14, h⟩ := zGd_e h
        refine zr_iald (pc := 122) cx hP (nX6_13 ha1) (sX6_13 ha1) g14 dX8_isSo_122 ?_
        refine lv_aload_n (pc := 123) hx hb dX8_isSo_123 rfl (lv_at hl 0 rfl) ?_
        refine zr_getR (pc := 124) (t := (a0 + 2)) cx lk_X8_15 hP (nX8_0 ha0) (sX8_0 ha0) rfl dX8_isSo_124 ?_
        refine lv_iload_n (pc := 127) hx hb dX8_isSo_127 rfl (lv_at hl 3 rfl) ?_
        obtain ⟨g15, h⟩ := zGd_e h
        refine zr_iald (pc := 128) cx hP (nX8_2 ha0) (sX8_2 ha0) g15 dX8_isSo_128 ?_
        refine lv_icmp_ne (pc := 129) (tgt := 136) hx hb dX8_isSo_129 (by decide) (fun c16 => ?_) (fun c16 => ?_)
        · replace h := zBr_f c16 h
          refine lv_iconst (pc := 136) hx hb dX8_isSo_136 zc_0 ?_
          have hz := Option.some.inj h
          exact zr_reZ (pc := 137) cx hr hlk hz (by decide) dX8_isSo_137
        · replace h := zBr_t c16 h
          refine lv_iconst (pc := 132) hx hb dX8_isSo_132 zc_1 ?_
          refine lv_goto (pc := 133) (tgt := 137) hx hb dX8_isSo_133 (by decide) ?_
          have hz := Option.some.inj h
          exact zr_reZ (pc := 137) cx hr hlk hz (by decide) dX8_isSo_137
      · replace h := zBr_f c4 h
        by_cases c5 : (S.1 (a0 + 1) v3.toNatClampNeg) = 17
        · replace h := zBr_t c5 h
          refine lv_tableIn (pc := 6) (off := 132) (tgt := 138) hx hb dX8_isSo_6 (by rw [c5]; decide) (by rw [c5]; decide) (by rw [c5]; rfl) (by decide) ?_
          refine lv_aload_n (pc := 138) hx hb dX8_isSo_138 rfl (lv_at hl 1 rfl) ?_
          refine lv_iload_n (pc := 139) hx hb dX8_isSo_139 rfl (lv_at hl 2 rfl) ?_
          obtain ⟨r18, k17, h⟩ := zBd_e h
          refine zr_VI (pc := 140) (rest := []) cx cv_X8_120 (mX6_seenBy ha1 k17) ⟨⟨rfl, rfl⟩, Nat.le_of_ble_eq_true rfl, Nat.le_of_ble_eq_true rfl⟩ ⟨Nat.le_of_ble_eq_true rfl, Nat.le_of_ble_eq_true rfl⟩ hP (nX6_0 ha1) (sX6_0 ha1) rfl hl.1 rfl rfl (Nat.le_of_ble_eq_true rfl) dX8_isSo_140 ?_
          refine lv_aload_n (pc := 143) hx hb dX8_isSo_143 rfl (lv_at hl 0 rfl) ?_
          refine zr_getR (pc := 144) (t := (a0 + 2)) cx lk_X8_15 hP (nX8_0 ha0) (sX8_0 ha0) rfl dX8_isSo_144 ?_
          refine lv_iload_n (pc := 147) hx hb dX8_isSo_147 rfl (lv_at hl 3 rfl) ?_
          obtain ⟨g19, h⟩ := zGd_e h
          refine zr_iald (pc := 148) cx hP (nX8_2 ha0) (sX8_2 ha0) g19 dX8_isSo_148 ?_
          obtain ⟨r21, k20, h⟩ := zBd_e h
          refine zr_NI (pc := 149) (rest := []) cx cv_X8_123 (mX11_hasBit k20) ⟨⟨rfl, rfl⟩, Nat.le_of_ble_eq_true rfl, Nat.le_of_ble_eq_true rfl⟩ ⟨Nat.le_of_ble_eq_true rfl, Nat.le_of_ble_eq_true rfl⟩ (zr_preK cx) hl.1 rfl rfl (Nat.le_of_ble_eq_true rfl) dX8_isSo_149 ?_
          obtain ⟨g22, h⟩ := zGd_e h
          have hz := Option.some.inj h
          exact zr_reZ (pc := 152) cx hr hlk hz g22 dX8_isSo_152
        · replace h := zBr_f c5 h
          by_cases c6 : (S.1 (a0 + 1) v3.toNatClampNeg) = 18
          · replace h := zBr_t c6 h
            refine lv_tableIn (pc := 6) (off := 147) (tgt := 153) hx hb dX8_isSo_6 (by rw [c6]; decide) (by rw [c6]; decide) (by rw [c6]; rfl) (by decide) ?_
            refine lv_aload_n (pc := 153) hx hb dX8_isSo_153 rfl (lv_at hl 1 rfl) ?_
            refine lv_iload_n (pc := 154) hx hb dX8_isSo_154 rfl (lv_at hl 2 rfl) ?_
            obtain ⟨r24, k23, h⟩ := zBd_e h
            refine zr_VI (pc := 155) (rest := []) cx cv_X8_127 (mX6_actsShown ha1 k23) ⟨⟨rfl, rfl⟩, Nat.le_of_ble_eq_true rfl, Nat.le_of_ble_eq_true rfl⟩ ⟨Nat.le_of_ble_eq_true rfl, Nat.le_of_ble_eq_true rfl⟩ hP (nX6_0 ha1) (sX6_0 ha1) rfl hl.1 rfl rfl (Nat.le_of_ble_eq_true rfl) dX8_isSo_155 ?_
            refine lv_aload_n (pc := 158) hx hb dX8_isSo_158 rfl (lv_at hl 1 rfl) ?_
            refine lv_aload_n (pc := 159) hx hb dX8_isSo_159 rfl (lv_at hl 0 rfl) ?_
            refine zr_getR (pc := 160) (t := (a0 + 2)) cx lk_X8_15 hP (nX8_0 ha0) (sX8_0 ha0) rfl dX8_isSo_160 ?_
            refine lv_iload_n (pc := 163) hx hb dX8_isSo_163 rfl (lv_at hl 3 rfl) ?_
            obtain ⟨g25, h⟩ := zGd_e h
            refine zr_iald (pc := 164) cx hP (nX8_2 ha0) (sX8_2 ha0) g25 dX8_isSo_164 ?_
            obtain ⟨r27, k26, h⟩ := zBd_e h
            refine zr_VI (pc := 165) (rest := [.int r24]) cx cv_X8_130 (mX6_actsOf ha1 k26) ⟨⟨rfl, rfl⟩, Nat.le_of_ble_eq_true rfl, Nat.le_of_ble_eq_true rfl⟩ ⟨Nat.le_of_ble_eq_true rfl, Nat.le_of_ble_eq_true rfl⟩ hP (nX6_0 ha1) (sX6_0 ha1) rfl hl.1 rfl rfl (Nat.le_of_ble_eq_true rfl) dX8_isSo_165 ?_
            refine lv_iand (pc := 168) hx hb dX8_isSo_168 ?_
            refine lv_if_eq (pc := 169) (tgt := 176) hx hb dX8_isSo_169 (by decide) (fun c28 => ?_) (fun c28 => ?_)
            · replace h := zBr_t c28 h
              refine lv_iconst (pc := 176) hx hb dX8_isSo_176 zc_0 ?_
              have hz := Option.some.inj h
              exact zr_reZ (pc := 177) cx hr hlk hz (by decide) dX8_isSo_177
            · replace h := zBr_f c28 h
              refine lv_iconst (pc := 172) hx hb dX8_isSo_172 zc_1 ?_
              refine lv_goto (pc := 173) (tgt := 177) hx hb dX8_isSo_173 (by decide) ?_
              have hz := Option.some.inj h
              exact zr_reZ (pc := 177) cx hr hlk hz (by decide) dX8_isSo_177
          · replace h := zBr_f c6 h
            by_cases c7 : (S.1 (a0 + 1) v3.toNatClampNeg) = 19
            · replace h := zBr_t c7 h
              refine lv_tableIn (pc := 6) (off := 172) (tgt := 178) hx hb dX8_isSo_6 (by rw [c7]; decide) (by rw [c7]; decide) (by rw [c7]; rfl) (by decide) ?_
              refine lv_aload_n (pc := 178) hx hb dX8_isSo_178 rfl (lv_at hl 0 rfl) ?_
              refine lv_aload_n (pc := 179) hx hb dX8_isSo_179 rfl (lv_at hl 1 rfl) ?_
              refine lv_iload_n (pc := 180) hx hb dX8_isSo_180 rfl (lv_at hl 2 rfl) ?_
              obtain ⟨r30, k29, h⟩ := zBd_e h
              refine zr_VI (pc := 181) (rest := [.ref (q a0)]) cx cv_X8_127 (mX6_actsShown ha1 k29) ⟨⟨rfl, rfl⟩, Nat.le_of_ble_eq_true rfl, Nat.le_of_ble_eq_true rfl⟩ ⟨Nat.le_of_ble_eq_true rfl, Nat.le_of_ble_eq_true rfl⟩ hP (nX6_0 ha1) (sX6_0 ha1) rfl hl.1 rfl rfl (Nat.le_of_ble_eq_true rfl) dX8_isSo_181 ?_
              obtain ⟨r32, k31, h⟩ := zBd_e h
              refine zr_SI (pc := 184) (rest := [.ref (q a0)]) cx cv_X8_133 (mJ6_bitCount_0f7a4 k31) ⟨⟨rfl, rfl⟩, Nat.le_of_ble_eq_true rfl, Nat.le_of_ble_eq_true rfl⟩ ⟨Nat.le_of_ble_eq_true rfl, Nat.le_of_ble_eq_true rfl⟩ (zr_preK cx) hl.1 rfl rfl (Nat.le_of_ble_eq_true rfl) dX8_isSo_184 ?_
              refine lv_iload_n (pc := 187) hx hb dX8_isSo_187 rfl (lv_at hl 3 rfl) ?_
              obtain ⟨r34, k33, h⟩ := zBd_e h
              refine zr_VI (pc := 188) (rest := []) cx cv_X8_138 (mX8_compares ha0 k33) ⟨⟨rfl, rfl⟩, Nat.le_of_ble_eq_true rfl, Nat.le_of_ble_eq_true rfl⟩ ⟨Nat.le_of_ble_eq_true rfl, Nat.le_of_ble_eq_true rfl⟩ hP (nX8_0 ha0) (sX8_0 ha0) rfl hl.1 rfl rfl (Nat.le_of_ble_eq_true rfl) dX8_isSo_188 ?_
              obtain ⟨g35, h⟩ := zGd_e h
              have hz := Option.some.inj h
              exact zr_reZ (pc := 191) cx hr hlk hz g35 dX8_isSo_191
            · replace h := zBr_f c7 h
              by_cases c8 : (S.1 (a0 + 1) v3.toNatClampNeg) = 20
              · replace h := zBr_t c8 h
                refine lv_tableIn (pc := 6) (off := 186) (tgt := 192) hx hb dX8_isSo_6 (by rw [c8]; decide) (by rw [c8]; decide) (by rw [c8]; rfl) (by decide) ?_
                refine lv_aload_n (pc := 192) hx hb dX8_isSo_192 rfl (lv_at hl 0 rfl) ?_
                refine lv_aload_n (pc := 193) hx hb dX8_isSo_193 rfl (lv_at hl 1 rfl) ?_
                refine zr_getR (pc := 194) (t := (a1 + 14)) cx lk_X8_141 hP (nX6_0 ha1) (sX6_0 ha1) rfl dX8_isSo_194 ?_
                refine lv_iload_n (pc := 197) hx hb dX8_isSo_197 rfl (lv_at hl 2 rfl) ?_
                obtain ⟨g36, h⟩ := zGd_e h
                refine zr_iald (pc := 198) cx hP (nX6_14 ha1) (sX6_14 ha1) g36 dX8_isSo_198 ?_
                refine lv_iload_n (pc := 199) hx hb dX8_isSo_199 rfl (lv_at hl 3 rfl) ?_
                obtain ⟨r38, k37, h⟩ := zBd_e h
                refine zr_VI (pc := 200) (rest := []) cx cv_X8_138 (mX8_compares ha0 k37) ⟨⟨rfl, rfl⟩, Nat.le_of_ble_eq_true rfl, Nat.le_of_ble_eq_true rfl⟩ ⟨Nat.le_of_ble_eq_true rfl, Nat.le_of_ble_eq_true rfl⟩ hP (nX8_0 ha0) (sX8_0 ha0) rfl hl.1 rfl rfl (Nat.le_of_ble_eq_true rfl) dX8_isSo_200 ?_
                obtain ⟨g39, h⟩ := zGd_e h
                have hz := Option.some.inj h
                exact zr_reZ (pc := 203) cx hr hlk hz g39 dX8_isSo_203
              · replace h := zBr_f c8 h
                refine zr_tsD (pc := 6) (tgt := 204) hx hb dX8_isSo_6 (fun h1 h2 => ?_) (by decide) ?_
                · rcases (show ((S.1 (a0 + 1) v3.toNatClampNeg)).toInt = 3 ∨ ((S.1 (a0 + 1) v3.toNatClampNeg)).toInt = 4 ∨ ((S.1 (a0 + 1) v3.toNatClampNeg)).toInt = 5 ∨ ((S.1 (a0 + 1) v3.toNatClampNeg)).toInt = 6 ∨ ((S.1 (a0 + 1) v3.toNatClampNeg)).toInt = 7 ∨ ((S.1 (a0 + 1) v3.toNatClampNeg)).toInt = 8 ∨ ((S.1 (a0 + 1) v3.toNatClampNeg)).toInt = 9 ∨ ((S.1 (a0 + 1) v3.toNatClampNeg)).toInt = 10 ∨ ((S.1 (a0 + 1) v3.toNatClampNeg)).toInt = 11 ∨ ((S.1 (a0 + 1) v3.toNatClampNeg)).toInt = 12 ∨ ((S.1 (a0 + 1) v3.toNatClampNeg)).toInt = 13 ∨ ((S.1 (a0 + 1) v3.toNatClampNeg)).toInt = 14 ∨ ((S.1 (a0 + 1) v3.toNatClampNeg)).toInt = 15 ∨ ((S.1 (a0 + 1) v3.toNatClampNeg)).toInt = 16 ∨ ((S.1 (a0 + 1) v3.toNatClampNeg)).toInt = 17 ∨ ((S.1 (a0 + 1) v3.toNatClampNeg)).toInt = 18 ∨ ((S.1 (a0 + 1) v3.toNatClampNeg)).toInt = 19 ∨ ((S.1 (a0 + 1) v3.toNatClampNeg)).toInt = 20 by omega) with e9 | e9 | e9 | e9 | e9 | e9 | e9 | e9 | e9 | e9 | e9 | e9 | e9 | e9 | e9 | e9 | e9 | e9
                  · exact absurd (Int32.toInt_inj.mp (e9.trans (by decide))) c2
                  · rw [e9]; rfl
                  · rw [e9]; rfl
                  · rw [e9]; rfl
                  · rw [e9]; rfl
                  · rw [e9]; rfl
                  · rw [e9]; rfl
                  · rw [e9]; rfl
                  · rw [e9]; rfl
                  · rw [e9]; rfl
                  · rw [e9]; rfl
                  · rw [e9]; rfl
                  · exact absurd (Int32.toInt_inj.mp (e9.trans (by decide))) c3
                  · exact absurd (Int32.toInt_inj.mp (e9.trans (by decide))) c4
                  · exact absurd (Int32.toInt_inj.mp (e9.trans (by decide))) c5
                  · exact absurd (Int32.toInt_inj.mp (e9.trans (by decide))) c6
                  · exact absurd (Int32.toInt_inj.mp (e9.trans (by decide))) c7
                  · exact absurd (Int32.toInt_inj.mp (e9.trans (by decide))) c8
                · skip
                  refine lv_aload_n (pc := 204) hx hb dX8_isSo_204 rfl (lv_at hl 0 rfl) ?_
                  refine lv_iload_n (pc := 205) hx hb dX8_isSo_205 rfl (lv_at hl 2 rfl) ?_
                  refine lv_iload_n (pc := 206) hx hb dX8_isSo_206 rfl (lv_at hl 3 rfl) ?_
                  obtain ⟨r41, k40, h⟩ := zBd_e h
                  refine zr_VI (pc := 207) (rest := []) cx cv_X8_138 (mX8_compares ha0 k40) ⟨⟨rfl, rfl⟩, Nat.le_of_ble_eq_true rfl, Nat.le_of_ble_eq_true rfl⟩ ⟨Nat.le_of_ble_eq_true rfl, Nat.le_of_ble_eq_true rfl⟩ hP (nX8_0 ha0) (sX8_0 ha0) rfl hl.1 rfl rfl (Nat.le_of_ble_eq_true rfl) dX8_isSo_207 ?_
                  obtain ⟨g42, h⟩ := zGd_e h
                  have hz := Option.some.inj h
                  exact zr_reZ (pc := 210) cx hr hlk hz g42 dX8_isSo_210
-- X8_plantsThat
abbrev rmX8_plantsThat : Room := { frames := 3, cells := 0, slots := 0, locals := 65 }
def fX8_plantsThat_32 (S : zSt) (a0 : Nat) (a1 : Nat) (v2 : Int32) (v3 : Int32) (v4 : Int32) : Option ((Int32 × Int32) ⊕ Int32) :=
  zLt (v4 + (1 : Int32)) (fun x8 => some (.inl (v3, x8)))
set_option maxHeartbeats 4000000 in
set_option maxRecDepth 100000 in
theorem kX8_plantsThat_32 {p : Program} {l : Launch} {e : Env} {s : State} {m : MethodId} {args : Array Value} {below : List Frame} {meth : Method} {c : Code} {D : va_G} {cy : Nat → ClassId} {q : Nat → Nat} (cx : zX RX8 cX8_plantsThat 5 p s m args c D cy) (hr : meth.sig.returnType = (some .int)) (hlk : meth.locks = false) {a0 : Nat} {a1 : Nat} (ha0 : zSent a0) (ha1 : zLife a1) {z : Int32} {S : zSt} {v2 : Int32} {v3 : Int32} {v4 : Int32} {C1 : ((Int32 × Int32) ⊕ Int32) → Prop} (hb1 : ∀ (v3 : Int32) (v4 : Int32), C1 (.inl (v3, v4)) → ∀ (ls : Array Slot), lv_has ls 5 [(0, .ref (q a0)), (1, .ref (q a1)), (2, .int v2), (3, .int v3), (4, .int v4)] → W p l e rmX8_plantsThat s m args below meth c s.heap [] 0 0 (MQ below (vp_Si (fun x => x = z)) args s 0 0 (fun _ => False)) (F0 m 5 ls [])) (hx1 : ∀ a, C1 (.inr a) → a = z) (hP : va_P D vwCl (zW zsh zNC cy q S) s.heap) {x : ((Int32 × Int32) ⊕ Int32)} (h : fX8_plantsThat_32 S a0 a1 v2 v3 v4 = some x) (hc : C1 x) {ls : Array Slot} (hl : lv_has ls 5 [(0, .ref (q a0)), (1, .ref (q a1)), (2, .int v2), (3, .int v3), (4, .int v4)]) : W p l e rmX8_plantsThat s m args below meth c s.heap [] 0 0 (MQ below (vp_Si (fun x => x = z)) args s 0 0 (fun _ => False)) (F0 m 32 ls []) := by
  have hx := cx.1
  have hb := cx.2.1
  unfold fX8_plantsThat_32 at h
  obtain ⟨x8, ex8, h⟩ := zLt_e h
  refine lv_iinc (v := x8) (lv' := [(4, .int x8), (0, .ref (q a0)), (1, .ref (q a1)), (2, .int v2), (3, .int v3)]) (pc := 32) hx hb dX8_plantsThat_32 hl (k := 4) rfl (by rw [zc_1]; exact ex8.symm) (by decide) rfl (fun ls hl => ?_)
  refine lv_goto (pc := 35) (tgt := 5) hx hb dX8_plantsThat_35 (by decide) ?_
  cases h
  exact hb1 _ _ hc _ (lv_sub hl [1, 2, 3, 4, 0] rfl)
def fX8_plantsThat_5 (S : zSt) (a0 : Nat) (a1 : Nat) (v2 : Int32) (t : (Int32 × Int32)) : Option ((Int32 × Int32) ⊕ Int32) :=
  match t with
  | (v3, v4) => zBd (fX6_plants S a1) (fun r2 => zBr (r2 ≤ v4) (zXr (some v3)) (zBd (fX8_isSo S a0 a1 v4 v2) (fun r6 => zBr (r6 = 0) (fX8_plantsThat_32 S a0 a1 v2 v3 v4) (zLt (v3 ||| ((1 : Int32) <<< (v4 &&& 31))) (fun x9 => fX8_plantsThat_32 S a0 a1 v2 x9 v4)))))
set_option maxHeartbeats 4000000 in
set_option maxRecDepth 100000 in
theorem kX8_plantsThat_5B {p : Program} {l : Launch} {e : Env} {s : State} {m : MethodId} {args : Array Value} {below : List Frame} {meth : Method} {c : Code} {D : va_G} {cy : Nat → ClassId} {q : Nat → Nat} (cx : zX RX8 cX8_plantsThat 5 p s m args c D cy) (hr : meth.sig.returnType = (some .int)) (hlk : meth.locks = false) {a0 : Nat} {a1 : Nat} (ha0 : zSent a0) (ha1 : zLife a1) {z : Int32} {S : zSt} {v2 : Int32} {v3 : Int32} {v4 : Int32} {C1 : ((Int32 × Int32) ⊕ Int32) → Prop} (hb1 : ∀ (v3 : Int32) (v4 : Int32), C1 (.inl (v3, v4)) → ∀ (ls : Array Slot), lv_has ls 5 [(0, .ref (q a0)), (1, .ref (q a1)), (2, .int v2), (3, .int v3), (4, .int v4)] → W p l e rmX8_plantsThat s m args below meth c s.heap [] 0 0 (MQ below (vp_Si (fun x => x = z)) args s 0 0 (fun _ => False)) (F0 m 5 ls [])) (hx1 : ∀ a, C1 (.inr a) → a = z) (hP : va_P D vwCl (zW zsh zNC cy q S) s.heap) {x : ((Int32 × Int32) ⊕ Int32)} (h : fX8_plantsThat_5 S a0 a1 v2 (v3, v4) = some x) (hc : C1 x) {ls : Array Slot} (hl : lv_has ls 5 [(0, .ref (q a0)), (1, .ref (q a1)), (2, .int v2), (3, .int v3), (4, .int v4)]) : W p l e rmX8_plantsThat s m args below meth c s.heap [] 0 0 (MQ below (vp_Si (fun x => x = z)) args s 0 0 (fun _ => False)) (F0 m 5 ls []) := by
  have hx := cx.1
  have hb := cx.2.1
  unfold fX8_plantsThat_5 at h
  dsimp only at h
  refine lv_iload (pc := 5) hx hb dX8_plantsThat_5 (lv_at hl 4 rfl) ?_
  refine lv_aload_n (pc := 7) hx hb dX8_plantsThat_7 rfl (lv_at hl 1 rfl) ?_
  obtain ⟨r2, k1, h⟩ := zBd_e h
  refine zr_VI (pc := 8) (rest := [.int v4]) cx cv_X8_88 (mX6_plants ha1 k1) ⟨⟨rfl, rfl⟩, Nat.le_of_ble_eq_true rfl, Nat.le_of_ble_eq_true rfl⟩ ⟨Nat.le_of_ble_eq_true rfl, Nat.le_of_ble_eq_true rfl⟩ hP (nX6_0 ha1) (sX6_0 ha1) rfl hl.1 rfl rfl (Nat.le_of_ble_eq_true rfl) dX8_plantsThat_8 ?_
  refine lv_icmp_ge (pc := 11) (tgt := 38) hx hb dX8_plantsThat_11 (by decide) (fun c3 => ?_) (fun c3 => ?_)
  · replace h := zBr_t c3 h
    obtain ⟨y4, h, ex⟩ := zXr_e h
    have hc := hx1 y4 (by rw [ex] at hc; exact hc)
    rw [hc] at h
    refine lv_iload_n (pc := 38) hx hb dX8_plantsThat_38 rfl (lv_at hl 3 rfl) ?_
    have hz := Option.some.inj h
    exact zr_reI (pc := 39) cx hr hlk hz dX8_plantsThat_39
  · replace h := zBr_f c3 h
    refine lv_aload_n (pc := 14) hx hb dX8_plantsThat_14 rfl (lv_at hl 0 rfl) ?_
    refine lv_aload_n (pc := 15) hx hb dX8_plantsThat_15 rfl (lv_at hl 1 rfl) ?_
    refine lv_iload (pc := 16) hx hb dX8_plantsThat_16 (lv_at hl 4 rfl) ?_
    refine lv_iload_n (pc := 18) hx hb dX8_plantsThat_18 rfl (lv_at hl 2 rfl) ?_
    obtain ⟨r6, k5, h⟩ := zBd_e h
    refine zr_VI (pc := 19) (rest := []) cx cv_X8_101 (mX8_isSo ha0 ha1 k5) ⟨⟨rfl, rfl⟩, Nat.le_of_ble_eq_true rfl, Nat.le_of_ble_eq_true rfl⟩ ⟨Nat.le_of_ble_eq_true rfl, Nat.le_of_ble_eq_true rfl⟩ hP (nX8_0 ha0) (sX8_0 ha0) rfl hl.1 rfl rfl (Nat.le_of_ble_eq_true rfl) dX8_plantsThat_19 ?_
    refine lv_if_eq (pc := 22) (tgt := 32) hx hb dX8_plantsThat_22 (by decide) (fun c7 => ?_) (fun c7 => ?_)
    · replace h := zBr_t c7 h
      exact kX8_plantsThat_32 cx hr hlk ha0 ha1 hb1 hx1 hP h hc (lv_sub hl [0, 1, 2, 3, 4] rfl)
    · replace h := zBr_f c7 h
      refine lv_iload_n (pc := 25) hx hb dX8_plantsThat_25 rfl (lv_at hl 3 rfl) ?_
      refine lv_iconst (pc := 26) hx hb dX8_plantsThat_26 zc_1 ?_
      refine lv_iload (pc := 27) hx hb dX8_plantsThat_27 (lv_at hl 4 rfl) ?_
      refine lv_ishl (pc := 29) hx hb dX8_plantsThat_29 ?_
      refine lv_ior (pc := 30) hx hb dX8_plantsThat_30 ?_
      obtain ⟨x9, ex9, h⟩ := zLt_e h
      refine zr_nmI ex9 ?_
      refine lv_istore_n (lv' := [(3, .int x9), (0, .ref (q a0)), (1, .ref (q a1)), (2, .int v2), (4, .int v4)]) (pc := 31) hx hb dX8_plantsThat_31 rfl hl (by decide) rfl (fun ls hl => ?_)
      exact kX8_plantsThat_32 cx hr hlk ha0 ha1 hb1 hx1 hP h hc (lv_sub hl [1, 2, 3, 0, 4] rfl)
set_option maxHeartbeats 4000000 in
set_option maxRecDepth 100000 in
theorem kX8_plantsThat_5 {p : Program} {l : Launch} {e : Env} {s : State} {m : MethodId} {args : Array Value} {below : List Frame} {meth : Method} {c : Code} {D : va_G} {cy : Nat → ClassId} {q : Nat → Nat} (cx : zX RX8 cX8_plantsThat 5 p s m args c D cy) (hr : meth.sig.returnType = (some .int)) (hlk : meth.locks = false) {a0 : Nat} {a1 : Nat} (ha0 : zSent a0) (ha1 : zLife a1) {z : Int32} {S : zSt} {v2 : Int32} (hP : va_P D vwCl (zW zsh zNC cy q S) s.heap) : ∀ (n : Nat) (v3 : Int32) (v4 : Int32), zLp (fX8_plantsThat_5 S a0 a1 v2) n (v3, v4) = some z → ∀ (ls : Array Slot), lv_has ls 5 [(0, .ref (q a0)), (1, .ref (q a1)), (2, .int v2), (3, .int v3), (4, .int v4)] → W p l e rmX8_plantsThat s m args below meth c s.heap [] 0 0 (MQ below (vp_Si (fun x => x = z)) args s 0 0 (fun _ => False)) (F0 m 5 ls []) := by
  intro n
  induction n with
  | zero =>
    intro v3 v4 h
    cases h
  | succ n ih =>
    intro v3 v4 h ls hl
    obtain ⟨x, h, hk⟩ := zLp_e h
    exact kX8_plantsThat_5B cx hr hlk ha0 ha1  (C1 := zKt (fun t => zLp (fX8_plantsThat_5 S a0 a1 v2) n t = some z) (fun a => a = z)) (fun v3 v4 ht ls hl => ih v3 v4 ht ls hl) (fun a ha => ha) hP h hk hl
def fX8_plantsThat (S : zSt) (a0 : Nat) (a1 : Nat) (v2 : Int32) : Option Int32 :=
  zLp (fX8_plantsThat_5 S a0 a1 v2) 2000 ((0 : Int32), (0 : Int32))
set_option maxHeartbeats 4000000 in
set_option maxRecDepth 100000 in
theorem mX8_plantsThat {l : Launch} {D : va_G} {cy : Nat → ClassId} {q : Nat → Nat} {S : zSt} {a0 : Nat} {a1 : Nat} {v2 : Int32} (ha0 : zSent a0) (ha1 : zLife a1) {z : Int32} (h : fX8_plantsThat S a0 a1 v2 = some z) : zMi l yX8_plantsThat cX8_plantsThat 5 (some .int) rmX8_plantsThat [.ref (q a0), .ref (q a1), .int v2] (zPr zsh zNC D cy q S) z := by
  refine Met.ofW (cc := cX8_plantsThat) (maxL := 5) (ret := (some .int)) (by decide) rfl ?_
  intro p e s m args below meth c s₁ B hml hv
  obtain ⟨rfl, hP, hK⟩ := hv
  have cx : zX RX8 cX8_plantsThat 5 p s m ([.ref (q a0), .ref (q a1), .int v2]).toArray c D cy := ⟨B.exec, B.bytes, hml, findClass_of_methodNamed B.named, fun w hw => atoms_spec (ws := Cond.code yX8_plantsThat cX8_plantsThat 5 (some .int) :: zTB) B.pre w (List.mem_cons_of_mem _ hw), hK⟩
  have hx := cx.1
  have hb := cx.2.1
  have hr := B.returns
  have hlk := B.notSynchronized
  have hl := lv_entry ([.ref (q a0), .ref (q a1), .int v2]) (n := 5) (Nat.le_of_ble_eq_true rfl)
  rw [lg_entry_eq]
  generalize (lg_sl ([.ref (q a0), .ref (q a1), .int v2]) ++ List.replicate (5 - (lg_sl ([.ref (q a0), .ref (q a1), .int v2])).length) Slot.unset).toArray = ls at hl ⊢
  have hl : lv_has ls 5 [(0, .ref (q a0)), (1, .ref (q a1)), (2, .int v2)] := hl
  unfold fX8_plantsThat at h
  refine lv_iconst (pc := 0) hx hb dX8_plantsThat_0 zc_0 ?_
  refine lv_istore_n (lv' := [(3, .int (0 : Int32)), (0, .ref (q a0)), (1, .ref (q a1)), (2, .int v2)]) (pc := 1) hx hb dX8_plantsThat_1 rfl hl (by decide) rfl (fun ls hl => ?_)
  refine lv_iconst (pc := 2) hx hb dX8_plantsThat_2 zc_0 ?_
  refine lv_istore (lv' := [(4, .int (0 : Int32)), (3, .int (0 : Int32)), (0, .ref (q a0)), (1, .ref (q a1)), (2, .int v2)]) (pc := 3) hx hb dX8_plantsThat_3 hl (by decide) rfl (fun ls hl => ?_)
  exact kX8_plantsThat_5 cx hr hlk ha0 ha1 hP 2000 _ _ h _ (lv_sub hl [2, 3, 4, 1, 0] rfl)
-- X8_plantsOf
abbrev rmX8_plantsOf : Room := { frames := 4, cells := 0, slots := 0, locals := 89 }
def fX8_plantsOf_195 (S : zSt) (a0 : Nat) (a1 : Nat) (v2 : Int32) (v3 : Int32) (v4 : Int32) : Option ((zSt × Int32 × Int32) ⊕ (Int32 × zSt)) :=
  zLt (v4 + (1 : Int32)) (fun x15 => some (.inl (S, v3, x15)))
set_option maxHeartbeats 4000000 in
set_option maxRecDepth 100000 in
theorem kX8_plantsOf_195 {p : Program} {l : Launch} {e : Env} {s : State} {m : MethodId} {args : Array Value} {below : List Frame} {meth : Method} {c : Code} {D : va_G} {cy : Nat → ClassId} {q : Nat → Nat} {A : Nat → Prop} (cx : zX RX8 cX8_plantsOf 6 p s m args c D cy) (hr : meth.sig.returnType = (some .int)) (hlk : meth.locks = false) (hq : zQ A q zNC) {a0 : Nat} {a1 : Nat} (ha0 : zSent a0) (ha1 : zLife a1) {z : (Int32 × zSt)} {S : zSt} {v2 : Int32} {v3 : Int32} {v4 : Int32} {C1 : ((zSt × Int32 × Int32) ⊕ (Int32 × zSt)) → Prop} (hb1 : ∀ (S : zSt) (v3 : Int32) (v4 : Int32), C1 (.inl (S, v3, v4)) → ∀ (H : Heap) (locs : List Loc), va_P D vwCl (zW zsh zNC cy q S) H → va_S A s.heap H locs → ∀ (ls : Array Slot), lv_has ls 6 [(0, .ref (q a0)), (1, .ref (q a1)), (2, .int v2), (3, .int v3), (4, .int v4)] → W p l e rmX8_plantsOf s m args below meth c H locs 0 0 (MQ below (va_Qi (fun (r : Int32) (u : zSt) => (r, u) = z) (fun u t => va_P D vwCl (zW zsh zNC cy q u) t.heap) A) args s 0 0 A) (F0 m 13 ls [])) (hx1 : ∀ a, C1 (.inr a) → a = z) {x : ((zSt × Int32 × Int32) ⊕ (Int32 × zSt))} (h : fX8_plantsOf_195 S a0 a1 v2 v3 v4 = some x) (hc : C1 x) {H : Heap} {locs : List Loc} (hP : va_P D vwCl (zW zsh zNC cy q S) H) (hS : va_S A s.heap H locs) {ls : Array Slot} (hl : lv_has ls 6 [(0, .ref (q a0)), (1, .ref (q a1)), (2, .int v2), (3, .int v3), (4, .int v4)]) : W p l e rmX8_plantsOf s m args below meth c H locs 0 0 (MQ below (va_Qi (fun (r : Int32) (u : zSt) => (r, u) = z) (fun u t => va_P D vwCl (zW zsh zNC cy q u) t.heap) A) args s 0 0 A) (F0 m 195 ls []) := by
  have hx := cx.1
  have hb := cx.2.1
  unfold fX8_plantsOf_195 at h
  obtain ⟨x15, ex15, h⟩ := zLt_e h
  refine lv_iinc (v := x15) (lv' := [(4, .int x15), (0, .ref (q a0)), (1, .ref (q a1)), (2, .int v2), (3, .int v3)]) (pc := 195) hx hb dX8_plantsOf_195 hl (k := 4) rfl (by rw [zc_1]; exact ex15.symm) (by decide) rfl (fun ls hl => ?_)
  refine lv_goto (pc := 198) (tgt := 13) hx hb dX8_plantsOf_198 (by decide) ?_
  cases h
  exact hb1 _ _ _ hc _ _ hP hS _ (lv_sub hl [1, 2, 3, 4, 0] rfl)
def fX8_plantsOf_162 (S : zSt) (a0 : Nat) (a1 : Nat) (v2 : Int32) (v3 : Int32) (v4 : Int32) (v5 : Int32) : Option ((zSt × Int32 × Int32) ⊕ (Int32 × zSt)) :=
  zBr (v5 = 0) (zGd (zIx v4 40) (zBr ((S.1 (a0 + 1) v4.toNatClampNeg) = (14 : Int32)) (fX8_plantsOf_195 S a0 a1 v2 v3 v4) (zBd (fX8_plantsThat S a0 a1 v4) (fun r19 => zGd (zIx v3 40) (zLt (zI S (a0 + 4) v3.toNatClampNeg r19) (fun S21 => zLt (v3 + (1 : Int32)) (fun x22 => fX8_plantsOf_195 S21 a0 a1 v2 x22 v4))))))) (fX8_plantsOf_195 S a0 a1 v2 v3 v4)
set_option maxHeartbeats 4000000 in
set_option maxRecDepth 100000 in
theorem kX8_plantsOf_162 {p : Program} {l : Launch} {e : Env} {s : State} {m : MethodId} {args : Array Value} {below : List Frame} {meth : Method} {c : Code} {D : va_G} {cy : Nat → ClassId} {q : Nat → Nat} {A : Nat → Prop} (cx : zX RX8 cX8_plantsOf 6 p s m args c D cy) (hr : meth.sig.returnType = (some .int)) (hlk : meth.locks = false) (hq : zQ A q zNC) {a0 : Nat} {a1 : Nat} (ha0 : zSent a0) (ha1 : zLife a1) {z : (Int32 × zSt)} {S : zSt} {v2 : Int32} {v3 : Int32} {v4 : Int32} {v5 : Int32} {C1 : ((zSt × Int32 × Int32) ⊕ (Int32 × zSt)) → Prop} (hb1 : ∀ (S : zSt) (v3 : Int32) (v4 : Int32), C1 (.inl (S, v3, v4)) → ∀ (H : Heap) (locs : List Loc), va_P D vwCl (zW zsh zNC cy q S) H → va_S A s.heap H locs → ∀ (ls : Array Slot), lv_has ls 6 [(0, .ref (q a0)), (1, .ref (q a1)), (2, .int v2), (3, .int v3), (4, .int v4)] → W p l e rmX8_plantsOf s m args below meth c H locs 0 0 (MQ below (va_Qi (fun (r : Int32) (u : zSt) => (r, u) = z) (fun u t => va_P D vwCl (zW zsh zNC cy q u) t.heap) A) args s 0 0 A) (F0 m 13 ls [])) (hx1 : ∀ a, C1 (.inr a) → a = z) {x : ((zSt × Int32 × Int32) ⊕ (Int32 × zSt))} (h : fX8_plantsOf_162 S a0 a1 v2 v3 v4 v5 = some x) (hc : C1 x) {H : Heap} {locs : List Loc} (hP : va_P D vwCl (zW zsh zNC cy q S) H) (hS : va_S A s.heap H locs) {ls : Array Slot} (hl : lv_has ls 6 [(0, .ref (q a0)), (1, .ref (q a1)), (2, .int v2), (3, .int v3), (4, .int v4), (5, .int v5)]) : W p l e rmX8_plantsOf s m args below meth c H locs 0 0 (MQ below (va_Qi (fun (r : Int32) (u : zSt) => (r, u) = z) (fun u t => va_P D vwCl (zW zsh zNC cy q u) t.heap) A) args s 0 0 A) (F0 m 162 ls []) := by
  have hx := cx.1
  have hb := cx.2.1
  unfold fX8_plantsOf_162 at h
  refine lv_iload (pc := 162) hx hb dX8_plantsOf_162 (lv_at hl 5 rfl) ?_
  refine lv_if_ne (pc := 164) (tgt := 195) hx hb dX8_plantsOf_164 (by decide) (fun c14 => ?_) (fun c14 => ?_)
  · replace h := zBr_f c14 h
    exact kX8_plantsOf_195 cx hr hlk hq ha0 ha1 hb1 hx1 h hc hP hS (lv_sub hl [0, 1, 2, 3, 4] rfl)
  · replace h := zBr_t c14 h
    refine lv_aload_n (pc := 167) hx hb dX8_plantsOf_167 rfl (lv_at hl 0 rfl) ?_
    refine zr_getR (pc := 168) (t := (a0 + 1)) cx lk_X8_11 hP (nX8_0 ha0) (sX8_0 ha0) rfl dX8_plantsOf_168 ?_
    refine lv_iload (pc := 171) hx hb dX8_plantsOf_171 (lv_at hl 4 rfl) ?_
    obtain ⟨g16, h⟩ := zGd_e h
    refine zr_iald (pc := 173) cx hP (nX8_1 ha0) (sX8_1 ha0) g16 dX8_plantsOf_173 ?_
    refine lv_bipush (pc := 174) hx hb dX8_plantsOf_174 zb_14 ?_
    refine lv_icmp_eq (pc := 176) (tgt := 195) hx hb dX8_plantsOf_176 (by decide) (fun c17 => ?_) (fun c17 => ?_)
    · replace h := zBr_t c17 h
      exact kX8_plantsOf_195 cx hr hlk hq ha0 ha1 hb1 hx1 h hc hP hS (lv_sub hl [0, 1, 2, 3, 4] rfl)
    · replace h := zBr_f c17 h
      refine lv_aload_n (pc := 179) hx hb dX8_plantsOf_179 rfl (lv_at hl 0 rfl) ?_
      refine zr_getR (pc := 180) (t := (a0 + 4)) cx lk_X8_21 hP (nX8_0 ha0) (sX8_0 ha0) rfl dX8_plantsOf_180 ?_
      refine lv_iload_n (pc := 183) hx hb dX8_plantsOf_183 rfl (lv_at hl 3 rfl) ?_
      refine lv_aload_n (pc := 184) hx hb dX8_plantsOf_184 rfl (lv_at hl 0 rfl) ?_
      refine lv_aload_n (pc := 185) hx hb dX8_plantsOf_185 rfl (lv_at hl 1 rfl) ?_
      refine lv_iload (pc := 186) hx hb dX8_plantsOf_186 (lv_at hl 4 rfl) ?_
      obtain ⟨r19, k18, h⟩ := zBd_e h
      refine zr_VI (pc := 188) (rest := [.int v3, .ref (q (a0 + 4))]) cx cv_X8_97 (mX8_plantsThat ha0 ha1 k18) ⟨⟨rfl, rfl⟩, Nat.le_of_ble_eq_true rfl, Nat.le_of_ble_eq_true rfl⟩ ⟨Nat.le_of_ble_eq_true rfl, Nat.le_of_ble_eq_true rfl⟩ hP (nX8_0 ha0) (sX8_0 ha0) rfl hl.1 rfl rfl (Nat.le_of_ble_eq_true rfl) dX8_plantsOf_188 ?_
      obtain ⟨g20, h⟩ := zGd_e h
      obtain ⟨S21, eS21, h⟩ := zLt_e h
      refine zr_iast (pc := 191) cx hq hP hS (nX8_4 ha0) (sX8_4 ha0) g20 dX8_plantsOf_191 (fun H locs hP hS => ?_)
      rw [← eS21] at hP
      obtain ⟨x22, ex22, h⟩ := zLt_e h
      refine lv_iinc (v := x22) (lv' := [(3, .int x22), (0, .ref (q a0)), (1, .ref (q a1)), (2, .int v2), (4, .int v4), (5, .int v5)]) (pc := 192) hx hb dX8_plantsOf_192 hl (k := 3) rfl (by rw [zc_1]; exact ex22.symm) (by decide) rfl (fun ls hl => ?_)
      exact kX8_plantsOf_195 cx hr hlk hq ha0 ha1 hb1 hx1 h hc hP hS (lv_sub hl [1, 2, 3, 0, 4] rfl)
def fX8_plantsOf_122 (S : zSt) (a0 : Nat) (a1 : Nat) (v2 : Int32) (v3 : Int32) (v4 : Int32) (v5 : Int32) : Option ((zSt × Int32 × Int32) ⊕ (Int32 × zSt)) :=
  zGd (zIx v4 40) (zBr ((S.1 (a0 + 1) v4.toNatClampNeg) = (14 : Int32)) (zBr (v3 < (1 : Int32)) (fX8_plantsOf_162 S a0 a1 v2 v3 v4 v5) (zGd (zIx (v3 - (1 : Int32)) 40) (zGd (zIx (v3 - (1 : Int32)) 40) (zLt (zI S (a0 + 4) (v3 - (1 : Int32)).toNatClampNeg (v2 &&& ((S.1 (a0 + 4) (v3 - (1 : Int32)).toNatClampNeg) ^^^ (-1 : Int32)))) (fun S26 => fX8_plantsOf_195 S26 a0 a1 v2 v3 v4))))) (fX8_plantsOf_162 S a0 a1 v2 v3 v4 v5))
set_option maxHeartbeats 4000000 in
set_option maxRecDepth 100000 in
theorem kX8_plantsOf_122 {p : Program} {l : Launch} {e : Env} {s : State} {m : MethodId} {args : Array Value} {below : List Frame} {meth : Method} {c : Code} {D : va_G} {cy : Nat → ClassId} {q : Nat → Nat} {A : Nat → Prop} (cx : zX RX8 cX8_plantsOf 6 p s m args c D cy) (hr : meth.sig.returnType = (some .int)) (hlk : meth.locks = false) (hq : zQ A q zNC) {a0 : Nat} {a1 : Nat} (ha0 : zSent a0) (ha1 : zLife a1) {z : (Int32 × zSt)} {S : zSt} {v2 : Int32} {v3 : Int32} {v4 : Int32} {v5 : Int32} {C1 : ((zSt × Int32 × Int32) ⊕ (Int32 × zSt)) → Prop} (hb1 : ∀ (S : zSt) (v3 : Int32) (v4 : Int32), C1 (.inl (S, v3, v4)) → ∀ (H : Heap) (locs : List Loc), va_P D vwCl (zW zsh zNC cy q S) H → va_S A s.heap H locs → ∀ (ls : Array Slot), lv_has ls 6 [(0, .ref (q a0)), (1, .ref (q a1)), (2, .int v2), (3, .int v3), (4, .int v4)] → W p l e rmX8_plantsOf s m args below meth c H locs 0 0 (MQ below (va_Qi (fun (r : Int32) (u : zSt) => (r, u) = z) (fun u t => va_P D vwCl (zW zsh zNC cy q u) t.heap) A) args s 0 0 A) (F0 m 13 ls [])) (hx1 : ∀ a, C1 (.inr a) → a = z) {x : ((zSt × Int32 × Int32) ⊕ (Int32 × zSt))} (h : fX8_plantsOf_122 S a0 a1 v2 v3 v4 v5 = some x) (hc : C1 x) {H : Heap} {locs : List Loc} (hP : va_P D vwCl (zW zsh zNC cy q S) H) (hS : va_S A s.heap H locs) {ls : Array Slot} (hl : lv_has ls 6 [(0, .ref (q a0)), (1, .ref (q a1)), (2, .int v2), (3, .int v3), (4, .int v4), (5, .int v5)]) : W p l e rmX8_plantsOf s m args below meth c H locs 0 0 (MQ below (va_Qi (fun (r : Int32) (u : zSt) => (r, u) = z) (fun u t => va_P D vwCl (zW zsh zNC cy q u) t.heap) A) args s 0 0 A) (F0 m 122 ls []) := by
  have hx := cx.1
  have hb := cx.2.1
  unfold fX8_plantsOf_122 at h
  refine lv_aload_n (pc := 122) hx hb dX8_plantsOf_122 rfl (lv_at hl 0 rfl) ?_
  refine zr_getR (pc := 123) (t := (a0 + 1)) cx lk_X8_11 hP (nX8_0 ha0) (sX8_0 ha0) rfl dX8_plantsOf_123 ?_
  refine lv_iload (pc := 126) hx hb dX8_plantsOf_126 (lv_at hl 4 rfl) ?_
  obtain ⟨g12, h⟩ := zGd_e h
  refine zr_iald (pc := 128) cx hP (nX8_1 ha0) (sX8_1 ha0) g12 dX8_plantsOf_128 ?_
  refine lv_bipush (pc := 129) hx hb dX8_plantsOf_129 zb_14 ?_
  refine lv_icmp_ne (pc := 131) (tgt := 162) hx hb dX8_plantsOf_131 (by decide) (fun c13 => ?_) (fun c13 => ?_)
  · replace h := zBr_f c13 h
    exact kX8_plantsOf_162 cx hr hlk hq ha0 ha1 hb1 hx1 h hc hP hS (lv_sub hl [0, 1, 2, 3, 4, 5] rfl)
  · replace h := zBr_t c13 h
    refine lv_iload_n (pc := 134) hx hb dX8_plantsOf_134 rfl (lv_at hl 3 rfl) ?_
    refine lv_iconst (pc := 135) hx hb dX8_plantsOf_135 zc_1 ?_
    refine lv_icmp_lt (pc := 136) (tgt := 162) hx hb dX8_plantsOf_136 (by decide) (fun c23 => ?_) (fun c23 => ?_)
    · replace h := zBr_t c23 h
      exact kX8_plantsOf_162 cx hr hlk hq ha0 ha1 hb1 hx1 h hc hP hS (lv_sub hl [0, 1, 2, 3, 4, 5] rfl)
    · replace h := zBr_f c23 h
      refine lv_aload_n (pc := 139) hx hb dX8_plantsOf_139 rfl (lv_at hl 0 rfl) ?_
      refine zr_getR (pc := 140) (t := (a0 + 4)) cx lk_X8_21 hP (nX8_0 ha0) (sX8_0 ha0) rfl dX8_plantsOf_140 ?_
      refine lv_iload_n (pc := 143) hx hb dX8_plantsOf_143 rfl (lv_at hl 3 rfl) ?_
      refine lv_iconst (pc := 144) hx hb dX8_plantsOf_144 zc_1 ?_
      refine lv_isub (pc := 145) hx hb dX8_plantsOf_145 ?_
      refine lv_iload_n (pc := 146) hx hb dX8_plantsOf_146 rfl (lv_at hl 2 rfl) ?_
      refine lv_aload_n (pc := 147) hx hb dX8_plantsOf_147 rfl (lv_at hl 0 rfl) ?_
      refine zr_getR (pc := 148) (t := (a0 + 4)) cx lk_X8_21 hP (nX8_0 ha0) (sX8_0 ha0) rfl dX8_plantsOf_148 ?_
      refine lv_iload_n (pc := 151) hx hb dX8_plantsOf_151 rfl (lv_at hl 3 rfl) ?_
      refine lv_iconst (pc := 152) hx hb dX8_plantsOf_152 zc_1 ?_
      refine lv_isub (pc := 153) hx hb dX8_plantsOf_153 ?_
      obtain ⟨g24, h⟩ := zGd_e h
      refine zr_iald (pc := 154) cx hP (nX8_4 ha0) (sX8_4 ha0) g24 dX8_plantsOf_154 ?_
      refine lv_iconst (pc := 155) hx hb dX8_plantsOf_155 zc_m1 ?_
      refine lv_ixor (pc := 156) hx hb dX8_plantsOf_156 ?_
      refine lv_iand (pc := 157) hx hb dX8_plantsOf_157 ?_
      obtain ⟨g25, h⟩ := zGd_e h
      obtain ⟨S26, eS26, h⟩ := zLt_e h
      refine zr_iast (pc := 158) cx hq hP hS (nX8_4 ha0) (sX8_4 ha0) g25 dX8_plantsOf_158 (fun H locs hP hS => ?_)
      rw [← eS26] at hP
      refine lv_goto (pc := 159) (tgt := 195) hx hb dX8_plantsOf_159 (by decide) ?_
      exact kX8_plantsOf_195 cx hr hlk hq ha0 ha1 hb1 hx1 h hc hP hS (lv_sub hl [0, 1, 2, 3, 4] rfl)
def fX8_plantsOf_118 (S : zSt) (a0 : Nat) (a1 : Nat) (v2 : Int32) (v3 : Int32) (v4 : Int32) (t0 : Int32) (t1 : Int32) : Option ((zSt × Int32 × Int32) ⊕ (Int32 × zSt)) :=
  zGd (zIx t1 40) (zLt (zI S (a0 + 4) t1.toNatClampNeg t0) (fun S34 => fX8_plantsOf_195 S34 a0 a1 v2 v3 v4))
set_option maxHeartbeats 4000000 in
set_option maxRecDepth 100000 in
theorem kX8_plantsOf_118 {p : Program} {l : Launch} {e : Env} {s : State} {m : MethodId} {args : Array Value} {below : List Frame} {meth : Method} {c : Code} {D : va_G} {cy : Nat → ClassId} {q : Nat → Nat} {A : Nat → Prop} (cx : zX RX8 cX8_plantsOf 6 p s m args c D cy) (hr : meth.sig.returnType = (some .int)) (hlk : meth.locks = false) (hq : zQ A q zNC) {a0 : Nat} {a1 : Nat} (ha0 : zSent a0) (ha1 : zLife a1) {z : (Int32 × zSt)} {S : zSt} {v2 : Int32} {v3 : Int32} {v4 : Int32} {t0 : Int32} {t1 : Int32} {C1 : ((zSt × Int32 × Int32) ⊕ (Int32 × zSt)) → Prop} (hb1 : ∀ (S : zSt) (v3 : Int32) (v4 : Int32), C1 (.inl (S, v3, v4)) → ∀ (H : Heap) (locs : List Loc), va_P D vwCl (zW zsh zNC cy q S) H → va_S A s.heap H locs → ∀ (ls : Array Slot), lv_has ls 6 [(0, .ref (q a0)), (1, .ref (q a1)), (2, .int v2), (3, .int v3), (4, .int v4)] → W p l e rmX8_plantsOf s m args below meth c H locs 0 0 (MQ below (va_Qi (fun (r : Int32) (u : zSt) => (r, u) = z) (fun u t => va_P D vwCl (zW zsh zNC cy q u) t.heap) A) args s 0 0 A) (F0 m 13 ls [])) (hx1 : ∀ a, C1 (.inr a) → a = z) {x : ((zSt × Int32 × Int32) ⊕ (Int32 × zSt))} (h : fX8_plantsOf_118 S a0 a1 v2 v3 v4 t0 t1 = some x) (hc : C1 x) {H : Heap} {locs : List Loc} (hP : va_P D vwCl (zW zsh zNC cy q S) H) (hS : va_S A s.heap H locs) {ls : Array Slot} (hl : lv_has ls 6 [(0, .ref (q a0)), (1, .ref (q a1)), (2, .int v2), (3, .int v3), (4, .int v4)]) : W p l e rmX8_plantsOf s m args below meth c H locs 0 0 (MQ below (va_Qi (fun (r : Int32) (u : zSt) => (r, u) = z) (fun u t => va_P D vwCl (zW zsh zNC cy q u) t.heap) A) args s 0 0 A) (F0 m 118 ls [.int t0, .int t1, .ref (q (a0 + 4))]) := by
  have hx := cx.1
  have hb := cx.2.1
  unfold fX8_plantsOf_118 at h
  obtain ⟨g33, h⟩ := zGd_e h
  obtain ⟨S34, eS34, h⟩ := zLt_e h
  refine zr_iast (pc := 118) cx hq hP hS (nX8_4 ha0) (sX8_4 ha0) g33 dX8_plantsOf_118 (fun H locs hP hS => ?_)
  rw [← eS34] at hP
  refine lv_goto (pc := 119) (tgt := 195) hx hb dX8_plantsOf_119 (by decide) ?_
  exact kX8_plantsOf_195 cx hr hlk hq ha0 ha1 hb1 hx1 h hc hP hS (lv_sub hl [0, 1, 2, 3, 4] rfl)
def fX8_plantsOf_51 (S : zSt) (a0 : Nat) (a1 : Nat) (v2 : Int32) (v3 : Int32) (v4 : Int32) (t0 : Int32) : Option ((zSt × Int32 × Int32) ⊕ (Int32 × zSt)) :=
  zBr (t0 = 0) (fX8_plantsOf_122 S a0 a1 v2 v3 v4 t0) (zBr (v3 < (2 : Int32)) (fX8_plantsOf_122 S a0 a1 v2 v3 v4 t0) (zLt (v3 + (-1 : Int32)) (fun x28 => zGd (zIx v4 40) (zBr ((S.1 (a0 + 1) v4.toNatClampNeg) = (13 : Int32)) (zGd (zIx (x28 - (1 : Int32)) 40) (zGd (zIx x28 40) (fX8_plantsOf_118 S a0 a1 v2 x28 v4 ((S.1 (a0 + 4) (x28 - (1 : Int32)).toNatClampNeg) &&& (S.1 (a0 + 4) x28.toNatClampNeg)) (x28 - (1 : Int32))))) (zGd (zIx (x28 - (1 : Int32)) 40) (zGd (zIx x28 40) (fX8_plantsOf_118 S a0 a1 v2 x28 v4 ((S.1 (a0 + 4) (x28 - (1 : Int32)).toNatClampNeg) ||| (S.1 (a0 + 4) x28.toNatClampNeg)) (x28 - (1 : Int32)))))))))
set_option maxHeartbeats 4000000 in
set_option maxRecDepth 100000 in
theorem kX8_plantsOf_51 {p : Program} {l : Launch} {e : Env} {s : State} {m : MethodId} {args : Array Value} {below : List Frame} {meth : Method} {c : Code} {D : va_G} {cy : Nat → ClassId} {q : Nat → Nat} {A : Nat → Prop} (cx : zX RX8 cX8_plantsOf 6 p s m args c D cy) (hr : meth.sig.returnType = (some .int)) (hlk : meth.locks = false) (hq : zQ A q zNC) {a0 : Nat} {a1 : Nat} (ha0 : zSent a0) (ha1 : zLife a1) {z : (Int32 × zSt)} {S : zSt} {v2 : Int32} {v3 : Int32} {v4 : Int32} {t0 : Int32} {C1 : ((zSt × Int32 × Int32) ⊕ (Int32 × zSt)) → Prop} (hb1 : ∀ (S : zSt) (v3 : Int32) (v4 : Int32), C1 (.inl (S, v3, v4)) → ∀ (H : Heap) (locs : List Loc), va_P D vwCl (zW zsh zNC cy q S) H → va_S A s.heap H locs → ∀ (ls : Array Slot), lv_has ls 6 [(0, .ref (q a0)), (1, .ref (q a1)), (2, .int v2), (3, .int v3), (4, .int v4)] → W p l e rmX8_plantsOf s m args below meth c H locs 0 0 (MQ below (va_Qi (fun (r : Int32) (u : zSt) => (r, u) = z) (fun u t => va_P D vwCl (zW zsh zNC cy q u) t.heap) A) args s 0 0 A) (F0 m 13 ls [])) (hx1 : ∀ a, C1 (.inr a) → a = z) {x : ((zSt × Int32 × Int32) ⊕ (Int32 × zSt))} (h : fX8_plantsOf_51 S a0 a1 v2 v3 v4 t0 = some x) (hc : C1 x) {H : Heap} {locs : List Loc} (hP : va_P D vwCl (zW zsh zNC cy q S) H) (hS : va_S A s.heap H locs) {ls : Array Slot} (hl : lv_has ls 6 [(0, .ref (q a0)), (1, .ref (q a1)), (2, .int v2), (3, .int v3), (4, .int v4)]) : W p l e rmX8_plantsOf s m args below meth c H locs 0 0 (MQ below (va_Qi (fun (r : Int32) (u : zSt) => (r, u) = z) (fun u t => va_P D vwCl (zW zsh zNC cy q u) t.heap) A) args s 0 0 A) (F0 m 51 ls [.int t0]) := by
  have hx := cx.1
  have hb := cx.2.1
  unfold fX8_plantsOf_51 at h
  refine lv_istore (lv' := [(5, .int t0), (0, .ref (q a0)), (1, .ref (q a1)), (2, .int v2), (3, .int v3), (4, .int v4)]) (pc := 51) hx hb dX8_plantsOf_51 hl (by decide) rfl (fun ls hl => ?_)
  refine lv_iload (pc := 53) hx hb dX8_plantsOf_53 (lv_at hl 0 rfl) ?_
  refine lv_if_eq (pc := 55) (tgt := 122) hx hb dX8_plantsOf_55 (by decide) (fun c11 => ?_) (fun c11 => ?_)
  · replace h := zBr_t c11 h
    exact kX8_plantsOf_122 cx hr hlk hq ha0 ha1 hb1 hx1 h hc hP hS (lv_sub hl [1, 2, 3, 4, 5, 0] rfl)
  · replace h := zBr_f c11 h
    refine lv_iload_n (pc := 58) hx hb dX8_plantsOf_58 rfl (lv_at hl 4 rfl) ?_
    refine lv_iconst (pc := 59) hx hb dX8_plantsOf_59 zc_2 ?_
    refine lv_icmp_lt (pc := 60) (tgt := 122) hx hb dX8_plantsOf_60 (by decide) (fun c27 => ?_) (fun c27 => ?_)
    · replace h := zBr_t c27 h
      exact kX8_plantsOf_122 cx hr hlk hq ha0 ha1 hb1 hx1 h hc hP hS (lv_sub hl [1, 2, 3, 4, 5, 0] rfl)
    · replace h := zBr_f c27 h
      obtain ⟨x28, ex28, h⟩ := zLt_e h
      refine lv_iinc (v := x28) (lv' := [(3, .int x28), (5, .int t0), (0, .ref (q a0)), (1, .ref (q a1)), (2, .int v2), (4, .int v4)]) (pc := 63) hx hb dX8_plantsOf_63 hl (k := 4) rfl (by rw [zc_m1]; exact ex28.symm) (by decide) rfl (fun ls hl => ?_)
      refine lv_aload_n (pc := 66) hx hb dX8_plantsOf_66 rfl (lv_at hl 2 rfl) ?_
      refine zr_getR (pc := 67) (t := (a0 + 4)) cx lk_X8_21 hP (nX8_0 ha0) (sX8_0 ha0) rfl dX8_plantsOf_67 ?_
      refine lv_iload_n (pc := 70) hx hb dX8_plantsOf_70 rfl (lv_at hl 0 rfl) ?_
      refine lv_iconst (pc := 71) hx hb dX8_plantsOf_71 zc_1 ?_
      refine lv_isub (pc := 72) hx hb dX8_plantsOf_72 ?_
      refine lv_aload_n (pc := 73) hx hb dX8_plantsOf_73 rfl (lv_at hl 2 rfl) ?_
      refine zr_getR (pc := 74) (t := (a0 + 1)) cx lk_X8_11 hP (nX8_0 ha0) (sX8_0 ha0) rfl dX8_plantsOf_74 ?_
      refine lv_iload (pc := 77) hx hb dX8_plantsOf_77 (lv_at hl 5 rfl) ?_
      obtain ⟨g29, h⟩ := zGd_e h
      refine zr_iald (pc := 79) cx hP (nX8_1 ha0) (sX8_1 ha0) g29 dX8_plantsOf_79 ?_
      refine lv_bipush (pc := 80) hx hb dX8_plantsOf_80 zb_13 ?_
      refine lv_icmp_ne (pc := 82) (tgt := 103) hx hb dX8_plantsOf_82 (by decide) (fun c30 => ?_) (fun c30 => ?_)
      · replace h := zBr_f c30 h
        refine lv_aload_n (pc := 103) hx hb dX8_plantsOf_103 rfl (lv_at hl 2 rfl) ?_
        refine zr_getR (pc := 104) (t := (a0 + 4)) cx lk_X8_21 hP (nX8_0 ha0) (sX8_0 ha0) rfl dX8_plantsOf_104 ?_
        refine lv_iload_n (pc := 107) hx hb dX8_plantsOf_107 rfl (lv_at hl 0 rfl) ?_
        refine lv_iconst (pc := 108) hx hb dX8_plantsOf_108 zc_1 ?_
        refine lv_isub (pc := 109) hx hb dX8_plantsOf_109 ?_
        obtain ⟨g31, h⟩ := zGd_e h
        refine zr_iald (pc := 110) cx hP (nX8_4 ha0) (sX8_4 ha0) g31 dX8_plantsOf_110 ?_
        refine lv_aload_n (pc := 111) hx hb dX8_plantsOf_111 rfl (lv_at hl 2 rfl) ?_
        refine zr_getR (pc := 112) (t := (a0 + 4)) cx lk_X8_21 hP (nX8_0 ha0) (sX8_0 ha0) rfl dX8_plantsOf_112 ?_
        refine lv_iload_n (pc := 115) hx hb dX8_plantsOf_115 rfl (lv_at hl 0 rfl) ?_
        obtain ⟨g32, h⟩ := zGd_e h
        refine zr_iald (pc := 116) cx hP (nX8_4 ha0) (sX8_4 ha0) g32 dX8_plantsOf_116 ?_
        refine lv_ior (pc := 117) hx hb dX8_plantsOf_117 ?_
        exact kX8_plantsOf_118 cx hr hlk hq ha0 ha1 hb1 hx1 h hc hP hS (lv_sub hl [2, 3, 4, 0, 5] rfl)
      · replace h := zBr_t c30 h
        refine lv_aload_n (pc := 85) hx hb dX8_plantsOf_85 rfl (lv_at hl 2 rfl) ?_
        refine zr_getR (pc := 86) (t := (a0 + 4)) cx lk_X8_21 hP (nX8_0 ha0) (sX8_0 ha0) rfl dX8_plantsOf_86 ?_
        refine lv_iload_n (pc := 89) hx hb dX8_plantsOf_89 rfl (lv_at hl 0 rfl) ?_
        refine lv_iconst (pc := 90) hx hb dX8_plantsOf_90 zc_1 ?_
        refine lv_isub (pc := 91) hx hb dX8_plantsOf_91 ?_
        obtain ⟨g35, h⟩ := zGd_e h
        refine zr_iald (pc := 92) cx hP (nX8_4 ha0) (sX8_4 ha0) g35 dX8_plantsOf_92 ?_
        refine lv_aload_n (pc := 93) hx hb dX8_plantsOf_93 rfl (lv_at hl 2 rfl) ?_
        refine zr_getR (pc := 94) (t := (a0 + 4)) cx lk_X8_21 hP (nX8_0 ha0) (sX8_0 ha0) rfl dX8_plantsOf_94 ?_
        refine lv_iload_n (pc := 97) hx hb dX8_plantsOf_97 rfl (lv_at hl 0 rfl) ?_
        obtain ⟨g36, h⟩ := zGd_e h
        refine zr_iald (pc := 98) cx hP (nX8_4 ha0) (sX8_4 ha0) g36 dX8_plantsOf_98 ?_
        refine lv_iand (pc := 99) hx hb dX8_plantsOf_99 ?_
        refine lv_goto (pc := 100) (tgt := 118) hx hb dX8_plantsOf_100 (by decide) ?_
        exact kX8_plantsOf_118 cx hr hlk hq ha0 ha1 hb1 hx1 h hc hP hS (lv_sub hl [2, 3, 4, 0, 5] rfl)
def fX8_plantsOf_46 (S : zSt) (a0 : Nat) (a1 : Nat) (v2 : Int32) (v3 : Int32) (v4 : Int32) : Option ((zSt × Int32 × Int32) ⊕ (Int32 × zSt)) :=
  fX8_plantsOf_51 S a0 a1 v2 v3 v4 (1 : Int32)
set_option maxHeartbeats 4000000 in
set_option maxRecDepth 100000 in
theorem kX8_plantsOf_46 {p : Program} {l : Launch} {e : Env} {s : State} {m : MethodId} {args : Array Value} {below : List Frame} {meth : Method} {c : Code} {D : va_G} {cy : Nat → ClassId} {q : Nat → Nat} {A : Nat → Prop} (cx : zX RX8 cX8_plantsOf 6 p s m args c D cy) (hr : meth.sig.returnType = (some .int)) (hlk : meth.locks = false) (hq : zQ A q zNC) {a0 : Nat} {a1 : Nat} (ha0 : zSent a0) (ha1 : zLife a1) {z : (Int32 × zSt)} {S : zSt} {v2 : Int32} {v3 : Int32} {v4 : Int32} {C1 : ((zSt × Int32 × Int32) ⊕ (Int32 × zSt)) → Prop} (hb1 : ∀ (S : zSt) (v3 : Int32) (v4 : Int32), C1 (.inl (S, v3, v4)) → ∀ (H : Heap) (locs : List Loc), va_P D vwCl (zW zsh zNC cy q S) H → va_S A s.heap H locs → ∀ (ls : Array Slot), lv_has ls 6 [(0, .ref (q a0)), (1, .ref (q a1)), (2, .int v2), (3, .int v3), (4, .int v4)] → W p l e rmX8_plantsOf s m args below meth c H locs 0 0 (MQ below (va_Qi (fun (r : Int32) (u : zSt) => (r, u) = z) (fun u t => va_P D vwCl (zW zsh zNC cy q u) t.heap) A) args s 0 0 A) (F0 m 13 ls [])) (hx1 : ∀ a, C1 (.inr a) → a = z) {x : ((zSt × Int32 × Int32) ⊕ (Int32 × zSt))} (h : fX8_plantsOf_46 S a0 a1 v2 v3 v4 = some x) (hc : C1 x) {H : Heap} {locs : List Loc} (hP : va_P D vwCl (zW zsh zNC cy q S) H) (hS : va_S A s.heap H locs) {ls : Array Slot} (hl : lv_has ls 6 [(0, .ref (q a0)), (1, .ref (q a1)), (2, .int v2), (3, .int v3), (4, .int v4)]) : W p l e rmX8_plantsOf s m args below meth c H locs 0 0 (MQ below (va_Qi (fun (r : Int32) (u : zSt) => (r, u) = z) (fun u t => va_P D vwCl (zW zsh zNC cy q u) t.heap) A) args s 0 0 A) (F0 m 46 ls []) := by
  have hx := cx.1
  have hb := cx.2.1
  unfold fX8_plantsOf_46 at h
  refine lv_iconst (pc := 46) hx hb dX8_plantsOf_46 zc_1 ?_
  refine lv_goto (pc := 47) (tgt := 51) hx hb dX8_plantsOf_47 (by decide) ?_
  exact kX8_plantsOf_51 cx hr hlk hq ha0 ha1 hb1 hx1 h hc hP hS (lv_sub hl [0, 1, 2, 3, 4] rfl)
def fX8_plantsOf_13 (a0 : Nat) (a1 : Nat) (v2 : Int32) (t : (zSt × Int32 × Int32)) : Option ((zSt × Int32 × Int32) ⊕ (Int32 × zSt)) :=
  match t with
  | (S, v3, v4) => zBr ((S.1 a0 4) ≤ v4) (zXr (zBr (v3 = (1 : Int32)) (zGd (zIx (0 : Int32) 40) (some ((S.1 (a0 + 4) (0 : Int32).toNatClampNeg), S))) (some ((0 : Int32), S)))) (zGd (zIx v4 40) (zBr ((S.1 (a0 + 1) v4.toNatClampNeg) = (13 : Int32)) (fX8_plantsOf_46 S a0 a1 v2 v3 v4) (zGd (zIx v4 40) (zBr ((S.1 (a0 + 1) v4.toNatClampNeg) = (12 : Int32)) (fX8_plantsOf_46 S a0 a1 v2 v3 v4) (fX8_plantsOf_51 S a0 a1 v2 v3 v4 (0 : Int32))))))
set_option maxHeartbeats 4000000 in
set_option maxRecDepth 100000 in
theorem kX8_plantsOf_13B {p : Program} {l : Launch} {e : Env} {s : State} {m : MethodId} {args : Array Value} {below : List Frame} {meth : Method} {c : Code} {D : va_G} {cy : Nat → ClassId} {q : Nat → Nat} {A : Nat → Prop} (cx : zX RX8 cX8_plantsOf 6 p s m args c D cy) (hr : meth.sig.returnType = (some .int)) (hlk : meth.locks = false) (hq : zQ A q zNC) {a0 : Nat} {a1 : Nat} (ha0 : zSent a0) (ha1 : zLife a1) {z : (Int32 × zSt)} {S : zSt} {v2 : Int32} {v3 : Int32} {v4 : Int32} {C1 : ((zSt × Int32 × Int32) ⊕ (Int32 × zSt)) → Prop} (hb1 : ∀ (S : zSt) (v3 : Int32) (v4 : Int32), C1 (.inl (S, v3, v4)) → ∀ (H : Heap) (locs : List Loc), va_P D vwCl (zW zsh zNC cy q S) H → va_S A s.heap H locs → ∀ (ls : Array Slot), lv_has ls 6 [(0, .ref (q a0)), (1, .ref (q a1)), (2, .int v2), (3, .int v3), (4, .int v4)] → W p l e rmX8_plantsOf s m args below meth c H locs 0 0 (MQ below (va_Qi (fun (r : Int32) (u : zSt) => (r, u) = z) (fun u t => va_P D vwCl (zW zsh zNC cy q u) t.heap) A) args s 0 0 A) (F0 m 13 ls [])) (hx1 : ∀ a, C1 (.inr a) → a = z) {x : ((zSt × Int32 × Int32) ⊕ (Int32 × zSt))} (h : fX8_plantsOf_13 a0 a1 v2 (S, v3, v4) = some x) (hc : C1 x) {H : Heap} {locs : List Loc} (hP : va_P D vwCl (zW zsh zNC cy q S) H) (hS : va_S A s.heap H locs) {ls : Array Slot} (hl : lv_has ls 6 [(0, .ref (q a0)), (1, .ref (q a1)), (2, .int v2), (3, .int v3), (4, .int v4)]) : W p l e rmX8_plantsOf s m args below meth c H locs 0 0 (MQ below (va_Qi (fun (r : Int32) (u : zSt) => (r, u) = z) (fun u t => va_P D vwCl (zW zsh zNC cy q u) t.heap) A) args s 0 0 A) (F0 m 13 ls []) := by
  have hx := cx.1
  have hb := cx.2.1
  unfold fX8_plantsOf_13 at h
  dsimp only at h
  refine lv_iload (pc := 13) hx hb dX8_plantsOf_13 (lv_at hl 4 rfl) ?_
  refine lv_aload_n (pc := 15) hx hb dX8_plantsOf_15 rfl (lv_at hl 0 rfl) ?_
  refine zr_getI (pc := 16) cx lk_X8_24 hP (nX8_0 ha0) (sX8_0 ha0) rfl dX8_plantsOf_16 ?_
  refine lv_icmp_ge (pc := 19) (tgt := 201) hx hb dX8_plantsOf_19 (by decide) (fun c5 => ?_) (fun c5 => ?_)
  · replace h := zBr_t c5 h
    obtain ⟨y6, h, ex⟩ := zXr_e h
    have hc := hx1 y6 (by rw [ex] at hc; exact hc)
    rw [hc] at h
    refine lv_iload_n (pc := 201) hx hb dX8_plantsOf_201 rfl (lv_at hl 3 rfl) ?_
    refine lv_iconst (pc := 202) hx hb dX8_plantsOf_202 zc_1 ?_
    refine lv_icmp_ne (pc := 203) (tgt := 215) hx hb dX8_plantsOf_203 (by decide) (fun c7 => ?_) (fun c7 => ?_)
    · replace h := zBr_f c7 h
      refine lv_iconst (pc := 215) hx hb dX8_plantsOf_215 zc_0 ?_
      have hz := Option.some.inj h
      exact zr_rqI (pc := 216) cx hr hlk hP hS hz dX8_plantsOf_216
    · replace h := zBr_t c7 h
      refine lv_aload_n (pc := 206) hx hb dX8_plantsOf_206 rfl (lv_at hl 0 rfl) ?_
      refine zr_getR (pc := 207) (t := (a0 + 4)) cx lk_X8_21 hP (nX8_0 ha0) (sX8_0 ha0) rfl dX8_plantsOf_207 ?_
      refine lv_iconst (pc := 210) hx hb dX8_plantsOf_210 zc_0 ?_
      obtain ⟨g8, h⟩ := zGd_e h
      refine zr_iald (pc := 211) cx hP (nX8_4 ha0) (sX8_4 ha0) g8 dX8_plantsOf_211 ?_
      refine lv_goto (pc := 212) (tgt := 216) hx hb dX8_plantsOf_212 (by decide) ?_
      have hz := Option.some.inj h
      exact zr_rqI (pc := 216) cx hr hlk hP hS hz dX8_plantsOf_216
  · replace h := zBr_f c5 h
    refine lv_aload_n (pc := 22) hx hb dX8_plantsOf_22 rfl (lv_at hl 0 rfl) ?_
    refine zr_getR (pc := 23) (t := (a0 + 1)) cx lk_X8_11 hP (nX8_0 ha0) (sX8_0 ha0) rfl dX8_plantsOf_23 ?_
    refine lv_iload (pc := 26) hx hb dX8_plantsOf_26 (lv_at hl 4 rfl) ?_
    obtain ⟨g9, h⟩ := zGd_e h
    refine zr_iald (pc := 28) cx hP (nX8_1 ha0) (sX8_1 ha0) g9 dX8_plantsOf_28 ?_
    refine lv_bipush (pc := 29) hx hb dX8_plantsOf_29 zb_13 ?_
    refine lv_icmp_eq (pc := 31) (tgt := 46) hx hb dX8_plantsOf_31 (by decide) (fun c10 => ?_) (fun c10 => ?_)
    · replace h := zBr_t c10 h
      exact kX8_plantsOf_46 cx hr hlk hq ha0 ha1 hb1 hx1 h hc hP hS (lv_sub hl [0, 1, 2, 3, 4] rfl)
    · replace h := zBr_f c10 h
      refine lv_aload_n (pc := 34) hx hb dX8_plantsOf_34 rfl (lv_at hl 0 rfl) ?_
      refine zr_getR (pc := 35) (t := (a0 + 1)) cx lk_X8_11 hP (nX8_0 ha0) (sX8_0 ha0) rfl dX8_plantsOf_35 ?_
      refine lv_iload (pc := 38) hx hb dX8_plantsOf_38 (lv_at hl 4 rfl) ?_
      obtain ⟨g37, h⟩ := zGd_e h
      refine zr_iald (pc := 40) cx hP (nX8_1 ha0) (sX8_1 ha0) g37 dX8_plantsOf_40 ?_
      refine lv_bipush (pc := 41) hx hb dX8_plantsOf_41 zb_12 ?_
      refine lv_icmp_ne (pc := 43) (tgt := 50) hx hb dX8_plantsOf_43 (by decide) (fun c38 => ?_) (fun c38 => ?_)
      · replace h := zBr_f c38 h
        refine lv_iconst (pc := 50) hx hb dX8_plantsOf_50 zc_0 ?_
        exact kX8_plantsOf_51 cx hr hlk hq ha0 ha1 hb1 hx1 h hc hP hS (lv_sub hl [0, 1, 2, 3, 4] rfl)
      · replace h := zBr_t c38 h
        exact kX8_plantsOf_46 cx hr hlk hq ha0 ha1 hb1 hx1 h hc hP hS (lv_sub hl [0, 1, 2, 3, 4] rfl)
set_option maxHeartbeats 4000000 in
set_option maxRecDepth 100000 in
theorem kX8_plantsOf_13 {p : Program} {l : Launch} {e : Env} {s : State} {m : MethodId} {args : Array Value} {below : List Frame} {meth : Method} {c : Code} {D : va_G} {cy : Nat → ClassId} {q : Nat → Nat} {A : Nat → Prop} (cx : zX RX8 cX8_plantsOf 6 p s m args c D cy) (hr : meth.sig.returnType = (some .int)) (hlk : meth.locks = false) (hq : zQ A q zNC) {a0 : Nat} {a1 : Nat} (ha0 : zSent a0) (ha1 : zLife a1) {z : (Int32 × zSt)} {v2 : Int32} : ∀ (n : Nat) (S : zSt) (v3 : Int32) (v4 : Int32), zLp (fX8_plantsOf_13 a0 a1 v2) n (S, v3, v4) = some z → ∀ (H : Heap) (locs : List Loc), va_P D vwCl (zW zsh zNC cy q S) H → va_S A s.heap H locs → ∀ (ls : Array Slot), lv_has ls 6 [(0, .ref (q a0)), (1, .ref (q a1)), (2, .int v2), (3, .int v3), (4, .int v4)] → W p l e rmX8_plantsOf s m args below meth c H locs 0 0 (MQ below (va_Qi (fun (r : Int32) (u : zSt) => (r, u) = z) (fun u t => va_P D vwCl (zW zsh zNC cy q u) t.heap) A) args s 0 0 A) (F0 m 13 ls []) := by
  intro n
  induction n with
  | zero =>
    intro S v3 v4 h
    cases h
  | succ n ih =>
    intro S v3 v4 h H locs hP hS ls hl
    obtain ⟨x, h, hk⟩ := zLp_e h
    exact kX8_plantsOf_13B cx hr hlk hq ha0 ha1  (C1 := zKt (fun t => zLp (fX8_plantsOf_13 a0 a1 v2) n t = some z) (fun a => a = z)) (fun S v3 v4 ht H locs hP hS ls hl => ih S v3 v4 ht H locs hP hS ls hl) (fun a ha => ha) h hk hP hS hl
def fX8_plantsOf (S : zSt) (a0 : Nat) (a1 : Nat) : Option (Int32 × zSt) :=
  zBd (fX6_plants S a1) (fun r2 => zBd (fX11_allBits r2) (fun r4 => zLp (fX8_plantsOf_13 a0 a1 r4) 2000 (S, (0 : Int32), (0 : Int32))))
set_option maxHeartbeats 4000000 in
set_option maxRecDepth 100000 in
theorem mX8_plantsOf {l : Launch} {D : va_G} {cy : Nat → ClassId} {q : Nat → Nat} {A : Nat → Prop} {S : zSt} {a0 : Nat} {a1 : Nat} (hq : zQ A q zNC) (ha0 : zSent a0) (ha1 : zLife a1) {z : (Int32 × zSt)} (h : fX8_plantsOf S a0 a1 = some z) : zMq l yX8_plantsOf cX8_plantsOf 6 (some .int) rmX8_plantsOf [.ref (q a0), .ref (q a1)] zsh zNC D cy q A S z := by
  refine Met.ofW (cc := cX8_plantsOf) (maxL := 6) (ret := (some .int)) (by decide) rfl ?_
  intro p e s m args below meth c s₁ B hml hv
  obtain ⟨rfl, hP, hK⟩ := hv
  have cx : zX RX8 cX8_plantsOf 6 p s m ([.ref (q a0), .ref (q a1)]).toArray c D cy := ⟨B.exec, B.bytes, hml, findClass_of_methodNamed B.named, fun w hw => atoms_spec (ws := Cond.code yX8_plantsOf cX8_plantsOf 6 (some .int) :: zTB) B.pre w (List.mem_cons_of_mem _ hw), hK⟩
  have hx := cx.1
  have hb := cx.2.1
  have hr := B.returns
  have hlk := B.notSynchronized
  have hS : va_S A s.heap s.heap [] := va_S.rf
  have hl := lv_entry ([.ref (q a0), .ref (q a1)]) (n := 6) (Nat.le_of_ble_eq_true rfl)
  rw [lg_entry_eq]
  generalize (lg_sl ([.ref (q a0), .ref (q a1)]) ++ List.replicate (6 - (lg_sl ([.ref (q a0), .ref (q a1)])).length) Slot.unset).toArray = ls at hl ⊢
  have hl : lv_has ls 6 [(0, .ref (q a0)), (1, .ref (q a1))] := hl
  unfold fX8_plantsOf at h
  refine lv_aload_n (pc := 0) hx hb dX8_plantsOf_0 rfl (lv_at hl 1 rfl) ?_
  obtain ⟨r2, k1, h⟩ := zBd_e h
  refine zr_VI (pc := 1) (rest := []) cx cv_X8_88 (mX6_plants ha1 k1) ⟨⟨rfl, rfl⟩, Nat.le_of_ble_eq_true rfl, Nat.le_of_ble_eq_true rfl⟩ ⟨Nat.le_of_ble_eq_true rfl, Nat.le_of_ble_eq_true rfl⟩ hP (nX6_0 ha1) (sX6_0 ha1) rfl hl.1 rfl rfl (Nat.le_of_ble_eq_true rfl) dX8_plantsOf_1 ?_
  obtain ⟨r4, k3, h⟩ := zBd_e h
  refine zr_NI (pc := 4) (rest := []) cx cv_X8_93 (mX11_allBits k3) ⟨⟨rfl, rfl⟩, Nat.le_of_ble_eq_true rfl, Nat.le_of_ble_eq_true rfl⟩ ⟨Nat.le_of_ble_eq_true rfl, Nat.le_of_ble_eq_true rfl⟩ (zr_preK cx) hl.1 rfl rfl (Nat.le_of_ble_eq_true rfl) dX8_plantsOf_4 ?_
  refine lv_istore_n (lv' := [(2, .int r4), (0, .ref (q a0)), (1, .ref (q a1))]) (pc := 7) hx hb dX8_plantsOf_7 rfl hl (by decide) rfl (fun ls hl => ?_)
  refine lv_iconst (pc := 8) hx hb dX8_plantsOf_8 zc_0 ?_
  refine lv_istore_n (lv' := [(3, .int (0 : Int32)), (2, .int r4), (0, .ref (q a0)), (1, .ref (q a1))]) (pc := 9) hx hb dX8_plantsOf_9 rfl hl (by decide) rfl (fun ls hl => ?_)
  refine lv_iconst (pc := 10) hx hb dX8_plantsOf_10 zc_0 ?_
  refine lv_istore (lv' := [(4, .int (0 : Int32)), (3, .int (0 : Int32)), (2, .int r4), (0, .ref (q a0)), (1, .ref (q a1))]) (pc := 11) hx hb dX8_plantsOf_11 hl (by decide) rfl (fun ls hl => ?_)
  exact kX8_plantsOf_13 cx hr hlk hq ha0 ha1 2000 _ _ _ h _ _ hP hS _ (lv_sub hl [3, 4, 2, 1, 0] rfl)
-- X11_said
abbrev rmX11_said : Room := { frames := 5, cells := 0, slots := 0, locals := 114 }
def fX11_said (S : zSt) (v1 : Int32) : Option (Int32 × zSt) :=
  zBr ((S.1 245 5) = 0) (some ((-1 : Int32), S)) (zBr ((-1 : Int32) ≤ v1) (zBp (fX8_plantsOf S 245 14) (fun r5 S4 => zBr (v1 = (-1 : Int32)) (zBd (fJ6_bitCount_0f7a4 r5) (fun r10 => some (r10, S4))) (zBd (fX11_plantAt r5 v1) (fun r8 => some (r8, S4))))) (some ((-1 : Int32), S)))
set_option maxHeartbeats 4000000 in
set_option maxRecDepth 100000 in
theorem mX11_said {l : Launch} {D : va_G} {cy : Nat → ClassId} {q : Nat → Nat} {A : Nat → Prop} {S : zSt} {v1 : Int32} (hq : zQ A q zNC) {z : (Int32 × zSt)} (h : fX11_said S v1 = some z) : zMq l yX11_said cX11_said 3 (some .int) rmX11_said [.ref (q 0), .int v1] zsh zNC D cy q A S z := by
  refine Met.ofW (cc := cX11_said) (maxL := 3) (ret := (some .int)) (by decide) rfl ?_
  intro p e s m args below meth c s₁ B hml hv
  obtain ⟨rfl, hP, hK⟩ := hv
  have cx : zX RX11 cX11_said 3 p s m ([.ref (q 0), .int v1]).toArray c D cy := ⟨B.exec, B.bytes, hml, findClass_of_methodNamed B.named, fun w hw => atoms_spec (ws := Cond.code yX11_said cX11_said 3 (some .int) :: zTB) B.pre w (List.mem_cons_of_mem _ hw), hK⟩
  have hx := cx.1
  have hb := cx.2.1
  have hr := B.returns
  have hlk := B.notSynchronized
  have hS : va_S A s.heap s.heap [] := va_S.rf
  have hl := lv_entry ([.ref (q 0), .int v1]) (n := 3) (Nat.le_of_ble_eq_true rfl)
  rw [lg_entry_eq]
  generalize (lg_sl ([.ref (q 0), .int v1]) ++ List.replicate (3 - (lg_sl ([.ref (q 0), .int v1])).length) Slot.unset).toArray = ls at hl ⊢
  have hl : lv_has ls 3 [(0, .ref (q 0)), (1, .int v1)] := hl
  unfold fX11_said at h
  refine lv_aload_n (pc := 0) hx hb dX11_said_0 rfl (lv_at hl 0 rfl) ?_
  refine zr_getR (pc := 1) (t := 245) cx lk_X11_70 hP nC_0 sC_0 rfl dX11_said_1 ?_
  refine zr_getI (pc := 4) cx lk_X11_384 hP (nX8_0 zSent_245) (sX8_0 zSent_245) rfl dX11_said_4 ?_
  refine lv_if_eq (pc := 7) (tgt := 15) hx hb dX11_said_7 (by decide) (fun c1 => ?_) (fun c1 => ?_)
  · replace h := zBr_t c1 h
    refine lv_iconst (pc := 15) hx hb dX11_said_15 zc_m1 ?_
    have hz := Option.some.inj h
    exact zr_rqI (pc := 16) cx hr hlk hP hS hz dX11_said_16
  · replace h := zBr_f c1 h
    refine lv_iload_n (pc := 10) hx hb dX11_said_10 rfl (lv_at hl 1 rfl) ?_
    refine lv_iconst (pc := 11) hx hb dX11_said_11 zc_m1 ?_
    refine lv_icmp_ge (pc := 12) (tgt := 17) hx hb dX11_said_12 (by decide) (fun c2 => ?_) (fun c2 => ?_)
    · replace h := zBr_t c2 h
      refine lv_aload_n (pc := 17) hx hb dX11_said_17 rfl (lv_at hl 0 rfl) ?_
      refine zr_getR (pc := 18) (t := 245) cx lk_X11_70 hP nC_0 sC_0 rfl dX11_said_18 ?_
      refine lv_aload_n (pc := 21) hx hb dX11_said_21 rfl (lv_at hl 0 rfl) ?_
      refine zr_getR (pc := 22) (t := 14) cx lk_X11_28 hP nC_0 sC_0 rfl dX11_said_22 ?_
      obtain ⟨r5, S4, k3, h⟩ := zBp_e h
      refine zr_VQ (pc := 25) (rest := []) cx cv_X11_387 (mX8_plantsOf hq zSent_245 zLife_14 k3) ⟨⟨rfl, rfl⟩, Nat.le_of_ble_eq_true rfl, Nat.le_of_ble_eq_true rfl⟩ ⟨Nat.le_of_ble_eq_true rfl, Nat.le_of_ble_eq_true rfl⟩ hP hS (nX8_0 zSent_245) (sX8_0 zSent_245) rfl hl.1 rfl rfl (Nat.le_of_ble_eq_true rfl) dX11_said_25 (fun H locs hP hS => ?_)
      refine lv_istore_n (lv' := [(2, .int r5), (0, .ref (q 0)), (1, .int v1)]) (pc := 28) hx hb dX11_said_28 rfl hl (by decide) rfl (fun ls hl => ?_)
      refine lv_iload_n (pc := 29) hx hb dX11_said_29 rfl (lv_at hl 2 rfl) ?_
      refine lv_iconst (pc := 30) hx hb dX11_said_30 zc_m1 ?_
      refine lv_icmp_ne (pc := 31) (tgt := 41) hx hb dX11_said_31 (by decide) (fun c6 => ?_) (fun c6 => ?_)
      · replace h := zBr_f c6 h
        refine lv_iload_n (pc := 41) hx hb dX11_said_41 rfl (lv_at hl 0 rfl) ?_
        refine lv_iload_n (pc := 42) hx hb dX11_said_42 rfl (lv_at hl 2 rfl) ?_
        obtain ⟨r8, k7, h⟩ := zBd_e h
        refine zr_SI (pc := 43) (rest := []) cx cv_X11_390 (mX11_plantAt k7) ⟨⟨rfl, rfl⟩, Nat.le_of_ble_eq_true rfl, Nat.le_of_ble_eq_true rfl⟩ ⟨Nat.le_of_ble_eq_true rfl, Nat.le_of_ble_eq_true rfl⟩ (zr_preK cx) hl.1 rfl rfl (Nat.le_of_ble_eq_true rfl) dX11_said_43 ?_
        have hz := Option.some.inj h
        exact zr_rqI (pc := 46) cx hr hlk hP hS hz dX11_said_46
      · replace h := zBr_t c6 h
        refine lv_iload_n (pc := 34) hx hb dX11_said_34 rfl (lv_at hl 0 rfl) ?_
        obtain ⟨r10, k9, h⟩ := zBd_e h
        refine zr_SI (pc := 35) (rest := []) cx cv_X11_176 (mJ6_bitCount_0f7a4 k9) ⟨⟨rfl, rfl⟩, Nat.le_of_ble_eq_true rfl, Nat.le_of_ble_eq_true rfl⟩ ⟨Nat.le_of_ble_eq_true rfl, Nat.le_of_ble_eq_true rfl⟩ (zr_preK cx) hl.1 rfl rfl (Nat.le_of_ble_eq_true rfl) dX11_said_35 ?_
        refine lv_goto (pc := 38) (tgt := 46) hx hb dX11_said_38 (by decide) ?_
        have hz := Option.some.inj h
        exact zr_rqI (pc := 46) cx hr hlk hP hS hz dX11_said_46
    · replace h := zBr_f c2 h
      refine lv_iconst (pc := 15) hx hb dX11_said_15 zc_m1 ?_
      have hz := Option.some.inj h
      exact zr_rqI (pc := 16) cx hr hlk hP hS hz dX11_said_16
-- X11_sights
abbrev rmX11_sights : Room := { frames := 1, cells := 0, slots := 0, locals := 22 }
def fX11_sights (S : zSt) (v1 : Int32) : Option Int32 :=
  zBd (fX3_has S 4 (0 : Int32) v1) (fun r2 => zBr (r2 = 0) (some (-1 : Int32)) (zGd (zIx v1 5) (some (S.1 (4 + 2) v1.toNatClampNeg))))
set_option maxHeartbeats 4000000 in
set_option maxRecDepth 100000 in
theorem mX11_sights {l : Launch} {D : va_G} {cy : Nat → ClassId} {q : Nat → Nat} {S : zSt} {v1 : Int32} {z : Int32} (h : fX11_sights S v1 = some z) : zMi l yX11_sights cX11_sights 2 (some .int) rmX11_sights [.ref (q 0), .int v1] (zPr zsh zNC D cy q S) z := by
  refine Met.ofW (cc := cX11_sights) (maxL := 2) (ret := (some .int)) (by decide) rfl ?_
  intro p e s m args below meth c s₁ B hml hv
  obtain ⟨rfl, hP, hK⟩ := hv
  have cx : zX RX11 cX11_sights 2 p s m ([.ref (q 0), .int v1]).toArray c D cy := ⟨B.exec, B.bytes, hml, findClass_of_methodNamed B.named, fun w hw => atoms_spec (ws := Cond.code yX11_sights cX11_sights 2 (some .int) :: zTB) B.pre w (List.mem_cons_of_mem _ hw), hK⟩
  have hx := cx.1
  have hb := cx.2.1
  have hr := B.returns
  have hlk := B.notSynchronized
  have hl := lv_entry ([.ref (q 0), .int v1]) (n := 2) (Nat.le_of_ble_eq_true rfl)
  rw [lg_entry_eq]
  generalize (lg_sl ([.ref (q 0), .int v1]) ++ List.replicate (2 - (lg_sl ([.ref (q 0), .int v1])).length) Slot.unset).toArray = ls at hl ⊢
  have hl : lv_has ls 2 [(0, .ref (q 0)), (1, .int v1)] := hl
  unfold fX11_sights at h
  refine lv_aload_n (pc := 0) hx hb dX11_sights_0 rfl (lv_at hl 0 rfl) ?_
  refine zr_getR (pc := 1) (t := 4) cx lk_X11_19 hP nC_0 sC_0 rfl dX11_sights_1 ?_
  refine lv_iconst (pc := 4) hx hb dX11_sights_4 zc_0 ?_
  refine lv_iload_n (pc := 5) hx hb dX11_sights_5 rfl (lv_at hl 1 rfl) ?_
  obtain ⟨r2, k1, h⟩ := zBd_e h
  refine zr_VI (pc := 6) (rest := []) cx cv_X11_149 (mX3_has zHouse_4 k1) ⟨⟨rfl, rfl⟩, Nat.le_of_ble_eq_true rfl, Nat.le_of_ble_eq_true rfl⟩ ⟨Nat.le_of_ble_eq_true rfl, Nat.le_of_ble_eq_true rfl⟩ hP (nX3_0 zHouse_4) (sX3_0 zHouse_4) rfl hl.1 rfl rfl (Nat.le_of_ble_eq_true rfl) dX11_sights_6 ?_
  refine lv_if_eq (pc := 9) (tgt := 24) hx hb dX11_sights_9 (by decide) (fun c3 => ?_) (fun c3 => ?_)
  · replace h := zBr_t c3 h
    refine lv_iconst (pc := 24) hx hb dX11_sights_24 zc_m1 ?_
    have hz := Option.some.inj h
    exact zr_reI (pc := 25) cx hr hlk hz dX11_sights_25
  · replace h := zBr_f c3 h
    refine lv_aload_n (pc := 12) hx hb dX11_sights_12 rfl (lv_at hl 0 rfl) ?_
    refine zr_getR (pc := 13) (t := 4) cx lk_X11_19 hP nC_0 sC_0 rfl dX11_sights_13 ?_
    refine zr_getR (pc := 16) (t := (4 + 2)) cx lk_X11_217 hP (nX3_0 zHouse_4) (sX3_0 zHouse_4) rfl dX11_sights_16 ?_
    refine lv_iload_n (pc := 19) hx hb dX11_sights_19 rfl (lv_at hl 1 rfl) ?_
    obtain ⟨g4, h⟩ := zGd_e h
    refine zr_iald (pc := 20) cx hP (nX3_2 zHouse_4) (sX3_2 zHouse_4) g4 dX11_sights_20 ?_
    refine lv_goto (pc := 21) (tgt := 25) hx hb dX11_sights_21 (by decide) ?_
    have hz := Option.some.inj h
    exact zr_reI (pc := 25) cx hr hlk hz dX11_sights_25
-- X11_sponge
abbrev rmX11_sponge : Room := { frames := 3, cells := 0, slots := 0, locals := 91 }
def fX11_sponge (S : zSt) (v1 : Int32) : Option (Int32 × zSt) :=
  zBd (fX3_has S 4 (1 : Int32) v1) (fun r2 => zBr (r2 = 0) (some ((-1 : Int32), S)) (zBd (fX6_whyNotSponge S 14 v1) (fun r5 => zBr (r5 = 0) (zBd (fX7_keep S 14) (fun S8 => zBd (fX6_spongeOff S8 14 v1) (fun S10 => some (r5, S10)))) (some (r5, S)))))
set_option maxHeartbeats 4000000 in
set_option maxRecDepth 100000 in
theorem mX11_sponge {l : Launch} {D : va_G} {cy : Nat → ClassId} {q : Nat → Nat} {A : Nat → Prop} {S : zSt} {v1 : Int32} (hq : zQ A q zNC) {z : (Int32 × zSt)} (h : fX11_sponge S v1 = some z) : zMq l yX11_sponge cX11_sponge 3 (some .int) rmX11_sponge [.ref (q 0), .int v1] zsh zNC D cy q A S z := by
  refine Met.ofW (cc := cX11_sponge) (maxL := 3) (ret := (some .int)) (by decide) rfl ?_
  intro p e s m args below meth c s₁ B hml hv
  obtain ⟨rfl, hP, hK⟩ := hv
  have cx : zX RX11 cX11_sponge 3 p s m ([.ref (q 0), .int v1]).toArray c D cy := ⟨B.exec, B.bytes, hml, findClass_of_methodNamed B.named, fun w hw => atoms_spec (ws := Cond.code yX11_sponge cX11_sponge 3 (some .int) :: zTB) B.pre w (List.mem_cons_of_mem _ hw), hK⟩
  have hx := cx.1
  have hb := cx.2.1
  have hr := B.returns
  have hlk := B.notSynchronized
  have hS : va_S A s.heap s.heap [] := va_S.rf
  have hl := lv_entry ([.ref (q 0), .int v1]) (n := 3) (Nat.le_of_ble_eq_true rfl)
  rw [lg_entry_eq]
  generalize (lg_sl ([.ref (q 0), .int v1]) ++ List.replicate (3 - (lg_sl ([.ref (q 0), .int v1])).length) Slot.unset).toArray = ls at hl ⊢
  have hl : lv_has ls 3 [(0, .ref (q 0)), (1, .int v1)] := hl
  unfold fX11_sponge at h
  refine lv_aload_n (pc := 0) hx hb dX11_sponge_0 rfl (lv_at hl 0 rfl) ?_
  refine zr_getR (pc := 1) (t := 4) cx lk_X11_19 hP nC_0 sC_0 rfl dX11_sponge_1 ?_
  refine lv_iconst (pc := 4) hx hb dX11_sponge_4 zc_1 ?_
  refine lv_iload_n (pc := 5) hx hb dX11_sponge_5 rfl (lv_at hl 1 rfl) ?_
  obtain ⟨r2, k1, h⟩ := zBd_e h
  refine zr_VI (pc := 6) (rest := []) cx cv_X11_149 (mX3_has zHouse_4 k1) ⟨⟨rfl, rfl⟩, Nat.le_of_ble_eq_true rfl, Nat.le_of_ble_eq_true rfl⟩ ⟨Nat.le_of_ble_eq_true rfl, Nat.le_of_ble_eq_true rfl⟩ hP (nX3_0 zHouse_4) (sX3_0 zHouse_4) rfl hl.1 rfl rfl (Nat.le_of_ble_eq_true rfl) dX11_sponge_6 ?_
  refine lv_if_ne (pc := 9) (tgt := 14) hx hb dX11_sponge_9 (by decide) (fun c3 => ?_) (fun c3 => ?_)
  · replace h := zBr_f c3 h
    refine lv_aload_n (pc := 14) hx hb dX11_sponge_14 rfl (lv_at hl 0 rfl) ?_
    refine zr_getR (pc := 15) (t := 14) cx lk_X11_28 hP nC_0 sC_0 rfl dX11_sponge_15 ?_
    refine lv_iload_n (pc := 18) hx hb dX11_sponge_18 rfl (lv_at hl 1 rfl) ?_
    obtain ⟨r5, k4, h⟩ := zBd_e h
    refine zr_VI (pc := 19) (rest := []) cx cv_X11_252 (mX6_whyNotSponge zLife_14 k4) ⟨⟨rfl, rfl⟩, Nat.le_of_ble_eq_true rfl, Nat.le_of_ble_eq_true rfl⟩ ⟨Nat.le_of_ble_eq_true rfl, Nat.le_of_ble_eq_true rfl⟩ hP (nX6_0 zLife_14) (sX6_0 zLife_14) rfl hl.1 rfl rfl (Nat.le_of_ble_eq_true rfl) dX11_sponge_19 ?_
    refine lv_istore_n (lv' := [(2, .int r5), (0, .ref (q 0)), (1, .int v1)]) (pc := 22) hx hb dX11_sponge_22 rfl hl (by decide) rfl (fun ls hl => ?_)
    refine lv_iload_n (pc := 23) hx hb dX11_sponge_23 rfl (lv_at hl 0 rfl) ?_
    refine lv_if_ne (pc := 24) (tgt := 46) hx hb dX11_sponge_24 (by decide) (fun c6 => ?_) (fun c6 => ?_)
    · replace h := zBr_f c6 h
      refine lv_iload_n (pc := 46) hx hb dX11_sponge_46 rfl (lv_at hl 0 rfl) ?_
      have hz := Option.some.inj h
      exact zr_rqI (pc := 47) cx hr hlk hP hS hz dX11_sponge_47
    · replace h := zBr_t c6 h
      refine lv_aload_n (pc := 27) hx hb dX11_sponge_27 rfl (lv_at hl 1 rfl) ?_
      refine zr_getR (pc := 28) (t := 44) cx lk_X11_38 hP nC_0 sC_0 rfl dX11_sponge_28 ?_
      refine lv_aload_n (pc := 31) hx hb dX11_sponge_31 rfl (lv_at hl 1 rfl) ?_
      refine zr_getR (pc := 32) (t := 14) cx lk_X11_28 hP nC_0 sC_0 rfl dX11_sponge_32 ?_
      obtain ⟨S8, k7, h⟩ := zBd_e h
      refine zr_VV (pc := 35) (rest := []) cx cv_X11_244 (mX7_keep hq zLife_14 k7) ⟨⟨rfl, rfl⟩, Nat.le_of_ble_eq_true rfl, Nat.le_of_ble_eq_true rfl⟩ ⟨Nat.le_of_ble_eq_true rfl, Nat.le_of_ble_eq_true rfl⟩ hP hS nC_44 sC_44 rfl hl.1 rfl rfl (Nat.le_of_ble_eq_true rfl) dX11_sponge_35 (fun H locs hP hS => ?_)
      refine lv_aload_n (pc := 38) hx hb dX11_sponge_38 rfl (lv_at hl 1 rfl) ?_
      refine zr_getR (pc := 39) (t := 14) cx lk_X11_28 hP nC_0 sC_0 rfl dX11_sponge_39 ?_
      refine lv_iload_n (pc := 42) hx hb dX11_sponge_42 rfl (lv_at hl 2 rfl) ?_
      obtain ⟨S10, k9, h⟩ := zBd_e h
      refine zr_VV (pc := 43) (rest := []) cx cv_X11_255 (mX6_spongeOff hq zLife_14 k9) ⟨⟨rfl, rfl⟩, Nat.le_of_ble_eq_true rfl, Nat.le_of_ble_eq_true rfl⟩ ⟨Nat.le_of_ble_eq_true rfl, Nat.le_of_ble_eq_true rfl⟩ hP hS (nX6_0 zLife_14) (sX6_0 zLife_14) rfl hl.1 rfl rfl (Nat.le_of_ble_eq_true rfl) dX11_sponge_43 (fun H locs hP hS => ?_)
      refine lv_iload_n (pc := 46) hx hb dX11_sponge_46 rfl (lv_at hl 0 rfl) ?_
      have hz := Option.some.inj h
      exact zr_rqI (pc := 47) cx hr hlk hP hS hz dX11_sponge_47
  · replace h := zBr_t c3 h
    refine lv_iconst (pc := 12) hx hb dX11_sponge_12 zc_m1 ?_
    have hz := Option.some.inj h
    exact zr_rqI (pc := 13) cx hr hlk hP hS hz dX11_sponge_13
-- X11_told
abbrev rmX11_told : Room := { frames := 0, cells := 0, slots := 0, locals := 0 }
def fX11_told (S : zSt) (v1 : Int32) : Option Int32 :=
  zBr (v1 = 0) (some (S.1 240 7)) (zBr (v1 = 1) (some (S.1 240 8)) (zBr (v1 = 2) (some (S.1 240 9)) (zBr (v1 = 3) (some (S.1 240 10)) (some (-1 : Int32)))))
set_option maxHeartbeats 4000000 in
set_option maxRecDepth 100000 in
theorem mX11_told {l : Launch} {D : va_G} {cy : Nat → ClassId} {q : Nat → Nat} {S : zSt} {v1 : Int32} {z : Int32} (h : fX11_told S v1 = some z) : zMi l yX11_told cX11_told 2 (some .int) rmX11_told [.ref (q 0), .int v1] (zPr zsh zNC D cy q S) z := by
  refine Met.ofW (cc := cX11_told) (maxL := 2) (ret := (some .int)) (by decide) rfl ?_
  intro p e s m args below meth c s₁ B hml hv
  obtain ⟨rfl, hP, hK⟩ := hv
  have cx : zX RX11 cX11_told 2 p s m ([.ref (q 0), .int v1]).toArray c D cy := ⟨B.exec, B.bytes, hml, findClass_of_methodNamed B.named, fun w hw => atoms_spec (ws := Cond.code yX11_told cX11_told 2 (some .int) :: zTB) B.pre w (List.mem_cons_of_mem _ hw), hK⟩
  have hx := cx.1
  have hb := cx.2.1
  have hr := B.returns
  have hlk := B.notSynchronized
  have hl := lv_entry ([.ref (q 0), .int v1]) (n := 2) (Nat.le_of_ble_eq_true rfl)
  rw [lg_entry_eq]
  generalize (lg_sl ([.ref (q 0), .int v1]) ++ List.replicate (2 - (lg_sl ([.ref (q 0), .int v1])).length) Slot.unset).toArray = ls at hl ⊢
  have hl : lv_has ls 2 [(0, .ref (q 0)), (1, .int v1)] := hl
  unfold fX11_told at h
  refine lv_iload_n (pc := 0) hx hb dX11_told_0 rfl (lv_at hl 1 rfl) ?_
  by_cases c1 : v1 = 0
  · replace h := zBr_t c1 h
    refine lv_tableIn (pc := 1) (off := 31) (tgt := 32) hx hb dX11_told_1 (by rw [c1]; decide) (by rw [c1]; decide) (by rw [c1]; rfl) (by decide) ?_
    refine lv_aload_n (pc := 32) hx hb dX11_told_32 rfl (lv_at hl 0 rfl) ?_
    refine zr_getR (pc := 33) (t := 240) cx lk_X11_63 hP nC_0 sC_0 rfl dX11_told_33 ?_
    refine zr_getI (pc := 36) cx lk_X11_368 hP nC_240 sC_240 rfl dX11_told_36 ?_
    have hz := Option.some.inj h
    exact zr_reI (pc := 39) cx hr hlk hz dX11_told_39
  · replace h := zBr_f c1 h
    by_cases c2 : v1 = 1
    · replace h := zBr_t c2 h
      refine lv_tableIn (pc := 1) (off := 39) (tgt := 40) hx hb dX11_told_1 (by rw [c2]; decide) (by rw [c2]; decide) (by rw [c2]; rfl) (by decide) ?_
      refine lv_aload_n (pc := 40) hx hb dX11_told_40 rfl (lv_at hl 0 rfl) ?_
      refine zr_getR (pc := 41) (t := 240) cx lk_X11_63 hP nC_0 sC_0 rfl dX11_told_41 ?_
      refine zr_getI (pc := 44) cx lk_X11_365 hP nC_240 sC_240 rfl dX11_told_44 ?_
      have hz := Option.some.inj h
      exact zr_reI (pc := 47) cx hr hlk hz dX11_told_47
    · replace h := zBr_f c2 h
      by_cases c3 : v1 = 2
      · replace h := zBr_t c3 h
        refine lv_tableIn (pc := 1) (off := 47) (tgt := 48) hx hb dX11_told_1 (by rw [c3]; decide) (by rw [c3]; decide) (by rw [c3]; rfl) (by decide) ?_
        refine lv_aload_n (pc := 48) hx hb dX11_told_48 rfl (lv_at hl 0 rfl) ?_
        refine zr_getR (pc := 49) (t := 240) cx lk_X11_63 hP nC_0 sC_0 rfl dX11_told_49 ?_
        refine zr_getI (pc := 52) cx lk_X11_371 hP nC_240 sC_240 rfl dX11_told_52 ?_
        have hz := Option.some.inj h
        exact zr_reI (pc := 55) cx hr hlk hz dX11_told_55
      · replace h := zBr_f c3 h
        by_cases c4 : v1 = 3
        · replace h := zBr_t c4 h
          refine lv_tableIn (pc := 1) (off := 55) (tgt := 56) hx hb dX11_told_1 (by rw [c4]; decide) (by rw [c4]; decide) (by rw [c4]; rfl) (by decide) ?_
          refine lv_aload_n (pc := 56) hx hb dX11_told_56 rfl (lv_at hl 0 rfl) ?_
          refine zr_getR (pc := 57) (t := 240) cx lk_X11_63 hP nC_0 sC_0 rfl dX11_told_57 ?_
          refine zr_getI (pc := 60) cx lk_X11_374 hP nC_240 sC_240 rfl dX11_told_60 ?_
          have hz := Option.some.inj h
          exact zr_reI (pc := 63) cx hr hlk hz dX11_told_63
        · replace h := zBr_f c4 h
          refine zr_tsD (pc := 1) (tgt := 64) hx hb dX11_told_1 (fun h1 h2 => ?_) (by decide) ?_
          · rcases (show (v1).toInt = 0 ∨ (v1).toInt = 1 ∨ (v1).toInt = 2 ∨ (v1).toInt = 3 by omega) with e9 | e9 | e9 | e9
            · exact absurd (Int32.toInt_inj.mp (e9.trans (by decide))) c1
            · exact absurd (Int32.toInt_inj.mp (e9.trans (by decide))) c2
            · exact absurd (Int32.toInt_inj.mp (e9.trans (by decide))) c3
            · exact absurd (Int32.toInt_inj.mp (e9.trans (by decide))) c4
          · skip
            refine lv_iconst (pc := 64) hx hb dX11_told_64 zc_m1 ?_
            have hz := Option.some.inj h
            exact zr_reI (pc := 65) cx hr hlk hz dX11_told_65
-- X7_takeBack
abbrev rmX7_takeBack : Room := { frames := 2, cells := 0, slots := 0, locals := 70 }
def fX7_takeBack (S : zSt) (a1 : Nat) : Option (Int32 × zSt) :=
  zBr ((S.1 44 2) = 0) (some ((-1 : Int32), S)) (zGd (decide (¬ (8 : Int32) = 0)) (zLt (zI S 44 1 ((((S.1 44 1) + (8 : Int32)) - (1 : Int32)) - (((S.1 44 1) + (8 : Int32)) - (1 : Int32)) / (8 : Int32) * (8 : Int32))) (fun S3 => zGd (zIx (S3.1 44 1) 8) (zBd (fX6_copyFrom S3 a1 (46 + 15 * (S3.1 44 1).toNatClampNeg)) (fun S6 => zLt (zI S6 44 2 ((S6.1 44 2) - (1 : Int32))) (fun S7 => some ((S7.1 44 2), S7)))))))
set_option maxHeartbeats 4000000 in
set_option maxRecDepth 100000 in
theorem mX7_takeBack {l : Launch} {D : va_G} {cy : Nat → ClassId} {q : Nat → Nat} {A : Nat → Prop} {S : zSt} {a1 : Nat} (hq : zQ A q zNC) (ha1 : zLife a1) {z : (Int32 × zSt)} (h : fX7_takeBack S a1 = some z) : zMq l yX7_takeBack cX7_takeBack 2 (some .int) rmX7_takeBack [.ref (q 44), .ref (q a1)] zsh zNC D cy q A S z := by
  refine Met.ofW (cc := cX7_takeBack) (maxL := 2) (ret := (some .int)) (by decide) rfl ?_
  intro p e s m args below meth c s₁ B hml hv
  obtain ⟨rfl, hP, hK⟩ := hv
  have cx : zX RX7 cX7_takeBack 2 p s m ([.ref (q 44), .ref (q a1)]).toArray c D cy := ⟨B.exec, B.bytes, hml, findClass_of_methodNamed B.named, fun w hw => atoms_spec (ws := Cond.code yX7_takeBack cX7_takeBack 2 (some .int) :: zTB) B.pre w (List.mem_cons_of_mem _ hw), hK⟩
  have hx := cx.1
  have hb := cx.2.1
  have hr := B.returns
  have hlk := B.notSynchronized
  have hS : va_S A s.heap s.heap [] := va_S.rf
  have hl := lv_entry ([.ref (q 44), .ref (q a1)]) (n := 2) (Nat.le_of_ble_eq_true rfl)
  rw [lg_entry_eq]
  generalize (lg_sl ([.ref (q 44), .ref (q a1)]) ++ List.replicate (2 - (lg_sl ([.ref (q 44), .ref (q a1)])).length) Slot.unset).toArray = ls at hl ⊢
  have hl : lv_has ls 2 [(0, .ref (q 44)), (1, .ref (q a1))] := hl
  unfold fX7_takeBack at h
  refine lv_aload_n (pc := 0) hx hb dX7_takeBack_0 rfl (lv_at hl 0 rfl) ?_
  refine zr_getI (pc := 1) cx lk_X7_20 hP nC_44 sC_44 rfl dX7_takeBack_1 ?_
  refine lv_if_ne (pc := 4) (tgt := 9) hx hb dX7_takeBack_4 (by decide) (fun c1 => ?_) (fun c1 => ?_)
  · replace h := zBr_f c1 h
    refine lv_aload_n (pc := 9) hx hb dX7_takeBack_9 rfl (lv_at hl 0 rfl) ?_
    refine lv_aload_n (pc := 10) hx hb dX7_takeBack_10 rfl (lv_at hl 0 rfl) ?_
    refine zr_getI (pc := 11) cx lk_X7_24 hP nC_44 sC_44 rfl dX7_takeBack_11 ?_
    refine lv_bipush (pc := 14) hx hb dX7_takeBack_14 zb_8 ?_
    refine lv_iadd (pc := 16) hx hb dX7_takeBack_16 ?_
    refine lv_iconst (pc := 17) hx hb dX7_takeBack_17 zc_1 ?_
    refine lv_isub (pc := 18) hx hb dX7_takeBack_18 ?_
    refine lv_bipush (pc := 19) hx hb dX7_takeBack_19 zb_8 ?_
    obtain ⟨g2, h⟩ := zGd_e h
    refine lv_irem (pc := 21) hx hb dX7_takeBack_21 (by simpa using g2) ?_
    obtain ⟨S3, eS3, h⟩ := zLt_e h
    refine zr_putI (pc := 22) cx lq_X7_24 hq hP hS nC_44 sC_44 rfl rfl rfl dX7_takeBack_22 (fun H locs hP hS => ?_)
    rw [← eS3] at hP
    refine lv_aload_n (pc := 25) hx hb dX7_takeBack_25 rfl (lv_at hl 1 rfl) ?_
    refine lv_aload_n (pc := 26) hx hb dX7_takeBack_26 rfl (lv_at hl 0 rfl) ?_
    refine zr_getR (pc := 27) (t := 45) cx lk_X7_11 hP nC_44 sC_44 rfl dX7_takeBack_27 ?_
    refine lv_aload_n (pc := 30) hx hb dX7_takeBack_30 rfl (lv_at hl 0 rfl) ?_
    refine zr_getI (pc := 31) cx lk_X7_24 hP nC_44 sC_44 rfl dX7_takeBack_31 ?_
    obtain ⟨g4, h⟩ := zGd_e h
    refine zr_aald (pc := 34) (g := (46 + 15 * (S3.1 44 1).toNatClampNeg)) cx hP nC_45 sC_45 (Or.inr (Or.inl rfl)) g4 rfl dX7_takeBack_34 ?_
    obtain ⟨S6, k5, h⟩ := zBd_e h
    refine zr_VV (pc := 35) (rest := []) cx cv_X7_27 (mX6_copyFrom hq ha1 (zLf_ix g4) k5) ⟨⟨rfl, rfl⟩, Nat.le_of_ble_eq_true rfl, Nat.le_of_ble_eq_true rfl⟩ ⟨Nat.le_of_ble_eq_true rfl, Nat.le_of_ble_eq_true rfl⟩ hP hS (nX6_0 ha1) (sX6_0 ha1) rfl hl.1 rfl rfl (Nat.le_of_ble_eq_true rfl) dX7_takeBack_35 (fun H locs hP hS => ?_)
    refine lv_aload_n (pc := 38) hx hb dX7_takeBack_38 rfl (lv_at hl 0 rfl) ?_
    refine lv_dup (pc := 39) hx hb dX7_takeBack_39 rfl ?_
    refine zr_getI (pc := 40) cx lk_X7_20 hP nC_44 sC_44 rfl dX7_takeBack_40 ?_
    refine lv_iconst (pc := 43) hx hb dX7_takeBack_43 zc_1 ?_
    refine lv_isub (pc := 44) hx hb dX7_takeBack_44 ?_
    obtain ⟨S7, eS7, h⟩ := zLt_e h
    refine zr_putI (pc := 45) cx lq_X7_20 hq hP hS nC_44 sC_44 rfl rfl rfl dX7_takeBack_45 (fun H locs hP hS => ?_)
    rw [← eS7] at hP
    refine lv_aload_n (pc := 48) hx hb dX7_takeBack_48 rfl (lv_at hl 0 rfl) ?_
    refine zr_getI (pc := 49) cx lk_X7_20 hP nC_44 sC_44 rfl dX7_takeBack_49 ?_
    have hz := Option.some.inj h
    exact zr_rqI (pc := 52) cx hr hlk hP hS hz dX7_takeBack_52
  · replace h := zBr_t c1 h
    refine lv_iconst (pc := 7) hx hb dX7_takeBack_7 zc_m1 ?_
    have hz := Option.some.inj h
    exact zr_rqI (pc := 8) cx hr hlk hP hS hz dX7_takeBack_8
