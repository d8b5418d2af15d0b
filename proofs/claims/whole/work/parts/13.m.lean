theorem wd_10 : (Jvm.Cond.initialized "ParlourLeaves$Image") ∈ zTB := List.mem_filter.mpr ⟨List.mem_append_right _ (List.mem_append_left _ (List.mem_of_getElem? (i := 10) rfl)), rfl⟩
theorem wd_11 : (Jvm.Cond.initialized "ParlourLeaves$Sentence") ∈ zTB := List.mem_filter.mpr ⟨List.mem_append_right _ (List.mem_append_left _ (List.mem_of_getElem? (i := 11) rfl)), rfl⟩
theorem wd_94 : (Jvm.Cond.fieldLink "ParlourLeaves$Foresight" (93 : Nat) "ParlourLeaves$Tape" "bytes" "[C") ∈ zTB := List.mem_filter.mpr ⟨List.mem_append_right _ (List.mem_append_left _ (List.mem_of_getElem? (i := 94) rfl)), rfl⟩
theorem wd_97 : (Jvm.Cond.fieldLink "ParlourLeaves$Foresight" (88 : Nat) "ParlourLeaves$Tape" "length" "I") ∈ zTB := List.mem_filter.mpr ⟨List.mem_append_right _ (List.mem_append_left _ (List.mem_of_getElem? (i := 97) rfl)), rfl⟩
theorem wd_158 : (Jvm.Cond.fieldLink "ParlourLeaves$House" (18 : Nat) "ParlourLeaves$House" "home" "[I") ∈ zTB := List.mem_filter.mpr ⟨List.mem_append_right _ (List.mem_append_left _ (List.mem_of_getElem? (i := 158) rfl)), rfl⟩
theorem wd_161 : (Jvm.Cond.fieldLink "ParlourLeaves$House" (21 : Nat) "ParlourLeaves$House" "slow" "[I") ∈ zTB := List.mem_filter.mpr ⟨List.mem_append_right _ (List.mem_append_left _ (List.mem_of_getElem? (i := 161) rfl)), rfl⟩
theorem wd_165 : (Jvm.Cond.fieldLink "ParlourLeaves$House" (24 : Nat) "ParlourLeaves$House" "fern" "[I") ∈ zTB := List.mem_filter.mpr ⟨List.mem_append_right _ (List.mem_append_left _ (List.mem_of_getElem? (i := 165) rfl)), rfl⟩
theorem wd_170 : (Jvm.Cond.fieldLink "ParlourLeaves$House" (27 : Nat) "ParlourLeaves$House" "plantWord" "[J") ∈ zTB := List.mem_filter.mpr ⟨List.mem_append_right _ (List.mem_append_left _ (List.mem_of_getElem? (i := 170) rfl)), rfl⟩
theorem wd_172 : (Jvm.Cond.fieldLink "ParlourLeaves$House" (34 : Nat) "ParlourLeaves$House" "wordSort" "[I") ∈ zTB := List.mem_filter.mpr ⟨List.mem_append_right _ (List.mem_append_left _ (List.mem_of_getElem? (i := 172) rfl)), rfl⟩
theorem wd_174 : (Jvm.Cond.fieldLink "ParlourLeaves$House" (37 : Nat) "ParlourLeaves$House" "wordNumber" "[I") ∈ zTB := List.mem_filter.mpr ⟨List.mem_append_right _ (List.mem_append_left _ (List.mem_of_getElem? (i := 174) rfl)), rfl⟩
theorem wd_177 : (Jvm.Cond.fieldLink "ParlourLeaves$House" (40 : Nat) "ParlourLeaves$House" "dusty" "I") ∈ zTB := List.mem_filter.mpr ⟨List.mem_append_right _ (List.mem_append_left _ (List.mem_of_getElem? (i := 177) rfl)), rfl⟩
theorem wd_182 : (Jvm.Cond.fieldLink "ParlourLeaves$House" (44 : Nat) "ParlourLeaves$House" "proof" "I") ∈ zTB := List.mem_filter.mpr ⟨List.mem_append_right _ (List.mem_append_left _ (List.mem_of_getElem? (i := 182) rfl)), rfl⟩
theorem wd_225 : (Jvm.Cond.fieldLink "ParlourLeaves$Foresight" (57 : Nat) "ParlourLeaves$Life" "day" "I") ∈ zTB := List.mem_filter.mpr ⟨List.mem_append_right _ (List.mem_append_left _ (List.mem_of_getElem? (i := 225) rfl)), rfl⟩
theorem wd_309 : (Jvm.Cond.fieldLink "ParlourLeaves$Sentence" (11 : Nat) "ParlourLeaves$Sentence" "kind" "[I") ∈ zTB := List.mem_filter.mpr ⟨List.mem_append_right _ (List.mem_append_right _ (List.mem_append_left _ (List.mem_of_getElem? (i := 69) rfl))), rfl⟩
theorem wd_310 : (Jvm.Cond.fieldLink "ParlourLeaves$Sentence" (15 : Nat) "ParlourLeaves$Sentence" "first" "[I") ∈ zTB := List.mem_filter.mpr ⟨List.mem_append_right _ (List.mem_append_right _ (List.mem_append_left _ (List.mem_of_getElem? (i := 70) rfl))), rfl⟩
theorem wd_311 : (Jvm.Cond.fieldLink "ParlourLeaves$Sentence" (18 : Nat) "ParlourLeaves$Sentence" "second" "[I") ∈ zTB := List.mem_filter.mpr ⟨List.mem_append_right _ (List.mem_append_right _ (List.mem_append_left _ (List.mem_of_getElem? (i := 71) rfl))), rfl⟩
theorem wd_313 : (Jvm.Cond.fieldLink "ParlourLeaves$Sentence" (24 : Nat) "ParlourLeaves$Sentence" "parts" "I") ∈ zTB := List.mem_filter.mpr ⟨List.mem_append_right _ (List.mem_append_right _ (List.mem_append_left _ (List.mem_of_getElem? (i := 73) rfl))), rfl⟩
theorem wd_314 : (Jvm.Cond.fieldLink "ParlourLeaves$Sentence" (28 : Nat) "ParlourLeaves$Sentence" "ones" "I") ∈ zTB := List.mem_filter.mpr ⟨List.mem_append_right _ (List.mem_append_right _ (List.mem_append_left _ (List.mem_of_getElem? (i := 74) rfl))), rfl⟩
theorem wd_316 : (Jvm.Cond.laysFinal "ParlourLeaves$Sentence" "ParlourLeaves$Sentence" "kind" "[I") ∈ zTB := List.mem_filter.mpr ⟨List.mem_append_right _ (List.mem_append_right _ (List.mem_append_left _ (List.mem_of_getElem? (i := 76) rfl))), rfl⟩
theorem wd_318 : (Jvm.Cond.laysFinal "ParlourLeaves$Sentence" "ParlourLeaves$Sentence" "first" "[I") ∈ zTB := List.mem_filter.mpr ⟨List.mem_append_right _ (List.mem_append_right _ (List.mem_append_left _ (List.mem_of_getElem? (i := 78) rfl))), rfl⟩
theorem wd_320 : (Jvm.Cond.laysFinal "ParlourLeaves$Sentence" "ParlourLeaves$Sentence" "second" "[I") ∈ zTB := List.mem_filter.mpr ⟨List.mem_append_right _ (List.mem_append_right _ (List.mem_append_left _ (List.mem_of_getElem? (i := 80) rfl))), rfl⟩
theorem wd_322 : (Jvm.Cond.laysFinal "ParlourLeaves$Sentence" "ParlourLeaves$Sentence" "open" "[I") ∈ zTB := List.mem_filter.mpr ⟨List.mem_append_right _ (List.mem_append_right _ (List.mem_append_left _ (List.mem_of_getElem? (i := 82) rfl))), rfl⟩
theorem wd_324 : (Jvm.Cond.lays "ParlourLeaves$Sentence" "ParlourLeaves$Sentence" "parts" "I") ∈ zTB := List.mem_filter.mpr ⟨List.mem_append_right _ (List.mem_append_right _ (List.mem_append_left _ (List.mem_of_getElem? (i := 84) rfl))), rfl⟩
theorem wd_326 : (Jvm.Cond.lays "ParlourLeaves$Sentence" "ParlourLeaves$Sentence" "ones" "I") ∈ zTB := List.mem_filter.mpr ⟨List.mem_append_right _ (List.mem_append_right _ (List.mem_append_left _ (List.mem_of_getElem? (i := 86) rfl))), rfl⟩
theorem wd_329 : (Jvm.Cond.fieldLink "ParlourLeaves$Image" (10 : Nat) "ParlourLeaves$Image" "house" "LParlourLeaves$House;") ∈ zTB := List.mem_filter.mpr ⟨List.mem_append_right _ (List.mem_append_right _ (List.mem_append_left _ (List.mem_of_getElem? (i := 89) rfl))), rfl⟩
theorem wd_331 : (Jvm.Cond.fieldLink "ParlourLeaves$Image" (21 : Nat) "ParlourLeaves$Image" "life" "LParlourLeaves$Life;") ∈ zTB := List.mem_filter.mpr ⟨List.mem_append_right _ (List.mem_append_right _ (List.mem_append_left _ (List.mem_of_getElem? (i := 91) rfl))), rfl⟩
theorem wd_333 : (Jvm.Cond.fieldLink "ParlourLeaves$Image" (28 : Nat) "ParlourLeaves$Image" "sentence" "LParlourLeaves$Sentence;") ∈ zTB := List.mem_filter.mpr ⟨List.mem_append_right _ (List.mem_append_right _ (List.mem_append_left _ (List.mem_of_getElem? (i := 93) rfl))), rfl⟩
theorem wd_335 : (Jvm.Cond.fieldLink "ParlourLeaves$Image" (41 : Nat) "ParlourLeaves$Image" "kept" "Z") ∈ zTB := List.mem_filter.mpr ⟨List.mem_append_right _ (List.mem_append_right _ (List.mem_append_left _ (List.mem_of_getElem? (i := 95) rfl))), rfl⟩
theorem wd_337 : (Jvm.Cond.laysFinal "ParlourLeaves$Image" "ParlourLeaves$Image" "house" "LParlourLeaves$House;") ∈ zTB := List.mem_filter.mpr ⟨List.mem_append_right _ (List.mem_append_right _ (List.mem_append_left _ (List.mem_of_getElem? (i := 97) rfl))), rfl⟩
theorem wd_339 : (Jvm.Cond.laysFinal "ParlourLeaves$Image" "ParlourLeaves$Image" "life" "LParlourLeaves$Life;") ∈ zTB := List.mem_filter.mpr ⟨List.mem_append_right _ (List.mem_append_right _ (List.mem_append_left _ (List.mem_of_getElem? (i := 99) rfl))), rfl⟩
theorem wd_341 : (Jvm.Cond.laysFinal "ParlourLeaves$Image" "ParlourLeaves$Image" "sentence" "LParlourLeaves$Sentence;") ∈ zTB := List.mem_filter.mpr ⟨List.mem_append_right _ (List.mem_append_right _ (List.mem_append_left _ (List.mem_of_getElem? (i := 101) rfl))), rfl⟩
theorem wd_343 : (Jvm.Cond.lays "ParlourLeaves$Image" "ParlourLeaves$Image" "kept" "Z") ∈ zTB := List.mem_filter.mpr ⟨List.mem_append_right _ (List.mem_append_right _ (List.mem_append_left _ (List.mem_of_getElem? (i := 103) rfl))), rfl⟩
theorem wd_509 : (Jvm.Cond.fieldLink "ParlourLeaves" (44 : Nat) "ParlourLeaves" "images" "[LParlourLeaves$Image;") ∈ zTB := List.mem_filter.mpr ⟨List.mem_append_right _ (List.mem_append_right _ (List.mem_append_right _ (List.mem_append_left _ (List.mem_of_getElem? (i := 29) rfl)))), rfl⟩
theorem wd_512 : (Jvm.Cond.fieldLink "ParlourLeaves" (70 : Nat) "ParlourLeaves" "sentence" "LParlourLeaves$Sentence;") ∈ zTB := List.mem_filter.mpr ⟨List.mem_append_right _ (List.mem_append_right _ (List.mem_append_right _ (List.mem_append_left _ (List.mem_of_getElem? (i := 32) rfl)))), rfl⟩
theorem wd_560 : (Jvm.Cond.methodLink "ParlourLeaves" (117 : Nat) ({ cls := "ParlourLeaves$Tape", name := "addNumber", desc := "(I)V" } : Jvm.MethodName)) ∈ zTB := List.mem_filter.mpr ⟨List.mem_append_right _ (List.mem_append_right _ (List.mem_append_right _ (List.mem_append_left _ (List.mem_of_getElem? (i := 80) rfl)))), rfl⟩
theorem wd_561 : (Jvm.Cond.instanceMethod ({ cls := "ParlourLeaves$Tape", name := "addNumber", desc := "(I)V" } : Jvm.MethodName)) ∈ zTB := List.mem_filter.mpr ⟨List.mem_append_right _ (List.mem_append_right _ (List.mem_append_right _ (List.mem_append_left _ (List.mem_of_getElem? (i := 81) rfl)))), rfl⟩
theorem wd_562 : (Jvm.Cond.selects "ParlourLeaves$Tape" ({ cls := "ParlourLeaves$Tape", name := "addNumber", desc := "(I)V" } : Jvm.MethodName) ({ cls := "ParlourLeaves$Tape", name := "addNumber", desc := "(I)V" } : Jvm.MethodName)) ∈ zTB := List.mem_filter.mpr ⟨List.mem_append_right _ (List.mem_append_right _ (List.mem_append_right _ (List.mem_append_left _ (List.mem_of_getElem? (i := 82) rfl)))), rfl⟩
theorem wd_563 : (Jvm.Cond.code ({ cls := "ParlourLeaves$Tape", name := "addNumber", desc := "(I)V" } : Jvm.MethodName) prog_11_method_2_code (3 : Nat) (Option.none : Option Jvm.ClassFile.FieldType)) ∈ zTB := List.mem_filter.mpr ⟨List.mem_append_right _ (List.mem_append_right _ (List.mem_append_right _ (List.mem_append_left _ (List.mem_of_getElem? (i := 83) rfl)))), rfl⟩
theorem wd_673 : (Jvm.Cond.instanceMethod ({ cls := "ParlourLeaves$House", name := "copyFrom", desc := "(LParlourLeaves$House;)V" } : Jvm.MethodName)) ∈ zTB := List.mem_filter.mpr ⟨List.mem_append_right _ (List.mem_append_right _ (List.mem_append_right _ (List.mem_append_left _ (List.mem_of_getElem? (i := 193) rfl)))), rfl⟩
theorem wd_674 : (Jvm.Cond.selects "ParlourLeaves$House" ({ cls := "ParlourLeaves$House", name := "copyFrom", desc := "(LParlourLeaves$House;)V" } : Jvm.MethodName) ({ cls := "ParlourLeaves$House", name := "copyFrom", desc := "(LParlourLeaves$House;)V" } : Jvm.MethodName)) ∈ zTB := List.mem_filter.mpr ⟨List.mem_append_right _ (List.mem_append_right _ (List.mem_append_right _ (List.mem_append_left _ (List.mem_of_getElem? (i := 194) rfl)))), rfl⟩
theorem wd_675 : (Jvm.Cond.code ({ cls := "ParlourLeaves$House", name := "copyFrom", desc := "(LParlourLeaves$House;)V" } : Jvm.MethodName) prog_5_method_3_code (2 : Nat) (Option.none : Option Jvm.ClassFile.FieldType)) ∈ zTB := List.mem_filter.mpr ⟨List.mem_append_right _ (List.mem_append_right _ (List.mem_append_right _ (List.mem_append_left _ (List.mem_of_getElem? (i := 195) rfl)))), rfl⟩
theorem wd_676 : (Jvm.Cond.methodLink "ParlourLeaves$House" (50 : Nat) ({ cls := "java/lang/System", name := "arraycopy", desc := "(Ljava/lang/Object;ILjava/lang/Object;II)V" } : Jvm.MethodName)) ∈ zTB := List.mem_filter.mpr ⟨List.mem_append_right _ (List.mem_append_right _ (List.mem_append_right _ (List.mem_append_left _ (List.mem_of_getElem? (i := 196) rfl)))), rfl⟩
theorem wd_715 : (Jvm.Cond.methodLink "ParlourLeaves" (223 : Nat) ({ cls := "ParlourLeaves$Life", name := "actsProved", desc := "()I" } : Jvm.MethodName)) ∈ zTB := List.mem_filter.mpr ⟨List.mem_append_right _ (List.mem_append_right _ (List.mem_append_right _ (List.mem_append_left _ (List.mem_of_getElem? (i := 235) rfl)))), rfl⟩
theorem wd_753 : (Jvm.Cond.methodLink "ParlourLeaves$Life" (123 : Nat) ({ cls := "ParlourLeaves$Life", name := "actsShown", desc := "(I)I" } : Jvm.MethodName)) ∈ zTB := List.mem_filter.mpr ⟨List.mem_append_right _ (List.mem_append_right _ (List.mem_append_right _ (List.mem_append_right _ (List.mem_append_left _ (List.mem_of_getElem? (i := 33) rfl))))), rfl⟩
theorem wd_754 : (Jvm.Cond.instanceMethod ({ cls := "ParlourLeaves$Life", name := "actsShown", desc := "(I)I" } : Jvm.MethodName)) ∈ zTB := List.mem_filter.mpr ⟨List.mem_append_right _ (List.mem_append_right _ (List.mem_append_right _ (List.mem_append_right _ (List.mem_append_left _ (List.mem_of_getElem? (i := 34) rfl))))), rfl⟩
theorem wd_755 : (Jvm.Cond.selects "ParlourLeaves$Life" ({ cls := "ParlourLeaves$Life", name := "actsShown", desc := "(I)I" } : Jvm.MethodName) ({ cls := "ParlourLeaves$Life", name := "actsShown", desc := "(I)I" } : Jvm.MethodName)) ∈ zTB := List.mem_filter.mpr ⟨List.mem_append_right _ (List.mem_append_right _ (List.mem_append_right _ (List.mem_append_right _ (List.mem_append_left _ (List.mem_of_getElem? (i := 35) rfl))))), rfl⟩
theorem wd_756 : (Jvm.Cond.code ({ cls := "ParlourLeaves$Life", name := "actsShown", desc := "(I)I" } : Jvm.MethodName) prog_8_method_20_code (4 : Nat) (Option.some Jvm.ClassFile.FieldType.int)) ∈ zTB := List.mem_filter.mpr ⟨List.mem_append_right _ (List.mem_append_right _ (List.mem_append_right _ (List.mem_append_right _ (List.mem_append_left _ (List.mem_of_getElem? (i := 36) rfl))))), rfl⟩
theorem wd_761 : (Jvm.Cond.methodLink "ParlourLeaves$Life" (126 : Nat) ({ cls := "ParlourLeaves$Life", name := "leavesDue", desc := "(I)I" } : Jvm.MethodName)) ∈ zTB := List.mem_filter.mpr ⟨List.mem_append_right _ (List.mem_append_right _ (List.mem_append_right _ (List.mem_append_right _ (List.mem_append_left _ (List.mem_of_getElem? (i := 41) rfl))))), rfl⟩
theorem wd_762 : (Jvm.Cond.instanceMethod ({ cls := "ParlourLeaves$Life", name := "leavesDue", desc := "(I)I" } : Jvm.MethodName)) ∈ zTB := List.mem_filter.mpr ⟨List.mem_append_right _ (List.mem_append_right _ (List.mem_append_right _ (List.mem_append_right _ (List.mem_append_left _ (List.mem_of_getElem? (i := 42) rfl))))), rfl⟩
theorem wd_763 : (Jvm.Cond.selects "ParlourLeaves$Life" ({ cls := "ParlourLeaves$Life", name := "leavesDue", desc := "(I)I" } : Jvm.MethodName) ({ cls := "ParlourLeaves$Life", name := "leavesDue", desc := "(I)I" } : Jvm.MethodName)) ∈ zTB := List.mem_filter.mpr ⟨List.mem_append_right _ (List.mem_append_right _ (List.mem_append_right _ (List.mem_append_right _ (List.mem_append_left _ (List.mem_of_getElem? (i := 43) rfl))))), rfl⟩
theorem wd_764 : (Jvm.Cond.code ({ cls := "ParlourLeaves$Life", name := "leavesDue", desc := "(I)I" } : Jvm.MethodName) prog_8_method_21_code (4 : Nat) (Option.some Jvm.ClassFile.FieldType.int)) ∈ zTB := List.mem_filter.mpr ⟨List.mem_append_right _ (List.mem_append_right _ (List.mem_append_right _ (List.mem_append_right _ (List.mem_append_left _ (List.mem_of_getElem? (i := 44) rfl))))), rfl⟩
theorem wd_860 : (Jvm.Cond.methodLink "ParlourLeaves" (275 : Nat) ({ cls := "ParlourLeaves$Life", name := "actsOf", desc := "(I)I" } : Jvm.MethodName)) ∈ zTB := List.mem_filter.mpr ⟨List.mem_append_right _ (List.mem_append_right _ (List.mem_append_right _ (List.mem_append_right _ (List.mem_append_left _ (List.mem_of_getElem? (i := 140) rfl))))), rfl⟩
theorem wd_861 : (Jvm.Cond.instanceMethod ({ cls := "ParlourLeaves$Life", name := "actsOf", desc := "(I)I" } : Jvm.MethodName)) ∈ zTB := List.mem_filter.mpr ⟨List.mem_append_right _ (List.mem_append_right _ (List.mem_append_right _ (List.mem_append_right _ (List.mem_append_left _ (List.mem_of_getElem? (i := 141) rfl))))), rfl⟩
theorem wd_862 : (Jvm.Cond.selects "ParlourLeaves$Life" ({ cls := "ParlourLeaves$Life", name := "actsOf", desc := "(I)I" } : Jvm.MethodName) ({ cls := "ParlourLeaves$Life", name := "actsOf", desc := "(I)I" } : Jvm.MethodName)) ∈ zTB := List.mem_filter.mpr ⟨List.mem_append_right _ (List.mem_append_right _ (List.mem_append_right _ (List.mem_append_right _ (List.mem_append_left _ (List.mem_of_getElem? (i := 142) rfl))))), rfl⟩
theorem wd_863 : (Jvm.Cond.code ({ cls := "ParlourLeaves$Life", name := "actsOf", desc := "(I)I" } : Jvm.MethodName) prog_8_method_23_code (4 : Nat) (Option.some Jvm.ClassFile.FieldType.int)) ∈ zTB := List.mem_filter.mpr ⟨List.mem_append_right _ (List.mem_append_right _ (List.mem_append_right _ (List.mem_append_right _ (List.mem_append_left _ (List.mem_of_getElem? (i := 143) rfl))))), rfl⟩
theorem wd_864 : (Jvm.Cond.methodLink "ParlourLeaves" (278 : Nat) ({ cls := "ParlourLeaves$Life", name := "actsOfDeed", desc := "(I)I" } : Jvm.MethodName)) ∈ zTB := List.mem_filter.mpr ⟨List.mem_append_right _ (List.mem_append_right _ (List.mem_append_right _ (List.mem_append_right _ (List.mem_append_left _ (List.mem_of_getElem? (i := 144) rfl))))), rfl⟩
theorem wd_865 : (Jvm.Cond.instanceMethod ({ cls := "ParlourLeaves$Life", name := "actsOfDeed", desc := "(I)I" } : Jvm.MethodName)) ∈ zTB := List.mem_filter.mpr ⟨List.mem_append_right _ (List.mem_append_right _ (List.mem_append_right _ (List.mem_append_right _ (List.mem_append_left _ (List.mem_of_getElem? (i := 145) rfl))))), rfl⟩
theorem wd_866 : (Jvm.Cond.selects "ParlourLeaves$Life" ({ cls := "ParlourLeaves$Life", name := "actsOfDeed", desc := "(I)I" } : Jvm.MethodName) ({ cls := "ParlourLeaves$Life", name := "actsOfDeed", desc := "(I)I" } : Jvm.MethodName)) ∈ zTB := List.mem_filter.mpr ⟨List.mem_append_right _ (List.mem_append_right _ (List.mem_append_right _ (List.mem_append_right _ (List.mem_append_left _ (List.mem_of_getElem? (i := 146) rfl))))), rfl⟩
theorem wd_867 : (Jvm.Cond.code ({ cls := "ParlourLeaves$Life", name := "actsOfDeed", desc := "(I)I" } : Jvm.MethodName) prog_8_method_24_code (4 : Nat) (Option.some Jvm.ClassFile.FieldType.int)) ∈ zTB := List.mem_filter.mpr ⟨List.mem_append_right _ (List.mem_append_right _ (List.mem_append_right _ (List.mem_append_right _ (List.mem_append_left _ (List.mem_of_getElem? (i := 147) rfl))))), rfl⟩
theorem wd_883 : (Jvm.Cond.methodLink "ParlourLeaves" (284 : Nat) ({ cls := "ParlourLeaves$Foresight", name := "hiddenParlours", desc := "(I)I" } : Jvm.MethodName)) ∈ zTB := List.mem_filter.mpr ⟨List.mem_append_right _ (List.mem_append_right _ (List.mem_append_right _ (List.mem_append_right _ (List.mem_append_left _ (List.mem_of_getElem? (i := 163) rfl))))), rfl⟩
theorem wd_884 : (Jvm.Cond.instanceMethod ({ cls := "ParlourLeaves$Foresight", name := "hiddenParlours", desc := "(I)I" } : Jvm.MethodName)) ∈ zTB := List.mem_filter.mpr ⟨List.mem_append_right _ (List.mem_append_right _ (List.mem_append_right _ (List.mem_append_right _ (List.mem_append_left _ (List.mem_of_getElem? (i := 164) rfl))))), rfl⟩
theorem wd_885 : (Jvm.Cond.selects "ParlourLeaves$Foresight" ({ cls := "ParlourLeaves$Foresight", name := "hiddenParlours", desc := "(I)I" } : Jvm.MethodName) ({ cls := "ParlourLeaves$Foresight", name := "hiddenParlours", desc := "(I)I" } : Jvm.MethodName)) ∈ zTB := List.mem_filter.mpr ⟨List.mem_append_right _ (List.mem_append_right _ (List.mem_append_right _ (List.mem_append_right _ (List.mem_append_left _ (List.mem_of_getElem? (i := 165) rfl))))), rfl⟩
theorem wd_886 : (Jvm.Cond.code ({ cls := "ParlourLeaves$Foresight", name := "hiddenParlours", desc := "(I)I" } : Jvm.MethodName) prog_4_method_3_code (4 : Nat) (Option.some Jvm.ClassFile.FieldType.int)) ∈ zTB := List.mem_filter.mpr ⟨List.mem_append_right _ (List.mem_append_right _ (List.mem_append_right _ (List.mem_append_right _ (List.mem_append_left _ (List.mem_of_getElem? (i := 166) rfl))))), rfl⟩
theorem wd_887 : (Jvm.Cond.methodLink "ParlourLeaves$Foresight" (54 : Nat) ({ cls := "ParlourLeaves$Life", name := "nextLeafDay", desc := "(I)I" } : Jvm.MethodName)) ∈ zTB := List.mem_filter.mpr ⟨List.mem_append_right _ (List.mem_append_right _ (List.mem_append_right _ (List.mem_append_right _ (List.mem_append_left _ (List.mem_of_getElem? (i := 167) rfl))))), rfl⟩
theorem wd_905 : (Jvm.Cond.methodLink "ParlourLeaves" (290 : Nat) ({ cls := "ParlourLeaves$Foresight", name := "fittingParlours", desc := "(LParlourLeaves$Tape;)I" } : Jvm.MethodName)) ∈ zTB := List.mem_filter.mpr ⟨List.mem_append_right _ (List.mem_append_right _ (List.mem_append_right _ (List.mem_append_right _ (List.mem_append_left _ (List.mem_of_getElem? (i := 185) rfl))))), rfl⟩
theorem wd_906 : (Jvm.Cond.instanceMethod ({ cls := "ParlourLeaves$Foresight", name := "fittingParlours", desc := "(LParlourLeaves$Tape;)I" } : Jvm.MethodName)) ∈ zTB := List.mem_filter.mpr ⟨List.mem_append_right _ (List.mem_append_right _ (List.mem_append_right _ (List.mem_append_right _ (List.mem_append_left _ (List.mem_of_getElem? (i := 186) rfl))))), rfl⟩
theorem wd_907 : (Jvm.Cond.selects "ParlourLeaves$Foresight" ({ cls := "ParlourLeaves$Foresight", name := "fittingParlours", desc := "(LParlourLeaves$Tape;)I" } : Jvm.MethodName) ({ cls := "ParlourLeaves$Foresight", name := "fittingParlours", desc := "(LParlourLeaves$Tape;)I" } : Jvm.MethodName)) ∈ zTB := List.mem_filter.mpr ⟨List.mem_append_right _ (List.mem_append_right _ (List.mem_append_right _ (List.mem_append_right _ (List.mem_append_left _ (List.mem_of_getElem? (i := 187) rfl))))), rfl⟩
theorem wd_908 : (Jvm.Cond.code ({ cls := "ParlourLeaves$Foresight", name := "fittingParlours", desc := "(LParlourLeaves$Tape;)I" } : Jvm.MethodName) prog_4_method_5_code (6 : Nat) (Option.some Jvm.ClassFile.FieldType.int)) ∈ zTB := List.mem_filter.mpr ⟨List.mem_append_right _ (List.mem_append_right _ (List.mem_append_right _ (List.mem_append_right _ (List.mem_append_left _ (List.mem_of_getElem? (i := 188) rfl))))), rfl⟩
theorem wd_909 : (Jvm.Cond.methodLink "ParlourLeaves$Foresight" (97 : Nat) ({ cls := "ParlourLeaves$House", name := "has", desc := "(II)Z" } : Jvm.MethodName)) ∈ zTB := List.mem_filter.mpr ⟨List.mem_append_right _ (List.mem_append_right _ (List.mem_append_right _ (List.mem_append_right _ (List.mem_append_left _ (List.mem_of_getElem? (i := 189) rfl))))), rfl⟩
theorem wd_910 : (Jvm.Cond.methodLink "ParlourLeaves" (295 : Nat) ({ cls := "ParlourLeaves$Foresight", name := "plantToAsk", desc := "(I)I" } : Jvm.MethodName)) ∈ zTB := List.mem_filter.mpr ⟨List.mem_append_right _ (List.mem_append_right _ (List.mem_append_right _ (List.mem_append_right _ (List.mem_append_left _ (List.mem_of_getElem? (i := 190) rfl))))), rfl⟩
theorem wd_911 : (Jvm.Cond.instanceMethod ({ cls := "ParlourLeaves$Foresight", name := "plantToAsk", desc := "(I)I" } : Jvm.MethodName)) ∈ zTB := List.mem_filter.mpr ⟨List.mem_append_right _ (List.mem_append_right _ (List.mem_append_right _ (List.mem_append_right _ (List.mem_append_left _ (List.mem_of_getElem? (i := 191) rfl))))), rfl⟩
theorem wd_912 : (Jvm.Cond.selects "ParlourLeaves$Foresight" ({ cls := "ParlourLeaves$Foresight", name := "plantToAsk", desc := "(I)I" } : Jvm.MethodName) ({ cls := "ParlourLeaves$Foresight", name := "plantToAsk", desc := "(I)I" } : Jvm.MethodName)) ∈ zTB := List.mem_filter.mpr ⟨List.mem_append_right _ (List.mem_append_right _ (List.mem_append_right _ (List.mem_append_right _ (List.mem_append_left _ (List.mem_of_getElem? (i := 192) rfl))))), rfl⟩
theorem wd_913 : (Jvm.Cond.code ({ cls := "ParlourLeaves$Foresight", name := "plantToAsk", desc := "(I)I" } : Jvm.MethodName) prog_4_method_6_code (7 : Nat) (Option.some Jvm.ClassFile.FieldType.int)) ∈ zTB := List.mem_filter.mpr ⟨List.mem_append_right _ (List.mem_append_right _ (List.mem_append_right _ (List.mem_append_right _ (List.mem_append_left _ (List.mem_of_getElem? (i := 193) rfl))))), rfl⟩
theorem wd_914 : (Jvm.Cond.methodLink "ParlourLeaves$Foresight" (100 : Nat) ({ cls := "java/lang/Math", name := "abs", desc := "(I)I" } : Jvm.MethodName)) ∈ zTB := List.mem_filter.mpr ⟨List.mem_append_right _ (List.mem_append_right _ (List.mem_append_right _ (List.mem_append_right _ (List.mem_append_left _ (List.mem_of_getElem? (i := 194) rfl))))), rfl⟩
theorem wd_915 : (Jvm.Cond.static ({ cls := "java/lang/Math", name := "abs", desc := "(I)I" } : Jvm.MethodName)) ∈ zTB := List.mem_filter.mpr ⟨List.mem_append_right _ (List.mem_append_right _ (List.mem_append_right _ (List.mem_append_right _ (List.mem_append_left _ (List.mem_of_getElem? (i := 195) rfl))))), rfl⟩
theorem wd_916 : (Jvm.Cond.code ({ cls := "java/lang/Math", name := "abs", desc := "(I)I" } : Jvm.MethodName) prog_23_method_59_code (1 : Nat) (Option.some Jvm.ClassFile.FieldType.int)) ∈ zTB := List.mem_filter.mpr ⟨List.mem_append_right _ (List.mem_append_right _ (List.mem_append_right _ (List.mem_append_right _ (List.mem_append_left _ (List.mem_of_getElem? (i := 196) rfl))))), rfl⟩
theorem wd_988 : (Jvm.Cond.methodLink "ParlourLeaves" (173 : Nat) ({ cls := "ParlourLeaves$Life", name := "actsShown", desc := "(I)I" } : Jvm.MethodName)) ∈ zTB := List.mem_filter.mpr ⟨List.mem_append_right _ (List.mem_append_right _ (List.mem_append_right _ (List.mem_append_right _ (List.mem_append_right _ (List.mem_append_left _ (List.mem_of_getElem? (i := 28) rfl)))))), rfl⟩
theorem wd_1321 : (Jvm.Cond.instanceMethod ({ cls := "ParlourLeaves$Sentence", name := "copyFrom", desc := "(LParlourLeaves$Sentence;)V" } : Jvm.MethodName)) ∈ zTB := List.mem_filter.mpr ⟨List.mem_append_right _ (List.mem_append_right _ (List.mem_append_right _ (List.mem_append_right _ (List.mem_append_right _ (List.mem_append_right _ (List.mem_append_left _ (List.mem_of_getElem? (i := 121) rfl))))))), rfl⟩
theorem wd_1322 : (Jvm.Cond.selects "ParlourLeaves$Sentence" ({ cls := "ParlourLeaves$Sentence", name := "copyFrom", desc := "(LParlourLeaves$Sentence;)V" } : Jvm.MethodName) ({ cls := "ParlourLeaves$Sentence", name := "copyFrom", desc := "(LParlourLeaves$Sentence;)V" } : Jvm.MethodName)) ∈ zTB := List.mem_filter.mpr ⟨List.mem_append_right _ (List.mem_append_right _ (List.mem_append_right _ (List.mem_append_right _ (List.mem_append_right _ (List.mem_append_right _ (List.mem_append_left _ (List.mem_of_getElem? (i := 122) rfl))))))), rfl⟩
theorem wd_1323 : (Jvm.Cond.code ({ cls := "ParlourLeaves$Sentence", name := "copyFrom", desc := "(LParlourLeaves$Sentence;)V" } : Jvm.MethodName) prog_10_method_3_code (2 : Nat) (Option.none : Option Jvm.ClassFile.FieldType)) ∈ zTB := List.mem_filter.mpr ⟨List.mem_append_right _ (List.mem_append_right _ (List.mem_append_right _ (List.mem_append_right _ (List.mem_append_right _ (List.mem_append_right _ (List.mem_append_left _ (List.mem_of_getElem? (i := 123) rfl))))))), rfl⟩
theorem wd_1324 : (Jvm.Cond.methodLink "ParlourLeaves$Sentence" (31 : Nat) ({ cls := "java/lang/System", name := "arraycopy", desc := "(Ljava/lang/Object;ILjava/lang/Object;II)V" } : Jvm.MethodName)) ∈ zTB := List.mem_filter.mpr ⟨List.mem_append_right _ (List.mem_append_right _ (List.mem_append_right _ (List.mem_append_right _ (List.mem_append_right _ (List.mem_append_right _ (List.mem_append_left _ (List.mem_of_getElem? (i := 124) rfl))))))), rfl⟩
theorem wd_1361 : (Jvm.Cond.methodLink "ParlourLeaves" (393 : Nat) ({ cls := "ParlourLeaves$Image", name := "keep", desc := "(LParlourLeaves$House;LParlourLeaves$Life;LParlourLeaves$Sentence;)V" } : Jvm.MethodName)) ∈ zTB := List.mem_filter.mpr ⟨List.mem_append_right _ (List.mem_append_right _ (List.mem_append_right _ (List.mem_append_right _ (List.mem_append_right _ (List.mem_append_right _ (List.mem_append_left _ (List.mem_of_getElem? (i := 161) rfl))))))), rfl⟩
theorem wd_1362 : (Jvm.Cond.instanceMethod ({ cls := "ParlourLeaves$Image", name := "keep", desc := "(LParlourLeaves$House;LParlourLeaves$Life;LParlourLeaves$Sentence;)V" } : Jvm.MethodName)) ∈ zTB := List.mem_filter.mpr ⟨List.mem_append_right _ (List.mem_append_right _ (List.mem_append_right _ (List.mem_append_right _ (List.mem_append_right _ (List.mem_append_right _ (List.mem_append_left _ (List.mem_of_getElem? (i := 162) rfl))))))), rfl⟩
theorem wd_1363 : (Jvm.Cond.selects "ParlourLeaves$Image" ({ cls := "ParlourLeaves$Image", name := "keep", desc := "(LParlourLeaves$House;LParlourLeaves$Life;LParlourLeaves$Sentence;)V" } : Jvm.MethodName) ({ cls := "ParlourLeaves$Image", name := "keep", desc := "(LParlourLeaves$House;LParlourLeaves$Life;LParlourLeaves$Sentence;)V" } : Jvm.MethodName)) ∈ zTB := List.mem_filter.mpr ⟨List.mem_append_right _ (List.mem_append_right _ (List.mem_append_right _ (List.mem_append_right _ (List.mem_append_right _ (List.mem_append_right _ (List.mem_append_left _ (List.mem_of_getElem? (i := 163) rfl))))))), rfl⟩
theorem wd_1364 : (Jvm.Cond.code ({ cls := "ParlourLeaves$Image", name := "keep", desc := "(LParlourLeaves$House;LParlourLeaves$Life;LParlourLeaves$Sentence;)V" } : Jvm.MethodName) prog_7_method_2_code (4 : Nat) (Option.none : Option Jvm.ClassFile.FieldType)) ∈ zTB := List.mem_filter.mpr ⟨List.mem_append_right _ (List.mem_append_right _ (List.mem_append_right _ (List.mem_append_right _ (List.mem_append_right _ (List.mem_append_right _ (List.mem_append_left _ (List.mem_of_getElem? (i := 164) rfl))))))), rfl⟩
theorem wd_1365 : (Jvm.Cond.methodLink "ParlourLeaves$Image" (32 : Nat) ({ cls := "ParlourLeaves$House", name := "copyFrom", desc := "(LParlourLeaves$House;)V" } : Jvm.MethodName)) ∈ zTB := List.mem_filter.mpr ⟨List.mem_append_right _ (List.mem_append_right _ (List.mem_append_right _ (List.mem_append_right _ (List.mem_append_right _ (List.mem_append_right _ (List.mem_append_left _ (List.mem_of_getElem? (i := 165) rfl))))))), rfl⟩
theorem wd_1366 : (Jvm.Cond.methodLink "ParlourLeaves$Image" (35 : Nat) ({ cls := "ParlourLeaves$Life", name := "copyFrom", desc := "(LParlourLeaves$Life;)V" } : Jvm.MethodName)) ∈ zTB := List.mem_filter.mpr ⟨List.mem_append_right _ (List.mem_append_right _ (List.mem_append_right _ (List.mem_append_right _ (List.mem_append_right _ (List.mem_append_right _ (List.mem_append_left _ (List.mem_of_getElem? (i := 166) rfl))))))), rfl⟩
theorem wd_1367 : (Jvm.Cond.methodLink "ParlourLeaves$Image" (38 : Nat) ({ cls := "ParlourLeaves$Sentence", name := "copyFrom", desc := "(LParlourLeaves$Sentence;)V" } : Jvm.MethodName)) ∈ zTB := List.mem_filter.mpr ⟨List.mem_append_right _ (List.mem_append_right _ (List.mem_append_right _ (List.mem_append_right _ (List.mem_append_right _ (List.mem_append_right _ (List.mem_append_left _ (List.mem_of_getElem? (i := 167) rfl))))))), rfl⟩
theorem dn_X6_actsShown : zDn yX6_actsShown 1 := ⟨by decide, by decide, by decide +kernel⟩
theorem zb_24 : (Int8.ofInt (24)).toInt32 = (24 : Int32) := by decide
theorem zs_940 : (Int16.ofInt (940)).toInt32 = (940 : Int32) := by decide
theorem zs_255 : (Int16.ofInt (255)).toInt32 = (255 : Int32) := by decide
theorem zc_m8 : Int32.ofInt (-8) = (-8 : Int32) := by decide
theorem dn_X9_addNumber : zDn yX9_addNumber 1 := ⟨by decide, by decide, by decide +kernel⟩
theorem dn_X2_fittingParlours : zDn yX2_fittingParlours 1 := ⟨by decide, by decide, by decide +kernel⟩
theorem dn_X2_plantToAsk : zDn yX2_plantToAsk 1 := ⟨by decide, by decide, by decide +kernel⟩
theorem dn_X6_actsOf : zDn yX6_actsOf 1 := ⟨by decide, by decide, by decide +kernel⟩
theorem dn_X6_actsOfDeed : zDn yX6_actsOfDeed 1 := ⟨by decide, by decide, by decide +kernel⟩
theorem dn_X2_hiddenParlours : zDn yX2_hiddenParlours 1 := ⟨by decide, by decide, by decide +kernel⟩
theorem wsin_X8 : ∀ w ∈ u_ws RX8 TX8 6, w ∈ zTB := (List.forall_mem_cons.mpr ⟨wd_316, (List.forall_mem_cons.mpr ⟨wd_318, (List.forall_mem_cons.mpr ⟨wd_320, (List.forall_mem_cons.mpr ⟨wd_322, (List.forall_mem_cons.mpr ⟨wd_324, (List.forall_mem_cons.mpr ⟨wd_326, (fun _ h => absurd h List.not_mem_nil)⟩)⟩)⟩)⟩)⟩)⟩)
theorem wsin_X5 : ∀ w ∈ u_ws RX5 TX5 4, w ∈ zTB := (List.forall_mem_cons.mpr ⟨wd_337, (List.forall_mem_cons.mpr ⟨wd_339, (List.forall_mem_cons.mpr ⟨wd_341, (List.forall_mem_cons.mpr ⟨wd_343, (fun _ h => absurd h List.not_mem_nil)⟩)⟩)⟩)⟩)
theorem dn_X3_copyFrom : zDn yX3_copyFrom 1 := ⟨by decide, by decide, by decide +kernel⟩
theorem dn_X8_copyFrom : zDn yX8_copyFrom 1 := ⟨by decide, by decide, by decide +kernel⟩
theorem dn_X5_keep : zDn yX5_keep 3 := ⟨by decide, by decide, by decide +kernel⟩
theorem dn_X6_leavesDue : zDn yX6_leavesDue 1 := ⟨by decide, by decide, by decide +kernel⟩
theorem cv_X11_173 : zCV RX11 RX6 173 yX6_actsShown cX6_actsShown 4 (some .int) 1 := ⟨rfl, dn_X6_actsShown, wd_988, wd_754, wd_755, wd_8, wd_756⟩
theorem lq_X11_114 : zLq RX11 114 10 1 .int := ⟨"ParlourLeaves$Tape", RX9, TX9, 11, tyX9, rfl, by decide, wsin_X9, wd_95, rfl, rfl, by decide +kernel, tyX9_ok, nmX9⟩
theorem lk_X11_146 : zLk RX11 146 12 14 := ⟨"ParlourLeaves", RX11, TX11, 17, rfl, by decide, wsin_X11, wd_518, rfl⟩
theorem cv_X11_117 : zCV RX11 RX9 117 yX9_addNumber cX9_addNumber 3 none 1 := ⟨rfl, dn_X9_addNumber, wd_560, wd_561, wd_562, wd_2, wd_563⟩
theorem lk_X2_88 : zLk RX2 88 10 1 := ⟨"ParlourLeaves$Tape", RX9, TX9, 11, rfl, by decide, wsin_X9, wd_97, rfl⟩
theorem lk_X2_93 : zLk RX2 93 10 0 := ⟨"ParlourLeaves$Tape", RX9, TX9, 11, rfl, by decide, wsin_X9, wd_94, rfl⟩
theorem cv_X2_97 : zCV RX2 RX3 97 yX3_has cX3_has 3 (some .boolean) 2 := ⟨rfl, dn_X3_has, wd_909, wd_700, wd_701, wd_7, wd_702⟩
theorem lb_X2_100 : zMa RX2 100 := ⟨wd_914, wd_915, wd_20, wd_916⟩
theorem cv_X11_290 : zCV RX11 RX2 290 yX2_fittingParlours cX2_fittingParlours 6 (some .int) 1 := ⟨rfl, dn_X2_fittingParlours, wd_905, wd_906, wd_907, wd_14, wd_908⟩
theorem cv_X11_295 : zCV RX11 RX2 295 yX2_plantToAsk cX2_plantToAsk 7 (some .int) 1 := ⟨rfl, dn_X2_plantToAsk, wd_910, wd_911, wd_912, wd_14, wd_913⟩
theorem lq_X11_107 : zLq RX11 107 12 15 .int := ⟨"ParlourLeaves", RX11, TX11, 17, tyX11, rfl, by decide, wsin_X11, wd_519, rfl, rfl, by decide +kernel, tyX11_ok, nmX11⟩
theorem cv_X11_223 : zCV RX11 RX6 223 yX6_actsProved cX6_actsProved 3 (some .int) 0 := ⟨rfl, dn_X6_actsProved, wd_715, wd_716, wd_717, wd_8, wd_718⟩
theorem cv_X11_275 : zCV RX11 RX6 275 yX6_actsOf cX6_actsOf 4 (some .int) 1 := ⟨rfl, dn_X6_actsOf, wd_860, wd_861, wd_862, wd_8, wd_863⟩
theorem cv_X11_278 : zCV RX11 RX6 278 yX6_actsOfDeed cX6_actsOfDeed 4 (some .int) 1 := ⟨rfl, dn_X6_actsOfDeed, wd_864, wd_865, wd_866, wd_8, wd_867⟩
theorem cv_X2_54 : zCV RX2 RX6 54 yX6_nextLeafDay cX6_nextLeafDay 2 (some .int) 1 := ⟨rfl, dn_X6_nextLeafDay, wd_887, wd_804, wd_805, wd_8, wd_806⟩
theorem lk_X2_57 : zLk RX2 57 7 1 := ⟨"ParlourLeaves$Life", RX6, TX6, 11, rfl, by decide, wsin_X6, wd_225, rfl⟩
theorem cv_X11_284 : zCV RX11 RX2 284 yX2_hiddenParlours cX2_hiddenParlours 4 (some .int) 1 := ⟨rfl, dn_X2_hiddenParlours, wd_883, wd_884, wd_885, wd_14, wd_886⟩
theorem lb_X3_50 : zCp RX3 50 := ⟨wd_676, wd_678, wd_677, wd_21⟩
theorem lk_X3_18 : zLk RX3 18 4 2 := ⟨"ParlourLeaves$House", RX3, TX3, 12, rfl, by decide, wsin_X3, wd_158, rfl⟩
theorem lk_X3_21 : zLk RX3 21 4 3 := ⟨"ParlourLeaves$House", RX3, TX3, 12, rfl, by decide, wsin_X3, wd_161, rfl⟩
theorem lk_X3_24 : zLk RX3 24 4 4 := ⟨"ParlourLeaves$House", RX3, TX3, 12, rfl, by decide, wsin_X3, wd_165, rfl⟩
theorem lk_X3_27 : zLk RX3 27 4 5 := ⟨"ParlourLeaves$House", RX3, TX3, 12, rfl, by decide, wsin_X3, wd_170, rfl⟩
theorem lk_X3_34 : zLk RX3 34 4 7 := ⟨"ParlourLeaves$House", RX3, TX3, 12, rfl, by decide, wsin_X3, wd_172, rfl⟩
theorem lk_X3_37 : zLk RX3 37 4 8 := ⟨"ParlourLeaves$House", RX3, TX3, 12, rfl, by decide, wsin_X3, wd_174, rfl⟩
theorem lq_X3_47 : zLq RX3 47 4 9 .int := ⟨"ParlourLeaves$House", RX3, TX3, 12, tyX3, rfl, by decide, wsin_X3, wd_176, rfl, rfl, by decide +kernel, tyX3_ok, nmX3⟩
theorem lk_X3_40 : zLk RX3 40 4 10 := ⟨"ParlourLeaves$House", RX3, TX3, 12, rfl, by decide, wsin_X3, wd_177, rfl⟩
theorem lq_X3_40 : zLq RX3 40 4 10 .int := ⟨"ParlourLeaves$House", RX3, TX3, 12, tyX3, rfl, by decide, wsin_X3, wd_177, rfl, rfl, by decide +kernel, tyX3_ok, nmX3⟩
theorem lk_X3_44 : zLk RX3 44 4 11 := ⟨"ParlourLeaves$House", RX3, TX3, 12, rfl, by decide, wsin_X3, wd_182, rfl⟩
theorem lq_X3_44 : zLq RX3 44 4 11 .int := ⟨"ParlourLeaves$House", RX3, TX3, 12, tyX3, rfl, by decide, wsin_X3, wd_182, rfl, rfl, by decide +kernel, tyX3_ok, nmX3⟩
theorem lk_X8_24 : zLk RX8 24 9 4 := ⟨"ParlourLeaves$Sentence", RX8, TX8, 6, rfl, by decide, wsin_X8, wd_313, rfl⟩
theorem lq_X8_24 : zLq RX8 24 9 4 .int := ⟨"ParlourLeaves$Sentence", RX8, TX8, 6, tyX8, rfl, by decide, wsin_X8, wd_313, rfl, rfl, by decide +kernel, tyX8_ok, nmX8⟩
theorem lk_X8_28 : zLk RX8 28 9 5 := ⟨"ParlourLeaves$Sentence", RX8, TX8, 6, rfl, by decide, wsin_X8, wd_314, rfl⟩
theorem lq_X8_28 : zLq RX8 28 9 5 .int := ⟨"ParlourLeaves$Sentence", RX8, TX8, 6, tyX8, rfl, by decide, wsin_X8, wd_314, rfl, rfl, by decide +kernel, tyX8_ok, nmX8⟩
theorem lk_X8_11 : zLk RX8 11 9 0 := ⟨"ParlourLeaves$Sentence", RX8, TX8, 6, rfl, by decide, wsin_X8, wd_309, rfl⟩
theorem lb_X8_31 : zCp RX8 31 := ⟨wd_1324, wd_678, wd_677, wd_21⟩
theorem lk_X8_15 : zLk RX8 15 9 1 := ⟨"ParlourLeaves$Sentence", RX8, TX8, 6, rfl, by decide, wsin_X8, wd_310, rfl⟩
theorem lk_X8_18 : zLk RX8 18 9 2 := ⟨"ParlourLeaves$Sentence", RX8, TX8, 6, rfl, by decide, wsin_X8, wd_311, rfl⟩
theorem lk_X5_10 : zLk RX5 10 6 0 := ⟨"ParlourLeaves$Image", RX5, TX5, 4, rfl, by decide, wsin_X5, wd_329, rfl⟩
theorem cv_X5_32 : zCV RX5 RX3 32 yX3_copyFrom cX3_copyFrom 2 none 1 := ⟨rfl, dn_X3_copyFrom, wd_1365, wd_673, wd_674, wd_7, wd_675⟩
theorem lk_X5_21 : zLk RX5 21 6 1 := ⟨"ParlourLeaves$Image", RX5, TX5, 4, rfl, by decide, wsin_X5, wd_331, rfl⟩
theorem cv_X5_35 : zCV RX5 RX6 35 yX6_copyFrom cX6_copyFrom 3 none 1 := ⟨rfl, dn_X6_copyFrom, wd_1366, wd_793, wd_794, wd_8, wd_795⟩
theorem lk_X5_28 : zLk RX5 28 6 2 := ⟨"ParlourLeaves$Image", RX5, TX5, 4, rfl, by decide, wsin_X5, wd_333, rfl⟩
theorem cv_X5_38 : zCV RX5 RX8 38 yX8_copyFrom cX8_copyFrom 2 none 1 := ⟨rfl, dn_X8_copyFrom, wd_1367, wd_1321, wd_1322, wd_11, wd_1323⟩
theorem lq_X5_41 : zLq RX5 41 6 3 .boolean := ⟨"ParlourLeaves$Image", RX5, TX5, 4, tyX5, rfl, by decide, wsin_X5, wd_335, rfl, rfl, by decide +kernel, tyX5_ok, nmX5⟩
theorem lk_X11_44 : zLk RX11 44 12 5 := ⟨"ParlourLeaves", RX11, TX11, 17, rfl, by decide, wsin_X11, wd_509, rfl⟩
theorem lk_X11_70 : zLk RX11 70 12 8 := ⟨"ParlourLeaves", RX11, TX11, 17, rfl, by decide, wsin_X11, wd_512, rfl⟩
theorem cv_X11_393 : zCV RX11 RX5 393 yX5_keep cX5_keep 4 none 3 := ⟨rfl, dn_X5_keep, wd_1361, wd_1362, wd_1363, wd_10, wd_1364⟩
theorem cv_X6_123 : zCV RX6 RX6 123 yX6_actsShown cX6_actsShown 4 (some .int) 1 := ⟨rfl, dn_X6_actsShown, wd_753, wd_754, wd_755, wd_8, wd_756⟩
theorem cv_X6_126 : zCV RX6 RX6 126 yX6_leavesDue cX6_leavesDue 4 (some .int) 1 := ⟨rfl, dn_X6_leavesDue, wd_761, wd_762, wd_763, wd_8, wd_764⟩
theorem cv_X6_120 : zCN RX6 "ParlourLeaves" 120 yX11_allBits cX11_allBits 1 (some .int) 1 := ⟨dn_X11_allBits, (List.mem_of_getElem? (i := 10) rfl), wd_778, wd_1, wd_779⟩
theorem dX6_actsShown_0 : decode cX6_actsShown 0 = .ok (.iconst 0, 1) := by decide +kernel
theorem dX6_actsShown_1 : decode cX6_actsShown 1 = .ok (.istore_n 2, 1) := by decide +kernel
theorem dX6_actsShown_2 : decode cX6_actsShown 2 = .ok (.iconst 0, 1) := by decide +kernel
theorem dX6_actsShown_3 : decode cX6_actsShown 3 = .ok (.istore_n 3, 1) := by decide +kernel
theorem dX6_actsShown_4 : decode cX6_actsShown 4 = .ok (.iload_n 3, 1) := by decide +kernel
theorem dX6_actsShown_5 : decode cX6_actsShown 5 = .ok (.aload_n 0, 1) := by decide +kernel
theorem dX6_actsShown_6 : decode cX6_actsShown 6 = .ok (.getfield 46, 3) := by decide +kernel
theorem dX6_actsShown_9 : decode cX6_actsShown 9 = .ok (.if_icmp .ge 42, 3) := by decide +kernel
theorem dX6_actsShown_12 : decode cX6_actsShown 12 = .ok (.aload_n 0, 1) := by decide +kernel
theorem dX6_actsShown_13 : decode cX6_actsShown 13 = .ok (.getfield 26, 3) := by decide +kernel
theorem dX6_actsShown_16 : decode cX6_actsShown 16 = .ok (.iload_n 1, 1) := by decide +kernel
theorem dX6_actsShown_17 : decode cX6_actsShown 17 = .ok (.aaload, 1) := by decide +kernel
theorem dX6_actsShown_18 : decode cX6_actsShown 18 = .ok (.iload_n 3, 1) := by decide +kernel
theorem dX6_actsShown_19 : decode cX6_actsShown 19 = .ok (.iaload, 1) := by decide +kernel
theorem dX6_actsShown_20 : decode cX6_actsShown 20 = .ok (.iconst (-1), 1) := by decide +kernel
theorem dX6_actsShown_21 : decode cX6_actsShown 21 = .ok (.if_icmp .eq 24, 3) := by decide +kernel
theorem dX6_actsShown_24 : decode cX6_actsShown 24 = .ok (.aload_n 0, 1) := by decide +kernel
theorem dX6_actsShown_25 : decode cX6_actsShown 25 = .ok (.getfield 26, 3) := by decide +kernel
theorem dX6_actsShown_28 : decode cX6_actsShown 28 = .ok (.iload_n 1, 1) := by decide +kernel
theorem dX6_actsShown_29 : decode cX6_actsShown 29 = .ok (.aaload, 1) := by decide +kernel
theorem dX6_actsShown_30 : decode cX6_actsShown 30 = .ok (.iload_n 3, 1) := by decide +kernel
theorem dX6_actsShown_31 : decode cX6_actsShown 31 = .ok (.iaload, 1) := by decide +kernel
theorem dX6_actsShown_32 : decode cX6_actsShown 32 = .ok (.aload_n 0, 1) := by decide +kernel
theorem dX6_actsShown_33 : decode cX6_actsShown 33 = .ok (.getfield 42, 3) := by decide +kernel
theorem dX6_actsShown_36 : decode cX6_actsShown 36 = .ok (.if_icmp .gt 9, 3) := by decide +kernel
theorem dX6_actsShown_39 : decode cX6_actsShown 39 = .ok (.iload_n 2, 1) := by decide +kernel
theorem dX6_actsShown_40 : decode cX6_actsShown 40 = .ok (.iconst 1, 1) := by decide +kernel
theorem dX6_actsShown_41 : decode cX6_actsShown 41 = .ok (.iload_n 3, 1) := by decide +kernel
theorem dX6_actsShown_42 : decode cX6_actsShown 42 = .ok (.ishl, 1) := by decide +kernel
theorem dX6_actsShown_43 : decode cX6_actsShown 43 = .ok (.ior, 1) := by decide +kernel
theorem dX6_actsShown_44 : decode cX6_actsShown 44 = .ok (.istore_n 2, 1) := by decide +kernel
theorem dX6_actsShown_45 : decode cX6_actsShown 45 = .ok (.iinc 3 1, 3) := by decide +kernel
theorem dX6_actsShown_48 : decode cX6_actsShown 48 = .ok (.goto (-44), 3) := by decide +kernel
theorem dX6_actsShown_51 : decode cX6_actsShown 51 = .ok (.iload_n 2, 1) := by decide +kernel
theorem dX6_actsShown_52 : decode cX6_actsShown 52 = .ok (.ireturn, 1) := by decide +kernel
theorem dX11_elder_0 : decode cX11_elder 0 = .ok (.iconst (-1), 1) := by decide +kernel
theorem dX11_elder_1 : decode cX11_elder 1 = .ok (.istore_n 1, 1) := by decide +kernel
theorem dX11_elder_2 : decode cX11_elder 2 = .ok (.iconst 0, 1) := by decide +kernel
theorem dX11_elder_3 : decode cX11_elder 3 = .ok (.istore_n 2, 1) := by decide +kernel
theorem dX11_elder_4 : decode cX11_elder 4 = .ok (.iconst 0, 1) := by decide +kernel
theorem dX11_elder_5 : decode cX11_elder 5 = .ok (.istore_n 3, 1) := by decide +kernel
theorem dX11_elder_6 : decode cX11_elder 6 = .ok (.iload_n 3, 1) := by decide +kernel
theorem dX11_elder_7 : decode cX11_elder 7 = .ok (.aload_n 0, 1) := by decide +kernel
theorem dX11_elder_8 : decode cX11_elder 8 = .ok (.getfield 19, 3) := by decide +kernel
theorem dX11_elder_11 : decode cX11_elder 11 = .ok (.getfield 312, 3) := by decide +kernel
theorem dX11_elder_14 : decode cX11_elder 14 = .ok (.iconst 1, 1) := by decide +kernel
theorem dX11_elder_15 : decode cX11_elder 15 = .ok (.iaload, 1) := by decide +kernel
theorem dX11_elder_16 : decode cX11_elder 16 = .ok (.if_icmp .ge 33, 3) := by decide +kernel
theorem dX11_elder_19 : decode cX11_elder 19 = .ok (.aload_n 0, 1) := by decide +kernel
theorem dX11_elder_20 : decode cX11_elder 20 = .ok (.getfield 28, 3) := by decide +kernel
theorem dX11_elder_23 : decode cX11_elder 23 = .ok (.iload_n 3, 1) := by decide +kernel
theorem dX11_elder_24 : decode cX11_elder 24 = .ok (.invokevirtual 173, 3) := by decide +kernel
theorem dX11_elder_27 : decode cX11_elder 27 = .ok (.invokestatic 176, 3) := by decide +kernel
theorem dX11_elder_30 : decode cX11_elder 30 = .ok (.istore 4, 2) := by decide +kernel
theorem dX11_elder_32 : decode cX11_elder 32 = .ok (.iload 4, 2) := by decide +kernel
theorem dX11_elder_34 : decode cX11_elder 34 = .ok (.iload_n 2, 1) := by decide +kernel
theorem dX11_elder_35 : decode cX11_elder 35 = .ok (.if_icmp .le 8, 3) := by decide +kernel
theorem dX11_elder_38 : decode cX11_elder 38 = .ok (.iload 4, 2) := by decide +kernel
theorem dX11_elder_40 : decode cX11_elder 40 = .ok (.istore_n 2, 1) := by decide +kernel
theorem dX11_elder_41 : decode cX11_elder 41 = .ok (.iload_n 3, 1) := by decide +kernel
theorem dX11_elder_42 : decode cX11_elder 42 = .ok (.istore_n 1, 1) := by decide +kernel
theorem dX11_elder_43 : decode cX11_elder 43 = .ok (.iinc 3 1, 3) := by decide +kernel
theorem dX11_elder_46 : decode cX11_elder 46 = .ok (.goto (-40), 3) := by decide +kernel
theorem dX11_elder_49 : decode cX11_elder 49 = .ok (.iload_n 1, 1) := by decide +kernel
theorem dX11_elder_50 : decode cX11_elder 50 = .ok (.ireturn, 1) := by decide +kernel
theorem dX11_end_0 : decode cX11_end 0 = .ok (.iload_n 1, 1) := by decide +kernel
theorem dX11_end_1 : decode cX11_end 1 = .ok (.ifCond .lt 14, 3) := by decide +kernel
theorem dX11_end_4 : decode cX11_end 4 = .ok (.iload_n 1, 1) := by decide +kernel
theorem dX11_end_5 : decode cX11_end 5 = .ok (.aload_n 0, 1) := by decide +kernel
theorem dX11_end_6 : decode cX11_end 6 = .ok (.getfield 10, 3) := by decide +kernel
theorem dX11_end_9 : decode cX11_end 9 = .ok (.getfield 114, 3) := by decide +kernel
theorem dX11_end_12 : decode cX11_end 12 = .ok (.if_icmp .le 5, 3) := by decide +kernel
theorem dX11_end_15 : decode cX11_end 15 = .ok (.iconst 0, 1) := by decide +kernel
theorem dX11_end_16 : decode cX11_end 16 = .ok (.ireturn, 1) := by decide +kernel
theorem dX11_end_17 : decode cX11_end 17 = .ok (.aload_n 0, 1) := by decide +kernel
theorem dX11_end_18 : decode cX11_end 18 = .ok (.getfield 10, 3) := by decide +kernel
theorem dX11_end_21 : decode cX11_end 21 = .ok (.iload_n 1, 1) := by decide +kernel
theorem dX11_end_22 : decode cX11_end 22 = .ok (.putfield 114, 3) := by decide +kernel
theorem dX11_end_25 : decode cX11_end 25 = .ok (.iconst 1, 1) := by decide +kernel
theorem dX11_end_26 : decode cX11_end 26 = .ok (.ireturn, 1) := by decide +kernel
theorem dX11_fault_0 : decode cX11_fault 0 = .ok (.aload_n 0, 1) := by decide +kernel
theorem dX11_fault_1 : decode cX11_fault 1 = .ok (.getfield 146, 3) := by decide +kernel
theorem dX11_fault_4 : decode cX11_fault 4 = .ok (.ireturn, 1) := by decide +kernel
theorem dX9_addNumber_0 : decode cX9_addNumber 0 = .ok (.bipush 24, 2) := by decide +kernel
theorem dX9_addNumber_2 : decode cX9_addNumber 2 = .ok (.istore_n 2, 1) := by decide +kernel
theorem dX9_addNumber_3 : decode cX9_addNumber 3 = .ok (.iload_n 2, 1) := by decide +kernel
theorem dX9_addNumber_4 : decode cX9_addNumber 4 = .ok (.ifCond .lt 46, 3) := by decide +kernel
theorem dX9_addNumber_7 : decode cX9_addNumber 7 = .ok (.aload_n 0, 1) := by decide +kernel
theorem dX9_addNumber_8 : decode cX9_addNumber 8 = .ok (.getfield 31, 3) := by decide +kernel
theorem dX9_addNumber_11 : decode cX9_addNumber 11 = .ok (.sipush 940, 3) := by decide +kernel
theorem dX9_addNumber_14 : decode cX9_addNumber 14 = .ok (.if_icmp .ge 36, 3) := by decide +kernel
theorem dX9_addNumber_17 : decode cX9_addNumber 17 = .ok (.aload_n 0, 1) := by decide +kernel
theorem dX9_addNumber_18 : decode cX9_addNumber 18 = .ok (.getfield 9, 3) := by decide +kernel
theorem dX9_addNumber_21 : decode cX9_addNumber 21 = .ok (.aload_n 0, 1) := by decide +kernel
theorem dX9_addNumber_22 : decode cX9_addNumber 22 = .ok (.getfield 31, 3) := by decide +kernel
theorem dX9_addNumber_25 : decode cX9_addNumber 25 = .ok (.iload_n 1, 1) := by decide +kernel
theorem dX9_addNumber_26 : decode cX9_addNumber 26 = .ok (.iload_n 2, 1) := by decide +kernel
theorem dX9_addNumber_27 : decode cX9_addNumber 27 = .ok (.iushr, 1) := by decide +kernel
theorem dX9_addNumber_28 : decode cX9_addNumber 28 = .ok (.sipush 255, 3) := by decide +kernel
theorem dX9_addNumber_31 : decode cX9_addNumber 31 = .ok (.iand, 1) := by decide +kernel
theorem dX9_addNumber_32 : decode cX9_addNumber 32 = .ok (.i2c, 1) := by decide +kernel
theorem dX9_addNumber_33 : decode cX9_addNumber 33 = .ok (.castore, 1) := by decide +kernel
theorem dX9_addNumber_34 : decode cX9_addNumber 34 = .ok (.aload_n 0, 1) := by decide +kernel
theorem dX9_addNumber_35 : decode cX9_addNumber 35 = .ok (.dup, 1) := by decide +kernel
theorem dX9_addNumber_36 : decode cX9_addNumber 36 = .ok (.getfield 31, 3) := by decide +kernel
theorem dX9_addNumber_39 : decode cX9_addNumber 39 = .ok (.iconst 1, 1) := by decide +kernel
theorem dX9_addNumber_40 : decode cX9_addNumber 40 = .ok (.iadd, 1) := by decide +kernel
theorem dX9_addNumber_41 : decode cX9_addNumber 41 = .ok (.putfield 31, 3) := by decide +kernel
theorem dX9_addNumber_44 : decode cX9_addNumber 44 = .ok (.iinc 2 (-8), 3) := by decide +kernel
theorem dX9_addNumber_47 : decode cX9_addNumber 47 = .ok (.goto (-44), 3) := by decide +kernel
theorem dX9_addNumber_50 : decode cX9_addNumber 50 = .ok (.return_, 1) := by decide +kernel
theorem dX11_feed_0 : decode cX11_feed 0 = .ok (.aload_n 0, 1) := by decide +kernel
theorem dX11_feed_1 : decode cX11_feed 1 = .ok (.getfield 10, 3) := by decide +kernel
theorem dX11_feed_4 : decode cX11_feed 4 = .ok (.getfield 114, 3) := by decide +kernel
theorem dX11_feed_7 : decode cX11_feed 7 = .ok (.bipush 20, 2) := by decide +kernel
theorem dX11_feed_9 : decode cX11_feed 9 = .ok (.iadd, 1) := by decide +kernel
theorem dX11_feed_10 : decode cX11_feed 10 = .ok (.sipush 940, 3) := by decide +kernel
theorem dX11_feed_13 : decode cX11_feed 13 = .ok (.if_icmp .le 5, 3) := by decide +kernel
theorem dX11_feed_16 : decode cX11_feed 16 = .ok (.iconst (-1), 1) := by decide +kernel
theorem dX11_feed_17 : decode cX11_feed 17 = .ok (.ireturn, 1) := by decide +kernel
theorem dX11_feed_18 : decode cX11_feed 18 = .ok (.aload_n 0, 1) := by decide +kernel
theorem dX11_feed_19 : decode cX11_feed 19 = .ok (.getfield 10, 3) := by decide +kernel
theorem dX11_feed_22 : decode cX11_feed 22 = .ok (.iload_n 1, 1) := by decide +kernel
theorem dX11_feed_23 : decode cX11_feed 23 = .ok (.invokevirtual 117, 3) := by decide +kernel
theorem dX11_feed_26 : decode cX11_feed 26 = .ok (.aload_n 0, 1) := by decide +kernel
theorem dX11_feed_27 : decode cX11_feed 27 = .ok (.getfield 10, 3) := by decide +kernel
theorem dX11_feed_30 : decode cX11_feed 30 = .ok (.iload_n 2, 1) := by decide +kernel
theorem dX11_feed_31 : decode cX11_feed 31 = .ok (.invokevirtual 117, 3) := by decide +kernel
theorem dX11_feed_34 : decode cX11_feed 34 = .ok (.aload_n 0, 1) := by decide +kernel
theorem dX11_feed_35 : decode cX11_feed 35 = .ok (.getfield 10, 3) := by decide +kernel
theorem dX11_feed_38 : decode cX11_feed 38 = .ok (.iload_n 3, 1) := by decide +kernel
theorem dX11_feed_39 : decode cX11_feed 39 = .ok (.invokevirtual 117, 3) := by decide +kernel
theorem dX11_feed_42 : decode cX11_feed 42 = .ok (.aload_n 0, 1) := by decide +kernel
theorem dX11_feed_43 : decode cX11_feed 43 = .ok (.getfield 10, 3) := by decide +kernel
theorem dX11_feed_46 : decode cX11_feed 46 = .ok (.iload 4, 2) := by decide +kernel
theorem dX11_feed_48 : decode cX11_feed 48 = .ok (.invokevirtual 117, 3) := by decide +kernel
theorem dX11_feed_51 : decode cX11_feed 51 = .ok (.aload_n 0, 1) := by decide +kernel
theorem dX11_feed_52 : decode cX11_feed 52 = .ok (.getfield 10, 3) := by decide +kernel
theorem dX11_feed_55 : decode cX11_feed 55 = .ok (.iload 5, 2) := by decide +kernel
theorem dX11_feed_57 : decode cX11_feed 57 = .ok (.invokevirtual 117, 3) := by decide +kernel
theorem dX11_feed_60 : decode cX11_feed 60 = .ok (.aload_n 0, 1) := by decide +kernel
theorem dX11_feed_61 : decode cX11_feed 61 = .ok (.getfield 10, 3) := by decide +kernel
theorem dX11_feed_64 : decode cX11_feed 64 = .ok (.getfield 114, 3) := by decide +kernel
theorem dX11_feed_67 : decode cX11_feed 67 = .ok (.ireturn, 1) := by decide +kernel
theorem dX2_fittingParlours_0 : decode cX2_fittingParlours 0 = .ok (.aload_n 1, 1) := by decide +kernel
theorem dX2_fittingParlours_1 : decode cX2_fittingParlours 1 = .ok (.getfield 88, 3) := by decide +kernel
theorem dX2_fittingParlours_4 : decode cX2_fittingParlours 4 = .ok (.iconst 2, 1) := by decide +kernel
theorem dX2_fittingParlours_5 : decode cX2_fittingParlours 5 = .ok (.if_icmp .lt 21, 3) := by decide +kernel
theorem dX2_fittingParlours_8 : decode cX2_fittingParlours 8 = .ok (.aload_n 1, 1) := by decide +kernel
theorem dX2_fittingParlours_9 : decode cX2_fittingParlours 9 = .ok (.getfield 88, 3) := by decide +kernel
theorem dX2_fittingParlours_12 : decode cX2_fittingParlours 12 = .ok (.bipush 12, 2) := by decide +kernel
theorem dX2_fittingParlours_14 : decode cX2_fittingParlours 14 = .ok (.if_icmp .gt 12, 3) := by decide +kernel
theorem dX2_fittingParlours_17 : decode cX2_fittingParlours 17 = .ok (.aload_n 1, 1) := by decide +kernel
theorem dX2_fittingParlours_18 : decode cX2_fittingParlours 18 = .ok (.getfield 88, 3) := by decide +kernel
theorem dX2_fittingParlours_21 : decode cX2_fittingParlours 21 = .ok (.iconst 2, 1) := by decide +kernel
theorem dX2_fittingParlours_22 : decode cX2_fittingParlours 22 = .ok (.irem, 1) := by decide +kernel
theorem dX2_fittingParlours_23 : decode cX2_fittingParlours 23 = .ok (.ifCond .eq 5, 3) := by decide +kernel
theorem dX2_fittingParlours_26 : decode cX2_fittingParlours 26 = .ok (.iconst (-1), 1) := by decide +kernel
theorem dX2_fittingParlours_27 : decode cX2_fittingParlours 27 = .ok (.ireturn, 1) := by decide +kernel
theorem dX2_fittingParlours_28 : decode cX2_fittingParlours 28 = .ok (.aload_n 0, 1) := by decide +kernel
theorem dX2_fittingParlours_29 : decode cX2_fittingParlours 29 = .ok (.getfield 21, 3) := by decide +kernel
theorem dX2_fittingParlours_32 : decode cX2_fittingParlours 32 = .ok (.getfield 63, 3) := by decide +kernel
theorem dX2_fittingParlours_35 : decode cX2_fittingParlours 35 = .ok (.iconst 0, 1) := by decide +kernel
theorem dX2_fittingParlours_36 : decode cX2_fittingParlours 36 = .ok (.iaload, 1) := by decide +kernel
theorem dX2_fittingParlours_37 : decode cX2_fittingParlours 37 = .ok (.invokestatic 67, 3) := by decide +kernel
theorem dX2_fittingParlours_40 : decode cX2_fittingParlours 40 = .ok (.istore_n 2, 1) := by decide +kernel
theorem dX2_fittingParlours_41 : decode cX2_fittingParlours 41 = .ok (.iconst 0, 1) := by decide +kernel
theorem dX2_fittingParlours_42 : decode cX2_fittingParlours 42 = .ok (.istore_n 3, 1) := by decide +kernel
theorem dX2_fittingParlours_43 : decode cX2_fittingParlours 43 = .ok (.iload_n 3, 1) := by decide +kernel
theorem dX2_fittingParlours_44 : decode cX2_fittingParlours 44 = .ok (.iconst 1, 1) := by decide +kernel
theorem dX2_fittingParlours_45 : decode cX2_fittingParlours 45 = .ok (.iadd, 1) := by decide +kernel
theorem dX2_fittingParlours_46 : decode cX2_fittingParlours 46 = .ok (.aload_n 1, 1) := by decide +kernel
theorem dX2_fittingParlours_47 : decode cX2_fittingParlours 47 = .ok (.getfield 88, 3) := by decide +kernel
theorem dX2_fittingParlours_50 : decode cX2_fittingParlours 50 = .ok (.if_icmp .ge 80, 3) := by decide +kernel
theorem dX2_fittingParlours_53 : decode cX2_fittingParlours 53 = .ok (.aload_n 1, 1) := by decide +kernel
theorem dX2_fittingParlours_54 : decode cX2_fittingParlours 54 = .ok (.getfield 93, 3) := by decide +kernel
theorem dX2_fittingParlours_57 : decode cX2_fittingParlours 57 = .ok (.iload_n 3, 1) := by decide +kernel
theorem dX2_fittingParlours_58 : decode cX2_fittingParlours 58 = .ok (.caload, 1) := by decide +kernel
theorem dX2_fittingParlours_59 : decode cX2_fittingParlours 59 = .ok (.istore 4, 2) := by decide +kernel
theorem dX2_fittingParlours_61 : decode cX2_fittingParlours 61 = .ok (.aload_n 1, 1) := by decide +kernel
theorem dX2_fittingParlours_62 : decode cX2_fittingParlours 62 = .ok (.getfield 93, 3) := by decide +kernel
theorem dX2_fittingParlours_65 : decode cX2_fittingParlours 65 = .ok (.iload_n 3, 1) := by decide +kernel
theorem dX2_fittingParlours_66 : decode cX2_fittingParlours 66 = .ok (.iconst 1, 1) := by decide +kernel
theorem dX2_fittingParlours_67 : decode cX2_fittingParlours 67 = .ok (.iadd, 1) := by decide +kernel
theorem dX2_fittingParlours_68 : decode cX2_fittingParlours 68 = .ok (.caload, 1) := by decide +kernel
theorem dX2_fittingParlours_69 : decode cX2_fittingParlours 69 = .ok (.istore 5, 2) := by decide +kernel
theorem dX2_fittingParlours_71 : decode cX2_fittingParlours 71 = .ok (.aload_n 0, 1) := by decide +kernel
theorem dX2_fittingParlours_72 : decode cX2_fittingParlours 72 = .ok (.getfield 21, 3) := by decide +kernel
theorem dX2_fittingParlours_75 : decode cX2_fittingParlours 75 = .ok (.iconst 1, 1) := by decide +kernel
theorem dX2_fittingParlours_76 : decode cX2_fittingParlours 76 = .ok (.iload 4, 2) := by decide +kernel
theorem dX2_fittingParlours_78 : decode cX2_fittingParlours 78 = .ok (.invokevirtual 97, 3) := by decide +kernel
theorem dX2_fittingParlours_81 : decode cX2_fittingParlours 81 = .ok (.ifCond .eq 9, 3) := by decide +kernel
theorem dX2_fittingParlours_84 : decode cX2_fittingParlours 84 = .ok (.iload 5, 2) := by decide +kernel
theorem dX2_fittingParlours_86 : decode cX2_fittingParlours 86 = .ok (.iconst 1, 1) := by decide +kernel
theorem dX2_fittingParlours_87 : decode cX2_fittingParlours 87 = .ok (.if_icmp .le 5, 3) := by decide +kernel
theorem dX2_fittingParlours_90 : decode cX2_fittingParlours 90 = .ok (.iconst (-1), 1) := by decide +kernel
theorem dX2_fittingParlours_91 : decode cX2_fittingParlours 91 = .ok (.ireturn, 1) := by decide +kernel
theorem dX2_fittingParlours_92 : decode cX2_fittingParlours 92 = .ok (.iload_n 2, 1) := by decide +kernel
theorem dX2_fittingParlours_93 : decode cX2_fittingParlours 93 = .ok (.iload 5, 2) := by decide +kernel
theorem dX2_fittingParlours_95 : decode cX2_fittingParlours 95 = .ok (.iconst 1, 1) := by decide +kernel
theorem dX2_fittingParlours_96 : decode cX2_fittingParlours 96 = .ok (.if_icmp .ne 15, 3) := by decide +kernel
theorem dX2_fittingParlours_99 : decode cX2_fittingParlours 99 = .ok (.aload_n 0, 1) := by decide +kernel
theorem dX2_fittingParlours_100 : decode cX2_fittingParlours 100 = .ok (.getfield 25, 3) := by decide +kernel
theorem dX2_fittingParlours_103 : decode cX2_fittingParlours 103 = .ok (.iload 4, 2) := by decide +kernel
theorem dX2_fittingParlours_105 : decode cX2_fittingParlours 105 = .ok (.invokevirtual 60, 3) := by decide +kernel
theorem dX2_fittingParlours_108 : decode cX2_fittingParlours 108 = .ok (.goto 14, 3) := by decide +kernel
theorem dX2_fittingParlours_111 : decode cX2_fittingParlours 111 = .ok (.aload_n 0, 1) := by decide +kernel
theorem dX2_fittingParlours_112 : decode cX2_fittingParlours 112 = .ok (.getfield 25, 3) := by decide +kernel
theorem dX2_fittingParlours_115 : decode cX2_fittingParlours 115 = .ok (.iload 4, 2) := by decide +kernel
theorem dX2_fittingParlours_117 : decode cX2_fittingParlours 117 = .ok (.invokevirtual 60, 3) := by decide +kernel
theorem dX2_fittingParlours_120 : decode cX2_fittingParlours 120 = .ok (.iconst (-1), 1) := by decide +kernel
theorem dX2_fittingParlours_121 : decode cX2_fittingParlours 121 = .ok (.ixor, 1) := by decide +kernel
theorem dX2_fittingParlours_122 : decode cX2_fittingParlours 122 = .ok (.iand, 1) := by decide +kernel
theorem dX2_fittingParlours_123 : decode cX2_fittingParlours 123 = .ok (.istore_n 2, 1) := by decide +kernel
theorem dX2_fittingParlours_124 : decode cX2_fittingParlours 124 = .ok (.iinc 3 2, 3) := by decide +kernel
theorem dX2_fittingParlours_127 : decode cX2_fittingParlours 127 = .ok (.goto (-84), 3) := by decide +kernel
theorem dX2_fittingParlours_130 : decode cX2_fittingParlours 130 = .ok (.iload_n 2, 1) := by decide +kernel
theorem dX2_fittingParlours_131 : decode cX2_fittingParlours 131 = .ok (.ireturn, 1) := by decide +kernel
theorem dX2_plantToAsk_0 : decode cX2_plantToAsk 0 = .ok (.iconst (-1), 1) := by decide +kernel
theorem dX2_plantToAsk_1 : decode cX2_plantToAsk 1 = .ok (.istore_n 2, 1) := by decide +kernel
theorem dX2_plantToAsk_2 : decode cX2_plantToAsk 2 = .ok (.bipush 6, 2) := by decide +kernel
theorem dX2_plantToAsk_4 : decode cX2_plantToAsk 4 = .ok (.istore_n 3, 1) := by decide +kernel
theorem dX2_plantToAsk_5 : decode cX2_plantToAsk 5 = .ok (.iconst 0, 1) := by decide +kernel
theorem dX2_plantToAsk_6 : decode cX2_plantToAsk 6 = .ok (.istore 4, 2) := by decide +kernel
theorem dX2_plantToAsk_8 : decode cX2_plantToAsk 8 = .ok (.iload 4, 2) := by decide +kernel
theorem dX2_plantToAsk_10 : decode cX2_plantToAsk 10 = .ok (.aload_n 0, 1) := by decide +kernel
theorem dX2_plantToAsk_11 : decode cX2_plantToAsk 11 = .ok (.getfield 25, 3) := by decide +kernel
theorem dX2_plantToAsk_14 : decode cX2_plantToAsk 14 = .ok (.invokevirtual 29, 3) := by decide +kernel
theorem dX2_plantToAsk_17 : decode cX2_plantToAsk 17 = .ok (.if_icmp .ge 51, 3) := by decide +kernel
theorem dX2_plantToAsk_20 : decode cX2_plantToAsk 20 = .ok (.iload_n 1, 1) := by decide +kernel
theorem dX2_plantToAsk_21 : decode cX2_plantToAsk 21 = .ok (.aload_n 0, 1) := by decide +kernel
theorem dX2_plantToAsk_22 : decode cX2_plantToAsk 22 = .ok (.getfield 25, 3) := by decide +kernel
theorem dX2_plantToAsk_25 : decode cX2_plantToAsk 25 = .ok (.iload 4, 2) := by decide +kernel
theorem dX2_plantToAsk_27 : decode cX2_plantToAsk 27 = .ok (.invokevirtual 60, 3) := by decide +kernel
theorem dX2_plantToAsk_30 : decode cX2_plantToAsk 30 = .ok (.iand, 1) := by decide +kernel
theorem dX2_plantToAsk_31 : decode cX2_plantToAsk 31 = .ok (.invokestatic 43, 3) := by decide +kernel
theorem dX2_plantToAsk_34 : decode cX2_plantToAsk 34 = .ok (.istore 5, 2) := by decide +kernel
theorem dX2_plantToAsk_36 : decode cX2_plantToAsk 36 = .ok (.iconst 2, 1) := by decide +kernel
theorem dX2_plantToAsk_37 : decode cX2_plantToAsk 37 = .ok (.iload 5, 2) := by decide +kernel
theorem dX2_plantToAsk_39 : decode cX2_plantToAsk 39 = .ok (.imul, 1) := by decide +kernel
theorem dX2_plantToAsk_40 : decode cX2_plantToAsk 40 = .ok (.iload_n 1, 1) := by decide +kernel
theorem dX2_plantToAsk_41 : decode cX2_plantToAsk 41 = .ok (.invokestatic 43, 3) := by decide +kernel
theorem dX2_plantToAsk_44 : decode cX2_plantToAsk 44 = .ok (.isub, 1) := by decide +kernel
theorem dX2_plantToAsk_45 : decode cX2_plantToAsk 45 = .ok (.invokestatic 100, 3) := by decide +kernel
theorem dX2_plantToAsk_48 : decode cX2_plantToAsk 48 = .ok (.istore 6, 2) := by decide +kernel
theorem dX2_plantToAsk_50 : decode cX2_plantToAsk 50 = .ok (.iload 6, 2) := by decide +kernel
theorem dX2_plantToAsk_52 : decode cX2_plantToAsk 52 = .ok (.iload_n 3, 1) := by decide +kernel
theorem dX2_plantToAsk_53 : decode cX2_plantToAsk 53 = .ok (.if_icmp .ge 9, 3) := by decide +kernel
theorem dX2_plantToAsk_56 : decode cX2_plantToAsk 56 = .ok (.iload 6, 2) := by decide +kernel
theorem dX2_plantToAsk_58 : decode cX2_plantToAsk 58 = .ok (.istore_n 3, 1) := by decide +kernel
theorem dX2_plantToAsk_59 : decode cX2_plantToAsk 59 = .ok (.iload 4, 2) := by decide +kernel
theorem dX2_plantToAsk_61 : decode cX2_plantToAsk 61 = .ok (.istore_n 2, 1) := by decide +kernel
theorem dX2_plantToAsk_62 : decode cX2_plantToAsk 62 = .ok (.iinc 4 1, 3) := by decide +kernel
theorem dX2_plantToAsk_65 : decode cX2_plantToAsk 65 = .ok (.goto (-57), 3) := by decide +kernel
theorem dX2_plantToAsk_68 : decode cX2_plantToAsk 68 = .ok (.iload_n 2, 1) := by decide +kernel
theorem dX2_plantToAsk_69 : decode cX2_plantToAsk 69 = .ok (.ireturn, 1) := by decide +kernel
theorem dX11_fits_0 : decode cX11_fits 0 = .ok (.aload_n 0, 1) := by decide +kernel
theorem dX11_fits_1 : decode cX11_fits 1 = .ok (.getfield 82, 3) := by decide +kernel
theorem dX11_fits_4 : decode cX11_fits 4 = .ok (.aload_n 0, 1) := by decide +kernel
theorem dX11_fits_5 : decode cX11_fits 5 = .ok (.getfield 10, 3) := by decide +kernel
theorem dX11_fits_8 : decode cX11_fits 8 = .ok (.invokevirtual 290, 3) := by decide +kernel
theorem dX11_fits_11 : decode cX11_fits 11 = .ok (.istore_n 1, 1) := by decide +kernel
theorem dX11_fits_12 : decode cX11_fits 12 = .ok (.aload_n 0, 1) := by decide +kernel
theorem dX11_fits_13 : decode cX11_fits 13 = .ok (.getfield 10, 3) := by decide +kernel
theorem dX11_fits_16 : decode cX11_fits 16 = .ok (.invokevirtual 294, 3) := by decide +kernel
theorem dX11_fits_19 : decode cX11_fits 19 = .ok (.iload_n 1, 1) := by decide +kernel
theorem dX11_fits_20 : decode cX11_fits 20 = .ok (.ifCond .le 15, 3) := by decide +kernel
theorem dX11_fits_23 : decode cX11_fits 23 = .ok (.aload_n 0, 1) := by decide +kernel
theorem dX11_fits_24 : decode cX11_fits 24 = .ok (.aload_n 0, 1) := by decide +kernel
theorem dX11_fits_25 : decode cX11_fits 25 = .ok (.getfield 82, 3) := by decide +kernel
theorem dX11_fits_28 : decode cX11_fits 28 = .ok (.iload_n 1, 1) := by decide +kernel
theorem dX11_fits_29 : decode cX11_fits 29 = .ok (.invokevirtual 295, 3) := by decide +kernel
theorem dX11_fits_32 : decode cX11_fits 32 = .ok (.putfield 107, 3) := by decide +kernel
theorem dX11_fits_35 : decode cX11_fits 35 = .ok (.iload_n 1, 1) := by decide +kernel
theorem dX11_fits_36 : decode cX11_fits 36 = .ok (.ireturn, 1) := by decide +kernel
theorem dX6_actsOf_0 : decode cX6_actsOf 0 = .ok (.iconst 0, 1) := by decide +kernel
theorem dX6_actsOf_1 : decode cX6_actsOf 1 = .ok (.istore_n 2, 1) := by decide +kernel
theorem dX6_actsOf_2 : decode cX6_actsOf 2 = .ok (.iconst 0, 1) := by decide +kernel
theorem dX6_actsOf_3 : decode cX6_actsOf 3 = .ok (.istore_n 3, 1) := by decide +kernel
theorem dX6_actsOf_4 : decode cX6_actsOf 4 = .ok (.iload_n 3, 1) := by decide +kernel
theorem dX6_actsOf_5 : decode cX6_actsOf 5 = .ok (.aload_n 0, 1) := by decide +kernel
theorem dX6_actsOf_6 : decode cX6_actsOf 6 = .ok (.getfield 46, 3) := by decide +kernel
theorem dX6_actsOf_9 : decode cX6_actsOf 9 = .ok (.if_icmp .ge 25, 3) := by decide +kernel
theorem dX6_actsOf_12 : decode cX6_actsOf 12 = .ok (.aload_n 0, 1) := by decide +kernel
theorem dX6_actsOf_13 : decode cX6_actsOf 13 = .ok (.getfield 9, 3) := by decide +kernel
theorem dX6_actsOf_16 : decode cX6_actsOf 16 = .ok (.iload_n 3, 1) := by decide +kernel
theorem dX6_actsOf_17 : decode cX6_actsOf 17 = .ok (.iaload, 1) := by decide +kernel
theorem dX6_actsOf_18 : decode cX6_actsOf 18 = .ok (.iload_n 1, 1) := by decide +kernel
theorem dX6_actsOf_19 : decode cX6_actsOf 19 = .ok (.if_icmp .ne 9, 3) := by decide +kernel
theorem dX6_actsOf_22 : decode cX6_actsOf 22 = .ok (.iload_n 2, 1) := by decide +kernel
theorem dX6_actsOf_23 : decode cX6_actsOf 23 = .ok (.iconst 1, 1) := by decide +kernel
theorem dX6_actsOf_24 : decode cX6_actsOf 24 = .ok (.iload_n 3, 1) := by decide +kernel
theorem dX6_actsOf_25 : decode cX6_actsOf 25 = .ok (.ishl, 1) := by decide +kernel
theorem dX6_actsOf_26 : decode cX6_actsOf 26 = .ok (.ior, 1) := by decide +kernel
theorem dX6_actsOf_27 : decode cX6_actsOf 27 = .ok (.istore_n 2, 1) := by decide +kernel
theorem dX6_actsOf_28 : decode cX6_actsOf 28 = .ok (.iinc 3 1, 3) := by decide +kernel
theorem dX6_actsOf_31 : decode cX6_actsOf 31 = .ok (.goto (-27), 3) := by decide +kernel
theorem dX6_actsOf_34 : decode cX6_actsOf 34 = .ok (.iload_n 2, 1) := by decide +kernel
theorem dX6_actsOf_35 : decode cX6_actsOf 35 = .ok (.ireturn, 1) := by decide +kernel
theorem dX6_actsOfDeed_0 : decode cX6_actsOfDeed 0 = .ok (.iconst 0, 1) := by decide +kernel
theorem dX6_actsOfDeed_1 : decode cX6_actsOfDeed 1 = .ok (.istore_n 2, 1) := by decide +kernel
theorem dX6_actsOfDeed_2 : decode cX6_actsOfDeed 2 = .ok (.iconst 0, 1) := by decide +kernel
theorem dX6_actsOfDeed_3 : decode cX6_actsOfDeed 3 = .ok (.istore_n 3, 1) := by decide +kernel
theorem dX6_actsOfDeed_4 : decode cX6_actsOfDeed 4 = .ok (.iload_n 3, 1) := by decide +kernel
theorem dX6_actsOfDeed_5 : decode cX6_actsOfDeed 5 = .ok (.aload_n 0, 1) := by decide +kernel
theorem dX6_actsOfDeed_6 : decode cX6_actsOfDeed 6 = .ok (.getfield 46, 3) := by decide +kernel
theorem dX6_actsOfDeed_9 : decode cX6_actsOfDeed 9 = .ok (.if_icmp .ge 25, 3) := by decide +kernel
theorem dX6_actsOfDeed_12 : decode cX6_actsOfDeed 12 = .ok (.aload_n 0, 1) := by decide +kernel
theorem dX6_actsOfDeed_13 : decode cX6_actsOfDeed 13 = .ok (.getfield 15, 3) := by decide +kernel
theorem dX6_actsOfDeed_16 : decode cX6_actsOfDeed 16 = .ok (.iload_n 3, 1) := by decide +kernel
theorem dX6_actsOfDeed_17 : decode cX6_actsOfDeed 17 = .ok (.iaload, 1) := by decide +kernel
theorem dX6_actsOfDeed_18 : decode cX6_actsOfDeed 18 = .ok (.iload_n 1, 1) := by decide +kernel
theorem dX6_actsOfDeed_19 : decode cX6_actsOfDeed 19 = .ok (.if_icmp .ne 9, 3) := by decide +kernel
theorem dX6_actsOfDeed_22 : decode cX6_actsOfDeed 22 = .ok (.iload_n 2, 1) := by decide +kernel
theorem dX6_actsOfDeed_23 : decode cX6_actsOfDeed 23 = .ok (.iconst 1, 1) := by decide +kernel
theorem dX6_actsOfDeed_24 : decode cX6_actsOfDeed 24 = .ok (.iload_n 3, 1) := by decide +kernel
theorem dX6_actsOfDeed_25 : decode cX6_actsOfDeed 25 = .ok (.ishl, 1) := by decide +kernel
theorem dX6_actsOfDeed_26 : decode cX6_actsOfDeed 26 = .ok (.ior, 1) := by decide +kernel
theorem dX6_actsOfDeed_27 : decode cX6_actsOfDeed 27 = .ok (.istore_n 2, 1) := by decide +kernel
theorem dX6_actsOfDeed_28 : decode cX6_actsOfDeed 28 = .ok (.iinc 3 1, 3) := by decide +kernel
theorem dX6_actsOfDeed_31 : decode cX6_actsOfDeed 31 = .ok (.goto (-27), 3) := by decide +kernel
theorem dX6_actsOfDeed_34 : decode cX6_actsOfDeed 34 = .ok (.iload_n 2, 1) := by decide +kernel
theorem dX6_actsOfDeed_35 : decode cX6_actsOfDeed 35 = .ok (.ireturn, 1) := by decide +kernel
theorem dX11_guilty_0 : decode cX11_guilty 0 = .ok (.aload_n 0, 1) := by decide +kernel
theorem dX11_guilty_1 : decode cX11_guilty 1 = .ok (.getfield 19, 3) := by decide +kernel
theorem dX11_guilty_4 : decode cX11_guilty 4 = .ok (.iconst 2, 1) := by decide +kernel
theorem dX11_guilty_5 : decode cX11_guilty 5 = .ok (.iload_n 1, 1) := by decide +kernel
theorem dX11_guilty_6 : decode cX11_guilty 6 = .ok (.invokevirtual 149, 3) := by decide +kernel
theorem dX11_guilty_9 : decode cX11_guilty 9 = .ok (.ifCond .eq 15, 3) := by decide +kernel
theorem dX11_guilty_12 : decode cX11_guilty 12 = .ok (.aload_n 0, 1) := by decide +kernel
theorem dX11_guilty_13 : decode cX11_guilty 13 = .ok (.getfield 19, 3) := by decide +kernel
theorem dX11_guilty_16 : decode cX11_guilty 16 = .ok (.iconst 3, 1) := by decide +kernel
theorem dX11_guilty_17 : decode cX11_guilty 17 = .ok (.iload_n 2, 1) := by decide +kernel
theorem dX11_guilty_18 : decode cX11_guilty 18 = .ok (.invokevirtual 149, 3) := by decide +kernel
theorem dX11_guilty_21 : decode cX11_guilty 21 = .ok (.ifCond .ne 5, 3) := by decide +kernel
theorem dX11_guilty_24 : decode cX11_guilty 24 = .ok (.iconst (-1), 1) := by decide +kernel
theorem dX11_guilty_25 : decode cX11_guilty 25 = .ok (.ireturn, 1) := by decide +kernel
theorem dX11_guilty_26 : decode cX11_guilty 26 = .ok (.aload_n 0, 1) := by decide +kernel
theorem dX11_guilty_27 : decode cX11_guilty 27 = .ok (.getfield 28, 3) := by decide +kernel
theorem dX11_guilty_30 : decode cX11_guilty 30 = .ok (.invokevirtual 223, 3) := by decide +kernel
theorem dX11_guilty_33 : decode cX11_guilty 33 = .ok (.aload_n 0, 1) := by decide +kernel
theorem dX11_guilty_34 : decode cX11_guilty 34 = .ok (.getfield 28, 3) := by decide +kernel
theorem dX11_guilty_37 : decode cX11_guilty 37 = .ok (.iload_n 1, 1) := by decide +kernel
theorem dX11_guilty_38 : decode cX11_guilty 38 = .ok (.invokevirtual 275, 3) := by decide +kernel
theorem dX11_guilty_41 : decode cX11_guilty 41 = .ok (.iand, 1) := by decide +kernel
theorem dX11_guilty_42 : decode cX11_guilty 42 = .ok (.aload_n 0, 1) := by decide +kernel
theorem dX11_guilty_43 : decode cX11_guilty 43 = .ok (.getfield 28, 3) := by decide +kernel
theorem dX11_guilty_46 : decode cX11_guilty 46 = .ok (.iload_n 2, 1) := by decide +kernel
theorem dX11_guilty_47 : decode cX11_guilty 47 = .ok (.invokevirtual 278, 3) := by decide +kernel
theorem dX11_guilty_50 : decode cX11_guilty 50 = .ok (.iand, 1) := by decide +kernel
theorem dX11_guilty_51 : decode cX11_guilty 51 = .ok (.ifCond .eq 7, 3) := by decide +kernel
theorem dX11_guilty_54 : decode cX11_guilty 54 = .ok (.iconst 1, 1) := by decide +kernel
theorem dX11_guilty_55 : decode cX11_guilty 55 = .ok (.goto 4, 3) := by decide +kernel
theorem dX11_guilty_58 : decode cX11_guilty 58 = .ok (.iconst 0, 1) := by decide +kernel
theorem dX11_guilty_59 : decode cX11_guilty 59 = .ok (.ireturn, 1) := by decide +kernel
theorem dX2_hiddenParlours_0 : decode cX2_hiddenParlours 0 = .ok (.iconst 0, 1) := by decide +kernel
theorem dX2_hiddenParlours_1 : decode cX2_hiddenParlours 1 = .ok (.istore_n 2, 1) := by decide +kernel
theorem dX2_hiddenParlours_2 : decode cX2_hiddenParlours 2 = .ok (.iconst 0, 1) := by decide +kernel
theorem dX2_hiddenParlours_3 : decode cX2_hiddenParlours 3 = .ok (.istore_n 3, 1) := by decide +kernel
theorem dX2_hiddenParlours_4 : decode cX2_hiddenParlours 4 = .ok (.iload_n 3, 1) := by decide +kernel
theorem dX2_hiddenParlours_5 : decode cX2_hiddenParlours 5 = .ok (.aload_n 0, 1) := by decide +kernel
theorem dX2_hiddenParlours_6 : decode cX2_hiddenParlours 6 = .ok (.getfield 25, 3) := by decide +kernel
theorem dX2_hiddenParlours_9 : decode cX2_hiddenParlours 9 = .ok (.invokevirtual 29, 3) := by decide +kernel
theorem dX2_hiddenParlours_12 : decode cX2_hiddenParlours 12 = .ok (.if_icmp .ge 40, 3) := by decide +kernel
theorem dX2_hiddenParlours_15 : decode cX2_hiddenParlours 15 = .ok (.aload_n 0, 1) := by decide +kernel
theorem dX2_hiddenParlours_16 : decode cX2_hiddenParlours 16 = .ok (.getfield 25, 3) := by decide +kernel
theorem dX2_hiddenParlours_19 : decode cX2_hiddenParlours 19 = .ok (.iload_n 3, 1) := by decide +kernel
theorem dX2_hiddenParlours_20 : decode cX2_hiddenParlours 20 = .ok (.invokevirtual 54, 3) := by decide +kernel
theorem dX2_hiddenParlours_23 : decode cX2_hiddenParlours 23 = .ok (.aload_n 0, 1) := by decide +kernel
theorem dX2_hiddenParlours_24 : decode cX2_hiddenParlours 24 = .ok (.getfield 25, 3) := by decide +kernel
theorem dX2_hiddenParlours_27 : decode cX2_hiddenParlours 27 = .ok (.getfield 57, 3) := by decide +kernel
theorem dX2_hiddenParlours_30 : decode cX2_hiddenParlours 30 = .ok (.iload_n 1, 1) := by decide +kernel
theorem dX2_hiddenParlours_31 : decode cX2_hiddenParlours 31 = .ok (.iadd, 1) := by decide +kernel
theorem dX2_hiddenParlours_32 : decode cX2_hiddenParlours 32 = .ok (.if_icmp .gt 14, 3) := by decide +kernel
theorem dX2_hiddenParlours_35 : decode cX2_hiddenParlours 35 = .ok (.iload_n 2, 1) := by decide +kernel
theorem dX2_hiddenParlours_36 : decode cX2_hiddenParlours 36 = .ok (.aload_n 0, 1) := by decide +kernel
theorem dX2_hiddenParlours_37 : decode cX2_hiddenParlours 37 = .ok (.getfield 25, 3) := by decide +kernel
theorem dX2_hiddenParlours_40 : decode cX2_hiddenParlours 40 = .ok (.iload_n 3, 1) := by decide +kernel
theorem dX2_hiddenParlours_41 : decode cX2_hiddenParlours 41 = .ok (.invokevirtual 60, 3) := by decide +kernel
theorem dX2_hiddenParlours_44 : decode cX2_hiddenParlours 44 = .ok (.ior, 1) := by decide +kernel
theorem dX2_hiddenParlours_45 : decode cX2_hiddenParlours 45 = .ok (.istore_n 2, 1) := by decide +kernel
theorem dX2_hiddenParlours_46 : decode cX2_hiddenParlours 46 = .ok (.iinc 3 1, 3) := by decide +kernel
theorem dX2_hiddenParlours_49 : decode cX2_hiddenParlours 49 = .ok (.goto (-45), 3) := by decide +kernel
theorem dX2_hiddenParlours_52 : decode cX2_hiddenParlours 52 = .ok (.aload_n 0, 1) := by decide +kernel
theorem dX2_hiddenParlours_53 : decode cX2_hiddenParlours 53 = .ok (.getfield 21, 3) := by decide +kernel
theorem dX2_hiddenParlours_56 : decode cX2_hiddenParlours 56 = .ok (.getfield 63, 3) := by decide +kernel
theorem dX2_hiddenParlours_59 : decode cX2_hiddenParlours 59 = .ok (.iconst 0, 1) := by decide +kernel
theorem dX2_hiddenParlours_60 : decode cX2_hiddenParlours 60 = .ok (.iaload, 1) := by decide +kernel
theorem dX2_hiddenParlours_61 : decode cX2_hiddenParlours 61 = .ok (.invokestatic 67, 3) := by decide +kernel
theorem dX2_hiddenParlours_64 : decode cX2_hiddenParlours 64 = .ok (.iload_n 2, 1) := by decide +kernel
theorem dX2_hiddenParlours_65 : decode cX2_hiddenParlours 65 = .ok (.iconst (-1), 1) := by decide +kernel
theorem dX2_hiddenParlours_66 : decode cX2_hiddenParlours 66 = .ok (.ixor, 1) := by decide +kernel
theorem dX2_hiddenParlours_67 : decode cX2_hiddenParlours 67 = .ok (.iand, 1) := by decide +kernel
theorem dX2_hiddenParlours_68 : decode cX2_hiddenParlours 68 = .ok (.ireturn, 1) := by decide +kernel
theorem dX11_hides_0 : decode cX11_hides 0 = .ok (.iload_n 1, 1) := by decide +kernel
theorem dX11_hides_1 : decode cX11_hides 1 = .ok (.ifCond .lt 9, 3) := by decide +kernel
theorem dX11_hides_4 : decode cX11_hides 4 = .ok (.iload_n 1, 1) := by decide +kernel
theorem dX11_hides_5 : decode cX11_hides 5 = .ok (.bipush 60, 2) := by decide +kernel
theorem dX11_hides_7 : decode cX11_hides 7 = .ok (.if_icmp .le 7, 3) := by decide +kernel
theorem dX11_hides_10 : decode cX11_hides 10 = .ok (.iconst (-1), 1) := by decide +kernel
theorem dX11_hides_11 : decode cX11_hides 11 = .ok (.goto 11, 3) := by decide +kernel
theorem dX11_hides_14 : decode cX11_hides 14 = .ok (.aload_n 0, 1) := by decide +kernel
theorem dX11_hides_15 : decode cX11_hides 15 = .ok (.getfield 82, 3) := by decide +kernel
theorem dX11_hides_18 : decode cX11_hides 18 = .ok (.iload_n 1, 1) := by decide +kernel
theorem dX11_hides_19 : decode cX11_hides 19 = .ok (.invokevirtual 284, 3) := by decide +kernel
theorem dX11_hides_22 : decode cX11_hides 22 = .ok (.ireturn, 1) := by decide +kernel
theorem dX3_copyFrom_0 : decode cX3_copyFrom 0 = .ok (.aload_n 1, 1) := by decide +kernel
theorem dX3_copyFrom_1 : decode cX3_copyFrom 1 = .ok (.getfield 9, 3) := by decide +kernel
theorem dX3_copyFrom_4 : decode cX3_copyFrom 4 = .ok (.iconst 0, 1) := by decide +kernel
theorem dX3_copyFrom_5 : decode cX3_copyFrom 5 = .ok (.aload_n 0, 1) := by decide +kernel
theorem dX3_copyFrom_6 : decode cX3_copyFrom 6 = .ok (.getfield 9, 3) := by decide +kernel
theorem dX3_copyFrom_9 : decode cX3_copyFrom 9 = .ok (.iconst 0, 1) := by decide +kernel
theorem dX3_copyFrom_10 : decode cX3_copyFrom 10 = .ok (.iconst 4, 1) := by decide +kernel
theorem dX3_copyFrom_11 : decode cX3_copyFrom 11 = .ok (.invokestatic 50, 3) := by decide +kernel
theorem dX3_copyFrom_14 : decode cX3_copyFrom 14 = .ok (.aload_n 1, 1) := by decide +kernel
theorem dX3_copyFrom_15 : decode cX3_copyFrom 15 = .ok (.getfield 15, 3) := by decide +kernel
theorem dX3_copyFrom_18 : decode cX3_copyFrom 18 = .ok (.iconst 0, 1) := by decide +kernel
theorem dX3_copyFrom_19 : decode cX3_copyFrom 19 = .ok (.aload_n 0, 1) := by decide +kernel
theorem dX3_copyFrom_20 : decode cX3_copyFrom 20 = .ok (.getfield 15, 3) := by decide +kernel
theorem dX3_copyFrom_23 : decode cX3_copyFrom 23 = .ok (.iconst 0, 1) := by decide +kernel
theorem dX3_copyFrom_24 : decode cX3_copyFrom 24 = .ok (.iconst 5, 1) := by decide +kernel
theorem dX3_copyFrom_25 : decode cX3_copyFrom 25 = .ok (.invokestatic 50, 3) := by decide +kernel
theorem dX3_copyFrom_28 : decode cX3_copyFrom 28 = .ok (.aload_n 1, 1) := by decide +kernel
theorem dX3_copyFrom_29 : decode cX3_copyFrom 29 = .ok (.getfield 18, 3) := by decide +kernel
theorem dX3_copyFrom_32 : decode cX3_copyFrom 32 = .ok (.iconst 0, 1) := by decide +kernel
theorem dX3_copyFrom_33 : decode cX3_copyFrom 33 = .ok (.aload_n 0, 1) := by decide +kernel
theorem dX3_copyFrom_34 : decode cX3_copyFrom 34 = .ok (.getfield 18, 3) := by decide +kernel
theorem dX3_copyFrom_37 : decode cX3_copyFrom 37 = .ok (.iconst 0, 1) := by decide +kernel
theorem dX3_copyFrom_38 : decode cX3_copyFrom 38 = .ok (.bipush 6, 2) := by decide +kernel
theorem dX3_copyFrom_40 : decode cX3_copyFrom 40 = .ok (.invokestatic 50, 3) := by decide +kernel
theorem dX3_copyFrom_43 : decode cX3_copyFrom 43 = .ok (.aload_n 1, 1) := by decide +kernel
theorem dX3_copyFrom_44 : decode cX3_copyFrom 44 = .ok (.getfield 21, 3) := by decide +kernel
theorem dX3_copyFrom_47 : decode cX3_copyFrom 47 = .ok (.iconst 0, 1) := by decide +kernel
theorem dX3_copyFrom_48 : decode cX3_copyFrom 48 = .ok (.aload_n 0, 1) := by decide +kernel
theorem dX3_copyFrom_49 : decode cX3_copyFrom 49 = .ok (.getfield 21, 3) := by decide +kernel
theorem dX3_copyFrom_52 : decode cX3_copyFrom 52 = .ok (.iconst 0, 1) := by decide +kernel
theorem dX3_copyFrom_53 : decode cX3_copyFrom 53 = .ok (.bipush 6, 2) := by decide +kernel
theorem dX3_copyFrom_55 : decode cX3_copyFrom 55 = .ok (.invokestatic 50, 3) := by decide +kernel
theorem dX3_copyFrom_58 : decode cX3_copyFrom 58 = .ok (.aload_n 1, 1) := by decide +kernel
theorem dX3_copyFrom_59 : decode cX3_copyFrom 59 = .ok (.getfield 24, 3) := by decide +kernel
theorem dX3_copyFrom_62 : decode cX3_copyFrom 62 = .ok (.iconst 0, 1) := by decide +kernel
theorem dX3_copyFrom_63 : decode cX3_copyFrom 63 = .ok (.aload_n 0, 1) := by decide +kernel
theorem dX3_copyFrom_64 : decode cX3_copyFrom 64 = .ok (.getfield 24, 3) := by decide +kernel
theorem dX3_copyFrom_67 : decode cX3_copyFrom 67 = .ok (.iconst 0, 1) := by decide +kernel
theorem dX3_copyFrom_68 : decode cX3_copyFrom 68 = .ok (.bipush 6, 2) := by decide +kernel
theorem dX3_copyFrom_70 : decode cX3_copyFrom 70 = .ok (.invokestatic 50, 3) := by decide +kernel
theorem dX3_copyFrom_73 : decode cX3_copyFrom 73 = .ok (.aload_n 1, 1) := by decide +kernel
theorem dX3_copyFrom_74 : decode cX3_copyFrom 74 = .ok (.getfield 27, 3) := by decide +kernel
theorem dX3_copyFrom_77 : decode cX3_copyFrom 77 = .ok (.iconst 0, 1) := by decide +kernel
theorem dX3_copyFrom_78 : decode cX3_copyFrom 78 = .ok (.aload_n 0, 1) := by decide +kernel
theorem dX3_copyFrom_79 : decode cX3_copyFrom 79 = .ok (.getfield 27, 3) := by decide +kernel
theorem dX3_copyFrom_82 : decode cX3_copyFrom 82 = .ok (.iconst 0, 1) := by decide +kernel
theorem dX3_copyFrom_83 : decode cX3_copyFrom 83 = .ok (.bipush 6, 2) := by decide +kernel
theorem dX3_copyFrom_85 : decode cX3_copyFrom 85 = .ok (.invokestatic 50, 3) := by decide +kernel
theorem dX3_copyFrom_88 : decode cX3_copyFrom 88 = .ok (.aload_n 1, 1) := by decide +kernel
theorem dX3_copyFrom_89 : decode cX3_copyFrom 89 = .ok (.getfield 31, 3) := by decide +kernel
theorem dX3_copyFrom_92 : decode cX3_copyFrom 92 = .ok (.iconst 0, 1) := by decide +kernel
theorem dX3_copyFrom_93 : decode cX3_copyFrom 93 = .ok (.aload_n 0, 1) := by decide +kernel
theorem dX3_copyFrom_94 : decode cX3_copyFrom 94 = .ok (.getfield 31, 3) := by decide +kernel
theorem dX3_copyFrom_97 : decode cX3_copyFrom 97 = .ok (.iconst 0, 1) := by decide +kernel
theorem dX3_copyFrom_98 : decode cX3_copyFrom 98 = .ok (.bipush 20, 2) := by decide +kernel
theorem dX3_copyFrom_100 : decode cX3_copyFrom 100 = .ok (.invokestatic 50, 3) := by decide +kernel
theorem dX3_copyFrom_103 : decode cX3_copyFrom 103 = .ok (.aload_n 1, 1) := by decide +kernel
theorem dX3_copyFrom_104 : decode cX3_copyFrom 104 = .ok (.getfield 34, 3) := by decide +kernel
theorem dX3_copyFrom_107 : decode cX3_copyFrom 107 = .ok (.iconst 0, 1) := by decide +kernel
theorem dX3_copyFrom_108 : decode cX3_copyFrom 108 = .ok (.aload_n 0, 1) := by decide +kernel
theorem dX3_copyFrom_109 : decode cX3_copyFrom 109 = .ok (.getfield 34, 3) := by decide +kernel
theorem dX3_copyFrom_112 : decode cX3_copyFrom 112 = .ok (.iconst 0, 1) := by decide +kernel
theorem dX3_copyFrom_113 : decode cX3_copyFrom 113 = .ok (.bipush 20, 2) := by decide +kernel
theorem dX3_copyFrom_115 : decode cX3_copyFrom 115 = .ok (.invokestatic 50, 3) := by decide +kernel
theorem dX3_copyFrom_118 : decode cX3_copyFrom 118 = .ok (.aload_n 1, 1) := by decide +kernel
theorem dX3_copyFrom_119 : decode cX3_copyFrom 119 = .ok (.getfield 37, 3) := by decide +kernel
theorem dX3_copyFrom_122 : decode cX3_copyFrom 122 = .ok (.iconst 0, 1) := by decide +kernel
theorem dX3_copyFrom_123 : decode cX3_copyFrom 123 = .ok (.aload_n 0, 1) := by decide +kernel
theorem dX3_copyFrom_124 : decode cX3_copyFrom 124 = .ok (.getfield 37, 3) := by decide +kernel
theorem dX3_copyFrom_127 : decode cX3_copyFrom 127 = .ok (.iconst 0, 1) := by decide +kernel
theorem dX3_copyFrom_128 : decode cX3_copyFrom 128 = .ok (.bipush 20, 2) := by decide +kernel
theorem dX3_copyFrom_130 : decode cX3_copyFrom 130 = .ok (.invokestatic 50, 3) := by decide +kernel
theorem dX3_copyFrom_133 : decode cX3_copyFrom 133 = .ok (.aload_n 0, 1) := by decide +kernel
theorem dX3_copyFrom_134 : decode cX3_copyFrom 134 = .ok (.aload_n 1, 1) := by decide +kernel
theorem dX3_copyFrom_135 : decode cX3_copyFrom 135 = .ok (.getfield 47, 3) := by decide +kernel
theorem dX3_copyFrom_138 : decode cX3_copyFrom 138 = .ok (.putfield 47, 3) := by decide +kernel
theorem dX3_copyFrom_141 : decode cX3_copyFrom 141 = .ok (.aload_n 0, 1) := by decide +kernel
theorem dX3_copyFrom_142 : decode cX3_copyFrom 142 = .ok (.aload_n 1, 1) := by decide +kernel
theorem dX3_copyFrom_143 : decode cX3_copyFrom 143 = .ok (.getfield 40, 3) := by decide +kernel
theorem dX3_copyFrom_146 : decode cX3_copyFrom 146 = .ok (.putfield 40, 3) := by decide +kernel
theorem dX3_copyFrom_149 : decode cX3_copyFrom 149 = .ok (.aload_n 0, 1) := by decide +kernel
theorem dX3_copyFrom_150 : decode cX3_copyFrom 150 = .ok (.aload_n 1, 1) := by decide +kernel
theorem dX3_copyFrom_151 : decode cX3_copyFrom 151 = .ok (.getfield 44, 3) := by decide +kernel
theorem dX3_copyFrom_154 : decode cX3_copyFrom 154 = .ok (.putfield 44, 3) := by decide +kernel
theorem dX3_copyFrom_157 : decode cX3_copyFrom 157 = .ok (.return_, 1) := by decide +kernel
theorem dX8_copyFrom_0 : decode cX8_copyFrom 0 = .ok (.aload_n 0, 1) := by decide +kernel
theorem dX8_copyFrom_1 : decode cX8_copyFrom 1 = .ok (.aload_n 1, 1) := by decide +kernel
theorem dX8_copyFrom_2 : decode cX8_copyFrom 2 = .ok (.getfield 24, 3) := by decide +kernel
theorem dX8_copyFrom_5 : decode cX8_copyFrom 5 = .ok (.putfield 24, 3) := by decide +kernel
theorem dX8_copyFrom_8 : decode cX8_copyFrom 8 = .ok (.aload_n 0, 1) := by decide +kernel
theorem dX8_copyFrom_9 : decode cX8_copyFrom 9 = .ok (.aload_n 1, 1) := by decide +kernel
theorem dX8_copyFrom_10 : decode cX8_copyFrom 10 = .ok (.getfield 28, 3) := by decide +kernel
theorem dX8_copyFrom_13 : decode cX8_copyFrom 13 = .ok (.putfield 28, 3) := by decide +kernel
theorem dX8_copyFrom_16 : decode cX8_copyFrom 16 = .ok (.aload_n 1, 1) := by decide +kernel
theorem dX8_copyFrom_17 : decode cX8_copyFrom 17 = .ok (.getfield 11, 3) := by decide +kernel
theorem dX8_copyFrom_20 : decode cX8_copyFrom 20 = .ok (.iconst 0, 1) := by decide +kernel
theorem dX8_copyFrom_21 : decode cX8_copyFrom 21 = .ok (.aload_n 0, 1) := by decide +kernel
theorem dX8_copyFrom_22 : decode cX8_copyFrom 22 = .ok (.getfield 11, 3) := by decide +kernel
theorem dX8_copyFrom_25 : decode cX8_copyFrom 25 = .ok (.iconst 0, 1) := by decide +kernel
theorem dX8_copyFrom_26 : decode cX8_copyFrom 26 = .ok (.aload_n 0, 1) := by decide +kernel
theorem dX8_copyFrom_27 : decode cX8_copyFrom 27 = .ok (.getfield 24, 3) := by decide +kernel
theorem dX8_copyFrom_30 : decode cX8_copyFrom 30 = .ok (.invokestatic 31, 3) := by decide +kernel
theorem dX8_copyFrom_33 : decode cX8_copyFrom 33 = .ok (.aload_n 1, 1) := by decide +kernel
theorem dX8_copyFrom_34 : decode cX8_copyFrom 34 = .ok (.getfield 15, 3) := by decide +kernel
theorem dX8_copyFrom_37 : decode cX8_copyFrom 37 = .ok (.iconst 0, 1) := by decide +kernel
theorem dX8_copyFrom_38 : decode cX8_copyFrom 38 = .ok (.aload_n 0, 1) := by decide +kernel
theorem dX8_copyFrom_39 : decode cX8_copyFrom 39 = .ok (.getfield 15, 3) := by decide +kernel
theorem dX8_copyFrom_42 : decode cX8_copyFrom 42 = .ok (.iconst 0, 1) := by decide +kernel
theorem dX8_copyFrom_43 : decode cX8_copyFrom 43 = .ok (.aload_n 0, 1) := by decide +kernel
theorem dX8_copyFrom_44 : decode cX8_copyFrom 44 = .ok (.getfield 24, 3) := by decide +kernel
theorem dX8_copyFrom_47 : decode cX8_copyFrom 47 = .ok (.invokestatic 31, 3) := by decide +kernel
theorem dX8_copyFrom_50 : decode cX8_copyFrom 50 = .ok (.aload_n 1, 1) := by decide +kernel
theorem dX8_copyFrom_51 : decode cX8_copyFrom 51 = .ok (.getfield 18, 3) := by decide +kernel
theorem dX8_copyFrom_54 : decode cX8_copyFrom 54 = .ok (.iconst 0, 1) := by decide +kernel
theorem dX8_copyFrom_55 : decode cX8_copyFrom 55 = .ok (.aload_n 0, 1) := by decide +kernel
theorem dX8_copyFrom_56 : decode cX8_copyFrom 56 = .ok (.getfield 18, 3) := by decide +kernel
theorem dX8_copyFrom_59 : decode cX8_copyFrom 59 = .ok (.iconst 0, 1) := by decide +kernel
theorem dX8_copyFrom_60 : decode cX8_copyFrom 60 = .ok (.aload_n 0, 1) := by decide +kernel
theorem dX8_copyFrom_61 : decode cX8_copyFrom 61 = .ok (.getfield 24, 3) := by decide +kernel
theorem dX8_copyFrom_64 : decode cX8_copyFrom 64 = .ok (.invokestatic 31, 3) := by decide +kernel
theorem dX8_copyFrom_67 : decode cX8_copyFrom 67 = .ok (.return_, 1) := by decide +kernel
theorem dX5_keep_0 : decode cX5_keep 0 = .ok (.aload_n 0, 1) := by decide +kernel
theorem dX5_keep_1 : decode cX5_keep 1 = .ok (.getfield 10, 3) := by decide +kernel
theorem dX5_keep_4 : decode cX5_keep 4 = .ok (.aload_n 1, 1) := by decide +kernel
theorem dX5_keep_5 : decode cX5_keep 5 = .ok (.invokevirtual 32, 3) := by decide +kernel
theorem dX5_keep_8 : decode cX5_keep 8 = .ok (.aload_n 0, 1) := by decide +kernel
theorem dX5_keep_9 : decode cX5_keep 9 = .ok (.getfield 21, 3) := by decide +kernel
theorem dX5_keep_12 : decode cX5_keep 12 = .ok (.aload_n 2, 1) := by decide +kernel
theorem dX5_keep_13 : decode cX5_keep 13 = .ok (.invokevirtual 35, 3) := by decide +kernel
theorem dX5_keep_16 : decode cX5_keep 16 = .ok (.aload_n 0, 1) := by decide +kernel
theorem dX5_keep_17 : decode cX5_keep 17 = .ok (.getfield 28, 3) := by decide +kernel
theorem dX5_keep_20 : decode cX5_keep 20 = .ok (.aload_n 3, 1) := by decide +kernel
theorem dX5_keep_21 : decode cX5_keep 21 = .ok (.invokevirtual 38, 3) := by decide +kernel
theorem dX5_keep_24 : decode cX5_keep 24 = .ok (.aload_n 0, 1) := by decide +kernel
theorem dX5_keep_25 : decode cX5_keep 25 = .ok (.iconst 1, 1) := by decide +kernel
theorem dX5_keep_26 : decode cX5_keep 26 = .ok (.putfield 41, 3) := by decide +kernel
theorem dX5_keep_29 : decode cX5_keep 29 = .ok (.return_, 1) := by decide +kernel
theorem dX11_image_0 : decode cX11_image 0 = .ok (.iload_n 1, 1) := by decide +kernel
theorem dX11_image_1 : decode cX11_image 1 = .ok (.ifCond .lt 8, 3) := by decide +kernel
theorem dX11_image_4 : decode cX11_image 4 = .ok (.iload_n 1, 1) := by decide +kernel
theorem dX11_image_5 : decode cX11_image 5 = .ok (.iconst 2, 1) := by decide +kernel
theorem dX11_image_6 : decode cX11_image 6 = .ok (.if_icmp .lt 5, 3) := by decide +kernel
theorem dX11_image_9 : decode cX11_image 9 = .ok (.iconst 0, 1) := by decide +kernel
theorem dX11_image_10 : decode cX11_image 10 = .ok (.ireturn, 1) := by decide +kernel
theorem dX11_image_11 : decode cX11_image 11 = .ok (.aload_n 0, 1) := by decide +kernel
theorem dX11_image_12 : decode cX11_image 12 = .ok (.getfield 44, 3) := by decide +kernel
theorem dX11_image_15 : decode cX11_image 15 = .ok (.iload_n 1, 1) := by decide +kernel
theorem dX11_image_16 : decode cX11_image 16 = .ok (.aaload, 1) := by decide +kernel
theorem dX11_image_17 : decode cX11_image 17 = .ok (.aload_n 0, 1) := by decide +kernel
theorem dX11_image_18 : decode cX11_image 18 = .ok (.getfield 19, 3) := by decide +kernel
theorem dX11_image_21 : decode cX11_image 21 = .ok (.aload_n 0, 1) := by decide +kernel
theorem dX11_image_22 : decode cX11_image 22 = .ok (.getfield 28, 3) := by decide +kernel
theorem dX11_image_25 : decode cX11_image 25 = .ok (.aload_n 0, 1) := by decide +kernel
theorem dX11_image_26 : decode cX11_image 26 = .ok (.getfield 70, 3) := by decide +kernel
theorem dX11_image_29 : decode cX11_image 29 = .ok (.invokevirtual 393, 3) := by decide +kernel
theorem dX11_image_32 : decode cX11_image 32 = .ok (.iconst 1, 1) := by decide +kernel
theorem dX11_image_33 : decode cX11_image 33 = .ok (.ireturn, 1) := by decide +kernel
theorem dX6_allLeavesCome_0 : decode cX6_allLeavesCome 0 = .ok (.iconst 0, 1) := by decide +kernel
theorem dX6_allLeavesCome_1 : decode cX6_allLeavesCome 1 = .ok (.istore_n 1, 1) := by decide +kernel
theorem dX6_allLeavesCome_2 : decode cX6_allLeavesCome 2 = .ok (.iconst 0, 1) := by decide +kernel
theorem dX6_allLeavesCome_3 : decode cX6_allLeavesCome 3 = .ok (.istore_n 2, 1) := by decide +kernel
theorem dX6_allLeavesCome_4 : decode cX6_allLeavesCome 4 = .ok (.iload_n 2, 1) := by decide +kernel
theorem dX6_allLeavesCome_5 : decode cX6_allLeavesCome 5 = .ok (.aload_n 0, 1) := by decide +kernel
theorem dX6_allLeavesCome_6 : decode cX6_allLeavesCome 6 = .ok (.invokevirtual 86, 3) := by decide +kernel
theorem dX6_allLeavesCome_9 : decode cX6_allLeavesCome 9 = .ok (.if_icmp .ge 20, 3) := by decide +kernel
theorem dX6_allLeavesCome_12 : decode cX6_allLeavesCome 12 = .ok (.iload_n 1, 1) := by decide +kernel
theorem dX6_allLeavesCome_13 : decode cX6_allLeavesCome 13 = .ok (.aload_n 0, 1) := by decide +kernel
theorem dX6_allLeavesCome_14 : decode cX6_allLeavesCome 14 = .ok (.iload_n 2, 1) := by decide +kernel
theorem dX6_allLeavesCome_15 : decode cX6_allLeavesCome 15 = .ok (.invokevirtual 123, 3) := by decide +kernel
theorem dX6_allLeavesCome_18 : decode cX6_allLeavesCome 18 = .ok (.invokestatic 109, 3) := by decide +kernel
theorem dX6_allLeavesCome_21 : decode cX6_allLeavesCome 21 = .ok (.iadd, 1) := by decide +kernel
theorem dX6_allLeavesCome_22 : decode cX6_allLeavesCome 22 = .ok (.istore_n 1, 1) := by decide +kernel
theorem dX6_allLeavesCome_23 : decode cX6_allLeavesCome 23 = .ok (.iinc 2 1, 3) := by decide +kernel
theorem dX6_allLeavesCome_26 : decode cX6_allLeavesCome 26 = .ok (.goto (-22), 3) := by decide +kernel
theorem dX6_allLeavesCome_29 : decode cX6_allLeavesCome 29 = .ok (.iload_n 1, 1) := by decide +kernel
theorem dX6_allLeavesCome_30 : decode cX6_allLeavesCome 30 = .ok (.ireturn, 1) := by decide +kernel
theorem dX6_leavesDue_0 : decode cX6_leavesDue 0 = .ok (.iconst 0, 1) := by decide +kernel
theorem dX6_leavesDue_1 : decode cX6_leavesDue 1 = .ok (.istore_n 2, 1) := by decide +kernel
theorem dX6_leavesDue_2 : decode cX6_leavesDue 2 = .ok (.iconst 0, 1) := by decide +kernel
theorem dX6_leavesDue_3 : decode cX6_leavesDue 3 = .ok (.istore_n 3, 1) := by decide +kernel
theorem dX6_leavesDue_4 : decode cX6_leavesDue 4 = .ok (.iload_n 3, 1) := by decide +kernel
theorem dX6_leavesDue_5 : decode cX6_leavesDue 5 = .ok (.aload_n 0, 1) := by decide +kernel
theorem dX6_leavesDue_6 : decode cX6_leavesDue 6 = .ok (.getfield 46, 3) := by decide +kernel
theorem dX6_leavesDue_9 : decode cX6_leavesDue 9 = .ok (.if_icmp .ge 27, 3) := by decide +kernel
theorem dX6_leavesDue_12 : decode cX6_leavesDue 12 = .ok (.aload_n 0, 1) := by decide +kernel
theorem dX6_leavesDue_13 : decode cX6_leavesDue 13 = .ok (.getfield 26, 3) := by decide +kernel
theorem dX6_leavesDue_16 : decode cX6_leavesDue 16 = .ok (.iload_n 1, 1) := by decide +kernel
theorem dX6_leavesDue_17 : decode cX6_leavesDue 17 = .ok (.aaload, 1) := by decide +kernel
theorem dX6_leavesDue_18 : decode cX6_leavesDue 18 = .ok (.iload_n 3, 1) := by decide +kernel
theorem dX6_leavesDue_19 : decode cX6_leavesDue 19 = .ok (.iaload, 1) := by decide +kernel
theorem dX6_leavesDue_20 : decode cX6_leavesDue 20 = .ok (.aload_n 0, 1) := by decide +kernel
theorem dX6_leavesDue_21 : decode cX6_leavesDue 21 = .ok (.getfield 42, 3) := by decide +kernel
theorem dX6_leavesDue_24 : decode cX6_leavesDue 24 = .ok (.if_icmp .le 6, 3) := by decide +kernel
theorem dX6_leavesDue_27 : decode cX6_leavesDue 27 = .ok (.iinc 2 1, 3) := by decide +kernel
theorem dX6_leavesDue_30 : decode cX6_leavesDue 30 = .ok (.iinc 3 1, 3) := by decide +kernel
theorem dX6_leavesDue_33 : decode cX6_leavesDue 33 = .ok (.goto (-29), 3) := by decide +kernel
theorem dX6_leavesDue_36 : decode cX6_leavesDue 36 = .ok (.iload_n 2, 1) := by decide +kernel
theorem dX6_leavesDue_37 : decode cX6_leavesDue 37 = .ok (.ireturn, 1) := by decide +kernel
theorem dX6_allLeavesDue_0 : decode cX6_allLeavesDue 0 = .ok (.iconst 0, 1) := by decide +kernel
theorem dX6_allLeavesDue_1 : decode cX6_allLeavesDue 1 = .ok (.istore_n 1, 1) := by decide +kernel
theorem dX6_allLeavesDue_2 : decode cX6_allLeavesDue 2 = .ok (.iconst 0, 1) := by decide +kernel
theorem dX6_allLeavesDue_3 : decode cX6_allLeavesDue 3 = .ok (.istore_n 2, 1) := by decide +kernel
theorem dX6_allLeavesDue_4 : decode cX6_allLeavesDue 4 = .ok (.iload_n 2, 1) := by decide +kernel
theorem dX6_allLeavesDue_5 : decode cX6_allLeavesDue 5 = .ok (.aload_n 0, 1) := by decide +kernel
theorem dX6_allLeavesDue_6 : decode cX6_allLeavesDue 6 = .ok (.invokevirtual 86, 3) := by decide +kernel
theorem dX6_allLeavesDue_9 : decode cX6_allLeavesDue 9 = .ok (.if_icmp .ge 17, 3) := by decide +kernel
theorem dX6_allLeavesDue_12 : decode cX6_allLeavesDue 12 = .ok (.iload_n 1, 1) := by decide +kernel
theorem dX6_allLeavesDue_13 : decode cX6_allLeavesDue 13 = .ok (.aload_n 0, 1) := by decide +kernel
theorem dX6_allLeavesDue_14 : decode cX6_allLeavesDue 14 = .ok (.iload_n 2, 1) := by decide +kernel
theorem dX6_allLeavesDue_15 : decode cX6_allLeavesDue 15 = .ok (.invokevirtual 126, 3) := by decide +kernel
theorem dX6_allLeavesDue_18 : decode cX6_allLeavesDue 18 = .ok (.iadd, 1) := by decide +kernel
theorem dX6_allLeavesDue_19 : decode cX6_allLeavesDue 19 = .ok (.istore_n 1, 1) := by decide +kernel
theorem dX6_allLeavesDue_20 : decode cX6_allLeavesDue 20 = .ok (.iinc 2 1, 3) := by decide +kernel
theorem dX6_allLeavesDue_23 : decode cX6_allLeavesDue 23 = .ok (.goto (-19), 3) := by decide +kernel
theorem dX6_allLeavesDue_26 : decode cX6_allLeavesDue 26 = .ok (.iload_n 1, 1) := by decide +kernel
theorem dX6_allLeavesDue_27 : decode cX6_allLeavesDue 27 = .ok (.ireturn, 1) := by decide +kernel
theorem dX6_parloursUnseen_0 : decode cX6_parloursUnseen 0 = .ok (.iconst 0, 1) := by decide +kernel
theorem dX6_parloursUnseen_1 : decode cX6_parloursUnseen 1 = .ok (.istore_n 1, 1) := by decide +kernel
theorem dX6_parloursUnseen_2 : decode cX6_parloursUnseen 2 = .ok (.iconst 0, 1) := by decide +kernel
theorem dX6_parloursUnseen_3 : decode cX6_parloursUnseen 3 = .ok (.istore_n 2, 1) := by decide +kernel
theorem dX6_parloursUnseen_4 : decode cX6_parloursUnseen 4 = .ok (.iload_n 2, 1) := by decide +kernel
theorem dX6_parloursUnseen_5 : decode cX6_parloursUnseen 5 = .ok (.aload_n 0, 1) := by decide +kernel
theorem dX6_parloursUnseen_6 : decode cX6_parloursUnseen 6 = .ok (.invokevirtual 86, 3) := by decide +kernel
theorem dX6_parloursUnseen_9 : decode cX6_parloursUnseen 9 = .ok (.if_icmp .ge 17, 3) := by decide +kernel
theorem dX6_parloursUnseen_12 : decode cX6_parloursUnseen 12 = .ok (.iload_n 1, 1) := by decide +kernel
theorem dX6_parloursUnseen_13 : decode cX6_parloursUnseen 13 = .ok (.aload_n 0, 1) := by decide +kernel
theorem dX6_parloursUnseen_14 : decode cX6_parloursUnseen 14 = .ok (.iload_n 2, 1) := by decide +kernel
theorem dX6_parloursUnseen_15 : decode cX6_parloursUnseen 15 = .ok (.invokevirtual 90, 3) := by decide +kernel
theorem dX6_parloursUnseen_18 : decode cX6_parloursUnseen 18 = .ok (.ior, 1) := by decide +kernel
theorem dX6_parloursUnseen_19 : decode cX6_parloursUnseen 19 = .ok (.istore_n 1, 1) := by decide +kernel
theorem dX6_parloursUnseen_20 : decode cX6_parloursUnseen 20 = .ok (.iinc 2 1, 3) := by decide +kernel
theorem dX6_parloursUnseen_23 : decode cX6_parloursUnseen 23 = .ok (.goto (-19), 3) := by decide +kernel
theorem dX6_parloursUnseen_26 : decode cX6_parloursUnseen 26 = .ok (.aload_n 0, 1) := by decide +kernel
theorem dX6_parloursUnseen_27 : decode cX6_parloursUnseen 27 = .ok (.getfield 38, 3) := by decide +kernel
theorem dX6_parloursUnseen_30 : decode cX6_parloursUnseen 30 = .ok (.getfield 60, 3) := by decide +kernel
theorem dX6_parloursUnseen_33 : decode cX6_parloursUnseen 33 = .ok (.iconst 0, 1) := by decide +kernel
theorem dX6_parloursUnseen_34 : decode cX6_parloursUnseen 34 = .ok (.iaload, 1) := by decide +kernel
theorem dX6_parloursUnseen_35 : decode cX6_parloursUnseen 35 = .ok (.invokestatic 120, 3) := by decide +kernel
theorem dX6_parloursUnseen_38 : decode cX6_parloursUnseen 38 = .ok (.iload_n 1, 1) := by decide +kernel
theorem dX6_parloursUnseen_39 : decode cX6_parloursUnseen 39 = .ok (.iconst (-1), 1) := by decide +kernel
theorem dX6_parloursUnseen_40 : decode cX6_parloursUnseen 40 = .ok (.ixor, 1) := by decide +kernel
theorem dX6_parloursUnseen_41 : decode cX6_parloursUnseen 41 = .ok (.iand, 1) := by decide +kernel
theorem dX6_parloursUnseen_42 : decode cX6_parloursUnseen 42 = .ok (.ireturn, 1) := by decide +kernel
theorem dX6_plantsThatSee_0 : decode cX6_plantsThatSee 0 = .ok (.iconst 0, 1) := by decide +kernel
theorem dX6_plantsThatSee_1 : decode cX6_plantsThatSee 1 = .ok (.istore_n 1, 1) := by decide +kernel
theorem dX6_plantsThatSee_2 : decode cX6_plantsThatSee 2 = .ok (.iconst 0, 1) := by decide +kernel
theorem dX6_plantsThatSee_3 : decode cX6_plantsThatSee 3 = .ok (.istore_n 2, 1) := by decide +kernel
theorem dX6_plantsThatSee_4 : decode cX6_plantsThatSee 4 = .ok (.iload_n 2, 1) := by decide +kernel
theorem dX6_plantsThatSee_5 : decode cX6_plantsThatSee 5 = .ok (.aload_n 0, 1) := by decide +kernel
theorem dX6_plantsThatSee_6 : decode cX6_plantsThatSee 6 = .ok (.invokevirtual 86, 3) := by decide +kernel
theorem dX6_plantsThatSee_9 : decode cX6_plantsThatSee 9 = .ok (.if_icmp .ge 23, 3) := by decide +kernel
theorem dX6_plantsThatSee_12 : decode cX6_plantsThatSee 12 = .ok (.aload_n 0, 1) := by decide +kernel
theorem dX6_plantsThatSee_13 : decode cX6_plantsThatSee 13 = .ok (.iload_n 2, 1) := by decide +kernel
theorem dX6_plantsThatSee_14 : decode cX6_plantsThatSee 14 = .ok (.invokevirtual 69, 3) := by decide +kernel
theorem dX6_plantsThatSee_17 : decode cX6_plantsThatSee 17 = .ok (.ifCond .ne 9, 3) := by decide +kernel
theorem dX6_plantsThatSee_20 : decode cX6_plantsThatSee 20 = .ok (.iload_n 1, 1) := by decide +kernel
theorem dX6_plantsThatSee_21 : decode cX6_plantsThatSee 21 = .ok (.iconst 1, 1) := by decide +kernel
theorem dX6_plantsThatSee_22 : decode cX6_plantsThatSee 22 = .ok (.iload_n 2, 1) := by decide +kernel
theorem dX6_plantsThatSee_23 : decode cX6_plantsThatSee 23 = .ok (.ishl, 1) := by decide +kernel
theorem dX6_plantsThatSee_24 : decode cX6_plantsThatSee 24 = .ok (.ior, 1) := by decide +kernel
theorem dX6_plantsThatSee_25 : decode cX6_plantsThatSee 25 = .ok (.istore_n 1, 1) := by decide +kernel
theorem dX6_plantsThatSee_26 : decode cX6_plantsThatSee 26 = .ok (.iinc 2 1, 3) := by decide +kernel
theorem dX6_plantsThatSee_29 : decode cX6_plantsThatSee 29 = .ok (.goto (-25), 3) := by decide +kernel
theorem dX6_plantsThatSee_32 : decode cX6_plantsThatSee 32 = .ok (.iload_n 1, 1) := by decide +kernel
theorem dX6_plantsThatSee_33 : decode cX6_plantsThatSee 33 = .ok (.ireturn, 1) := by decide +kernel
-- X6_actsShown
abbrev rmX6_actsShown : Room := { frames := 0, cells := 0, slots := 0, locals := 0 }
def fX6_actsShown_45 (S : zSt) (a0 : Nat) (v1 : Int32) (v2 : Int32) (v3 : Int32) : Option ((Int32 × Int32) ⊕ Int32) :=
  zLt (v3 + (1 : Int32)) (fun x6 => some (.inl (v2, x6)))
set_option maxHeartbeats 4000000 in
set_option maxRecDepth 100000 in
theorem kX6_actsShown_45 {p : Program} {l : Launch} {e : Env} {s : State} {m : MethodId} {args : Array Value} {below : List Frame} {meth : Method} {c : Code} {D : va_G} {cy : Nat → ClassId} {q : Nat → Nat} (cx : zX RX6 cX6_actsShown 4 p s m args c D cy) (hr : meth.sig.returnType = (some .int)) (hlk : meth.locks = false) {a0 : Nat} (ha0 : zLife a0) {z : Int32} {S : zSt} {v1 : Int32} {v2 : Int32} {v3 : Int32} {C1 : ((Int32 × Int32) ⊕ Int32) → Prop} (hb1 : ∀ (v2 : Int32) (v3 : Int32), C1 (.inl (v2, v3)) → ∀ (ls : Array Slot), lv_has ls 4 [(0, .ref (q a0)), (1, .int v1), (2, .int v2), (3, .int v3)] → W p l e rmX6_actsShown s m args below meth c s.heap [] 0 0 (MQ below (vp_Si (fun x => x = z)) args s 0 0 (fun _ => False)) (F0 m 4 ls [])) (hx1 : ∀ a, C1 (.inr a) → a = z) (hP : va_P D vwCl (zW zsh zNC cy q S) s.heap) {x : ((Int32 × Int32) ⊕ Int32)} (h : fX6_actsShown_45 S a0 v1 v2 v3 = some x) (hc : C1 x) {ls : Array Slot} (hl : lv_has ls 4 [(0, .ref (q a0)), (1, .int v1), (2, .int v2), (3, .int v3)]) : W p l e rmX6_actsShown s m args below meth c s.heap [] 0 0 (MQ below (vp_Si (fun x => x = z)) args s 0 0 (fun _ => False)) (F0 m 45 ls []) := by
  have hx := cx.1
  have hb := cx.2.1
  unfold fX6_actsShown_45 at h
  obtain ⟨x6, ex6, h⟩ := zLt_e h
  refine lv_iinc (v := x6) (lv' := [(3, .int x6), (0, .ref (q a0)), (1, .int v1), (2, .int v2)]) (pc := 45) hx hb dX6_actsShown_45 hl (k := 3) rfl (by rw [zc_1]; exact ex6.symm) (by decide) rfl (fun ls hl => ?_)
  refine lv_goto (pc := 48) (tgt := 4) hx hb dX6_actsShown_48 (by decide) ?_
  cases h
  exact hb1 _ _ hc _ (lv_sub hl [1, 2, 3, 0] rfl)
def fX6_actsShown_4 (S : zSt) (a0 : Nat) (v1 : Int32) (t : (Int32 × Int32)) : Option ((Int32 × Int32) ⊕ Int32) :=
  match t with
  | (v2, v3) => zBr ((S.1 a0 2) ≤ v3) (zXr (some v2)) (zGd (zIx v1 6) (zGd (zIx v3 12) (zBr ((S.1 (a0 + 6 + v1.toNatClampNeg) v3.toNatClampNeg) = (-1 : Int32)) (fX6_actsShown_45 S a0 v1 v2 v3) (zGd (zIx v1 6) (zGd (zIx v3 12) (zBr ((S.1 a0 1) < (S.1 (a0 + 6 + v1.toNatClampNeg) v3.toNatClampNeg)) (fX6_actsShown_45 S a0 v1 v2 v3) (zLt (v2 ||| ((1 : Int32) <<< (v3 &&& 31))) (fun x10 => fX6_actsShown_45 S a0 v1 x10 v3))))))))
set_option maxHeartbeats 4000000 in
set_option maxRecDepth 100000 in
theorem kX6_actsShown_4B {p : Program} {l : Launch} {e : Env} {s : State} {m : MethodId} {args : Array Value} {below : List Frame} {meth : Method} {c : Code} {D : va_G} {cy : Nat → ClassId} {q : Nat → Nat} (cx : zX RX6 cX6_actsShown 4 p s m args c D cy) (hr : meth.sig.returnType = (some .int)) (hlk : meth.locks = false) {a0 : Nat} (ha0 : zLife a0) {z : Int32} {S : zSt} {v1 : Int32} {v2 : Int32} {v3 : Int32} {C1 : ((Int32 × Int32) ⊕ Int32) → Prop} (hb1 : ∀ (v2 : Int32) (v3 : Int32), C1 (.inl (v2, v3)) → ∀ (ls : Array Slot), lv_has ls 4 [(0, .ref (q a0)), (1, .int v1), (2, .int v2), (3, .int v3)] → W p l e rmX6_actsShown s m args below meth c s.heap [] 0 0 (MQ below (vp_Si (fun x => x = z)) args s 0 0 (fun _ => False)) (F0 m 4 ls [])) (hx1 : ∀ a, C1 (.inr a) → a = z) (hP : va_P D vwCl (zW zsh zNC cy q S) s.heap) {x : ((Int32 × Int32) ⊕ Int32)} (h : fX6_actsShown_4 S a0 v1 (v2, v3) = some x) (hc : C1 x) {ls : Array Slot} (hl : lv_has ls 4 [(0, .ref (q a0)), (1, .int v1), (2, .int v2), (3, .int v3)]) : W p l e rmX6_actsShown s m args below meth c s.heap [] 0 0 (MQ below (vp_Si (fun x => x = z)) args s 0 0 (fun _ => False)) (F0 m 4 ls []) := by
  have hx := cx.1
  have hb := cx.2.1
  unfold fX6_actsShown_4 at h
  dsimp only at h
  refine lv_iload_n (pc := 4) hx hb dX6_actsShown_4 rfl (lv_at hl 3 rfl) ?_
  refine lv_aload_n (pc := 5) hx hb dX6_actsShown_5 rfl (lv_at hl 0 rfl) ?_
  refine zr_getI (pc := 6) cx lk_X6_46 hP (nX6_0 ha0) (sX6_0 ha0) rfl dX6_actsShown_6 ?_
  refine lv_icmp_ge (pc := 9) (tgt := 51) hx hb dX6_actsShown_9 (by decide) (fun c1 => ?_) (fun c1 => ?_)
  · replace h := zBr_t c1 h
    obtain ⟨y2, h, ex⟩ := zXr_e h
    have hc := hx1 y2 (by rw [ex] at hc; exact hc)
    rw [hc] at h
    refine lv_iload_n (pc := 51) hx hb dX6_actsShown_51 rfl (lv_at hl 2 rfl) ?_
    have hz := Option.some.inj h
    exact zr_reI (pc := 52) cx hr hlk hz dX6_actsShown_52
  · replace h := zBr_f c1 h
    refine lv_aload_n (pc := 12) hx hb dX6_actsShown_12 rfl (lv_at hl 0 rfl) ?_
    refine zr_getR (pc := 13) (t := (a0 + 5)) cx lk_X6_26 hP (nX6_0 ha0) (sX6_0 ha0) rfl dX6_actsShown_13 ?_
    refine lv_iload_n (pc := 16) hx hb dX6_actsShown_16 rfl (lv_at hl 1 rfl) ?_
    obtain ⟨g3, h⟩ := zGd_e h
    refine zr_aald (pc := 17) (g := (a0 + 6 + v1.toNatClampNeg)) cx hP (nX6_5 ha0) (sX6_5 ha0) (Or.inr (Or.inr rfl)) g3 rfl dX6_actsShown_17 ?_
    refine lv_iload_n (pc := 18) hx hb dX6_actsShown_18 rfl (lv_at hl 3 rfl) ?_
    obtain ⟨g4, h⟩ := zGd_e h
    refine zr_iald (pc := 19) cx hP (nX6_r ha0 g3) (sX6_r ha0 g3) g4 dX6_actsShown_19 ?_
    refine lv_iconst (pc := 20) hx hb dX6_actsShown_20 zc_m1 ?_
    refine lv_icmp_eq (pc := 21) (tgt := 45) hx hb dX6_actsShown_21 (by decide) (fun c5 => ?_) (fun c5 => ?_)
    · replace h := zBr_t c5 h
      exact kX6_actsShown_45 cx hr hlk ha0 hb1 hx1 hP h hc (lv_sub hl [0, 1, 2, 3] rfl)
    · replace h := zBr_f c5 h
      refine lv_aload_n (pc := 24) hx hb dX6_actsShown_24 rfl (lv_at hl 0 rfl) ?_
      refine zr_getR (pc := 25) (t := (a0 + 5)) cx lk_X6_26 hP (nX6_0 ha0) (sX6_0 ha0) rfl dX6_actsShown_25 ?_
      refine lv_iload_n (pc := 28) hx hb dX6_actsShown_28 rfl (lv_at hl 1 rfl) ?_
      obtain ⟨g7, h⟩ := zGd_e h
      refine zr_aald (pc := 29) (g := (a0 + 6 + v1.toNatClampNeg)) cx hP (nX6_5 ha0) (sX6_5 ha0) (Or.inr (Or.inr rfl)) g7 rfl dX6_actsShown_29 ?_
      refine lv_iload_n (pc := 30) hx hb dX6_actsShown_30 rfl (lv_at hl 3 rfl) ?_
      obtain ⟨g8, h⟩ := zGd_e h
      refine zr_iald (pc := 31) cx hP (nX6_r ha0 g7) (sX6_r ha0 g7) g8 dX6_actsShown_31 ?_
      refine lv_aload_n (pc := 32) hx hb dX6_actsShown_32 rfl (lv_at hl 0 rfl) ?_
      refine zr_getI (pc := 33) cx lk_X6_42 hP (nX6_0 ha0) (sX6_0 ha0) rfl dX6_actsShown_33 ?_
      refine lv_icmp_gt (pc := 36) (tgt := 45) hx hb dX6_actsShown_36 (by decide) (fun c9 => ?_) (fun c9 => ?_)
      · replace h := zBr_t c9 h
        exact kX6_actsShown_45 cx hr hlk ha0 hb1 hx1 hP h hc (lv_sub hl [0, 1, 2, 3] rfl)
      · replace h := zBr_f c9 h
        refine lv_iload_n (pc := 39) hx hb dX6_actsShown_39 rfl (lv_at hl 2 rfl) ?_
        refine lv_iconst (pc := 40) hx hb dX6_actsShown_40 zc_1 ?_
        refine lv_iload_n (pc := 41) hx hb dX6_actsShown_41 rfl (lv_at hl 3 rfl) ?_
        refine lv_ishl (pc := 42) hx hb dX6_actsShown_42 ?_
        refine lv_ior (pc := 43) hx hb dX6_actsShown_43 ?_
        obtain ⟨x10, ex10, h⟩ := zLt_e h
        refine zr_nmI ex10 ?_
        refine lv_istore_n (lv' := [(2, .int x10), (0, .ref (q a0)), (1, .int v1), (3, .int v3)]) (pc := 44) hx hb dX6_actsShown_44 rfl hl (by decide) rfl (fun ls hl => ?_)
        exact kX6_actsShown_45 cx hr hlk ha0 hb1 hx1 hP h hc (lv_sub hl [1, 2, 0, 3] rfl)
set_option maxHeartbeats 4000000 in
set_option maxRecDepth 100000 in
theorem kX6_actsShown_4 {p : Program} {l : Launch} {e : Env} {s : State} {m : MethodId} {args : Array Value} {below : List Frame} {meth : Method} {c : Code} {D : va_G} {cy : Nat → ClassId} {q : Nat → Nat} (cx : zX RX6 cX6_actsShown 4 p s m args c D cy) (hr : meth.sig.returnType = (some .int)) (hlk : meth.locks = false) {a0 : Nat} (ha0 : zLife a0) {z : Int32} {S : zSt} {v1 : Int32} (hP : va_P D vwCl (zW zsh zNC cy q S) s.heap) : ∀ (n : Nat) (v2 : Int32) (v3 : Int32), zLp (fX6_actsShown_4 S a0 v1) n (v2, v3) = some z → ∀ (ls : Array Slot), lv_has ls 4 [(0, .ref (q a0)), (1, .int v1), (2, .int v2), (3, .int v3)] → W p l e rmX6_actsShown s m args below meth c s.heap [] 0 0 (MQ below (vp_Si (fun x => x = z)) args s 0 0 (fun _ => False)) (F0 m 4 ls []) := by
  intro n
  induction n with
  | zero =>
    intro v2 v3 h
    cases h
  | succ n ih =>
    intro v2 v3 h ls hl
    obtain ⟨x, h, hk⟩ := zLp_e h
    exact kX6_actsShown_4B cx hr hlk ha0  (C1 := zKt (fun t => zLp (fX6_actsShown_4 S a0 v1) n t = some z) (fun a => a = z)) (fun v2 v3 ht ls hl => ih v2 v3 ht ls hl) (fun a ha => ha) hP h hk hl
def fX6_actsShown (S : zSt) (a0 : Nat) (v1 : Int32) : Option Int32 :=
  zLp (fX6_actsShown_4 S a0 v1) 2000 ((0 : Int32), (0 : Int32))
set_option maxHeartbeats 4000000 in
set_option maxRecDepth 100000 in
theorem mX6_actsShown {l : Launch} {D : va_G} {cy : Nat → ClassId} {q : Nat → Nat} {S : zSt} {a0 : Nat} {v1 : Int32} (ha0 : zLife a0) {z : Int32} (h : fX6_actsShown S a0 v1 = some z) : zMi l yX6_actsShown cX6_actsShown 4 (some .int) rmX6_actsShown [.ref (q a0), .int v1] (zPr zsh zNC D cy q S) z := by
  refine Met.ofW (cc := cX6_actsShown) (maxL := 4) (ret := (some .int)) (by decide) rfl ?_
  intro p e s m args below meth c s₁ B hml hv
  obtain ⟨rfl, hP, hK⟩ := hv
  have cx : zX RX6 cX6_actsShown 4 p s m ([.ref (q a0), .int v1]).toArray c D cy := ⟨B.exec, B.bytes, hml, findClass_of_methodNamed B.named, fun w hw => atoms_spec (ws := Cond.code yX6_actsShown cX6_actsShown 4 (some .int) :: zTB) B.pre w (List.mem_cons_of_mem _ hw), hK⟩
  have hx := cx.1
  have hb := cx.2.1
  have hr := B.returns
  have hlk := B.notSynchronized
  have hl := lv_entry ([.ref (q a0), .int v1]) (n := 4) (Nat.le_of_ble_eq_true rfl)
  rw [lg_entry_eq]
  generalize (lg_sl ([.ref (q a0), .int v1]) ++ List.replicate (4 - (lg_sl ([.ref (q a0), .int v1])).length) Slot.unset).toArray = ls at hl ⊢
  have hl : lv_has ls 4 [(0, .ref (q a0)), (1, .int v1)] := hl
  unfold fX6_actsShown at h
  refine lv_iconst (pc := 0) hx hb dX6_actsShown_0 zc_0 ?_
  refine lv_istore_n (lv' := [(2, .int (0 : Int32)), (0, .ref (q a0)), (1, .int v1)]) (pc := 1) hx hb dX6_actsShown_1 rfl hl (by decide) rfl (fun ls hl => ?_)
  refine lv_iconst (pc := 2) hx hb dX6_actsShown_2 zc_0 ?_
  refine lv_istore_n (lv' := [(3, .int (0 : Int32)), (2, .int (0 : Int32)), (0, .ref (q a0)), (1, .int v1)]) (pc := 3) hx hb dX6_actsShown_3 rfl hl (by decide) rfl (fun ls hl => ?_)
  exact kX6_actsShown_4 cx hr hlk ha0 hP 2000 _ _ h _ (lv_sub hl [2, 3, 1, 0] rfl)
-- X11_elder
abbrev rmX11_elder : Room := { frames := 1, cells := 0, slots := 0, locals := 23 }
def fX11_elder_43 (S : zSt)  (v1 : Int32) (v2 : Int32) (v3 : Int32) : Option ((Int32 × Int32 × Int32) ⊕ Int32) :=
  zLt (v3 + (1 : Int32)) (fun x9 => some (.inl (v1, v2, x9)))
set_option maxHeartbeats 4000000 in
set_option maxRecDepth 100000 in
theorem kX11_elder_43 {p : Program} {l : Launch} {e : Env} {s : State} {m : MethodId} {args : Array Value} {below : List Frame} {meth : Method} {c : Code} {D : va_G} {cy : Nat → ClassId} {q : Nat → Nat} (cx : zX RX11 cX11_elder 5 p s m args c D cy) (hr : meth.sig.returnType = (some .int)) (hlk : meth.locks = false) {z : Int32} {S : zSt} {v1 : Int32} {v2 : Int32} {v3 : Int32} {C1 : ((Int32 × Int32 × Int32) ⊕ Int32) → Prop} (hb1 : ∀ (v1 : Int32) (v2 : Int32) (v3 : Int32), C1 (.inl (v1, v2, v3)) → ∀ (ls : Array Slot), lv_has ls 5 [(0, .ref (q 0)), (1, .int v1), (2, .int v2), (3, .int v3)] → W p l e rmX11_elder s m args below meth c s.heap [] 0 0 (MQ below (vp_Si (fun x => x = z)) args s 0 0 (fun _ => False)) (F0 m 6 ls [])) (hx1 : ∀ a, C1 (.inr a) → a = z) (hP : va_P D vwCl (zW zsh zNC cy q S) s.heap) {x : ((Int32 × Int32 × Int32) ⊕ Int32)} (h : fX11_elder_43 S v1 v2 v3 = some x) (hc : C1 x) {ls : Array Slot} (hl : lv_has ls 5 [(0, .ref (q 0)), (1, .int v1), (2, .int v2), (3, .int v3)]) : W p l e rmX11_elder s m args below meth c s.heap [] 0 0 (MQ below (vp_Si (fun x => x = z)) args s 0 0 (fun _ => False)) (F0 m 43 ls []) := by
  have hx := cx.1
  have hb := cx.2.1
  unfold fX11_elder_43 at h
  obtain ⟨x9, ex9, h⟩ := zLt_e h
  refine lv_iinc (v := x9) (lv' := [(3, .int x9), (0, .ref (q 0)), (1, .int v1), (2, .int v2)]) (pc := 43) hx hb dX11_elder_43 hl (k := 3) rfl (by rw [zc_1]; exact ex9.symm) (by decide) rfl (fun ls hl => ?_)
  refine lv_goto (pc := 46) (tgt := 6) hx hb dX11_elder_46 (by decide) ?_
  cases h
  exact hb1 _ _ _ hc _ (lv_sub hl [1, 2, 3, 0] rfl)
def fX11_elder_6 (S : zSt)  (t : (Int32 × Int32 × Int32)) : Option ((Int32 × Int32 × Int32) ⊕ Int32) :=
  match t with
  | (v1, v2, v3) => zGd (zIx (1 : Int32) 4) (zBr ((S.1 (4 + 1) (1 : Int32).toNatClampNeg) ≤ v3) (zXr (some v1)) (zBd (fX6_actsShown S 14 v3) (fun r5 => zBd (fJ6_bitCount_0f7a4 r5) (fun r7 => zBr (r7 ≤ v2) (fX11_elder_43 S v1 v2 v3) (fX11_elder_43 S v3 r7 v3)))))
set_option maxHeartbeats 4000000 in
set_option maxRecDepth 100000 in
theorem kX11_elder_6B {p : Program} {l : Launch} {e : Env} {s : State} {m : MethodId} {args : Array Value} {below : List Frame} {meth : Method} {c : Code} {D : va_G} {cy : Nat → ClassId} {q : Nat → Nat} (cx : zX RX11 cX11_elder 5 p s m args c D cy) (hr : meth.sig.returnType = (some .int)) (hlk : meth.locks = false) {z : Int32} {S : zSt} {v1 : Int32} {v2 : Int32} {v3 : Int32} {C1 : ((Int32 × Int32 × Int32) ⊕ Int32) → Prop} (hb1 : ∀ (v1 : Int32) (v2 : Int32) (v3 : Int32), C1 (.inl (v1, v2, v3)) → ∀ (ls : Array Slot), lv_has ls 5 [(0, .ref (q 0)), (1, .int v1), (2, .int v2), (3, .int v3)] → W p l e rmX11_elder s m args below meth c s.heap [] 0 0 (MQ below (vp_Si (fun x => x = z)) args s 0 0 (fun _ => False)) (F0 m 6 ls [])) (hx1 : ∀ a, C1 (.inr a) → a = z) (hP : va_P D vwCl (zW zsh zNC cy q S) s.heap) {x : ((Int32 × Int32 × Int32) ⊕ Int32)} (h : fX11_elder_6 S (v1, v2, v3) = some x) (hc : C1 x) {ls : Array Slot} (hl : lv_has ls 5 [(0, .ref (q 0)), (1, .int v1), (2, .int v2), (3, .int v3)]) : W p l e rmX11_elder s m args below meth c s.heap [] 0 0 (MQ below (vp_Si (fun x => x = z)) args s 0 0 (fun _ => False)) (F0 m 6 ls []) := by
  have hx := cx.1
  have hb := cx.2.1
  unfold fX11_elder_6 at h
  dsimp only at h
  refine lv_iload_n (pc := 6) hx hb dX11_elder_6 rfl (lv_at hl 3 rfl) ?_
  refine lv_aload_n (pc := 7) hx hb dX11_elder_7 rfl (lv_at hl 0 rfl) ?_
  refine zr_getR (pc := 8) (t := 4) cx lk_X11_19 hP nC_0 sC_0 rfl dX11_elder_8 ?_
  refine zr_getR (pc := 11) (t := (4 + 1)) cx lk_X11_312 hP (nX3_0 zHouse_4) (sX3_0 zHouse_4) rfl dX11_elder_11 ?_
  refine lv_iconst (pc := 14) hx hb dX11_elder_14 zc_1 ?_
  obtain ⟨g1, h⟩ := zGd_e h
  refine zr_iald (pc := 15) cx hP (nX3_1 zHouse_4) (sX3_1 zHouse_4) g1 dX11_elder_15 ?_
  refine lv_icmp_ge (pc := 16) (tgt := 49) hx hb dX11_elder_16 (by decide) (fun c2 => ?_) (fun c2 => ?_)
  · replace h := zBr_t c2 h
    obtain ⟨y3, h, ex⟩ := zXr_e h
    have hc := hx1 y3 (by rw [ex] at hc; exact hc)
    rw [hc] at h
    refine lv_iload_n (pc := 49) hx hb dX11_elder_49 rfl (lv_at hl 1 rfl) ?_
    have hz := Option.some.inj h
    exact zr_reI (pc := 50) cx hr hlk hz dX11_elder_50
  · replace h := zBr_f c2 h
    refine lv_aload_n (pc := 19) hx hb dX11_elder_19 rfl (lv_at hl 0 rfl) ?_
    refine zr_getR (pc := 20) (t := 14) cx lk_X11_28 hP nC_0 sC_0 rfl dX11_elder_20 ?_
    refine lv_iload_n (pc := 23) hx hb dX11_elder_23 rfl (lv_at hl 3 rfl) ?_
    obtain ⟨r5, k4, h⟩ := zBd_e h
    refine zr_VI (pc := 24) (rest := []) cx cv_X11_173 (mX6_actsShown zLife_14 k4) ⟨⟨rfl, rfl⟩, Nat.le_of_ble_eq_true rfl, Nat.le_of_ble_eq_true rfl⟩ ⟨Nat.le_of_ble_eq_true rfl, Nat.le_of_ble_eq_true rfl⟩ hP (nX6_0 zLife_14) (sX6_0 zLife_14) rfl hl.1 rfl rfl (Nat.le_of_ble_eq_true rfl) dX11_elder_24 ?_
    obtain ⟨r7, k6, h⟩ := zBd_e h
    refine zr_SI (pc := 27) (rest := []) cx cv_X11_176 (mJ6_bitCount_0f7a4 k6) ⟨⟨rfl, rfl⟩, Nat.le_of_ble_eq_true rfl, Nat.le_of_ble_eq_true rfl⟩ ⟨Nat.le_of_ble_eq_true rfl, Nat.le_of_ble_eq_true rfl⟩ (zr_preK cx) hl.1 rfl rfl (Nat.le_of_ble_eq_true rfl) dX11_elder_27 ?_
    refine lv_istore (lv' := [(4, .int r7), (0, .ref (q 0)), (1, .int v1), (2, .int v2), (3, .int v3)]) (pc := 30) hx hb dX11_elder_30 hl (by decide) rfl (fun ls hl => ?_)
    refine lv_iload (pc := 32) hx hb dX11_elder_32 (lv_at hl 0 rfl) ?_
    refine lv_iload_n (pc := 34) hx hb dX11_elder_34 rfl (lv_at hl 3 rfl) ?_
    refine lv_icmp_le (pc := 35) (tgt := 43) hx hb dX11_elder_35 (by decide) (fun c8 => ?_) (fun c8 => ?_)
    · replace h := zBr_t c8 h
      exact kX11_elder_43 cx hr hlk hb1 hx1 hP h hc (lv_sub hl [1, 2, 3, 4] rfl)
    · replace h := zBr_f c8 h
      refine lv_iload (pc := 38) hx hb dX11_elder_38 (lv_at hl 0 rfl) ?_
      refine lv_istore_n (lv' := [(2, .int r7), (4, .int r7), (0, .ref (q 0)), (1, .int v1), (3, .int v3)]) (pc := 40) hx hb dX11_elder_40 rfl hl (by decide) rfl (fun ls hl => ?_)
      refine lv_iload_n (pc := 41) hx hb dX11_elder_41 rfl (lv_at hl 4 rfl) ?_
      refine lv_istore_n (lv' := [(1, .int v3), (2, .int r7), (4, .int r7), (0, .ref (q 0)), (3, .int v3)]) (pc := 42) hx hb dX11_elder_42 rfl hl (by decide) rfl (fun ls hl => ?_)
      exact kX11_elder_43 cx hr hlk hb1 hx1 hP h hc (lv_sub hl [3, 0, 1, 4] rfl)
set_option maxHeartbeats 4000000 in
set_option maxRecDepth 100000 in
theorem kX11_elder_6 {p : Program} {l : Launch} {e : Env} {s : State} {m : MethodId} {args : Array Value} {below : List Frame} {meth : Method} {c : Code} {D : va_G} {cy : Nat → ClassId} {q : Nat → Nat} (cx : zX RX11 cX11_elder 5 p s m args c D cy) (hr : meth.sig.returnType = (some .int)) (hlk : meth.locks = false) {z : Int32} {S : zSt} (hP : va_P D vwCl (zW zsh zNC cy q S) s.heap) : ∀ (n : Nat) (v1 : Int32) (v2 : Int32) (v3 : Int32), zLp (fX11_elder_6 S) n (v1, v2, v3) = some z → ∀ (ls : Array Slot), lv_has ls 5 [(0, .ref (q 0)), (1, .int v1), (2, .int v2), (3, .int v3)] → W p l e rmX11_elder s m args below meth c s.heap [] 0 0 (MQ below (vp_Si (fun x => x = z)) args s 0 0 (fun _ => False)) (F0 m 6 ls []) := by
  intro n
  induction n with
  | zero =>
    intro v1 v2 v3 h
    cases h
  | succ n ih =>
    intro v1 v2 v3 h ls hl
    obtain ⟨x, h, hk⟩ := zLp_e h
    exact kX11_elder_6B cx hr hlk  (C1 := zKt (fun t => zLp (fX11_elder_6 S) n t = some z) (fun a => a = z)) (fun v1 v2 v3 ht ls hl => ih v1 v2 v3 ht ls hl) (fun a ha => ha) hP h hk hl
def fX11_elder (S : zSt) : Option Int32 :=
  zLp (fX11_elder_6 S) 2000 ((-1 : Int32), (0 : Int32), (0 : Int32))
set_option maxHeartbeats 4000000 in
set_option maxRecDepth 100000 in
theorem mX11_elder {l : Launch} {D : va_G} {cy : Nat → ClassId} {q : Nat → Nat} {S : zSt} {z : Int32} (h : fX11_elder S = some z) : zMi l yX11_elder cX11_elder 5 (some .int) rmX11_elder [.ref (q 0)] (zPr zsh zNC D cy q S) z := by
  refine Met.ofW (cc := cX11_elder) (maxL := 5) (ret := (some .int)) (by decide) rfl ?_
  intro p e s m args below meth c s₁ B hml hv
  obtain ⟨rfl, hP, hK⟩ := hv
  have cx : zX RX11 cX11_elder 5 p s m ([.ref (q 0)]).toArray c D cy := ⟨B.exec, B.bytes, hml, findClass_of_methodNamed B.named, fun w hw => atoms_spec (ws := Cond.code yX11_elder cX11_elder 5 (some .int) :: zTB) B.pre w (List.mem_cons_of_mem _ hw), hK⟩
  have hx := cx.1
  have hb := cx.2.1
  have hr := B.returns
  have hlk := B.notSynchronized
  have hl := lv_entry ([.ref (q 0)]) (n := 5) (Nat.le_of_ble_eq_true rfl)
  rw [lg_entry_eq]
  generalize (lg_sl ([.ref (q 0)]) ++ List.replicate (5 - (lg_sl ([.ref (q 0)])).length) Slot.unset).toArray = ls at hl ⊢
  have hl : lv_has ls 5 [(0, .ref (q 0))] := hl
  unfold fX11_elder at h
  refine lv_iconst (pc := 0) hx hb dX11_elder_0 zc_m1 ?_
  refine lv_istore_n (lv' := [(1, .int (-1 : Int32)), (0, .ref (q 0))]) (pc := 1) hx hb dX11_elder_1 rfl hl (by decide) rfl (fun ls hl => ?_)
  refine lv_iconst (pc := 2) hx hb dX11_elder_2 zc_0 ?_
  refine lv_istore_n (lv' := [(2, .int (0 : Int32)), (1, .int (-1 : Int32)), (0, .ref (q 0))]) (pc := 3) hx hb dX11_elder_3 rfl hl (by decide) rfl (fun ls hl => ?_)
  refine lv_iconst (pc := 4) hx hb dX11_elder_4 zc_0 ?_
  refine lv_istore_n (lv' := [(3, .int (0 : Int32)), (2, .int (0 : Int32)), (1, .int (-1 : Int32)), (0, .ref (q 0))]) (pc := 5) hx hb dX11_elder_5 rfl hl (by decide) rfl (fun ls hl => ?_)
  exact kX11_elder_6 cx hr hlk hP 2000 _ _ _ h _ (lv_sub hl [3, 2, 1, 0] rfl)
-- X11_end
abbrev rmX11_end : Room := { frames := 0, cells := 0, slots := 0, locals := 0 }
def fX11_end (S : zSt) (v1 : Int32) : Option (Int32 × zSt) :=
  zBr (v1 < 0) (some ((0 : Int32), S)) (zBr (v1 ≤ (S.1 1 1)) (zLt (zI S 1 1 v1) (fun S3 => some ((1 : Int32), S3))) (some ((0 : Int32), S)))
set_option maxHeartbeats 4000000 in
set_option maxRecDepth 100000 in
theorem mX11_end {l : Launch} {D : va_G} {cy : Nat → ClassId} {q : Nat → Nat} {A : Nat → Prop} {S : zSt} {v1 : Int32} (hq : zQ A q zNC) {z : (Int32 × zSt)} (h : fX11_end S v1 = some z) : zMq l yX11_end cX11_end 2 (some .boolean) rmX11_end [.ref (q 0), .int v1] zsh zNC D cy q A S z := by
  refine Met.ofW (cc := cX11_end) (maxL := 2) (ret := (some .boolean)) (by decide) rfl ?_
  intro p e s m args below meth c s₁ B hml hv
  obtain ⟨rfl, hP, hK⟩ := hv
  have cx : zX RX11 cX11_end 2 p s m ([.ref (q 0), .int v1]).toArray c D cy := ⟨B.exec, B.bytes, hml, findClass_of_methodNamed B.named, fun w hw => atoms_spec (ws := Cond.code yX11_end cX11_end 2 (some .boolean) :: zTB) B.pre w (List.mem_cons_of_mem _ hw), hK⟩
  have hx := cx.1
  have hb := cx.2.1
  have hr := B.returns
  have hlk := B.notSynchronized
  have hS : va_S A s.heap s.heap [] := va_S.rf
  have hl := lv_entry ([.ref (q 0), .int v1]) (n := 2) (Nat.le_of_ble_eq_true rfl)
  rw [lg_entry_eq]
  generalize (lg_sl ([.ref (q 0), .int v1]) ++ List.replicate (2 - (lg_sl ([.ref (q 0), .int v1])).length) Slot.unset).toArray = ls at hl ⊢
  have hl : lv_has ls 2 [(0, .ref (q 0)), (1, .int v1)] := hl
  unfold fX11_end at h
  refine lv_iload_n (pc := 0) hx hb dX11_end_0 rfl (lv_at hl 1 rfl) ?_
  refine lv_if_lt (pc := 1) (tgt := 15) hx hb dX11_end_1 (by decide) (fun c1 => ?_) (fun c1 => ?_)
  · replace h := zBr_t c1 h
    refine lv_iconst (pc := 15) hx hb dX11_end_15 zc_0 ?_
    have hz := Option.some.inj h
    exact zr_rqZ (pc := 16) cx hr hlk hP hS hz (by decide) dX11_end_16
  · replace h := zBr_f c1 h
    refine lv_iload_n (pc := 4) hx hb dX11_end_4 rfl (lv_at hl 1 rfl) ?_
    refine lv_aload_n (pc := 5) hx hb dX11_end_5 rfl (lv_at hl 0 rfl) ?_
    refine zr_getR (pc := 6) (t := 1) cx lk_X11_10 hP nC_0 sC_0 rfl dX11_end_6 ?_
    refine zr_getI (pc := 9) cx lk_X11_114 hP nC_1 sC_1 rfl dX11_end_9 ?_
    refine lv_icmp_le (pc := 12) (tgt := 17) hx hb dX11_end_12 (by decide) (fun c2 => ?_) (fun c2 => ?_)
    · replace h := zBr_t c2 h
      refine lv_aload_n (pc := 17) hx hb dX11_end_17 rfl (lv_at hl 0 rfl) ?_
      refine zr_getR (pc := 18) (t := 1) cx lk_X11_10 hP nC_0 sC_0 rfl dX11_end_18 ?_
      refine lv_iload_n (pc := 21) hx hb dX11_end_21 rfl (lv_at hl 1 rfl) ?_
      obtain ⟨S3, eS3, h⟩ := zLt_e h
      refine zr_putI (pc := 22) cx lq_X11_114 hq hP hS nC_1 sC_1 rfl rfl rfl dX11_end_22 (fun H locs hP hS => ?_)
      rw [← eS3] at hP
      refine lv_iconst (pc := 25) hx hb dX11_end_25 zc_1 ?_
      have hz := Option.some.inj h
      exact zr_rqZ (pc := 26) cx hr hlk hP hS hz (by decide) dX11_end_26
    · replace h := zBr_f c2 h
      refine lv_iconst (pc := 15) hx hb dX11_end_15 zc_0 ?_
      have hz := Option.some.inj h
      exact zr_rqZ (pc := 16) cx hr hlk hP hS hz (by decide) dX11_end_16
-- X11_fault
abbrev rmX11_fault : Room := { frames := 0, cells := 0, slots := 0, locals := 0 }
def fX11_fault (S : zSt) : Option Int32 :=
  some (S.1 0 14)
set_option maxHeartbeats 4000000 in
set_option maxRecDepth 100000 in
theorem mX11_fault {l : Launch} {D : va_G} {cy : Nat → ClassId} {q : Nat → Nat} {S : zSt} {z : Int32} (h : fX11_fault S = some z) : zMi l yX11_fault cX11_fault 1 (some .int) rmX11_fault [.ref (q 0)] (zPr zsh zNC D cy q S) z := by
  refine Met.ofW (cc := cX11_fault) (maxL := 1) (ret := (some .int)) (by decide) rfl ?_
  intro p e s m args below meth c s₁ B hml hv
  obtain ⟨rfl, hP, hK⟩ := hv
  have cx : zX RX11 cX11_fault 1 p s m ([.ref (q 0)]).toArray c D cy := ⟨B.exec, B.bytes, hml, findClass_of_methodNamed B.named, fun w hw => atoms_spec (ws := Cond.code yX11_fault cX11_fault 1 (some .int) :: zTB) B.pre w (List.mem_cons_of_mem _ hw), hK⟩
  have hx := cx.1
  have hb := cx.2.1
  have hr := B.returns
  have hlk := B.notSynchronized
  have hl := lv_entry ([.ref (q 0)]) (n := 1) (Nat.le_of_ble_eq_true rfl)
  rw [lg_entry_eq]
  generalize (lg_sl ([.ref (q 0)]) ++ List.replicate (1 - (lg_sl ([.ref (q 0)])).length) Slot.unset).toArray = ls at hl ⊢
  have hl : lv_has ls 1 [(0, .ref (q 0))] := hl
  unfold fX11_fault at h
  refine lv_aload_n (pc := 0) hx hb dX11_fault_0 rfl (lv_at hl 0 rfl) ?_
  refine zr_getI (pc := 1) cx lk_X11_146 hP nC_0 sC_0 rfl dX11_fault_1 ?_
  have hz := Option.some.inj h
  exact zr_reI (pc := 4) cx hr hlk hz dX11_fault_4
-- X9_addNumber
abbrev rmX9_addNumber : Room := { frames := 0, cells := 0, slots := 0, locals := 0 }
def fX9_addNumber_3  (v1 : Int32) (t : (zSt × Int32)) : Option ((zSt × Int32) ⊕ zSt) :=
  match t with
  | (S, v2) => zBr (v2 < 0) (zXr (some S)) (zBr ((940 : Int32) ≤ (S.1 1 1)) (zXr (some S)) (zGd (zIx (S.1 1 1) 940) (zLt (zI S 2 (S.1 1 1).toNatClampNeg (vp_nar .char (zI2c ((zUsh v1 v2) &&& (255 : Int32))))) (fun S6 => zLt (zI S6 1 1 ((S6.1 1 1) + (1 : Int32))) (fun S7 => zLt (v2 + (-8 : Int32)) (fun x8 => some (.inl (S7, x8))))))))
set_option maxHeartbeats 4000000 in
set_option maxRecDepth 100000 in
theorem kX9_addNumber_3B {p : Program} {l : Launch} {e : Env} {s : State} {m : MethodId} {args : Array Value} {below : List Frame} {meth : Method} {c : Code} {D : va_G} {cy : Nat → ClassId} {q : Nat → Nat} {A : Nat → Prop} (cx : zX RX9 cX9_addNumber 3 p s m args c D cy) (hr : meth.sig.returnType = none) (hlk : meth.locks = false) (hq : zQ A q zNC) {z : zSt} {S : zSt} {v1 : Int32} {v2 : Int32} {C1 : ((zSt × Int32) ⊕ zSt) → Prop} (hb1 : ∀ (S : zSt) (v2 : Int32), C1 (.inl (S, v2)) → ∀ (H : Heap) (locs : List Loc), va_P D vwCl (zW zsh zNC cy q S) H → va_S A s.heap H locs → ∀ (ls : Array Slot), lv_has ls 3 [(0, .ref (q 1)), (1, .int v1), (2, .int v2)] → W p l e rmX9_addNumber s m args below meth c H locs 0 0 (MQ below (va_Qv (fun (u : zSt) => u = z) (fun u t => va_P D vwCl (zW zsh zNC cy q u) t.heap) A) args s 0 0 A) (F0 m 3 ls [])) (hx1 : ∀ a, C1 (.inr a) → a = z) {x : ((zSt × Int32) ⊕ zSt)} (h : fX9_addNumber_3 v1 (S, v2) = some x) (hc : C1 x) {H : Heap} {locs : List Loc} (hP : va_P D vwCl (zW zsh zNC cy q S) H) (hS : va_S A s.heap H locs) {ls : Array Slot} (hl : lv_has ls 3 [(0, .ref (q 1)), (1, .int v1), (2, .int v2)]) : W p l e rmX9_addNumber s m args below meth c H locs 0 0 (MQ below (va_Qv (fun (u : zSt) => u = z) (fun u t => va_P D vwCl (zW zsh zNC cy q u) t.heap) A) args s 0 0 A) (F0 m 3 ls []) := by
  have hx := cx.1
  have hb := cx.2.1
  unfold fX9_addNumber_3 at h
  dsimp only at h
  refine lv_iload_n (pc := 3) hx hb dX9_addNumber_3 rfl (lv_at hl 2 rfl) ?_
  refine lv_if_lt (pc := 4) (tgt := 50) hx hb dX9_addNumber_4 (by decide) (fun c1 => ?_) (fun c1 => ?_)
  · replace h := zBr_t c1 h
    obtain ⟨y2, h, ex⟩ := zXr_e h
    have hc := hx1 y2 (by rw [ex] at hc; exact hc)
    rw [hc] at h
    have hz := Option.some.inj h
    exact zr_rqV (pc := 50) cx hr hlk hP hS hz dX9_addNumber_50
  · replace h := zBr_f c1 h
    refine lv_aload_n (pc := 7) hx hb dX9_addNumber_7 rfl (lv_at hl 0 rfl) ?_
    refine zr_getI (pc := 8) cx lk_X9_31 hP nC_1 sC_1 rfl dX9_addNumber_8 ?_
    refine lv_sipush (pc := 11) hx hb dX9_addNumber_11 zs_940 ?_
    refine lv_icmp_ge (pc := 14) (tgt := 50) hx hb dX9_addNumber_14 (by decide) (fun c3 => ?_) (fun c3 => ?_)
    · replace h := zBr_t c3 h
      obtain ⟨y4, h, ex⟩ := zXr_e h
      have hc := hx1 y4 (by rw [ex] at hc; exact hc)
      rw [hc] at h
      have hz := Option.some.inj h
      exact zr_rqV (pc := 50) cx hr hlk hP hS hz dX9_addNumber_50
    · replace h := zBr_f c3 h
      refine lv_aload_n (pc := 17) hx hb dX9_addNumber_17 rfl (lv_at hl 0 rfl) ?_
      refine zr_getR (pc := 18) (t := 2) cx lk_X9_9 hP nC_1 sC_1 rfl dX9_addNumber_18 ?_
      refine lv_aload_n (pc := 21) hx hb dX9_addNumber_21 rfl (lv_at hl 0 rfl) ?_
      refine zr_getI (pc := 22) cx lk_X9_31 hP nC_1 sC_1 rfl dX9_addNumber_22 ?_
      refine lv_iload_n (pc := 25) hx hb dX9_addNumber_25 rfl (lv_at hl 1 rfl) ?_
      refine lv_iload_n (pc := 26) hx hb dX9_addNumber_26 rfl (lv_at hl 2 rfl) ?_
      refine lv_iushr (v := (zUsh v1 v2)) (pc := 27) hx hb dX9_addNumber_27 rfl ?_
      refine lv_sipush (pc := 28) hx hb dX9_addNumber_28 zs_255 ?_
      refine lv_iand (pc := 31) hx hb dX9_addNumber_31 ?_
      refine lv_i2c (v := (zI2c ((zUsh v1 v2) &&& (255 : Int32)))) (pc := 32) hx hb dX9_addNumber_32 rfl ?_
      obtain ⟨g5, h⟩ := zGd_e h
      obtain ⟨S6, eS6, h⟩ := zLt_e h
      refine zr_cast (pc := 33) cx hq hP hS nC_2 sC_2 g5 dX9_addNumber_33 (fun H locs hP hS => ?_)
      rw [← eS6] at hP
      refine lv_aload_n (pc := 34) hx hb dX9_addNumber_34 rfl (lv_at hl 0 rfl) ?_
      refine lv_dup (pc := 35) hx hb dX9_addNumber_35 rfl ?_
      refine zr_getI (pc := 36) cx lk_X9_31 hP nC_1 sC_1 rfl dX9_addNumber_36 ?_
      refine lv_iconst (pc := 39) hx hb dX9_addNumber_39 zc_1 ?_
      refine lv_iadd (pc := 40) hx hb dX9_addNumber_40 ?_
      obtain ⟨S7, eS7, h⟩ := zLt_e h
      refine zr_putI (pc := 41) cx lq_X9_31 hq hP hS nC_1 sC_1 rfl rfl rfl dX9_addNumber_41 (fun H locs hP hS => ?_)
      rw [← eS7] at hP
      obtain ⟨x8, ex8, h⟩ := zLt_e h
      refine lv_iinc (v := x8) (lv' := [(2, .int x8), (0, .ref (q 1)), (1, .int v1)]) (pc := 44) hx hb dX9_addNumber_44 hl (k := 2) rfl (by rw [zc_m8]; exact ex8.symm) (by decide) rfl (fun ls hl => ?_)
      refine lv_goto (pc := 47) (tgt := 3) hx hb dX9_addNumber_47 (by decide) ?_
      cases h
      exact hb1 _ _ hc _ _ hP hS _ (lv_sub hl [1, 2, 0] rfl)
set_option maxHeartbeats 4000000 in
set_option maxRecDepth 100000 in
theorem kX9_addNumber_3 {p : Program} {l : Launch} {e : Env} {s : State} {m : MethodId} {args : Array Value} {below : List Frame} {meth : Method} {c : Code} {D : va_G} {cy : Nat → ClassId} {q : Nat → Nat} {A : Nat → Prop} (cx : zX RX9 cX9_addNumber 3 p s m args c D cy) (hr : meth.sig.returnType = none) (hlk : meth.locks = false) (hq : zQ A q zNC) {z : zSt} {v1 : Int32} : ∀ (n : Nat) (S : zSt) (v2 : Int32), zLp (fX9_addNumber_3 v1) n (S, v2) = some z → ∀ (H : Heap) (locs : List Loc), va_P D vwCl (zW zsh zNC cy q S) H → va_S A s.heap H locs → ∀ (ls : Array Slot), lv_has ls 3 [(0, .ref (q 1)), (1, .int v1), (2, .int v2)] → W p l e rmX9_addNumber s m args below meth c H locs 0 0 (MQ below (va_Qv (fun (u : zSt) => u = z) (fun u t => va_P D vwCl (zW zsh zNC cy q u) t.heap) A) args s 0 0 A) (F0 m 3 ls []) := by
  intro n
  induction n with
  | zero =>
    intro S v2 h
    cases h
  | succ n ih =>
    intro S v2 h H locs hP hS ls hl
    obtain ⟨x, h, hk⟩ := zLp_e h
    exact kX9_addNumber_3B cx hr hlk hq  (C1 := zKt (fun t => zLp (fX9_addNumber_3 v1) n t = some z) (fun a => a = z)) (fun S v2 ht H locs hP hS ls hl => ih S v2 ht H locs hP hS ls hl) (fun a ha => ha) h hk hP hS hl
def fX9_addNumber (S : zSt) (v1 : Int32) : Option zSt :=
  zLp (fX9_addNumber_3 v1) 2000 (S, (24 : Int32))
set_option maxHeartbeats 4000000 in
set_option maxRecDepth 100000 in
theorem mX9_addNumber {l : Launch} {D : va_G} {cy : Nat → ClassId} {q : Nat → Nat} {A : Nat → Prop} {S : zSt} {v1 : Int32} (hq : zQ A q zNC) {z : zSt} (h : fX9_addNumber S v1 = some z) : zMv l yX9_addNumber cX9_addNumber 3 none rmX9_addNumber [.ref (q 1), .int v1] zsh zNC D cy q A S z := by
  refine Met.ofW (cc := cX9_addNumber) (maxL := 3) (ret := none) (by decide) rfl ?_
  intro p e s m args below meth c s₁ B hml hv
  obtain ⟨rfl, hP, hK⟩ := hv
  have cx : zX RX9 cX9_addNumber 3 p s m ([.ref (q 1), .int v1]).toArray c D cy := ⟨B.exec, B.bytes, hml, findClass_of_methodNamed B.named, fun w hw => atoms_spec (ws := Cond.code yX9_addNumber cX9_addNumber 3 none :: zTB) B.pre w (List.mem_cons_of_mem _ hw), hK⟩
  have hx := cx.1
  have hb := cx.2.1
  have hr := B.returns
  have hlk := B.notSynchronized
  have hS : va_S A s.heap s.heap [] := va_S.rf
  have hl := lv_entry ([.ref (q 1), .int v1]) (n := 3) (Nat.le_of_ble_eq_true rfl)
  rw [lg_entry_eq]
  generalize (lg_sl ([.ref (q 1), .int v1]) ++ List.replicate (3 - (lg_sl ([.ref (q 1), .int v1])).length) Slot.unset).toArray = ls at hl ⊢
  have hl : lv_has ls 3 [(0, .ref (q 1)), (1, .int v1)] := hl
  unfold fX9_addNumber at h
  refine lv_bipush (pc := 0) hx hb dX9_addNumber_0 zb_24 ?_
  refine lv_istore_n (lv' := [(2, .int (24 : Int32)), (0, .ref (q 1)), (1, .int v1)]) (pc := 2) hx hb dX9_addNumber_2 rfl hl (by decide) rfl (fun ls hl => ?_)
  exact kX9_addNumber_3 cx hr hlk hq 2000 _ _ h _ _ hP hS _ (lv_sub hl [1, 2, 0] rfl)
-- X11_feed
abbrev rmX11_feed : Room := { frames := 1, cells := 0, slots := 0, locals := 22 }
def fX11_feed (S : zSt) (v1 : Int32) (v2 : Int32) (v3 : Int32) (v4 : Int32) (v5 : Int32) : Option (Int32 × zSt) :=
  zBr (((S.1 1 1) + (20 : Int32)) ≤ (940 : Int32)) (zBd (fX9_addNumber S v1) (fun S3 => zBd (fX9_addNumber S3 v2) (fun S5 => zBd (fX9_addNumber S5 v3) (fun S7 => zBd (fX9_addNumber S7 v4) (fun S9 => zBd (fX9_addNumber S9 v5) (fun S11 => some ((S11.1 1 1), S11))))))) (some ((-1 : Int32), S))
set_option maxHeartbeats 4000000 in
set_option maxRecDepth 100000 in
theorem mX11_feed {l : Launch} {D : va_G} {cy : Nat → ClassId} {q : Nat → Nat} {A : Nat → Prop} {S : zSt} {v1 : Int32} {v2 : Int32} {v3 : Int32} {v4 : Int32} {v5 : Int32} (hq : zQ A q zNC) {z : (Int32 × zSt)} (h : fX11_feed S v1 v2 v3 v4 v5 = some z) : zMq l yX11_feed cX11_feed 6 (some .int) rmX11_feed [.ref (q 0), .int v1, .int v2, .int v3, .int v4, .int v5] zsh zNC D cy q A S z := by
  refine Met.ofW (cc := cX11_feed) (maxL := 6) (ret := (some .int)) (by decide) rfl ?_
  intro p e s m args below meth c s₁ B hml hv
  obtain ⟨rfl, hP, hK⟩ := hv
  have cx : zX RX11 cX11_feed 6 p s m ([.ref (q 0), .int v1, .int v2, .int v3, .int v4, .int v5]).toArray c D cy := ⟨B.exec, B.bytes, hml, findClass_of_methodNamed B.named, fun w hw => atoms_spec (ws := Cond.code yX11_feed cX11_feed 6 (some .int) :: zTB) B.pre w (List.mem_cons_of_mem _ hw), hK⟩
  have hx := cx.1
  have hb := cx.2.1
  have hr := B.returns
  have hlk := B.notSynchronized
  have hS : va_S A s.heap s.heap [] := va_S.rf
  have hl := lv_entry ([.ref (q 0), .int v1, .int v2, .int v3, .int v4, .int v5]) (n := 6) (Nat.le_of_ble_eq_true rfl)
  rw [lg_entry_eq]
  generalize (lg_sl ([.ref (q 0), .int v1, .int v2, .int v3, .int v4, .int v5]) ++ List.replicate (6 - (lg_sl ([.ref (q 0), .int v1, .int v2, .int v3, .int v4, .int v5])).length) Slot.unset).toArray = ls at hl ⊢
  have hl : lv_has ls 6 [(0, .ref (q 0)), (1, .int v1), (2, .int v2), (3, .int v3), (4, .int v4), (5, .int v5)] := hl
  unfold fX11_feed at h
  refine lv_aload_n (pc := 0) hx hb dX11_feed_0 rfl (lv_at hl 0 rfl) ?_
  refine zr_getR (pc := 1) (t := 1) cx lk_X11_10 hP nC_0 sC_0 rfl dX11_feed_1 ?_
  refine zr_getI (pc := 4) cx lk_X11_114 hP nC_1 sC_1 rfl dX11_feed_4 ?_
  refine lv_bipush (pc := 7) hx hb dX11_feed_7 zb_20 ?_
  refine lv_iadd (pc := 9) hx hb dX11_feed_9 ?_
  refine lv_sipush (pc := 10) hx hb dX11_feed_10 zs_940 ?_
  refine lv_icmp_le (pc := 13) (tgt := 18) hx hb dX11_feed_13 (by decide) (fun c1 => ?_) (fun c1 => ?_)
  · replace h := zBr_t c1 h
    refine lv_aload_n (pc := 18) hx hb dX11_feed_18 rfl (lv_at hl 0 rfl) ?_
    refine zr_getR (pc := 19) (t := 1) cx lk_X11_10 hP nC_0 sC_0 rfl dX11_feed_19 ?_
    refine lv_iload_n (pc := 22) hx hb dX11_feed_22 rfl (lv_at hl 1 rfl) ?_
    obtain ⟨S3, k2, h⟩ := zBd_e h
    refine zr_VV (pc := 23) (rest := []) cx cv_X11_117 (mX9_addNumber hq k2) ⟨⟨rfl, rfl⟩, Nat.le_of_ble_eq_true rfl, Nat.le_of_ble_eq_true rfl⟩ ⟨Nat.le_of_ble_eq_true rfl, Nat.le_of_ble_eq_true rfl⟩ hP hS nC_1 sC_1 rfl hl.1 rfl rfl (Nat.le_of_ble_eq_true rfl) dX11_feed_23 (fun H locs hP hS => ?_)
    refine lv_aload_n (pc := 26) hx hb dX11_feed_26 rfl (lv_at hl 0 rfl) ?_
    refine zr_getR (pc := 27) (t := 1) cx lk_X11_10 hP nC_0 sC_0 rfl dX11_feed_27 ?_
    refine lv_iload_n (pc := 30) hx hb dX11_feed_30 rfl (lv_at hl 2 rfl) ?_
    obtain ⟨S5, k4, h⟩ := zBd_e h
    refine zr_VV (pc := 31) (rest := []) cx cv_X11_117 (mX9_addNumber hq k4) ⟨⟨rfl, rfl⟩, Nat.le_of_ble_eq_true rfl, Nat.le_of_ble_eq_true rfl⟩ ⟨Nat.le_of_ble_eq_true rfl, Nat.le_of_ble_eq_true rfl⟩ hP hS nC_1 sC_1 rfl hl.1 rfl rfl (Nat.le_of_ble_eq_true rfl) dX11_feed_31 (fun H locs hP hS => ?_)
    refine lv_aload_n (pc := 34) hx hb dX11_feed_34 rfl (lv_at hl 0 rfl) ?_
    refine zr_getR (pc := 35) (t := 1) cx lk_X11_10 hP nC_0 sC_0 rfl dX11_feed_35 ?_
    refine lv_iload_n (pc := 38) hx hb dX11_feed_38 rfl (lv_at hl 3 rfl) ?_
    obtain ⟨S7, k6, h⟩ := zBd_e h
    refine zr_VV (pc := 39) (rest := []) cx cv_X11_117 (mX9_addNumber hq k6) ⟨⟨rfl, rfl⟩, Nat.le_of_ble_eq_true rfl, Nat.le_of_ble_eq_true rfl⟩ ⟨Nat.le_of_ble_eq_true rfl, Nat.le_of_ble_eq_true rfl⟩ hP hS nC_1 sC_1 rfl hl.1 rfl rfl (Nat.le_of_ble_eq_true rfl) dX11_feed_39 (fun H locs hP hS => ?_)
    refine lv_aload_n (pc := 42) hx hb dX11_feed_42 rfl (lv_at hl 0 rfl) ?_
    refine zr_getR (pc := 43) (t := 1) cx lk_X11_10 hP nC_0 sC_0 rfl dX11_feed_43 ?_
    refine lv_iload (pc := 46) hx hb dX11_feed_46 (lv_at hl 4 rfl) ?_
    obtain ⟨S9, k8, h⟩ := zBd_e h
    refine zr_VV (pc := 48) (rest := []) cx cv_X11_117 (mX9_addNumber hq k8) ⟨⟨rfl, rfl⟩, Nat.le_of_ble_eq_true rfl, Nat.le_of_ble_eq_true rfl⟩ ⟨Nat.le_of_ble_eq_true rfl, Nat.le_of_ble_eq_true rfl⟩ hP hS nC_1 sC_1 rfl hl.1 rfl rfl (Nat.le_of_ble_eq_true rfl) dX11_feed_48 (fun H locs hP hS => ?_)
    refine lv_aload_n (pc := 51) hx hb dX11_feed_51 rfl (lv_at hl 0 rfl) ?_
    refine zr_getR (pc := 52) (t := 1) cx lk_X11_10 hP nC_0 sC_0 rfl dX11_feed_52 ?_
    refine lv_iload (pc := 55) hx hb dX11_feed_55 (lv_at hl 5 rfl) ?_
    obtain ⟨S11, k10, h⟩ := zBd_e h
    refine zr_VV (pc := 57) (rest := []) cx cv_X11_117 (mX9_addNumber hq k10) ⟨⟨rfl, rfl⟩, Nat.le_of_ble_eq_true rfl, Nat.le_of_ble_eq_true rfl⟩ ⟨Nat.le_of_ble_eq_true rfl, Nat.le_of_ble_eq_true rfl⟩ hP hS nC_1 sC_1 rfl hl.1 rfl rfl (Nat.le_of_ble_eq_true rfl) dX11_feed_57 (fun H locs hP hS => ?_)
    refine lv_aload_n (pc := 60) hx hb dX11_feed_60 rfl (lv_at hl 0 rfl) ?_
    refine zr_getR (pc := 61) (t := 1) cx lk_X11_10 hP nC_0 sC_0 rfl dX11_feed_61 ?_
    refine zr_getI (pc := 64) cx lk_X11_114 hP nC_1 sC_1 rfl dX11_feed_64 ?_
    have hz := Option.some.inj h
    exact zr_rqI (pc := 67) cx hr hlk hP hS hz dX11_feed_67
  · replace h := zBr_f c1 h
    refine lv_iconst (pc := 16) hx hb dX11_feed_16 zc_m1 ?_
    have hz := Option.some.inj h
    exact zr_rqI (pc := 17) cx hr hlk hP hS hz dX11_feed_17
-- X2_fittingParlours
abbrev rmX2_fittingParlours : Room := { frames := 2, cells := 0, slots := 0, locals := 42 }
def fX2_fittingParlours_122 (S : zSt)  (v3 : Int32) (t0 : Int32) (t1 : Int32) : Option ((Int32 × Int32) ⊕ Int32) :=
  zLt (t1 &&& t0) (fun x22 => zLt (v3 + (2 : Int32)) (fun x23 => some (.inl (x22, x23))))
set_option maxHeartbeats 4000000 in
set_option maxRecDepth 100000 in
theorem kX2_fittingParlours_122 {p : Program} {l : Launch} {e : Env} {s : State} {m : MethodId} {args : Array Value} {below : List Frame} {meth : Method} {c : Code} {D : va_G} {cy : Nat → ClassId} {q : Nat → Nat} (cx : zX RX2 cX2_fittingParlours 6 p s m args c D cy) (hr : meth.sig.returnType = (some .int)) (hlk : meth.locks = false) {z : Int32} {S : zSt} {v3 : Int32} {t0 : Int32} {t1 : Int32} {C1 : ((Int32 × Int32) ⊕ Int32) → Prop} (hb1 : ∀ (v2 : Int32) (v3 : Int32), C1 (.inl (v2, v3)) → ∀ (ls : Array Slot), lv_has ls 6 [(0, .ref (q 255)), (1, .ref (q 1)), (2, .int v2), (3, .int v3)] → W p l e rmX2_fittingParlours s m args below meth c s.heap [] 0 0 (MQ below (vp_Si (fun x => x = z)) args s 0 0 (fun _ => False)) (F0 m 43 ls [])) (hx1 : ∀ a, C1 (.inr a) → a = z) (hP : va_P D vwCl (zW zsh zNC cy q S) s.heap) {x : ((Int32 × Int32) ⊕ Int32)} (h : fX2_fittingParlours_122 S v3 t0 t1 = some x) (hc : C1 x) {ls : Array Slot} (hl : lv_has ls 6 [(0, .ref (q 255)), (1, .ref (q 1)), (3, .int v3)]) : W p l e rmX2_fittingParlours s m args below meth c s.heap [] 0 0 (MQ below (vp_Si (fun x => x = z)) args s 0 0 (fun _ => False)) (F0 m 122 ls [.int t0, .int t1]) := by
  have hx := cx.1
  have hb := cx.2.1
  unfold fX2_fittingParlours_122 at h
  refine lv_iand (pc := 122) hx hb dX2_fittingParlours_122 ?_
  obtain ⟨x22, ex22, h⟩ := zLt_e h
  refine zr_nmI ex22 ?_
  refine lv_istore_n (lv' := [(2, .int x22), (0, .ref (q 255)), (1, .ref (q 1)), (3, .int v3)]) (pc := 123) hx hb dX2_fittingParlours_123 rfl hl (by decide) rfl (fun ls hl => ?_)
  obtain ⟨x23, ex23, h⟩ := zLt_e h
  refine lv_iinc (v := x23) (lv' := [(3, .int x23), (2, .int x22), (0, .ref (q 255)), (1, .ref (q 1))]) (pc := 124) hx hb dX2_fittingParlours_124 hl (k := 3) rfl (by rw [zc_2]; exact ex23.symm) (by decide) rfl (fun ls hl => ?_)
  refine lv_goto (pc := 127) (tgt := 43) hx hb dX2_fittingParlours_127 (by decide) ?_
  cases h
  exact hb1 _ _ hc _ (lv_sub hl [2, 3, 1, 0] rfl)
def fX2_fittingParlours_43 (S : zSt)  (t : (Int32 × Int32)) : Option ((Int32 × Int32) ⊕ Int32) :=
  match t with
  | (v2, v3) => zBr ((S.1 1 1) ≤ (v3 + (1 : Int32))) (zXr (some v2)) (zGd (zIx v3 940) (zLt (S.1 2 v3.toNatClampNeg) (fun x11 => zGd (zIx (v3 + (1 : Int32)) 940) (zLt (S.1 2 (v3 + (1 : Int32)).toNatClampNeg) (fun x13 => zBd (fX3_has S 4 (1 : Int32) x11) (fun r15 => zBr (r15 = 0) (zXr (some (-1 : Int32))) (zBr (x13 ≤ (1 : Int32)) (zBr (x13 = (1 : Int32)) (zBd (fX6_seenBy S 14 x11) (fun r25 => fX2_fittingParlours_122 S v3 r25 v2)) (zBd (fX6_seenBy S 14 x11) (fun r21 => fX2_fittingParlours_122 S v3 (r21 ^^^ (-1 : Int32)) v2))) (zXr (some (-1 : Int32))))))))))
set_option maxHeartbeats 4000000 in
set_option maxRecDepth 100000 in
theorem kX2_fittingParlours_43B {p : Program} {l : Launch} {e : Env} {s : State} {m : MethodId} {args : Array Value} {below : List Frame} {meth : Method} {c : Code} {D : va_G} {cy : Nat → ClassId} {q : Nat → Nat} (cx : zX RX2 cX2_fittingParlours 6 p s m args c D cy) (hr : meth.sig.returnType = (some .int)) (hlk : meth.locks = false) {z : Int32} {S : zSt} {v2 : Int32} {v3 : Int32} {C1 : ((Int32 × Int32) ⊕ Int32) → Prop} (hb1 : ∀ (v2 : Int32) (v3 : Int32), C1 (.inl (v2, v3)) → ∀ (ls : Array Slot), lv_has ls 6 [(0, .ref (q 255)), (1, .ref (q 1)), (2, .int v2), (3, .int v3)] → W p l e rmX2_fittingParlours s m args below meth c s.heap [] 0 0 (MQ below (vp_Si (fun x => x = z)) args s 0 0 (fun _ => False)) (F0 m 43 ls [])) (hx1 : ∀ a, C1 (.inr a) → a = z) (hP : va_P D vwCl (zW zsh zNC cy q S) s.heap) {x : ((Int32 × Int32) ⊕ Int32)} (h : fX2_fittingParlours_43 S (v2, v3) = some x) (hc : C1 x) {ls : Array Slot} (hl : lv_has ls 6 [(0, .ref (q 255)), (1, .ref (q 1)), (2, .int v2), (3, .int v3)]) : W p l e rmX2_fittingParlours s m args below meth c s.heap [] 0 0 (MQ below (vp_Si (fun x => x = z)) args s 0 0 (fun _ => False)) (F0 m 43 ls []) := by
  have hx := cx.1
  have hb := cx.2.1
  unfold fX2_fittingParlours_43 at h
  dsimp only at h
  refine lv_iload_n (pc := 43) hx hb dX2_fittingParlours_43 rfl (lv_at hl 3 rfl) ?_
  refine lv_iconst (pc := 44) hx hb dX2_fittingParlours_44 zc_1 ?_
  refine lv_iadd (pc := 45) hx hb dX2_fittingParlours_45 ?_
  refine lv_aload_n (pc := 46) hx hb dX2_fittingParlours_46 rfl (lv_at hl 1 rfl) ?_
  refine zr_getI (pc := 47) cx lk_X2_88 hP nC_1 sC_1 rfl dX2_fittingParlours_47 ?_
  refine lv_icmp_ge (pc := 50) (tgt := 130) hx hb dX2_fittingParlours_50 (by decide) (fun c8 => ?_) (fun c8 => ?_)
  · replace h := zBr_t c8 h
    obtain ⟨y9, h, ex⟩ := zXr_e h
    have hc := hx1 y9 (by rw [ex] at hc; exact hc)
    rw [hc] at h
    refine lv_iload_n (pc := 130) hx hb dX2_fittingParlours_130 rfl (lv_at hl 2 rfl) ?_
    have hz := Option.some.inj h
    exact zr_reI (pc := 131) cx hr hlk hz dX2_fittingParlours_131
  · replace h := zBr_f c8 h
    refine lv_aload_n (pc := 53) hx hb dX2_fittingParlours_53 rfl (lv_at hl 1 rfl) ?_
    refine zr_getR (pc := 54) (t := 2) cx lk_X2_93 hP nC_1 sC_1 rfl dX2_fittingParlours_54 ?_
    refine lv_iload_n (pc := 57) hx hb dX2_fittingParlours_57 rfl (lv_at hl 3 rfl) ?_
    obtain ⟨g10, h⟩ := zGd_e h
    refine zr_cald (pc := 58) cx hP nC_2 sC_2 g10 dX2_fittingParlours_58 ?_
    obtain ⟨x11, ex11, h⟩ := zLt_e h
    refine zr_nmI ex11 ?_
    refine lv_istore (lv' := [(4, .int x11), (0, .ref (q 255)), (1, .ref (q 1)), (2, .int v2), (3, .int v3)]) (pc := 59) hx hb dX2_fittingParlours_59 hl (by decide) rfl (fun ls hl => ?_)
    refine lv_aload_n (pc := 61) hx hb dX2_fittingParlours_61 rfl (lv_at hl 2 rfl) ?_
    refine zr_getR (pc := 62) (t := 2) cx lk_X2_93 hP nC_1 sC_1 rfl dX2_fittingParlours_62 ?_
    refine lv_iload_n (pc := 65) hx hb dX2_fittingParlours_65 rfl (lv_at hl 4 rfl) ?_
    refine lv_iconst (pc := 66) hx hb dX2_fittingParlours_66 zc_1 ?_
    refine lv_iadd (pc := 67) hx hb dX2_fittingParlours_67 ?_
    obtain ⟨g12, h⟩ := zGd_e h
    refine zr_cald (pc := 68) cx hP nC_2 sC_2 g12 dX2_fittingParlours_68 ?_
    obtain ⟨x13, ex13, h⟩ := zLt_e h
    refine zr_nmI ex13 ?_
    refine lv_istore (lv' := [(5, .int x13), (4, .int x11), (0, .ref (q 255)), (1, .ref (q 1)), (2, .int v2), (3, .int v3)]) (pc := 69) hx hb dX2_fittingParlours_69 hl (by decide) rfl (fun ls hl => ?_)
    refine lv_aload_n (pc := 71) hx hb dX2_fittingParlours_71 rfl (lv_at hl 2 rfl) ?_
    refine zr_getR (pc := 72) (t := 4) cx lk_X2_21 hP nC_255 sC_255 rfl dX2_fittingParlours_72 ?_
    refine lv_iconst (pc := 75) hx hb dX2_fittingParlours_75 zc_1 ?_
    refine lv_iload (pc := 76) hx hb dX2_fittingParlours_76 (lv_at hl 1 rfl) ?_
    obtain ⟨r15, k14, h⟩ := zBd_e h
    refine zr_VI (pc := 78) (rest := []) cx cv_X2_97 (mX3_has zHouse_4 k14) ⟨⟨rfl, rfl⟩, Nat.le_of_ble_eq_true rfl, Nat.le_of_ble_eq_true rfl⟩ ⟨Nat.le_of_ble_eq_true rfl, Nat.le_of_ble_eq_true rfl⟩ hP (nX3_0 zHouse_4) (sX3_0 zHouse_4) rfl hl.1 rfl rfl (Nat.le_of_ble_eq_true rfl) dX2_fittingParlours_78 ?_
    refine lv_if_eq (pc := 81) (tgt := 90) hx hb dX2_fittingParlours_81 (by decide) (fun c16 => ?_) (fun c16 => ?_)
    · replace h := zBr_t c16 h
      obtain ⟨y17, h, ex⟩ := zXr_e h
      have hc := hx1 y17 (by rw [ex] at hc; exact hc)
      rw [hc] at h
      refine lv_iconst (pc := 90) hx hb dX2_fittingParlours_90 zc_m1 ?_
      have hz := Option.some.inj h
      exact zr_reI (pc := 91) cx hr hlk hz dX2_fittingParlours_91
    · replace h := zBr_f c16 h
      refine lv_iload (pc := 84) hx hb dX2_fittingParlours_84 (lv_at hl 0 rfl) ?_
      refine lv_iconst (pc := 86) hx hb dX2_fittingParlours_86 zc_1 ?_
      refine lv_icmp_le (pc := 87) (tgt := 92) hx hb dX2_fittingParlours_87 (by decide) (fun c18 => ?_) (fun c18 => ?_)
      · replace h := zBr_t c18 h
        refine lv_iload_n (pc := 92) hx hb dX2_fittingParlours_92 rfl (lv_at hl 4 rfl) ?_
        refine lv_iload (pc := 93) hx hb dX2_fittingParlours_93 (lv_at hl 0 rfl) ?_
        refine lv_iconst (pc := 95) hx hb dX2_fittingParlours_95 zc_1 ?_
        refine lv_icmp_ne (pc := 96) (tgt := 111) hx hb dX2_fittingParlours_96 (by decide) (fun c19 => ?_) (fun c19 => ?_)
        · replace h := zBr_f c19 h
          refine lv_aload_n (pc := 111) hx hb dX2_fittingParlours_111 rfl (lv_at hl 2 rfl) ?_
          refine zr_getR (pc := 112) (t := 14) cx lk_X2_25 hP nC_255 sC_255 rfl dX2_fittingParlours_112 ?_
          refine lv_iload (pc := 115) hx hb dX2_fittingParlours_115 (lv_at hl 1 rfl) ?_
          obtain ⟨r21, k20, h⟩ := zBd_e h
          refine zr_VI (pc := 117) (rest := [.int v2]) cx cv_X2_60 (mX6_seenBy zLife_14 k20) ⟨⟨rfl, rfl⟩, Nat.le_of_ble_eq_true rfl, Nat.le_of_ble_eq_true rfl⟩ ⟨Nat.le_of_ble_eq_true rfl, Nat.le_of_ble_eq_true rfl⟩ hP (nX6_0 zLife_14) (sX6_0 zLife_14) rfl hl.1 rfl rfl (Nat.le_of_ble_eq_true rfl) dX2_fittingParlours_117 ?_
          refine lv_iconst (pc := 120) hx hb dX2_fittingParlours_120 zc_m1 ?_
          refine lv_ixor (pc := 121) hx hb dX2_fittingParlours_121 ?_
          exact kX2_fittingParlours_122 cx hr hlk hb1 hx1 hP h hc (lv_sub hl [2, 3, 5] rfl)
        · replace h := zBr_t c19 h
          refine lv_aload_n (pc := 99) hx hb dX2_fittingParlours_99 rfl (lv_at hl 2 rfl) ?_
          refine zr_getR (pc := 100) (t := 14) cx lk_X2_25 hP nC_255 sC_255 rfl dX2_fittingParlours_100 ?_
          refine lv_iload (pc := 103) hx hb dX2_fittingParlours_103 (lv_at hl 1 rfl) ?_
          obtain ⟨r25, k24, h⟩ := zBd_e h
          refine zr_VI (pc := 105) (rest := [.int v2]) cx cv_X2_60 (mX6_seenBy zLife_14 k24) ⟨⟨rfl, rfl⟩, Nat.le_of_ble_eq_true rfl, Nat.le_of_ble_eq_true rfl⟩ ⟨Nat.le_of_ble_eq_true rfl, Nat.le_of_ble_eq_true rfl⟩ hP (nX6_0 zLife_14) (sX6_0 zLife_14) rfl hl.1 rfl rfl (Nat.le_of_ble_eq_true rfl) dX2_fittingParlours_105 ?_
          refine lv_goto (pc := 108) (tgt := 122) hx hb dX2_fittingParlours_108 (by decide) ?_
          exact kX2_fittingParlours_122 cx hr hlk hb1 hx1 hP h hc (lv_sub hl [2, 3, 5] rfl)
      · replace h := zBr_f c18 h
        obtain ⟨y26, h, ex⟩ := zXr_e h
        have hc := hx1 y26 (by rw [ex] at hc; exact hc)
        rw [hc] at h
        refine lv_iconst (pc := 90) hx hb dX2_fittingParlours_90 zc_m1 ?_
        have hz := Option.some.inj h
        exact zr_reI (pc := 91) cx hr hlk hz dX2_fittingParlours_91
set_option maxHeartbeats 4000000 in
set_option maxRecDepth 100000 in
theorem kX2_fittingParlours_43 {p : Program} {l : Launch} {e : Env} {s : State} {m : MethodId} {args : Array Value} {below : List Frame} {meth : Method} {c : Code} {D : va_G} {cy : Nat → ClassId} {q : Nat → Nat} (cx : zX RX2 cX2_fittingParlours 6 p s m args c D cy) (hr : meth.sig.returnType = (some .int)) (hlk : meth.locks = false) {z : Int32} {S : zSt} (hP : va_P D vwCl (zW zsh zNC cy q S) s.heap) : ∀ (n : Nat) (v2 : Int32) (v3 : Int32), zLp (fX2_fittingParlours_43 S) n (v2, v3) = some z → ∀ (ls : Array Slot), lv_has ls 6 [(0, .ref (q 255)), (1, .ref (q 1)), (2, .int v2), (3, .int v3)] → W p l e rmX2_fittingParlours s m args below meth c s.heap [] 0 0 (MQ below (vp_Si (fun x => x = z)) args s 0 0 (fun _ => False)) (F0 m 43 ls []) := by
  intro n
  induction n with
  | zero =>
    intro v2 v3 h
    cases h
  | succ n ih =>
    intro v2 v3 h ls hl
    obtain ⟨x, h, hk⟩ := zLp_e h
    exact kX2_fittingParlours_43B cx hr hlk  (C1 := zKt (fun t => zLp (fX2_fittingParlours_43 S) n t = some z) (fun a => a = z)) (fun v2 v3 ht ls hl => ih v2 v3 ht ls hl) (fun a ha => ha) hP h hk hl
def fX2_fittingParlours (S : zSt) : Option Int32 :=
  zBr ((S.1 1 1) < (2 : Int32)) (some (-1 : Int32)) (zBr ((12 : Int32) < (S.1 1 1)) (some (-1 : Int32)) (zGd (decide (¬ (2 : Int32) = 0)) (zBr (((S.1 1 1) - (S.1 1 1) / (2 : Int32) * (2 : Int32)) = 0) (zGd (zIx (0 : Int32) 4) (zBd (fX11_allBits (S.1 (4 + 1) (0 : Int32).toNatClampNeg)) (fun r7 => zLp (fX2_fittingParlours_43 S) 2000 (r7, (0 : Int32))))) (some (-1 : Int32)))))
set_option maxHeartbeats 4000000 in
set_option maxRecDepth 100000 in
theorem mX2_fittingParlours {l : Launch} {D : va_G} {cy : Nat → ClassId} {q : Nat → Nat} {S : zSt} {z : Int32} (h : fX2_fittingParlours S = some z) : zMi l yX2_fittingParlours cX2_fittingParlours 6 (some .int) rmX2_fittingParlours [.ref (q 255), .ref (q 1)] (zPr zsh zNC D cy q S) z := by
  refine Met.ofW (cc := cX2_fittingParlours) (maxL := 6) (ret := (some .int)) (by decide) rfl ?_
  intro p e s m args below meth c s₁ B hml hv
  obtain ⟨rfl, hP, hK⟩ := hv
  have cx : zX RX2 cX2_fittingParlours 6 p s m ([.ref (q 255), .ref (q 1)]).toArray c D cy := ⟨B.exec, B.bytes, hml, findClass_of_methodNamed B.named, fun w hw => atoms_spec (ws := Cond.code yX2_fittingParlours cX2_fittingParlours 6 (some .int) :: zTB) B.pre w (List.mem_cons_of_mem _ hw), hK⟩
  have hx := cx.1
  have hb := cx.2.1
  have hr := B.returns
  have hlk := B.notSynchronized
  have hl := lv_entry ([.ref (q 255), .ref (q 1)]) (n := 6) (Nat.le_of_ble_eq_true rfl)
  rw [lg_entry_eq]
  generalize (lg_sl ([.ref (q 255), .ref (q 1)]) ++ List.replicate (6 - (lg_sl ([.ref (q 255), .ref (q 1)])).length) Slot.unset).toArray = ls at hl ⊢
  have hl : lv_has ls 6 [(0, .ref (q 255)), (1, .ref (q 1))] := hl
  unfold fX2_fittingParlours at h
  refine lv_aload_n (pc := 0) hx hb dX2_fittingParlours_0 rfl (lv_at hl 1 rfl) ?_
  refine zr_getI (pc := 1) cx lk_X2_88 hP nC_1 sC_1 rfl dX2_fittingParlours_1 ?_
  refine lv_iconst (pc := 4) hx hb dX2_fittingParlours_4 zc_2 ?_
  refine lv_icmp_lt (pc := 5) (tgt := 26) hx hb dX2_fittingParlours_5 (by decide) (fun c1 => ?_) (fun c1 => ?_)
  · replace h := zBr_t c1 h
    refine lv_iconst (pc := 26) hx hb dX2_fittingParlours_26 zc_m1 ?_
    have hz := Option.some.inj h
    exact zr_reI (pc := 27) cx hr hlk hz dX2_fittingParlours_27
  · replace h := zBr_f c1 h
    refine lv_aload_n (pc := 8) hx hb dX2_fittingParlours_8 rfl (lv_at hl 1 rfl) ?_
    refine zr_getI (pc := 9) cx lk_X2_88 hP nC_1 sC_1 rfl dX2_fittingParlours_9 ?_
    refine lv_bipush (pc := 12) hx hb dX2_fittingParlours_12 zb_12 ?_
    refine lv_icmp_gt (pc := 14) (tgt := 26) hx hb dX2_fittingParlours_14 (by decide) (fun c2 => ?_) (fun c2 => ?_)
    · replace h := zBr_t c2 h
      refine lv_iconst (pc := 26) hx hb dX2_fittingParlours_26 zc_m1 ?_
      have hz := Option.some.inj h
      exact zr_reI (pc := 27) cx hr hlk hz dX2_fittingParlours_27
    · replace h := zBr_f c2 h
      refine lv_aload_n (pc := 17) hx hb dX2_fittingParlours_17 rfl (lv_at hl 1 rfl) ?_
      refine zr_getI (pc := 18) cx lk_X2_88 hP nC_1 sC_1 rfl dX2_fittingParlours_18 ?_
      refine lv_iconst (pc := 21) hx hb dX2_fittingParlours_21 zc_2 ?_
      obtain ⟨g3, h⟩ := zGd_e h
      refine lv_irem (pc := 22) hx hb dX2_fittingParlours_22 (by simpa using g3) ?_
      refine lv_if_eq (pc := 23) (tgt := 28) hx hb dX2_fittingParlours_23 (by decide) (fun c4 => ?_) (fun c4 => ?_)
      · replace h := zBr_t c4 h
        refine lv_aload_n (pc := 28) hx hb dX2_fittingParlours_28 rfl (lv_at hl 0 rfl) ?_
        refine zr_getR (pc := 29) (t := 4) cx lk_X2_21 hP nC_255 sC_255 rfl dX2_fittingParlours_29 ?_
        refine zr_getR (pc := 32) (t := (4 + 1)) cx lk_X2_63 hP (nX3_0 zHouse_4) (sX3_0 zHouse_4) rfl dX2_fittingParlours_32 ?_
        refine lv_iconst (pc := 35) hx hb dX2_fittingParlours_35 zc_0 ?_
        obtain ⟨g5, h⟩ := zGd_e h
        refine zr_iald (pc := 36) cx hP (nX3_1 zHouse_4) (sX3_1 zHouse_4) g5 dX2_fittingParlours_36 ?_
        obtain ⟨r7, k6, h⟩ := zBd_e h
        refine zr_NI (pc := 37) (rest := []) cx cv_X2_67 (mX11_allBits k6) ⟨⟨rfl, rfl⟩, Nat.le_of_ble_eq_true rfl, Nat.le_of_ble_eq_true rfl⟩ ⟨Nat.le_of_ble_eq_true rfl, Nat.le_of_ble_eq_true rfl⟩ (zr_preK cx) hl.1 rfl rfl (Nat.le_of_ble_eq_true rfl) dX2_fittingParlours_37 ?_
        refine lv_istore_n (lv' := [(2, .int r7), (0, .ref (q 255)), (1, .ref (q 1))]) (pc := 40) hx hb dX2_fittingParlours_40 rfl hl (by decide) rfl (fun ls hl => ?_)
        refine lv_iconst (pc := 41) hx hb dX2_fittingParlours_41 zc_0 ?_
        refine lv_istore_n (lv' := [(3, .int (0 : Int32)), (2, .int r7), (0, .ref (q 255)), (1, .ref (q 1))]) (pc := 42) hx hb dX2_fittingParlours_42 rfl hl (by decide) rfl (fun ls hl => ?_)
        exact kX2_fittingParlours_43 cx hr hlk hP 2000 _ _ h _ (lv_sub hl [2, 3, 1, 0] rfl)
      · replace h := zBr_f c4 h
        refine lv_iconst (pc := 26) hx hb dX2_fittingParlours_26 zc_m1 ?_
        have hz := Option.some.inj h
        exact zr_reI (pc := 27) cx hr hlk hz dX2_fittingParlours_27
-- X2_plantToAsk
abbrev rmX2_plantToAsk : Room := { frames := 2, cells := 0, slots := 0, locals := 42 }
def fX2_plantToAsk_62 (S : zSt)  (v1 : Int32) (v2 : Int32) (v3 : Int32) (v4 : Int32) : Option ((Int32 × Int32 × Int32) ⊕ Int32) :=
  zLt (v4 + (1 : Int32)) (fun x13 => some (.inl (v2, v3, x13)))
set_option maxHeartbeats 4000000 in
set_option maxRecDepth 100000 in
theorem kX2_plantToAsk_62 {p : Program} {l : Launch} {e : Env} {s : State} {m : MethodId} {args : Array Value} {below : List Frame} {meth : Method} {c : Code} {D : va_G} {cy : Nat → ClassId} {q : Nat → Nat} (cx : zX RX2 cX2_plantToAsk 7 p s m args c D cy) (hr : meth.sig.returnType = (some .int)) (hlk : meth.locks = false) {z : Int32} {S : zSt} {v1 : Int32} {v2 : Int32} {v3 : Int32} {v4 : Int32} {C1 : ((Int32 × Int32 × Int32) ⊕ Int32) → Prop} (hb1 : ∀ (v2 : Int32) (v3 : Int32) (v4 : Int32), C1 (.inl (v2, v3, v4)) → ∀ (ls : Array Slot), lv_has ls 7 [(0, .ref (q 255)), (1, .int v1), (2, .int v2), (3, .int v3), (4, .int v4)] → W p l e rmX2_plantToAsk s m args below meth c s.heap [] 0 0 (MQ below (vp_Si (fun x => x = z)) args s 0 0 (fun _ => False)) (F0 m 8 ls [])) (hx1 : ∀ a, C1 (.inr a) → a = z) (hP : va_P D vwCl (zW zsh zNC cy q S) s.heap) {x : ((Int32 × Int32 × Int32) ⊕ Int32)} (h : fX2_plantToAsk_62 S v1 v2 v3 v4 = some x) (hc : C1 x) {ls : Array Slot} (hl : lv_has ls 7 [(0, .ref (q 255)), (1, .int v1), (2, .int v2), (3, .int v3), (4, .int v4)]) : W p l e rmX2_plantToAsk s m args below meth c s.heap [] 0 0 (MQ below (vp_Si (fun x => x = z)) args s 0 0 (fun _ => False)) (F0 m 62 ls []) := by
  have hx := cx.1
  have hb := cx.2.1
  unfold fX2_plantToAsk_62 at h
  obtain ⟨x13, ex13, h⟩ := zLt_e h
  refine lv_iinc (v := x13) (lv' := [(4, .int x13), (0, .ref (q 255)), (1, .int v1), (2, .int v2), (3, .int v3)]) (pc := 62) hx hb dX2_plantToAsk_62 hl (k := 4) rfl (by rw [zc_1]; exact ex13.symm) (by decide) rfl (fun ls hl => ?_)
  refine lv_goto (pc := 65) (tgt := 8) hx hb dX2_plantToAsk_65 (by decide) ?_
  cases h
  exact hb1 _ _ _ hc _ (lv_sub hl [1, 2, 3, 4, 0] rfl)
def fX2_plantToAsk_8 (S : zSt)  (v1 : Int32) (t : (Int32 × Int32 × Int32)) : Option ((Int32 × Int32 × Int32) ⊕ Int32) :=
  match t with
  | (v2, v3, v4) => zBd (fX6_plants S 14) (fun r2 => zBr (r2 ≤ v4) (zXr (some v2)) (zBd (fX6_seenBy S 14 v4) (fun r6 => zBd (fJ6_bitCount_0f7a4 (v1 &&& r6)) (fun r8 => zBd (fJ6_bitCount_0f7a4 v1) (fun r10 => zLt (if 0 ≤ (((2 : Int32) * r8) - r10) then (((2 : Int32) * r8) - r10) else 0 - (((2 : Int32) * r8) - r10)) (fun x11 => zBr (v3 ≤ x11) (fX2_plantToAsk_62 S v1 v2 v3 v4) (fX2_plantToAsk_62 S v1 v4 x11 v4)))))))
set_option maxHeartbeats 4000000 in
set_option maxRecDepth 100000 in
theorem kX2_plantToAsk_8B {p : Program} {l : Launch} {e : Env} {s : State} {m : MethodId} {args : Array Value} {below : List Frame} {meth : Method} {c : Code} {D : va_G} {cy : Nat → ClassId} {q : Nat → Nat} (cx : zX RX2 cX2_plantToAsk 7 p s m args c D cy) (hr : meth.sig.returnType = (some .int)) (hlk : meth.locks = false) {z : Int32} {S : zSt} {v1 : Int32} {v2 : Int32} {v3 : Int32} {v4 : Int32} {C1 : ((Int32 × Int32 × Int32) ⊕ Int32) → Prop} (hb1 : ∀ (v2 : Int32) (v3 : Int32) (v4 : Int32), C1 (.inl (v2, v3, v4)) → ∀ (ls : Array Slot), lv_has ls 7 [(0, .ref (q 255)), (1, .int v1), (2, .int v2), (3, .int v3), (4, .int v4)] → W p l e rmX2_plantToAsk s m args below meth c s.heap [] 0 0 (MQ below (vp_Si (fun x => x = z)) args s 0 0 (fun _ => False)) (F0 m 8 ls [])) (hx1 : ∀ a, C1 (.inr a) → a = z) (hP : va_P D vwCl (zW zsh zNC cy q S) s.heap) {x : ((Int32 × Int32 × Int32) ⊕ Int32)} (h : fX2_plantToAsk_8 S v1 (v2, v3, v4) = some x) (hc : C1 x) {ls : Array Slot} (hl : lv_has ls 7 [(0, .ref (q 255)), (1, .int v1), (2, .int v2), (3, .int v3), (4, .int v4)]) : W p l e rmX2_plantToAsk s m args below meth c s.heap [] 0 0 (MQ below (vp_Si (fun x => x = z)) args s 0 0 (fun _ => False)) (F0 m 8 ls []) := by
  have hx := cx.1
  have hb := cx.2.1
  unfold fX2_plantToAsk_8 at h
  dsimp only at h
  refine lv_iload (pc := 8) hx hb dX2_plantToAsk_8 (lv_at hl 4 rfl) ?_
  refine lv_aload_n (pc := 10) hx hb dX2_plantToAsk_10 rfl (lv_at hl 0 rfl) ?_
  refine zr_getR (pc := 11) (t := 14) cx lk_X2_25 hP nC_255 sC_255 rfl dX2_plantToAsk_11 ?_
  obtain ⟨r2, k1, h⟩ := zBd_e h
  refine zr_VI (pc := 14) (rest := [.int v4]) cx cv_X2_29 (mX6_plants zLife_14 k1) ⟨⟨rfl, rfl⟩, Nat.le_of_ble_eq_true rfl, Nat.le_of_ble_eq_true rfl⟩ ⟨Nat.le_of_ble_eq_true rfl, Nat.le_of_ble_eq_true rfl⟩ hP (nX6_0 zLife_14) (sX6_0 zLife_14) rfl hl.1 rfl rfl (Nat.le_of_ble_eq_true rfl) dX2_plantToAsk_14 ?_
  refine lv_icmp_ge (pc := 17) (tgt := 68) hx hb dX2_plantToAsk_17 (by decide) (fun c3 => ?_) (fun c3 => ?_)
  · replace h := zBr_t c3 h
    obtain ⟨y4, h, ex⟩ := zXr_e h
    have hc := hx1 y4 (by rw [ex] at hc; exact hc)
    rw [hc] at h
    refine lv_iload_n (pc := 68) hx hb dX2_plantToAsk_68 rfl (lv_at hl 2 rfl) ?_
    have hz := Option.some.inj h
    exact zr_reI (pc := 69) cx hr hlk hz dX2_plantToAsk_69
  · replace h := zBr_f c3 h
    refine lv_iload_n (pc := 20) hx hb dX2_plantToAsk_20 rfl (lv_at hl 1 rfl) ?_
    refine lv_aload_n (pc := 21) hx hb dX2_plantToAsk_21 rfl (lv_at hl 0 rfl) ?_
    refine zr_getR (pc := 22) (t := 14) cx lk_X2_25 hP nC_255 sC_255 rfl dX2_plantToAsk_22 ?_
    refine lv_iload (pc := 25) hx hb dX2_plantToAsk_25 (lv_at hl 4 rfl) ?_
    obtain ⟨r6, k5, h⟩ := zBd_e h
    refine zr_VI (pc := 27) (rest := [.int v1]) cx cv_X2_60 (mX6_seenBy zLife_14 k5) ⟨⟨rfl, rfl⟩, Nat.le_of_ble_eq_true rfl, Nat.le_of_ble_eq_true rfl⟩ ⟨Nat.le_of_ble_eq_true rfl, Nat.le_of_ble_eq_true rfl⟩ hP (nX6_0 zLife_14) (sX6_0 zLife_14) rfl hl.1 rfl rfl (Nat.le_of_ble_eq_true rfl) dX2_plantToAsk_27 ?_
    refine lv_iand (pc := 30) hx hb dX2_plantToAsk_30 ?_
    obtain ⟨r8, k7, h⟩ := zBd_e h
    refine zr_SI (pc := 31) (rest := []) cx cv_X2_43 (mJ6_bitCount_0f7a4 k7) ⟨⟨rfl, rfl⟩, Nat.le_of_ble_eq_true rfl, Nat.le_of_ble_eq_true rfl⟩ ⟨Nat.le_of_ble_eq_true rfl, Nat.le_of_ble_eq_true rfl⟩ (zr_preK cx) hl.1 rfl rfl (Nat.le_of_ble_eq_true rfl) dX2_plantToAsk_31 ?_
    refine lv_istore (lv' := [(5, .int r8), (0, .ref (q 255)), (1, .int v1), (2, .int v2), (3, .int v3), (4, .int v4)]) (pc := 34) hx hb dX2_plantToAsk_34 hl (by decide) rfl (fun ls hl => ?_)
    refine lv_iconst (pc := 36) hx hb dX2_plantToAsk_36 zc_2 ?_
    refine lv_iload (pc := 37) hx hb dX2_plantToAsk_37 (lv_at hl 0 rfl) ?_
    refine lv_imul (pc := 39) hx hb dX2_plantToAsk_39 ?_
    refine lv_iload_n (pc := 40) hx hb dX2_plantToAsk_40 rfl (lv_at hl 2 rfl) ?_
    obtain ⟨r10, k9, h⟩ := zBd_e h
    refine zr_SI (pc := 41) (rest := [.int ((2 : Int32) * r8)]) cx cv_X2_43 (mJ6_bitCount_0f7a4 k9) ⟨⟨rfl, rfl⟩, Nat.le_of_ble_eq_true rfl, Nat.le_of_ble_eq_true rfl⟩ ⟨Nat.le_of_ble_eq_true rfl, Nat.le_of_ble_eq_true rfl⟩ (zr_preK cx) hl.1 rfl rfl (Nat.le_of_ble_eq_true rfl) dX2_plantToAsk_41 ?_
    refine lv_isub (pc := 44) hx hb dX2_plantToAsk_44 ?_
    refine zr_abs (pc := 45) cx lb_X2_100 ⟨Nat.le_of_ble_eq_true rfl, Nat.le_of_ble_eq_true rfl, Nat.le_of_ble_eq_true rfl, Nat.le_of_ble_eq_true rfl⟩ hl.1 dX2_plantToAsk_45 ?_
    obtain ⟨x11, ex11, h⟩ := zLt_e h
    refine zr_nmI ex11 ?_
    refine lv_istore (lv' := [(6, .int x11), (5, .int r8), (0, .ref (q 255)), (1, .int v1), (2, .int v2), (3, .int v3), (4, .int v4)]) (pc := 48) hx hb dX2_plantToAsk_48 hl (by decide) rfl (fun ls hl => ?_)
    refine lv_iload (pc := 50) hx hb dX2_plantToAsk_50 (lv_at hl 0 rfl) ?_
    refine lv_iload_n (pc := 52) hx hb dX2_plantToAsk_52 rfl (lv_at hl 5 rfl) ?_
    refine lv_icmp_ge (pc := 53) (tgt := 62) hx hb dX2_plantToAsk_53 (by decide) (fun c12 => ?_) (fun c12 => ?_)
    · replace h := zBr_t c12 h
      exact kX2_plantToAsk_62 cx hr hlk hb1 hx1 hP h hc (lv_sub hl [2, 3, 4, 5, 6] rfl)
    · replace h := zBr_f c12 h
      refine lv_iload (pc := 56) hx hb dX2_plantToAsk_56 (lv_at hl 0 rfl) ?_
      refine lv_istore_n (lv' := [(3, .int x11), (6, .int x11), (5, .int r8), (0, .ref (q 255)), (1, .int v1), (2, .int v2), (4, .int v4)]) (pc := 58) hx hb dX2_plantToAsk_58 rfl hl (by decide) rfl (fun ls hl => ?_)
      refine lv_iload (pc := 59) hx hb dX2_plantToAsk_59 (lv_at hl 6 rfl) ?_
      refine lv_istore_n (lv' := [(2, .int v4), (3, .int x11), (6, .int x11), (5, .int r8), (0, .ref (q 255)), (1, .int v1), (4, .int v4)]) (pc := 61) hx hb dX2_plantToAsk_61 rfl hl (by decide) rfl (fun ls hl => ?_)
      exact kX2_plantToAsk_62 cx hr hlk hb1 hx1 hP h hc (lv_sub hl [4, 5, 0, 1, 6] rfl)
set_option maxHeartbeats 4000000 in
set_option maxRecDepth 100000 in
theorem kX2_plantToAsk_8 {p : Program} {l : Launch} {e : Env} {s : State} {m : MethodId} {args : Array Value} {below : List Frame} {meth : Method} {c : Code} {D : va_G} {cy : Nat → ClassId} {q : Nat → Nat} (cx : zX RX2 cX2_plantToAsk 7 p s m args c D cy) (hr : meth.sig.returnType = (some .int)) (hlk : meth.locks = false) {z : Int32} {S : zSt} {v1 : Int32} (hP : va_P D vwCl (zW zsh zNC cy q S) s.heap) : ∀ (n : Nat) (v2 : Int32) (v3 : Int32) (v4 : Int32), zLp (fX2_plantToAsk_8 S v1) n (v2, v3, v4) = some z → ∀ (ls : Array Slot), lv_has ls 7 [(0, .ref (q 255)), (1, .int v1), (2, .int v2), (3, .int v3), (4, .int v4)] → W p l e rmX2_plantToAsk s m args below meth c s.heap [] 0 0 (MQ below (vp_Si (fun x => x = z)) args s 0 0 (fun _ => False)) (F0 m 8 ls []) := by
  intro n
  induction n with
  | zero =>
    intro v2 v3 v4 h
    cases h
  | succ n ih =>
    intro v2 v3 v4 h ls hl
    obtain ⟨x, h, hk⟩ := zLp_e h
    exact kX2_plantToAsk_8B cx hr hlk  (C1 := zKt (fun t => zLp (fX2_plantToAsk_8 S v1) n t = some z) (fun a => a = z)) (fun v2 v3 v4 ht ls hl => ih v2 v3 v4 ht ls hl) (fun a ha => ha) hP h hk hl
def fX2_plantToAsk (S : zSt) (v1 : Int32) : Option Int32 :=
  zLp (fX2_plantToAsk_8 S v1) 2000 ((-1 : Int32), (6 : Int32), (0 : Int32))
set_option maxHeartbeats 4000000 in
set_option maxRecDepth 100000 in
theorem mX2_plantToAsk {l : Launch} {D : va_G} {cy : Nat → ClassId} {q : Nat → Nat} {S : zSt} {v1 : Int32} {z : Int32} (h : fX2_plantToAsk S v1 = some z) : zMi l yX2_plantToAsk cX2_plantToAsk 7 (some .int) rmX2_plantToAsk [.ref (q 255), .int v1] (zPr zsh zNC D cy q S) z := by
  refine Met.ofW (cc := cX2_plantToAsk) (maxL := 7) (ret := (some .int)) (by decide) rfl ?_
  intro p e s m args below meth c s₁ B hml hv
  obtain ⟨rfl, hP, hK⟩ := hv
  have cx : zX RX2 cX2_plantToAsk 7 p s m ([.ref (q 255), .int v1]).toArray c D cy := ⟨B.exec, B.bytes, hml, findClass_of_methodNamed B.named, fun w hw => atoms_spec (ws := Cond.code yX2_plantToAsk cX2_plantToAsk 7 (some .int) :: zTB) B.pre w (List.mem_cons_of_mem _ hw), hK⟩
  have hx := cx.1
  have hb := cx.2.1
  have hr := B.returns
  have hlk := B.notSynchronized
  have hl := lv_entry ([.ref (q 255), .int v1]) (n := 7) (Nat.le_of_ble_eq_true rfl)
  rw [lg_entry_eq]
  generalize (lg_sl ([.ref (q 255), .int v1]) ++ List.replicate (7 - (lg_sl ([.ref (q 255), .int v1])).length) Slot.unset).toArray = ls at hl ⊢
  have hl : lv_has ls 7 [(0, .ref (q 255)), (1, .int v1)] := hl
  unfold fX2_plantToAsk at h
  refine lv_iconst (pc := 0) hx hb dX2_plantToAsk_0 zc_m1 ?_
  refine lv_istore_n (lv' := [(2, .int (-1 : Int32)), (0, .ref (q 255)), (1, .int v1)]) (pc := 1) hx hb dX2_plantToAsk_1 rfl hl (by decide) rfl (fun ls hl => ?_)
  refine lv_bipush (pc := 2) hx hb dX2_plantToAsk_2 zb_6 ?_
  refine lv_istore_n (lv' := [(3, .int (6 : Int32)), (2, .int (-1 : Int32)), (0, .ref (q 255)), (1, .int v1)]) (pc := 4) hx hb dX2_plantToAsk_4 rfl hl (by decide) rfl (fun ls hl => ?_)
  refine lv_iconst (pc := 5) hx hb dX2_plantToAsk_5 zc_0 ?_
  refine lv_istore (lv' := [(4, .int (0 : Int32)), (3, .int (6 : Int32)), (2, .int (-1 : Int32)), (0, .ref (q 255)), (1, .int v1)]) (pc := 6) hx hb dX2_plantToAsk_6 hl (by decide) rfl (fun ls hl => ?_)
  exact kX2_plantToAsk_8 cx hr hlk hP 2000 _ _ _ h _ (lv_sub hl [3, 4, 2, 1, 0] rfl)
-- X11_fits
abbrev rmX11_fits : Room := { frames := 3, cells := 0, slots := 0, locals := 68 }
def fX11_fits (S : zSt) : Option (Int32 × zSt) :=
  zBd (fX2_fittingParlours S) (fun r2 => zBd (fX9_clear S) (fun S4 => zBr (r2 ≤ 0) (some (r2, S4)) (zBd (fX2_plantToAsk S4 r2) (fun r7 => zLt (zI S4 0 15 r7) (fun S8 => some (r2, S8))))))
set_option maxHeartbeats 4000000 in
set_option maxRecDepth 100000 in
theorem mX11_fits {l : Launch} {D : va_G} {cy : Nat → ClassId} {q : Nat → Nat} {A : Nat → Prop} {S : zSt} (hq : zQ A q zNC) {z : (Int32 × zSt)} (h : fX11_fits S = some z) : zMq l yX11_fits cX11_fits 2 (some .int) rmX11_fits [.ref (q 0)] zsh zNC D cy q A S z := by
  refine Met.ofW (cc := cX11_fits) (maxL := 2) (ret := (some .int)) (by decide) rfl ?_
  intro p e s m args below meth c s₁ B hml hv
  obtain ⟨rfl, hP, hK⟩ := hv
  have cx : zX RX11 cX11_fits 2 p s m ([.ref (q 0)]).toArray c D cy := ⟨B.exec, B.bytes, hml, findClass_of_methodNamed B.named, fun w hw => atoms_spec (ws := Cond.code yX11_fits cX11_fits 2 (some .int) :: zTB) B.pre w (List.mem_cons_of_mem _ hw), hK⟩
  have hx := cx.1
  have hb := cx.2.1
  have hr := B.returns
  have hlk := B.notSynchronized
  have hS : va_S A s.heap s.heap [] := va_S.rf
  have hl := lv_entry ([.ref (q 0)]) (n := 2) (Nat.le_of_ble_eq_true rfl)
  rw [lg_entry_eq]
  generalize (lg_sl ([.ref (q 0)]) ++ List.replicate (2 - (lg_sl ([.ref (q 0)])).length) Slot.unset).toArray = ls at hl ⊢
  have hl : lv_has ls 2 [(0, .ref (q 0))] := hl
  unfold fX11_fits at h
  refine lv_aload_n (pc := 0) hx hb dX11_fits_0 rfl (lv_at hl 0 rfl) ?_
  refine zr_getR (pc := 1) (t := 255) cx lk_X11_82 hP nC_0 sC_0 rfl dX11_fits_1 ?_
  refine lv_aload_n (pc := 4) hx hb dX11_fits_4 rfl (lv_at hl 0 rfl) ?_
  refine zr_getR (pc := 5) (t := 1) cx lk_X11_10 hP nC_0 sC_0 rfl dX11_fits_5 ?_
  obtain ⟨r2, k1, h⟩ := zBd_e h
  refine zr_VI (pc := 8) (rest := []) cx cv_X11_290 (mX2_fittingParlours k1) ⟨⟨rfl, rfl⟩, Nat.le_of_ble_eq_true rfl, Nat.le_of_ble_eq_true rfl⟩ ⟨Nat.le_of_ble_eq_true rfl, Nat.le_of_ble_eq_true rfl⟩ hP nC_255 sC_255 rfl hl.1 rfl rfl (Nat.le_of_ble_eq_true rfl) dX11_fits_8 ?_
  refine lv_istore_n (lv' := [(1, .int r2), (0, .ref (q 0))]) (pc := 11) hx hb dX11_fits_11 rfl hl (by decide) rfl (fun ls hl => ?_)
  refine lv_aload_n (pc := 12) hx hb dX11_fits_12 rfl (lv_at hl 1 rfl) ?_
  refine zr_getR (pc := 13) (t := 1) cx lk_X11_10 hP nC_0 sC_0 rfl dX11_fits_13 ?_
  obtain ⟨S4, k3, h⟩ := zBd_e h
  refine zr_VV (pc := 16) (rest := []) cx cv_X11_294 (mX9_clear hq k3) ⟨⟨rfl, rfl⟩, Nat.le_of_ble_eq_true rfl, Nat.le_of_ble_eq_true rfl⟩ ⟨Nat.le_of_ble_eq_true rfl, Nat.le_of_ble_eq_true rfl⟩ hP hS nC_1 sC_1 rfl hl.1 rfl rfl (Nat.le_of_ble_eq_true rfl) dX11_fits_16 (fun H locs hP hS => ?_)
  refine lv_iload_n (pc := 19) hx hb dX11_fits_19 rfl (lv_at hl 0 rfl) ?_
  refine lv_if_le (pc := 20) (tgt := 35) hx hb dX11_fits_20 (by decide) (fun c5 => ?_) (fun c5 => ?_)
  · replace h := zBr_t c5 h
    refine lv_iload_n (pc := 35) hx hb dX11_fits_35 rfl (lv_at hl 0 rfl) ?_
    have hz := Option.some.inj h
    exact zr_rqI (pc := 36) cx hr hlk hP hS hz dX11_fits_36
  · replace h := zBr_f c5 h
    refine lv_aload_n (pc := 23) hx hb dX11_fits_23 rfl (lv_at hl 1 rfl) ?_
    refine lv_aload_n (pc := 24) hx hb dX11_fits_24 rfl (lv_at hl 1 rfl) ?_
    refine zr_getR (pc := 25) (t := 255) cx lk_X11_82 hP nC_0 sC_0 rfl dX11_fits_25 ?_
    refine lv_iload_n (pc := 28) hx hb dX11_fits_28 rfl (lv_at hl 0 rfl) ?_
    obtain ⟨r7, k6, h⟩ := zBd_e h
    refine zr_VI (pc := 29) (rest := [.ref (q 0)]) cx cv_X11_295 (mX2_plantToAsk k6) ⟨⟨rfl, rfl⟩, Nat.le_of_ble_eq_true rfl, Nat.le_of_ble_eq_true rfl⟩ ⟨Nat.le_of_ble_eq_true rfl, Nat.le_of_ble_eq_true rfl⟩ hP nC_255 sC_255 rfl hl.1 rfl rfl (Nat.le_of_ble_eq_true rfl) dX11_fits_29 ?_
    obtain ⟨S8, eS8, h⟩ := zLt_e h
    refine zr_putI (pc := 32) cx lq_X11_107 hq hP hS nC_0 sC_0 rfl rfl rfl dX11_fits_32 (fun H locs hP hS => ?_)
    rw [← eS8] at hP
    refine lv_iload_n (pc := 35) hx hb dX11_fits_35 rfl (lv_at hl 0 rfl) ?_
    have hz := Option.some.inj h
    exact zr_rqI (pc := 36) cx hr hlk hP hS hz dX11_fits_36
-- X6_actsOf
abbrev rmX6_actsOf : Room := { frames := 0, cells := 0, slots := 0, locals := 0 }
def fX6_actsOf_28 (S : zSt) (a0 : Nat) (v1 : Int32) (v2 : Int32) (v3 : Int32) : Option ((Int32 × Int32) ⊕ Int32) :=
  zLt (v3 + (1 : Int32)) (fun x5 => some (.inl (v2, x5)))
set_option maxHeartbeats 4000000 in
set_option maxRecDepth 100000 in
theorem kX6_actsOf_28 {p : Program} {l : Launch} {e : Env} {s : State} {m : MethodId} {args : Array Value} {below : List Frame} {meth : Method} {c : Code} {D : va_G} {cy : Nat → ClassId} {q : Nat → Nat} (cx : zX RX6 cX6_actsOf 4 p s m args c D cy) (hr : meth.sig.returnType = (some .int)) (hlk : meth.locks = false) {a0 : Nat} (ha0 : zLife a0) {z : Int32} {S : zSt} {v1 : Int32} {v2 : Int32} {v3 : Int32} {C1 : ((Int32 × Int32) ⊕ Int32) → Prop} (hb1 : ∀ (v2 : Int32) (v3 : Int32), C1 (.inl (v2, v3)) → ∀ (ls : Array Slot), lv_has ls 4 [(0, .ref (q a0)), (1, .int v1), (2, .int v2), (3, .int v3)] → W p l e rmX6_actsOf s m args below meth c s.heap [] 0 0 (MQ below (vp_Si (fun x => x = z)) args s 0 0 (fun _ => False)) (F0 m 4 ls [])) (hx1 : ∀ a, C1 (.inr a) → a = z) (hP : va_P D vwCl (zW zsh zNC cy q S) s.heap) {x : ((Int32 × Int32) ⊕ Int32)} (h : fX6_actsOf_28 S a0 v1 v2 v3 = some x) (hc : C1 x) {ls : Array Slot} (hl : lv_has ls 4 [(0, .ref (q a0)), (1, .int v1), (2, .int v2), (3, .int v3)]) : W p l e rmX6_actsOf s m args below meth c s.heap [] 0 0 (MQ below (vp_Si (fun x => x = z)) args s 0 0 (fun _ => False)) (F0 m 28 ls []) := by
  have hx := cx.1
  have hb := cx.2.1
  unfold fX6_actsOf_28 at h
  obtain ⟨x5, ex5, h⟩ := zLt_e h
  refine lv_iinc (v := x5) (lv' := [(3, .int x5), (0, .ref (q a0)), (1, .int v1), (2, .int v2)]) (pc := 28) hx hb dX6_actsOf_28 hl (k := 3) rfl (by rw [zc_1]; exact ex5.symm) (by decide) rfl (fun ls hl => ?_)
  refine lv_goto (pc := 31) (tgt := 4) hx hb dX6_actsOf_31 (by decide) ?_
  cases h
  exact hb1 _ _ hc _ (lv_sub hl [1, 2, 3, 0] rfl)
def fX6_actsOf_4 (S : zSt) (a0 : Nat) (v1 : Int32) (t : (Int32 × Int32)) : Option ((Int32 × Int32) ⊕ Int32) :=
  match t with
  | (v2, v3) => zBr ((S.1 a0 2) ≤ v3) (zXr (some v2)) (zGd (zIx v3 12) (zBr ((S.1 (a0 + 1) v3.toNatClampNeg) = v1) (zLt (v2 ||| ((1 : Int32) <<< (v3 &&& 31))) (fun x6 => fX6_actsOf_28 S a0 v1 x6 v3)) (fX6_actsOf_28 S a0 v1 v2 v3)))
set_option maxHeartbeats 4000000 in
set_option maxRecDepth 100000 in
theorem kX6_actsOf_4B {p : Program} {l : Launch} {e : Env} {s : State} {m : MethodId} {args : Array Value} {below : List Frame} {meth : Method} {c : Code} {D : va_G} {cy : Nat → ClassId} {q : Nat → Nat} (cx : zX RX6 cX6_actsOf 4 p s m args c D cy) (hr : meth.sig.returnType = (some .int)) (hlk : meth.locks = false) {a0 : Nat} (ha0 : zLife a0) {z : Int32} {S : zSt} {v1 : Int32} {v2 : Int32} {v3 : Int32} {C1 : ((Int32 × Int32) ⊕ Int32) → Prop} (hb1 : ∀ (v2 : Int32) (v3 : Int32), C1 (.inl (v2, v3)) → ∀ (ls : Array Slot), lv_has ls 4 [(0, .ref (q a0)), (1, .int v1), (2, .int v2), (3, .int v3)] → W p l e rmX6_actsOf s m args below meth c s.heap [] 0 0 (MQ below (vp_Si (fun x => x = z)) args s 0 0 (fun _ => False)) (F0 m 4 ls [])) (hx1 : ∀ a, C1 (.inr a) → a = z) (hP : va_P D vwCl (zW zsh zNC cy q S) s.heap) {x : ((Int32 × Int32) ⊕ Int32)} (h : fX6_actsOf_4 S a0 v1 (v2, v3) = some x) (hc : C1 x) {ls : Array Slot} (hl : lv_has ls 4 [(0, .ref (q a0)), (1, .int v1), (2, .int v2), (3, .int v3)]) : W p l e rmX6_actsOf s m args below meth c s.heap [] 0 0 (MQ below (vp_Si (fun x => x = z)) args s 0 0 (fun _ => False)) (F0 m 4 ls []) := by
  have hx := cx.1
  have hb := cx.2.1
  unfold fX6_actsOf_4 at h
  dsimp only at h
  refine lv_iload_n (pc := 4) hx hb dX6_actsOf_4 rfl (lv_at hl 3 rfl) ?_
  refine lv_aload_n (pc := 5) hx hb dX6_actsOf_5 rfl (lv_at hl 0 rfl) ?_
  refine zr_getI (pc := 6) cx lk_X6_46 hP (nX6_0 ha0) (sX6_0 ha0) rfl dX6_actsOf_6 ?_
  refine lv_icmp_ge (pc := 9) (tgt := 34) hx hb dX6_actsOf_9 (by decide) (fun c1 => ?_) (fun c1 => ?_)
  · replace h := zBr_t c1 h
    obtain ⟨y2, h, ex⟩ := zXr_e h
    have hc := hx1 y2 (by rw [ex] at hc; exact hc)
    rw [hc] at h
    refine lv_iload_n (pc := 34) hx hb dX6_actsOf_34 rfl (lv_at hl 2 rfl) ?_
    have hz := Option.some.inj h
    exact zr_reI (pc := 35) cx hr hlk hz dX6_actsOf_35
  · replace h := zBr_f c1 h
    refine lv_aload_n (pc := 12) hx hb dX6_actsOf_12 rfl (lv_at hl 0 rfl) ?_
    refine zr_getR (pc := 13) (t := (a0 + 1)) cx lk_X6_9 hP (nX6_0 ha0) (sX6_0 ha0) rfl dX6_actsOf_13 ?_
    refine lv_iload_n (pc := 16) hx hb dX6_actsOf_16 rfl (lv_at hl 3 rfl) ?_
    obtain ⟨g3, h⟩ := zGd_e h
    refine zr_iald (pc := 17) cx hP (nX6_1 ha0) (sX6_1 ha0) g3 dX6_actsOf_17 ?_
    refine lv_iload_n (pc := 18) hx hb dX6_actsOf_18 rfl (lv_at hl 1 rfl) ?_
    refine lv_icmp_ne (pc := 19) (tgt := 28) hx hb dX6_actsOf_19 (by decide) (fun c4 => ?_) (fun c4 => ?_)
    · replace h := zBr_f c4 h
      exact kX6_actsOf_28 cx hr hlk ha0 hb1 hx1 hP h hc (lv_sub hl [0, 1, 2, 3] rfl)
    · replace h := zBr_t c4 h
      refine lv_iload_n (pc := 22) hx hb dX6_actsOf_22 rfl (lv_at hl 2 rfl) ?_
      refine lv_iconst (pc := 23) hx hb dX6_actsOf_23 zc_1 ?_
      refine lv_iload_n (pc := 24) hx hb dX6_actsOf_24 rfl (lv_at hl 3 rfl) ?_
      refine lv_ishl (pc := 25) hx hb dX6_actsOf_25 ?_
      refine lv_ior (pc := 26) hx hb dX6_actsOf_26 ?_
      obtain ⟨x6, ex6, h⟩ := zLt_e h
      refine zr_nmI ex6 ?_
      refine lv_istore_n (lv' := [(2, .int x6), (0, .ref (q a0)), (1, .int v1), (3, .int v3)]) (pc := 27) hx hb dX6_actsOf_27 rfl hl (by decide) rfl (fun ls hl => ?_)
      exact kX6_actsOf_28 cx hr hlk ha0 hb1 hx1 hP h hc (lv_sub hl [1, 2, 0, 3] rfl)
set_option maxHeartbeats 4000000 in
set_option maxRecDepth 100000 in
theorem kX6_actsOf_4 {p : Program} {l : Launch} {e : Env} {s : State} {m : MethodId} {args : Array Value} {below : List Frame} {meth : Method} {c : Code} {D : va_G} {cy : Nat → ClassId} {q : Nat → Nat} (cx : zX RX6 cX6_actsOf 4 p s m args c D cy) (hr : meth.sig.returnType = (some .int)) (hlk : meth.locks = false) {a0 : Nat} (ha0 : zLife a0) {z : Int32} {S : zSt} {v1 : Int32} (hP : va_P D vwCl (zW zsh zNC cy q S) s.heap) : ∀ (n : Nat) (v2 : Int32) (v3 : Int32), zLp (fX6_actsOf_4 S a0 v1) n (v2, v3) = some z → ∀ (ls : Array Slot), lv_has ls 4 [(0, .ref (q a0)), (1, .int v1), (2, .int v2), (3, .int v3)] → W p l e rmX6_actsOf s m args below meth c s.heap [] 0 0 (MQ below (vp_Si (fun x => x = z)) args s 0 0 (fun _ => False)) (F0 m 4 ls []) := by
  intro n
  induction n with
  | zero =>
    intro v2 v3 h
    cases h
  | succ n ih =>
    intro v2 v3 h ls hl
    obtain ⟨x, h, hk⟩ := zLp_e h
    exact kX6_actsOf_4B cx hr hlk ha0  (C1 := zKt (fun t => zLp (fX6_actsOf_4 S a0 v1) n t = some z) (fun a => a = z)) (fun v2 v3 ht ls hl => ih v2 v3 ht ls hl) (fun a ha => ha) hP h hk hl
def fX6_actsOf (S : zSt) (a0 : Nat) (v1 : Int32) : Option Int32 :=
  zLp (fX6_actsOf_4 S a0 v1) 2000 ((0 : Int32), (0 : Int32))
set_option maxHeartbeats 4000000 in
set_option maxRecDepth 100000 in
theorem mX6_actsOf {l : Launch} {D : va_G} {cy : Nat → ClassId} {q : Nat → Nat} {S : zSt} {a0 : Nat} {v1 : Int32} (ha0 : zLife a0) {z : Int32} (h : fX6_actsOf S a0 v1 = some z) : zMi l yX6_actsOf cX6_actsOf 4 (some .int) rmX6_actsOf [.ref (q a0), .int v1] (zPr zsh zNC D cy q S) z := by
  refine Met.ofW (cc := cX6_actsOf) (maxL := 4) (ret := (some .int)) (by decide) rfl ?_
  intro p e s m args below meth c s₁ B hml hv
  obtain ⟨rfl, hP, hK⟩ := hv
  have cx : zX RX6 cX6_actsOf 4 p s m ([.ref (q a0), .int v1]).toArray c D cy := ⟨B.exec, B.bytes, hml, findClass_of_methodNamed B.named, fun w hw => atoms_spec (ws := Cond.code yX6_actsOf cX6_actsOf 4 (some .int) :: zTB) B.pre w (List.mem_cons_of_mem _ hw), hK⟩
  have hx := cx.1
  have hb := cx.2.1
  have hr := B.returns
  have hlk := B.notSynchronized
  have hl := lv_entry ([.ref (q a0), .int v1]) (n := 4) (Nat.le_of_ble_eq_true rfl)
  rw [lg_entry_eq]
  generalize (lg_sl ([.ref (q a0), .int v1]) ++ List.replicate (4 - (lg_sl ([.ref (q a0), .int v1])).length) Slot.unset).toArray = ls at hl ⊢
  have hl : lv_has ls 4 [(0, .ref (q a0)), (1, .int v1)] := hl
  unfold fX6_actsOf at h
  refine lv_iconst (pc := 0) hx hb dX6_actsOf_0 zc_0 ?_
  refine lv_istore_n (lv' := [(2, .int (0 : Int32)), (0, .ref (q a0)), (1, .int v1)]) (pc := 1) hx hb dX6_actsOf_1 rfl hl (by decide) rfl (fun ls hl => ?_)
  refine lv_iconst (pc := 2) hx hb dX6_actsOf_2 zc_0 ?_
  refine lv_istore_n (lv' := [(3, .int (0 : Int32)), (2, .int (0 : Int32)), (0, .ref (q a0)), (1, .int v1)]) (pc := 3) hx hb dX6_actsOf_3 rfl hl (by decide) rfl (fun ls hl => ?_)
  exact kX6_actsOf_4 cx hr hlk ha0 hP 2000 _ _ h _ (lv_sub hl [2, 3, 1, 0] rfl)
-- X6_actsOfDeed
abbrev rmX6_actsOfDeed : Room := { frames := 0, cells := 0, slots := 0, locals := 0 }
def fX6_actsOfDeed_28 (S : zSt) (a0 : Nat) (v1 : Int32) (v2 : Int32) (v3 : Int32) : Option ((Int32 × Int32) ⊕ Int32) :=
  zLt (v3 + (1 : Int32)) (fun x5 => some (.inl (v2, x5)))
set_option maxHeartbeats 4000000 in
set_option maxRecDepth 100000 in
theorem kX6_actsOfDeed_28 {p : Program} {l : Launch} {e : Env} {s : State} {m : MethodId} {args : Array Value} {below : List Frame} {meth : Method} {c : Code} {D : va_G} {cy : Nat → ClassId} {q : Nat → Nat} (cx : zX RX6 cX6_actsOfDeed 4 p s m args c D cy) (hr : meth.sig.returnType = (some .int)) (hlk : meth.locks = false) {a0 : Nat} (ha0 : zLife a0) {z : Int32} {S : zSt} {v1 : Int32} {v2 : Int32} {v3 : Int32} {C1 : ((Int32 × Int32) ⊕ Int32) → Prop} (hb1 : ∀ (v2 : Int32) (v3 : Int32), C1 (.inl (v2, v3)) → ∀ (ls : Array Slot), lv_has ls 4 [(0, .ref (q a0)), (1, .int v1), (2, .int v2), (3, .int v3)] → W p l e rmX6_actsOfDeed s m args below meth c s.heap [] 0 0 (MQ below (vp_Si (fun x => x = z)) args s 0 0 (fun _ => False)) (F0 m 4 ls [])) (hx1 : ∀ a, C1 (.inr a) → a = z) (hP : va_P D vwCl (zW zsh zNC cy q S) s.heap) {x : ((Int32 × Int32) ⊕ Int32)} (h : fX6_actsOfDeed_28 S a0 v1 v2 v3 = some x) (hc : C1 x) {ls : Array Slot} (hl : lv_has ls 4 [(0, .ref (q a0)), (1, .int v1), (2, .int v2), (3, .int v3)]) : W p l e rmX6_actsOfDeed s m args below meth c s.heap [] 0 0 (MQ below (vp_Si (fun x => x = z)) args s 0 0 (fun _ => False)) (F0 m 28 ls []) := by
  have hx := cx.1
  have hb := cx.2.1
  unfold fX6_actsOfDeed_28 at h
  obtain ⟨x5, ex5, h⟩ := zLt_e h
  refine lv_iinc (v := x5) (lv' := [(3, .int x5), (0, .ref (q a0)), (1, .int v1), (2, .int v2)]) (pc := 28) hx hb dX6_actsOfDeed_28 hl (k := 3) rfl (by rw [zc_1]; exact ex5.symm) (by decide) rfl (fun ls hl => ?_)
  refine lv_goto (pc := 31) (tgt := 4) hx hb dX6_actsOfDeed_31 (by decide) ?_
  cases h
  exact hb1 _ _ hc _ (lv_sub hl [1, 2, 3, 0] rfl)
def fX6_actsOfDeed_4 (S : zSt) (a0 : Nat) (v1 : Int32) (t : (Int32 × Int32)) : Option ((Int32 × Int32) ⊕ Int32) :=
  match t with
  | (v2, v3) => zBr ((S.1 a0 2) ≤ v3) (zXr (some v2)) (zGd (zIx v3 12) (zBr ((S.1 (a0 + 2) v3.toNatClampNeg) = v1) (zLt (v2 ||| ((1 : Int32) <<< (v3 &&& 31))) (fun x6 => fX6_actsOfDeed_28 S a0 v1 x6 v3)) (fX6_actsOfDeed_28 S a0 v1 v2 v3)))
set_option maxHeartbeats 4000000 in
set_option maxRecDepth 100000 in
theorem kX6_actsOfDeed_4B {p : Program} {l : Launch} {e : Env} {s : State} {m : MethodId} {args : Array Value} {below : List Frame} {meth : Method} {c : Code} {D : va_G} {cy : Nat → ClassId} {q : Nat → Nat} (cx : zX RX6 cX6_actsOfDeed 4 p s m args c D cy) (hr : meth.sig.returnType = (some .int)) (hlk : meth.locks = false) {a0 : Nat} (ha0 : zLife a0) {z : Int32} {S : zSt} {v1 : Int32} {v2 : Int32} {v3 : Int32} {C1 : ((Int32 × Int32) ⊕ Int32) → Prop} (hb1 : ∀ (v2 : Int32) (v3 : Int32), C1 (.inl (v2, v3)) → ∀ (ls : Array Slot), lv_has ls 4 [(0, .ref (q a0)), (1, .int v1), (2, .int v2), (3, .int v3)] → W p l e rmX6_actsOfDeed s m args below meth c s.heap [] 0 0 (MQ below (vp_Si (fun x => x = z)) args s 0 0 (fun _ => False)) (F0 m 4 ls [])) (hx1 : ∀ a, C1 (.inr a) → a = z) (hP : va_P D vwCl (zW zsh zNC cy q S) s.heap) {x : ((Int32 × Int32) ⊕ Int32)} (h : fX6_actsOfDeed_4 S a0 v1 (v2, v3) = some x) (hc : C1 x) {ls : Array Slot} (hl : lv_has ls 4 [(0, .ref (q a0)), (1, .int v1), (2, .int v2), (3, .int v3)]) : W p l e rmX6_actsOfDeed s m args below meth c s.heap [] 0 0 (MQ below (vp_Si (fun x => x = z)) args s 0 0 (fun _ => False)) (F0 m 4 ls []) := by
  have hx := cx.1
  have hb := cx.2.1
  unfold fX6_actsOfDeed_4 at h
  dsimp only at h
  refine lv_iload_n (pc := 4) hx hb dX6_actsOfDeed_4 rfl (lv_at hl 3 rfl) ?_
  refine lv_aload_n (pc := 5) hx hb dX6_actsOfDeed_5 rfl (lv_at hl 0 rfl) ?_
  refine zr_getI (pc := 6) cx lk_X6_46 hP (nX6_0 ha0) (sX6_0 ha0) rfl dX6_actsOfDeed_6 ?_
  refine lv_icmp_ge (pc := 9) (tgt := 34) hx hb dX6_actsOfDeed_9 (by decide) (fun c1 => ?_) (fun c1 => ?_)
  · replace h := zBr_t c1 h
    obtain ⟨y2, h, ex⟩ := zXr_e h
    have hc := hx1 y2 (by rw [ex] at hc; exact hc)
    rw [hc] at h
    refine lv_iload_n (pc := 34) hx hb dX6_actsOfDeed_34 rfl (lv_at hl 2 rfl) ?_
    have hz := Option.some.inj h
    exact zr_reI (pc := 35) cx hr hlk hz dX6_actsOfDeed_35
  · replace h := zBr_f c1 h
    refine lv_aload_n (pc := 12) hx hb dX6_actsOfDeed_12 rfl (lv_at hl 0 rfl) ?_
    refine zr_getR (pc := 13) (t := (a0 + 2)) cx lk_X6_15 hP (nX6_0 ha0) (sX6_0 ha0) rfl dX6_actsOfDeed_13 ?_
    refine lv_iload_n (pc := 16) hx hb dX6_actsOfDeed_16 rfl (lv_at hl 3 rfl) ?_
    obtain ⟨g3, h⟩ := zGd_e h
    refine zr_iald (pc := 17) cx hP (nX6_2 ha0) (sX6_2 ha0) g3 dX6_actsOfDeed_17 ?_
    refine lv_iload_n (pc := 18) hx hb dX6_actsOfDeed_18 rfl (lv_at hl 1 rfl) ?_
    refine lv_icmp_ne (pc := 19) (tgt := 28) hx hb dX6_actsOfDeed_19 (by decide) (fun c4 => ?_) (fun c4 => ?_)
    · replace h := zBr_f c4 h
      exact kX6_actsOfDeed_28 cx hr hlk ha0 hb1 hx1 hP h hc (lv_sub hl [0, 1, 2, 3] rfl)
    · replace h := zBr_t c4 h
      refine lv_iload_n (pc := 22) hx hb dX6_actsOfDeed_22 rfl (lv_at hl 2 rfl) ?_
      refine lv_iconst (pc := 23) hx hb dX6_actsOfDeed_23 zc_1 ?_
      refine lv_iload_n (pc := 24) hx hb dX6_actsOfDeed_24 rfl (lv_at hl 3 rfl) ?_
      refine lv_ishl (pc := 25) hx hb dX6_actsOfDeed_25 ?_
      refine lv_ior (pc := 26) hx hb dX6_actsOfDeed_26 ?_
      obtain ⟨x6, ex6, h⟩ := zLt_e h
      refine zr_nmI ex6 ?_
      refine lv_istore_n (lv' := [(2, .int x6), (0, .ref (q a0)), (1, .int v1), (3, .int v3)]) (pc := 27) hx hb dX6_actsOfDeed_27 rfl hl (by decide) rfl (fun ls hl => ?_)
      exact kX6_actsOfDeed_28 cx hr hlk ha0 hb1 hx1 hP h hc (lv_sub hl [1, 2, 0, 3] rfl)
set_option maxHeartbeats 4000000 in
set_option maxRecDepth 100000 in
theorem kX6_actsOfDeed_4 {p : Program} {l : Launch} {e : Env} {s : State} {m : MethodId} {args : Array Value} {below : List Frame} {meth : Method} {c : Code} {D : va_G} {cy : Nat → ClassId} {q : Nat → Nat} (cx : zX RX6 cX6_actsOfDeed 4 p s m args c D cy) (hr : meth.sig.returnType = (some .int)) (hlk : meth.locks = false) {a0 : Nat} (ha0 : zLife a0) {z : Int32} {S : zSt} {v1 : Int32} (hP : va_P D vwCl (zW zsh zNC cy q S) s.heap) : ∀ (n : Nat) (v2 : Int32) (v3 : Int32), zLp (fX6_actsOfDeed_4 S a0 v1) n (v2, v3) = some z → ∀ (ls : Array Slot), lv_has ls 4 [(0, .ref (q a0)), (1, .int v1), (2, .int v2), (3, .int v3)] → W p l e rmX6_actsOfDeed s m args below meth c s.heap [] 0 0 (MQ below (vp_Si (fun x => x = z)) args s 0 0 (fun _ => False)) (F0 m 4 ls []) := by
  intro n
  induction n with
  | zero =>
    intro v2 v3 h
    cases h
  | succ n ih =>
    intro v2 v3 h ls hl
    obtain ⟨x, h, hk⟩ := zLp_e h
    exact kX6_actsOfDeed_4B cx hr hlk ha0  (C1 := zKt (fun t => zLp (fX6_actsOfDeed_4 S a0 v1) n t = some z) (fun a => a = z)) (fun v2 v3 ht ls hl => ih v2 v3 ht ls hl) (fun a ha => ha) hP h hk hl
def fX6_actsOfDeed (S : zSt) (a0 : Nat) (v1 : Int32) : Option Int32 :=
  zLp (fX6_actsOfDeed_4 S a0 v1) 2000 ((0 : Int32), (0 : Int32))
set_option maxHeartbeats 4000000 in
set_option maxRecDepth 100000 in
theorem mX6_actsOfDeed {l : Launch} {D : va_G} {cy : Nat → ClassId} {q : Nat → Nat} {S : zSt} {a0 : Nat} {v1 : Int32} (ha0 : zLife a0) {z : Int32} (h : fX6_actsOfDeed S a0 v1 = some z) : zMi l yX6_actsOfDeed cX6_actsOfDeed 4 (some .int) rmX6_actsOfDeed [.ref (q a0), .int v1] (zPr zsh zNC D cy q S) z := by
  refine Met.ofW (cc := cX6_actsOfDeed) (maxL := 4) (ret := (some .int)) (by decide) rfl ?_
  intro p e s m args below meth c s₁ B hml hv
  obtain ⟨rfl, hP, hK⟩ := hv
  have cx : zX RX6 cX6_actsOfDeed 4 p s m ([.ref (q a0), .int v1]).toArray c D cy := ⟨B.exec, B.bytes, hml, findClass_of_methodNamed B.named, fun w hw => atoms_spec (ws := Cond.code yX6_actsOfDeed cX6_actsOfDeed 4 (some .int) :: zTB) B.pre w (List.mem_cons_of_mem _ hw), hK⟩
  have hx := cx.1
  have hb := cx.2.1
  have hr := B.returns
  have hlk := B.notSynchronized
  have hl := lv_entry ([.ref (q a0), .int v1]) (n := 4) (Nat.le_of_ble_eq_true rfl)
  rw [lg_entry_eq]
  generalize (lg_sl ([.ref (q a0), .int v1]) ++ List.replicate (4 - (lg_sl ([.ref (q a0), .int v1])).length) Slot.unset).toArray = ls at hl ⊢
  have hl : lv_has ls 4 [(0, .ref (q a0)), (1, .int v1)] := hl
  unfold fX6_actsOfDeed at h
  refine lv_iconst (pc := 0) hx hb dX6_actsOfDeed_0 zc_0 ?_
  refine lv_istore_n (lv' := [(2, .int (0 : Int32)), (0, .ref (q a0)), (1, .int v1)]) (pc := 1) hx hb dX6_actsOfDeed_1 rfl hl (by decide) rfl (fun ls hl => ?_)
  refine lv_iconst (pc := 2) hx hb dX6_actsOfDeed_2 zc_0 ?_
  refine lv_istore_n (lv' := [(3, .int (0 : Int32)), (2, .int (0 : Int32)), (0, .ref (q a0)), (1, .int v1)]) (pc := 3) hx hb dX6_actsOfDeed_3 rfl hl (by decide) rfl (fun ls hl => ?_)
  exact kX6_actsOfDeed_4 cx hr hlk ha0 hP 2000 _ _ h _ (lv_sub hl [2, 3, 1, 0] rfl)
-- X11_guilty
abbrev rmX11_guilty : Room := { frames := 4, cells := 0, slots := 0, locals := 87 }
def fX11_guilty (S : zSt) (v1 : Int32) (v2 : Int32) : Option Int32 :=
  zBd (fX3_has S 4 (2 : Int32) v1) (fun r2 => zBr (r2 = 0) (some (-1 : Int32)) (zBd (fX3_has S 4 (3 : Int32) v2) (fun r5 => zBr (r5 = 0) (some (-1 : Int32)) (zBd (fX6_actsProved S 14) (fun r8 => zBd (fX6_actsOf S 14 v1) (fun r10 => zBd (fX6_actsOfDeed S 14 v2) (fun r12 => zBr (((r8 &&& r10) &&& r12) = 0) (some (0 : Int32)) (some (1 : Int32)))))))))
set_option maxHeartbeats 4000000 in
set_option maxRecDepth 100000 in
theorem mX11_guilty {l : Launch} {D : va_G} {cy : Nat → ClassId} {q : Nat → Nat} {S : zSt} {v1 : Int32} {v2 : Int32} {z : Int32} (h : fX11_guilty S v1 v2 = some z) : zMi l yX11_guilty cX11_guilty 3 (some .int) rmX11_guilty [.ref (q 0), .int v1, .int v2] (zPr zsh zNC D cy q S) z := by
  refine Met.ofW (cc := cX11_guilty) (maxL := 3) (ret := (some .int)) (by decide) rfl ?_
  intro p e s m args below meth c s₁ B hml hv
  obtain ⟨rfl, hP, hK⟩ := hv
  have cx : zX RX11 cX11_guilty 3 p s m ([.ref (q 0), .int v1, .int v2]).toArray c D cy := ⟨B.exec, B.bytes, hml, findClass_of_methodNamed B.named, fun w hw => atoms_spec (ws := Cond.code yX11_guilty cX11_guilty 3 (some .int) :: zTB) B.pre w (List.mem_cons_of_mem _ hw), hK⟩
  have hx := cx.1
  have hb := cx.2.1
  have hr := B.returns
  have hlk := B.notSynchronized
  have hl := lv_entry ([.ref (q 0), .int v1, .int v2]) (n := 3) (Nat.le_of_ble_eq_true rfl)
  rw [lg_entry_eq]
  generalize (lg_sl ([.ref (q 0), .int v1, .int v2]) ++ List.replicate (3 - (lg_sl ([.ref (q 0), .int v1, .int v2])).length) Slot.unset).toArray = ls at hl ⊢
  have hl : lv_has ls 3 [(0, .ref (q 0)), (1, .int v1), (2, .int v2)] := hl
  unfold fX11_guilty at h
  refine lv_aload_n (pc := 0) hx hb dX11_guilty_0 rfl (lv_at hl 0 rfl) ?_
  refine zr_getR (pc := 1) (t := 4) cx lk_X11_19 hP nC_0 sC_0 rfl dX11_guilty_1 ?_
  refine lv_iconst (pc := 4) hx hb dX11_guilty_4 zc_2 ?_
  refine lv_iload_n (pc := 5) hx hb dX11_guilty_5 rfl (lv_at hl 1 rfl) ?_
  obtain ⟨r2, k1, h⟩ := zBd_e h
  refine zr_VI (pc := 6) (rest := []) cx cv_X11_149 (mX3_has zHouse_4 k1) ⟨⟨rfl, rfl⟩, Nat.le_of_ble_eq_true rfl, Nat.le_of_ble_eq_true rfl⟩ ⟨Nat.le_of_ble_eq_true rfl, Nat.le_of_ble_eq_true rfl⟩ hP (nX3_0 zHouse_4) (sX3_0 zHouse_4) rfl hl.1 rfl rfl (Nat.le_of_ble_eq_true rfl) dX11_guilty_6 ?_
  refine lv_if_eq (pc := 9) (tgt := 24) hx hb dX11_guilty_9 (by decide) (fun c3 => ?_) (fun c3 => ?_)
  · replace h := zBr_t c3 h
    refine lv_iconst (pc := 24) hx hb dX11_guilty_24 zc_m1 ?_
    have hz := Option.some.inj h
    exact zr_reI (pc := 25) cx hr hlk hz dX11_guilty_25
  · replace h := zBr_f c3 h
    refine lv_aload_n (pc := 12) hx hb dX11_guilty_12 rfl (lv_at hl 0 rfl) ?_
    refine zr_getR (pc := 13) (t := 4) cx lk_X11_19 hP nC_0 sC_0 rfl dX11_guilty_13 ?_
    refine lv_iconst (pc := 16) hx hb dX11_guilty_16 zc_3 ?_
    refine lv_iload_n (pc := 17) hx hb dX11_guilty_17 rfl (lv_at hl 2 rfl) ?_
    obtain ⟨r5, k4, h⟩ := zBd_e h
    refine zr_VI (pc := 18) (rest := []) cx cv_X11_149 (mX3_has zHouse_4 k4) ⟨⟨rfl, rfl⟩, Nat.le_of_ble_eq_true rfl, Nat.le_of_ble_eq_true rfl⟩ ⟨Nat.le_of_ble_eq_true rfl, Nat.le_of_ble_eq_true rfl⟩ hP (nX3_0 zHouse_4) (sX3_0 zHouse_4) rfl hl.1 rfl rfl (Nat.le_of_ble_eq_true rfl) dX11_guilty_18 ?_
    refine lv_if_ne (pc := 21) (tgt := 26) hx hb dX11_guilty_21 (by decide) (fun c6 => ?_) (fun c6 => ?_)
    · replace h := zBr_f c6 h
      refine lv_aload_n (pc := 26) hx hb dX11_guilty_26 rfl (lv_at hl 0 rfl) ?_
      refine zr_getR (pc := 27) (t := 14) cx lk_X11_28 hP nC_0 sC_0 rfl dX11_guilty_27 ?_
      obtain ⟨r8, k7, h⟩ := zBd_e h
      refine zr_VI (pc := 30) (rest := []) cx cv_X11_223 (mX6_actsProved zLife_14 k7) ⟨⟨rfl, rfl⟩, Nat.le_of_ble_eq_true rfl, Nat.le_of_ble_eq_true rfl⟩ ⟨Nat.le_of_ble_eq_true rfl, Nat.le_of_ble_eq_true rfl⟩ hP (nX6_0 zLife_14) (sX6_0 zLife_14) rfl hl.1 rfl rfl (Nat.le_of_ble_eq_true rfl) dX11_guilty_30 ?_
      refine lv_aload_n (pc := 33) hx hb dX11_guilty_33 rfl (lv_at hl 0 rfl) ?_
      refine zr_getR (pc := 34) (t := 14) cx lk_X11_28 hP nC_0 sC_0 rfl dX11_guilty_34 ?_
      refine lv_iload_n (pc := 37) hx hb dX11_guilty_37 rfl (lv_at hl 1 rfl) ?_
      obtain ⟨r10, k9, h⟩ := zBd_e h
      refine zr_VI (pc := 38) (rest := [.int r8]) cx cv_X11_275 (mX6_actsOf zLife_14 k9) ⟨⟨rfl, rfl⟩, Nat.le_of_ble_eq_true rfl, Nat.le_of_ble_eq_true rfl⟩ ⟨Nat.le_of_ble_eq_true rfl, Nat.le_of_ble_eq_true rfl⟩ hP (nX6_0 zLife_14) (sX6_0 zLife_14) rfl hl.1 rfl rfl (Nat.le_of_ble_eq_true rfl) dX11_guilty_38 ?_
      refine lv_iand (pc := 41) hx hb dX11_guilty_41 ?_
      refine lv_aload_n (pc := 42) hx hb dX11_guilty_42 rfl (lv_at hl 0 rfl) ?_
      refine zr_getR (pc := 43) (t := 14) cx lk_X11_28 hP nC_0 sC_0 rfl dX11_guilty_43 ?_
      refine lv_iload_n (pc := 46) hx hb dX11_guilty_46 rfl (lv_at hl 2 rfl) ?_
      obtain ⟨r12, k11, h⟩ := zBd_e h
      refine zr_VI (pc := 47) (rest := [.int (r8 &&& r10)]) cx cv_X11_278 (mX6_actsOfDeed zLife_14 k11) ⟨⟨rfl, rfl⟩, Nat.le_of_ble_eq_true rfl, Nat.le_of_ble_eq_true rfl⟩ ⟨Nat.le_of_ble_eq_true rfl, Nat.le_of_ble_eq_true rfl⟩ hP (nX6_0 zLife_14) (sX6_0 zLife_14) rfl hl.1 rfl rfl (Nat.le_of_ble_eq_true rfl) dX11_guilty_47 ?_
      refine lv_iand (pc := 50) hx hb dX11_guilty_50 ?_
      refine lv_if_eq (pc := 51) (tgt := 58) hx hb dX11_guilty_51 (by decide) (fun c13 => ?_) (fun c13 => ?_)
      · replace h := zBr_t c13 h
        refine lv_iconst (pc := 58) hx hb dX11_guilty_58 zc_0 ?_
        have hz := Option.some.inj h
        exact zr_reI (pc := 59) cx hr hlk hz dX11_guilty_59
      · replace h := zBr_f c13 h
        refine lv_iconst (pc := 54) hx hb dX11_guilty_54 zc_1 ?_
        refine lv_goto (pc := 55) (tgt := 59) hx hb dX11_guilty_55 (by decide) ?_
        have hz := Option.some.inj h
        exact zr_reI (pc := 59) cx hr hlk hz dX11_guilty_59
    · replace h := zBr_t c6 h
      refine lv_iconst (pc := 24) hx hb dX11_guilty_24 zc_m1 ?_
      have hz := Option.some.inj h
      exact zr_reI (pc := 25) cx hr hlk hz dX11_guilty_25
-- X2_hiddenParlours
abbrev rmX2_hiddenParlours : Room := { frames := 2, cells := 0, slots := 0, locals := 42 }
def fX2_hiddenParlours_46 (S : zSt)  (v1 : Int32) (v2 : Int32) (v3 : Int32) : Option ((Int32 × Int32) ⊕ Int32) :=
  zLt (v3 + (1 : Int32)) (fun x11 => some (.inl (v2, x11)))
set_option maxHeartbeats 4000000 in
set_option maxRecDepth 100000 in
theorem kX2_hiddenParlours_46 {p : Program} {l : Launch} {e : Env} {s : State} {m : MethodId} {args : Array Value} {below : List Frame} {meth : Method} {c : Code} {D : va_G} {cy : Nat → ClassId} {q : Nat → Nat} (cx : zX RX2 cX2_hiddenParlours 4 p s m args c D cy) (hr : meth.sig.returnType = (some .int)) (hlk : meth.locks = false) {z : Int32} {S : zSt} {v1 : Int32} {v2 : Int32} {v3 : Int32} {C1 : ((Int32 × Int32) ⊕ Int32) → Prop} (hb1 : ∀ (v2 : Int32) (v3 : Int32), C1 (.inl (v2, v3)) → ∀ (ls : Array Slot), lv_has ls 4 [(0, .ref (q 255)), (1, .int v1), (2, .int v2), (3, .int v3)] → W p l e rmX2_hiddenParlours s m args below meth c s.heap [] 0 0 (MQ below (vp_Si (fun x => x = z)) args s 0 0 (fun _ => False)) (F0 m 4 ls [])) (hx1 : ∀ a, C1 (.inr a) → a = z) (hP : va_P D vwCl (zW zsh zNC cy q S) s.heap) {x : ((Int32 × Int32) ⊕ Int32)} (h : fX2_hiddenParlours_46 S v1 v2 v3 = some x) (hc : C1 x) {ls : Array Slot} (hl : lv_has ls 4 [(0, .ref (q 255)), (1, .int v1), (2, .int v2), (3, .int v3)]) : W p l e rmX2_hiddenParlours s m args below meth c s.heap [] 0 0 (MQ below (vp_Si (fun x => x = z)) args s 0 0 (fun _ => False)) (F0 m 46 ls []) := by
  have hx := cx.1
  have hb := cx.2.1
  unfold fX2_hiddenParlours_46 at h
  obtain ⟨x11, ex11, h⟩ := zLt_e h
  refine lv_iinc (v := x11) (lv' := [(3, .int x11), (0, .ref (q 255)), (1, .int v1), (2, .int v2)]) (pc := 46) hx hb dX2_hiddenParlours_46 hl (k := 3) rfl (by rw [zc_1]; exact ex11.symm) (by decide) rfl (fun ls hl => ?_)
  refine lv_goto (pc := 49) (tgt := 4) hx hb dX2_hiddenParlours_49 (by decide) ?_
  cases h
  exact hb1 _ _ hc _ (lv_sub hl [1, 2, 3, 0] rfl)
def fX2_hiddenParlours_4 (S : zSt)  (v1 : Int32) (t : (Int32 × Int32)) : Option ((Int32 × Int32) ⊕ Int32) :=
  match t with
  | (v2, v3) => zBd (fX6_plants S 14) (fun r2 => zBr (r2 ≤ v3) (zXr (zGd (zIx (0 : Int32) 4) (zBd (fX11_allBits (S.1 (4 + 1) (0 : Int32).toNatClampNeg)) (fun r7 => some (r7 &&& (v2 ^^^ (-1 : Int32))))))) (zBd (fX6_nextLeafDay S 14 v3) (fun r9 => zBr (((S.1 14 1) + v1) < r9) (fX2_hiddenParlours_46 S v1 v2 v3) (zBd (fX6_seenBy S 14 v3) (fun r13 => zLt (v2 ||| r13) (fun x14 => fX2_hiddenParlours_46 S v1 x14 v3))))))
set_option maxHeartbeats 4000000 in
set_option maxRecDepth 100000 in
theorem kX2_hiddenParlours_4B {p : Program} {l : Launch} {e : Env} {s : State} {m : MethodId} {args : Array Value} {below : List Frame} {meth : Method} {c : Code} {D : va_G} {cy : Nat → ClassId} {q : Nat → Nat} (cx : zX RX2 cX2_hiddenParlours 4 p s m args c D cy) (hr : meth.sig.returnType = (some .int)) (hlk : meth.locks = false) {z : Int32} {S : zSt} {v1 : Int32} {v2 : Int32} {v3 : Int32} {C1 : ((Int32 × Int32) ⊕ Int32) → Prop} (hb1 : ∀ (v2 : Int32) (v3 : Int32), C1 (.inl (v2, v3)) → ∀ (ls : Array Slot), lv_has ls 4 [(0, .ref (q 255)), (1, .int v1), (2, .int v2), (3, .int v3)] → W p l e rmX2_hiddenParlours s m args below meth c s.heap [] 0 0 (MQ below (vp_Si (fun x => x = z)) args s 0 0 (fun _ => False)) (F0 m 4 ls [])) (hx1 : ∀ a, C1 (.inr a) → a = z) (hP : va_P D vwCl (zW zsh zNC cy q S) s.heap) {x : ((Int32 × Int32) ⊕ Int32)} (h : fX2_hiddenParlours_4 S v1 (v2, v3) = some x) (hc : C1 x) {ls : Array Slot} (hl : lv_has ls 4 [(0, .ref (q 255)), (1, .int v1), (2, .int v2), (3, .int v3)]) : W p l e rmX2_hiddenParlours s m args below meth c s.heap [] 0 0 (MQ below (vp_Si (fun x => x = z)) args s 0 0 (fun _ => False)) (F0 m 4 ls []) := by
  have hx := cx.1
  have hb := cx.2.1
  unfold fX2_hiddenParlours_4 at h
  dsimp only at h
  refine lv_iload_n (pc := 4) hx hb dX2_hiddenParlours_4 rfl (lv_at hl 3 rfl) ?_
  refine lv_aload_n (pc := 5) hx hb dX2_hiddenParlours_5 rfl (lv_at hl 0 rfl) ?_
  refine zr_getR (pc := 6) (t := 14) cx lk_X2_25 hP nC_255 sC_255 rfl dX2_hiddenParlours_6 ?_
  obtain ⟨r2, k1, h⟩ := zBd_e h
  refine zr_VI (pc := 9) (rest := [.int v3]) cx cv_X2_29 (mX6_plants zLife_14 k1) ⟨⟨rfl, rfl⟩, Nat.le_of_ble_eq_true rfl, Nat.le_of_ble_eq_true rfl⟩ ⟨Nat.le_of_ble_eq_true rfl, Nat.le_of_ble_eq_true rfl⟩ hP (nX6_0 zLife_14) (sX6_0 zLife_14) rfl hl.1 rfl rfl (Nat.le_of_ble_eq_true rfl) dX2_hiddenParlours_9 ?_
  refine lv_icmp_ge (pc := 12) (tgt := 52) hx hb dX2_hiddenParlours_12 (by decide) (fun c3 => ?_) (fun c3 => ?_)
  · replace h := zBr_t c3 h
    obtain ⟨y4, h, ex⟩ := zXr_e h
    have hc := hx1 y4 (by rw [ex] at hc; exact hc)
    rw [hc] at h
    refine lv_aload_n (pc := 52) hx hb dX2_hiddenParlours_52 rfl (lv_at hl 0 rfl) ?_
    refine zr_getR (pc := 53) (t := 4) cx lk_X2_21 hP nC_255 sC_255 rfl dX2_hiddenParlours_53 ?_
    refine zr_getR (pc := 56) (t := (4 + 1)) cx lk_X2_63 hP (nX3_0 zHouse_4) (sX3_0 zHouse_4) rfl dX2_hiddenParlours_56 ?_
    refine lv_iconst (pc := 59) hx hb dX2_hiddenParlours_59 zc_0 ?_
    obtain ⟨g5, h⟩ := zGd_e h
    refine zr_iald (pc := 60) cx hP (nX3_1 zHouse_4) (sX3_1 zHouse_4) g5 dX2_hiddenParlours_60 ?_
    obtain ⟨r7, k6, h⟩ := zBd_e h
    refine zr_NI (pc := 61) (rest := []) cx cv_X2_67 (mX11_allBits k6) ⟨⟨rfl, rfl⟩, Nat.le_of_ble_eq_true rfl, Nat.le_of_ble_eq_true rfl⟩ ⟨Nat.le_of_ble_eq_true rfl, Nat.le_of_ble_eq_true rfl⟩ (zr_preK cx) hl.1 rfl rfl (Nat.le_of_ble_eq_true rfl) dX2_hiddenParlours_61 ?_
    refine lv_iload_n (pc := 64) hx hb dX2_hiddenParlours_64 rfl (lv_at hl 2 rfl) ?_
    refine lv_iconst (pc := 65) hx hb dX2_hiddenParlours_65 zc_m1 ?_
    refine lv_ixor (pc := 66) hx hb dX2_hiddenParlours_66 ?_
    refine lv_iand (pc := 67) hx hb dX2_hiddenParlours_67 ?_
    have hz := Option.some.inj h
    exact zr_reI (pc := 68) cx hr hlk hz dX2_hiddenParlours_68
  · replace h := zBr_f c3 h
    refine lv_aload_n (pc := 15) hx hb dX2_hiddenParlours_15 rfl (lv_at hl 0 rfl) ?_
    refine zr_getR (pc := 16) (t := 14) cx lk_X2_25 hP nC_255 sC_255 rfl dX2_hiddenParlours_16 ?_
    refine lv_iload_n (pc := 19) hx hb dX2_hiddenParlours_19 rfl (lv_at hl 3 rfl) ?_
    obtain ⟨r9, k8, h⟩ := zBd_e h
    refine zr_VI (pc := 20) (rest := []) cx cv_X2_54 (mX6_nextLeafDay zLife_14 k8) ⟨⟨rfl, rfl⟩, Nat.le_of_ble_eq_true rfl, Nat.le_of_ble_eq_true rfl⟩ ⟨Nat.le_of_ble_eq_true rfl, Nat.le_of_ble_eq_true rfl⟩ hP (nX6_0 zLife_14) (sX6_0 zLife_14) rfl hl.1 rfl rfl (Nat.le_of_ble_eq_true rfl) dX2_hiddenParlours_20 ?_
    refine lv_aload_n (pc := 23) hx hb dX2_hiddenParlours_23 rfl (lv_at hl 0 rfl) ?_
    refine zr_getR (pc := 24) (t := 14) cx lk_X2_25 hP nC_255 sC_255 rfl dX2_hiddenParlours_24 ?_
    refine zr_getI (pc := 27) cx lk_X2_57 hP (nX6_0 zLife_14) (sX6_0 zLife_14) rfl dX2_hiddenParlours_27 ?_
    refine lv_iload_n (pc := 30) hx hb dX2_hiddenParlours_30 rfl (lv_at hl 1 rfl) ?_
    refine lv_iadd (pc := 31) hx hb dX2_hiddenParlours_31 ?_
    refine lv_icmp_gt (pc := 32) (tgt := 46) hx hb dX2_hiddenParlours_32 (by decide) (fun c10 => ?_) (fun c10 => ?_)
    · replace h := zBr_t c10 h
      exact kX2_hiddenParlours_46 cx hr hlk hb1 hx1 hP h hc (lv_sub hl [0, 1, 2, 3] rfl)
    · replace h := zBr_f c10 h
      refine lv_iload_n (pc := 35) hx hb dX2_hiddenParlours_35 rfl (lv_at hl 2 rfl) ?_
      refine lv_aload_n (pc := 36) hx hb dX2_hiddenParlours_36 rfl (lv_at hl 0 rfl) ?_
      refine zr_getR (pc := 37) (t := 14) cx lk_X2_25 hP nC_255 sC_255 rfl dX2_hiddenParlours_37 ?_
      refine lv_iload_n (pc := 40) hx hb dX2_hiddenParlours_40 rfl (lv_at hl 3 rfl) ?_
      obtain ⟨r13, k12, h⟩ := zBd_e h
      refine zr_VI (pc := 41) (rest := [.int v2]) cx cv_X2_60 (mX6_seenBy zLife_14 k12) ⟨⟨rfl, rfl⟩, Nat.le_of_ble_eq_true rfl, Nat.le_of_ble_eq_true rfl⟩ ⟨Nat.le_of_ble_eq_true rfl, Nat.le_of_ble_eq_true rfl⟩ hP (nX6_0 zLife_14) (sX6_0 zLife_14) rfl hl.1 rfl rfl (Nat.le_of_ble_eq_true rfl) dX2_hiddenParlours_41 ?_
      refine lv_ior (pc := 44) hx hb dX2_hiddenParlours_44 ?_
      obtain ⟨x14, ex14, h⟩ := zLt_e h
      refine zr_nmI ex14 ?_
      refine lv_istore_n (lv' := [(2, .int x14), (0, .ref (q 255)), (1, .int v1), (3, .int v3)]) (pc := 45) hx hb dX2_hiddenParlours_45 rfl hl (by decide) rfl (fun ls hl => ?_)
      exact kX2_hiddenParlours_46 cx hr hlk hb1 hx1 hP h hc (lv_sub hl [1, 2, 0, 3] rfl)
set_option maxHeartbeats 4000000 in
set_option maxRecDepth 100000 in
theorem kX2_hiddenParlours_4 {p : Program} {l : Launch} {e : Env} {s : State} {m : MethodId} {args : Array Value} {below : List Frame} {meth : Method} {c : Code} {D : va_G} {cy : Nat → ClassId} {q : Nat → Nat} (cx : zX RX2 cX2_hiddenParlours 4 p s m args c D cy) (hr : meth.sig.returnType = (some .int)) (hlk : meth.locks = false) {z : Int32} {S : zSt} {v1 : Int32} (hP : va_P D vwCl (zW zsh zNC cy q S) s.heap) : ∀ (n : Nat) (v2 : Int32) (v3 : Int32), zLp (fX2_hiddenParlours_4 S v1) n (v2, v3) = some z → ∀ (ls : Array Slot), lv_has ls 4 [(0, .ref (q 255)), (1, .int v1), (2, .int v2), (3, .int v3)] → W p l e rmX2_hiddenParlours s m args below meth c s.heap [] 0 0 (MQ below (vp_Si (fun x => x = z)) args s 0 0 (fun _ => False)) (F0 m 4 ls []) := by
  intro n
  induction n with
  | zero =>
    intro v2 v3 h
    cases h
  | succ n ih =>
    intro v2 v3 h ls hl
    obtain ⟨x, h, hk⟩ := zLp_e h
    exact kX2_hiddenParlours_4B cx hr hlk  (C1 := zKt (fun t => zLp (fX2_hiddenParlours_4 S v1) n t = some z) (fun a => a = z)) (fun v2 v3 ht ls hl => ih v2 v3 ht ls hl) (fun a ha => ha) hP h hk hl
def fX2_hiddenParlours (S : zSt) (v1 : Int32) : Option Int32 :=
  zLp (fX2_hiddenParlours_4 S v1) 2000 ((0 : Int32), (0 : Int32))
set_option maxHeartbeats 4000000 in
set_option maxRecDepth 100000 in
theorem mX2_hiddenParlours {l : Launch} {D : va_G} {cy : Nat → ClassId} {q : Nat → Nat} {S : zSt} {v1 : Int32} {z : Int32} (h : fX2_hiddenParlours S v1 = some z) : zMi l yX2_hiddenParlours cX2_hiddenParlours 4 (some .int) rmX2_hiddenParlours [.ref (q 255), .int v1] (zPr zsh zNC D cy q S) z := by
  refine Met.ofW (cc := cX2_hiddenParlours) (maxL := 4) (ret := (some .int)) (by decide) rfl ?_
  intro p e s m args below meth c s₁ B hml hv
  obtain ⟨rfl, hP, hK⟩ := hv
  have cx : zX RX2 cX2_hiddenParlours 4 p s m ([.ref (q 255), .int v1]).toArray c D cy := ⟨B.exec, B.bytes, hml, findClass_of_methodNamed B.named, fun w hw => atoms_spec (ws := Cond.code yX2_hiddenParlours cX2_hiddenParlours 4 (some .int) :: zTB) B.pre w (List.mem_cons_of_mem _ hw), hK⟩
  have hx := cx.1
  have hb := cx.2.1
  have hr := B.returns
  have hlk := B.notSynchronized
  have hl := lv_entry ([.ref (q 255), .int v1]) (n := 4) (Nat.le_of_ble_eq_true rfl)
  rw [lg_entry_eq]
  generalize (lg_sl ([.ref (q 255), .int v1]) ++ List.replicate (4 - (lg_sl ([.ref (q 255), .int v1])).length) Slot.unset).toArray = ls at hl ⊢
  have hl : lv_has ls 4 [(0, .ref (q 255)), (1, .int v1)] := hl
  unfold fX2_hiddenParlours at h
  refine lv_iconst (pc := 0) hx hb dX2_hiddenParlours_0 zc_0 ?_
  refine lv_istore_n (lv' := [(2, .int (0 : Int32)), (0, .ref (q 255)), (1, .int v1)]) (pc := 1) hx hb dX2_hiddenParlours_1 rfl hl (by decide) rfl (fun ls hl => ?_)
  refine lv_iconst (pc := 2) hx hb dX2_hiddenParlours_2 zc_0 ?_
  refine lv_istore_n (lv' := [(3, .int (0 : Int32)), (2, .int (0 : Int32)), (0, .ref (q 255)), (1, .int v1)]) (pc := 3) hx hb dX2_hiddenParlours_3 rfl hl (by decide) rfl (fun ls hl => ?_)
  exact kX2_hiddenParlours_4 cx hr hlk hP 2000 _ _ h _ (lv_sub hl [2, 3, 1, 0] rfl)
-- X11_hides
abbrev rmX11_hides : Room := { frames := 3, cells := 0, slots := 0, locals := 65 }
def fX11_hides (S : zSt) (v1 : Int32) : Option Int32 :=
  zBr (v1 < 0) (some (-1 : Int32)) (zBr (v1 ≤ (60 : Int32)) (zBd (fX2_hiddenParlours S v1) (fun r4 => some r4)) (some (-1 : Int32)))
set_option maxHeartbeats 4000000 in
set_option maxRecDepth 100000 in
theorem mX11_hides {l : Launch} {D : va_G} {cy : Nat → ClassId} {q : Nat → Nat} {S : zSt} {v1 : Int32} {z : Int32} (h : fX11_hides S v1 = some z) : zMi l yX11_hides cX11_hides 2 (some .int) rmX11_hides [.ref (q 0), .int v1] (zPr zsh zNC D cy q S) z := by
  refine Met.ofW (cc := cX11_hides) (maxL := 2) (ret := (some .int)) (by decide) rfl ?_
  intro p e s m args below meth c s₁ B hml hv
  obtain ⟨rfl, hP, hK⟩ := hv
  have cx : zX RX11 cX11_hides 2 p s m ([.ref (q 0), .int v1]).toArray c D cy := ⟨B.exec, B.bytes, hml, findClass_of_methodNamed B.named, fun w hw => atoms_spec (ws := Cond.code yX11_hides cX11_hides 2 (some .int) :: zTB) B.pre w (List.mem_cons_of_mem _ hw), hK⟩
  have hx := cx.1
  have hb := cx.2.1
  have hr := B.returns
  have hlk := B.notSynchronized
  have hl := lv_entry ([.ref (q 0), .int v1]) (n := 2) (Nat.le_of_ble_eq_true rfl)
  rw [lg_entry_eq]
  generalize (lg_sl ([.ref (q 0), .int v1]) ++ List.replicate (2 - (lg_sl ([.ref (q 0), .int v1])).length) Slot.unset).toArray = ls at hl ⊢
  have hl : lv_has ls 2 [(0, .ref (q 0)), (1, .int v1)] := hl
  unfold fX11_hides at h
  refine lv_iload_n (pc := 0) hx hb dX11_hides_0 rfl (lv_at hl 1 rfl) ?_
  refine lv_if_lt (pc := 1) (tgt := 10) hx hb dX11_hides_1 (by decide) (fun c1 => ?_) (fun c1 => ?_)
  · replace h := zBr_t c1 h
    refine lv_iconst (pc := 10) hx hb dX11_hides_10 zc_m1 ?_
    refine lv_goto (pc := 11) (tgt := 22) hx hb dX11_hides_11 (by decide) ?_
    have hz := Option.some.inj h
    exact zr_reI (pc := 22) cx hr hlk hz dX11_hides_22
  · replace h := zBr_f c1 h
    refine lv_iload_n (pc := 4) hx hb dX11_hides_4 rfl (lv_at hl 1 rfl) ?_
    refine lv_bipush (pc := 5) hx hb dX11_hides_5 zb_60 ?_
    refine lv_icmp_le (pc := 7) (tgt := 14) hx hb dX11_hides_7 (by decide) (fun c2 => ?_) (fun c2 => ?_)
    · replace h := zBr_t c2 h
      refine lv_aload_n (pc := 14) hx hb dX11_hides_14 rfl (lv_at hl 0 rfl) ?_
      refine zr_getR (pc := 15) (t := 255) cx lk_X11_82 hP nC_0 sC_0 rfl dX11_hides_15 ?_
      refine lv_iload_n (pc := 18) hx hb dX11_hides_18 rfl (lv_at hl 1 rfl) ?_
      obtain ⟨r4, k3, h⟩ := zBd_e h
      refine zr_VI (pc := 19) (rest := []) cx cv_X11_284 (mX2_hiddenParlours k3) ⟨⟨rfl, rfl⟩, Nat.le_of_ble_eq_true rfl, Nat.le_of_ble_eq_true rfl⟩ ⟨Nat.le_of_ble_eq_true rfl, Nat.le_of_ble_eq_true rfl⟩ hP nC_255 sC_255 rfl hl.1 rfl rfl (Nat.le_of_ble_eq_true rfl) dX11_hides_19 ?_
      have hz := Option.some.inj h
      exact zr_reI (pc := 22) cx hr hlk hz dX11_hides_22
    · replace h := zBr_f c2 h
      refine lv_iconst (pc := 10) hx hb dX11_hides_10 zc_m1 ?_
      refine lv_goto (pc := 11) (tgt := 22) hx hb dX11_hides_11 (by decide) ?_
      have hz := Option.some.inj h
      exact zr_reI (pc := 22) cx hr hlk hz dX11_hides_22
-- X3_copyFrom
abbrev rmX3_copyFrom : Room := { frames := 1, cells := 0, slots := 0, locals := 48 }
def fX3_copyFrom (S : zSt) (a0 : Nat) (a1 : Nat) : Option zSt :=
  zGd (zCk (0 : Int32) (0 : Int32) (4 : Int32) 4 4) (zLt (zCi S (a1 + 1) (a0 + 1) (0 : Int32).toNatClampNeg (0 : Int32).toNatClampNeg (4 : Int32).toNatClampNeg) (fun S2 => zGd (zCk (0 : Int32) (0 : Int32) (5 : Int32) 5 5) (zLt (zCi S2 (a1 + 2) (a0 + 2) (0 : Int32).toNatClampNeg (0 : Int32).toNatClampNeg (5 : Int32).toNatClampNeg) (fun S4 => zGd (zCk (0 : Int32) (0 : Int32) (6 : Int32) 6 6) (zLt (zCi S4 (a1 + 3) (a0 + 3) (0 : Int32).toNatClampNeg (0 : Int32).toNatClampNeg (6 : Int32).toNatClampNeg) (fun S6 => zGd (zCk (0 : Int32) (0 : Int32) (6 : Int32) 6 6) (zLt (zCi S6 (a1 + 4) (a0 + 4) (0 : Int32).toNatClampNeg (0 : Int32).toNatClampNeg (6 : Int32).toNatClampNeg) (fun S8 => zGd (zCk (0 : Int32) (0 : Int32) (6 : Int32) 6 6) (zLt (zCi S8 (a1 + 5) (a0 + 5) (0 : Int32).toNatClampNeg (0 : Int32).toNatClampNeg (6 : Int32).toNatClampNeg) (fun S10 => zGd (zCk (0 : Int32) (0 : Int32) (6 : Int32) 6 6) (zLt (zCj S10 (a1 + 6) (a0 + 6) (0 : Int32).toNatClampNeg (0 : Int32).toNatClampNeg (6 : Int32).toNatClampNeg) (fun S12 => zGd (zCk (0 : Int32) (0 : Int32) (20 : Int32) 20 20) (zLt (zCj S12 (a1 + 7) (a0 + 7) (0 : Int32).toNatClampNeg (0 : Int32).toNatClampNeg (20 : Int32).toNatClampNeg) (fun S14 => zGd (zCk (0 : Int32) (0 : Int32) (20 : Int32) 20 20) (zLt (zCi S14 (a1 + 8) (a0 + 8) (0 : Int32).toNatClampNeg (0 : Int32).toNatClampNeg (20 : Int32).toNatClampNeg) (fun S16 => zGd (zCk (0 : Int32) (0 : Int32) (20 : Int32) 20 20) (zLt (zCi S16 (a1 + 9) (a0 + 9) (0 : Int32).toNatClampNeg (0 : Int32).toNatClampNeg (20 : Int32).toNatClampNeg) (fun S18 => zLt (zI S18 a0 9 (S18.1 a1 9)) (fun S19 => zLt (zI S19 a0 10 (S19.1 a1 10)) (fun S20 => zLt (zI S20 a0 11 (S20.1 a1 11)) (fun S21 => some S21)))))))))))))))))))))
set_option maxHeartbeats 4000000 in
set_option maxRecDepth 100000 in
theorem mX3_copyFrom {l : Launch} {D : va_G} {cy : Nat → ClassId} {q : Nat → Nat} {A : Nat → Prop} {S : zSt} {a0 : Nat} {a1 : Nat} (hq : zQ A q zNC) (ha0 : zHouse a0) (ha1 : zHouse a1) {z : zSt} (h : fX3_copyFrom S a0 a1 = some z) : zMv l yX3_copyFrom cX3_copyFrom 2 none rmX3_copyFrom [.ref (q a0), .ref (q a1)] zsh zNC D cy q A S z := by
  refine Met.ofW (cc := cX3_copyFrom) (maxL := 2) (ret := none) (by decide) rfl ?_
  intro p e s m args below meth c s₁ B hml hv
  obtain ⟨rfl, hP, hK⟩ := hv
  have cx : zX RX3 cX3_copyFrom 2 p s m ([.ref (q a0), .ref (q a1)]).toArray c D cy := ⟨B.exec, B.bytes, hml, findClass_of_methodNamed B.named, fun w hw => atoms_spec (ws := Cond.code yX3_copyFrom cX3_copyFrom 2 none :: zTB) B.pre w (List.mem_cons_of_mem _ hw), hK⟩
  have hx := cx.1
  have hb := cx.2.1
  have hr := B.returns
  have hlk := B.notSynchronized
  have hS : va_S A s.heap s.heap [] := va_S.rf
  have hl := lv_entry ([.ref (q a0), .ref (q a1)]) (n := 2) (Nat.le_of_ble_eq_true rfl)
  rw [lg_entry_eq]
  generalize (lg_sl ([.ref (q a0), .ref (q a1)]) ++ List.replicate (2 - (lg_sl ([.ref (q a0), .ref (q a1)])).length) Slot.unset).toArray = ls at hl ⊢
  have hl : lv_has ls 2 [(0, .ref (q a0)), (1, .ref (q a1))] := hl
  unfold fX3_copyFrom at h
  refine lv_aload_n (pc := 0) hx hb dX3_copyFrom_0 rfl (lv_at hl 1 rfl) ?_
  refine zr_getR (pc := 1) (t := (a1 + 1)) cx lk_X3_9 hP (nX3_0 ha1) (sX3_0 ha1) rfl dX3_copyFrom_1 ?_
  refine lv_iconst (pc := 4) hx hb dX3_copyFrom_4 zc_0 ?_
  refine lv_aload_n (pc := 5) hx hb dX3_copyFrom_5 rfl (lv_at hl 0 rfl) ?_
  refine zr_getR (pc := 6) (t := (a0 + 1)) cx lk_X3_9 hP (nX3_0 ha0) (sX3_0 ha0) rfl dX3_copyFrom_6 ?_
  refine lv_iconst (pc := 9) hx hb dX3_copyFrom_9 zc_0 ?_
  refine lv_iconst (pc := 10) hx hb dX3_copyFrom_10 zc_4 ?_
  obtain ⟨g1, h⟩ := zGd_e h
  obtain ⟨S2, eS2, h⟩ := zLt_e h
  refine zr_cpI (pc := 11) cx lb_X3_50 ⟨Nat.le_of_ble_eq_true rfl, Nat.le_of_ble_eq_true rfl⟩ hq hP hS (nX3_1 ha1) (sX3_1 ha1) (nX3_1 ha0) (sX3_1 ha0) g1 hl.1 dX3_copyFrom_11 (fun H locs hP hS => ?_)
  rw [← eS2] at hP
  refine lv_aload_n (pc := 14) hx hb dX3_copyFrom_14 rfl (lv_at hl 1 rfl) ?_
  refine zr_getR (pc := 15) (t := (a1 + 2)) cx lk_X3_15 hP (nX3_0 ha1) (sX3_0 ha1) rfl dX3_copyFrom_15 ?_
  refine lv_iconst (pc := 18) hx hb dX3_copyFrom_18 zc_0 ?_
  refine lv_aload_n (pc := 19) hx hb dX3_copyFrom_19 rfl (lv_at hl 0 rfl) ?_
  refine zr_getR (pc := 20) (t := (a0 + 2)) cx lk_X3_15 hP (nX3_0 ha0) (sX3_0 ha0) rfl dX3_copyFrom_20 ?_
  refine lv_iconst (pc := 23) hx hb dX3_copyFrom_23 zc_0 ?_
  refine lv_iconst (pc := 24) hx hb dX3_copyFrom_24 zc_5 ?_
  obtain ⟨g3, h⟩ := zGd_e h
  obtain ⟨S4, eS4, h⟩ := zLt_e h
  refine zr_cpI (pc := 25) cx lb_X3_50 ⟨Nat.le_of_ble_eq_true rfl, Nat.le_of_ble_eq_true rfl⟩ hq hP hS (nX3_2 ha1) (sX3_2 ha1) (nX3_2 ha0) (sX3_2 ha0) g3 hl.1 dX3_copyFrom_25 (fun H locs hP hS => ?_)
  rw [← eS4] at hP
  refine lv_aload_n (pc := 28) hx hb dX3_copyFrom_28 rfl (lv_at hl 1 rfl) ?_
  refine zr_getR (pc := 29) (t := (a1 + 3)) cx lk_X3_18 hP (nX3_0 ha1) (sX3_0 ha1) rfl dX3_copyFrom_29 ?_
  refine lv_iconst (pc := 32) hx hb dX3_copyFrom_32 zc_0 ?_
  refine lv_aload_n (pc := 33) hx hb dX3_copyFrom_33 rfl (lv_at hl 0 rfl) ?_
  refine zr_getR (pc := 34) (t := (a0 + 3)) cx lk_X3_18 hP (nX3_0 ha0) (sX3_0 ha0) rfl dX3_copyFrom_34 ?_
  refine lv_iconst (pc := 37) hx hb dX3_copyFrom_37 zc_0 ?_
  refine lv_bipush (pc := 38) hx hb dX3_copyFrom_38 zb_6 ?_
  obtain ⟨g5, h⟩ := zGd_e h
  obtain ⟨S6, eS6, h⟩ := zLt_e h
  refine zr_cpI (pc := 40) cx lb_X3_50 ⟨Nat.le_of_ble_eq_true rfl, Nat.le_of_ble_eq_true rfl⟩ hq hP hS (nX3_3 ha1) (sX3_3 ha1) (nX3_3 ha0) (sX3_3 ha0) g5 hl.1 dX3_copyFrom_40 (fun H locs hP hS => ?_)
  rw [← eS6] at hP
  refine lv_aload_n (pc := 43) hx hb dX3_copyFrom_43 rfl (lv_at hl 1 rfl) ?_
  refine zr_getR (pc := 44) (t := (a1 + 4)) cx lk_X3_21 hP (nX3_0 ha1) (sX3_0 ha1) rfl dX3_copyFrom_44 ?_
  refine lv_iconst (pc := 47) hx hb dX3_copyFrom_47 zc_0 ?_
  refine lv_aload_n (pc := 48) hx hb dX3_copyFrom_48 rfl (lv_at hl 0 rfl) ?_
  refine zr_getR (pc := 49) (t := (a0 + 4)) cx lk_X3_21 hP (nX3_0 ha0) (sX3_0 ha0) rfl dX3_copyFrom_49 ?_
  refine lv_iconst (pc := 52) hx hb dX3_copyFrom_52 zc_0 ?_
  refine lv_bipush (pc := 53) hx hb dX3_copyFrom_53 zb_6 ?_
  obtain ⟨g7, h⟩ := zGd_e h
  obtain ⟨S8, eS8, h⟩ := zLt_e h
  refine zr_cpI (pc := 55) cx lb_X3_50 ⟨Nat.le_of_ble_eq_true rfl, Nat.le_of_ble_eq_true rfl⟩ hq hP hS (nX3_4 ha1) (sX3_4 ha1) (nX3_4 ha0) (sX3_4 ha0) g7 hl.1 dX3_copyFrom_55 (fun H locs hP hS => ?_)
  rw [← eS8] at hP
  refine lv_aload_n (pc := 58) hx hb dX3_copyFrom_58 rfl (lv_at hl 1 rfl) ?_
  refine zr_getR (pc := 59) (t := (a1 + 5)) cx lk_X3_24 hP (nX3_0 ha1) (sX3_0 ha1) rfl dX3_copyFrom_59 ?_
  refine lv_iconst (pc := 62) hx hb dX3_copyFrom_62 zc_0 ?_
  refine lv_aload_n (pc := 63) hx hb dX3_copyFrom_63 rfl (lv_at hl 0 rfl) ?_
  refine zr_getR (pc := 64) (t := (a0 + 5)) cx lk_X3_24 hP (nX3_0 ha0) (sX3_0 ha0) rfl dX3_copyFrom_64 ?_
  refine lv_iconst (pc := 67) hx hb dX3_copyFrom_67 zc_0 ?_
  refine lv_bipush (pc := 68) hx hb dX3_copyFrom_68 zb_6 ?_
  obtain ⟨g9, h⟩ := zGd_e h
  obtain ⟨S10, eS10, h⟩ := zLt_e h
  refine zr_cpI (pc := 70) cx lb_X3_50 ⟨Nat.le_of_ble_eq_true rfl, Nat.le_of_ble_eq_true rfl⟩ hq hP hS (nX3_5 ha1) (sX3_5 ha1) (nX3_5 ha0) (sX3_5 ha0) g9 hl.1 dX3_copyFrom_70 (fun H locs hP hS => ?_)
  rw [← eS10] at hP
  refine lv_aload_n (pc := 73) hx hb dX3_copyFrom_73 rfl (lv_at hl 1 rfl) ?_
  refine zr_getR (pc := 74) (t := (a1 + 6)) cx lk_X3_27 hP (nX3_0 ha1) (sX3_0 ha1) rfl dX3_copyFrom_74 ?_
  refine lv_iconst (pc := 77) hx hb dX3_copyFrom_77 zc_0 ?_
  refine lv_aload_n (pc := 78) hx hb dX3_copyFrom_78 rfl (lv_at hl 0 rfl) ?_
  refine zr_getR (pc := 79) (t := (a0 + 6)) cx lk_X3_27 hP (nX3_0 ha0) (sX3_0 ha0) rfl dX3_copyFrom_79 ?_
  refine lv_iconst (pc := 82) hx hb dX3_copyFrom_82 zc_0 ?_
  refine lv_bipush (pc := 83) hx hb dX3_copyFrom_83 zb_6 ?_
  obtain ⟨g11, h⟩ := zGd_e h
  obtain ⟨S12, eS12, h⟩ := zLt_e h
  refine zr_cpJ (pc := 85) cx lb_X3_50 ⟨Nat.le_of_ble_eq_true rfl, Nat.le_of_ble_eq_true rfl⟩ hq hP hS (nX3_6 ha1) (sX3_6 ha1) (nX3_6 ha0) (sX3_6 ha0) g11 hl.1 dX3_copyFrom_85 (fun H locs hP hS => ?_)
  rw [← eS12] at hP
  refine lv_aload_n (pc := 88) hx hb dX3_copyFrom_88 rfl (lv_at hl 1 rfl) ?_
  refine zr_getR (pc := 89) (t := (a1 + 7)) cx lk_X3_31 hP (nX3_0 ha1) (sX3_0 ha1) rfl dX3_copyFrom_89 ?_
  refine lv_iconst (pc := 92) hx hb dX3_copyFrom_92 zc_0 ?_
  refine lv_aload_n (pc := 93) hx hb dX3_copyFrom_93 rfl (lv_at hl 0 rfl) ?_
  refine zr_getR (pc := 94) (t := (a0 + 7)) cx lk_X3_31 hP (nX3_0 ha0) (sX3_0 ha0) rfl dX3_copyFrom_94 ?_
  refine lv_iconst (pc := 97) hx hb dX3_copyFrom_97 zc_0 ?_
  refine lv_bipush (pc := 98) hx hb dX3_copyFrom_98 zb_20 ?_
  obtain ⟨g13, h⟩ := zGd_e h
  obtain ⟨S14, eS14, h⟩ := zLt_e h
  refine zr_cpJ (pc := 100) cx lb_X3_50 ⟨Nat.le_of_ble_eq_true rfl, Nat.le_of_ble_eq_true rfl⟩ hq hP hS (nX3_7 ha1) (sX3_7 ha1) (nX3_7 ha0) (sX3_7 ha0) g13 hl.1 dX3_copyFrom_100 (fun H locs hP hS => ?_)
  rw [← eS14] at hP
  refine lv_aload_n (pc := 103) hx hb dX3_copyFrom_103 rfl (lv_at hl 1 rfl) ?_
  refine zr_getR (pc := 104) (t := (a1 + 8)) cx lk_X3_34 hP (nX3_0 ha1) (sX3_0 ha1) rfl dX3_copyFrom_104 ?_
  refine lv_iconst (pc := 107) hx hb dX3_copyFrom_107 zc_0 ?_
  refine lv_aload_n (pc := 108) hx hb dX3_copyFrom_108 rfl (lv_at hl 0 rfl) ?_
  refine zr_getR (pc := 109) (t := (a0 + 8)) cx lk_X3_34 hP (nX3_0 ha0) (sX3_0 ha0) rfl dX3_copyFrom_109 ?_
  refine lv_iconst (pc := 112) hx hb dX3_copyFrom_112 zc_0 ?_
  refine lv_bipush (pc := 113) hx hb dX3_copyFrom_113 zb_20 ?_
  obtain ⟨g15, h⟩ := zGd_e h
  obtain ⟨S16, eS16, h⟩ := zLt_e h
  refine zr_cpI (pc := 115) cx lb_X3_50 ⟨Nat.le_of_ble_eq_true rfl, Nat.le_of_ble_eq_true rfl⟩ hq hP hS (nX3_8 ha1) (sX3_8 ha1) (nX3_8 ha0) (sX3_8 ha0) g15 hl.1 dX3_copyFrom_115 (fun H locs hP hS => ?_)
  rw [← eS16] at hP
  refine lv_aload_n (pc := 118) hx hb dX3_copyFrom_118 rfl (lv_at hl 1 rfl) ?_
  refine zr_getR (pc := 119) (t := (a1 + 9)) cx lk_X3_37 hP (nX3_0 ha1) (sX3_0 ha1) rfl dX3_copyFrom_119 ?_
  refine lv_iconst (pc := 122) hx hb dX3_copyFrom_122 zc_0 ?_
  refine lv_aload_n (pc := 123) hx hb dX3_copyFrom_123 rfl (lv_at hl 0 rfl) ?_
  refine zr_getR (pc := 124) (t := (a0 + 9)) cx lk_X3_37 hP (nX3_0 ha0) (sX3_0 ha0) rfl dX3_copyFrom_124 ?_
  refine lv_iconst (pc := 127) hx hb dX3_copyFrom_127 zc_0 ?_
  refine lv_bipush (pc := 128) hx hb dX3_copyFrom_128 zb_20 ?_
  obtain ⟨g17, h⟩ := zGd_e h
  obtain ⟨S18, eS18, h⟩ := zLt_e h
  refine zr_cpI (pc := 130) cx lb_X3_50 ⟨Nat.le_of_ble_eq_true rfl, Nat.le_of_ble_eq_true rfl⟩ hq hP hS (nX3_9 ha1) (sX3_9 ha1) (nX3_9 ha0) (sX3_9 ha0) g17 hl.1 dX3_copyFrom_130 (fun H locs hP hS => ?_)
  rw [← eS18] at hP
  refine lv_aload_n (pc := 133) hx hb dX3_copyFrom_133 rfl (lv_at hl 0 rfl) ?_
  refine lv_aload_n (pc := 134) hx hb dX3_copyFrom_134 rfl (lv_at hl 1 rfl) ?_
  refine zr_getI (pc := 135) cx lk_X3_47 hP (nX3_0 ha1) (sX3_0 ha1) rfl dX3_copyFrom_135 ?_
  obtain ⟨S19, eS19, h⟩ := zLt_e h
  refine zr_putI (pc := 138) cx lq_X3_47 hq hP hS (nX3_0 ha0) (sX3_0 ha0) rfl rfl rfl dX3_copyFrom_138 (fun H locs hP hS => ?_)
  rw [← eS19] at hP
  refine lv_aload_n (pc := 141) hx hb dX3_copyFrom_141 rfl (lv_at hl 0 rfl) ?_
  refine lv_aload_n (pc := 142) hx hb dX3_copyFrom_142 rfl (lv_at hl 1 rfl) ?_
  refine zr_getI (pc := 143) cx lk_X3_40 hP (nX3_0 ha1) (sX3_0 ha1) rfl dX3_copyFrom_143 ?_
  obtain ⟨S20, eS20, h⟩ := zLt_e h
  refine zr_putI (pc := 146) cx lq_X3_40 hq hP hS (nX3_0 ha0) (sX3_0 ha0) rfl rfl rfl dX3_copyFrom_146 (fun H locs hP hS => ?_)
  rw [← eS20] at hP
  refine lv_aload_n (pc := 149) hx hb dX3_copyFrom_149 rfl (lv_at hl 0 rfl) ?_
  refine lv_aload_n (pc := 150) hx hb dX3_copyFrom_150 rfl (lv_at hl 1 rfl) ?_
  refine zr_getI (pc := 151) cx lk_X3_44 hP (nX3_0 ha1) (sX3_0 ha1) rfl dX3_copyFrom_151 ?_
  obtain ⟨S21, eS21, h⟩ := zLt_e h
  refine zr_putI (pc := 154) cx lq_X3_44 hq hP hS (nX3_0 ha0) (sX3_0 ha0) rfl rfl rfl dX3_copyFrom_154 (fun H locs hP hS => ?_)
  rw [← eS21] at hP
  have hz := Option.some.inj h
  exact zr_rqV (pc := 157) cx hr hlk hP hS hz dX3_copyFrom_157
-- X8_copyFrom
abbrev rmX8_copyFrom : Room := { frames := 1, cells := 0, slots := 0, locals := 48 }
def fX8_copyFrom (S : zSt) (a0 : Nat) (a1 : Nat) : Option zSt :=
  zLt (zI S a0 4 (S.1 a1 4)) (fun S1 => zLt (zI S1 a0 5 (S1.1 a1 5)) (fun S2 => zGd (zCk (0 : Int32) (0 : Int32) (S2.1 a0 4) 40 40) (zLt (zCi S2 (a1 + 1) (a0 + 1) (0 : Int32).toNatClampNeg (0 : Int32).toNatClampNeg (S2.1 a0 4).toNatClampNeg) (fun S4 => zGd (zCk (0 : Int32) (0 : Int32) (S4.1 a0 4) 40 40) (zLt (zCi S4 (a1 + 2) (a0 + 2) (0 : Int32).toNatClampNeg (0 : Int32).toNatClampNeg (S4.1 a0 4).toNatClampNeg) (fun S6 => zGd (zCk (0 : Int32) (0 : Int32) (S6.1 a0 4) 40 40) (zLt (zCi S6 (a1 + 3) (a0 + 3) (0 : Int32).toNatClampNeg (0 : Int32).toNatClampNeg (S6.1 a0 4).toNatClampNeg) (fun S8 => some S8))))))))
set_option maxHeartbeats 4000000 in
set_option maxRecDepth 100000 in
theorem mX8_copyFrom {l : Launch} {D : va_G} {cy : Nat → ClassId} {q : Nat → Nat} {A : Nat → Prop} {S : zSt} {a0 : Nat} {a1 : Nat} (hq : zQ A q zNC) (ha0 : zSent a0) (ha1 : zSent a1) {z : zSt} (h : fX8_copyFrom S a0 a1 = some z) : zMv l yX8_copyFrom cX8_copyFrom 2 none rmX8_copyFrom [.ref (q a0), .ref (q a1)] zsh zNC D cy q A S z := by
  refine Met.ofW (cc := cX8_copyFrom) (maxL := 2) (ret := none) (by decide) rfl ?_
  intro p e s m args below meth c s₁ B hml hv
  obtain ⟨rfl, hP, hK⟩ := hv
  have cx : zX RX8 cX8_copyFrom 2 p s m ([.ref (q a0), .ref (q a1)]).toArray c D cy := ⟨B.exec, B.bytes, hml, findClass_of_methodNamed B.named, fun w hw => atoms_spec (ws := Cond.code yX8_copyFrom cX8_copyFrom 2 none :: zTB) B.pre w (List.mem_cons_of_mem _ hw), hK⟩
  have hx := cx.1
  have hb := cx.2.1
  have hr := B.returns
  have hlk := B.notSynchronized
  have hS : va_S A s.heap s.heap [] := va_S.rf
  have hl := lv_entry ([.ref (q a0), .ref (q a1)]) (n := 2) (Nat.le_of_ble_eq_true rfl)
  rw [lg_entry_eq]
  generalize (lg_sl ([.ref (q a0), .ref (q a1)]) ++ List.replicate (2 - (lg_sl ([.ref (q a0), .ref (q a1)])).length) Slot.unset).toArray = ls at hl ⊢
  have hl : lv_has ls 2 [(0, .ref (q a0)), (1, .ref (q a1))] := hl
  unfold fX8_copyFrom at h
  refine lv_aload_n (pc := 0) hx hb dX8_copyFrom_0 rfl (lv_at hl 0 rfl) ?_
  refine lv_aload_n (pc := 1) hx hb dX8_copyFrom_1 rfl (lv_at hl 1 rfl) ?_
  refine zr_getI (pc := 2) cx lk_X8_24 hP (nX8_0 ha1) (sX8_0 ha1) rfl dX8_copyFrom_2 ?_
  obtain ⟨S1, eS1, h⟩ := zLt_e h
  refine zr_putI (pc := 5) cx lq_X8_24 hq hP hS (nX8_0 ha0) (sX8_0 ha0) rfl rfl rfl dX8_copyFrom_5 (fun H locs hP hS => ?_)
  rw [← eS1] at hP
  refine lv_aload_n (pc := 8) hx hb dX8_copyFrom_8 rfl (lv_at hl 0 rfl) ?_
  refine lv_aload_n (pc := 9) hx hb dX8_copyFrom_9 rfl (lv_at hl 1 rfl) ?_
  refine zr_getI (pc := 10) cx lk_X8_28 hP (nX8_0 ha1) (sX8_0 ha1) rfl dX8_copyFrom_10 ?_
  obtain ⟨S2, eS2, h⟩ := zLt_e h
  refine zr_putI (pc := 13) cx lq_X8_28 hq hP hS (nX8_0 ha0) (sX8_0 ha0) rfl rfl rfl dX8_copyFrom_13 (fun H locs hP hS => ?_)
  rw [← eS2] at hP
  refine lv_aload_n (pc := 16) hx hb dX8_copyFrom_16 rfl (lv_at hl 1 rfl) ?_
  refine zr_getR (pc := 17) (t := (a1 + 1)) cx lk_X8_11 hP (nX8_0 ha1) (sX8_0 ha1) rfl dX8_copyFrom_17 ?_
  refine lv_iconst (pc := 20) hx hb dX8_copyFrom_20 zc_0 ?_
  refine lv_aload_n (pc := 21) hx hb dX8_copyFrom_21 rfl (lv_at hl 0 rfl) ?_
  refine zr_getR (pc := 22) (t := (a0 + 1)) cx lk_X8_11 hP (nX8_0 ha0) (sX8_0 ha0) rfl dX8_copyFrom_22 ?_
  refine lv_iconst (pc := 25) hx hb dX8_copyFrom_25 zc_0 ?_
  refine lv_aload_n (pc := 26) hx hb dX8_copyFrom_26 rfl (lv_at hl 0 rfl) ?_
  refine zr_getI (pc := 27) cx lk_X8_24 hP (nX8_0 ha0) (sX8_0 ha0) rfl dX8_copyFrom_27 ?_
  obtain ⟨g3, h⟩ := zGd_e h
  obtain ⟨S4, eS4, h⟩ := zLt_e h
  refine zr_cpI (pc := 30) cx lb_X8_31 ⟨Nat.le_of_ble_eq_true rfl, Nat.le_of_ble_eq_true rfl⟩ hq hP hS (nX8_1 ha1) (sX8_1 ha1) (nX8_1 ha0) (sX8_1 ha0) g3 hl.1 dX8_copyFrom_30 (fun H locs hP hS => ?_)
  rw [← eS4] at hP
  refine lv_aload_n (pc := 33) hx hb dX8_copyFrom_33 rfl (lv_at hl 1 rfl) ?_
  refine zr_getR (pc := 34) (t := (a1 + 2)) cx lk_X8_15 hP (nX8_0 ha1) (sX8_0 ha1) rfl dX8_copyFrom_34 ?_
  refine lv_iconst (pc := 37) hx hb dX8_copyFrom_37 zc_0 ?_
  refine lv_aload_n (pc := 38) hx hb dX8_copyFrom_38 rfl (lv_at hl 0 rfl) ?_
  refine zr_getR (pc := 39) (t := (a0 + 2)) cx lk_X8_15 hP (nX8_0 ha0) (sX8_0 ha0) rfl dX8_copyFrom_39 ?_
  refine lv_iconst (pc := 42) hx hb dX8_copyFrom_42 zc_0 ?_
  refine lv_aload_n (pc := 43) hx hb dX8_copyFrom_43 rfl (lv_at hl 0 rfl) ?_
  refine zr_getI (pc := 44) cx lk_X8_24 hP (nX8_0 ha0) (sX8_0 ha0) rfl dX8_copyFrom_44 ?_
  obtain ⟨g5, h⟩ := zGd_e h
  obtain ⟨S6, eS6, h⟩ := zLt_e h
  refine zr_cpI (pc := 47) cx lb_X8_31 ⟨Nat.le_of_ble_eq_true rfl, Nat.le_of_ble_eq_true rfl⟩ hq hP hS (nX8_2 ha1) (sX8_2 ha1) (nX8_2 ha0) (sX8_2 ha0) g5 hl.1 dX8_copyFrom_47 (fun H locs hP hS => ?_)
  rw [← eS6] at hP
  refine lv_aload_n (pc := 50) hx hb dX8_copyFrom_50 rfl (lv_at hl 1 rfl) ?_
  refine zr_getR (pc := 51) (t := (a1 + 3)) cx lk_X8_18 hP (nX8_0 ha1) (sX8_0 ha1) rfl dX8_copyFrom_51 ?_
  refine lv_iconst (pc := 54) hx hb dX8_copyFrom_54 zc_0 ?_
  refine lv_aload_n (pc := 55) hx hb dX8_copyFrom_55 rfl (lv_at hl 0 rfl) ?_
  refine zr_getR (pc := 56) (t := (a0 + 3)) cx lk_X8_18 hP (nX8_0 ha0) (sX8_0 ha0) rfl dX8_copyFrom_56 ?_
  refine lv_iconst (pc := 59) hx hb dX8_copyFrom_59 zc_0 ?_
  refine lv_aload_n (pc := 60) hx hb dX8_copyFrom_60 rfl (lv_at hl 0 rfl) ?_
  refine zr_getI (pc := 61) cx lk_X8_24 hP (nX8_0 ha0) (sX8_0 ha0) rfl dX8_copyFrom_61 ?_
  obtain ⟨g7, h⟩ := zGd_e h
  obtain ⟨S8, eS8, h⟩ := zLt_e h
  refine zr_cpI (pc := 64) cx lb_X8_31 ⟨Nat.le_of_ble_eq_true rfl, Nat.le_of_ble_eq_true rfl⟩ hq hP hS (nX8_3 ha1) (sX8_3 ha1) (nX8_3 ha0) (sX8_3 ha0) g7 hl.1 dX8_copyFrom_64 (fun H locs hP hS => ?_)
  rw [← eS8] at hP
  have hz := Option.some.inj h
  exact zr_rqV (pc := 67) cx hr hlk hP hS hz dX8_copyFrom_67
-- X5_keep
abbrev rmX5_keep : Room := { frames := 2, cells := 0, slots := 0, locals := 70 }
def fX5_keep (S : zSt) (a0 : Nat) (a1 : Nat) (a2 : Nat) (a3 : Nat) : Option zSt :=
  zBd (fX3_copyFrom S (a0 + 1) a1) (fun S2 => zBd (fX6_copyFrom S2 (a0 + 11) a2) (fun S4 => zBd (fX8_copyFrom S4 (a0 + 26) a3) (fun S6 => zGd (zBo (1 : Int32)) (zLt (zI S6 a0 3 (1 : Int32)) (fun S7 => some S7)))))
set_option maxHeartbeats 4000000 in
set_option maxRecDepth 100000 in
theorem mX5_keep {l : Launch} {D : va_G} {cy : Nat → ClassId} {q : Nat → Nat} {A : Nat → Prop} {S : zSt} {a0 : Nat} {a1 : Nat} {a2 : Nat} {a3 : Nat} (hq : zQ A q zNC) (ha0 : zImg a0) (ha1 : zHouse a1) (ha2 : zLife a2) (ha3 : zSent a3) {z : zSt} (h : fX5_keep S a0 a1 a2 a3 = some z) : zMv l yX5_keep cX5_keep 4 none rmX5_keep [.ref (q a0), .ref (q a1), .ref (q a2), .ref (q a3)] zsh zNC D cy q A S z := by
  refine Met.ofW (cc := cX5_keep) (maxL := 4) (ret := none) (by decide) rfl ?_
  intro p e s m args below meth c s₁ B hml hv
  obtain ⟨rfl, hP, hK⟩ := hv
  have cx : zX RX5 cX5_keep 4 p s m ([.ref (q a0), .ref (q a1), .ref (q a2), .ref (q a3)]).toArray c D cy := ⟨B.exec, B.bytes, hml, findClass_of_methodNamed B.named, fun w hw => atoms_spec (ws := Cond.code yX5_keep cX5_keep 4 none :: zTB) B.pre w (List.mem_cons_of_mem _ hw), hK⟩
  have hx := cx.1
  have hb := cx.2.1
  have hr := B.returns
  have hlk := B.notSynchronized
  have hS : va_S A s.heap s.heap [] := va_S.rf
  have hl := lv_entry ([.ref (q a0), .ref (q a1), .ref (q a2), .ref (q a3)]) (n := 4) (Nat.le_of_ble_eq_true rfl)
  rw [lg_entry_eq]
  generalize (lg_sl ([.ref (q a0), .ref (q a1), .ref (q a2), .ref (q a3)]) ++ List.replicate (4 - (lg_sl ([.ref (q a0), .ref (q a1), .ref (q a2), .ref (q a3)])).length) Slot.unset).toArray = ls at hl ⊢
  have hl : lv_has ls 4 [(0, .ref (q a0)), (1, .ref (q a1)), (2, .ref (q a2)), (3, .ref (q a3))] := hl
  unfold fX5_keep at h
  refine lv_aload_n (pc := 0) hx hb dX5_keep_0 rfl (lv_at hl 0 rfl) ?_
  refine zr_getR (pc := 1) (t := (a0 + 1)) cx lk_X5_10 hP (nX5_0 ha0) (sX5_0 ha0) rfl dX5_keep_1 ?_
  refine lv_aload_n (pc := 4) hx hb dX5_keep_4 rfl (lv_at hl 1 rfl) ?_
  obtain ⟨S2, k1, h⟩ := zBd_e h
  refine zr_VV (pc := 5) (rest := []) cx cv_X5_32 (mX3_copyFrom hq (zIm_h ha0) ha1 k1) ⟨⟨rfl, rfl⟩, Nat.le_of_ble_eq_true rfl, Nat.le_of_ble_eq_true rfl⟩ ⟨Nat.le_of_ble_eq_true rfl, Nat.le_of_ble_eq_true rfl⟩ hP hS (nX3_0 (zIm_h ha0)) (sX3_0 (zIm_h ha0)) rfl hl.1 rfl rfl (Nat.le_of_ble_eq_true rfl) dX5_keep_5 (fun H locs hP hS => ?_)
  refine lv_aload_n (pc := 8) hx hb dX5_keep_8 rfl (lv_at hl 0 rfl) ?_
  refine zr_getR (pc := 9) (t := (a0 + 11)) cx lk_X5_21 hP (nX5_0 ha0) (sX5_0 ha0) rfl dX5_keep_9 ?_
  refine lv_aload_n (pc := 12) hx hb dX5_keep_12 rfl (lv_at hl 2 rfl) ?_
  obtain ⟨S4, k3, h⟩ := zBd_e h
  refine zr_VV (pc := 13) (rest := []) cx cv_X5_35 (mX6_copyFrom hq (zIm_l ha0) ha2 k3) ⟨⟨rfl, rfl⟩, Nat.le_of_ble_eq_true rfl, Nat.le_of_ble_eq_true rfl⟩ ⟨Nat.le_of_ble_eq_true rfl, Nat.le_of_ble_eq_true rfl⟩ hP hS (nX6_0 (zIm_l ha0)) (sX6_0 (zIm_l ha0)) rfl hl.1 rfl rfl (Nat.le_of_ble_eq_true rfl) dX5_keep_13 (fun H locs hP hS => ?_)
  refine lv_aload_n (pc := 16) hx hb dX5_keep_16 rfl (lv_at hl 0 rfl) ?_
  refine zr_getR (pc := 17) (t := (a0 + 26)) cx lk_X5_28 hP (nX5_0 ha0) (sX5_0 ha0) rfl dX5_keep_17 ?_
  refine lv_aload_n (pc := 20) hx hb dX5_keep_20 rfl (lv_at hl 3 rfl) ?_
  obtain ⟨S6, k5, h⟩ := zBd_e h
  refine zr_VV (pc := 21) (rest := []) cx cv_X5_38 (mX8_copyFrom hq (zIm_s ha0) ha3 k5) ⟨⟨rfl, rfl⟩, Nat.le_of_ble_eq_true rfl, Nat.le_of_ble_eq_true rfl⟩ ⟨Nat.le_of_ble_eq_true rfl, Nat.le_of_ble_eq_true rfl⟩ hP hS (nX8_0 (zIm_s ha0)) (sX8_0 (zIm_s ha0)) rfl hl.1 rfl rfl (Nat.le_of_ble_eq_true rfl) dX5_keep_21 (fun H locs hP hS => ?_)
  refine lv_aload_n (pc := 24) hx hb dX5_keep_24 rfl (lv_at hl 0 rfl) ?_
  refine lv_iconst (pc := 25) hx hb dX5_keep_25 zc_1 ?_
  obtain ⟨g8, h⟩ := zGd_e h
  obtain ⟨S7, eS7, h⟩ := zLt_e h
  refine zr_putI (pc := 26) cx lq_X5_41 hq hP hS (nX5_0 ha0) (sX5_0 ha0) rfl (zBo_n g8) (zBo_f g8) dX5_keep_26 (fun H locs hP hS => ?_)
  rw [← eS7] at hP
  have hz := Option.some.inj h
  exact zr_rqV (pc := 29) cx hr hlk hP hS hz dX5_keep_29
-- X11_image
abbrev rmX11_image : Room := { frames := 3, cells := 0, slots := 0, locals := 93 }
def fX11_image (S : zSt) (v1 : Int32) : Option (Int32 × zSt) :=
  zBr (v1 < 0) (some ((0 : Int32), S)) (zBr (v1 < (2 : Int32)) (zGd (zIx v1 2) (zBd (fX5_keep S (167 + 31 * v1.toNatClampNeg) 4 14 245) (fun S5 => some ((1 : Int32), S5)))) (some ((0 : Int32), S)))
set_option maxHeartbeats 4000000 in
set_option maxRecDepth 100000 in
theorem mX11_image {l : Launch} {D : va_G} {cy : Nat → ClassId} {q : Nat → Nat} {A : Nat → Prop} {S : zSt} {v1 : Int32} (hq : zQ A q zNC) {z : (Int32 × zSt)} (h : fX11_image S v1 = some z) : zMq l yX11_image cX11_image 2 (some .boolean) rmX11_image [.ref (q 0), .int v1] zsh zNC D cy q A S z := by
  refine Met.ofW (cc := cX11_image) (maxL := 2) (ret := (some .boolean)) (by decide) rfl ?_
  intro p e s m args below meth c s₁ B hml hv
  obtain ⟨rfl, hP, hK⟩ := hv
  have cx : zX RX11 cX11_image 2 p s m ([.ref (q 0), .int v1]).toArray c D cy := ⟨B.exec, B.bytes, hml, findClass_of_methodNamed B.named, fun w hw => atoms_spec (ws := Cond.code yX11_image cX11_image 2 (some .boolean) :: zTB) B.pre w (List.mem_cons_of_mem _ hw), hK⟩
  have hx := cx.1
  have hb := cx.2.1
  have hr := B.returns
  have hlk := B.notSynchronized
  have hS : va_S A s.heap s.heap [] := va_S.rf
  have hl := lv_entry ([.ref (q 0), .int v1]) (n := 2) (Nat.le_of_ble_eq_true rfl)
  rw [lg_entry_eq]
  generalize (lg_sl ([.ref (q 0), .int v1]) ++ List.replicate (2 - (lg_sl ([.ref (q 0), .int v1])).length) Slot.unset).toArray = ls at hl ⊢
  have hl : lv_has ls 2 [(0, .ref (q 0)), (1, .int v1)] := hl
  unfold fX11_image at h
  refine lv_iload_n (pc := 0) hx hb dX11_image_0 rfl (lv_at hl 1 rfl) ?_
  refine lv_if_lt (pc := 1) (tgt := 9) hx hb dX11_image_1 (by decide) (fun c1 => ?_) (fun c1 => ?_)
  · replace h := zBr_t c1 h
    refine lv_iconst (pc := 9) hx hb dX11_image_9 zc_0 ?_
    have hz := Option.some.inj h
    exact zr_rqZ (pc := 10) cx hr hlk hP hS hz (by decide) dX11_image_10
  · replace h := zBr_f c1 h
    refine lv_iload_n (pc := 4) hx hb dX11_image_4 rfl (lv_at hl 1 rfl) ?_
    refine lv_iconst (pc := 5) hx hb dX11_image_5 zc_2 ?_
    refine lv_icmp_lt (pc := 6) (tgt := 11) hx hb dX11_image_6 (by decide) (fun c2 => ?_) (fun c2 => ?_)
    · replace h := zBr_t c2 h
      refine lv_aload_n (pc := 11) hx hb dX11_image_11 rfl (lv_at hl 0 rfl) ?_
      refine zr_getR (pc := 12) (t := 166) cx lk_X11_44 hP nC_0 sC_0 rfl dX11_image_12 ?_
      refine lv_iload_n (pc := 15) hx hb dX11_image_15 rfl (lv_at hl 1 rfl) ?_
      obtain ⟨g3, h⟩ := zGd_e h
      refine zr_aald (pc := 16) (g := (167 + 31 * v1.toNatClampNeg)) cx hP nC_166 sC_166 (Or.inl rfl) g3 rfl dX11_image_16 ?_
      refine lv_aload_n (pc := 17) hx hb dX11_image_17 rfl (lv_at hl 0 rfl) ?_
      refine zr_getR (pc := 18) (t := 4) cx lk_X11_19 hP nC_0 sC_0 rfl dX11_image_18 ?_
      refine lv_aload_n (pc := 21) hx hb dX11_image_21 rfl (lv_at hl 0 rfl) ?_
      refine zr_getR (pc := 22) (t := 14) cx lk_X11_28 hP nC_0 sC_0 rfl dX11_image_22 ?_
      refine lv_aload_n (pc := 25) hx hb dX11_image_25 rfl (lv_at hl 0 rfl) ?_
      refine zr_getR (pc := 26) (t := 245) cx lk_X11_70 hP nC_0 sC_0 rfl dX11_image_26 ?_
      obtain ⟨S5, k4, h⟩ := zBd_e h
      refine zr_VV (pc := 29) (rest := []) cx cv_X11_393 (mX5_keep hq (zIm_ix g3) zHouse_4 zLife_14 zSent_245 k4) ⟨⟨rfl, rfl⟩, Nat.le_of_ble_eq_true rfl, Nat.le_of_ble_eq_true rfl⟩ ⟨Nat.le_of_ble_eq_true rfl, Nat.le_of_ble_eq_true rfl⟩ hP hS (nX5_0 (zIm_ix g3)) (sX5_0 (zIm_ix g3)) rfl hl.1 rfl rfl (Nat.le_of_ble_eq_true rfl) dX11_image_29 (fun H locs hP hS => ?_)
      refine lv_iconst (pc := 32) hx hb dX11_image_32 zc_1 ?_
      have hz := Option.some.inj h
      exact zr_rqZ (pc := 33) cx hr hlk hP hS hz (by decide) dX11_image_33
    · replace h := zBr_f c2 h
      refine lv_iconst (pc := 9) hx hb dX11_image_9 zc_0 ?_
      have hz := Option.some.inj h
      exact zr_rqZ (pc := 10) cx hr hlk hP hS hz (by decide) dX11_image_10
-- X6_allLeavesCome
abbrev rmX6_allLeavesCome : Room := { frames := 1, cells := 0, slots := 0, locals := 23 }
def fX6_allLeavesCome_4 (S : zSt) (a0 : Nat) (t : (Int32 × Int32)) : Option ((Int32 × Int32) ⊕ Int32) :=
  match t with
  | (v1, v2) => zBd (fX6_plants S a0) (fun r2 => zBr (r2 ≤ v2) (zXr (some v1)) (zBd (fX6_actsShown S a0 v2) (fun r6 => zBd (fJ6_bitCount_0f7a4 r6) (fun r8 => zLt (v1 + r8) (fun x9 => zLt (v2 + (1 : Int32)) (fun x10 => some (.inl (x9, x10))))))))
set_option maxHeartbeats 4000000 in
set_option maxRecDepth 100000 in
theorem kX6_allLeavesCome_4B {p : Program} {l : Launch} {e : Env} {s : State} {m : MethodId} {args : Array Value} {below : List Frame} {meth : Method} {c : Code} {D : va_G} {cy : Nat → ClassId} {q : Nat → Nat} (cx : zX RX6 cX6_allLeavesCome 3 p s m args c D cy) (hr : meth.sig.returnType = (some .int)) (hlk : meth.locks = false) {a0 : Nat} (ha0 : zLife a0) {z : Int32} {S : zSt} {v1 : Int32} {v2 : Int32} {C1 : ((Int32 × Int32) ⊕ Int32) → Prop} (hb1 : ∀ (v1 : Int32) (v2 : Int32), C1 (.inl (v1, v2)) → ∀ (ls : Array Slot), lv_has ls 3 [(0, .ref (q a0)), (1, .int v1), (2, .int v2)] → W p l e rmX6_allLeavesCome s m args below meth c s.heap [] 0 0 (MQ below (vp_Si (fun x => x = z)) args s 0 0 (fun _ => False)) (F0 m 4 ls [])) (hx1 : ∀ a, C1 (.inr a) → a = z) (hP : va_P D vwCl (zW zsh zNC cy q S) s.heap) {x : ((Int32 × Int32) ⊕ Int32)} (h : fX6_allLeavesCome_4 S a0 (v1, v2) = some x) (hc : C1 x) {ls : Array Slot} (hl : lv_has ls 3 [(0, .ref (q a0)), (1, .int v1), (2, .int v2)]) : W p l e rmX6_allLeavesCome s m args below meth c s.heap [] 0 0 (MQ below (vp_Si (fun x => x = z)) args s 0 0 (fun _ => False)) (F0 m 4 ls []) := by
  have hx := cx.1
  have hb := cx.2.1
  unfold fX6_allLeavesCome_4 at h
  dsimp only at h
  refine lv_iload_n (pc := 4) hx hb dX6_allLeavesCome_4 rfl (lv_at hl 2 rfl) ?_
  refine lv_aload_n (pc := 5) hx hb dX6_allLeavesCome_5 rfl (lv_at hl 0 rfl) ?_
  obtain ⟨r2, k1, h⟩ := zBd_e h
  refine zr_VI (pc := 6) (rest := [.int v2]) cx cv_X6_86 (mX6_plants ha0 k1) ⟨⟨rfl, rfl⟩, Nat.le_of_ble_eq_true rfl, Nat.le_of_ble_eq_true rfl⟩ ⟨Nat.le_of_ble_eq_true rfl, Nat.le_of_ble_eq_true rfl⟩ hP (nX6_0 ha0) (sX6_0 ha0) rfl hl.1 rfl rfl (Nat.le_of_ble_eq_true rfl) dX6_allLeavesCome_6 ?_
  refine lv_icmp_ge (pc := 9) (tgt := 29) hx hb dX6_allLeavesCome_9 (by decide) (fun c3 => ?_) (fun c3 => ?_)
  · replace h := zBr_t c3 h
    obtain ⟨y4, h, ex⟩ := zXr_e h
    have hc := hx1 y4 (by rw [ex] at hc; exact hc)
    rw [hc] at h
    refine lv_iload_n (pc := 29) hx hb dX6_allLeavesCome_29 rfl (lv_at hl 1 rfl) ?_
    have hz := Option.some.inj h
    exact zr_reI (pc := 30) cx hr hlk hz dX6_allLeavesCome_30
  · replace h := zBr_f c3 h
    refine lv_iload_n (pc := 12) hx hb dX6_allLeavesCome_12 rfl (lv_at hl 1 rfl) ?_
    refine lv_aload_n (pc := 13) hx hb dX6_allLeavesCome_13 rfl (lv_at hl 0 rfl) ?_
    refine lv_iload_n (pc := 14) hx hb dX6_allLeavesCome_14 rfl (lv_at hl 2 rfl) ?_
    obtain ⟨r6, k5, h⟩ := zBd_e h
    refine zr_VI (pc := 15) (rest := [.int v1]) cx cv_X6_123 (mX6_actsShown ha0 k5) ⟨⟨rfl, rfl⟩, Nat.le_of_ble_eq_true rfl, Nat.le_of_ble_eq_true rfl⟩ ⟨Nat.le_of_ble_eq_true rfl, Nat.le_of_ble_eq_true rfl⟩ hP (nX6_0 ha0) (sX6_0 ha0) rfl hl.1 rfl rfl (Nat.le_of_ble_eq_true rfl) dX6_allLeavesCome_15 ?_
    obtain ⟨r8, k7, h⟩ := zBd_e h
    refine zr_SI (pc := 18) (rest := [.int v1]) cx cv_X6_109 (mJ6_bitCount_0f7a4 k7) ⟨⟨rfl, rfl⟩, Nat.le_of_ble_eq_true rfl, Nat.le_of_ble_eq_true rfl⟩ ⟨Nat.le_of_ble_eq_true rfl, Nat.le_of_ble_eq_true rfl⟩ (zr_preK cx) hl.1 rfl rfl (Nat.le_of_ble_eq_true rfl) dX6_allLeavesCome_18 ?_
    refine lv_iadd (pc := 21) hx hb dX6_allLeavesCome_21 ?_
    obtain ⟨x9, ex9, h⟩ := zLt_e h
    refine zr_nmI ex9 ?_
    refine lv_istore_n (lv' := [(1, .int x9), (0, .ref (q a0)), (2, .int v2)]) (pc := 22) hx hb dX6_allLeavesCome_22 rfl hl (by decide) rfl (fun ls hl => ?_)
    obtain ⟨x10, ex10, h⟩ := zLt_e h
    refine lv_iinc (v := x10) (lv' := [(2, .int x10), (1, .int x9), (0, .ref (q a0))]) (pc := 23) hx hb dX6_allLeavesCome_23 hl (k := 2) rfl (by rw [zc_1]; exact ex10.symm) (by decide) rfl (fun ls hl => ?_)
    refine lv_goto (pc := 26) (tgt := 4) hx hb dX6_allLeavesCome_26 (by decide) ?_
    cases h
    exact hb1 _ _ hc _ (lv_sub hl [2, 1, 0] rfl)
set_option maxHeartbeats 4000000 in
set_option maxRecDepth 100000 in
theorem kX6_allLeavesCome_4 {p : Program} {l : Launch} {e : Env} {s : State} {m : MethodId} {args : Array Value} {below : List Frame} {meth : Method} {c : Code} {D : va_G} {cy : Nat → ClassId} {q : Nat → Nat} (cx : zX RX6 cX6_allLeavesCome 3 p s m args c D cy) (hr : meth.sig.returnType = (some .int)) (hlk : meth.locks = false) {a0 : Nat} (ha0 : zLife a0) {z : Int32} {S : zSt} (hP : va_P D vwCl (zW zsh zNC cy q S) s.heap) : ∀ (n : Nat) (v1 : Int32) (v2 : Int32), zLp (fX6_allLeavesCome_4 S a0) n (v1, v2) = some z → ∀ (ls : Array Slot), lv_has ls 3 [(0, .ref (q a0)), (1, .int v1), (2, .int v2)] → W p l e rmX6_allLeavesCome s m args below meth c s.heap [] 0 0 (MQ below (vp_Si (fun x => x = z)) args s 0 0 (fun _ => False)) (F0 m 4 ls []) := by
  intro n
  induction n with
  | zero =>
    intro v1 v2 h
    cases h
  | succ n ih =>
    intro v1 v2 h ls hl
    obtain ⟨x, h, hk⟩ := zLp_e h
    exact kX6_allLeavesCome_4B cx hr hlk ha0  (C1 := zKt (fun t => zLp (fX6_allLeavesCome_4 S a0) n t = some z) (fun a => a = z)) (fun v1 v2 ht ls hl => ih v1 v2 ht ls hl) (fun a ha => ha) hP h hk hl
def fX6_allLeavesCome (S : zSt) (a0 : Nat) : Option Int32 :=
  zLp (fX6_allLeavesCome_4 S a0) 2000 ((0 : Int32), (0 : Int32))
set_option maxHeartbeats 4000000 in
set_option maxRecDepth 100000 in
theorem mX6_allLeavesCome {l : Launch} {D : va_G} {cy : Nat → ClassId} {q : Nat → Nat} {S : zSt} {a0 : Nat} (ha0 : zLife a0) {z : Int32} (h : fX6_allLeavesCome S a0 = some z) : zMi l yX6_allLeavesCome cX6_allLeavesCome 3 (some .int) rmX6_allLeavesCome [.ref (q a0)] (zPr zsh zNC D cy q S) z := by
  refine Met.ofW (cc := cX6_allLeavesCome) (maxL := 3) (ret := (some .int)) (by decide) rfl ?_
  intro p e s m args below meth c s₁ B hml hv
  obtain ⟨rfl, hP, hK⟩ := hv
  have cx : zX RX6 cX6_allLeavesCome 3 p s m ([.ref (q a0)]).toArray c D cy := ⟨B.exec, B.bytes, hml, findClass_of_methodNamed B.named, fun w hw => atoms_spec (ws := Cond.code yX6_allLeavesCome cX6_allLeavesCome 3 (some .int) :: zTB) B.pre w (List.mem_cons_of_mem _ hw), hK⟩
  have hx := cx.1
  have hb := cx.2.1
  have hr := B.returns
  have hlk := B.notSynchronized
  have hl := lv_entry ([.ref (q a0)]) (n := 3) (Nat.le_of_ble_eq_true rfl)
  rw [lg_entry_eq]
  generalize (lg_sl ([.ref (q a0)]) ++ List.replicate (3 - (lg_sl ([.ref (q a0)])).length) Slot.unset).toArray = ls at hl ⊢
  have hl : lv_has ls 3 [(0, .ref (q a0))] := hl
  unfold fX6_allLeavesCome at h
  refine lv_iconst (pc := 0) hx hb dX6_allLeavesCome_0 zc_0 ?_
  refine lv_istore_n (lv' := [(1, .int (0 : Int32)), (0, .ref (q a0))]) (pc := 1) hx hb dX6_allLeavesCome_1 rfl hl (by decide) rfl (fun ls hl => ?_)
  refine lv_iconst (pc := 2) hx hb dX6_allLeavesCome_2 zc_0 ?_
  refine lv_istore_n (lv' := [(2, .int (0 : Int32)), (1, .int (0 : Int32)), (0, .ref (q a0))]) (pc := 3) hx hb dX6_allLeavesCome_3 rfl hl (by decide) rfl (fun ls hl => ?_)
  exact kX6_allLeavesCome_4 cx hr hlk ha0 hP 2000 _ _ h _ (lv_sub hl [2, 1, 0] rfl)
-- X6_leavesDue
abbrev rmX6_leavesDue : Room := { frames := 0, cells := 0, slots := 0, locals := 0 }
def fX6_leavesDue_30 (S : zSt) (a0 : Nat) (v1 : Int32) (v2 : Int32) (v3 : Int32) : Option ((Int32 × Int32) ⊕ Int32) :=
  zLt (v3 + (1 : Int32)) (fun x6 => some (.inl (v2, x6)))
set_option maxHeartbeats 4000000 in
set_option maxRecDepth 100000 in
theorem kX6_leavesDue_30 {p : Program} {l : Launch} {e : Env} {s : State} {m : MethodId} {args : Array Value} {below : List Frame} {meth : Method} {c : Code} {D : va_G} {cy : Nat → ClassId} {q : Nat → Nat} (cx : zX RX6 cX6_leavesDue 4 p s m args c D cy) (hr : meth.sig.returnType = (some .int)) (hlk : meth.locks = false) {a0 : Nat} (ha0 : zLife a0) {z : Int32} {S : zSt} {v1 : Int32} {v2 : Int32} {v3 : Int32} {C1 : ((Int32 × Int32) ⊕ Int32) → Prop} (hb1 : ∀ (v2 : Int32) (v3 : Int32), C1 (.inl (v2, v3)) → ∀ (ls : Array Slot), lv_has ls 4 [(0, .ref (q a0)), (1, .int v1), (2, .int v2), (3, .int v3)] → W p l e rmX6_leavesDue s m args below meth c s.heap [] 0 0 (MQ below (vp_Si (fun x => x = z)) args s 0 0 (fun _ => False)) (F0 m 4 ls [])) (hx1 : ∀ a, C1 (.inr a) → a = z) (hP : va_P D vwCl (zW zsh zNC cy q S) s.heap) {x : ((Int32 × Int32) ⊕ Int32)} (h : fX6_leavesDue_30 S a0 v1 v2 v3 = some x) (hc : C1 x) {ls : Array Slot} (hl : lv_has ls 4 [(0, .ref (q a0)), (1, .int v1), (2, .int v2), (3, .int v3)]) : W p l e rmX6_leavesDue s m args below meth c s.heap [] 0 0 (MQ below (vp_Si (fun x => x = z)) args s 0 0 (fun _ => False)) (F0 m 30 ls []) := by
  have hx := cx.1
  have hb := cx.2.1
  unfold fX6_leavesDue_30 at h
  obtain ⟨x6, ex6, h⟩ := zLt_e h
  refine lv_iinc (v := x6) (lv' := [(3, .int x6), (0, .ref (q a0)), (1, .int v1), (2, .int v2)]) (pc := 30) hx hb dX6_leavesDue_30 hl (k := 3) rfl (by rw [zc_1]; exact ex6.symm) (by decide) rfl (fun ls hl => ?_)
  refine lv_goto (pc := 33) (tgt := 4) hx hb dX6_leavesDue_33 (by decide) ?_
  cases h
  exact hb1 _ _ hc _ (lv_sub hl [1, 2, 3, 0] rfl)
def fX6_leavesDue_4 (S : zSt) (a0 : Nat) (v1 : Int32) (t : (Int32 × Int32)) : Option ((Int32 × Int32) ⊕ Int32) :=
  match t with
  | (v2, v3) => zBr ((S.1 a0 2) ≤ v3) (zXr (some v2)) (zGd (zIx v1 6) (zGd (zIx v3 12) (zBr ((S.1 (a0 + 6 + v1.toNatClampNeg) v3.toNatClampNeg) ≤ (S.1 a0 1)) (fX6_leavesDue_30 S a0 v1 v2 v3) (zLt (v2 + (1 : Int32)) (fun x7 => fX6_leavesDue_30 S a0 v1 x7 v3)))))
set_option maxHeartbeats 4000000 in
set_option maxRecDepth 100000 in
theorem kX6_leavesDue_4B {p : Program} {l : Launch} {e : Env} {s : State} {m : MethodId} {args : Array Value} {below : List Frame} {meth : Method} {c : Code} {D : va_G} {cy : Nat → ClassId} {q : Nat → Nat} (cx : zX RX6 cX6_leavesDue 4 p s m args c D cy) (hr : meth.sig.returnType = (some .int)) (hlk : meth.locks = false) {a0 : Nat} (ha0 : zLife a0) {z : Int32} {S : zSt} {v1 : Int32} {v2 : Int32} {v3 : Int32} {C1 : ((Int32 × Int32) ⊕ Int32) → Prop} (hb1 : ∀ (v2 : Int32) (v3 : Int32), C1 (.inl (v2, v3)) → ∀ (ls : Array Slot), lv_has ls 4 [(0, .ref (q a0)), (1, .int v1), (2, .int v2), (3, .int v3)] → W p l e rmX6_leavesDue s m args below meth c s.heap [] 0 0 (MQ below (vp_Si (fun x => x = z)) args s 0 0 (fun _ => False)) (F0 m 4 ls [])) (hx1 : ∀ a, C1 (.inr a) → a = z) (hP : va_P D vwCl (zW zsh zNC cy q S) s.heap) {x : ((Int32 × Int32) ⊕ Int32)} (h : fX6_leavesDue_4 S a0 v1 (v2, v3) = some x) (hc : C1 x) {ls : Array Slot} (hl : lv_has ls 4 [(0, .ref (q a0)), (1, .int v1), (2, .int v2), (3, .int v3)]) : W p l e rmX6_leavesDue s m args below meth c s.heap [] 0 0 (MQ below (vp_Si (fun x => x = z)) args s 0 0 (fun _ => False)) (F0 m 4 ls []) := by
  have hx := cx.1
  have hb := cx.2.1
  unfold fX6_leavesDue_4 at h
  dsimp only at h
  refine lv_iload_n (pc := 4) hx hb dX6_leavesDue_4 rfl (lv_at hl 3 rfl) ?_
  refine lv_aload_n (pc := 5) hx hb dX6_leavesDue_5 rfl (lv_at hl 0 rfl) ?_
  refine zr_getI (pc := 6) cx lk_X6_46 hP (nX6_0 ha0) (sX6_0 ha0) rfl dX6_leavesDue_6 ?_
  refine lv_icmp_ge (pc := 9) (tgt := 36) hx hb dX6_leavesDue_9 (by decide) (fun c1 => ?_) (fun c1 => ?_)
  · replace h := zBr_t c1 h
    obtain ⟨y2, h, ex⟩ := zXr_e h
    have hc := hx1 y2 (by rw [ex] at hc; exact hc)
    rw [hc] at h
    refine lv_iload_n (pc := 36) hx hb dX6_leavesDue_36 rfl (lv_at hl 2 rfl) ?_
    have hz := Option.some.inj h
    exact zr_reI (pc := 37) cx hr hlk hz dX6_leavesDue_37
  · replace h := zBr_f c1 h
    refine lv_aload_n (pc := 12) hx hb dX6_leavesDue_12 rfl (lv_at hl 0 rfl) ?_
    refine zr_getR (pc := 13) (t := (a0 + 5)) cx lk_X6_26 hP (nX6_0 ha0) (sX6_0 ha0) rfl dX6_leavesDue_13 ?_
    refine lv_iload_n (pc := 16) hx hb dX6_leavesDue_16 rfl (lv_at hl 1 rfl) ?_
    obtain ⟨g3, h⟩ := zGd_e h
    refine zr_aald (pc := 17) (g := (a0 + 6 + v1.toNatClampNeg)) cx hP (nX6_5 ha0) (sX6_5 ha0) (Or.inr (Or.inr rfl)) g3 rfl dX6_leavesDue_17 ?_
    refine lv_iload_n (pc := 18) hx hb dX6_leavesDue_18 rfl (lv_at hl 3 rfl) ?_
    obtain ⟨g4, h⟩ := zGd_e h
    refine zr_iald (pc := 19) cx hP (nX6_r ha0 g3) (sX6_r ha0 g3) g4 dX6_leavesDue_19 ?_
    refine lv_aload_n (pc := 20) hx hb dX6_leavesDue_20 rfl (lv_at hl 0 rfl) ?_
    refine zr_getI (pc := 21) cx lk_X6_42 hP (nX6_0 ha0) (sX6_0 ha0) rfl dX6_leavesDue_21 ?_
    refine lv_icmp_le (pc := 24) (tgt := 30) hx hb dX6_leavesDue_24 (by decide) (fun c5 => ?_) (fun c5 => ?_)
    · replace h := zBr_t c5 h
      exact kX6_leavesDue_30 cx hr hlk ha0 hb1 hx1 hP h hc (lv_sub hl [0, 1, 2, 3] rfl)
    · replace h := zBr_f c5 h
      obtain ⟨x7, ex7, h⟩ := zLt_e h
      refine lv_iinc (v := x7) (lv' := [(2, .int x7), (0, .ref (q a0)), (1, .int v1), (3, .int v3)]) (pc := 27) hx hb dX6_leavesDue_27 hl (k := 2) rfl (by rw [zc_1]; exact ex7.symm) (by decide) rfl (fun ls hl => ?_)
      exact kX6_leavesDue_30 cx hr hlk ha0 hb1 hx1 hP h hc (lv_sub hl [1, 2, 0, 3] rfl)
set_option maxHeartbeats 4000000 in
set_option maxRecDepth 100000 in
theorem kX6_leavesDue_4 {p : Program} {l : Launch} {e : Env} {s : State} {m : MethodId} {args : Array Value} {below : List Frame} {meth : Method} {c : Code} {D : va_G} {cy : Nat → ClassId} {q : Nat → Nat} (cx : zX RX6 cX6_leavesDue 4 p s m args c D cy) (hr : meth.sig.returnType = (some .int)) (hlk : meth.locks = false) {a0 : Nat} (ha0 : zLife a0) {z : Int32} {S : zSt} {v1 : Int32} (hP : va_P D vwCl (zW zsh zNC cy q S) s.heap) : ∀ (n : Nat) (v2 : Int32) (v3 : Int32), zLp (fX6_leavesDue_4 S a0 v1) n (v2, v3) = some z → ∀ (ls : Array Slot), lv_has ls 4 [(0, .ref (q a0)), (1, .int v1), (2, .int v2), (3, .int v3)] → W p l e rmX6_leavesDue s m args below meth c s.heap [] 0 0 (MQ below (vp_Si (fun x => x = z)) args s 0 0 (fun _ => False)) (F0 m 4 ls []) := by
  intro n
  induction n with
  | zero =>
    intro v2 v3 h
    cases h
  | succ n ih =>
    intro v2 v3 h ls hl
    obtain ⟨x, h, hk⟩ := zLp_e h
    exact kX6_leavesDue_4B cx hr hlk ha0  (C1 := zKt (fun t => zLp (fX6_leavesDue_4 S a0 v1) n t = some z) (fun a => a = z)) (fun v2 v3 ht ls hl => ih v2 v3 ht ls hl) (fun a ha => ha) hP h hk hl
def fX6_leavesDue (S : zSt) (a0 : Nat) (v1 : Int32) : Option Int32 :=
  zLp (fX6_leavesDue_4 S a0 v1) 2000 ((0 : Int32), (0 : Int32))
set_option maxHeartbeats 4000000 in
set_option maxRecDepth 100000 in
theorem mX6_leavesDue {l : Launch} {D : va_G} {cy : Nat → ClassId} {q : Nat → Nat} {S : zSt} {a0 : Nat} {v1 : Int32} (ha0 : zLife a0) {z : Int32} (h : fX6_leavesDue S a0 v1 = some z) : zMi l yX6_leavesDue cX6_leavesDue 4 (some .int) rmX6_leavesDue [.ref (q a0), .int v1] (zPr zsh zNC D cy q S) z := by
  refine Met.ofW (cc := cX6_leavesDue) (maxL := 4) (ret := (some .int)) (by decide) rfl ?_
  intro p e s m args below meth c s₁ B hml hv
  obtain ⟨rfl, hP, hK⟩ := hv
  have cx : zX RX6 cX6_leavesDue 4 p s m ([.ref (q a0), .int v1]).toArray c D cy := ⟨B.exec, B.bytes, hml, findClass_of_methodNamed B.named, fun w hw => atoms_spec (ws := Cond.code yX6_leavesDue cX6_leavesDue 4 (some .int) :: zTB) B.pre w (List.mem_cons_of_mem _ hw), hK⟩
  have hx := cx.1
  have hb := cx.2.1
  have hr := B.returns
  have hlk := B.notSynchronized
  have hl := lv_entry ([.ref (q a0), .int v1]) (n := 4) (Nat.le_of_ble_eq_true rfl)
  rw [lg_entry_eq]
  generalize (lg_sl ([.ref (q a0), .int v1]) ++ List.replicate (4 - (lg_sl ([.ref (q a0), .int v1])).length) Slot.unset).toArray = ls at hl ⊢
  have hl : lv_has ls 4 [(0, .ref (q a0)), (1, .int v1)] := hl
  unfold fX6_leavesDue at h
  refine lv_iconst (pc := 0) hx hb dX6_leavesDue_0 zc_0 ?_
  refine lv_istore_n (lv' := [(2, .int (0 : Int32)), (0, .ref (q a0)), (1, .int v1)]) (pc := 1) hx hb dX6_leavesDue_1 rfl hl (by decide) rfl (fun ls hl => ?_)
  refine lv_iconst (pc := 2) hx hb dX6_leavesDue_2 zc_0 ?_
  refine lv_istore_n (lv' := [(3, .int (0 : Int32)), (2, .int (0 : Int32)), (0, .ref (q a0)), (1, .int v1)]) (pc := 3) hx hb dX6_leavesDue_3 rfl hl (by decide) rfl (fun ls hl => ?_)
  exact kX6_leavesDue_4 cx hr hlk ha0 hP 2000 _ _ h _ (lv_sub hl [2, 3, 1, 0] rfl)
-- X6_allLeavesDue
abbrev rmX6_allLeavesDue : Room := { frames := 1, cells := 0, slots := 0, locals := 23 }
def fX6_allLeavesDue_4 (S : zSt) (a0 : Nat) (t : (Int32 × Int32)) : Option ((Int32 × Int32) ⊕ Int32) :=
  match t with
  | (v1, v2) => zBd (fX6_plants S a0) (fun r2 => zBr (r2 ≤ v2) (zXr (some v1)) (zBd (fX6_leavesDue S a0 v2) (fun r6 => zLt (v1 + r6) (fun x7 => zLt (v2 + (1 : Int32)) (fun x8 => some (.inl (x7, x8)))))))
set_option maxHeartbeats 4000000 in
set_option maxRecDepth 100000 in
theorem kX6_allLeavesDue_4B {p : Program} {l : Launch} {e : Env} {s : State} {m : MethodId} {args : Array Value} {below : List Frame} {meth : Method} {c : Code} {D : va_G} {cy : Nat → ClassId} {q : Nat → Nat} (cx : zX RX6 cX6_allLeavesDue 3 p s m args c D cy) (hr : meth.sig.returnType = (some .int)) (hlk : meth.locks = false) {a0 : Nat} (ha0 : zLife a0) {z : Int32} {S : zSt} {v1 : Int32} {v2 : Int32} {C1 : ((Int32 × Int32) ⊕ Int32) → Prop} (hb1 : ∀ (v1 : Int32) (v2 : Int32), C1 (.inl (v1, v2)) → ∀ (ls : Array Slot), lv_has ls 3 [(0, .ref (q a0)), (1, .int v1), (2, .int v2)] → W p l e rmX6_allLeavesDue s m args below meth c s.heap [] 0 0 (MQ below (vp_Si (fun x => x = z)) args s 0 0 (fun _ => False)) (F0 m 4 ls [])) (hx1 : ∀ a, C1 (.inr a) → a = z) (hP : va_P D vwCl (zW zsh zNC cy q S) s.heap) {x : ((Int32 × Int32) ⊕ Int32)} (h : fX6_allLeavesDue_4 S a0 (v1, v2) = some x) (hc : C1 x) {ls : Array Slot} (hl : lv_has ls 3 [(0, .ref (q a0)), (1, .int v1), (2, .int v2)]) : W p l e rmX6_allLeavesDue s m args below meth c s.heap [] 0 0 (MQ below (vp_Si (fun x => x = z)) args s 0 0 (fun _ => False)) (F0 m 4 ls []) := by
  have hx := cx.1
  have hb := cx.2.1
  unfold fX6_allLeavesDue_4 at h
  dsimp only at h
  refine lv_iload_n (pc := 4) hx hb dX6_allLeavesDue_4 rfl (lv_at hl 2 rfl) ?_
  refine lv_aload_n (pc := 5) hx hb dX6_allLeavesDue_5 rfl (lv_at hl 0 rfl) ?_
  obtain ⟨r2, k1, h⟩ := zBd_e h
  refine zr_VI (pc := 6) (rest := [.int v2]) cx cv_X6_86 (mX6_plants ha0 k1) ⟨⟨rfl, rfl⟩, Nat.le_of_ble_eq_true rfl, Nat.le_of_ble_eq_true rfl⟩ ⟨Nat.le_of_ble_eq_true rfl, Nat.le_of_ble_eq_true rfl⟩ hP (nX6_0 ha0) (sX6_0 ha0) rfl hl.1 rfl rfl (Nat.le_of_ble_eq_true rfl) dX6_allLeavesDue_6 ?_
  refine lv_icmp_ge (pc := 9) (tgt := 26) hx hb dX6_allLeavesDue_9 (by decide) (fun c3 => ?_) (fun c3 => ?_)
  · replace h := zBr_t c3 h
    obtain ⟨y4, h, ex⟩ := zXr_e h
    have hc := hx1 y4 (by rw [ex] at hc; exact hc)
    rw [hc] at h
    refine lv_iload_n (pc := 26) hx hb dX6_allLeavesDue_26 rfl (lv_at hl 1 rfl) ?_
    have hz := Option.some.inj h
    exact zr_reI (pc := 27) cx hr hlk hz dX6_allLeavesDue_27
  · replace h := zBr_f c3 h
    refine lv_iload_n (pc := 12) hx hb dX6_allLeavesDue_12 rfl (lv_at hl 1 rfl) ?_
    refine lv_aload_n (pc := 13) hx hb dX6_allLeavesDue_13 rfl (lv_at hl 0 rfl) ?_
    refine lv_iload_n (pc := 14) hx hb dX6_allLeavesDue_14 rfl (lv_at hl 2 rfl) ?_
    obtain ⟨r6, k5, h⟩ := zBd_e h
    refine zr_VI (pc := 15) (rest := [.int v1]) cx cv_X6_126 (mX6_leavesDue ha0 k5) ⟨⟨rfl, rfl⟩, Nat.le_of_ble_eq_true rfl, Nat.le_of_ble_eq_true rfl⟩ ⟨Nat.le_of_ble_eq_true rfl, Nat.le_of_ble_eq_true rfl⟩ hP (nX6_0 ha0) (sX6_0 ha0) rfl hl.1 rfl rfl (Nat.le_of_ble_eq_true rfl) dX6_allLeavesDue_15 ?_
    refine lv_iadd (pc := 18) hx hb dX6_allLeavesDue_18 ?_
    obtain ⟨x7, ex7, h⟩ := zLt_e h
    refine zr_nmI ex7 ?_
    refine lv_istore_n (lv' := [(1, .int x7), (0, .ref (q a0)), (2, .int v2)]) (pc := 19) hx hb dX6_allLeavesDue_19 rfl hl (by decide) rfl (fun ls hl => ?_)
    obtain ⟨x8, ex8, h⟩ := zLt_e h
    refine lv_iinc (v := x8) (lv' := [(2, .int x8), (1, .int x7), (0, .ref (q a0))]) (pc := 20) hx hb dX6_allLeavesDue_20 hl (k := 2) rfl (by rw [zc_1]; exact ex8.symm) (by decide) rfl (fun ls hl => ?_)
    refine lv_goto (pc := 23) (tgt := 4) hx hb dX6_allLeavesDue_23 (by decide) ?_
    cases h
    exact hb1 _ _ hc _ (lv_sub hl [2, 1, 0] rfl)
set_option maxHeartbeats 4000000 in
set_option maxRecDepth 100000 in
theorem kX6_allLeavesDue_4 {p : Program} {l : Launch} {e : Env} {s : State} {m : MethodId} {args : Array Value} {below : List Frame} {meth : Method} {c : Code} {D : va_G} {cy : Nat → ClassId} {q : Nat → Nat} (cx : zX RX6 cX6_allLeavesDue 3 p s m args c D cy) (hr : meth.sig.returnType = (some .int)) (hlk : meth.locks = false) {a0 : Nat} (ha0 : zLife a0) {z : Int32} {S : zSt} (hP : va_P D vwCl (zW zsh zNC cy q S) s.heap) : ∀ (n : Nat) (v1 : Int32) (v2 : Int32), zLp (fX6_allLeavesDue_4 S a0) n (v1, v2) = some z → ∀ (ls : Array Slot), lv_has ls 3 [(0, .ref (q a0)), (1, .int v1), (2, .int v2)] → W p l e rmX6_allLeavesDue s m args below meth c s.heap [] 0 0 (MQ below (vp_Si (fun x => x = z)) args s 0 0 (fun _ => False)) (F0 m 4 ls []) := by
  intro n
  induction n with
  | zero =>
    intro v1 v2 h
    cases h
  | succ n ih =>
    intro v1 v2 h ls hl
    obtain ⟨x, h, hk⟩ := zLp_e h
    exact kX6_allLeavesDue_4B cx hr hlk ha0  (C1 := zKt (fun t => zLp (fX6_allLeavesDue_4 S a0) n t = some z) (fun a => a = z)) (fun v1 v2 ht ls hl => ih v1 v2 ht ls hl) (fun a ha => ha) hP h hk hl
def fX6_allLeavesDue (S : zSt) (a0 : Nat) : Option Int32 :=
  zLp (fX6_allLeavesDue_4 S a0) 2000 ((0 : Int32), (0 : Int32))
set_option maxHeartbeats 4000000 in
set_option maxRecDepth 100000 in
theorem mX6_allLeavesDue {l : Launch} {D : va_G} {cy : Nat → ClassId} {q : Nat → Nat} {S : zSt} {a0 : Nat} (ha0 : zLife a0) {z : Int32} (h : fX6_allLeavesDue S a0 = some z) : zMi l yX6_allLeavesDue cX6_allLeavesDue 3 (some .int) rmX6_allLeavesDue [.ref (q a0)] (zPr zsh zNC D cy q S) z := by
  refine Met.ofW (cc := cX6_allLeavesDue) (maxL := 3) (ret := (some .int)) (by decide) rfl ?_
  intro p e s m args below meth c s₁ B hml hv
  obtain ⟨rfl, hP, hK⟩ := hv
  have cx : zX RX6 cX6_allLeavesDue 3 p s m ([.ref (q a0)]).toArray c D cy := ⟨B.exec, B.bytes, hml, findClass_of_methodNamed B.named, fun w hw => atoms_spec (ws := Cond.code yX6_allLeavesDue cX6_allLeavesDue 3 (some .int) :: zTB) B.pre w (List.mem_cons_of_mem _ hw), hK⟩
  have hx := cx.1
  have hb := cx.2.1
  have hr := B.returns
  have hlk := B.notSynchronized
  have hl := lv_entry ([.ref (q a0)]) (n := 3) (Nat.le_of_ble_eq_true rfl)
  rw [lg_entry_eq]
  generalize (lg_sl ([.ref (q a0)]) ++ List.replicate (3 - (lg_sl ([.ref (q a0)])).length) Slot.unset).toArray = ls at hl ⊢
  have hl : lv_has ls 3 [(0, .ref (q a0))] := hl
  unfold fX6_allLeavesDue at h
  refine lv_iconst (pc := 0) hx hb dX6_allLeavesDue_0 zc_0 ?_
  refine lv_istore_n (lv' := [(1, .int (0 : Int32)), (0, .ref (q a0))]) (pc := 1) hx hb dX6_allLeavesDue_1 rfl hl (by decide) rfl (fun ls hl => ?_)
  refine lv_iconst (pc := 2) hx hb dX6_allLeavesDue_2 zc_0 ?_
  refine lv_istore_n (lv' := [(2, .int (0 : Int32)), (1, .int (0 : Int32)), (0, .ref (q a0))]) (pc := 3) hx hb dX6_allLeavesDue_3 rfl hl (by decide) rfl (fun ls hl => ?_)
  exact kX6_allLeavesDue_4 cx hr hlk ha0 hP 2000 _ _ h _ (lv_sub hl [2, 1, 0] rfl)
-- X6_parloursUnseen
abbrev rmX6_parloursUnseen : Room := { frames := 2, cells := 0, slots := 0, locals := 42 }
def fX6_parloursUnseen_4 (S : zSt) (a0 : Nat) (t : (Int32 × Int32)) : Option ((Int32 × Int32) ⊕ Int32) :=
  match t with
  | (v1, v2) => zBd (fX6_plants S a0) (fun r2 => zBr (r2 ≤ v2) (zXr (zGd (zIx (0 : Int32) 4) (zBd (fX11_allBits (S.1 ((zHs a0) + 1) (0 : Int32).toNatClampNeg)) (fun r7 => some (r7 &&& (v1 ^^^ (-1 : Int32))))))) (zBd (fX6_seenBy S a0 v2) (fun r9 => zLt (v1 ||| r9) (fun x10 => zLt (v2 + (1 : Int32)) (fun x11 => some (.inl (x10, x11)))))))
set_option maxHeartbeats 4000000 in
set_option maxRecDepth 100000 in
theorem kX6_parloursUnseen_4B {p : Program} {l : Launch} {e : Env} {s : State} {m : MethodId} {args : Array Value} {below : List Frame} {meth : Method} {c : Code} {D : va_G} {cy : Nat → ClassId} {q : Nat → Nat} (cx : zX RX6 cX6_parloursUnseen 3 p s m args c D cy) (hr : meth.sig.returnType = (some .int)) (hlk : meth.locks = false) {a0 : Nat} (ha0 : zLife a0) {z : Int32} {S : zSt} {v1 : Int32} {v2 : Int32} {C1 : ((Int32 × Int32) ⊕ Int32) → Prop} (hb1 : ∀ (v1 : Int32) (v2 : Int32), C1 (.inl (v1, v2)) → ∀ (ls : Array Slot), lv_has ls 3 [(0, .ref (q a0)), (1, .int v1), (2, .int v2)] → W p l e rmX6_parloursUnseen s m args below meth c s.heap [] 0 0 (MQ below (vp_Si (fun x => x = z)) args s 0 0 (fun _ => False)) (F0 m 4 ls [])) (hx1 : ∀ a, C1 (.inr a) → a = z) (hP : va_P D vwCl (zW zsh zNC cy q S) s.heap) {x : ((Int32 × Int32) ⊕ Int32)} (h : fX6_parloursUnseen_4 S a0 (v1, v2) = some x) (hc : C1 x) {ls : Array Slot} (hl : lv_has ls 3 [(0, .ref (q a0)), (1, .int v1), (2, .int v2)]) : W p l e rmX6_parloursUnseen s m args below meth c s.heap [] 0 0 (MQ below (vp_Si (fun x => x = z)) args s 0 0 (fun _ => False)) (F0 m 4 ls []) := by
  have hx := cx.1
  have hb := cx.2.1
  unfold fX6_parloursUnseen_4 at h
  dsimp only at h
  refine lv_iload_n (pc := 4) hx hb dX6_parloursUnseen_4 rfl (lv_at hl 2 rfl) ?_
  refine lv_aload_n (pc := 5) hx hb dX6_parloursUnseen_5 rfl (lv_at hl 0 rfl) ?_
  obtain ⟨r2, k1, h⟩ := zBd_e h
  refine zr_VI (pc := 6) (rest := [.int v2]) cx cv_X6_86 (mX6_plants ha0 k1) ⟨⟨rfl, rfl⟩, Nat.le_of_ble_eq_true rfl, Nat.le_of_ble_eq_true rfl⟩ ⟨Nat.le_of_ble_eq_true rfl, Nat.le_of_ble_eq_true rfl⟩ hP (nX6_0 ha0) (sX6_0 ha0) rfl hl.1 rfl rfl (Nat.le_of_ble_eq_true rfl) dX6_parloursUnseen_6 ?_
  refine lv_icmp_ge (pc := 9) (tgt := 26) hx hb dX6_parloursUnseen_9 (by decide) (fun c3 => ?_) (fun c3 => ?_)
  · replace h := zBr_t c3 h
    obtain ⟨y4, h, ex⟩ := zXr_e h
    have hc := hx1 y4 (by rw [ex] at hc; exact hc)
    rw [hc] at h
    refine lv_aload_n (pc := 26) hx hb dX6_parloursUnseen_26 rfl (lv_at hl 0 rfl) ?_
    refine zr_getR (pc := 27) (t := (zHs a0)) cx lk_X6_38 hP (nX6_0 ha0) (sX6_0 ha0) rfl dX6_parloursUnseen_27 ?_
    refine zr_getR (pc := 30) (t := ((zHs a0) + 1)) cx lk_X6_60 hP (nX3_0 (zHs_ok ha0)) (sX3_0 (zHs_ok ha0)) rfl dX6_parloursUnseen_30 ?_
    refine lv_iconst (pc := 33) hx hb dX6_parloursUnseen_33 zc_0 ?_
    obtain ⟨g5, h⟩ := zGd_e h
    refine zr_iald (pc := 34) cx hP (nX3_1 (zHs_ok ha0)) (sX3_1 (zHs_ok ha0)) g5 dX6_parloursUnseen_34 ?_
    obtain ⟨r7, k6, h⟩ := zBd_e h
    refine zr_NI (pc := 35) (rest := []) cx cv_X6_120 (mX11_allBits k6) ⟨⟨rfl, rfl⟩, Nat.le_of_ble_eq_true rfl, Nat.le_of_ble_eq_true rfl⟩ ⟨Nat.le_of_ble_eq_true rfl, Nat.le_of_ble_eq_true rfl⟩ (zr_preK cx) hl.1 rfl rfl (Nat.le_of_ble_eq_true rfl) dX6_parloursUnseen_35 ?_
    refine lv_iload_n (pc := 38) hx hb dX6_parloursUnseen_38 rfl (lv_at hl 1 rfl) ?_
    refine lv_iconst (pc := 39) hx hb dX6_parloursUnseen_39 zc_m1 ?_
    refine lv_ixor (pc := 40) hx hb dX6_parloursUnseen_40 ?_
    refine lv_iand (pc := 41) hx hb dX6_parloursUnseen_41 ?_
    have hz := Option.some.inj h
    exact zr_reI (pc := 42) cx hr hlk hz dX6_parloursUnseen_42
  · replace h := zBr_f c3 h
    refine lv_iload_n (pc := 12) hx hb dX6_parloursUnseen_12 rfl (lv_at hl 1 rfl) ?_
    refine lv_aload_n (pc := 13) hx hb dX6_parloursUnseen_13 rfl (lv_at hl 0 rfl) ?_
    refine lv_iload_n (pc := 14) hx hb dX6_parloursUnseen_14 rfl (lv_at hl 2 rfl) ?_
    obtain ⟨r9, k8, h⟩ := zBd_e h
    refine zr_VI (pc := 15) (rest := [.int v1]) cx cv_X6_90 (mX6_seenBy ha0 k8) ⟨⟨rfl, rfl⟩, Nat.le_of_ble_eq_true rfl, Nat.le_of_ble_eq_true rfl⟩ ⟨Nat.le_of_ble_eq_true rfl, Nat.le_of_ble_eq_true rfl⟩ hP (nX6_0 ha0) (sX6_0 ha0) rfl hl.1 rfl rfl (Nat.le_of_ble_eq_true rfl) dX6_parloursUnseen_15 ?_
    refine lv_ior (pc := 18) hx hb dX6_parloursUnseen_18 ?_
    obtain ⟨x10, ex10, h⟩ := zLt_e h
    refine zr_nmI ex10 ?_
    refine lv_istore_n (lv' := [(1, .int x10), (0, .ref (q a0)), (2, .int v2)]) (pc := 19) hx hb dX6_parloursUnseen_19 rfl hl (by decide) rfl (fun ls hl => ?_)
    obtain ⟨x11, ex11, h⟩ := zLt_e h
    refine lv_iinc (v := x11) (lv' := [(2, .int x11), (1, .int x10), (0, .ref (q a0))]) (pc := 20) hx hb dX6_parloursUnseen_20 hl (k := 2) rfl (by rw [zc_1]; exact ex11.symm) (by decide) rfl (fun ls hl => ?_)
    refine lv_goto (pc := 23) (tgt := 4) hx hb dX6_parloursUnseen_23 (by decide) ?_
    cases h
    exact hb1 _ _ hc _ (lv_sub hl [2, 1, 0] rfl)
set_option maxHeartbeats 4000000 in
set_option maxRecDepth 100000 in
theorem kX6_parloursUnseen_4 {p : Program} {l : Launch} {e : Env} {s : State} {m : MethodId} {args : Array Value} {below : List Frame} {meth : Method} {c : Code} {D : va_G} {cy : Nat → ClassId} {q : Nat → Nat} (cx : zX RX6 cX6_parloursUnseen 3 p s m args c D cy) (hr : meth.sig.returnType = (some .int)) (hlk : meth.locks = false) {a0 : Nat} (ha0 : zLife a0) {z : Int32} {S : zSt} (hP : va_P D vwCl (zW zsh zNC cy q S) s.heap) : ∀ (n : Nat) (v1 : Int32) (v2 : Int32), zLp (fX6_parloursUnseen_4 S a0) n (v1, v2) = some z → ∀ (ls : Array Slot), lv_has ls 3 [(0, .ref (q a0)), (1, .int v1), (2, .int v2)] → W p l e rmX6_parloursUnseen s m args below meth c s.heap [] 0 0 (MQ below (vp_Si (fun x => x = z)) args s 0 0 (fun _ => False)) (F0 m 4 ls []) := by
  intro n
  induction n with
  | zero =>
    intro v1 v2 h
    cases h
  | succ n ih =>
    intro v1 v2 h ls hl
    obtain ⟨x, h, hk⟩ := zLp_e h
    exact kX6_parloursUnseen_4B cx hr hlk ha0  (C1 := zKt (fun t => zLp (fX6_parloursUnseen_4 S a0) n t = some z) (fun a => a = z)) (fun v1 v2 ht ls hl => ih v1 v2 ht ls hl) (fun a ha => ha) hP h hk hl
def fX6_parloursUnseen (S : zSt) (a0 : Nat) : Option Int32 :=
  zLp (fX6_parloursUnseen_4 S a0) 2000 ((0 : Int32), (0 : Int32))
set_option maxHeartbeats 4000000 in
set_option maxRecDepth 100000 in
theorem mX6_parloursUnseen {l : Launch} {D : va_G} {cy : Nat → ClassId} {q : Nat → Nat} {S : zSt} {a0 : Nat} (ha0 : zLife a0) {z : Int32} (h : fX6_parloursUnseen S a0 = some z) : zMi l yX6_parloursUnseen cX6_parloursUnseen 3 (some .int) rmX6_parloursUnseen [.ref (q a0)] (zPr zsh zNC D cy q S) z := by
  refine Met.ofW (cc := cX6_parloursUnseen) (maxL := 3) (ret := (some .int)) (by decide) rfl ?_
  intro p e s m args below meth c s₁ B hml hv
  obtain ⟨rfl, hP, hK⟩ := hv
  have cx : zX RX6 cX6_parloursUnseen 3 p s m ([.ref (q a0)]).toArray c D cy := ⟨B.exec, B.bytes, hml, findClass_of_methodNamed B.named, fun w hw => atoms_spec (ws := Cond.code yX6_parloursUnseen cX6_parloursUnseen 3 (some .int) :: zTB) B.pre w (List.mem_cons_of_mem _ hw), hK⟩
  have hx := cx.1
  have hb := cx.2.1
  have hr := B.returns
  have hlk := B.notSynchronized
  have hl := lv_entry ([.ref (q a0)]) (n := 3) (Nat.le_of_ble_eq_true rfl)
  rw [lg_entry_eq]
  generalize (lg_sl ([.ref (q a0)]) ++ List.replicate (3 - (lg_sl ([.ref (q a0)])).length) Slot.unset).toArray = ls at hl ⊢
  have hl : lv_has ls 3 [(0, .ref (q a0))] := hl
  unfold fX6_parloursUnseen at h
  refine lv_iconst (pc := 0) hx hb dX6_parloursUnseen_0 zc_0 ?_
  refine lv_istore_n (lv' := [(1, .int (0 : Int32)), (0, .ref (q a0))]) (pc := 1) hx hb dX6_parloursUnseen_1 rfl hl (by decide) rfl (fun ls hl => ?_)
  refine lv_iconst (pc := 2) hx hb dX6_parloursUnseen_2 zc_0 ?_
  refine lv_istore_n (lv' := [(2, .int (0 : Int32)), (1, .int (0 : Int32)), (0, .ref (q a0))]) (pc := 3) hx hb dX6_parloursUnseen_3 rfl hl (by decide) rfl (fun ls hl => ?_)
  exact kX6_parloursUnseen_4 cx hr hlk ha0 hP 2000 _ _ h _ (lv_sub hl [2, 1, 0] rfl)
-- X6_plantsThatSee
abbrev rmX6_plantsThatSee : Room := { frames := 1, cells := 0, slots := 0, locals := 21 }
def fX6_plantsThatSee_26 (S : zSt) (a0 : Nat) (v1 : Int32) (v2 : Int32) : Option ((Int32 × Int32) ⊕ Int32) :=
  zLt (v2 + (1 : Int32)) (fun x8 => some (.inl (v1, x8)))
set_option maxHeartbeats 4000000 in
set_option maxRecDepth 100000 in
theorem kX6_plantsThatSee_26 {p : Program} {l : Launch} {e : Env} {s : State} {m : MethodId} {args : Array Value} {below : List Frame} {meth : Method} {c : Code} {D : va_G} {cy : Nat → ClassId} {q : Nat → Nat} (cx : zX RX6 cX6_plantsThatSee 3 p s m args c D cy) (hr : meth.sig.returnType = (some .int)) (hlk : meth.locks = false) {a0 : Nat} (ha0 : zLife a0) {z : Int32} {S : zSt} {v1 : Int32} {v2 : Int32} {C1 : ((Int32 × Int32) ⊕ Int32) → Prop} (hb1 : ∀ (v1 : Int32) (v2 : Int32), C1 (.inl (v1, v2)) → ∀ (ls : Array Slot), lv_has ls 3 [(0, .ref (q a0)), (1, .int v1), (2, .int v2)] → W p l e rmX6_plantsThatSee s m args below meth c s.heap [] 0 0 (MQ below (vp_Si (fun x => x = z)) args s 0 0 (fun _ => False)) (F0 m 4 ls [])) (hx1 : ∀ a, C1 (.inr a) → a = z) (hP : va_P D vwCl (zW zsh zNC cy q S) s.heap) {x : ((Int32 × Int32) ⊕ Int32)} (h : fX6_plantsThatSee_26 S a0 v1 v2 = some x) (hc : C1 x) {ls : Array Slot} (hl : lv_has ls 3 [(0, .ref (q a0)), (1, .int v1), (2, .int v2)]) : W p l e rmX6_plantsThatSee s m args below meth c s.heap [] 0 0 (MQ below (vp_Si (fun x => x = z)) args s 0 0 (fun _ => False)) (F0 m 26 ls []) := by
  have hx := cx.1
  have hb := cx.2.1
  unfold fX6_plantsThatSee_26 at h
  obtain ⟨x8, ex8, h⟩ := zLt_e h
  refine lv_iinc (v := x8) (lv' := [(2, .int x8), (0, .ref (q a0)), (1, .int v1)]) (pc := 26) hx hb dX6_plantsThatSee_26 hl (k := 2) rfl (by rw [zc_1]; exact ex8.symm) (by decide) rfl (fun ls hl => ?_)
  refine lv_goto (pc := 29) (tgt := 4) hx hb dX6_plantsThatSee_29 (by decide) ?_
  cases h
  exact hb1 _ _ hc _ (lv_sub hl [1, 2, 0] rfl)
def fX6_plantsThatSee_4 (S : zSt) (a0 : Nat) (t : (Int32 × Int32)) : Option ((Int32 × Int32) ⊕ Int32) :=
  match t with
  | (v1, v2) => zBd (fX6_plants S a0) (fun r2 => zBr (r2 ≤ v2) (zXr (some v1)) (zBd (fX6_isBlind S a0 v2) (fun r6 => zBr (r6 = 0) (zLt (v1 ||| ((1 : Int32) <<< (v2 &&& 31))) (fun x9 => fX6_plantsThatSee_26 S a0 x9 v2)) (fX6_plantsThatSee_26 S a0 v1 v2))))
set_option maxHeartbeats 4000000 in
set_option maxRecDepth 100000 in
theorem kX6_plantsThatSee_4B {p : Program} {l : Launch} {e : Env} {s : State} {m : MethodId} {args : Array Value} {below : List Frame} {meth : Method} {c : Code} {D : va_G} {cy : Nat → ClassId} {q : Nat → Nat} (cx : zX RX6 cX6_plantsThatSee 3 p s m args c D cy) (hr : meth.sig.returnType = (some .int)) (hlk : meth.locks = false) {a0 : Nat} (ha0 : zLife a0) {z : Int32} {S : zSt} {v1 : Int32} {v2 : Int32} {C1 : ((Int32 × Int32) ⊕ Int32) → Prop} (hb1 : ∀ (v1 : Int32) (v2 : Int32), C1 (.inl (v1, v2)) → ∀ (ls : Array Slot), lv_has ls 3 [(0, .ref (q a0)), (1, .int v1), (2, .int v2)] → W p l e rmX6_plantsThatSee s m args below meth c s.heap [] 0 0 (MQ below (vp_Si (fun x => x = z)) args s 0 0 (fun _ => False)) (F0 m 4 ls [])) (hx1 : ∀ a, C1 (.inr a) → a = z) (hP : va_P D vwCl (zW zsh zNC cy q S) s.heap) {x : ((Int32 × Int32) ⊕ Int32)} (h : fX6_plantsThatSee_4 S a0 (v1, v2) = some x) (hc : C1 x) {ls : Array Slot} (hl : lv_has ls 3 [(0, .ref (q a0)), (1, .int v1), (2, .int v2)]) : W p l e rmX6_plantsThatSee s m args below meth c s.heap [] 0 0 (MQ below (vp_Si (fun x => x = z)) args s 0 0 (fun _ => False)) (F0 m 4 ls []) := by
  have hx := cx.1
  have hb := cx.2.1
  unfold fX6_plantsThatSee_4 at h
  dsimp only at h
  refine lv_iload_n (pc := 4) hx hb dX6_plantsThatSee_4 rfl (lv_at hl 2 rfl) ?_
  refine lv_aload_n (pc := 5) hx hb dX6_plantsThatSee_5 rfl (lv_at hl 0 rfl) ?_
  obtain ⟨r2, k1, h⟩ := zBd_e h
  refine zr_VI (pc := 6) (rest := [.int v2]) cx cv_X6_86 (mX6_plants ha0 k1) ⟨⟨rfl, rfl⟩, Nat.le_of_ble_eq_true rfl, Nat.le_of_ble_eq_true rfl⟩ ⟨Nat.le_of_ble_eq_true rfl, Nat.le_of_ble_eq_true rfl⟩ hP (nX6_0 ha0) (sX6_0 ha0) rfl hl.1 rfl rfl (Nat.le_of_ble_eq_true rfl) dX6_plantsThatSee_6 ?_
  refine lv_icmp_ge (pc := 9) (tgt := 32) hx hb dX6_plantsThatSee_9 (by decide) (fun c3 => ?_) (fun c3 => ?_)
  · replace h := zBr_t c3 h
    obtain ⟨y4, h, ex⟩ := zXr_e h
    have hc := hx1 y4 (by rw [ex] at hc; exact hc)
    rw [hc] at h
    refine lv_iload_n (pc := 32) hx hb dX6_plantsThatSee_32 rfl (lv_at hl 1 rfl) ?_
    have hz := Option.some.inj h
    exact zr_reI (pc := 33) cx hr hlk hz dX6_plantsThatSee_33
  · replace h := zBr_f c3 h
    refine lv_aload_n (pc := 12) hx hb dX6_plantsThatSee_12 rfl (lv_at hl 0 rfl) ?_
    refine lv_iload_n (pc := 13) hx hb dX6_plantsThatSee_13 rfl (lv_at hl 2 rfl) ?_
    obtain ⟨r6, k5, h⟩ := zBd_e h
    refine zr_VI (pc := 14) (rest := []) cx cv_X6_69 (mX6_isBlind ha0 k5) ⟨⟨rfl, rfl⟩, Nat.le_of_ble_eq_true rfl, Nat.le_of_ble_eq_true rfl⟩ ⟨Nat.le_of_ble_eq_true rfl, Nat.le_of_ble_eq_true rfl⟩ hP (nX6_0 ha0) (sX6_0 ha0) rfl hl.1 rfl rfl (Nat.le_of_ble_eq_true rfl) dX6_plantsThatSee_14 ?_
    refine lv_if_ne (pc := 17) (tgt := 26) hx hb dX6_plantsThatSee_17 (by decide) (fun c7 => ?_) (fun c7 => ?_)
    · replace h := zBr_f c7 h
      exact kX6_plantsThatSee_26 cx hr hlk ha0 hb1 hx1 hP h hc (lv_sub hl [0, 1, 2] rfl)
    · replace h := zBr_t c7 h
      refine lv_iload_n (pc := 20) hx hb dX6_plantsThatSee_20 rfl (lv_at hl 1 rfl) ?_
      refine lv_iconst (pc := 21) hx hb dX6_plantsThatSee_21 zc_1 ?_
      refine lv_iload_n (pc := 22) hx hb dX6_plantsThatSee_22 rfl (lv_at hl 2 rfl) ?_
      refine lv_ishl (pc := 23) hx hb dX6_plantsThatSee_23 ?_
      refine lv_ior (pc := 24) hx hb dX6_plantsThatSee_24 ?_
      obtain ⟨x9, ex9, h⟩ := zLt_e h
      refine zr_nmI ex9 ?_
      refine lv_istore_n (lv' := [(1, .int x9), (0, .ref (q a0)), (2, .int v2)]) (pc := 25) hx hb dX6_plantsThatSee_25 rfl hl (by decide) rfl (fun ls hl => ?_)
      exact kX6_plantsThatSee_26 cx hr hlk ha0 hb1 hx1 hP h hc (lv_sub hl [1, 0, 2] rfl)
set_option maxHeartbeats 4000000 in
set_option maxRecDepth 100000 in
theorem kX6_plantsThatSee_4 {p : Program} {l : Launch} {e : Env} {s : State} {m : MethodId} {args : Array Value} {below : List Frame} {meth : Method} {c : Code} {D : va_G} {cy : Nat → ClassId} {q : Nat → Nat} (cx : zX RX6 cX6_plantsThatSee 3 p s m args c D cy) (hr : meth.sig.returnType = (some .int)) (hlk : meth.locks = false) {a0 : Nat} (ha0 : zLife a0) {z : Int32} {S : zSt} (hP : va_P D vwCl (zW zsh zNC cy q S) s.heap) : ∀ (n : Nat) (v1 : Int32) (v2 : Int32), zLp (fX6_plantsThatSee_4 S a0) n (v1, v2) = some z → ∀ (ls : Array Slot), lv_has ls 3 [(0, .ref (q a0)), (1, .int v1), (2, .int v2)] → W p l e rmX6_plantsThatSee s m args below meth c s.heap [] 0 0 (MQ below (vp_Si (fun x => x = z)) args s 0 0 (fun _ => False)) (F0 m 4 ls []) := by
  intro n
  induction n with
  | zero =>
    intro v1 v2 h
    cases h
  | succ n ih =>
    intro v1 v2 h ls hl
    obtain ⟨x, h, hk⟩ := zLp_e h
    exact kX6_plantsThatSee_4B cx hr hlk ha0  (C1 := zKt (fun t => zLp (fX6_plantsThatSee_4 S a0) n t = some z) (fun a => a = z)) (fun v1 v2 ht ls hl => ih v1 v2 ht ls hl) (fun a ha => ha) hP h hk hl
def fX6_plantsThatSee (S : zSt) (a0 : Nat) : Option Int32 :=
  zLp (fX6_plantsThatSee_4 S a0) 2000 ((0 : Int32), (0 : Int32))
set_option maxHeartbeats 4000000 in
set_option maxRecDepth 100000 in
theorem mX6_plantsThatSee {l : Launch} {D : va_G} {cy : Nat → ClassId} {q : Nat → Nat} {S : zSt} {a0 : Nat} (ha0 : zLife a0) {z : Int32} (h : fX6_plantsThatSee S a0 = some z) : zMi l yX6_plantsThatSee cX6_plantsThatSee 3 (some .int) rmX6_plantsThatSee [.ref (q a0)] (zPr zsh zNC D cy q S) z := by
  refine Met.ofW (cc := cX6_plantsThatSee) (maxL := 3) (ret := (some .int)) (by decide) rfl ?_
  intro p e s m args below meth c s₁ B hml hv
  obtain ⟨rfl, hP, hK⟩ := hv
  have cx : zX RX6 cX6_plantsThatSee 3 p s m ([.ref (q a0)]).toArray c D cy := ⟨B.exec, B.bytes, hml, findClass_of_methodNamed B.named, fun w hw => atoms_spec (ws := Cond.code yX6_plantsThatSee cX6_plantsThatSee 3 (some .int) :: zTB) B.pre w (List.mem_cons_of_mem _ hw), hK⟩
  have hx := cx.1
  have hb := cx.2.1
  have hr := B.returns
  have hlk := B.notSynchronized
  have hl := lv_entry ([.ref (q a0)]) (n := 3) (Nat.le_of_ble_eq_true rfl)
  rw [lg_entry_eq]
  generalize (lg_sl ([.ref (q a0)]) ++ List.replicate (3 - (lg_sl ([.ref (q a0)])).length) Slot.unset).toArray = ls at hl ⊢
  have hl : lv_has ls 3 [(0, .ref (q a0))] := hl
  unfold fX6_plantsThatSee at h
  refine lv_iconst (pc := 0) hx hb dX6_plantsThatSee_0 zc_0 ?_
  refine lv_istore_n (lv' := [(1, .int (0 : Int32)), (0, .ref (q a0))]) (pc := 1) hx hb dX6_plantsThatSee_1 rfl hl (by decide) rfl (fun ls hl => ?_)
  refine lv_iconst (pc := 2) hx hb dX6_plantsThatSee_2 zc_0 ?_
  refine lv_istore_n (lv' := [(2, .int (0 : Int32)), (1, .int (0 : Int32)), (0, .ref (q a0))]) (pc := 3) hx hb dX6_plantsThatSee_3 rfl hl (by decide) rfl (fun ls hl => ?_)
  exact kX6_plantsThatSee_4 cx hr hlk ha0 hP 2000 _ _ h _ (lv_sub hl [2, 1, 0] rfl)
