theorem wd_15 : (Jvm.Cond.initialized "ParlourLeaves$Way") ∈ zTB := List.mem_filter.mpr ⟨List.mem_append_right _ (List.mem_append_left _ (List.mem_of_getElem? (i := 15) rfl)), rfl⟩
theorem wd_21 : (Jvm.Cond.initialized "java/lang/System") ∈ zTB := List.mem_filter.mpr ⟨List.mem_append_right _ (List.mem_append_left _ (List.mem_of_getElem? (i := 21) rfl)), rfl⟩
theorem wd_101 : (Jvm.Cond.fieldLink "ParlourLeaves$BookText" (54 : Nat) "ParlourLeaves$Tape" "token" "I") ∈ zTB := List.mem_filter.mpr ⟨List.mem_append_right _ (List.mem_append_left _ (List.mem_of_getElem? (i := 101) rfl)), rfl⟩
theorem wd_105 : (Jvm.Cond.fieldLink "ParlourLeaves$BookText" (80 : Nat) "ParlourLeaves$Tape" "start" "I") ∈ zTB := List.mem_filter.mpr ⟨List.mem_append_right _ (List.mem_append_left _ (List.mem_of_getElem? (i := 105) rfl)), rfl⟩
theorem wd_112 : (Jvm.Cond.fieldLink "ParlourLeaves" (409 : Nat) "ParlourLeaves$Tape" "faultKind" "I") ∈ zTB := List.mem_filter.mpr ⟨List.mem_append_right _ (List.mem_append_left _ (List.mem_of_getElem? (i := 112) rfl)), rfl⟩
theorem wd_148 : (Jvm.Cond.fieldLink "ParlourLeaves$Way" (42 : Nat) "ParlourLeaves$House" "size" "[I") ∈ zTB := List.mem_filter.mpr ⟨List.mem_append_right _ (List.mem_append_left _ (List.mem_of_getElem? (i := 148) rfl)), rfl⟩
theorem wd_155 : (Jvm.Cond.fieldLink "ParlourLeaves$Way" (37 : Nat) "ParlourLeaves$House" "sight" "[I") ∈ zTB := List.mem_filter.mpr ⟨List.mem_append_right _ (List.mem_append_left _ (List.mem_of_getElem? (i := 155) rfl)), rfl⟩
theorem wd_171 : (Jvm.Cond.fieldLink "ParlourLeaves$House" (31 : Nat) "ParlourLeaves$House" "word" "[J") ∈ zTB := List.mem_filter.mpr ⟨List.mem_append_right _ (List.mem_append_left _ (List.mem_of_getElem? (i := 171) rfl)), rfl⟩
theorem wd_173 : (Jvm.Cond.fieldLink "ParlourLeaves$Tape" (85 : Nat) "ParlourLeaves$House" "wordSort" "[I") ∈ zTB := List.mem_filter.mpr ⟨List.mem_append_right _ (List.mem_append_left _ (List.mem_of_getElem? (i := 173) rfl)), rfl⟩
theorem wd_175 : (Jvm.Cond.fieldLink "ParlourLeaves$Tape" (89 : Nat) "ParlourLeaves$House" "wordNumber" "[I") ∈ zTB := List.mem_filter.mpr ⟨List.mem_append_right _ (List.mem_append_left _ (List.mem_of_getElem? (i := 175) rfl)), rfl⟩
theorem wd_176 : (Jvm.Cond.fieldLink "ParlourLeaves$House" (47 : Nat) "ParlourLeaves$House" "words" "I") ∈ zTB := List.mem_filter.mpr ⟨List.mem_append_right _ (List.mem_append_left _ (List.mem_of_getElem? (i := 176) rfl)), rfl⟩
theorem wd_282 : (Jvm.Cond.fieldLink "ParlourLeaves$Past" (11 : Nat) "ParlourLeaves$Past" "lives" "[LParlourLeaves$Life;") ∈ zTB := List.mem_filter.mpr ⟨List.mem_append_right _ (List.mem_append_right _ (List.mem_append_left _ (List.mem_of_getElem? (i := 42) rfl))), rfl⟩
theorem wd_283 : (Jvm.Cond.fieldLink "ParlourLeaves$Past" (24 : Nat) "ParlourLeaves$Past" "next" "I") ∈ zTB := List.mem_filter.mpr ⟨List.mem_append_right _ (List.mem_append_right _ (List.mem_append_left _ (List.mem_of_getElem? (i := 43) rfl))), rfl⟩
theorem wd_284 : (Jvm.Cond.fieldLink "ParlourLeaves$Past" (20 : Nat) "ParlourLeaves$Past" "kept" "I") ∈ zTB := List.mem_filter.mpr ⟨List.mem_append_right _ (List.mem_append_right _ (List.mem_append_left _ (List.mem_of_getElem? (i := 44) rfl))), rfl⟩
theorem wd_285 : (Jvm.Cond.laysFinal "ParlourLeaves$Past" "ParlourLeaves$Past" "lives" "[LParlourLeaves$Life;") ∈ zTB := List.mem_filter.mpr ⟨List.mem_append_right _ (List.mem_append_right _ (List.mem_append_left _ (List.mem_of_getElem? (i := 45) rfl))), rfl⟩
theorem wd_287 : (Jvm.Cond.lays "ParlourLeaves$Past" "ParlourLeaves$Past" "next" "I") ∈ zTB := List.mem_filter.mpr ⟨List.mem_append_right _ (List.mem_append_right _ (List.mem_append_left _ (List.mem_of_getElem? (i := 47) rfl))), rfl⟩
theorem wd_289 : (Jvm.Cond.lays "ParlourLeaves$Past" "ParlourLeaves$Past" "kept" "I") ∈ zTB := List.mem_filter.mpr ⟨List.mem_append_right _ (List.mem_append_right _ (List.mem_append_left _ (List.mem_of_getElem? (i := 49) rfl))), rfl⟩
theorem wd_374 : (Jvm.Cond.fieldLink "ParlourLeaves$BookText" (37 : Nat) "ParlourLeaves$BookText" "tape" "LParlourLeaves$Tape;") ∈ zTB := List.mem_filter.mpr ⟨List.mem_append_right _ (List.mem_append_right _ (List.mem_append_left _ (List.mem_of_getElem? (i := 134) rfl))), rfl⟩
theorem wd_375 : (Jvm.Cond.fieldLink "ParlourLeaves$BookText" (41 : Nat) "ParlourLeaves$BookText" "house" "LParlourLeaves$House;") ∈ zTB := List.mem_filter.mpr ⟨List.mem_append_right _ (List.mem_append_right _ (List.mem_append_left _ (List.mem_of_getElem? (i := 135) rfl))), rfl⟩
theorem wd_445 : (Jvm.Cond.fieldLink "ParlourLeaves$Way" (11 : Nat) "ParlourLeaves$Way" "queue" "[I") ∈ zTB := List.mem_filter.mpr ⟨List.mem_append_right _ (List.mem_append_right _ (List.mem_append_left _ (List.mem_of_getElem? (i := 205) rfl))), rfl⟩
theorem wd_446 : (Jvm.Cond.fieldLink "ParlourLeaves$Way" (15 : Nat) "ParlourLeaves$Way" "from" "[I") ∈ zTB := List.mem_filter.mpr ⟨List.mem_append_right _ (List.mem_append_right _ (List.mem_append_left _ (List.mem_of_getElem? (i := 206) rfl))), rfl⟩
theorem wd_447 : (Jvm.Cond.fieldLink "ParlourLeaves$Way" (18 : Nat) "ParlourLeaves$Way" "met" "[Z") ∈ zTB := List.mem_filter.mpr ⟨List.mem_append_right _ (List.mem_append_right _ (List.mem_append_left _ (List.mem_of_getElem? (i := 207) rfl))), rfl⟩
theorem wd_448 : (Jvm.Cond.fieldLink "ParlourLeaves$Way" (22 : Nat) "ParlourLeaves$Way" "steps" "[I") ∈ zTB := List.mem_filter.mpr ⟨List.mem_append_right _ (List.mem_append_right _ (List.mem_append_left _ (List.mem_of_getElem? (i := 208) rfl))), rfl⟩
theorem wd_450 : (Jvm.Cond.fieldLink "ParlourLeaves$Way" (33 : Nat) "ParlourLeaves$Way" "length" "I") ∈ zTB := List.mem_filter.mpr ⟨List.mem_append_right _ (List.mem_append_right _ (List.mem_append_left _ (List.mem_of_getElem? (i := 210) rfl))), rfl⟩
theorem wd_452 : (Jvm.Cond.laysFinal "ParlourLeaves$Way" "ParlourLeaves$Way" "queue" "[I") ∈ zTB := List.mem_filter.mpr ⟨List.mem_append_right _ (List.mem_append_right _ (List.mem_append_left _ (List.mem_of_getElem? (i := 212) rfl))), rfl⟩
theorem wd_454 : (Jvm.Cond.laysFinal "ParlourLeaves$Way" "ParlourLeaves$Way" "from" "[I") ∈ zTB := List.mem_filter.mpr ⟨List.mem_append_right _ (List.mem_append_right _ (List.mem_append_left _ (List.mem_of_getElem? (i := 214) rfl))), rfl⟩
theorem wd_456 : (Jvm.Cond.laysFinal "ParlourLeaves$Way" "ParlourLeaves$Way" "met" "[Z") ∈ zTB := List.mem_filter.mpr ⟨List.mem_append_right _ (List.mem_append_right _ (List.mem_append_left _ (List.mem_of_getElem? (i := 216) rfl))), rfl⟩
theorem wd_458 : (Jvm.Cond.laysFinal "ParlourLeaves$Way" "ParlourLeaves$Way" "steps" "[I") ∈ zTB := List.mem_filter.mpr ⟨List.mem_append_right _ (List.mem_append_right _ (List.mem_append_left _ (List.mem_of_getElem? (i := 218) rfl))), rfl⟩
theorem wd_460 : (Jvm.Cond.lays "ParlourLeaves$Way" "ParlourLeaves$Way" "length" "I") ∈ zTB := List.mem_filter.mpr ⟨List.mem_append_right _ (List.mem_append_right _ (List.mem_append_left _ (List.mem_of_getElem? (i := 220) rfl))), rfl⟩
theorem wd_504 : (Jvm.Cond.fieldLink "ParlourLeaves" (10 : Nat) "ParlourLeaves" "tape" "LParlourLeaves$Tape;") ∈ zTB := List.mem_filter.mpr ⟨List.mem_append_right _ (List.mem_append_right _ (List.mem_append_right _ (List.mem_append_left _ (List.mem_of_getElem? (i := 24) rfl)))), rfl⟩
theorem wd_518 : (Jvm.Cond.fieldLink "ParlourLeaves" (146 : Nat) "ParlourLeaves" "faultKind" "I") ∈ zTB := List.mem_filter.mpr ⟨List.mem_append_right _ (List.mem_append_right _ (List.mem_append_right _ (List.mem_append_left _ (List.mem_of_getElem? (i := 38) rfl)))), rfl⟩
theorem wd_519 : (Jvm.Cond.fieldLink "ParlourLeaves" (107 : Nat) "ParlourLeaves" "asked" "I") ∈ zTB := List.mem_filter.mpr ⟨List.mem_append_right _ (List.mem_append_right _ (List.mem_append_right _ (List.mem_append_left _ (List.mem_of_getElem? (i := 39) rfl)))), rfl⟩
theorem wd_521 : (Jvm.Cond.laysFinal "ParlourLeaves" "ParlourLeaves" "tape" "LParlourLeaves$Tape;") ∈ zTB := List.mem_filter.mpr ⟨List.mem_append_right _ (List.mem_append_right _ (List.mem_append_right _ (List.mem_append_left _ (List.mem_of_getElem? (i := 41) rfl)))), rfl⟩
theorem wd_523 : (Jvm.Cond.laysFinal "ParlourLeaves" "ParlourLeaves" "house" "LParlourLeaves$House;") ∈ zTB := List.mem_filter.mpr ⟨List.mem_append_right _ (List.mem_append_right _ (List.mem_append_right _ (List.mem_append_left _ (List.mem_of_getElem? (i := 43) rfl)))), rfl⟩
theorem wd_525 : (Jvm.Cond.laysFinal "ParlourLeaves" "ParlourLeaves" "life" "LParlourLeaves$Life;") ∈ zTB := List.mem_filter.mpr ⟨List.mem_append_right _ (List.mem_append_right _ (List.mem_append_right _ (List.mem_append_left _ (List.mem_of_getElem? (i := 45) rfl)))), rfl⟩
theorem wd_527 : (Jvm.Cond.laysFinal "ParlourLeaves" "ParlourLeaves" "trial" "LParlourLeaves$Life;") ∈ zTB := List.mem_filter.mpr ⟨List.mem_append_right _ (List.mem_append_right _ (List.mem_append_right _ (List.mem_append_left _ (List.mem_of_getElem? (i := 47) rfl)))), rfl⟩
theorem wd_529 : (Jvm.Cond.laysFinal "ParlourLeaves" "ParlourLeaves" "past" "LParlourLeaves$Past;") ∈ zTB := List.mem_filter.mpr ⟨List.mem_append_right _ (List.mem_append_right _ (List.mem_append_right _ (List.mem_append_left _ (List.mem_of_getElem? (i := 49) rfl)))), rfl⟩
theorem wd_531 : (Jvm.Cond.laysFinal "ParlourLeaves" "ParlourLeaves" "images" "[LParlourLeaves$Image;") ∈ zTB := List.mem_filter.mpr ⟨List.mem_append_right _ (List.mem_append_right _ (List.mem_append_right _ (List.mem_append_left _ (List.mem_of_getElem? (i := 51) rfl)))), rfl⟩
theorem wd_533 : (Jvm.Cond.laysFinal "ParlourLeaves" "ParlourLeaves" "houseText" "LParlourLeaves$HouseText;") ∈ zTB := List.mem_filter.mpr ⟨List.mem_append_right _ (List.mem_append_right _ (List.mem_append_right _ (List.mem_append_left _ (List.mem_of_getElem? (i := 53) rfl)))), rfl⟩
theorem wd_535 : (Jvm.Cond.laysFinal "ParlourLeaves" "ParlourLeaves" "bookText" "LParlourLeaves$BookText;") ∈ zTB := List.mem_filter.mpr ⟨List.mem_append_right _ (List.mem_append_right _ (List.mem_append_right _ (List.mem_append_left _ (List.mem_of_getElem? (i := 55) rfl)))), rfl⟩
theorem wd_537 : (Jvm.Cond.laysFinal "ParlourLeaves" "ParlourLeaves" "sentence" "LParlourLeaves$Sentence;") ∈ zTB := List.mem_filter.mpr ⟨List.mem_append_right _ (List.mem_append_right _ (List.mem_append_right _ (List.mem_append_left _ (List.mem_of_getElem? (i := 57) rfl)))), rfl⟩
theorem wd_539 : (Jvm.Cond.laysFinal "ParlourLeaves" "ParlourLeaves" "draftSentence" "LParlourLeaves$Sentence;") ∈ zTB := List.mem_filter.mpr ⟨List.mem_append_right _ (List.mem_append_right _ (List.mem_append_right _ (List.mem_append_left _ (List.mem_of_getElem? (i := 59) rfl)))), rfl⟩
theorem wd_541 : (Jvm.Cond.laysFinal "ParlourLeaves" "ParlourLeaves" "foresight" "LParlourLeaves$Foresight;") ∈ zTB := List.mem_filter.mpr ⟨List.mem_append_right _ (List.mem_append_right _ (List.mem_append_right _ (List.mem_append_left _ (List.mem_of_getElem? (i := 61) rfl)))), rfl⟩
theorem wd_543 : (Jvm.Cond.laysFinal "ParlourLeaves" "ParlourLeaves" "way" "LParlourLeaves$Way;") ∈ zTB := List.mem_filter.mpr ⟨List.mem_append_right _ (List.mem_append_right _ (List.mem_append_right _ (List.mem_append_left _ (List.mem_of_getElem? (i := 63) rfl)))), rfl⟩
theorem wd_545 : (Jvm.Cond.laysFinal "ParlourLeaves" "ParlourLeaves" "draws" "LParlourLeaves$Draws;") ∈ zTB := List.mem_filter.mpr ⟨List.mem_append_right _ (List.mem_append_right _ (List.mem_append_right _ (List.mem_append_left _ (List.mem_of_getElem? (i := 65) rfl)))), rfl⟩
theorem wd_547 : (Jvm.Cond.laysFinal "ParlourLeaves" "ParlourLeaves" "card" "Ljava/lang/StringBuilder;") ∈ zTB := List.mem_filter.mpr ⟨List.mem_append_right _ (List.mem_append_right _ (List.mem_append_right _ (List.mem_append_left _ (List.mem_of_getElem? (i := 67) rfl)))), rfl⟩
theorem wd_549 : (Jvm.Cond.lays "ParlourLeaves" "ParlourLeaves" "faultKind" "I") ∈ zTB := List.mem_filter.mpr ⟨List.mem_append_right _ (List.mem_append_right _ (List.mem_append_right _ (List.mem_append_left _ (List.mem_of_getElem? (i := 69) rfl)))), rfl⟩
theorem wd_551 : (Jvm.Cond.lays "ParlourLeaves" "ParlourLeaves" "asked" "I") ∈ zTB := List.mem_filter.mpr ⟨List.mem_append_right _ (List.mem_append_right _ (List.mem_append_right _ (List.mem_append_left _ (List.mem_of_getElem? (i := 71) rfl)))), rfl⟩
theorem wd_553 : (Jvm.Cond.lays "ParlourLeaves" "ParlourLeaves" "covered" "I") ∈ zTB := List.mem_filter.mpr ⟨List.mem_append_right _ (List.mem_append_right _ (List.mem_append_right _ (List.mem_append_left _ (List.mem_of_getElem? (i := 73) rfl)))), rfl⟩
theorem wd_581 : (Jvm.Cond.instanceMethod ({ cls := "ParlourLeaves$Tape", name := "beginReading", desc := "(I)V" } : Jvm.MethodName)) ∈ zTB := List.mem_filter.mpr ⟨List.mem_append_right _ (List.mem_append_right _ (List.mem_append_right _ (List.mem_append_left _ (List.mem_of_getElem? (i := 101) rfl)))), rfl⟩
theorem wd_582 : (Jvm.Cond.selects "ParlourLeaves$Tape" ({ cls := "ParlourLeaves$Tape", name := "beginReading", desc := "(I)V" } : Jvm.MethodName) ({ cls := "ParlourLeaves$Tape", name := "beginReading", desc := "(I)V" } : Jvm.MethodName)) ∈ zTB := List.mem_filter.mpr ⟨List.mem_append_right _ (List.mem_append_right _ (List.mem_append_right _ (List.mem_append_left _ (List.mem_of_getElem? (i := 102) rfl)))), rfl⟩
theorem wd_583 : (Jvm.Cond.code ({ cls := "ParlourLeaves$Tape", name := "beginReading", desc := "(I)V" } : Jvm.MethodName) prog_11_method_4_code (2 : Nat) (Option.none : Option Jvm.ClassFile.FieldType)) ∈ zTB := List.mem_filter.mpr ⟨List.mem_append_right _ (List.mem_append_right _ (List.mem_append_right _ (List.mem_append_left _ (List.mem_of_getElem? (i := 103) rfl)))), rfl⟩
theorem wd_584 : (Jvm.Cond.methodLink "ParlourLeaves$Tape" (46 : Nat) ({ cls := "ParlourLeaves$Tape", name := "read", desc := "()V" } : Jvm.MethodName)) ∈ zTB := List.mem_filter.mpr ⟨List.mem_append_right _ (List.mem_append_right _ (List.mem_append_right _ (List.mem_append_left _ (List.mem_of_getElem? (i := 104) rfl)))), rfl⟩
theorem wd_585 : (Jvm.Cond.instanceMethod ({ cls := "ParlourLeaves$Tape", name := "read", desc := "()V" } : Jvm.MethodName)) ∈ zTB := List.mem_filter.mpr ⟨List.mem_append_right _ (List.mem_append_right _ (List.mem_append_right _ (List.mem_append_left _ (List.mem_of_getElem? (i := 105) rfl)))), rfl⟩
theorem wd_586 : (Jvm.Cond.selects "ParlourLeaves$Tape" ({ cls := "ParlourLeaves$Tape", name := "read", desc := "()V" } : Jvm.MethodName) ({ cls := "ParlourLeaves$Tape", name := "read", desc := "()V" } : Jvm.MethodName)) ∈ zTB := List.mem_filter.mpr ⟨List.mem_append_right _ (List.mem_append_right _ (List.mem_append_right _ (List.mem_append_left _ (List.mem_of_getElem? (i := 106) rfl)))), rfl⟩
theorem wd_587 : (Jvm.Cond.code ({ cls := "ParlourLeaves$Tape", name := "read", desc := "()V" } : Jvm.MethodName) prog_11_method_5_code (4 : Nat) (Option.none : Option Jvm.ClassFile.FieldType)) ∈ zTB := List.mem_filter.mpr ⟨List.mem_append_right _ (List.mem_append_right _ (List.mem_append_right _ (List.mem_append_left _ (List.mem_of_getElem? (i := 107) rfl)))), rfl⟩
theorem wd_610 : (Jvm.Cond.instanceMethod ({ cls := "ParlourLeaves$Tape", name := "fail", desc := "(I)Z" } : Jvm.MethodName)) ∈ zTB := List.mem_filter.mpr ⟨List.mem_append_right _ (List.mem_append_right _ (List.mem_append_right _ (List.mem_append_left _ (List.mem_of_getElem? (i := 130) rfl)))), rfl⟩
theorem wd_611 : (Jvm.Cond.selects "ParlourLeaves$Tape" ({ cls := "ParlourLeaves$Tape", name := "fail", desc := "(I)Z" } : Jvm.MethodName) ({ cls := "ParlourLeaves$Tape", name := "fail", desc := "(I)Z" } : Jvm.MethodName)) ∈ zTB := List.mem_filter.mpr ⟨List.mem_append_right _ (List.mem_append_right _ (List.mem_append_right _ (List.mem_append_left _ (List.mem_of_getElem? (i := 131) rfl)))), rfl⟩
theorem wd_612 : (Jvm.Cond.code ({ cls := "ParlourLeaves$Tape", name := "fail", desc := "(I)Z" } : Jvm.MethodName) prog_11_method_8_code (2 : Nat) (Option.some Jvm.ClassFile.FieldType.boolean)) ∈ zTB := List.mem_filter.mpr ⟨List.mem_append_right _ (List.mem_append_right _ (List.mem_append_right _ (List.mem_append_left _ (List.mem_of_getElem? (i := 132) rfl)))), rfl⟩
theorem wd_619 : (Jvm.Cond.instanceMethod ({ cls := "ParlourLeaves$House", name := "placeOfWord", desc := "(J)I" } : Jvm.MethodName)) ∈ zTB := List.mem_filter.mpr ⟨List.mem_append_right _ (List.mem_append_right _ (List.mem_append_right _ (List.mem_append_left _ (List.mem_of_getElem? (i := 139) rfl)))), rfl⟩
theorem wd_620 : (Jvm.Cond.selects "ParlourLeaves$House" ({ cls := "ParlourLeaves$House", name := "placeOfWord", desc := "(J)I" } : Jvm.MethodName) ({ cls := "ParlourLeaves$House", name := "placeOfWord", desc := "(J)I" } : Jvm.MethodName)) ∈ zTB := List.mem_filter.mpr ⟨List.mem_append_right _ (List.mem_append_right _ (List.mem_append_right _ (List.mem_append_left _ (List.mem_of_getElem? (i := 140) rfl)))), rfl⟩
theorem wd_621 : (Jvm.Cond.code ({ cls := "ParlourLeaves$House", name := "placeOfWord", desc := "(J)I" } : Jvm.MethodName) prog_5_method_6_code (4 : Nat) (Option.some Jvm.ClassFile.FieldType.int)) ∈ zTB := List.mem_filter.mpr ⟨List.mem_append_right _ (List.mem_append_right _ (List.mem_append_right _ (List.mem_append_left _ (List.mem_of_getElem? (i := 141) rfl)))), rfl⟩
theorem wd_631 : (Jvm.Cond.instanceMethod ({ cls := "ParlourLeaves$Tape", name := "takeKnown", desc := "(LParlourLeaves$House;I)I" } : Jvm.MethodName)) ∈ zTB := List.mem_filter.mpr ⟨List.mem_append_right _ (List.mem_append_right _ (List.mem_append_right _ (List.mem_append_left _ (List.mem_of_getElem? (i := 151) rfl)))), rfl⟩
theorem wd_632 : (Jvm.Cond.selects "ParlourLeaves$Tape" ({ cls := "ParlourLeaves$Tape", name := "takeKnown", desc := "(LParlourLeaves$House;I)I" } : Jvm.MethodName) ({ cls := "ParlourLeaves$Tape", name := "takeKnown", desc := "(LParlourLeaves$House;I)I" } : Jvm.MethodName)) ∈ zTB := List.mem_filter.mpr ⟨List.mem_append_right _ (List.mem_append_right _ (List.mem_append_right _ (List.mem_append_left _ (List.mem_of_getElem? (i := 152) rfl)))), rfl⟩
theorem wd_633 : (Jvm.Cond.code ({ cls := "ParlourLeaves$Tape", name := "takeKnown", desc := "(LParlourLeaves$House;I)I" } : Jvm.MethodName) prog_11_method_10_code (4 : Nat) (Option.some Jvm.ClassFile.FieldType.int)) ∈ zTB := List.mem_filter.mpr ⟨List.mem_append_right _ (List.mem_append_right _ (List.mem_append_right _ (List.mem_append_left _ (List.mem_of_getElem? (i := 153) rfl)))), rfl⟩
theorem wd_634 : (Jvm.Cond.methodLink "ParlourLeaves$Tape" (75 : Nat) ({ cls := "ParlourLeaves$Tape", name := "fail", desc := "(I)Z" } : Jvm.MethodName)) ∈ zTB := List.mem_filter.mpr ⟨List.mem_append_right _ (List.mem_append_right _ (List.mem_append_right _ (List.mem_append_left _ (List.mem_of_getElem? (i := 154) rfl)))), rfl⟩
theorem wd_635 : (Jvm.Cond.methodLink "ParlourLeaves$Tape" (79 : Nat) ({ cls := "ParlourLeaves$House", name := "placeOfWord", desc := "(J)I" } : Jvm.MethodName)) ∈ zTB := List.mem_filter.mpr ⟨List.mem_append_right _ (List.mem_append_right _ (List.mem_append_right _ (List.mem_append_left _ (List.mem_of_getElem? (i := 155) rfl)))), rfl⟩
theorem wd_637 : (Jvm.Cond.instanceMethod ({ cls := "ParlourLeaves$Tape", name := "takeNumber", desc := "(II)I" } : Jvm.MethodName)) ∈ zTB := List.mem_filter.mpr ⟨List.mem_append_right _ (List.mem_append_right _ (List.mem_append_right _ (List.mem_append_left _ (List.mem_of_getElem? (i := 157) rfl)))), rfl⟩
theorem wd_638 : (Jvm.Cond.selects "ParlourLeaves$Tape" ({ cls := "ParlourLeaves$Tape", name := "takeNumber", desc := "(II)I" } : Jvm.MethodName) ({ cls := "ParlourLeaves$Tape", name := "takeNumber", desc := "(II)I" } : Jvm.MethodName)) ∈ zTB := List.mem_filter.mpr ⟨List.mem_append_right _ (List.mem_append_right _ (List.mem_append_right _ (List.mem_append_left _ (List.mem_of_getElem? (i := 158) rfl)))), rfl⟩
theorem wd_639 : (Jvm.Cond.code ({ cls := "ParlourLeaves$Tape", name := "takeNumber", desc := "(II)I" } : Jvm.MethodName) prog_11_method_12_code (4 : Nat) (Option.some Jvm.ClassFile.FieldType.int)) ∈ zTB := List.mem_filter.mpr ⟨List.mem_append_right _ (List.mem_append_right _ (List.mem_append_right _ (List.mem_append_left _ (List.mem_of_getElem? (i := 159) rfl)))), rfl⟩
theorem wd_661 : (Jvm.Cond.instanceMethod ({ cls := "ParlourLeaves$Tape", name := "take", desc := "(I)Z" } : Jvm.MethodName)) ∈ zTB := List.mem_filter.mpr ⟨List.mem_append_right _ (List.mem_append_right _ (List.mem_append_right _ (List.mem_append_left _ (List.mem_of_getElem? (i := 181) rfl)))), rfl⟩
theorem wd_662 : (Jvm.Cond.selects "ParlourLeaves$Tape" ({ cls := "ParlourLeaves$Tape", name := "take", desc := "(I)Z" } : Jvm.MethodName) ({ cls := "ParlourLeaves$Tape", name := "take", desc := "(I)Z" } : Jvm.MethodName)) ∈ zTB := List.mem_filter.mpr ⟨List.mem_append_right _ (List.mem_append_right _ (List.mem_append_right _ (List.mem_append_left _ (List.mem_of_getElem? (i := 182) rfl)))), rfl⟩
theorem wd_663 : (Jvm.Cond.code ({ cls := "ParlourLeaves$Tape", name := "take", desc := "(I)Z" } : Jvm.MethodName) prog_11_method_9_code (2 : Nat) (Option.some Jvm.ClassFile.FieldType.boolean)) ∈ zTB := List.mem_filter.mpr ⟨List.mem_append_right _ (List.mem_append_right _ (List.mem_append_right _ (List.mem_append_left _ (List.mem_of_getElem? (i := 183) rfl)))), rfl⟩
theorem wd_668 : (Jvm.Cond.methodLink "ParlourLeaves" (294 : Nat) ({ cls := "ParlourLeaves$Tape", name := "clear", desc := "()V" } : Jvm.MethodName)) ∈ zTB := List.mem_filter.mpr ⟨List.mem_append_right _ (List.mem_append_right _ (List.mem_append_right _ (List.mem_append_left _ (List.mem_of_getElem? (i := 188) rfl)))), rfl⟩
theorem wd_669 : (Jvm.Cond.instanceMethod ({ cls := "ParlourLeaves$Tape", name := "clear", desc := "()V" } : Jvm.MethodName)) ∈ zTB := List.mem_filter.mpr ⟨List.mem_append_right _ (List.mem_append_right _ (List.mem_append_right _ (List.mem_append_left _ (List.mem_of_getElem? (i := 189) rfl)))), rfl⟩
theorem wd_670 : (Jvm.Cond.selects "ParlourLeaves$Tape" ({ cls := "ParlourLeaves$Tape", name := "clear", desc := "()V" } : Jvm.MethodName) ({ cls := "ParlourLeaves$Tape", name := "clear", desc := "()V" } : Jvm.MethodName)) ∈ zTB := List.mem_filter.mpr ⟨List.mem_append_right _ (List.mem_append_right _ (List.mem_append_right _ (List.mem_append_left _ (List.mem_of_getElem? (i := 190) rfl)))), rfl⟩
theorem wd_671 : (Jvm.Cond.code ({ cls := "ParlourLeaves$Tape", name := "clear", desc := "()V" } : Jvm.MethodName) prog_11_method_3_code (1 : Nat) (Option.none : Option Jvm.ClassFile.FieldType)) ∈ zTB := List.mem_filter.mpr ⟨List.mem_append_right _ (List.mem_append_right _ (List.mem_append_right _ (List.mem_append_left _ (List.mem_of_getElem? (i := 191) rfl)))), rfl⟩
theorem wd_677 : (Jvm.Cond.static ({ cls := "java/lang/System", name := "arraycopy", desc := "(Ljava/lang/Object;ILjava/lang/Object;II)V" } : Jvm.MethodName)) ∈ zTB := List.mem_filter.mpr ⟨List.mem_append_right _ (List.mem_append_right _ (List.mem_append_right _ (List.mem_append_left _ (List.mem_of_getElem? (i := 197) rfl)))), rfl⟩
theorem wd_678 : (Jvm.Cond.native ({ cls := "java/lang/System", name := "arraycopy", desc := "(Ljava/lang/Object;ILjava/lang/Object;II)V" } : Jvm.MethodName)) ∈ zTB := List.mem_filter.mpr ⟨List.mem_append_right _ (List.mem_append_right _ (List.mem_append_right _ (List.mem_append_left _ (List.mem_of_getElem? (i := 198) rfl)))), rfl⟩
theorem wd_792 : (Jvm.Cond.methodLink "ParlourLeaves$Past" (27 : Nat) ({ cls := "ParlourLeaves$Life", name := "copyFrom", desc := "(LParlourLeaves$Life;)V" } : Jvm.MethodName)) ∈ zTB := List.mem_filter.mpr ⟨List.mem_append_right _ (List.mem_append_right _ (List.mem_append_right _ (List.mem_append_right _ (List.mem_append_left _ (List.mem_of_getElem? (i := 72) rfl))))), rfl⟩
theorem wd_793 : (Jvm.Cond.instanceMethod ({ cls := "ParlourLeaves$Life", name := "copyFrom", desc := "(LParlourLeaves$Life;)V" } : Jvm.MethodName)) ∈ zTB := List.mem_filter.mpr ⟨List.mem_append_right _ (List.mem_append_right _ (List.mem_append_right _ (List.mem_append_right _ (List.mem_append_left _ (List.mem_of_getElem? (i := 73) rfl))))), rfl⟩
theorem wd_794 : (Jvm.Cond.selects "ParlourLeaves$Life" ({ cls := "ParlourLeaves$Life", name := "copyFrom", desc := "(LParlourLeaves$Life;)V" } : Jvm.MethodName) ({ cls := "ParlourLeaves$Life", name := "copyFrom", desc := "(LParlourLeaves$Life;)V" } : Jvm.MethodName)) ∈ zTB := List.mem_filter.mpr ⟨List.mem_append_right _ (List.mem_append_right _ (List.mem_append_right _ (List.mem_append_right _ (List.mem_append_left _ (List.mem_of_getElem? (i := 74) rfl))))), rfl⟩
theorem wd_795 : (Jvm.Cond.code ({ cls := "ParlourLeaves$Life", name := "copyFrom", desc := "(LParlourLeaves$Life;)V" } : Jvm.MethodName) prog_8_method_3_code (3 : Nat) (Option.none : Option Jvm.ClassFile.FieldType)) ∈ zTB := List.mem_filter.mpr ⟨List.mem_append_right _ (List.mem_append_right _ (List.mem_append_right _ (List.mem_append_right _ (List.mem_append_left _ (List.mem_of_getElem? (i := 75) rfl))))), rfl⟩
theorem wd_796 : (Jvm.Cond.methodLink "ParlourLeaves$Life" (54 : Nat) ({ cls := "java/lang/System", name := "arraycopy", desc := "(Ljava/lang/Object;ILjava/lang/Object;II)V" } : Jvm.MethodName)) ∈ zTB := List.mem_filter.mpr ⟨List.mem_append_right _ (List.mem_append_right _ (List.mem_append_right _ (List.mem_append_right _ (List.mem_append_left _ (List.mem_of_getElem? (i := 76) rfl))))), rfl⟩
theorem wd_797 : (Jvm.Cond.methodLink "ParlourLeaves$Past" (31 : Nat) ({ cls := "java/lang/Math", name := "min", desc := "(II)I" } : Jvm.MethodName)) ∈ zTB := List.mem_filter.mpr ⟨List.mem_append_right _ (List.mem_append_right _ (List.mem_append_right _ (List.mem_append_right _ (List.mem_append_left _ (List.mem_of_getElem? (i := 77) rfl))))), rfl⟩
theorem wd_951 : (Jvm.Cond.methodLink "ParlourLeaves$Way" (25 : Nat) ({ cls := "ParlourLeaves$Way", name := "state", desc := "(II)I" } : Jvm.MethodName)) ∈ zTB := List.mem_filter.mpr ⟨List.mem_append_right _ (List.mem_append_right _ (List.mem_append_right _ (List.mem_append_right _ (List.mem_append_left _ (List.mem_of_getElem? (i := 231) rfl))))), rfl⟩
theorem wd_952 : (Jvm.Cond.static ({ cls := "ParlourLeaves$Way", name := "state", desc := "(II)I" } : Jvm.MethodName)) ∈ zTB := List.mem_filter.mpr ⟨List.mem_append_right _ (List.mem_append_right _ (List.mem_append_right _ (List.mem_append_right _ (List.mem_append_left _ (List.mem_of_getElem? (i := 232) rfl))))), rfl⟩
theorem wd_953 : (Jvm.Cond.code ({ cls := "ParlourLeaves$Way", name := "state", desc := "(II)I" } : Jvm.MethodName) prog_12_method_3_code (2 : Nat) (Option.some Jvm.ClassFile.FieldType.int)) ∈ zTB := List.mem_filter.mpr ⟨List.mem_append_right _ (List.mem_append_right _ (List.mem_append_right _ (List.mem_append_right _ (List.mem_append_left _ (List.mem_of_getElem? (i := 233) rfl))))), rfl⟩
theorem wd_954 : (Jvm.Cond.methodLink "ParlourLeaves$Way" (29 : Nat) ({ cls := "ParlourLeaves$Way", name := "keepWay", desc := "(I)V" } : Jvm.MethodName)) ∈ zTB := List.mem_filter.mpr ⟨List.mem_append_right _ (List.mem_append_right _ (List.mem_append_right _ (List.mem_append_right _ (List.mem_append_left _ (List.mem_of_getElem? (i := 234) rfl))))), rfl⟩
theorem wd_956 : (Jvm.Cond.instanceMethod ({ cls := "ParlourLeaves$Way", name := "keepWay", desc := "(I)V" } : Jvm.MethodName)) ∈ zTB := List.mem_filter.mpr ⟨List.mem_append_right _ (List.mem_append_right _ (List.mem_append_right _ (List.mem_append_right _ (List.mem_append_left _ (List.mem_of_getElem? (i := 236) rfl))))), rfl⟩
theorem wd_957 : (Jvm.Cond.code ({ cls := "ParlourLeaves$Way", name := "keepWay", desc := "(I)V" } : Jvm.MethodName) prog_12_method_4_code (4 : Nat) (Option.none : Option Jvm.ClassFile.FieldType)) ∈ zTB := List.mem_filter.mpr ⟨List.mem_append_right _ (List.mem_append_right _ (List.mem_append_right _ (List.mem_append_right _ (List.mem_append_left _ (List.mem_of_getElem? (i := 237) rfl))))), rfl⟩
theorem wd_1217 : (Jvm.Cond.methodLink "ParlourLeaves$BookText" (45 : Nat) ({ cls := "ParlourLeaves$Tape", name := "beginReading", desc := "(I)V" } : Jvm.MethodName)) ∈ zTB := List.mem_filter.mpr ⟨List.mem_append_right _ (List.mem_append_right _ (List.mem_append_right _ (List.mem_append_right _ (List.mem_append_right _ (List.mem_append_right _ (List.mem_append_left _ (List.mem_of_getElem? (i := 17) rfl))))))), rfl⟩
theorem wd_1218 : (Jvm.Cond.methodLink "ParlourLeaves$BookText" (57 : Nat) ({ cls := "ParlourLeaves$BookText", name := "readLine", desc := "()Z" } : Jvm.MethodName)) ∈ zTB := List.mem_filter.mpr ⟨List.mem_append_right _ (List.mem_append_right _ (List.mem_append_right _ (List.mem_append_right _ (List.mem_append_right _ (List.mem_append_right _ (List.mem_append_left _ (List.mem_of_getElem? (i := 18) rfl))))))), rfl⟩
theorem wd_1220 : (Jvm.Cond.instanceMethod ({ cls := "ParlourLeaves$BookText", name := "readLine", desc := "()Z" } : Jvm.MethodName)) ∈ zTB := List.mem_filter.mpr ⟨List.mem_append_right _ (List.mem_append_right _ (List.mem_append_right _ (List.mem_append_right _ (List.mem_append_right _ (List.mem_append_right _ (List.mem_append_left _ (List.mem_of_getElem? (i := 20) rfl))))))), rfl⟩
theorem wd_1221 : (Jvm.Cond.code ({ cls := "ParlourLeaves$BookText", name := "readLine", desc := "()Z" } : Jvm.MethodName) prog_2_method_3_code (1 : Nat) (Option.some Jvm.ClassFile.FieldType.boolean)) ∈ zTB := List.mem_filter.mpr ⟨List.mem_append_right _ (List.mem_append_right _ (List.mem_append_right _ (List.mem_append_right _ (List.mem_append_right _ (List.mem_append_right _ (List.mem_append_left _ (List.mem_of_getElem? (i := 21) rfl))))))), rfl⟩
theorem wd_1222 : (Jvm.Cond.methodLink "ParlourLeaves$BookText" (65 : Nat) ({ cls := "ParlourLeaves$BookText", name := "readDoes", desc := "()Z" } : Jvm.MethodName)) ∈ zTB := List.mem_filter.mpr ⟨List.mem_append_right _ (List.mem_append_right _ (List.mem_append_right _ (List.mem_append_right _ (List.mem_append_right _ (List.mem_append_right _ (List.mem_append_left _ (List.mem_of_getElem? (i := 22) rfl))))))), rfl⟩
theorem wd_1224 : (Jvm.Cond.instanceMethod ({ cls := "ParlourLeaves$BookText", name := "readDoes", desc := "()Z" } : Jvm.MethodName)) ∈ zTB := List.mem_filter.mpr ⟨List.mem_append_right _ (List.mem_append_right _ (List.mem_append_right _ (List.mem_append_right _ (List.mem_append_right _ (List.mem_append_right _ (List.mem_append_left _ (List.mem_of_getElem? (i := 24) rfl))))))), rfl⟩
theorem wd_1225 : (Jvm.Cond.code ({ cls := "ParlourLeaves$BookText", name := "readDoes", desc := "()Z" } : Jvm.MethodName) prog_2_method_5_code (5 : Nat) (Option.some Jvm.ClassFile.FieldType.boolean)) ∈ zTB := List.mem_filter.mpr ⟨List.mem_append_right _ (List.mem_append_right _ (List.mem_append_right _ (List.mem_append_right _ (List.mem_append_right _ (List.mem_append_right _ (List.mem_append_left _ (List.mem_of_getElem? (i := 25) rfl))))))), rfl⟩
theorem wd_1226 : (Jvm.Cond.methodLink "ParlourLeaves$BookText" (83 : Nat) ({ cls := "ParlourLeaves$Tape", name := "takeKnown", desc := "(LParlourLeaves$House;I)I" } : Jvm.MethodName)) ∈ zTB := List.mem_filter.mpr ⟨List.mem_append_right _ (List.mem_append_right _ (List.mem_append_right _ (List.mem_append_right _ (List.mem_append_right _ (List.mem_append_right _ (List.mem_append_left _ (List.mem_of_getElem? (i := 26) rfl))))))), rfl⟩
theorem wd_1227 : (Jvm.Cond.methodLink "ParlourLeaves$BookText" (87 : Nat) ({ cls := "ParlourLeaves$Tape", name := "failAt", desc := "(II)Z" } : Jvm.MethodName)) ∈ zTB := List.mem_filter.mpr ⟨List.mem_append_right _ (List.mem_append_right _ (List.mem_append_right _ (List.mem_append_right _ (List.mem_append_right _ (List.mem_append_right _ (List.mem_append_left _ (List.mem_of_getElem? (i := 27) rfl))))))), rfl⟩
theorem wd_1228 : (Jvm.Cond.methodLink "ParlourLeaves$BookText" (61 : Nat) ({ cls := "ParlourLeaves$Tape", name := "take", desc := "(I)Z" } : Jvm.MethodName)) ∈ zTB := List.mem_filter.mpr ⟨List.mem_append_right _ (List.mem_append_right _ (List.mem_append_right _ (List.mem_append_right _ (List.mem_append_right _ (List.mem_append_right _ (List.mem_append_left _ (List.mem_of_getElem? (i := 28) rfl))))))), rfl⟩
theorem wd_1229 : (Jvm.Cond.methodLink "ParlourLeaves$BookText" (91 : Nat) ({ cls := "ParlourLeaves$BookText", name := "addLine", desc := "(IIII)Z" } : Jvm.MethodName)) ∈ zTB := List.mem_filter.mpr ⟨List.mem_append_right _ (List.mem_append_right _ (List.mem_append_right _ (List.mem_append_right _ (List.mem_append_right _ (List.mem_append_right _ (List.mem_append_left _ (List.mem_of_getElem? (i := 29) rfl))))))), rfl⟩
theorem wd_1231 : (Jvm.Cond.instanceMethod ({ cls := "ParlourLeaves$BookText", name := "addLine", desc := "(IIII)Z" } : Jvm.MethodName)) ∈ zTB := List.mem_filter.mpr ⟨List.mem_append_right _ (List.mem_append_right _ (List.mem_append_right _ (List.mem_append_right _ (List.mem_append_right _ (List.mem_append_right _ (List.mem_append_left _ (List.mem_of_getElem? (i := 31) rfl))))))), rfl⟩
theorem wd_1232 : (Jvm.Cond.code ({ cls := "ParlourLeaves$BookText", name := "addLine", desc := "(IIII)Z" } : Jvm.MethodName) prog_2_method_4_code (5 : Nat) (Option.some Jvm.ClassFile.FieldType.boolean)) ∈ zTB := List.mem_filter.mpr ⟨List.mem_append_right _ (List.mem_append_right _ (List.mem_append_right _ (List.mem_append_right _ (List.mem_append_right _ (List.mem_append_right _ (List.mem_append_left _ (List.mem_of_getElem? (i := 32) rfl))))))), rfl⟩
theorem wd_1233 : (Jvm.Cond.methodLink "ParlourLeaves$BookText" (68 : Nat) ({ cls := "ParlourLeaves$BookText", name := "readSponge", desc := "()Z" } : Jvm.MethodName)) ∈ zTB := List.mem_filter.mpr ⟨List.mem_append_right _ (List.mem_append_right _ (List.mem_append_right _ (List.mem_append_right _ (List.mem_append_right _ (List.mem_append_right _ (List.mem_append_left _ (List.mem_of_getElem? (i := 33) rfl))))))), rfl⟩
theorem wd_1235 : (Jvm.Cond.instanceMethod ({ cls := "ParlourLeaves$BookText", name := "readSponge", desc := "()Z" } : Jvm.MethodName)) ∈ zTB := List.mem_filter.mpr ⟨List.mem_append_right _ (List.mem_append_right _ (List.mem_append_right _ (List.mem_append_right _ (List.mem_append_right _ (List.mem_append_right _ (List.mem_append_left _ (List.mem_of_getElem? (i := 35) rfl))))))), rfl⟩
theorem wd_1236 : (Jvm.Cond.code ({ cls := "ParlourLeaves$BookText", name := "readSponge", desc := "()Z" } : Jvm.MethodName) prog_2_method_6_code (2 : Nat) (Option.some Jvm.ClassFile.FieldType.boolean)) ∈ zTB := List.mem_filter.mpr ⟨List.mem_append_right _ (List.mem_append_right _ (List.mem_append_right _ (List.mem_append_right _ (List.mem_append_right _ (List.mem_append_right _ (List.mem_append_left _ (List.mem_of_getElem? (i := 36) rfl))))))), rfl⟩
theorem wd_1237 : (Jvm.Cond.methodLink "ParlourLeaves$BookText" (77 : Nat) ({ cls := "ParlourLeaves$Tape", name := "fail", desc := "(I)Z" } : Jvm.MethodName)) ∈ zTB := List.mem_filter.mpr ⟨List.mem_append_right _ (List.mem_append_right _ (List.mem_append_right _ (List.mem_append_right _ (List.mem_append_right _ (List.mem_append_right _ (List.mem_append_left _ (List.mem_of_getElem? (i := 37) rfl))))))), rfl⟩
theorem wd_1238 : (Jvm.Cond.methodLink "ParlourLeaves$BookText" (95 : Nat) ({ cls := "ParlourLeaves$Tape", name := "read", desc := "()V" } : Jvm.MethodName)) ∈ zTB := List.mem_filter.mpr ⟨List.mem_append_right _ (List.mem_append_right _ (List.mem_append_right _ (List.mem_append_right _ (List.mem_append_right _ (List.mem_append_right _ (List.mem_append_left _ (List.mem_of_getElem? (i := 38) rfl))))))), rfl⟩
theorem wd_1239 : (Jvm.Cond.methodLink "ParlourLeaves$BookText" (71 : Nat) ({ cls := "ParlourLeaves$BookText", name := "readCarry", desc := "()Z" } : Jvm.MethodName)) ∈ zTB := List.mem_filter.mpr ⟨List.mem_append_right _ (List.mem_append_right _ (List.mem_append_right _ (List.mem_append_right _ (List.mem_append_right _ (List.mem_append_right _ (List.mem_append_left _ (List.mem_of_getElem? (i := 39) rfl))))))), rfl⟩
theorem wd_1241 : (Jvm.Cond.instanceMethod ({ cls := "ParlourLeaves$BookText", name := "readCarry", desc := "()Z" } : Jvm.MethodName)) ∈ zTB := List.mem_filter.mpr ⟨List.mem_append_right _ (List.mem_append_right _ (List.mem_append_right _ (List.mem_append_right _ (List.mem_append_right _ (List.mem_append_right _ (List.mem_append_left _ (List.mem_of_getElem? (i := 41) rfl))))))), rfl⟩
theorem wd_1242 : (Jvm.Cond.code ({ cls := "ParlourLeaves$BookText", name := "readCarry", desc := "()Z" } : Jvm.MethodName) prog_2_method_7_code (3 : Nat) (Option.some Jvm.ClassFile.FieldType.boolean)) ∈ zTB := List.mem_filter.mpr ⟨List.mem_append_right _ (List.mem_append_right _ (List.mem_append_right _ (List.mem_append_right _ (List.mem_append_right _ (List.mem_append_right _ (List.mem_append_left _ (List.mem_of_getElem? (i := 42) rfl))))))), rfl⟩
theorem wd_1243 : (Jvm.Cond.methodLink "ParlourLeaves$BookText" (74 : Nat) ({ cls := "ParlourLeaves$BookText", name := "readDay", desc := "()Z" } : Jvm.MethodName)) ∈ zTB := List.mem_filter.mpr ⟨List.mem_append_right _ (List.mem_append_right _ (List.mem_append_right _ (List.mem_append_right _ (List.mem_append_right _ (List.mem_append_right _ (List.mem_append_left _ (List.mem_of_getElem? (i := 43) rfl))))))), rfl⟩
theorem wd_1245 : (Jvm.Cond.instanceMethod ({ cls := "ParlourLeaves$BookText", name := "readDay", desc := "()Z" } : Jvm.MethodName)) ∈ zTB := List.mem_filter.mpr ⟨List.mem_append_right _ (List.mem_append_right _ (List.mem_append_right _ (List.mem_append_right _ (List.mem_append_right _ (List.mem_append_right _ (List.mem_append_left _ (List.mem_of_getElem? (i := 45) rfl))))))), rfl⟩
theorem wd_1246 : (Jvm.Cond.code ({ cls := "ParlourLeaves$BookText", name := "readDay", desc := "()Z" } : Jvm.MethodName) prog_2_method_8_code (2 : Nat) (Option.some Jvm.ClassFile.FieldType.boolean)) ∈ zTB := List.mem_filter.mpr ⟨List.mem_append_right _ (List.mem_append_right _ (List.mem_append_right _ (List.mem_append_right _ (List.mem_append_right _ (List.mem_append_right _ (List.mem_append_left _ (List.mem_of_getElem? (i := 46) rfl))))))), rfl⟩
theorem wd_1247 : (Jvm.Cond.methodLink "ParlourLeaves$BookText" (98 : Nat) ({ cls := "ParlourLeaves$Tape", name := "takeNumber", desc := "(II)I" } : Jvm.MethodName)) ∈ zTB := List.mem_filter.mpr ⟨List.mem_append_right _ (List.mem_append_right _ (List.mem_append_right _ (List.mem_append_right _ (List.mem_append_right _ (List.mem_append_right _ (List.mem_append_left _ (List.mem_of_getElem? (i := 47) rfl))))))), rfl⟩
theorem wp_2_0 : Cond.selects "ParlourLeaves$BookText" (⟨"ParlourLeaves$BookText", "addLine", "(IIII)Z"⟩ : MethodName) (⟨"ParlourLeaves$BookText", "addLine", "(IIII)Z"⟩ : MethodName) ∈ zTB := List.mem_filter.mpr ⟨List.mem_append_left _ (List.mem_map.mpr ⟨((⟨"ParlourLeaves$BookText", "addLine", "(IIII)Z"⟩ : MethodName), 11), (List.mem_append_right _ (List.mem_append_left _ (List.mem_of_getElem? (i := 0) rfl))), rfl⟩), rfl⟩
theorem wp_2_2 : Cond.selects "ParlourLeaves$BookText" (⟨"ParlourLeaves$BookText", "readCarry", "()Z"⟩ : MethodName) (⟨"ParlourLeaves$BookText", "readCarry", "()Z"⟩ : MethodName) ∈ zTB := List.mem_filter.mpr ⟨List.mem_append_left _ (List.mem_map.mpr ⟨((⟨"ParlourLeaves$BookText", "readCarry", "()Z"⟩ : MethodName), 11), (List.mem_append_right _ (List.mem_append_left _ (List.mem_of_getElem? (i := 2) rfl))), rfl⟩), rfl⟩
theorem wp_2_3 : Cond.selects "ParlourLeaves$BookText" (⟨"ParlourLeaves$BookText", "readDay", "()Z"⟩ : MethodName) (⟨"ParlourLeaves$BookText", "readDay", "()Z"⟩ : MethodName) ∈ zTB := List.mem_filter.mpr ⟨List.mem_append_left _ (List.mem_map.mpr ⟨((⟨"ParlourLeaves$BookText", "readDay", "()Z"⟩ : MethodName), 11), (List.mem_append_right _ (List.mem_append_left _ (List.mem_of_getElem? (i := 3) rfl))), rfl⟩), rfl⟩
theorem wp_1_15 : Cond.selects "ParlourLeaves$BookText" (⟨"ParlourLeaves$BookText", "readDoes", "()Z"⟩ : MethodName) (⟨"ParlourLeaves$BookText", "readDoes", "()Z"⟩ : MethodName) ∈ zTB := List.mem_filter.mpr ⟨List.mem_append_left _ (List.mem_map.mpr ⟨((⟨"ParlourLeaves$BookText", "readDoes", "()Z"⟩ : MethodName), 11), (List.mem_append_left _ (List.mem_of_getElem? (i := 15) rfl)), rfl⟩), rfl⟩
theorem wp_1_14 : Cond.selects "ParlourLeaves$BookText" (⟨"ParlourLeaves$BookText", "readLine", "()Z"⟩ : MethodName) (⟨"ParlourLeaves$BookText", "readLine", "()Z"⟩ : MethodName) ∈ zTB := List.mem_filter.mpr ⟨List.mem_append_left _ (List.mem_map.mpr ⟨((⟨"ParlourLeaves$BookText", "readLine", "()Z"⟩ : MethodName), 11), (List.mem_append_left _ (List.mem_of_getElem? (i := 14) rfl)), rfl⟩), rfl⟩
theorem wp_2_1 : Cond.selects "ParlourLeaves$BookText" (⟨"ParlourLeaves$BookText", "readSponge", "()Z"⟩ : MethodName) (⟨"ParlourLeaves$BookText", "readSponge", "()Z"⟩ : MethodName) ∈ zTB := List.mem_filter.mpr ⟨List.mem_append_left _ (List.mem_map.mpr ⟨((⟨"ParlourLeaves$BookText", "readSponge", "()Z"⟩ : MethodName), 11), (List.mem_append_right _ (List.mem_append_left _ (List.mem_of_getElem? (i := 1) rfl))), rfl⟩), rfl⟩
theorem wp_1_9 : Cond.selects "ParlourLeaves$Way" (⟨"ParlourLeaves$Way", "keepWay", "(I)V"⟩ : MethodName) (⟨"ParlourLeaves$Way", "keepWay", "(I)V"⟩ : MethodName) ∈ zTB := List.mem_filter.mpr ⟨List.mem_append_left _ (List.mem_map.mpr ⟨((⟨"ParlourLeaves$Way", "keepWay", "(I)V"⟩ : MethodName), 5), (List.mem_append_left _ (List.mem_of_getElem? (i := 9) rfl)), rfl⟩), rfl⟩
theorem dn_X3_placeOfWord : zDn yX3_placeOfWord 1 := ⟨by decide, by decide, by decide +kernel⟩
theorem dn_X9_fail : zDn yX9_fail 1 := ⟨by decide, by decide, by decide +kernel⟩
theorem dn_X9_read : zDn yX9_read 0 := ⟨by decide, by decide, by decide +kernel⟩
theorem dn_X9_takeKnown : zDn yX9_takeKnown 2 := ⟨by decide, by decide, by decide +kernel⟩
theorem dn_X0_addLine : zDn yX0_addLine 4 := ⟨by decide, by decide, by decide +kernel⟩
theorem zb_60 : (Int8.ofInt (60)).toInt32 = (60 : Int32) := by decide
theorem dn_X9_takeNumber : zDn yX9_takeNumber 2 := ⟨by decide, by decide, by decide +kernel⟩
theorem zb_11 : (Int8.ofInt (11)).toInt32 = (11 : Int32) := by decide
theorem dn_X9_take : zDn yX9_take 1 := ⟨by decide, by decide, by decide +kernel⟩
theorem zb_9 : (Int8.ofInt (9)).toInt32 = (9 : Int32) := by decide
theorem dn_X0_readSponge : zDn yX0_readSponge 0 := ⟨by decide, by decide, by decide +kernel⟩
theorem dn_X0_readCarry : zDn yX0_readCarry 0 := ⟨by decide, by decide, by decide +kernel⟩
theorem dn_X0_readDay : zDn yX0_readDay 0 := ⟨by decide, by decide, by decide +kernel⟩
theorem dn_X0_readDoes : zDn yX0_readDoes 0 := ⟨by decide, by decide, by decide +kernel⟩
theorem dn_X9_beginReading : zDn yX9_beginReading 1 := ⟨by decide, by decide, by decide +kernel⟩
theorem dn_X0_readLine : zDn yX0_readLine 0 := ⟨by decide, by decide, by decide +kernel⟩
theorem wsin_X10 : ∀ w ∈ u_ws RX10 TX10 5, w ∈ zTB := (List.forall_mem_cons.mpr ⟨wd_452, (List.forall_mem_cons.mpr ⟨wd_454, (List.forall_mem_cons.mpr ⟨wd_456, (List.forall_mem_cons.mpr ⟨wd_458, (List.forall_mem_cons.mpr ⟨wd_460, (fun _ h => absurd h List.not_mem_nil)⟩)⟩)⟩)⟩)⟩)
theorem zs_160 : (Int16.ofInt (160)).toInt32 = (160 : Int32) := by decide
theorem dn_X10_state : zDn yX10_state 2 := ⟨by decide, by decide, by decide +kernel⟩
theorem dn_X10_keepWay : zDn yX10_keepWay 1 := ⟨by decide, by decide, by decide +kernel⟩
theorem wsin_X11 : ∀ w ∈ u_ws RX11 TX11 17, w ∈ zTB := (List.forall_mem_cons.mpr ⟨wd_521, (List.forall_mem_cons.mpr ⟨wd_523, (List.forall_mem_cons.mpr ⟨wd_525, (List.forall_mem_cons.mpr ⟨wd_527, (List.forall_mem_cons.mpr ⟨wd_529, (List.forall_mem_cons.mpr ⟨wd_531, (List.forall_mem_cons.mpr ⟨wd_533, (List.forall_mem_cons.mpr ⟨wd_535, (List.forall_mem_cons.mpr ⟨wd_537, (List.forall_mem_cons.mpr ⟨wd_539, (List.forall_mem_cons.mpr ⟨wd_541, (List.forall_mem_cons.mpr ⟨wd_543, (List.forall_mem_cons.mpr ⟨wd_545, (List.forall_mem_cons.mpr ⟨wd_547, (List.forall_mem_cons.mpr ⟨wd_549, (List.forall_mem_cons.mpr ⟨wd_551, (List.forall_mem_cons.mpr ⟨wd_553, (fun _ h => absurd h List.not_mem_nil)⟩)⟩)⟩)⟩)⟩)⟩)⟩)⟩)⟩)⟩)⟩)⟩)⟩)⟩)⟩)⟩)⟩)
theorem dn_X9_clear : zDn yX9_clear 0 := ⟨by decide, by decide, by decide +kernel⟩
theorem zb_6 : (Int8.ofInt (6)).toInt32 = (6 : Int32) := by decide
theorem wsin_X7 : ∀ w ∈ u_ws RX7 TX7 3, w ∈ zTB := (List.forall_mem_cons.mpr ⟨wd_285, (List.forall_mem_cons.mpr ⟨wd_287, (List.forall_mem_cons.mpr ⟨wd_289, (fun _ h => absurd h List.not_mem_nil)⟩)⟩)⟩)
theorem dn_X6_copyFrom : zDn yX6_copyFrom 1 := ⟨by decide, by decide, by decide +kernel⟩
theorem lk_X3_47 : zLk RX3 47 4 9 := ⟨"ParlourLeaves$House", RX3, TX3, 12, rfl, by decide, wsin_X3, wd_176, rfl⟩
theorem lk_X3_31 : zLk RX3 31 4 6 := ⟨"ParlourLeaves$House", RX3, TX3, 12, rfl, by decide, wsin_X3, wd_171, rfl⟩
theorem cv_X9_79 : zCV RX9 RX3 79 yX3_placeOfWord cX3_placeOfWord 4 (some .int) 1 := ⟨rfl, dn_X3_placeOfWord, wd_635, wd_619, wd_620, wd_7, wd_621⟩
theorem cv_X9_75 : zCV RX9 RX9 75 yX9_fail cX9_fail 2 (some .boolean) 1 := ⟨rfl, dn_X9_fail, wd_634, wd_610, wd_611, wd_2, wd_612⟩
theorem lk_X9_85 : zLk RX9 85 4 7 := ⟨"ParlourLeaves$House", RX3, TX3, 12, rfl, by decide, wsin_X3, wd_173, rfl⟩
theorem cv_X9_46 : zCV RX9 RX9 46 yX9_read cX9_read 4 none 0 := ⟨rfl, dn_X9_read, wd_584, wd_585, wd_586, wd_2, wd_587⟩
theorem lk_X9_89 : zLk RX9 89 4 8 := ⟨"ParlourLeaves$House", RX3, TX3, 12, rfl, by decide, wsin_X3, wd_175, rfl⟩
theorem lk_X0_37 : zLk RX0 37 1 0 := ⟨"ParlourLeaves$BookText", RX0, TX0, 11, rfl, by decide, wsin_X0, wd_374, rfl⟩
theorem cv_X0_95 : zCV RX0 RX9 95 yX9_read cX9_read 4 none 0 := ⟨rfl, dn_X9_read, wd_1238, wd_585, wd_586, wd_2, wd_587⟩
theorem lk_X0_41 : zLk RX0 41 1 1 := ⟨"ParlourLeaves$BookText", RX0, TX0, 11, rfl, by decide, wsin_X0, wd_375, rfl⟩
theorem cv_X0_83 : zCV RX0 RX9 83 yX9_takeKnown cX9_takeKnown 4 (some .int) 2 := ⟨rfl, dn_X9_takeKnown, wd_1226, wd_631, wd_632, wd_2, wd_633⟩
theorem cv_X0_91 : zCV RX0 RX0 91 yX0_addLine cX0_addLine 5 (some .boolean) 4 := ⟨rfl, dn_X0_addLine, wd_1229, wd_1231, wp_2_0, wd_13, wd_1232⟩
theorem cv_X0_77 : zCV RX0 RX9 77 yX9_fail cX9_fail 2 (some .boolean) 1 := ⟨rfl, dn_X9_fail, wd_1237, wd_610, wd_611, wd_2, wd_612⟩
theorem cv_X0_98 : zCV RX0 RX9 98 yX9_takeNumber cX9_takeNumber 4 (some .int) 2 := ⟨rfl, dn_X9_takeNumber, wd_1247, wd_637, wd_638, wd_2, wd_639⟩
theorem lk_X0_80 : zLk RX0 80 10 6 := ⟨"ParlourLeaves$Tape", RX9, TX9, 11, rfl, by decide, wsin_X9, wd_105, rfl⟩
theorem cv_X0_61 : zCV RX0 RX9 61 yX9_take cX9_take 2 (some .boolean) 1 := ⟨rfl, dn_X9_take, wd_1228, wd_661, wd_662, wd_2, wd_663⟩
theorem cv_X0_87 : zCV RX0 RX9 87 yX9_failAt cX9_failAt 3 (some .boolean) 2 := ⟨rfl, dn_X9_failAt, wd_1227, wd_614, wd_615, wd_2, wd_616⟩
theorem lk_X0_54 : zLk RX0 54 10 5 := ⟨"ParlourLeaves$Tape", RX9, TX9, 11, rfl, by decide, wsin_X9, wd_101, rfl⟩
theorem cv_X0_68 : zCV RX0 RX0 68 yX0_readSponge cX0_readSponge 2 (some .boolean) 0 := ⟨rfl, dn_X0_readSponge, wd_1233, wd_1235, wp_2_1, wd_13, wd_1236⟩
theorem cv_X0_71 : zCV RX0 RX0 71 yX0_readCarry cX0_readCarry 3 (some .boolean) 0 := ⟨rfl, dn_X0_readCarry, wd_1239, wd_1241, wp_2_2, wd_13, wd_1242⟩
theorem cv_X0_74 : zCV RX0 RX0 74 yX0_readDay cX0_readDay 2 (some .boolean) 0 := ⟨rfl, dn_X0_readDay, wd_1243, wd_1245, wp_2_3, wd_13, wd_1246⟩
theorem cv_X0_65 : zCV RX0 RX0 65 yX0_readDoes cX0_readDoes 5 (some .boolean) 0 := ⟨rfl, dn_X0_readDoes, wd_1222, wd_1224, wp_1_15, wd_13, wd_1225⟩
theorem lq_X9_34 : zLq RX9 34 10 3 .int := ⟨"ParlourLeaves$Tape", RX9, TX9, 11, tyX9, rfl, by decide, wsin_X9, wd_99, rfl, rfl, by decide +kernel, tyX9_ok, nmX9⟩
theorem cv_X0_45 : zCV RX0 RX9 45 yX9_beginReading cX9_beginReading 2 none 1 := ⟨rfl, dn_X9_beginReading, wd_1217, wd_581, wd_582, wd_2, wd_583⟩
theorem cv_X0_57 : zCV RX0 RX0 57 yX0_readLine cX0_readLine 1 (some .boolean) 0 := ⟨rfl, dn_X0_readLine, wd_1218, wd_1220, wp_1_14, wd_13, wd_1221⟩
theorem lq_X10_33 : zLq RX10 33 11 4 .int := ⟨"ParlourLeaves$Way", RX10, TX10, 5, tyX10, rfl, by decide, wsin_X10, wd_450, rfl, rfl, by decide +kernel, tyX10_ok, nmX10⟩
theorem lk_X10_33 : zLk RX10 33 11 4 := ⟨"ParlourLeaves$Way", RX10, TX10, 5, rfl, by decide, wsin_X10, wd_450, rfl⟩
theorem lk_X10_22 : zLk RX10 22 11 3 := ⟨"ParlourLeaves$Way", RX10, TX10, 5, rfl, by decide, wsin_X10, wd_448, rfl⟩
theorem lk_X10_15 : zLk RX10 15 11 1 := ⟨"ParlourLeaves$Way", RX10, TX10, 5, rfl, by decide, wsin_X10, wd_446, rfl⟩
theorem cv_X10_25 : zCS RX10 25 yX10_state cX10_state 2 (some .int) 2 := ⟨dn_X10_state, wd_951, wd_952, wd_15, wd_953⟩
theorem lk_X10_11 : zLk RX10 11 11 0 := ⟨"ParlourLeaves$Way", RX10, TX10, 5, rfl, by decide, wsin_X10, wd_445, rfl⟩
theorem lk_X10_18 : zLk RX10 18 11 2 := ⟨"ParlourLeaves$Way", RX10, TX10, 5, rfl, by decide, wsin_X10, wd_447, rfl⟩
theorem lk_X10_37 : zLk RX10 37 4 1 := ⟨"ParlourLeaves$House", RX3, TX3, 12, rfl, by decide, wsin_X3, wd_155, rfl⟩
theorem lk_X10_42 : zLk RX10 42 4 0 := ⟨"ParlourLeaves$House", RX3, TX3, 12, rfl, by decide, wsin_X3, wd_148, rfl⟩
theorem cv_X10_45 : zCN RX10 "ParlourLeaves" 45 yX11_hasBit cX11_hasBit 2 (some .boolean) 2 := ⟨dn_X11_hasBit, (List.mem_of_getElem? (i := 14) rfl), wd_645, wd_1, wd_646⟩
theorem cv_X10_29 : zCV RX10 RX10 29 yX10_keepWay cX10_keepWay 4 none 1 := ⟨rfl, dn_X10_keepWay, wd_954, wd_956, wp_1_9, wd_15, wd_957⟩
theorem lk_X11_107 : zLk RX11 107 12 15 := ⟨"ParlourLeaves", RX11, TX11, 17, rfl, by decide, wsin_X11, wd_519, rfl⟩
theorem lq_X9_31 : zLq RX9 31 10 1 .int := ⟨"ParlourLeaves$Tape", RX9, TX9, 11, tyX9, rfl, by decide, wsin_X9, wd_96, rfl, rfl, by decide +kernel, tyX9_ok, nmX9⟩
theorem lk_X11_10 : zLk RX11 10 12 0 := ⟨"ParlourLeaves", RX11, TX11, 17, rfl, by decide, wsin_X11, wd_504, rfl⟩
theorem lk_X11_409 : zLk RX11 409 10 9 := ⟨"ParlourLeaves$Tape", RX9, TX9, 11, rfl, by decide, wsin_X9, wd_112, rfl⟩
theorem lq_X11_146 : zLq RX11 146 12 14 .int := ⟨"ParlourLeaves", RX11, TX11, 17, tyX11, rfl, by decide, wsin_X11, wd_518, rfl, rfl, by decide +kernel, tyX11_ok, nmX11⟩
theorem cv_X11_294 : zCV RX11 RX9 294 yX9_clear cX9_clear 1 none 0 := ⟨rfl, dn_X9_clear, wd_668, wd_669, wd_670, wd_2, wd_671⟩
theorem lb_X6_54 : zCp RX6 54 := ⟨wd_796, wd_678, wd_677, wd_21⟩
theorem lk_X7_11 : zLk RX7 11 8 0 := ⟨"ParlourLeaves$Past", RX7, TX7, 3, rfl, by decide, wsin_X7, wd_282, rfl⟩
theorem lk_X7_24 : zLk RX7 24 8 1 := ⟨"ParlourLeaves$Past", RX7, TX7, 3, rfl, by decide, wsin_X7, wd_283, rfl⟩
theorem cv_X7_27 : zCV RX7 RX6 27 yX6_copyFrom cX6_copyFrom 3 none 1 := ⟨rfl, dn_X6_copyFrom, wd_792, wd_793, wd_794, wd_8, wd_795⟩
theorem lq_X7_24 : zLq RX7 24 8 1 .int := ⟨"ParlourLeaves$Past", RX7, TX7, 3, tyX7, rfl, by decide, wsin_X7, wd_283, rfl, rfl, by decide +kernel, tyX7_ok, nmX7⟩
theorem lk_X7_20 : zLk RX7 20 8 2 := ⟨"ParlourLeaves$Past", RX7, TX7, 3, rfl, by decide, wsin_X7, wd_284, rfl⟩
theorem lb_X7_31 : zMn RX7 31 := ⟨wd_797, wd_589, wd_20, wd_590⟩
theorem lq_X7_20 : zLq RX7 20 8 2 .int := ⟨"ParlourLeaves$Past", RX7, TX7, 3, tyX7, rfl, by decide, wsin_X7, wd_284, rfl, rfl, by decide +kernel, tyX7_ok, nmX7⟩
theorem dX3_placeOfWord_0 : decode cX3_placeOfWord 0 = .ok (.iconst 0, 1) := by decide +kernel
theorem dX3_placeOfWord_1 : decode cX3_placeOfWord 1 = .ok (.istore_n 3, 1) := by decide +kernel
theorem dX3_placeOfWord_2 : decode cX3_placeOfWord 2 = .ok (.iload_n 3, 1) := by decide +kernel
theorem dX3_placeOfWord_3 : decode cX3_placeOfWord 3 = .ok (.aload_n 0, 1) := by decide +kernel
theorem dX3_placeOfWord_4 : decode cX3_placeOfWord 4 = .ok (.getfield 47, 3) := by decide +kernel
theorem dX3_placeOfWord_7 : decode cX3_placeOfWord 7 = .ok (.if_icmp .ge 22, 3) := by decide +kernel
theorem dX3_placeOfWord_10 : decode cX3_placeOfWord 10 = .ok (.aload_n 0, 1) := by decide +kernel
theorem dX3_placeOfWord_11 : decode cX3_placeOfWord 11 = .ok (.getfield 31, 3) := by decide +kernel
theorem dX3_placeOfWord_14 : decode cX3_placeOfWord 14 = .ok (.iload_n 3, 1) := by decide +kernel
theorem dX3_placeOfWord_15 : decode cX3_placeOfWord 15 = .ok (.laload, 1) := by decide +kernel
theorem dX3_placeOfWord_16 : decode cX3_placeOfWord 16 = .ok (.lload_n 1, 1) := by decide +kernel
theorem dX3_placeOfWord_17 : decode cX3_placeOfWord 17 = .ok (.lcmp, 1) := by decide +kernel
theorem dX3_placeOfWord_18 : decode cX3_placeOfWord 18 = .ok (.ifCond .ne 5, 3) := by decide +kernel
theorem dX3_placeOfWord_21 : decode cX3_placeOfWord 21 = .ok (.iload_n 3, 1) := by decide +kernel
theorem dX3_placeOfWord_22 : decode cX3_placeOfWord 22 = .ok (.ireturn, 1) := by decide +kernel
theorem dX3_placeOfWord_23 : decode cX3_placeOfWord 23 = .ok (.iinc 3 1, 3) := by decide +kernel
theorem dX3_placeOfWord_26 : decode cX3_placeOfWord 26 = .ok (.goto (-24), 3) := by decide +kernel
theorem dX3_placeOfWord_29 : decode cX3_placeOfWord 29 = .ok (.iconst (-1), 1) := by decide +kernel
theorem dX3_placeOfWord_30 : decode cX3_placeOfWord 30 = .ok (.ireturn, 1) := by decide +kernel
theorem dX9_takeKnown_0 : decode cX9_takeKnown 0 = .ok (.aload_n 0, 1) := by decide +kernel
theorem dX9_takeKnown_1 : decode cX9_takeKnown 1 = .ok (.getfield 58, 3) := by decide +kernel
theorem dX9_takeKnown_4 : decode cX9_takeKnown 4 = .ok (.bipush 100, 2) := by decide +kernel
theorem dX9_takeKnown_6 : decode cX9_takeKnown 6 = .ok (.if_icmp .eq 11, 3) := by decide +kernel
theorem dX9_takeKnown_9 : decode cX9_takeKnown 9 = .ok (.aload_n 0, 1) := by decide +kernel
theorem dX9_takeKnown_10 : decode cX9_takeKnown 10 = .ok (.iconst 1, 1) := by decide +kernel
theorem dX9_takeKnown_11 : decode cX9_takeKnown 11 = .ok (.invokevirtual 75, 3) := by decide +kernel
theorem dX9_takeKnown_14 : decode cX9_takeKnown 14 = .ok (.pop, 1) := by decide +kernel
theorem dX9_takeKnown_15 : decode cX9_takeKnown 15 = .ok (.iconst (-1), 1) := by decide +kernel
theorem dX9_takeKnown_16 : decode cX9_takeKnown 16 = .ok (.ireturn, 1) := by decide +kernel
theorem dX9_takeKnown_17 : decode cX9_takeKnown 17 = .ok (.aload_n 1, 1) := by decide +kernel
theorem dX9_takeKnown_18 : decode cX9_takeKnown 18 = .ok (.aload_n 0, 1) := by decide +kernel
theorem dX9_takeKnown_19 : decode cX9_takeKnown 19 = .ok (.getfield 64, 3) := by decide +kernel
theorem dX9_takeKnown_22 : decode cX9_takeKnown 22 = .ok (.invokevirtual 79, 3) := by decide +kernel
theorem dX9_takeKnown_25 : decode cX9_takeKnown 25 = .ok (.istore_n 3, 1) := by decide +kernel
theorem dX9_takeKnown_26 : decode cX9_takeKnown 26 = .ok (.iload_n 3, 1) := by decide +kernel
theorem dX9_takeKnown_27 : decode cX9_takeKnown 27 = .ok (.iconst (-1), 1) := by decide +kernel
theorem dX9_takeKnown_28 : decode cX9_takeKnown 28 = .ok (.if_icmp .eq 13, 3) := by decide +kernel
theorem dX9_takeKnown_31 : decode cX9_takeKnown 31 = .ok (.aload_n 1, 1) := by decide +kernel
theorem dX9_takeKnown_32 : decode cX9_takeKnown 32 = .ok (.getfield 85, 3) := by decide +kernel
theorem dX9_takeKnown_35 : decode cX9_takeKnown 35 = .ok (.iload_n 3, 1) := by decide +kernel
theorem dX9_takeKnown_36 : decode cX9_takeKnown 36 = .ok (.iaload, 1) := by decide +kernel
theorem dX9_takeKnown_37 : decode cX9_takeKnown 37 = .ok (.iload_n 2, 1) := by decide +kernel
theorem dX9_takeKnown_38 : decode cX9_takeKnown 38 = .ok (.if_icmp .eq 11, 3) := by decide +kernel
theorem dX9_takeKnown_41 : decode cX9_takeKnown 41 = .ok (.aload_n 0, 1) := by decide +kernel
theorem dX9_takeKnown_42 : decode cX9_takeKnown 42 = .ok (.iconst 3, 1) := by decide +kernel
theorem dX9_takeKnown_43 : decode cX9_takeKnown 43 = .ok (.invokevirtual 75, 3) := by decide +kernel
theorem dX9_takeKnown_46 : decode cX9_takeKnown 46 = .ok (.pop, 1) := by decide +kernel
theorem dX9_takeKnown_47 : decode cX9_takeKnown 47 = .ok (.iconst (-1), 1) := by decide +kernel
theorem dX9_takeKnown_48 : decode cX9_takeKnown 48 = .ok (.ireturn, 1) := by decide +kernel
theorem dX9_takeKnown_49 : decode cX9_takeKnown 49 = .ok (.aload_n 0, 1) := by decide +kernel
theorem dX9_takeKnown_50 : decode cX9_takeKnown 50 = .ok (.invokevirtual 46, 3) := by decide +kernel
theorem dX9_takeKnown_53 : decode cX9_takeKnown 53 = .ok (.aload_n 1, 1) := by decide +kernel
theorem dX9_takeKnown_54 : decode cX9_takeKnown 54 = .ok (.getfield 89, 3) := by decide +kernel
theorem dX9_takeKnown_57 : decode cX9_takeKnown 57 = .ok (.iload_n 3, 1) := by decide +kernel
theorem dX9_takeKnown_58 : decode cX9_takeKnown 58 = .ok (.iaload, 1) := by decide +kernel
theorem dX9_takeKnown_59 : decode cX9_takeKnown 59 = .ok (.ireturn, 1) := by decide +kernel
theorem dX0_readCarry_0 : decode cX0_readCarry 0 = .ok (.aload_n 0, 1) := by decide +kernel
theorem dX0_readCarry_1 : decode cX0_readCarry 1 = .ok (.getfield 51, 3) := by decide +kernel
theorem dX0_readCarry_4 : decode cX0_readCarry 4 = .ok (.bipush 40, 2) := by decide +kernel
theorem dX0_readCarry_6 : decode cX0_readCarry 6 = .ok (.if_icmp .lt 12, 3) := by decide +kernel
theorem dX0_readCarry_9 : decode cX0_readCarry 9 = .ok (.aload_n 0, 1) := by decide +kernel
theorem dX0_readCarry_10 : decode cX0_readCarry 10 = .ok (.getfield 37, 3) := by decide +kernel
theorem dX0_readCarry_13 : decode cX0_readCarry 13 = .ok (.iconst 4, 1) := by decide +kernel
theorem dX0_readCarry_14 : decode cX0_readCarry 14 = .ok (.invokevirtual 77, 3) := by decide +kernel
theorem dX0_readCarry_17 : decode cX0_readCarry 17 = .ok (.ireturn, 1) := by decide +kernel
theorem dX0_readCarry_18 : decode cX0_readCarry 18 = .ok (.aload_n 0, 1) := by decide +kernel
theorem dX0_readCarry_19 : decode cX0_readCarry 19 = .ok (.getfield 37, 3) := by decide +kernel
theorem dX0_readCarry_22 : decode cX0_readCarry 22 = .ok (.invokevirtual 95, 3) := by decide +kernel
theorem dX0_readCarry_25 : decode cX0_readCarry 25 = .ok (.aload_n 0, 1) := by decide +kernel
theorem dX0_readCarry_26 : decode cX0_readCarry 26 = .ok (.getfield 37, 3) := by decide +kernel
theorem dX0_readCarry_29 : decode cX0_readCarry 29 = .ok (.aload_n 0, 1) := by decide +kernel
theorem dX0_readCarry_30 : decode cX0_readCarry 30 = .ok (.getfield 41, 3) := by decide +kernel
theorem dX0_readCarry_33 : decode cX0_readCarry 33 = .ok (.iconst 1, 1) := by decide +kernel
theorem dX0_readCarry_34 : decode cX0_readCarry 34 = .ok (.invokevirtual 83, 3) := by decide +kernel
theorem dX0_readCarry_37 : decode cX0_readCarry 37 = .ok (.istore_n 1, 1) := by decide +kernel
theorem dX0_readCarry_38 : decode cX0_readCarry 38 = .ok (.iload_n 1, 1) := by decide +kernel
theorem dX0_readCarry_39 : decode cX0_readCarry 39 = .ok (.iconst (-1), 1) := by decide +kernel
theorem dX0_readCarry_40 : decode cX0_readCarry 40 = .ok (.if_icmp .ne 5, 3) := by decide +kernel
theorem dX0_readCarry_43 : decode cX0_readCarry 43 = .ok (.iconst 0, 1) := by decide +kernel
theorem dX0_readCarry_44 : decode cX0_readCarry 44 = .ok (.ireturn, 1) := by decide +kernel
theorem dX0_readCarry_45 : decode cX0_readCarry 45 = .ok (.aload_n 0, 1) := by decide +kernel
theorem dX0_readCarry_46 : decode cX0_readCarry 46 = .ok (.getfield 37, 3) := by decide +kernel
theorem dX0_readCarry_49 : decode cX0_readCarry 49 = .ok (.aload_n 0, 1) := by decide +kernel
theorem dX0_readCarry_50 : decode cX0_readCarry 50 = .ok (.getfield 41, 3) := by decide +kernel
theorem dX0_readCarry_53 : decode cX0_readCarry 53 = .ok (.iconst 0, 1) := by decide +kernel
theorem dX0_readCarry_54 : decode cX0_readCarry 54 = .ok (.invokevirtual 83, 3) := by decide +kernel
theorem dX0_readCarry_57 : decode cX0_readCarry 57 = .ok (.istore_n 2, 1) := by decide +kernel
theorem dX0_readCarry_58 : decode cX0_readCarry 58 = .ok (.iload_n 2, 1) := by decide +kernel
theorem dX0_readCarry_59 : decode cX0_readCarry 59 = .ok (.iconst (-1), 1) := by decide +kernel
theorem dX0_readCarry_60 : decode cX0_readCarry 60 = .ok (.if_icmp .eq 19, 3) := by decide +kernel
theorem dX0_readCarry_63 : decode cX0_readCarry 63 = .ok (.aload_n 0, 1) := by decide +kernel
theorem dX0_readCarry_64 : decode cX0_readCarry 64 = .ok (.bipush 10, 2) := by decide +kernel
theorem dX0_readCarry_66 : decode cX0_readCarry 66 = .ok (.iload_n 1, 1) := by decide +kernel
theorem dX0_readCarry_67 : decode cX0_readCarry 67 = .ok (.iload_n 2, 1) := by decide +kernel
theorem dX0_readCarry_68 : decode cX0_readCarry 68 = .ok (.iconst 0, 1) := by decide +kernel
theorem dX0_readCarry_69 : decode cX0_readCarry 69 = .ok (.invokevirtual 91, 3) := by decide +kernel
theorem dX0_readCarry_72 : decode cX0_readCarry 72 = .ok (.ifCond .eq 7, 3) := by decide +kernel
theorem dX0_readCarry_75 : decode cX0_readCarry 75 = .ok (.iconst 1, 1) := by decide +kernel
theorem dX0_readCarry_76 : decode cX0_readCarry 76 = .ok (.goto 4, 3) := by decide +kernel
theorem dX0_readCarry_79 : decode cX0_readCarry 79 = .ok (.iconst 0, 1) := by decide +kernel
theorem dX0_readCarry_80 : decode cX0_readCarry 80 = .ok (.ireturn, 1) := by decide +kernel
theorem dX9_takeNumber_0 : decode cX9_takeNumber 0 = .ok (.aload_n 0, 1) := by decide +kernel
theorem dX9_takeNumber_1 : decode cX9_takeNumber 1 = .ok (.getfield 58, 3) := by decide +kernel
theorem dX9_takeNumber_4 : decode cX9_takeNumber 4 = .ok (.bipush 101, 2) := by decide +kernel
theorem dX9_takeNumber_6 : decode cX9_takeNumber 6 = .ok (.if_icmp .eq 11, 3) := by decide +kernel
theorem dX9_takeNumber_9 : decode cX9_takeNumber 9 = .ok (.aload_n 0, 1) := by decide +kernel
theorem dX9_takeNumber_10 : decode cX9_takeNumber 10 = .ok (.iconst 1, 1) := by decide +kernel
theorem dX9_takeNumber_11 : decode cX9_takeNumber 11 = .ok (.invokevirtual 75, 3) := by decide +kernel
theorem dX9_takeNumber_14 : decode cX9_takeNumber 14 = .ok (.pop, 1) := by decide +kernel
theorem dX9_takeNumber_15 : decode cX9_takeNumber 15 = .ok (.iconst (-1), 1) := by decide +kernel
theorem dX9_takeNumber_16 : decode cX9_takeNumber 16 = .ok (.ireturn, 1) := by decide +kernel
theorem dX9_takeNumber_17 : decode cX9_takeNumber 17 = .ok (.aload_n 0, 1) := by decide +kernel
theorem dX9_takeNumber_18 : decode cX9_takeNumber 18 = .ok (.getfield 68, 3) := by decide +kernel
theorem dX9_takeNumber_21 : decode cX9_takeNumber 21 = .ok (.iload_n 1, 1) := by decide +kernel
theorem dX9_takeNumber_22 : decode cX9_takeNumber 22 = .ok (.if_icmp .lt 11, 3) := by decide +kernel
theorem dX9_takeNumber_25 : decode cX9_takeNumber 25 = .ok (.aload_n 0, 1) := by decide +kernel
theorem dX9_takeNumber_26 : decode cX9_takeNumber 26 = .ok (.getfield 68, 3) := by decide +kernel
theorem dX9_takeNumber_29 : decode cX9_takeNumber 29 = .ok (.iload_n 2, 1) := by decide +kernel
theorem dX9_takeNumber_30 : decode cX9_takeNumber 30 = .ok (.if_icmp .le 11, 3) := by decide +kernel
theorem dX9_takeNumber_33 : decode cX9_takeNumber 33 = .ok (.aload_n 0, 1) := by decide +kernel
theorem dX9_takeNumber_34 : decode cX9_takeNumber 34 = .ok (.iconst 2, 1) := by decide +kernel
theorem dX9_takeNumber_35 : decode cX9_takeNumber 35 = .ok (.invokevirtual 75, 3) := by decide +kernel
theorem dX9_takeNumber_38 : decode cX9_takeNumber 38 = .ok (.pop, 1) := by decide +kernel
theorem dX9_takeNumber_39 : decode cX9_takeNumber 39 = .ok (.iconst (-1), 1) := by decide +kernel
theorem dX9_takeNumber_40 : decode cX9_takeNumber 40 = .ok (.ireturn, 1) := by decide +kernel
theorem dX9_takeNumber_41 : decode cX9_takeNumber 41 = .ok (.aload_n 0, 1) := by decide +kernel
theorem dX9_takeNumber_42 : decode cX9_takeNumber 42 = .ok (.getfield 68, 3) := by decide +kernel
theorem dX9_takeNumber_45 : decode cX9_takeNumber 45 = .ok (.istore_n 3, 1) := by decide +kernel
theorem dX9_takeNumber_46 : decode cX9_takeNumber 46 = .ok (.aload_n 0, 1) := by decide +kernel
theorem dX9_takeNumber_47 : decode cX9_takeNumber 47 = .ok (.invokevirtual 46, 3) := by decide +kernel
theorem dX9_takeNumber_50 : decode cX9_takeNumber 50 = .ok (.iload_n 3, 1) := by decide +kernel
theorem dX9_takeNumber_51 : decode cX9_takeNumber 51 = .ok (.ireturn, 1) := by decide +kernel
theorem dX0_readDay_0 : decode cX0_readDay 0 = .ok (.aload_n 0, 1) := by decide +kernel
theorem dX0_readDay_1 : decode cX0_readDay 1 = .ok (.getfield 51, 3) := by decide +kernel
theorem dX0_readDay_4 : decode cX0_readDay 4 = .ok (.bipush 40, 2) := by decide +kernel
theorem dX0_readDay_6 : decode cX0_readDay 6 = .ok (.if_icmp .lt 12, 3) := by decide +kernel
theorem dX0_readDay_9 : decode cX0_readDay 9 = .ok (.aload_n 0, 1) := by decide +kernel
theorem dX0_readDay_10 : decode cX0_readDay 10 = .ok (.getfield 37, 3) := by decide +kernel
theorem dX0_readDay_13 : decode cX0_readDay 13 = .ok (.iconst 4, 1) := by decide +kernel
theorem dX0_readDay_14 : decode cX0_readDay 14 = .ok (.invokevirtual 77, 3) := by decide +kernel
theorem dX0_readDay_17 : decode cX0_readDay 17 = .ok (.ireturn, 1) := by decide +kernel
theorem dX0_readDay_18 : decode cX0_readDay 18 = .ok (.aload_n 0, 1) := by decide +kernel
theorem dX0_readDay_19 : decode cX0_readDay 19 = .ok (.getfield 37, 3) := by decide +kernel
theorem dX0_readDay_22 : decode cX0_readDay 22 = .ok (.invokevirtual 95, 3) := by decide +kernel
theorem dX0_readDay_25 : decode cX0_readDay 25 = .ok (.aload_n 0, 1) := by decide +kernel
theorem dX0_readDay_26 : decode cX0_readDay 26 = .ok (.getfield 37, 3) := by decide +kernel
theorem dX0_readDay_29 : decode cX0_readDay 29 = .ok (.iconst 1, 1) := by decide +kernel
theorem dX0_readDay_30 : decode cX0_readDay 30 = .ok (.bipush 60, 2) := by decide +kernel
theorem dX0_readDay_32 : decode cX0_readDay 32 = .ok (.invokevirtual 98, 3) := by decide +kernel
theorem dX0_readDay_35 : decode cX0_readDay 35 = .ok (.istore_n 1, 1) := by decide +kernel
theorem dX0_readDay_36 : decode cX0_readDay 36 = .ok (.iload_n 1, 1) := by decide +kernel
theorem dX0_readDay_37 : decode cX0_readDay 37 = .ok (.iconst (-1), 1) := by decide +kernel
theorem dX0_readDay_38 : decode cX0_readDay 38 = .ok (.if_icmp .eq 19, 3) := by decide +kernel
theorem dX0_readDay_41 : decode cX0_readDay 41 = .ok (.aload_n 0, 1) := by decide +kernel
theorem dX0_readDay_42 : decode cX0_readDay 42 = .ok (.bipush 11, 2) := by decide +kernel
theorem dX0_readDay_44 : decode cX0_readDay 44 = .ok (.iload_n 1, 1) := by decide +kernel
theorem dX0_readDay_45 : decode cX0_readDay 45 = .ok (.iconst 0, 1) := by decide +kernel
theorem dX0_readDay_46 : decode cX0_readDay 46 = .ok (.iconst 0, 1) := by decide +kernel
theorem dX0_readDay_47 : decode cX0_readDay 47 = .ok (.invokevirtual 91, 3) := by decide +kernel
theorem dX0_readDay_50 : decode cX0_readDay 50 = .ok (.ifCond .eq 7, 3) := by decide +kernel
theorem dX0_readDay_53 : decode cX0_readDay 53 = .ok (.iconst 1, 1) := by decide +kernel
theorem dX0_readDay_54 : decode cX0_readDay 54 = .ok (.goto 4, 3) := by decide +kernel
theorem dX0_readDay_57 : decode cX0_readDay 57 = .ok (.iconst 0, 1) := by decide +kernel
theorem dX0_readDay_58 : decode cX0_readDay 58 = .ok (.ireturn, 1) := by decide +kernel
theorem dX9_take_0 : decode cX9_take 0 = .ok (.aload_n 0, 1) := by decide +kernel
theorem dX9_take_1 : decode cX9_take 1 = .ok (.getfield 58, 3) := by decide +kernel
theorem dX9_take_4 : decode cX9_take 4 = .ok (.iload_n 1, 1) := by decide +kernel
theorem dX9_take_5 : decode cX9_take 5 = .ok (.if_icmp .eq 9, 3) := by decide +kernel
theorem dX9_take_8 : decode cX9_take 8 = .ok (.aload_n 0, 1) := by decide +kernel
theorem dX9_take_9 : decode cX9_take 9 = .ok (.iconst 1, 1) := by decide +kernel
theorem dX9_take_10 : decode cX9_take 10 = .ok (.invokevirtual 75, 3) := by decide +kernel
theorem dX9_take_13 : decode cX9_take 13 = .ok (.ireturn, 1) := by decide +kernel
theorem dX9_take_14 : decode cX9_take 14 = .ok (.aload_n 0, 1) := by decide +kernel
theorem dX9_take_15 : decode cX9_take 15 = .ok (.invokevirtual 46, 3) := by decide +kernel
theorem dX9_take_18 : decode cX9_take 18 = .ok (.iconst 1, 1) := by decide +kernel
theorem dX9_take_19 : decode cX9_take 19 = .ok (.ireturn, 1) := by decide +kernel
theorem dX0_readDoes_0 : decode cX0_readDoes 0 = .ok (.aload_n 0, 1) := by decide +kernel
theorem dX0_readDoes_1 : decode cX0_readDoes 1 = .ok (.getfield 37, 3) := by decide +kernel
theorem dX0_readDoes_4 : decode cX0_readDoes 4 = .ok (.getfield 80, 3) := by decide +kernel
theorem dX0_readDoes_7 : decode cX0_readDoes 7 = .ok (.istore_n 1, 1) := by decide +kernel
theorem dX0_readDoes_8 : decode cX0_readDoes 8 = .ok (.aload_n 0, 1) := by decide +kernel
theorem dX0_readDoes_9 : decode cX0_readDoes 9 = .ok (.getfield 37, 3) := by decide +kernel
theorem dX0_readDoes_12 : decode cX0_readDoes 12 = .ok (.aload_n 0, 1) := by decide +kernel
theorem dX0_readDoes_13 : decode cX0_readDoes 13 = .ok (.getfield 41, 3) := by decide +kernel
theorem dX0_readDoes_16 : decode cX0_readDoes 16 = .ok (.iconst 2, 1) := by decide +kernel
theorem dX0_readDoes_17 : decode cX0_readDoes 17 = .ok (.invokevirtual 83, 3) := by decide +kernel
theorem dX0_readDoes_20 : decode cX0_readDoes 20 = .ok (.istore_n 2, 1) := by decide +kernel
theorem dX0_readDoes_21 : decode cX0_readDoes 21 = .ok (.iload_n 2, 1) := by decide +kernel
theorem dX0_readDoes_22 : decode cX0_readDoes 22 = .ok (.iconst (-1), 1) := by decide +kernel
theorem dX0_readDoes_23 : decode cX0_readDoes 23 = .ok (.if_icmp .ne 5, 3) := by decide +kernel
theorem dX0_readDoes_26 : decode cX0_readDoes 26 = .ok (.iconst 0, 1) := by decide +kernel
theorem dX0_readDoes_27 : decode cX0_readDoes 27 = .ok (.ireturn, 1) := by decide +kernel
theorem dX0_readDoes_28 : decode cX0_readDoes 28 = .ok (.aload_n 0, 1) := by decide +kernel
theorem dX0_readDoes_29 : decode cX0_readDoes 29 = .ok (.getfield 51, 3) := by decide +kernel
theorem dX0_readDoes_32 : decode cX0_readDoes 32 = .ok (.bipush 40, 2) := by decide +kernel
theorem dX0_readDoes_34 : decode cX0_readDoes 34 = .ok (.if_icmp .lt 13, 3) := by decide +kernel
theorem dX0_readDoes_37 : decode cX0_readDoes 37 = .ok (.aload_n 0, 1) := by decide +kernel
theorem dX0_readDoes_38 : decode cX0_readDoes 38 = .ok (.getfield 37, 3) := by decide +kernel
theorem dX0_readDoes_41 : decode cX0_readDoes 41 = .ok (.iconst 4, 1) := by decide +kernel
theorem dX0_readDoes_42 : decode cX0_readDoes 42 = .ok (.iload_n 1, 1) := by decide +kernel
theorem dX0_readDoes_43 : decode cX0_readDoes 43 = .ok (.invokevirtual 87, 3) := by decide +kernel
theorem dX0_readDoes_46 : decode cX0_readDoes 46 = .ok (.ireturn, 1) := by decide +kernel
theorem dX0_readDoes_47 : decode cX0_readDoes 47 = .ok (.aload_n 0, 1) := by decide +kernel
theorem dX0_readDoes_48 : decode cX0_readDoes 48 = .ok (.getfield 37, 3) := by decide +kernel
theorem dX0_readDoes_51 : decode cX0_readDoes 51 = .ok (.bipush 8, 2) := by decide +kernel
theorem dX0_readDoes_53 : decode cX0_readDoes 53 = .ok (.invokevirtual 61, 3) := by decide +kernel
theorem dX0_readDoes_56 : decode cX0_readDoes 56 = .ok (.ifCond .ne 5, 3) := by decide +kernel
theorem dX0_readDoes_59 : decode cX0_readDoes 59 = .ok (.iconst 0, 1) := by decide +kernel
theorem dX0_readDoes_60 : decode cX0_readDoes 60 = .ok (.ireturn, 1) := by decide +kernel
theorem dX0_readDoes_61 : decode cX0_readDoes 61 = .ok (.aload_n 0, 1) := by decide +kernel
theorem dX0_readDoes_62 : decode cX0_readDoes 62 = .ok (.getfield 37, 3) := by decide +kernel
theorem dX0_readDoes_65 : decode cX0_readDoes 65 = .ok (.aload_n 0, 1) := by decide +kernel
theorem dX0_readDoes_66 : decode cX0_readDoes 66 = .ok (.getfield 41, 3) := by decide +kernel
theorem dX0_readDoes_69 : decode cX0_readDoes 69 = .ok (.iconst 3, 1) := by decide +kernel
theorem dX0_readDoes_70 : decode cX0_readDoes 70 = .ok (.invokevirtual 83, 3) := by decide +kernel
theorem dX0_readDoes_73 : decode cX0_readDoes 73 = .ok (.istore_n 3, 1) := by decide +kernel
theorem dX0_readDoes_74 : decode cX0_readDoes 74 = .ok (.iload_n 3, 1) := by decide +kernel
theorem dX0_readDoes_75 : decode cX0_readDoes 75 = .ok (.iconst (-1), 1) := by decide +kernel
theorem dX0_readDoes_76 : decode cX0_readDoes 76 = .ok (.if_icmp .ne 5, 3) := by decide +kernel
theorem dX0_readDoes_79 : decode cX0_readDoes 79 = .ok (.iconst 0, 1) := by decide +kernel
theorem dX0_readDoes_80 : decode cX0_readDoes 80 = .ok (.ireturn, 1) := by decide +kernel
theorem dX0_readDoes_81 : decode cX0_readDoes 81 = .ok (.aload_n 0, 1) := by decide +kernel
theorem dX0_readDoes_82 : decode cX0_readDoes 82 = .ok (.getfield 37, 3) := by decide +kernel
theorem dX0_readDoes_85 : decode cX0_readDoes 85 = .ok (.aload_n 0, 1) := by decide +kernel
theorem dX0_readDoes_86 : decode cX0_readDoes 86 = .ok (.getfield 41, 3) := by decide +kernel
theorem dX0_readDoes_89 : decode cX0_readDoes 89 = .ok (.iconst 0, 1) := by decide +kernel
theorem dX0_readDoes_90 : decode cX0_readDoes 90 = .ok (.invokevirtual 83, 3) := by decide +kernel
theorem dX0_readDoes_93 : decode cX0_readDoes 93 = .ok (.istore 4, 2) := by decide +kernel
theorem dX0_readDoes_95 : decode cX0_readDoes 95 = .ok (.iload 4, 2) := by decide +kernel
theorem dX0_readDoes_97 : decode cX0_readDoes 97 = .ok (.iconst (-1), 1) := by decide +kernel
theorem dX0_readDoes_98 : decode cX0_readDoes 98 = .ok (.if_icmp .eq 20, 3) := by decide +kernel
theorem dX0_readDoes_101 : decode cX0_readDoes 101 = .ok (.aload_n 0, 1) := by decide +kernel
theorem dX0_readDoes_102 : decode cX0_readDoes 102 = .ok (.bipush 8, 2) := by decide +kernel
theorem dX0_readDoes_104 : decode cX0_readDoes 104 = .ok (.iload_n 2, 1) := by decide +kernel
theorem dX0_readDoes_105 : decode cX0_readDoes 105 = .ok (.iload_n 3, 1) := by decide +kernel
theorem dX0_readDoes_106 : decode cX0_readDoes 106 = .ok (.iload 4, 2) := by decide +kernel
theorem dX0_readDoes_108 : decode cX0_readDoes 108 = .ok (.invokevirtual 91, 3) := by decide +kernel
theorem dX0_readDoes_111 : decode cX0_readDoes 111 = .ok (.ifCond .eq 7, 3) := by decide +kernel
theorem dX0_readDoes_114 : decode cX0_readDoes 114 = .ok (.iconst 1, 1) := by decide +kernel
theorem dX0_readDoes_115 : decode cX0_readDoes 115 = .ok (.goto 4, 3) := by decide +kernel
theorem dX0_readDoes_118 : decode cX0_readDoes 118 = .ok (.iconst 0, 1) := by decide +kernel
theorem dX0_readDoes_119 : decode cX0_readDoes 119 = .ok (.ireturn, 1) := by decide +kernel
theorem dX0_readSponge_0 : decode cX0_readSponge 0 = .ok (.aload_n 0, 1) := by decide +kernel
theorem dX0_readSponge_1 : decode cX0_readSponge 1 = .ok (.getfield 51, 3) := by decide +kernel
theorem dX0_readSponge_4 : decode cX0_readSponge 4 = .ok (.bipush 40, 2) := by decide +kernel
theorem dX0_readSponge_6 : decode cX0_readSponge 6 = .ok (.if_icmp .lt 12, 3) := by decide +kernel
theorem dX0_readSponge_9 : decode cX0_readSponge 9 = .ok (.aload_n 0, 1) := by decide +kernel
theorem dX0_readSponge_10 : decode cX0_readSponge 10 = .ok (.getfield 37, 3) := by decide +kernel
theorem dX0_readSponge_13 : decode cX0_readSponge 13 = .ok (.iconst 4, 1) := by decide +kernel
theorem dX0_readSponge_14 : decode cX0_readSponge 14 = .ok (.invokevirtual 77, 3) := by decide +kernel
theorem dX0_readSponge_17 : decode cX0_readSponge 17 = .ok (.ireturn, 1) := by decide +kernel
theorem dX0_readSponge_18 : decode cX0_readSponge 18 = .ok (.aload_n 0, 1) := by decide +kernel
theorem dX0_readSponge_19 : decode cX0_readSponge 19 = .ok (.getfield 37, 3) := by decide +kernel
theorem dX0_readSponge_22 : decode cX0_readSponge 22 = .ok (.invokevirtual 95, 3) := by decide +kernel
theorem dX0_readSponge_25 : decode cX0_readSponge 25 = .ok (.aload_n 0, 1) := by decide +kernel
theorem dX0_readSponge_26 : decode cX0_readSponge 26 = .ok (.getfield 37, 3) := by decide +kernel
theorem dX0_readSponge_29 : decode cX0_readSponge 29 = .ok (.aload_n 0, 1) := by decide +kernel
theorem dX0_readSponge_30 : decode cX0_readSponge 30 = .ok (.getfield 41, 3) := by decide +kernel
theorem dX0_readSponge_33 : decode cX0_readSponge 33 = .ok (.iconst 1, 1) := by decide +kernel
theorem dX0_readSponge_34 : decode cX0_readSponge 34 = .ok (.invokevirtual 83, 3) := by decide +kernel
theorem dX0_readSponge_37 : decode cX0_readSponge 37 = .ok (.istore_n 1, 1) := by decide +kernel
theorem dX0_readSponge_38 : decode cX0_readSponge 38 = .ok (.iload_n 1, 1) := by decide +kernel
theorem dX0_readSponge_39 : decode cX0_readSponge 39 = .ok (.iconst (-1), 1) := by decide +kernel
theorem dX0_readSponge_40 : decode cX0_readSponge 40 = .ok (.if_icmp .eq 19, 3) := by decide +kernel
theorem dX0_readSponge_43 : decode cX0_readSponge 43 = .ok (.aload_n 0, 1) := by decide +kernel
theorem dX0_readSponge_44 : decode cX0_readSponge 44 = .ok (.bipush 9, 2) := by decide +kernel
theorem dX0_readSponge_46 : decode cX0_readSponge 46 = .ok (.iload_n 1, 1) := by decide +kernel
theorem dX0_readSponge_47 : decode cX0_readSponge 47 = .ok (.iconst 0, 1) := by decide +kernel
theorem dX0_readSponge_48 : decode cX0_readSponge 48 = .ok (.iconst 0, 1) := by decide +kernel
theorem dX0_readSponge_49 : decode cX0_readSponge 49 = .ok (.invokevirtual 91, 3) := by decide +kernel
theorem dX0_readSponge_52 : decode cX0_readSponge 52 = .ok (.ifCond .eq 7, 3) := by decide +kernel
theorem dX0_readSponge_55 : decode cX0_readSponge 55 = .ok (.iconst 1, 1) := by decide +kernel
theorem dX0_readSponge_56 : decode cX0_readSponge 56 = .ok (.goto 4, 3) := by decide +kernel
theorem dX0_readSponge_59 : decode cX0_readSponge 59 = .ok (.iconst 0, 1) := by decide +kernel
theorem dX0_readSponge_60 : decode cX0_readSponge 60 = .ok (.ireturn, 1) := by decide +kernel
theorem dX0_readLine_0 : decode cX0_readLine 0 = .ok (.aload_n 0, 1) := by decide +kernel
theorem dX0_readLine_1 : decode cX0_readLine 1 = .ok (.getfield 37, 3) := by decide +kernel
theorem dX0_readLine_4 : decode cX0_readLine 4 = .ok (.getfield 54, 3) := by decide +kernel
theorem dX0_readLine_7 : decode cX0_readLine 7 = .ok (.lookupswitch 61 #[(9, 46), (10, 51), (11, 56), (100, 41)], 41) := by decide +kernel
theorem dX0_readLine_48 : decode cX0_readLine 48 = .ok (.aload_n 0, 1) := by decide +kernel
theorem dX0_readLine_49 : decode cX0_readLine 49 = .ok (.invokevirtual 65, 3) := by decide +kernel
theorem dX0_readLine_52 : decode cX0_readLine 52 = .ok (.ireturn, 1) := by decide +kernel
theorem dX0_readLine_53 : decode cX0_readLine 53 = .ok (.aload_n 0, 1) := by decide +kernel
theorem dX0_readLine_54 : decode cX0_readLine 54 = .ok (.invokevirtual 68, 3) := by decide +kernel
theorem dX0_readLine_57 : decode cX0_readLine 57 = .ok (.ireturn, 1) := by decide +kernel
theorem dX0_readLine_58 : decode cX0_readLine 58 = .ok (.aload_n 0, 1) := by decide +kernel
theorem dX0_readLine_59 : decode cX0_readLine 59 = .ok (.invokevirtual 71, 3) := by decide +kernel
theorem dX0_readLine_62 : decode cX0_readLine 62 = .ok (.ireturn, 1) := by decide +kernel
theorem dX0_readLine_63 : decode cX0_readLine 63 = .ok (.aload_n 0, 1) := by decide +kernel
theorem dX0_readLine_64 : decode cX0_readLine 64 = .ok (.invokevirtual 74, 3) := by decide +kernel
theorem dX0_readLine_67 : decode cX0_readLine 67 = .ok (.ireturn, 1) := by decide +kernel
theorem dX0_readLine_68 : decode cX0_readLine 68 = .ok (.aload_n 0, 1) := by decide +kernel
theorem dX0_readLine_69 : decode cX0_readLine 69 = .ok (.getfield 37, 3) := by decide +kernel
theorem dX0_readLine_72 : decode cX0_readLine 72 = .ok (.iconst 1, 1) := by decide +kernel
theorem dX0_readLine_73 : decode cX0_readLine 73 = .ok (.invokevirtual 77, 3) := by decide +kernel
theorem dX0_readLine_76 : decode cX0_readLine 76 = .ok (.ireturn, 1) := by decide +kernel
theorem dX9_beginReading_0 : decode cX9_beginReading 0 = .ok (.aload_n 0, 1) := by decide +kernel
theorem dX9_beginReading_1 : decode cX9_beginReading 1 = .ok (.iload_n 1, 1) := by decide +kernel
theorem dX9_beginReading_2 : decode cX9_beginReading 2 = .ok (.putfield 34, 3) := by decide +kernel
theorem dX9_beginReading_5 : decode cX9_beginReading 5 = .ok (.aload_n 0, 1) := by decide +kernel
theorem dX9_beginReading_6 : decode cX9_beginReading 6 = .ok (.iconst 0, 1) := by decide +kernel
theorem dX9_beginReading_7 : decode cX9_beginReading 7 = .ok (.putfield 37, 3) := by decide +kernel
theorem dX9_beginReading_10 : decode cX9_beginReading 10 = .ok (.aload_n 0, 1) := by decide +kernel
theorem dX9_beginReading_11 : decode cX9_beginReading 11 = .ok (.iconst 0, 1) := by decide +kernel
theorem dX9_beginReading_12 : decode cX9_beginReading 12 = .ok (.putfield 40, 3) := by decide +kernel
theorem dX9_beginReading_15 : decode cX9_beginReading 15 = .ok (.aload_n 0, 1) := by decide +kernel
theorem dX9_beginReading_16 : decode cX9_beginReading 16 = .ok (.iconst 0, 1) := by decide +kernel
theorem dX9_beginReading_17 : decode cX9_beginReading 17 = .ok (.putfield 43, 3) := by decide +kernel
theorem dX9_beginReading_20 : decode cX9_beginReading 20 = .ok (.aload_n 0, 1) := by decide +kernel
theorem dX9_beginReading_21 : decode cX9_beginReading 21 = .ok (.invokevirtual 46, 3) := by decide +kernel
theorem dX9_beginReading_24 : decode cX9_beginReading 24 = .ok (.return_, 1) := by decide +kernel
theorem dX0_readAll_0 : decode cX0_readAll 0 = .ok (.aload_n 0, 1) := by decide +kernel
theorem dX0_readAll_1 : decode cX0_readAll 1 = .ok (.getfield 37, 3) := by decide +kernel
theorem dX0_readAll_4 : decode cX0_readAll 4 = .ok (.sipush 400, 3) := by decide +kernel
theorem dX0_readAll_7 : decode cX0_readAll 7 = .ok (.invokevirtual 45, 3) := by decide +kernel
theorem dX0_readAll_10 : decode cX0_readAll 10 = .ok (.aload_n 0, 1) := by decide +kernel
theorem dX0_readAll_11 : decode cX0_readAll 11 = .ok (.iconst 0, 1) := by decide +kernel
theorem dX0_readAll_12 : decode cX0_readAll 12 = .ok (.putfield 51, 3) := by decide +kernel
theorem dX0_readAll_15 : decode cX0_readAll 15 = .ok (.iconst 0, 1) := by decide +kernel
theorem dX0_readAll_16 : decode cX0_readAll 16 = .ok (.istore_n 1, 1) := by decide +kernel
theorem dX0_readAll_17 : decode cX0_readAll 17 = .ok (.iload_n 1, 1) := by decide +kernel
theorem dX0_readAll_18 : decode cX0_readAll 18 = .ok (.bipush 40, 2) := by decide +kernel
theorem dX0_readAll_20 : decode cX0_readAll 20 = .ok (.if_icmp .gt 42, 3) := by decide +kernel
theorem dX0_readAll_23 : decode cX0_readAll 23 = .ok (.aload_n 0, 1) := by decide +kernel
theorem dX0_readAll_24 : decode cX0_readAll 24 = .ok (.getfield 37, 3) := by decide +kernel
theorem dX0_readAll_27 : decode cX0_readAll 27 = .ok (.getfield 54, 3) := by decide +kernel
theorem dX0_readAll_30 : decode cX0_readAll 30 = .ok (.bipush 102, 2) := by decide +kernel
theorem dX0_readAll_32 : decode cX0_readAll 32 = .ok (.if_icmp .eq 30, 3) := by decide +kernel
theorem dX0_readAll_35 : decode cX0_readAll 35 = .ok (.aload_n 0, 1) := by decide +kernel
theorem dX0_readAll_36 : decode cX0_readAll 36 = .ok (.invokevirtual 57, 3) := by decide +kernel
theorem dX0_readAll_39 : decode cX0_readAll 39 = .ok (.ifCond .eq 15, 3) := by decide +kernel
theorem dX0_readAll_42 : decode cX0_readAll 42 = .ok (.aload_n 0, 1) := by decide +kernel
theorem dX0_readAll_43 : decode cX0_readAll 43 = .ok (.getfield 37, 3) := by decide +kernel
theorem dX0_readAll_46 : decode cX0_readAll 46 = .ok (.bipush 59, 2) := by decide +kernel
theorem dX0_readAll_48 : decode cX0_readAll 48 = .ok (.invokevirtual 61, 3) := by decide +kernel
theorem dX0_readAll_51 : decode cX0_readAll 51 = .ok (.ifCond .ne 5, 3) := by decide +kernel
theorem dX0_readAll_54 : decode cX0_readAll 54 = .ok (.iconst 0, 1) := by decide +kernel
theorem dX0_readAll_55 : decode cX0_readAll 55 = .ok (.ireturn, 1) := by decide +kernel
theorem dX0_readAll_56 : decode cX0_readAll 56 = .ok (.iinc 1 1, 3) := by decide +kernel
theorem dX0_readAll_59 : decode cX0_readAll 59 = .ok (.goto (-42), 3) := by decide +kernel
theorem dX0_readAll_62 : decode cX0_readAll 62 = .ok (.iconst 1, 1) := by decide +kernel
theorem dX0_readAll_63 : decode cX0_readAll 63 = .ok (.ireturn, 1) := by decide +kernel
theorem dX10_keepWay_0 : decode cX10_keepWay 0 = .ok (.aload_n 0, 1) := by decide +kernel
theorem dX10_keepWay_1 : decode cX10_keepWay 1 = .ok (.iconst 0, 1) := by decide +kernel
theorem dX10_keepWay_2 : decode cX10_keepWay 2 = .ok (.putfield 33, 3) := by decide +kernel
theorem dX10_keepWay_5 : decode cX10_keepWay 5 = .ok (.iload_n 1, 1) := by decide +kernel
theorem dX10_keepWay_6 : decode cX10_keepWay 6 = .ok (.istore_n 2, 1) := by decide +kernel
theorem dX10_keepWay_7 : decode cX10_keepWay 7 = .ok (.iconst 0, 1) := by decide +kernel
theorem dX10_keepWay_8 : decode cX10_keepWay 8 = .ok (.istore_n 3, 1) := by decide +kernel
theorem dX10_keepWay_9 : decode cX10_keepWay 9 = .ok (.iload_n 3, 1) := by decide +kernel
theorem dX10_keepWay_10 : decode cX10_keepWay 10 = .ok (.sipush 160, 3) := by decide +kernel
theorem dX10_keepWay_13 : decode cX10_keepWay 13 = .ok (.if_icmp .ge 36, 3) := by decide +kernel
theorem dX10_keepWay_16 : decode cX10_keepWay 16 = .ok (.aload_n 0, 1) := by decide +kernel
theorem dX10_keepWay_17 : decode cX10_keepWay 17 = .ok (.getfield 15, 3) := by decide +kernel
theorem dX10_keepWay_20 : decode cX10_keepWay 20 = .ok (.iload_n 2, 1) := by decide +kernel
theorem dX10_keepWay_21 : decode cX10_keepWay 21 = .ok (.iaload, 1) := by decide +kernel
theorem dX10_keepWay_22 : decode cX10_keepWay 22 = .ok (.iconst (-1), 1) := by decide +kernel
theorem dX10_keepWay_23 : decode cX10_keepWay 23 = .ok (.if_icmp .eq 26, 3) := by decide +kernel
theorem dX10_keepWay_26 : decode cX10_keepWay 26 = .ok (.aload_n 0, 1) := by decide +kernel
theorem dX10_keepWay_27 : decode cX10_keepWay 27 = .ok (.dup, 1) := by decide +kernel
theorem dX10_keepWay_28 : decode cX10_keepWay 28 = .ok (.getfield 33, 3) := by decide +kernel
theorem dX10_keepWay_31 : decode cX10_keepWay 31 = .ok (.iconst 1, 1) := by decide +kernel
theorem dX10_keepWay_32 : decode cX10_keepWay 32 = .ok (.iadd, 1) := by decide +kernel
theorem dX10_keepWay_33 : decode cX10_keepWay 33 = .ok (.putfield 33, 3) := by decide +kernel
theorem dX10_keepWay_36 : decode cX10_keepWay 36 = .ok (.aload_n 0, 1) := by decide +kernel
theorem dX10_keepWay_37 : decode cX10_keepWay 37 = .ok (.getfield 15, 3) := by decide +kernel
theorem dX10_keepWay_40 : decode cX10_keepWay 40 = .ok (.iload_n 2, 1) := by decide +kernel
theorem dX10_keepWay_41 : decode cX10_keepWay 41 = .ok (.iaload, 1) := by decide +kernel
theorem dX10_keepWay_42 : decode cX10_keepWay 42 = .ok (.istore_n 2, 1) := by decide +kernel
theorem dX10_keepWay_43 : decode cX10_keepWay 43 = .ok (.iinc 3 1, 3) := by decide +kernel
theorem dX10_keepWay_46 : decode cX10_keepWay 46 = .ok (.goto (-37), 3) := by decide +kernel
theorem dX10_keepWay_49 : decode cX10_keepWay 49 = .ok (.iload_n 1, 1) := by decide +kernel
theorem dX10_keepWay_50 : decode cX10_keepWay 50 = .ok (.istore_n 2, 1) := by decide +kernel
theorem dX10_keepWay_51 : decode cX10_keepWay 51 = .ok (.aload_n 0, 1) := by decide +kernel
theorem dX10_keepWay_52 : decode cX10_keepWay 52 = .ok (.getfield 33, 3) := by decide +kernel
theorem dX10_keepWay_55 : decode cX10_keepWay 55 = .ok (.iconst 1, 1) := by decide +kernel
theorem dX10_keepWay_56 : decode cX10_keepWay 56 = .ok (.isub, 1) := by decide +kernel
theorem dX10_keepWay_57 : decode cX10_keepWay 57 = .ok (.istore_n 3, 1) := by decide +kernel
theorem dX10_keepWay_58 : decode cX10_keepWay 58 = .ok (.iload_n 3, 1) := by decide +kernel
theorem dX10_keepWay_59 : decode cX10_keepWay 59 = .ok (.ifCond .lt 25, 3) := by decide +kernel
theorem dX10_keepWay_62 : decode cX10_keepWay 62 = .ok (.aload_n 0, 1) := by decide +kernel
theorem dX10_keepWay_63 : decode cX10_keepWay 63 = .ok (.getfield 22, 3) := by decide +kernel
theorem dX10_keepWay_66 : decode cX10_keepWay 66 = .ok (.iload_n 3, 1) := by decide +kernel
theorem dX10_keepWay_67 : decode cX10_keepWay 67 = .ok (.iload_n 2, 1) := by decide +kernel
theorem dX10_keepWay_68 : decode cX10_keepWay 68 = .ok (.iconst 5, 1) := by decide +kernel
theorem dX10_keepWay_69 : decode cX10_keepWay 69 = .ok (.irem, 1) := by decide +kernel
theorem dX10_keepWay_70 : decode cX10_keepWay 70 = .ok (.iastore, 1) := by decide +kernel
theorem dX10_keepWay_71 : decode cX10_keepWay 71 = .ok (.aload_n 0, 1) := by decide +kernel
theorem dX10_keepWay_72 : decode cX10_keepWay 72 = .ok (.getfield 15, 3) := by decide +kernel
theorem dX10_keepWay_75 : decode cX10_keepWay 75 = .ok (.iload_n 2, 1) := by decide +kernel
theorem dX10_keepWay_76 : decode cX10_keepWay 76 = .ok (.iaload, 1) := by decide +kernel
theorem dX10_keepWay_77 : decode cX10_keepWay 77 = .ok (.istore_n 2, 1) := by decide +kernel
theorem dX10_keepWay_78 : decode cX10_keepWay 78 = .ok (.iinc 3 (-1), 3) := by decide +kernel
theorem dX10_keepWay_81 : decode cX10_keepWay 81 = .ok (.goto (-23), 3) := by decide +kernel
theorem dX10_keepWay_84 : decode cX10_keepWay 84 = .ok (.return_, 1) := by decide +kernel
theorem dX10_state_0 : decode cX10_state 0 = .ok (.iload_n 1, 1) := by decide +kernel
theorem dX10_state_1 : decode cX10_state 1 = .ok (.iconst 5, 1) := by decide +kernel
theorem dX10_state_2 : decode cX10_state 2 = .ok (.imul, 1) := by decide +kernel
theorem dX10_state_3 : decode cX10_state 3 = .ok (.iload_n 0, 1) := by decide +kernel
theorem dX10_state_4 : decode cX10_state 4 = .ok (.iadd, 1) := by decide +kernel
theorem dX10_state_5 : decode cX10_state 5 = .ok (.ireturn, 1) := by decide +kernel
theorem dX10_find_0 : decode cX10_find 0 = .ok (.iconst 0, 1) := by decide +kernel
theorem dX10_find_1 : decode cX10_find 1 = .ok (.istore 4, 2) := by decide +kernel
theorem dX10_find_3 : decode cX10_find 3 = .ok (.iload 4, 2) := by decide +kernel
theorem dX10_find_5 : decode cX10_find 5 = .ok (.sipush 160, 3) := by decide +kernel
theorem dX10_find_8 : decode cX10_find 8 = .ok (.if_icmp .ge 17, 3) := by decide +kernel
theorem dX10_find_11 : decode cX10_find 11 = .ok (.aload_n 0, 1) := by decide +kernel
theorem dX10_find_12 : decode cX10_find 12 = .ok (.getfield 18, 3) := by decide +kernel
theorem dX10_find_15 : decode cX10_find 15 = .ok (.iload 4, 2) := by decide +kernel
theorem dX10_find_17 : decode cX10_find 17 = .ok (.iconst 0, 1) := by decide +kernel
theorem dX10_find_18 : decode cX10_find 18 = .ok (.bastore, 1) := by decide +kernel
theorem dX10_find_19 : decode cX10_find 19 = .ok (.iinc 4 1, 3) := by decide +kernel
theorem dX10_find_22 : decode cX10_find 22 = .ok (.goto (-19), 3) := by decide +kernel
theorem dX10_find_25 : decode cX10_find 25 = .ok (.iload_n 2, 1) := by decide +kernel
theorem dX10_find_26 : decode cX10_find 26 = .ok (.iconst 1, 1) := by decide +kernel
theorem dX10_find_27 : decode cX10_find 27 = .ok (.iload_n 2, 1) := by decide +kernel
theorem dX10_find_28 : decode cX10_find 28 = .ok (.ishl, 1) := by decide +kernel
theorem dX10_find_29 : decode cX10_find 29 = .ok (.invokestatic 25, 3) := by decide +kernel
theorem dX10_find_32 : decode cX10_find 32 = .ok (.istore 4, 2) := by decide +kernel
theorem dX10_find_34 : decode cX10_find 34 = .ok (.aload_n 0, 1) := by decide +kernel
theorem dX10_find_35 : decode cX10_find 35 = .ok (.getfield 11, 3) := by decide +kernel
theorem dX10_find_38 : decode cX10_find 38 = .ok (.iconst 0, 1) := by decide +kernel
theorem dX10_find_39 : decode cX10_find 39 = .ok (.iload 4, 2) := by decide +kernel
theorem dX10_find_41 : decode cX10_find 41 = .ok (.iastore, 1) := by decide +kernel
theorem dX10_find_42 : decode cX10_find 42 = .ok (.aload_n 0, 1) := by decide +kernel
theorem dX10_find_43 : decode cX10_find 43 = .ok (.getfield 15, 3) := by decide +kernel
theorem dX10_find_46 : decode cX10_find 46 = .ok (.iload 4, 2) := by decide +kernel
theorem dX10_find_48 : decode cX10_find 48 = .ok (.iconst (-1), 1) := by decide +kernel
theorem dX10_find_49 : decode cX10_find 49 = .ok (.iastore, 1) := by decide +kernel
theorem dX10_find_50 : decode cX10_find 50 = .ok (.aload_n 0, 1) := by decide +kernel
theorem dX10_find_51 : decode cX10_find 51 = .ok (.getfield 18, 3) := by decide +kernel
theorem dX10_find_54 : decode cX10_find 54 = .ok (.iload 4, 2) := by decide +kernel
theorem dX10_find_56 : decode cX10_find 56 = .ok (.iconst 1, 1) := by decide +kernel
theorem dX10_find_57 : decode cX10_find 57 = .ok (.bastore, 1) := by decide +kernel
theorem dX10_find_58 : decode cX10_find 58 = .ok (.iconst 1, 1) := by decide +kernel
theorem dX10_find_59 : decode cX10_find 59 = .ok (.istore 5, 2) := by decide +kernel
theorem dX10_find_61 : decode cX10_find 61 = .ok (.iconst 0, 1) := by decide +kernel
theorem dX10_find_62 : decode cX10_find 62 = .ok (.istore 6, 2) := by decide +kernel
theorem dX10_find_64 : decode cX10_find 64 = .ok (.iload 6, 2) := by decide +kernel
theorem dX10_find_66 : decode cX10_find 66 = .ok (.iload 5, 2) := by decide +kernel
theorem dX10_find_68 : decode cX10_find 68 = .ok (.if_icmp .ge 165, 3) := by decide +kernel
theorem dX10_find_71 : decode cX10_find 71 = .ok (.iload 6, 2) := by decide +kernel
theorem dX10_find_73 : decode cX10_find 73 = .ok (.sipush 160, 3) := by decide +kernel
theorem dX10_find_76 : decode cX10_find 76 = .ok (.if_icmp .ge 157, 3) := by decide +kernel
theorem dX10_find_79 : decode cX10_find 79 = .ok (.aload_n 0, 1) := by decide +kernel
theorem dX10_find_80 : decode cX10_find 80 = .ok (.getfield 11, 3) := by decide +kernel
theorem dX10_find_83 : decode cX10_find 83 = .ok (.iload 6, 2) := by decide +kernel
theorem dX10_find_85 : decode cX10_find 85 = .ok (.iaload, 1) := by decide +kernel
theorem dX10_find_86 : decode cX10_find 86 = .ok (.iconst 5, 1) := by decide +kernel
theorem dX10_find_87 : decode cX10_find 87 = .ok (.idiv, 1) := by decide +kernel
theorem dX10_find_88 : decode cX10_find 88 = .ok (.istore 7, 2) := by decide +kernel
theorem dX10_find_90 : decode cX10_find 90 = .ok (.iload_n 3, 1) := by decide +kernel
theorem dX10_find_91 : decode cX10_find 91 = .ok (.iload 7, 2) := by decide +kernel
theorem dX10_find_93 : decode cX10_find 93 = .ok (.iconst (-1), 1) := by decide +kernel
theorem dX10_find_94 : decode cX10_find 94 = .ok (.ixor, 1) := by decide +kernel
theorem dX10_find_95 : decode cX10_find 95 = .ok (.iand, 1) := by decide +kernel
theorem dX10_find_96 : decode cX10_find 96 = .ok (.ifCond .ne 19, 3) := by decide +kernel
theorem dX10_find_99 : decode cX10_find 99 = .ok (.aload_n 0, 1) := by decide +kernel
theorem dX10_find_100 : decode cX10_find 100 = .ok (.aload_n 0, 1) := by decide +kernel
theorem dX10_find_101 : decode cX10_find 101 = .ok (.getfield 11, 3) := by decide +kernel
theorem dX10_find_104 : decode cX10_find 104 = .ok (.iload 6, 2) := by decide +kernel
theorem dX10_find_106 : decode cX10_find 106 = .ok (.iaload, 1) := by decide +kernel
theorem dX10_find_107 : decode cX10_find 107 = .ok (.invokevirtual 29, 3) := by decide +kernel
theorem dX10_find_110 : decode cX10_find 110 = .ok (.aload_n 0, 1) := by decide +kernel
theorem dX10_find_111 : decode cX10_find 111 = .ok (.getfield 33, 3) := by decide +kernel
theorem dX10_find_114 : decode cX10_find 114 = .ok (.ireturn, 1) := by decide +kernel
theorem dX10_find_115 : decode cX10_find 115 = .ok (.aload_n 1, 1) := by decide +kernel
theorem dX10_find_116 : decode cX10_find 116 = .ok (.getfield 37, 3) := by decide +kernel
theorem dX10_find_119 : decode cX10_find 119 = .ok (.aload_n 0, 1) := by decide +kernel
theorem dX10_find_120 : decode cX10_find 120 = .ok (.getfield 11, 3) := by decide +kernel
theorem dX10_find_123 : decode cX10_find 123 = .ok (.iload 6, 2) := by decide +kernel
theorem dX10_find_125 : decode cX10_find 125 = .ok (.iaload, 1) := by decide +kernel
theorem dX10_find_126 : decode cX10_find 126 = .ok (.iconst 5, 1) := by decide +kernel
theorem dX10_find_127 : decode cX10_find 127 = .ok (.irem, 1) := by decide +kernel
theorem dX10_find_128 : decode cX10_find 128 = .ok (.iaload, 1) := by decide +kernel
theorem dX10_find_129 : decode cX10_find 129 = .ok (.istore 8, 2) := by decide +kernel
theorem dX10_find_131 : decode cX10_find 131 = .ok (.iconst 0, 1) := by decide +kernel
theorem dX10_find_132 : decode cX10_find 132 = .ok (.istore 9, 2) := by decide +kernel
theorem dX10_find_134 : decode cX10_find 134 = .ok (.iload 9, 2) := by decide +kernel
theorem dX10_find_136 : decode cX10_find 136 = .ok (.aload_n 1, 1) := by decide +kernel
theorem dX10_find_137 : decode cX10_find 137 = .ok (.getfield 42, 3) := by decide +kernel
theorem dX10_find_140 : decode cX10_find 140 = .ok (.iconst 0, 1) := by decide +kernel
theorem dX10_find_141 : decode cX10_find 141 = .ok (.iaload, 1) := by decide +kernel
theorem dX10_find_142 : decode cX10_find 142 = .ok (.if_icmp .ge 85, 3) := by decide +kernel
theorem dX10_find_145 : decode cX10_find 145 = .ok (.iload 9, 2) := by decide +kernel
theorem dX10_find_147 : decode cX10_find 147 = .ok (.iload 7, 2) := by decide +kernel
theorem dX10_find_149 : decode cX10_find 149 = .ok (.iconst 1, 1) := by decide +kernel
theorem dX10_find_150 : decode cX10_find 150 = .ok (.iload 9, 2) := by decide +kernel
theorem dX10_find_152 : decode cX10_find 152 = .ok (.ishl, 1) := by decide +kernel
theorem dX10_find_153 : decode cX10_find 153 = .ok (.ior, 1) := by decide +kernel
theorem dX10_find_154 : decode cX10_find 154 = .ok (.invokestatic 25, 3) := by decide +kernel
theorem dX10_find_157 : decode cX10_find 157 = .ok (.istore 10, 2) := by decide +kernel
theorem dX10_find_159 : decode cX10_find 159 = .ok (.iload 8, 2) := by decide +kernel
theorem dX10_find_161 : decode cX10_find 161 = .ok (.iload 9, 2) := by decide +kernel
theorem dX10_find_163 : decode cX10_find 163 = .ok (.invokestatic 45, 3) := by decide +kernel
theorem dX10_find_166 : decode cX10_find 166 = .ok (.ifCond .eq 55, 3) := by decide +kernel
theorem dX10_find_169 : decode cX10_find 169 = .ok (.aload_n 0, 1) := by decide +kernel
theorem dX10_find_170 : decode cX10_find 170 = .ok (.getfield 18, 3) := by decide +kernel
theorem dX10_find_173 : decode cX10_find 173 = .ok (.iload 10, 2) := by decide +kernel
theorem dX10_find_175 : decode cX10_find 175 = .ok (.baload, 1) := by decide +kernel
theorem dX10_find_176 : decode cX10_find 176 = .ok (.ifCond .ne 45, 3) := by decide +kernel
theorem dX10_find_179 : decode cX10_find 179 = .ok (.iload 5, 2) := by decide +kernel
theorem dX10_find_181 : decode cX10_find 181 = .ok (.sipush 160, 3) := by decide +kernel
theorem dX10_find_184 : decode cX10_find 184 = .ok (.if_icmp .ge 37, 3) := by decide +kernel
theorem dX10_find_187 : decode cX10_find 187 = .ok (.aload_n 0, 1) := by decide +kernel
theorem dX10_find_188 : decode cX10_find 188 = .ok (.getfield 18, 3) := by decide +kernel
theorem dX10_find_191 : decode cX10_find 191 = .ok (.iload 10, 2) := by decide +kernel
theorem dX10_find_193 : decode cX10_find 193 = .ok (.iconst 1, 1) := by decide +kernel
theorem dX10_find_194 : decode cX10_find 194 = .ok (.bastore, 1) := by decide +kernel
theorem dX10_find_195 : decode cX10_find 195 = .ok (.aload_n 0, 1) := by decide +kernel
theorem dX10_find_196 : decode cX10_find 196 = .ok (.getfield 15, 3) := by decide +kernel
theorem dX10_find_199 : decode cX10_find 199 = .ok (.iload 10, 2) := by decide +kernel
theorem dX10_find_201 : decode cX10_find 201 = .ok (.aload_n 0, 1) := by decide +kernel
theorem dX10_find_202 : decode cX10_find 202 = .ok (.getfield 11, 3) := by decide +kernel
theorem dX10_find_205 : decode cX10_find 205 = .ok (.iload 6, 2) := by decide +kernel
theorem dX10_find_207 : decode cX10_find 207 = .ok (.iaload, 1) := by decide +kernel
theorem dX10_find_208 : decode cX10_find 208 = .ok (.iastore, 1) := by decide +kernel
theorem dX10_find_209 : decode cX10_find 209 = .ok (.aload_n 0, 1) := by decide +kernel
theorem dX10_find_210 : decode cX10_find 210 = .ok (.getfield 11, 3) := by decide +kernel
theorem dX10_find_213 : decode cX10_find 213 = .ok (.iload 5, 2) := by decide +kernel
theorem dX10_find_215 : decode cX10_find 215 = .ok (.iload 10, 2) := by decide +kernel
theorem dX10_find_217 : decode cX10_find 217 = .ok (.iastore, 1) := by decide +kernel
theorem dX10_find_218 : decode cX10_find 218 = .ok (.iinc 5 1, 3) := by decide +kernel
theorem dX10_find_221 : decode cX10_find 221 = .ok (.iinc 9 1, 3) := by decide +kernel
theorem dX10_find_224 : decode cX10_find 224 = .ok (.goto (-90), 3) := by decide +kernel
theorem dX10_find_227 : decode cX10_find 227 = .ok (.iinc 6 1, 3) := by decide +kernel
theorem dX10_find_230 : decode cX10_find 230 = .ok (.goto (-166), 3) := by decide +kernel
theorem dX10_find_233 : decode cX10_find 233 = .ok (.iconst (-1), 1) := by decide +kernel
theorem dX10_find_234 : decode cX10_find 234 = .ok (.ireturn, 1) := by decide +kernel
theorem dX11_allBits_0 : decode cX11_allBits 0 = .ok (.iconst 1, 1) := by decide +kernel
theorem dX11_allBits_1 : decode cX11_allBits 1 = .ok (.iload_n 0, 1) := by decide +kernel
theorem dX11_allBits_2 : decode cX11_allBits 2 = .ok (.ishl, 1) := by decide +kernel
theorem dX11_allBits_3 : decode cX11_allBits 3 = .ok (.iconst 1, 1) := by decide +kernel
theorem dX11_allBits_4 : decode cX11_allBits 4 = .ok (.isub, 1) := by decide +kernel
theorem dX11_allBits_5 : decode cX11_allBits 5 = .ok (.ireturn, 1) := by decide +kernel
theorem dX11_ask_0 : decode cX11_ask 0 = .ok (.aload_n 0, 1) := by decide +kernel
theorem dX11_ask_1 : decode cX11_ask 1 = .ok (.getfield 107, 3) := by decide +kernel
theorem dX11_ask_4 : decode cX11_ask 4 = .ok (.ireturn, 1) := by decide +kernel
theorem dX9_clear_0 : decode cX9_clear 0 = .ok (.aload_n 0, 1) := by decide +kernel
theorem dX9_clear_1 : decode cX9_clear 1 = .ok (.iconst 0, 1) := by decide +kernel
theorem dX9_clear_2 : decode cX9_clear 2 = .ok (.putfield 31, 3) := by decide +kernel
theorem dX9_clear_5 : decode cX9_clear 5 = .ok (.return_, 1) := by decide +kernel
theorem dX11_endReading_0 : decode cX11_endReading 0 = .ok (.aload_n 0, 1) := by decide +kernel
theorem dX11_endReading_1 : decode cX11_endReading 1 = .ok (.aload_n 0, 1) := by decide +kernel
theorem dX11_endReading_2 : decode cX11_endReading 2 = .ok (.getfield 10, 3) := by decide +kernel
theorem dX11_endReading_5 : decode cX11_endReading 5 = .ok (.getfield 409, 3) := by decide +kernel
theorem dX11_endReading_8 : decode cX11_endReading 8 = .ok (.putfield 146, 3) := by decide +kernel
theorem dX11_endReading_11 : decode cX11_endReading 11 = .ok (.aload_n 0, 1) := by decide +kernel
theorem dX11_endReading_12 : decode cX11_endReading 12 = .ok (.getfield 10, 3) := by decide +kernel
theorem dX11_endReading_15 : decode cX11_endReading 15 = .ok (.invokevirtual 294, 3) := by decide +kernel
theorem dX11_endReading_18 : decode cX11_endReading 18 = .ok (.return_, 1) := by decide +kernel
theorem dX6_copyFrom_0 : decode cX6_copyFrom 0 = .ok (.aload_n 0, 1) := by decide +kernel
theorem dX6_copyFrom_1 : decode cX6_copyFrom 1 = .ok (.aload_n 1, 1) := by decide +kernel
theorem dX6_copyFrom_2 : decode cX6_copyFrom 2 = .ok (.getfield 42, 3) := by decide +kernel
theorem dX6_copyFrom_5 : decode cX6_copyFrom 5 = .ok (.putfield 42, 3) := by decide +kernel
theorem dX6_copyFrom_8 : decode cX6_copyFrom 8 = .ok (.aload_n 0, 1) := by decide +kernel
theorem dX6_copyFrom_9 : decode cX6_copyFrom 9 = .ok (.aload_n 1, 1) := by decide +kernel
theorem dX6_copyFrom_10 : decode cX6_copyFrom 10 = .ok (.getfield 46, 3) := by decide +kernel
theorem dX6_copyFrom_13 : decode cX6_copyFrom 13 = .ok (.putfield 46, 3) := by decide +kernel
theorem dX6_copyFrom_16 : decode cX6_copyFrom 16 = .ok (.aload_n 1, 1) := by decide +kernel
theorem dX6_copyFrom_17 : decode cX6_copyFrom 17 = .ok (.getfield 9, 3) := by decide +kernel
theorem dX6_copyFrom_20 : decode cX6_copyFrom 20 = .ok (.iconst 0, 1) := by decide +kernel
theorem dX6_copyFrom_21 : decode cX6_copyFrom 21 = .ok (.aload_n 0, 1) := by decide +kernel
theorem dX6_copyFrom_22 : decode cX6_copyFrom 22 = .ok (.getfield 9, 3) := by decide +kernel
theorem dX6_copyFrom_25 : decode cX6_copyFrom 25 = .ok (.iconst 0, 1) := by decide +kernel
theorem dX6_copyFrom_26 : decode cX6_copyFrom 26 = .ok (.aload_n 0, 1) := by decide +kernel
theorem dX6_copyFrom_27 : decode cX6_copyFrom 27 = .ok (.getfield 46, 3) := by decide +kernel
theorem dX6_copyFrom_30 : decode cX6_copyFrom 30 = .ok (.invokestatic 54, 3) := by decide +kernel
theorem dX6_copyFrom_33 : decode cX6_copyFrom 33 = .ok (.aload_n 1, 1) := by decide +kernel
theorem dX6_copyFrom_34 : decode cX6_copyFrom 34 = .ok (.getfield 15, 3) := by decide +kernel
theorem dX6_copyFrom_37 : decode cX6_copyFrom 37 = .ok (.iconst 0, 1) := by decide +kernel
theorem dX6_copyFrom_38 : decode cX6_copyFrom 38 = .ok (.aload_n 0, 1) := by decide +kernel
theorem dX6_copyFrom_39 : decode cX6_copyFrom 39 = .ok (.getfield 15, 3) := by decide +kernel
theorem dX6_copyFrom_42 : decode cX6_copyFrom 42 = .ok (.iconst 0, 1) := by decide +kernel
theorem dX6_copyFrom_43 : decode cX6_copyFrom 43 = .ok (.aload_n 0, 1) := by decide +kernel
theorem dX6_copyFrom_44 : decode cX6_copyFrom 44 = .ok (.getfield 46, 3) := by decide +kernel
theorem dX6_copyFrom_47 : decode cX6_copyFrom 47 = .ok (.invokestatic 54, 3) := by decide +kernel
theorem dX6_copyFrom_50 : decode cX6_copyFrom 50 = .ok (.aload_n 1, 1) := by decide +kernel
theorem dX6_copyFrom_51 : decode cX6_copyFrom 51 = .ok (.getfield 18, 3) := by decide +kernel
theorem dX6_copyFrom_54 : decode cX6_copyFrom 54 = .ok (.iconst 0, 1) := by decide +kernel
theorem dX6_copyFrom_55 : decode cX6_copyFrom 55 = .ok (.aload_n 0, 1) := by decide +kernel
theorem dX6_copyFrom_56 : decode cX6_copyFrom 56 = .ok (.getfield 18, 3) := by decide +kernel
theorem dX6_copyFrom_59 : decode cX6_copyFrom 59 = .ok (.iconst 0, 1) := by decide +kernel
theorem dX6_copyFrom_60 : decode cX6_copyFrom 60 = .ok (.aload_n 0, 1) := by decide +kernel
theorem dX6_copyFrom_61 : decode cX6_copyFrom 61 = .ok (.getfield 46, 3) := by decide +kernel
theorem dX6_copyFrom_64 : decode cX6_copyFrom 64 = .ok (.invokestatic 54, 3) := by decide +kernel
theorem dX6_copyFrom_67 : decode cX6_copyFrom 67 = .ok (.aload_n 1, 1) := by decide +kernel
theorem dX6_copyFrom_68 : decode cX6_copyFrom 68 = .ok (.getfield 21, 3) := by decide +kernel
theorem dX6_copyFrom_71 : decode cX6_copyFrom 71 = .ok (.iconst 0, 1) := by decide +kernel
theorem dX6_copyFrom_72 : decode cX6_copyFrom 72 = .ok (.aload_n 0, 1) := by decide +kernel
theorem dX6_copyFrom_73 : decode cX6_copyFrom 73 = .ok (.getfield 21, 3) := by decide +kernel
theorem dX6_copyFrom_76 : decode cX6_copyFrom 76 = .ok (.iconst 0, 1) := by decide +kernel
theorem dX6_copyFrom_77 : decode cX6_copyFrom 77 = .ok (.aload_n 0, 1) := by decide +kernel
theorem dX6_copyFrom_78 : decode cX6_copyFrom 78 = .ok (.getfield 46, 3) := by decide +kernel
theorem dX6_copyFrom_81 : decode cX6_copyFrom 81 = .ok (.invokestatic 54, 3) := by decide +kernel
theorem dX6_copyFrom_84 : decode cX6_copyFrom 84 = .ok (.iconst 0, 1) := by decide +kernel
theorem dX6_copyFrom_85 : decode cX6_copyFrom 85 = .ok (.istore_n 2, 1) := by decide +kernel
theorem dX6_copyFrom_86 : decode cX6_copyFrom 86 = .ok (.iload_n 2, 1) := by decide +kernel
theorem dX6_copyFrom_87 : decode cX6_copyFrom 87 = .ok (.bipush 6, 2) := by decide +kernel
theorem dX6_copyFrom_89 : decode cX6_copyFrom 89 = .ok (.if_icmp .ge 30, 3) := by decide +kernel
theorem dX6_copyFrom_92 : decode cX6_copyFrom 92 = .ok (.aload_n 1, 1) := by decide +kernel
theorem dX6_copyFrom_93 : decode cX6_copyFrom 93 = .ok (.getfield 26, 3) := by decide +kernel
theorem dX6_copyFrom_96 : decode cX6_copyFrom 96 = .ok (.iload_n 2, 1) := by decide +kernel
theorem dX6_copyFrom_97 : decode cX6_copyFrom 97 = .ok (.aaload, 1) := by decide +kernel
theorem dX6_copyFrom_98 : decode cX6_copyFrom 98 = .ok (.iconst 0, 1) := by decide +kernel
theorem dX6_copyFrom_99 : decode cX6_copyFrom 99 = .ok (.aload_n 0, 1) := by decide +kernel
theorem dX6_copyFrom_100 : decode cX6_copyFrom 100 = .ok (.getfield 26, 3) := by decide +kernel
theorem dX6_copyFrom_103 : decode cX6_copyFrom 103 = .ok (.iload_n 2, 1) := by decide +kernel
theorem dX6_copyFrom_104 : decode cX6_copyFrom 104 = .ok (.aaload, 1) := by decide +kernel
theorem dX6_copyFrom_105 : decode cX6_copyFrom 105 = .ok (.iconst 0, 1) := by decide +kernel
theorem dX6_copyFrom_106 : decode cX6_copyFrom 106 = .ok (.aload_n 0, 1) := by decide +kernel
theorem dX6_copyFrom_107 : decode cX6_copyFrom 107 = .ok (.getfield 46, 3) := by decide +kernel
theorem dX6_copyFrom_110 : decode cX6_copyFrom 110 = .ok (.invokestatic 54, 3) := by decide +kernel
theorem dX6_copyFrom_113 : decode cX6_copyFrom 113 = .ok (.iinc 2 1, 3) := by decide +kernel
theorem dX6_copyFrom_116 : decode cX6_copyFrom 116 = .ok (.goto (-30), 3) := by decide +kernel
theorem dX6_copyFrom_119 : decode cX6_copyFrom 119 = .ok (.aload_n 1, 1) := by decide +kernel
theorem dX6_copyFrom_120 : decode cX6_copyFrom 120 = .ok (.getfield 29, 3) := by decide +kernel
theorem dX6_copyFrom_123 : decode cX6_copyFrom 123 = .ok (.iconst 0, 1) := by decide +kernel
theorem dX6_copyFrom_124 : decode cX6_copyFrom 124 = .ok (.aload_n 0, 1) := by decide +kernel
theorem dX6_copyFrom_125 : decode cX6_copyFrom 125 = .ok (.getfield 29, 3) := by decide +kernel
theorem dX6_copyFrom_128 : decode cX6_copyFrom 128 = .ok (.iconst 0, 1) := by decide +kernel
theorem dX6_copyFrom_129 : decode cX6_copyFrom 129 = .ok (.bipush 6, 2) := by decide +kernel
theorem dX6_copyFrom_131 : decode cX6_copyFrom 131 = .ok (.invokestatic 54, 3) := by decide +kernel
theorem dX6_copyFrom_134 : decode cX6_copyFrom 134 = .ok (.aload_n 1, 1) := by decide +kernel
theorem dX6_copyFrom_135 : decode cX6_copyFrom 135 = .ok (.getfield 32, 3) := by decide +kernel
theorem dX6_copyFrom_138 : decode cX6_copyFrom 138 = .ok (.iconst 0, 1) := by decide +kernel
theorem dX6_copyFrom_139 : decode cX6_copyFrom 139 = .ok (.aload_n 0, 1) := by decide +kernel
theorem dX6_copyFrom_140 : decode cX6_copyFrom 140 = .ok (.getfield 32, 3) := by decide +kernel
theorem dX6_copyFrom_143 : decode cX6_copyFrom 143 = .ok (.iconst 0, 1) := by decide +kernel
theorem dX6_copyFrom_144 : decode cX6_copyFrom 144 = .ok (.bipush 6, 2) := by decide +kernel
theorem dX6_copyFrom_146 : decode cX6_copyFrom 146 = .ok (.invokestatic 54, 3) := by decide +kernel
theorem dX6_copyFrom_149 : decode cX6_copyFrom 149 = .ok (.aload_n 1, 1) := by decide +kernel
theorem dX6_copyFrom_150 : decode cX6_copyFrom 150 = .ok (.getfield 35, 3) := by decide +kernel
theorem dX6_copyFrom_153 : decode cX6_copyFrom 153 = .ok (.iconst 0, 1) := by decide +kernel
theorem dX6_copyFrom_154 : decode cX6_copyFrom 154 = .ok (.aload_n 0, 1) := by decide +kernel
theorem dX6_copyFrom_155 : decode cX6_copyFrom 155 = .ok (.getfield 35, 3) := by decide +kernel
theorem dX6_copyFrom_158 : decode cX6_copyFrom 158 = .ok (.iconst 0, 1) := by decide +kernel
theorem dX6_copyFrom_159 : decode cX6_copyFrom 159 = .ok (.bipush 6, 2) := by decide +kernel
theorem dX6_copyFrom_161 : decode cX6_copyFrom 161 = .ok (.invokestatic 54, 3) := by decide +kernel
theorem dX6_copyFrom_164 : decode cX6_copyFrom 164 = .ok (.return_, 1) := by decide +kernel
theorem dX7_keep_0 : decode cX7_keep 0 = .ok (.aload_n 0, 1) := by decide +kernel
theorem dX7_keep_1 : decode cX7_keep 1 = .ok (.getfield 11, 3) := by decide +kernel
theorem dX7_keep_4 : decode cX7_keep 4 = .ok (.aload_n 0, 1) := by decide +kernel
theorem dX7_keep_5 : decode cX7_keep 5 = .ok (.getfield 24, 3) := by decide +kernel
theorem dX7_keep_8 : decode cX7_keep 8 = .ok (.aaload, 1) := by decide +kernel
theorem dX7_keep_9 : decode cX7_keep 9 = .ok (.aload_n 1, 1) := by decide +kernel
theorem dX7_keep_10 : decode cX7_keep 10 = .ok (.invokevirtual 27, 3) := by decide +kernel
theorem dX7_keep_13 : decode cX7_keep 13 = .ok (.aload_n 0, 1) := by decide +kernel
theorem dX7_keep_14 : decode cX7_keep 14 = .ok (.aload_n 0, 1) := by decide +kernel
theorem dX7_keep_15 : decode cX7_keep 15 = .ok (.getfield 24, 3) := by decide +kernel
theorem dX7_keep_18 : decode cX7_keep 18 = .ok (.iconst 1, 1) := by decide +kernel
theorem dX7_keep_19 : decode cX7_keep 19 = .ok (.iadd, 1) := by decide +kernel
theorem dX7_keep_20 : decode cX7_keep 20 = .ok (.bipush 8, 2) := by decide +kernel
theorem dX7_keep_22 : decode cX7_keep 22 = .ok (.irem, 1) := by decide +kernel
theorem dX7_keep_23 : decode cX7_keep 23 = .ok (.putfield 24, 3) := by decide +kernel
theorem dX7_keep_26 : decode cX7_keep 26 = .ok (.aload_n 0, 1) := by decide +kernel
theorem dX7_keep_27 : decode cX7_keep 27 = .ok (.bipush 8, 2) := by decide +kernel
theorem dX7_keep_29 : decode cX7_keep 29 = .ok (.aload_n 0, 1) := by decide +kernel
theorem dX7_keep_30 : decode cX7_keep 30 = .ok (.getfield 20, 3) := by decide +kernel
theorem dX7_keep_33 : decode cX7_keep 33 = .ok (.iconst 1, 1) := by decide +kernel
theorem dX7_keep_34 : decode cX7_keep 34 = .ok (.iadd, 1) := by decide +kernel
theorem dX7_keep_35 : decode cX7_keep 35 = .ok (.invokestatic 31, 3) := by decide +kernel
theorem dX7_keep_38 : decode cX7_keep 38 = .ok (.putfield 20, 3) := by decide +kernel
theorem dX7_keep_41 : decode cX7_keep 41 = .ok (.return_, 1) := by decide +kernel
-- X3_placeOfWord
abbrev rmX3_placeOfWord : Room := { frames := 0, cells := 0, slots := 0, locals := 0 }
def fX3_placeOfWord_2 (S : zSt) (a0 : Nat) (v1 : Int64) (t : Int32) : Option (Int32 ⊕ Int32) :=
  match t with
  | v3 => zBr ((S.1 a0 9) ≤ v3) (zXr (some (-1 : Int32))) (zGd (zIx v3 20) (zBr ((lg_cmp (S.2 (a0 + 7) v3.toNatClampNeg) v1) = 0) (zXr (some v3)) (zLt (v3 + (1 : Int32)) (fun x5 => some (.inl (x5))))))
set_option maxHeartbeats 4000000 in
set_option maxRecDepth 100000 in
theorem kX3_placeOfWord_2B {p : Program} {l : Launch} {e : Env} {s : State} {m : MethodId} {args : Array Value} {below : List Frame} {meth : Method} {c : Code} {D : va_G} {cy : Nat → ClassId} {q : Nat → Nat} (cx : zX RX3 cX3_placeOfWord 4 p s m args c D cy) (hr : meth.sig.returnType = (some .int)) (hlk : meth.locks = false) {a0 : Nat} (ha0 : zHouse a0) {z : Int32} {S : zSt} {v1 : Int64} {v3 : Int32} {C1 : (Int32 ⊕ Int32) → Prop} (hb1 : ∀ (v3 : Int32), C1 (.inl (v3)) → ∀ (ls : Array Slot), lv_has ls 4 [(0, .ref (q a0)), (1, .long v1), (3, .int v3)] → W p l e rmX3_placeOfWord s m args below meth c s.heap [] 0 0 (MQ below (vp_Si (fun x => x = z)) args s 0 0 (fun _ => False)) (F0 m 2 ls [])) (hx1 : ∀ a, C1 (.inr a) → a = z) (hP : va_P D vwCl (zW zsh zNC cy q S) s.heap) {x : (Int32 ⊕ Int32)} (h : fX3_placeOfWord_2 S a0 v1 (v3) = some x) (hc : C1 x) {ls : Array Slot} (hl : lv_has ls 4 [(0, .ref (q a0)), (1, .long v1), (3, .int v3)]) : W p l e rmX3_placeOfWord s m args below meth c s.heap [] 0 0 (MQ below (vp_Si (fun x => x = z)) args s 0 0 (fun _ => False)) (F0 m 2 ls []) := by
  have hx := cx.1
  have hb := cx.2.1
  unfold fX3_placeOfWord_2 at h
  dsimp only at h
  refine lv_iload_n (pc := 2) hx hb dX3_placeOfWord_2 rfl (lv_at hl 2 rfl) ?_
  refine lv_aload_n (pc := 3) hx hb dX3_placeOfWord_3 rfl (lv_at hl 0 rfl) ?_
  refine zr_getI (pc := 4) cx lk_X3_47 hP (nX3_0 ha0) (sX3_0 ha0) rfl dX3_placeOfWord_4 ?_
  refine lv_icmp_ge (pc := 7) (tgt := 29) hx hb dX3_placeOfWord_7 (by decide) (fun c1 => ?_) (fun c1 => ?_)
  · replace h := zBr_t c1 h
    obtain ⟨y2, h, ex⟩ := zXr_e h
    have hc := hx1 y2 (by rw [ex] at hc; exact hc)
    rw [hc] at h
    refine lv_iconst (pc := 29) hx hb dX3_placeOfWord_29 zc_m1 ?_
    have hz := Option.some.inj h
    exact zr_reI (pc := 30) cx hr hlk hz dX3_placeOfWord_30
  · replace h := zBr_f c1 h
    refine lv_aload_n (pc := 10) hx hb dX3_placeOfWord_10 rfl (lv_at hl 0 rfl) ?_
    refine zr_getR (pc := 11) (t := (a0 + 7)) cx lk_X3_31 hP (nX3_0 ha0) (sX3_0 ha0) rfl dX3_placeOfWord_11 ?_
    refine lv_iload_n (pc := 14) hx hb dX3_placeOfWord_14 rfl (lv_at hl 2 rfl) ?_
    obtain ⟨g3, h⟩ := zGd_e h
    refine zr_lald (pc := 15) cx hP (nX3_7 ha0) (sX3_7 ha0) g3 dX3_placeOfWord_15 ?_
    refine lv_lload_n (pc := 16) hx hb dX3_placeOfWord_16 rfl (lv_at hl 1 rfl) ?_
    refine W.lcmp (pc := 17) hx hb dX3_placeOfWord_17 ?_
    refine lv_if_ne (pc := 18) (tgt := 23) hx hb dX3_placeOfWord_18 (by decide) (fun c4 => ?_) (fun c4 => ?_)
    · replace h := zBr_f c4 h
      obtain ⟨x5, ex5, h⟩ := zLt_e h
      refine lv_iinc (v := x5) (lv' := [(3, .int x5), (0, .ref (q a0)), (1, .long v1)]) (pc := 23) hx hb dX3_placeOfWord_23 hl (k := 2) rfl (by rw [zc_1]; exact ex5.symm) (by decide) rfl (fun ls hl => ?_)
      refine lv_goto (pc := 26) (tgt := 2) hx hb dX3_placeOfWord_26 (by decide) ?_
      cases h
      exact hb1 _ hc _ (lv_sub hl [1, 2, 0] rfl)
    · replace h := zBr_t c4 h
      obtain ⟨y6, h, ex⟩ := zXr_e h
      have hc := hx1 y6 (by rw [ex] at hc; exact hc)
      rw [hc] at h
      refine lv_iload_n (pc := 21) hx hb dX3_placeOfWord_21 rfl (lv_at hl 2 rfl) ?_
      have hz := Option.some.inj h
      exact zr_reI (pc := 22) cx hr hlk hz dX3_placeOfWord_22
set_option maxHeartbeats 4000000 in
set_option maxRecDepth 100000 in
theorem kX3_placeOfWord_2 {p : Program} {l : Launch} {e : Env} {s : State} {m : MethodId} {args : Array Value} {below : List Frame} {meth : Method} {c : Code} {D : va_G} {cy : Nat → ClassId} {q : Nat → Nat} (cx : zX RX3 cX3_placeOfWord 4 p s m args c D cy) (hr : meth.sig.returnType = (some .int)) (hlk : meth.locks = false) {a0 : Nat} (ha0 : zHouse a0) {z : Int32} {S : zSt} {v1 : Int64} (hP : va_P D vwCl (zW zsh zNC cy q S) s.heap) : ∀ (n : Nat) (v3 : Int32), zLp (fX3_placeOfWord_2 S a0 v1) n (v3) = some z → ∀ (ls : Array Slot), lv_has ls 4 [(0, .ref (q a0)), (1, .long v1), (3, .int v3)] → W p l e rmX3_placeOfWord s m args below meth c s.heap [] 0 0 (MQ below (vp_Si (fun x => x = z)) args s 0 0 (fun _ => False)) (F0 m 2 ls []) := by
  intro n
  induction n with
  | zero =>
    intro v3 h
    cases h
  | succ n ih =>
    intro v3 h ls hl
    obtain ⟨x, h, hk⟩ := zLp_e h
    exact kX3_placeOfWord_2B cx hr hlk ha0  (C1 := zKt (fun t => zLp (fX3_placeOfWord_2 S a0 v1) n t = some z) (fun a => a = z)) (fun v3 ht ls hl => ih v3 ht ls hl) (fun a ha => ha) hP h hk hl
def fX3_placeOfWord (S : zSt) (a0 : Nat) (v1 : Int64) : Option Int32 :=
  zLp (fX3_placeOfWord_2 S a0 v1) 2000 ((0 : Int32))
set_option maxHeartbeats 4000000 in
set_option maxRecDepth 100000 in
theorem mX3_placeOfWord {l : Launch} {D : va_G} {cy : Nat → ClassId} {q : Nat → Nat} {S : zSt} {a0 : Nat} {v1 : Int64} (ha0 : zHouse a0) {z : Int32} (h : fX3_placeOfWord S a0 v1 = some z) : zMi l yX3_placeOfWord cX3_placeOfWord 4 (some .int) rmX3_placeOfWord [.ref (q a0), .long v1] (zPr zsh zNC D cy q S) z := by
  refine Met.ofW (cc := cX3_placeOfWord) (maxL := 4) (ret := (some .int)) (by decide) rfl ?_
  intro p e s m args below meth c s₁ B hml hv
  obtain ⟨rfl, hP, hK⟩ := hv
  have cx : zX RX3 cX3_placeOfWord 4 p s m ([.ref (q a0), .long v1]).toArray c D cy := ⟨B.exec, B.bytes, hml, findClass_of_methodNamed B.named, fun w hw => atoms_spec (ws := Cond.code yX3_placeOfWord cX3_placeOfWord 4 (some .int) :: zTB) B.pre w (List.mem_cons_of_mem _ hw), hK⟩
  have hx := cx.1
  have hb := cx.2.1
  have hr := B.returns
  have hlk := B.notSynchronized
  have hl := lv_entry ([.ref (q a0), .long v1]) (n := 4) (Nat.le_of_ble_eq_true rfl)
  rw [lg_entry_eq]
  generalize (lg_sl ([.ref (q a0), .long v1]) ++ List.replicate (4 - (lg_sl ([.ref (q a0), .long v1])).length) Slot.unset).toArray = ls at hl ⊢
  have hl : lv_has ls 4 [(0, .ref (q a0)), (1, .long v1)] := hl
  unfold fX3_placeOfWord at h
  refine lv_iconst (pc := 0) hx hb dX3_placeOfWord_0 zc_0 ?_
  refine lv_istore_n (lv' := [(3, .int (0 : Int32)), (0, .ref (q a0)), (1, .long v1)]) (pc := 1) hx hb dX3_placeOfWord_1 rfl hl (by decide) rfl (fun ls hl => ?_)
  exact kX3_placeOfWord_2 cx hr hlk ha0 hP 2000 _ h _ (lv_sub hl [1, 2, 0] rfl)
-- X9_takeKnown
abbrev rmX9_takeKnown : Room := { frames := 2, cells := 0, slots := 0, locals := 46 }
def fX9_takeKnown_41 (S : zSt) (a1 : Nat) : Option (Int32 × zSt) :=
  zBp (fX9_fail S (3 : Int32)) (fun r7 S6 => some ((-1 : Int32), S6))
set_option maxHeartbeats 4000000 in
set_option maxRecDepth 100000 in
theorem kX9_takeKnown_41 {p : Program} {l : Launch} {e : Env} {s : State} {m : MethodId} {args : Array Value} {below : List Frame} {meth : Method} {c : Code} {D : va_G} {cy : Nat → ClassId} {q : Nat → Nat} {A : Nat → Prop} (cx : zX RX9 cX9_takeKnown 4 p s m args c D cy) (hr : meth.sig.returnType = (some .int)) (hlk : meth.locks = false) (hq : zQ A q zNC) {a1 : Nat} (ha1 : zHouse a1) {z : (Int32 × zSt)} {S : zSt} (h : fX9_takeKnown_41 S a1 = some z) {H : Heap} {locs : List Loc} (hP : va_P D vwCl (zW zsh zNC cy q S) H) (hS : va_S A s.heap H locs) {ls : Array Slot} (hl : lv_has ls 4 [(0, .ref (q 1))]) : W p l e rmX9_takeKnown s m args below meth c H locs 0 0 (MQ below (va_Qi (fun (r : Int32) (u : zSt) => (r, u) = z) (fun u t => va_P D vwCl (zW zsh zNC cy q u) t.heap) A) args s 0 0 A) (F0 m 41 ls []) := by
  have hx := cx.1
  have hb := cx.2.1
  unfold fX9_takeKnown_41 at h
  refine lv_aload_n (pc := 41) hx hb dX9_takeKnown_41 rfl (lv_at hl 0 rfl) ?_
  refine lv_iconst (pc := 42) hx hb dX9_takeKnown_42 zc_3 ?_
  obtain ⟨r7, S6, k5, h⟩ := zBp_e h
  refine zr_VQ (pc := 43) (rest := []) cx cv_X9_75 (mX9_fail hq k5) ⟨⟨rfl, rfl⟩, Nat.le_of_ble_eq_true rfl, Nat.le_of_ble_eq_true rfl⟩ ⟨Nat.le_of_ble_eq_true rfl, Nat.le_of_ble_eq_true rfl⟩ hP hS nC_1 sC_1 rfl hl.1 rfl rfl (Nat.le_of_ble_eq_true rfl) dX9_takeKnown_43 (fun H locs hP hS => ?_)
  refine lv_pop (pc := 46) hx hb dX9_takeKnown_46 rfl ?_
  refine lv_iconst (pc := 47) hx hb dX9_takeKnown_47 zc_m1 ?_
  have hz := Option.some.inj h
  exact zr_rqI (pc := 48) cx hr hlk hP hS hz dX9_takeKnown_48
def fX9_takeKnown (S : zSt) (a1 : Nat) (v2 : Int32) : Option (Int32 × zSt) :=
  zBr ((S.1 1 5) = (100 : Int32)) (zBd (fX3_placeOfWord S a1 (S.2 1 7)) (fun r3 => zBr (r3 = (-1 : Int32)) (fX9_takeKnown_41 S a1) (zGd (zIx r3 20) (zBr ((S.1 (a1 + 8) r3.toNatClampNeg) = v2) (zBd (fX9_read S) (fun S11 => zGd (zIx r3 20) (some ((S11.1 (a1 + 9) r3.toNatClampNeg), S11)))) (fX9_takeKnown_41 S a1))))) (zBp (fX9_fail S (1 : Int32)) (fun r15 S14 => some ((-1 : Int32), S14)))
set_option maxHeartbeats 4000000 in
set_option maxRecDepth 100000 in
theorem mX9_takeKnown {l : Launch} {D : va_G} {cy : Nat → ClassId} {q : Nat → Nat} {A : Nat → Prop} {S : zSt} {a1 : Nat} {v2 : Int32} (hq : zQ A q zNC) (ha1 : zHouse a1) {z : (Int32 × zSt)} (h : fX9_takeKnown S a1 v2 = some z) : zMq l yX9_takeKnown cX9_takeKnown 4 (some .int) rmX9_takeKnown [.ref (q 1), .ref (q a1), .int v2] zsh zNC D cy q A S z := by
  refine Met.ofW (cc := cX9_takeKnown) (maxL := 4) (ret := (some .int)) (by decide) rfl ?_
  intro p e s m args below meth c s₁ B hml hv
  obtain ⟨rfl, hP, hK⟩ := hv
  have cx : zX RX9 cX9_takeKnown 4 p s m ([.ref (q 1), .ref (q a1), .int v2]).toArray c D cy := ⟨B.exec, B.bytes, hml, findClass_of_methodNamed B.named, fun w hw => atoms_spec (ws := Cond.code yX9_takeKnown cX9_takeKnown 4 (some .int) :: zTB) B.pre w (List.mem_cons_of_mem _ hw), hK⟩
  have hx := cx.1
  have hb := cx.2.1
  have hr := B.returns
  have hlk := B.notSynchronized
  have hS : va_S A s.heap s.heap [] := va_S.rf
  have hl := lv_entry ([.ref (q 1), .ref (q a1), .int v2]) (n := 4) (Nat.le_of_ble_eq_true rfl)
  rw [lg_entry_eq]
  generalize (lg_sl ([.ref (q 1), .ref (q a1), .int v2]) ++ List.replicate (4 - (lg_sl ([.ref (q 1), .ref (q a1), .int v2])).length) Slot.unset).toArray = ls at hl ⊢
  have hl : lv_has ls 4 [(0, .ref (q 1)), (1, .ref (q a1)), (2, .int v2)] := hl
  unfold fX9_takeKnown at h
  refine lv_aload_n (pc := 0) hx hb dX9_takeKnown_0 rfl (lv_at hl 0 rfl) ?_
  refine zr_getI (pc := 1) cx lk_X9_58 hP nC_1 sC_1 rfl dX9_takeKnown_1 ?_
  refine lv_bipush (pc := 4) hx hb dX9_takeKnown_4 zb_100 ?_
  refine lv_icmp_eq (pc := 6) (tgt := 17) hx hb dX9_takeKnown_6 (by decide) (fun c1 => ?_) (fun c1 => ?_)
  · replace h := zBr_t c1 h
    refine lv_aload_n (pc := 17) hx hb dX9_takeKnown_17 rfl (lv_at hl 1 rfl) ?_
    refine lv_aload_n (pc := 18) hx hb dX9_takeKnown_18 rfl (lv_at hl 0 rfl) ?_
    refine zr_getJ (pc := 19) cx lk_X9_64 hP nC_1 sC_1 rfl dX9_takeKnown_19 ?_
    obtain ⟨r3, k2, h⟩ := zBd_e h
    refine zr_VI (pc := 22) (rest := []) cx cv_X9_79 (mX3_placeOfWord ha1 k2) ⟨⟨rfl, rfl⟩, Nat.le_of_ble_eq_true rfl, Nat.le_of_ble_eq_true rfl⟩ ⟨Nat.le_of_ble_eq_true rfl, Nat.le_of_ble_eq_true rfl⟩ hP (nX3_0 ha1) (sX3_0 ha1) rfl hl.1 rfl rfl (Nat.le_of_ble_eq_true rfl) dX9_takeKnown_22 ?_
    refine lv_istore_n (lv' := [(3, .int r3), (0, .ref (q 1)), (1, .ref (q a1)), (2, .int v2)]) (pc := 25) hx hb dX9_takeKnown_25 rfl hl (by decide) rfl (fun ls hl => ?_)
    refine lv_iload_n (pc := 26) hx hb dX9_takeKnown_26 rfl (lv_at hl 0 rfl) ?_
    refine lv_iconst (pc := 27) hx hb dX9_takeKnown_27 zc_m1 ?_
    refine lv_icmp_eq (pc := 28) (tgt := 41) hx hb dX9_takeKnown_28 (by decide) (fun c4 => ?_) (fun c4 => ?_)
    · replace h := zBr_t c4 h
      exact kX9_takeKnown_41 cx hr hlk hq ha1 h hP hS (lv_sub hl [1] rfl)
    · replace h := zBr_f c4 h
      refine lv_aload_n (pc := 31) hx hb dX9_takeKnown_31 rfl (lv_at hl 2 rfl) ?_
      refine zr_getR (pc := 32) (t := (a1 + 8)) cx lk_X9_85 hP (nX3_0 ha1) (sX3_0 ha1) rfl dX9_takeKnown_32 ?_
      refine lv_iload_n (pc := 35) hx hb dX9_takeKnown_35 rfl (lv_at hl 0 rfl) ?_
      obtain ⟨g8, h⟩ := zGd_e h
      refine zr_iald (pc := 36) cx hP (nX3_8 ha1) (sX3_8 ha1) g8 dX9_takeKnown_36 ?_
      refine lv_iload_n (pc := 37) hx hb dX9_takeKnown_37 rfl (lv_at hl 3 rfl) ?_
      refine lv_icmp_eq (pc := 38) (tgt := 49) hx hb dX9_takeKnown_38 (by decide) (fun c9 => ?_) (fun c9 => ?_)
      · replace h := zBr_t c9 h
        refine lv_aload_n (pc := 49) hx hb dX9_takeKnown_49 rfl (lv_at hl 1 rfl) ?_
        obtain ⟨S11, k10, h⟩ := zBd_e h
        refine zr_VV (pc := 50) (rest := []) cx cv_X9_46 (mX9_read hq k10) ⟨⟨rfl, rfl⟩, Nat.le_of_ble_eq_true rfl, Nat.le_of_ble_eq_true rfl⟩ ⟨Nat.le_of_ble_eq_true rfl, Nat.le_of_ble_eq_true rfl⟩ hP hS nC_1 sC_1 rfl hl.1 rfl rfl (Nat.le_of_ble_eq_true rfl) dX9_takeKnown_50 (fun H locs hP hS => ?_)
        refine lv_aload_n (pc := 53) hx hb dX9_takeKnown_53 rfl (lv_at hl 2 rfl) ?_
        refine zr_getR (pc := 54) (t := (a1 + 9)) cx lk_X9_89 hP (nX3_0 ha1) (sX3_0 ha1) rfl dX9_takeKnown_54 ?_
        refine lv_iload_n (pc := 57) hx hb dX9_takeKnown_57 rfl (lv_at hl 0 rfl) ?_
        obtain ⟨g12, h⟩ := zGd_e h
        refine zr_iald (pc := 58) cx hP (nX3_9 ha1) (sX3_9 ha1) g12 dX9_takeKnown_58 ?_
        have hz := Option.some.inj h
        exact zr_rqI (pc := 59) cx hr hlk hP hS hz dX9_takeKnown_59
      · replace h := zBr_f c9 h
        exact kX9_takeKnown_41 cx hr hlk hq ha1 h hP hS (lv_sub hl [1] rfl)
  · replace h := zBr_f c1 h
    refine lv_aload_n (pc := 9) hx hb dX9_takeKnown_9 rfl (lv_at hl 0 rfl) ?_
    refine lv_iconst (pc := 10) hx hb dX9_takeKnown_10 zc_1 ?_
    obtain ⟨r15, S14, k13, h⟩ := zBp_e h
    refine zr_VQ (pc := 11) (rest := []) cx cv_X9_75 (mX9_fail hq k13) ⟨⟨rfl, rfl⟩, Nat.le_of_ble_eq_true rfl, Nat.le_of_ble_eq_true rfl⟩ ⟨Nat.le_of_ble_eq_true rfl, Nat.le_of_ble_eq_true rfl⟩ hP hS nC_1 sC_1 rfl hl.1 rfl rfl (Nat.le_of_ble_eq_true rfl) dX9_takeKnown_11 (fun H locs hP hS => ?_)
    refine lv_pop (pc := 14) hx hb dX9_takeKnown_14 rfl ?_
    refine lv_iconst (pc := 15) hx hb dX9_takeKnown_15 zc_m1 ?_
    have hz := Option.some.inj h
    exact zr_rqI (pc := 16) cx hr hlk hP hS hz dX9_takeKnown_16
-- X0_readCarry
abbrev rmX0_readCarry : Room := { frames := 3, cells := 0, slots := 0, locals := 69 }
def fX0_readCarry (S : zSt) : Option (Int32 × zSt) :=
  zBr ((S.1 240 6) < (40 : Int32)) (zBd (fX9_read S) (fun S3 => zBp (fX9_takeKnown S3 4 (1 : Int32)) (fun r6 S5 => zBr (r6 = (-1 : Int32)) (some ((0 : Int32), S5)) (zBp (fX9_takeKnown S5 4 (0 : Int32)) (fun r10 S9 => zBr (r10 = (-1 : Int32)) (some ((0 : Int32), S9)) (zBp (fX0_addLine S9 (10 : Int32) r6 r10 (0 : Int32)) (fun r14 S13 => zBr (r14 = 0) (some ((0 : Int32), S13)) (some ((1 : Int32), S13))))))))) (zBp (fX9_fail S (4 : Int32)) (fun r18 S17 => zGd (zBo r18) (some (r18, S17))))
set_option maxHeartbeats 4000000 in
set_option maxRecDepth 100000 in
theorem mX0_readCarry {l : Launch} {D : va_G} {cy : Nat → ClassId} {q : Nat → Nat} {A : Nat → Prop} {S : zSt} (hq : zQ A q zNC) {z : (Int32 × zSt)} (h : fX0_readCarry S = some z) : zMq l yX0_readCarry cX0_readCarry 3 (some .boolean) rmX0_readCarry [.ref (q 240)] zsh zNC D cy q A S z := by
  refine Met.ofW (cc := cX0_readCarry) (maxL := 3) (ret := (some .boolean)) (by decide) rfl ?_
  intro p e s m args below meth c s₁ B hml hv
  obtain ⟨rfl, hP, hK⟩ := hv
  have cx : zX RX0 cX0_readCarry 3 p s m ([.ref (q 240)]).toArray c D cy := ⟨B.exec, B.bytes, hml, findClass_of_methodNamed B.named, fun w hw => atoms_spec (ws := Cond.code yX0_readCarry cX0_readCarry 3 (some .boolean) :: zTB) B.pre w (List.mem_cons_of_mem _ hw), hK⟩
  have hx := cx.1
  have hb := cx.2.1
  have hr := B.returns
  have hlk := B.notSynchronized
  have hS : va_S A s.heap s.heap [] := va_S.rf
  have hl := lv_entry ([.ref (q 240)]) (n := 3) (Nat.le_of_ble_eq_true rfl)
  rw [lg_entry_eq]
  generalize (lg_sl ([.ref (q 240)]) ++ List.replicate (3 - (lg_sl ([.ref (q 240)])).length) Slot.unset).toArray = ls at hl ⊢
  have hl : lv_has ls 3 [(0, .ref (q 240))] := hl
  unfold fX0_readCarry at h
  refine lv_aload_n (pc := 0) hx hb dX0_readCarry_0 rfl (lv_at hl 0 rfl) ?_
  refine zr_getI (pc := 1) cx lk_X0_51 hP nC_240 sC_240 rfl dX0_readCarry_1 ?_
  refine lv_bipush (pc := 4) hx hb dX0_readCarry_4 zb_40 ?_
  refine lv_icmp_lt (pc := 6) (tgt := 18) hx hb dX0_readCarry_6 (by decide) (fun c1 => ?_) (fun c1 => ?_)
  · replace h := zBr_t c1 h
    refine lv_aload_n (pc := 18) hx hb dX0_readCarry_18 rfl (lv_at hl 0 rfl) ?_
    refine zr_getR (pc := 19) (t := 1) cx lk_X0_37 hP nC_240 sC_240 rfl dX0_readCarry_19 ?_
    obtain ⟨S3, k2, h⟩ := zBd_e h
    refine zr_VV (pc := 22) (rest := []) cx cv_X0_95 (mX9_read hq k2) ⟨⟨rfl, rfl⟩, Nat.le_of_ble_eq_true rfl, Nat.le_of_ble_eq_true rfl⟩ ⟨Nat.le_of_ble_eq_true rfl, Nat.le_of_ble_eq_true rfl⟩ hP hS nC_1 sC_1 rfl hl.1 rfl rfl (Nat.le_of_ble_eq_true rfl) dX0_readCarry_22 (fun H locs hP hS => ?_)
    refine lv_aload_n (pc := 25) hx hb dX0_readCarry_25 rfl (lv_at hl 0 rfl) ?_
    refine zr_getR (pc := 26) (t := 1) cx lk_X0_37 hP nC_240 sC_240 rfl dX0_readCarry_26 ?_
    refine lv_aload_n (pc := 29) hx hb dX0_readCarry_29 rfl (lv_at hl 0 rfl) ?_
    refine zr_getR (pc := 30) (t := 4) cx lk_X0_41 hP nC_240 sC_240 rfl dX0_readCarry_30 ?_
    refine lv_iconst (pc := 33) hx hb dX0_readCarry_33 zc_1 ?_
    obtain ⟨r6, S5, k4, h⟩ := zBp_e h
    refine zr_VQ (pc := 34) (rest := []) cx cv_X0_83 (mX9_takeKnown hq zHouse_4 k4) ⟨⟨rfl, rfl⟩, Nat.le_of_ble_eq_true rfl, Nat.le_of_ble_eq_true rfl⟩ ⟨Nat.le_of_ble_eq_true rfl, Nat.le_of_ble_eq_true rfl⟩ hP hS nC_1 sC_1 rfl hl.1 rfl rfl (Nat.le_of_ble_eq_true rfl) dX0_readCarry_34 (fun H locs hP hS => ?_)
    refine lv_istore_n (lv' := [(1, .int r6), (0, .ref (q 240))]) (pc := 37) hx hb dX0_readCarry_37 rfl hl (by decide) rfl (fun ls hl => ?_)
    refine lv_iload_n (pc := 38) hx hb dX0_readCarry_38 rfl (lv_at hl 0 rfl) ?_
    refine lv_iconst (pc := 39) hx hb dX0_readCarry_39 zc_m1 ?_
    refine lv_icmp_ne (pc := 40) (tgt := 45) hx hb dX0_readCarry_40 (by decide) (fun c7 => ?_) (fun c7 => ?_)
    · replace h := zBr_f c7 h
      refine lv_aload_n (pc := 45) hx hb dX0_readCarry_45 rfl (lv_at hl 1 rfl) ?_
      refine zr_getR (pc := 46) (t := 1) cx lk_X0_37 hP nC_240 sC_240 rfl dX0_readCarry_46 ?_
      refine lv_aload_n (pc := 49) hx hb dX0_readCarry_49 rfl (lv_at hl 1 rfl) ?_
      refine zr_getR (pc := 50) (t := 4) cx lk_X0_41 hP nC_240 sC_240 rfl dX0_readCarry_50 ?_
      refine lv_iconst (pc := 53) hx hb dX0_readCarry_53 zc_0 ?_
      obtain ⟨r10, S9, k8, h⟩ := zBp_e h
      refine zr_VQ (pc := 54) (rest := []) cx cv_X0_83 (mX9_takeKnown hq zHouse_4 k8) ⟨⟨rfl, rfl⟩, Nat.le_of_ble_eq_true rfl, Nat.le_of_ble_eq_true rfl⟩ ⟨Nat.le_of_ble_eq_true rfl, Nat.le_of_ble_eq_true rfl⟩ hP hS nC_1 sC_1 rfl hl.1 rfl rfl (Nat.le_of_ble_eq_true rfl) dX0_readCarry_54 (fun H locs hP hS => ?_)
      refine lv_istore_n (lv' := [(2, .int r10), (1, .int r6), (0, .ref (q 240))]) (pc := 57) hx hb dX0_readCarry_57 rfl hl (by decide) rfl (fun ls hl => ?_)
      refine lv_iload_n (pc := 58) hx hb dX0_readCarry_58 rfl (lv_at hl 0 rfl) ?_
      refine lv_iconst (pc := 59) hx hb dX0_readCarry_59 zc_m1 ?_
      refine lv_icmp_eq (pc := 60) (tgt := 79) hx hb dX0_readCarry_60 (by decide) (fun c11 => ?_) (fun c11 => ?_)
      · replace h := zBr_t c11 h
        refine lv_iconst (pc := 79) hx hb dX0_readCarry_79 zc_0 ?_
        have hz := Option.some.inj h
        exact zr_rqZ (pc := 80) cx hr hlk hP hS hz (by decide) dX0_readCarry_80
      · replace h := zBr_f c11 h
        refine lv_aload_n (pc := 63) hx hb dX0_readCarry_63 rfl (lv_at hl 2 rfl) ?_
        refine lv_bipush (pc := 64) hx hb dX0_readCarry_64 zb_10 ?_
        refine lv_iload_n (pc := 66) hx hb dX0_readCarry_66 rfl (lv_at hl 1 rfl) ?_
        refine lv_iload_n (pc := 67) hx hb dX0_readCarry_67 rfl (lv_at hl 0 rfl) ?_
        refine lv_iconst (pc := 68) hx hb dX0_readCarry_68 zc_0 ?_
        obtain ⟨r14, S13, k12, h⟩ := zBp_e h
        refine zr_VQ (pc := 69) (rest := []) cx cv_X0_91 (mX0_addLine hq k12) ⟨⟨rfl, rfl⟩, Nat.le_of_ble_eq_true rfl, Nat.le_of_ble_eq_true rfl⟩ ⟨Nat.le_of_ble_eq_true rfl, Nat.le_of_ble_eq_true rfl⟩ hP hS nC_240 sC_240 rfl hl.1 rfl rfl (Nat.le_of_ble_eq_true rfl) dX0_readCarry_69 (fun H locs hP hS => ?_)
        refine lv_if_eq (pc := 72) (tgt := 79) hx hb dX0_readCarry_72 (by decide) (fun c15 => ?_) (fun c15 => ?_)
        · replace h := zBr_t c15 h
          refine lv_iconst (pc := 79) hx hb dX0_readCarry_79 zc_0 ?_
          have hz := Option.some.inj h
          exact zr_rqZ (pc := 80) cx hr hlk hP hS hz (by decide) dX0_readCarry_80
        · replace h := zBr_f c15 h
          refine lv_iconst (pc := 75) hx hb dX0_readCarry_75 zc_1 ?_
          refine lv_goto (pc := 76) (tgt := 80) hx hb dX0_readCarry_76 (by decide) ?_
          have hz := Option.some.inj h
          exact zr_rqZ (pc := 80) cx hr hlk hP hS hz (by decide) dX0_readCarry_80
    · replace h := zBr_t c7 h
      refine lv_iconst (pc := 43) hx hb dX0_readCarry_43 zc_0 ?_
      have hz := Option.some.inj h
      exact zr_rqZ (pc := 44) cx hr hlk hP hS hz (by decide) dX0_readCarry_44
  · replace h := zBr_f c1 h
    refine lv_aload_n (pc := 9) hx hb dX0_readCarry_9 rfl (lv_at hl 0 rfl) ?_
    refine zr_getR (pc := 10) (t := 1) cx lk_X0_37 hP nC_240 sC_240 rfl dX0_readCarry_10 ?_
    refine lv_iconst (pc := 13) hx hb dX0_readCarry_13 zc_4 ?_
    obtain ⟨r18, S17, k16, h⟩ := zBp_e h
    refine zr_VQ (pc := 14) (rest := []) cx cv_X0_77 (mX9_fail hq k16) ⟨⟨rfl, rfl⟩, Nat.le_of_ble_eq_true rfl, Nat.le_of_ble_eq_true rfl⟩ ⟨Nat.le_of_ble_eq_true rfl, Nat.le_of_ble_eq_true rfl⟩ hP hS nC_1 sC_1 rfl hl.1 rfl rfl (Nat.le_of_ble_eq_true rfl) dX0_readCarry_14 (fun H locs hP hS => ?_)
    obtain ⟨g19, h⟩ := zGd_e h
    have hz := Option.some.inj h
    exact zr_rqZ (pc := 17) cx hr hlk hP hS hz g19 dX0_readCarry_17
-- X9_takeNumber
abbrev rmX9_takeNumber : Room := { frames := 2, cells := 0, slots := 0, locals := 46 }
def fX9_takeNumber_33 (S : zSt)  : Option (Int32 × zSt) :=
  zBp (fX9_fail S (2 : Int32)) (fun r5 S4 => some ((-1 : Int32), S4))
set_option maxHeartbeats 4000000 in
set_option maxRecDepth 100000 in
theorem kX9_takeNumber_33 {p : Program} {l : Launch} {e : Env} {s : State} {m : MethodId} {args : Array Value} {below : List Frame} {meth : Method} {c : Code} {D : va_G} {cy : Nat → ClassId} {q : Nat → Nat} {A : Nat → Prop} (cx : zX RX9 cX9_takeNumber 4 p s m args c D cy) (hr : meth.sig.returnType = (some .int)) (hlk : meth.locks = false) (hq : zQ A q zNC) {z : (Int32 × zSt)} {S : zSt} (h : fX9_takeNumber_33 S = some z) {H : Heap} {locs : List Loc} (hP : va_P D vwCl (zW zsh zNC cy q S) H) (hS : va_S A s.heap H locs) {ls : Array Slot} (hl : lv_has ls 4 [(0, .ref (q 1))]) : W p l e rmX9_takeNumber s m args below meth c H locs 0 0 (MQ below (va_Qi (fun (r : Int32) (u : zSt) => (r, u) = z) (fun u t => va_P D vwCl (zW zsh zNC cy q u) t.heap) A) args s 0 0 A) (F0 m 33 ls []) := by
  have hx := cx.1
  have hb := cx.2.1
  unfold fX9_takeNumber_33 at h
  refine lv_aload_n (pc := 33) hx hb dX9_takeNumber_33 rfl (lv_at hl 0 rfl) ?_
  refine lv_iconst (pc := 34) hx hb dX9_takeNumber_34 zc_2 ?_
  obtain ⟨r5, S4, k3, h⟩ := zBp_e h
  refine zr_VQ (pc := 35) (rest := []) cx cv_X9_75 (mX9_fail hq k3) ⟨⟨rfl, rfl⟩, Nat.le_of_ble_eq_true rfl, Nat.le_of_ble_eq_true rfl⟩ ⟨Nat.le_of_ble_eq_true rfl, Nat.le_of_ble_eq_true rfl⟩ hP hS nC_1 sC_1 rfl hl.1 rfl rfl (Nat.le_of_ble_eq_true rfl) dX9_takeNumber_35 (fun H locs hP hS => ?_)
  refine lv_pop (pc := 38) hx hb dX9_takeNumber_38 rfl ?_
  refine lv_iconst (pc := 39) hx hb dX9_takeNumber_39 zc_m1 ?_
  have hz := Option.some.inj h
  exact zr_rqI (pc := 40) cx hr hlk hP hS hz dX9_takeNumber_40
def fX9_takeNumber (S : zSt) (v1 : Int32) (v2 : Int32) : Option (Int32 × zSt) :=
  zBr ((S.1 1 5) = (101 : Int32)) (zBr ((S.1 1 8) < v1) (fX9_takeNumber_33 S) (zBr ((S.1 1 8) ≤ v2) (zLt (S.1 1 8) (fun x7 => zBd (fX9_read S) (fun S9 => some (x7, S9)))) (fX9_takeNumber_33 S))) (zBp (fX9_fail S (1 : Int32)) (fun r12 S11 => some ((-1 : Int32), S11)))
set_option maxHeartbeats 4000000 in
set_option maxRecDepth 100000 in
theorem mX9_takeNumber {l : Launch} {D : va_G} {cy : Nat → ClassId} {q : Nat → Nat} {A : Nat → Prop} {S : zSt} {v1 : Int32} {v2 : Int32} (hq : zQ A q zNC) {z : (Int32 × zSt)} (h : fX9_takeNumber S v1 v2 = some z) : zMq l yX9_takeNumber cX9_takeNumber 4 (some .int) rmX9_takeNumber [.ref (q 1), .int v1, .int v2] zsh zNC D cy q A S z := by
  refine Met.ofW (cc := cX9_takeNumber) (maxL := 4) (ret := (some .int)) (by decide) rfl ?_
  intro p e s m args below meth c s₁ B hml hv
  obtain ⟨rfl, hP, hK⟩ := hv
  have cx : zX RX9 cX9_takeNumber 4 p s m ([.ref (q 1), .int v1, .int v2]).toArray c D cy := ⟨B.exec, B.bytes, hml, findClass_of_methodNamed B.named, fun w hw => atoms_spec (ws := Cond.code yX9_takeNumber cX9_takeNumber 4 (some .int) :: zTB) B.pre w (List.mem_cons_of_mem _ hw), hK⟩
  have hx := cx.1
  have hb := cx.2.1
  have hr := B.returns
  have hlk := B.notSynchronized
  have hS : va_S A s.heap s.heap [] := va_S.rf
  have hl := lv_entry ([.ref (q 1), .int v1, .int v2]) (n := 4) (Nat.le_of_ble_eq_true rfl)
  rw [lg_entry_eq]
  generalize (lg_sl ([.ref (q 1), .int v1, .int v2]) ++ List.replicate (4 - (lg_sl ([.ref (q 1), .int v1, .int v2])).length) Slot.unset).toArray = ls at hl ⊢
  have hl : lv_has ls 4 [(0, .ref (q 1)), (1, .int v1), (2, .int v2)] := hl
  unfold fX9_takeNumber at h
  refine lv_aload_n (pc := 0) hx hb dX9_takeNumber_0 rfl (lv_at hl 0 rfl) ?_
  refine zr_getI (pc := 1) cx lk_X9_58 hP nC_1 sC_1 rfl dX9_takeNumber_1 ?_
  refine lv_bipush (pc := 4) hx hb dX9_takeNumber_4 zb_101 ?_
  refine lv_icmp_eq (pc := 6) (tgt := 17) hx hb dX9_takeNumber_6 (by decide) (fun c1 => ?_) (fun c1 => ?_)
  · replace h := zBr_t c1 h
    refine lv_aload_n (pc := 17) hx hb dX9_takeNumber_17 rfl (lv_at hl 0 rfl) ?_
    refine zr_getI (pc := 18) cx lk_X9_68 hP nC_1 sC_1 rfl dX9_takeNumber_18 ?_
    refine lv_iload_n (pc := 21) hx hb dX9_takeNumber_21 rfl (lv_at hl 1 rfl) ?_
    refine lv_icmp_lt (pc := 22) (tgt := 33) hx hb dX9_takeNumber_22 (by decide) (fun c2 => ?_) (fun c2 => ?_)
    · replace h := zBr_t c2 h
      exact kX9_takeNumber_33 cx hr hlk hq h hP hS (lv_sub hl [0] rfl)
    · replace h := zBr_f c2 h
      refine lv_aload_n (pc := 25) hx hb dX9_takeNumber_25 rfl (lv_at hl 0 rfl) ?_
      refine zr_getI (pc := 26) cx lk_X9_68 hP nC_1 sC_1 rfl dX9_takeNumber_26 ?_
      refine lv_iload_n (pc := 29) hx hb dX9_takeNumber_29 rfl (lv_at hl 2 rfl) ?_
      refine lv_icmp_le (pc := 30) (tgt := 41) hx hb dX9_takeNumber_30 (by decide) (fun c6 => ?_) (fun c6 => ?_)
      · replace h := zBr_t c6 h
        refine lv_aload_n (pc := 41) hx hb dX9_takeNumber_41 rfl (lv_at hl 0 rfl) ?_
        refine zr_getI (pc := 42) cx lk_X9_68 hP nC_1 sC_1 rfl dX9_takeNumber_42 ?_
        obtain ⟨x7, ex7, h⟩ := zLt_e h
        refine zr_nmI ex7 ?_
        refine lv_istore_n (lv' := [(3, .int x7), (0, .ref (q 1)), (1, .int v1), (2, .int v2)]) (pc := 45) hx hb dX9_takeNumber_45 rfl hl (by decide) rfl (fun ls hl => ?_)
        refine lv_aload_n (pc := 46) hx hb dX9_takeNumber_46 rfl (lv_at hl 1 rfl) ?_
        obtain ⟨S9, k8, h⟩ := zBd_e h
        refine zr_VV (pc := 47) (rest := []) cx cv_X9_46 (mX9_read hq k8) ⟨⟨rfl, rfl⟩, Nat.le_of_ble_eq_true rfl, Nat.le_of_ble_eq_true rfl⟩ ⟨Nat.le_of_ble_eq_true rfl, Nat.le_of_ble_eq_true rfl⟩ hP hS nC_1 sC_1 rfl hl.1 rfl rfl (Nat.le_of_ble_eq_true rfl) dX9_takeNumber_47 (fun H locs hP hS => ?_)
        refine lv_iload_n (pc := 50) hx hb dX9_takeNumber_50 rfl (lv_at hl 0 rfl) ?_
        have hz := Option.some.inj h
        exact zr_rqI (pc := 51) cx hr hlk hP hS hz dX9_takeNumber_51
      · replace h := zBr_f c6 h
        exact kX9_takeNumber_33 cx hr hlk hq h hP hS (lv_sub hl [0] rfl)
  · replace h := zBr_f c1 h
    refine lv_aload_n (pc := 9) hx hb dX9_takeNumber_9 rfl (lv_at hl 0 rfl) ?_
    refine lv_iconst (pc := 10) hx hb dX9_takeNumber_10 zc_1 ?_
    obtain ⟨r12, S11, k10, h⟩ := zBp_e h
    refine zr_VQ (pc := 11) (rest := []) cx cv_X9_75 (mX9_fail hq k10) ⟨⟨rfl, rfl⟩, Nat.le_of_ble_eq_true rfl, Nat.le_of_ble_eq_true rfl⟩ ⟨Nat.le_of_ble_eq_true rfl, Nat.le_of_ble_eq_true rfl⟩ hP hS nC_1 sC_1 rfl hl.1 rfl rfl (Nat.le_of_ble_eq_true rfl) dX9_takeNumber_11 (fun H locs hP hS => ?_)
    refine lv_pop (pc := 14) hx hb dX9_takeNumber_14 rfl ?_
    refine lv_iconst (pc := 15) hx hb dX9_takeNumber_15 zc_m1 ?_
    have hz := Option.some.inj h
    exact zr_rqI (pc := 16) cx hr hlk hP hS hz dX9_takeNumber_16
-- X0_readDay
abbrev rmX0_readDay : Room := { frames := 3, cells := 0, slots := 0, locals := 69 }
def fX0_readDay (S : zSt) : Option (Int32 × zSt) :=
  zBr ((S.1 240 6) < (40 : Int32)) (zBd (fX9_read S) (fun S3 => zBp (fX9_takeNumber S3 (1 : Int32) (60 : Int32)) (fun r6 S5 => zBr (r6 = (-1 : Int32)) (some ((0 : Int32), S5)) (zBp (fX0_addLine S5 (11 : Int32) r6 (0 : Int32) (0 : Int32)) (fun r10 S9 => zBr (r10 = 0) (some ((0 : Int32), S9)) (some ((1 : Int32), S9))))))) (zBp (fX9_fail S (4 : Int32)) (fun r14 S13 => zGd (zBo r14) (some (r14, S13))))
set_option maxHeartbeats 4000000 in
set_option maxRecDepth 100000 in
theorem mX0_readDay {l : Launch} {D : va_G} {cy : Nat → ClassId} {q : Nat → Nat} {A : Nat → Prop} {S : zSt} (hq : zQ A q zNC) {z : (Int32 × zSt)} (h : fX0_readDay S = some z) : zMq l yX0_readDay cX0_readDay 2 (some .boolean) rmX0_readDay [.ref (q 240)] zsh zNC D cy q A S z := by
  refine Met.ofW (cc := cX0_readDay) (maxL := 2) (ret := (some .boolean)) (by decide) rfl ?_
  intro p e s m args below meth c s₁ B hml hv
  obtain ⟨rfl, hP, hK⟩ := hv
  have cx : zX RX0 cX0_readDay 2 p s m ([.ref (q 240)]).toArray c D cy := ⟨B.exec, B.bytes, hml, findClass_of_methodNamed B.named, fun w hw => atoms_spec (ws := Cond.code yX0_readDay cX0_readDay 2 (some .boolean) :: zTB) B.pre w (List.mem_cons_of_mem _ hw), hK⟩
  have hx := cx.1
  have hb := cx.2.1
  have hr := B.returns
  have hlk := B.notSynchronized
  have hS : va_S A s.heap s.heap [] := va_S.rf
  have hl := lv_entry ([.ref (q 240)]) (n := 2) (Nat.le_of_ble_eq_true rfl)
  rw [lg_entry_eq]
  generalize (lg_sl ([.ref (q 240)]) ++ List.replicate (2 - (lg_sl ([.ref (q 240)])).length) Slot.unset).toArray = ls at hl ⊢
  have hl : lv_has ls 2 [(0, .ref (q 240))] := hl
  unfold fX0_readDay at h
  refine lv_aload_n (pc := 0) hx hb dX0_readDay_0 rfl (lv_at hl 0 rfl) ?_
  refine zr_getI (pc := 1) cx lk_X0_51 hP nC_240 sC_240 rfl dX0_readDay_1 ?_
  refine lv_bipush (pc := 4) hx hb dX0_readDay_4 zb_40 ?_
  refine lv_icmp_lt (pc := 6) (tgt := 18) hx hb dX0_readDay_6 (by decide) (fun c1 => ?_) (fun c1 => ?_)
  · replace h := zBr_t c1 h
    refine lv_aload_n (pc := 18) hx hb dX0_readDay_18 rfl (lv_at hl 0 rfl) ?_
    refine zr_getR (pc := 19) (t := 1) cx lk_X0_37 hP nC_240 sC_240 rfl dX0_readDay_19 ?_
    obtain ⟨S3, k2, h⟩ := zBd_e h
    refine zr_VV (pc := 22) (rest := []) cx cv_X0_95 (mX9_read hq k2) ⟨⟨rfl, rfl⟩, Nat.le_of_ble_eq_true rfl, Nat.le_of_ble_eq_true rfl⟩ ⟨Nat.le_of_ble_eq_true rfl, Nat.le_of_ble_eq_true rfl⟩ hP hS nC_1 sC_1 rfl hl.1 rfl rfl (Nat.le_of_ble_eq_true rfl) dX0_readDay_22 (fun H locs hP hS => ?_)
    refine lv_aload_n (pc := 25) hx hb dX0_readDay_25 rfl (lv_at hl 0 rfl) ?_
    refine zr_getR (pc := 26) (t := 1) cx lk_X0_37 hP nC_240 sC_240 rfl dX0_readDay_26 ?_
    refine lv_iconst (pc := 29) hx hb dX0_readDay_29 zc_1 ?_
    refine lv_bipush (pc := 30) hx hb dX0_readDay_30 zb_60 ?_
    obtain ⟨r6, S5, k4, h⟩ := zBp_e h
    refine zr_VQ (pc := 32) (rest := []) cx cv_X0_98 (mX9_takeNumber hq k4) ⟨⟨rfl, rfl⟩, Nat.le_of_ble_eq_true rfl, Nat.le_of_ble_eq_true rfl⟩ ⟨Nat.le_of_ble_eq_true rfl, Nat.le_of_ble_eq_true rfl⟩ hP hS nC_1 sC_1 rfl hl.1 rfl rfl (Nat.le_of_ble_eq_true rfl) dX0_readDay_32 (fun H locs hP hS => ?_)
    refine lv_istore_n (lv' := [(1, .int r6), (0, .ref (q 240))]) (pc := 35) hx hb dX0_readDay_35 rfl hl (by decide) rfl (fun ls hl => ?_)
    refine lv_iload_n (pc := 36) hx hb dX0_readDay_36 rfl (lv_at hl 0 rfl) ?_
    refine lv_iconst (pc := 37) hx hb dX0_readDay_37 zc_m1 ?_
    refine lv_icmp_eq (pc := 38) (tgt := 57) hx hb dX0_readDay_38 (by decide) (fun c7 => ?_) (fun c7 => ?_)
    · replace h := zBr_t c7 h
      refine lv_iconst (pc := 57) hx hb dX0_readDay_57 zc_0 ?_
      have hz := Option.some.inj h
      exact zr_rqZ (pc := 58) cx hr hlk hP hS hz (by decide) dX0_readDay_58
    · replace h := zBr_f c7 h
      refine lv_aload_n (pc := 41) hx hb dX0_readDay_41 rfl (lv_at hl 1 rfl) ?_
      refine lv_bipush (pc := 42) hx hb dX0_readDay_42 zb_11 ?_
      refine lv_iload_n (pc := 44) hx hb dX0_readDay_44 rfl (lv_at hl 0 rfl) ?_
      refine lv_iconst (pc := 45) hx hb dX0_readDay_45 zc_0 ?_
      refine lv_iconst (pc := 46) hx hb dX0_readDay_46 zc_0 ?_
      obtain ⟨r10, S9, k8, h⟩ := zBp_e h
      refine zr_VQ (pc := 47) (rest := []) cx cv_X0_91 (mX0_addLine hq k8) ⟨⟨rfl, rfl⟩, Nat.le_of_ble_eq_true rfl, Nat.le_of_ble_eq_true rfl⟩ ⟨Nat.le_of_ble_eq_true rfl, Nat.le_of_ble_eq_true rfl⟩ hP hS nC_240 sC_240 rfl hl.1 rfl rfl (Nat.le_of_ble_eq_true rfl) dX0_readDay_47 (fun H locs hP hS => ?_)
      refine lv_if_eq (pc := 50) (tgt := 57) hx hb dX0_readDay_50 (by decide) (fun c11 => ?_) (fun c11 => ?_)
      · replace h := zBr_t c11 h
        refine lv_iconst (pc := 57) hx hb dX0_readDay_57 zc_0 ?_
        have hz := Option.some.inj h
        exact zr_rqZ (pc := 58) cx hr hlk hP hS hz (by decide) dX0_readDay_58
      · replace h := zBr_f c11 h
        refine lv_iconst (pc := 53) hx hb dX0_readDay_53 zc_1 ?_
        refine lv_goto (pc := 54) (tgt := 58) hx hb dX0_readDay_54 (by decide) ?_
        have hz := Option.some.inj h
        exact zr_rqZ (pc := 58) cx hr hlk hP hS hz (by decide) dX0_readDay_58
  · replace h := zBr_f c1 h
    refine lv_aload_n (pc := 9) hx hb dX0_readDay_9 rfl (lv_at hl 0 rfl) ?_
    refine zr_getR (pc := 10) (t := 1) cx lk_X0_37 hP nC_240 sC_240 rfl dX0_readDay_10 ?_
    refine lv_iconst (pc := 13) hx hb dX0_readDay_13 zc_4 ?_
    obtain ⟨r14, S13, k12, h⟩ := zBp_e h
    refine zr_VQ (pc := 14) (rest := []) cx cv_X0_77 (mX9_fail hq k12) ⟨⟨rfl, rfl⟩, Nat.le_of_ble_eq_true rfl, Nat.le_of_ble_eq_true rfl⟩ ⟨Nat.le_of_ble_eq_true rfl, Nat.le_of_ble_eq_true rfl⟩ hP hS nC_1 sC_1 rfl hl.1 rfl rfl (Nat.le_of_ble_eq_true rfl) dX0_readDay_14 (fun H locs hP hS => ?_)
    obtain ⟨g15, h⟩ := zGd_e h
    have hz := Option.some.inj h
    exact zr_rqZ (pc := 17) cx hr hlk hP hS hz g15 dX0_readDay_17
-- X9_take
abbrev rmX9_take : Room := { frames := 2, cells := 0, slots := 0, locals := 46 }
def fX9_take (S : zSt) (v1 : Int32) : Option (Int32 × zSt) :=
  zBr ((S.1 1 5) = v1) (zBd (fX9_read S) (fun S3 => some ((1 : Int32), S3))) (zBp (fX9_fail S (1 : Int32)) (fun r6 S5 => zGd (zBo r6) (some (r6, S5))))
set_option maxHeartbeats 4000000 in
set_option maxRecDepth 100000 in
theorem mX9_take {l : Launch} {D : va_G} {cy : Nat → ClassId} {q : Nat → Nat} {A : Nat → Prop} {S : zSt} {v1 : Int32} (hq : zQ A q zNC) {z : (Int32 × zSt)} (h : fX9_take S v1 = some z) : zMq l yX9_take cX9_take 2 (some .boolean) rmX9_take [.ref (q 1), .int v1] zsh zNC D cy q A S z := by
  refine Met.ofW (cc := cX9_take) (maxL := 2) (ret := (some .boolean)) (by decide) rfl ?_
  intro p e s m args below meth c s₁ B hml hv
  obtain ⟨rfl, hP, hK⟩ := hv
  have cx : zX RX9 cX9_take 2 p s m ([.ref (q 1), .int v1]).toArray c D cy := ⟨B.exec, B.bytes, hml, findClass_of_methodNamed B.named, fun w hw => atoms_spec (ws := Cond.code yX9_take cX9_take 2 (some .boolean) :: zTB) B.pre w (List.mem_cons_of_mem _ hw), hK⟩
  have hx := cx.1
  have hb := cx.2.1
  have hr := B.returns
  have hlk := B.notSynchronized
  have hS : va_S A s.heap s.heap [] := va_S.rf
  have hl := lv_entry ([.ref (q 1), .int v1]) (n := 2) (Nat.le_of_ble_eq_true rfl)
  rw [lg_entry_eq]
  generalize (lg_sl ([.ref (q 1), .int v1]) ++ List.replicate (2 - (lg_sl ([.ref (q 1), .int v1])).length) Slot.unset).toArray = ls at hl ⊢
  have hl : lv_has ls 2 [(0, .ref (q 1)), (1, .int v1)] := hl
  unfold fX9_take at h
  refine lv_aload_n (pc := 0) hx hb dX9_take_0 rfl (lv_at hl 0 rfl) ?_
  refine zr_getI (pc := 1) cx lk_X9_58 hP nC_1 sC_1 rfl dX9_take_1 ?_
  refine lv_iload_n (pc := 4) hx hb dX9_take_4 rfl (lv_at hl 1 rfl) ?_
  refine lv_icmp_eq (pc := 5) (tgt := 14) hx hb dX9_take_5 (by decide) (fun c1 => ?_) (fun c1 => ?_)
  · replace h := zBr_t c1 h
    refine lv_aload_n (pc := 14) hx hb dX9_take_14 rfl (lv_at hl 0 rfl) ?_
    obtain ⟨S3, k2, h⟩ := zBd_e h
    refine zr_VV (pc := 15) (rest := []) cx cv_X9_46 (mX9_read hq k2) ⟨⟨rfl, rfl⟩, Nat.le_of_ble_eq_true rfl, Nat.le_of_ble_eq_true rfl⟩ ⟨Nat.le_of_ble_eq_true rfl, Nat.le_of_ble_eq_true rfl⟩ hP hS nC_1 sC_1 rfl hl.1 rfl rfl (Nat.le_of_ble_eq_true rfl) dX9_take_15 (fun H locs hP hS => ?_)
    refine lv_iconst (pc := 18) hx hb dX9_take_18 zc_1 ?_
    have hz := Option.some.inj h
    exact zr_rqZ (pc := 19) cx hr hlk hP hS hz (by decide) dX9_take_19
  · replace h := zBr_f c1 h
    refine lv_aload_n (pc := 8) hx hb dX9_take_8 rfl (lv_at hl 0 rfl) ?_
    refine lv_iconst (pc := 9) hx hb dX9_take_9 zc_1 ?_
    obtain ⟨r6, S5, k4, h⟩ := zBp_e h
    refine zr_VQ (pc := 10) (rest := []) cx cv_X9_75 (mX9_fail hq k4) ⟨⟨rfl, rfl⟩, Nat.le_of_ble_eq_true rfl, Nat.le_of_ble_eq_true rfl⟩ ⟨Nat.le_of_ble_eq_true rfl, Nat.le_of_ble_eq_true rfl⟩ hP hS nC_1 sC_1 rfl hl.1 rfl rfl (Nat.le_of_ble_eq_true rfl) dX9_take_10 (fun H locs hP hS => ?_)
    obtain ⟨g7, h⟩ := zGd_e h
    have hz := Option.some.inj h
    exact zr_rqZ (pc := 13) cx hr hlk hP hS hz g7 dX9_take_13
-- X0_readDoes
abbrev rmX0_readDoes : Room := { frames := 3, cells := 0, slots := 0, locals := 69 }
def fX0_readDoes (S : zSt) : Option (Int32 × zSt) :=
  zLt (S.1 1 6) (fun x1 => zBp (fX9_takeKnown S 4 (2 : Int32)) (fun r4 S3 => zBr (r4 = (-1 : Int32)) (some ((0 : Int32), S3)) (zBr ((S3.1 240 6) < (40 : Int32)) (zBp (fX9_take S3 (8 : Int32)) (fun r9 S8 => zBr (r9 = 0) (some ((0 : Int32), S8)) (zBp (fX9_takeKnown S8 4 (3 : Int32)) (fun r13 S12 => zBr (r13 = (-1 : Int32)) (some ((0 : Int32), S12)) (zBp (fX9_takeKnown S12 4 (0 : Int32)) (fun r17 S16 => zBr (r17 = (-1 : Int32)) (some ((0 : Int32), S16)) (zBp (fX0_addLine S16 (8 : Int32) r4 r13 r17) (fun r21 S20 => zBr (r21 = 0) (some ((0 : Int32), S20)) (some ((1 : Int32), S20)))))))))) (zBp (fX9_failAt S3 (4 : Int32) x1) (fun r25 S24 => zGd (zBo r25) (some (r25, S24)))))))
set_option maxHeartbeats 4000000 in
set_option maxRecDepth 100000 in
theorem mX0_readDoes {l : Launch} {D : va_G} {cy : Nat → ClassId} {q : Nat → Nat} {A : Nat → Prop} {S : zSt} (hq : zQ A q zNC) {z : (Int32 × zSt)} (h : fX0_readDoes S = some z) : zMq l yX0_readDoes cX0_readDoes 5 (some .boolean) rmX0_readDoes [.ref (q 240)] zsh zNC D cy q A S z := by
  refine Met.ofW (cc := cX0_readDoes) (maxL := 5) (ret := (some .boolean)) (by decide) rfl ?_
  intro p e s m args below meth c s₁ B hml hv
  obtain ⟨rfl, hP, hK⟩ := hv
  have cx : zX RX0 cX0_readDoes 5 p s m ([.ref (q 240)]).toArray c D cy := ⟨B.exec, B.bytes, hml, findClass_of_methodNamed B.named, fun w hw => atoms_spec (ws := Cond.code yX0_readDoes cX0_readDoes 5 (some .boolean) :: zTB) B.pre w (List.mem_cons_of_mem _ hw), hK⟩
  have hx := cx.1
  have hb := cx.2.1
  have hr := B.returns
  have hlk := B.notSynchronized
  have hS : va_S A s.heap s.heap [] := va_S.rf
  have hl := lv_entry ([.ref (q 240)]) (n := 5) (Nat.le_of_ble_eq_true rfl)
  rw [lg_entry_eq]
  generalize (lg_sl ([.ref (q 240)]) ++ List.replicate (5 - (lg_sl ([.ref (q 240)])).length) Slot.unset).toArray = ls at hl ⊢
  have hl : lv_has ls 5 [(0, .ref (q 240))] := hl
  unfold fX0_readDoes at h
  refine lv_aload_n (pc := 0) hx hb dX0_readDoes_0 rfl (lv_at hl 0 rfl) ?_
  refine zr_getR (pc := 1) (t := 1) cx lk_X0_37 hP nC_240 sC_240 rfl dX0_readDoes_1 ?_
  refine zr_getI (pc := 4) cx lk_X0_80 hP nC_1 sC_1 rfl dX0_readDoes_4 ?_
  obtain ⟨x1, ex1, h⟩ := zLt_e h
  refine zr_nmI ex1 ?_
  refine lv_istore_n (lv' := [(1, .int x1), (0, .ref (q 240))]) (pc := 7) hx hb dX0_readDoes_7 rfl hl (by decide) rfl (fun ls hl => ?_)
  refine lv_aload_n (pc := 8) hx hb dX0_readDoes_8 rfl (lv_at hl 1 rfl) ?_
  refine zr_getR (pc := 9) (t := 1) cx lk_X0_37 hP nC_240 sC_240 rfl dX0_readDoes_9 ?_
  refine lv_aload_n (pc := 12) hx hb dX0_readDoes_12 rfl (lv_at hl 1 rfl) ?_
  refine zr_getR (pc := 13) (t := 4) cx lk_X0_41 hP nC_240 sC_240 rfl dX0_readDoes_13 ?_
  refine lv_iconst (pc := 16) hx hb dX0_readDoes_16 zc_2 ?_
  obtain ⟨r4, S3, k2, h⟩ := zBp_e h
  refine zr_VQ (pc := 17) (rest := []) cx cv_X0_83 (mX9_takeKnown hq zHouse_4 k2) ⟨⟨rfl, rfl⟩, Nat.le_of_ble_eq_true rfl, Nat.le_of_ble_eq_true rfl⟩ ⟨Nat.le_of_ble_eq_true rfl, Nat.le_of_ble_eq_true rfl⟩ hP hS nC_1 sC_1 rfl hl.1 rfl rfl (Nat.le_of_ble_eq_true rfl) dX0_readDoes_17 (fun H locs hP hS => ?_)
  refine lv_istore_n (lv' := [(2, .int r4), (1, .int x1), (0, .ref (q 240))]) (pc := 20) hx hb dX0_readDoes_20 rfl hl (by decide) rfl (fun ls hl => ?_)
  refine lv_iload_n (pc := 21) hx hb dX0_readDoes_21 rfl (lv_at hl 0 rfl) ?_
  refine lv_iconst (pc := 22) hx hb dX0_readDoes_22 zc_m1 ?_
  refine lv_icmp_ne (pc := 23) (tgt := 28) hx hb dX0_readDoes_23 (by decide) (fun c5 => ?_) (fun c5 => ?_)
  · replace h := zBr_f c5 h
    refine lv_aload_n (pc := 28) hx hb dX0_readDoes_28 rfl (lv_at hl 2 rfl) ?_
    refine zr_getI (pc := 29) cx lk_X0_51 hP nC_240 sC_240 rfl dX0_readDoes_29 ?_
    refine lv_bipush (pc := 32) hx hb dX0_readDoes_32 zb_40 ?_
    refine lv_icmp_lt (pc := 34) (tgt := 47) hx hb dX0_readDoes_34 (by decide) (fun c6 => ?_) (fun c6 => ?_)
    · replace h := zBr_t c6 h
      refine lv_aload_n (pc := 47) hx hb dX0_readDoes_47 rfl (lv_at hl 2 rfl) ?_
      refine zr_getR (pc := 48) (t := 1) cx lk_X0_37 hP nC_240 sC_240 rfl dX0_readDoes_48 ?_
      refine lv_bipush (pc := 51) hx hb dX0_readDoes_51 zb_8 ?_
      obtain ⟨r9, S8, k7, h⟩ := zBp_e h
      refine zr_VQ (pc := 53) (rest := []) cx cv_X0_61 (mX9_take hq k7) ⟨⟨rfl, rfl⟩, Nat.le_of_ble_eq_true rfl, Nat.le_of_ble_eq_true rfl⟩ ⟨Nat.le_of_ble_eq_true rfl, Nat.le_of_ble_eq_true rfl⟩ hP hS nC_1 sC_1 rfl hl.1 rfl rfl (Nat.le_of_ble_eq_true rfl) dX0_readDoes_53 (fun H locs hP hS => ?_)
      refine lv_if_ne (pc := 56) (tgt := 61) hx hb dX0_readDoes_56 (by decide) (fun c10 => ?_) (fun c10 => ?_)
      · replace h := zBr_f c10 h
        refine lv_aload_n (pc := 61) hx hb dX0_readDoes_61 rfl (lv_at hl 2 rfl) ?_
        refine zr_getR (pc := 62) (t := 1) cx lk_X0_37 hP nC_240 sC_240 rfl dX0_readDoes_62 ?_
        refine lv_aload_n (pc := 65) hx hb dX0_readDoes_65 rfl (lv_at hl 2 rfl) ?_
        refine zr_getR (pc := 66) (t := 4) cx lk_X0_41 hP nC_240 sC_240 rfl dX0_readDoes_66 ?_
        refine lv_iconst (pc := 69) hx hb dX0_readDoes_69 zc_3 ?_
        obtain ⟨r13, S12, k11, h⟩ := zBp_e h
        refine zr_VQ (pc := 70) (rest := []) cx cv_X0_83 (mX9_takeKnown hq zHouse_4 k11) ⟨⟨rfl, rfl⟩, Nat.le_of_ble_eq_true rfl, Nat.le_of_ble_eq_true rfl⟩ ⟨Nat.le_of_ble_eq_true rfl, Nat.le_of_ble_eq_true rfl⟩ hP hS nC_1 sC_1 rfl hl.1 rfl rfl (Nat.le_of_ble_eq_true rfl) dX0_readDoes_70 (fun H locs hP hS => ?_)
        refine lv_istore_n (lv' := [(3, .int r13), (2, .int r4), (1, .int x1), (0, .ref (q 240))]) (pc := 73) hx hb dX0_readDoes_73 rfl hl (by decide) rfl (fun ls hl => ?_)
        refine lv_iload_n (pc := 74) hx hb dX0_readDoes_74 rfl (lv_at hl 0 rfl) ?_
        refine lv_iconst (pc := 75) hx hb dX0_readDoes_75 zc_m1 ?_
        refine lv_icmp_ne (pc := 76) (tgt := 81) hx hb dX0_readDoes_76 (by decide) (fun c14 => ?_) (fun c14 => ?_)
        · replace h := zBr_f c14 h
          refine lv_aload_n (pc := 81) hx hb dX0_readDoes_81 rfl (lv_at hl 3 rfl) ?_
          refine zr_getR (pc := 82) (t := 1) cx lk_X0_37 hP nC_240 sC_240 rfl dX0_readDoes_82 ?_
          refine lv_aload_n (pc := 85) hx hb dX0_readDoes_85 rfl (lv_at hl 3 rfl) ?_
          refine zr_getR (pc := 86) (t := 4) cx lk_X0_41 hP nC_240 sC_240 rfl dX0_readDoes_86 ?_
          refine lv_iconst (pc := 89) hx hb dX0_readDoes_89 zc_0 ?_
          obtain ⟨r17, S16, k15, h⟩ := zBp_e h
          refine zr_VQ (pc := 90) (rest := []) cx cv_X0_83 (mX9_takeKnown hq zHouse_4 k15) ⟨⟨rfl, rfl⟩, Nat.le_of_ble_eq_true rfl, Nat.le_of_ble_eq_true rfl⟩ ⟨Nat.le_of_ble_eq_true rfl, Nat.le_of_ble_eq_true rfl⟩ hP hS nC_1 sC_1 rfl hl.1 rfl rfl (Nat.le_of_ble_eq_true rfl) dX0_readDoes_90 (fun H locs hP hS => ?_)
          refine lv_istore (lv' := [(4, .int r17), (3, .int r13), (2, .int r4), (1, .int x1), (0, .ref (q 240))]) (pc := 93) hx hb dX0_readDoes_93 hl (by decide) rfl (fun ls hl => ?_)
          refine lv_iload (pc := 95) hx hb dX0_readDoes_95 (lv_at hl 0 rfl) ?_
          refine lv_iconst (pc := 97) hx hb dX0_readDoes_97 zc_m1 ?_
          refine lv_icmp_eq (pc := 98) (tgt := 118) hx hb dX0_readDoes_98 (by decide) (fun c18 => ?_) (fun c18 => ?_)
          · replace h := zBr_t c18 h
            refine lv_iconst (pc := 118) hx hb dX0_readDoes_118 zc_0 ?_
            have hz := Option.some.inj h
            exact zr_rqZ (pc := 119) cx hr hlk hP hS hz (by decide) dX0_readDoes_119
          · replace h := zBr_f c18 h
            refine lv_aload_n (pc := 101) hx hb dX0_readDoes_101 rfl (lv_at hl 4 rfl) ?_
            refine lv_bipush (pc := 102) hx hb dX0_readDoes_102 zb_8 ?_
            refine lv_iload_n (pc := 104) hx hb dX0_readDoes_104 rfl (lv_at hl 2 rfl) ?_
            refine lv_iload_n (pc := 105) hx hb dX0_readDoes_105 rfl (lv_at hl 1 rfl) ?_
            refine lv_iload (pc := 106) hx hb dX0_readDoes_106 (lv_at hl 0 rfl) ?_
            obtain ⟨r21, S20, k19, h⟩ := zBp_e h
            refine zr_VQ (pc := 108) (rest := []) cx cv_X0_91 (mX0_addLine hq k19) ⟨⟨rfl, rfl⟩, Nat.le_of_ble_eq_true rfl, Nat.le_of_ble_eq_true rfl⟩ ⟨Nat.le_of_ble_eq_true rfl, Nat.le_of_ble_eq_true rfl⟩ hP hS nC_240 sC_240 rfl hl.1 rfl rfl (Nat.le_of_ble_eq_true rfl) dX0_readDoes_108 (fun H locs hP hS => ?_)
            refine lv_if_eq (pc := 111) (tgt := 118) hx hb dX0_readDoes_111 (by decide) (fun c22 => ?_) (fun c22 => ?_)
            · replace h := zBr_t c22 h
              refine lv_iconst (pc := 118) hx hb dX0_readDoes_118 zc_0 ?_
              have hz := Option.some.inj h
              exact zr_rqZ (pc := 119) cx hr hlk hP hS hz (by decide) dX0_readDoes_119
            · replace h := zBr_f c22 h
              refine lv_iconst (pc := 114) hx hb dX0_readDoes_114 zc_1 ?_
              refine lv_goto (pc := 115) (tgt := 119) hx hb dX0_readDoes_115 (by decide) ?_
              have hz := Option.some.inj h
              exact zr_rqZ (pc := 119) cx hr hlk hP hS hz (by decide) dX0_readDoes_119
        · replace h := zBr_t c14 h
          refine lv_iconst (pc := 79) hx hb dX0_readDoes_79 zc_0 ?_
          have hz := Option.some.inj h
          exact zr_rqZ (pc := 80) cx hr hlk hP hS hz (by decide) dX0_readDoes_80
      · replace h := zBr_t c10 h
        refine lv_iconst (pc := 59) hx hb dX0_readDoes_59 zc_0 ?_
        have hz := Option.some.inj h
        exact zr_rqZ (pc := 60) cx hr hlk hP hS hz (by decide) dX0_readDoes_60
    · replace h := zBr_f c6 h
      refine lv_aload_n (pc := 37) hx hb dX0_readDoes_37 rfl (lv_at hl 2 rfl) ?_
      refine zr_getR (pc := 38) (t := 1) cx lk_X0_37 hP nC_240 sC_240 rfl dX0_readDoes_38 ?_
      refine lv_iconst (pc := 41) hx hb dX0_readDoes_41 zc_4 ?_
      refine lv_iload_n (pc := 42) hx hb dX0_readDoes_42 rfl (lv_at hl 1 rfl) ?_
      obtain ⟨r25, S24, k23, h⟩ := zBp_e h
      refine zr_VQ (pc := 43) (rest := []) cx cv_X0_87 (mX9_failAt hq k23) ⟨⟨rfl, rfl⟩, Nat.le_of_ble_eq_true rfl, Nat.le_of_ble_eq_true rfl⟩ ⟨Nat.le_of_ble_eq_true rfl, Nat.le_of_ble_eq_true rfl⟩ hP hS nC_1 sC_1 rfl hl.1 rfl rfl (Nat.le_of_ble_eq_true rfl) dX0_readDoes_43 (fun H locs hP hS => ?_)
      obtain ⟨g26, h⟩ := zGd_e h
      have hz := Option.some.inj h
      exact zr_rqZ (pc := 46) cx hr hlk hP hS hz g26 dX0_readDoes_46
  · replace h := zBr_t c5 h
    refine lv_iconst (pc := 26) hx hb dX0_readDoes_26 zc_0 ?_
    have hz := Option.some.inj h
    exact zr_rqZ (pc := 27) cx hr hlk hP hS hz (by decide) dX0_readDoes_27
-- X0_readSponge
abbrev rmX0_readSponge : Room := { frames := 3, cells := 0, slots := 0, locals := 69 }
def fX0_readSponge (S : zSt) : Option (Int32 × zSt) :=
  zBr ((S.1 240 6) < (40 : Int32)) (zBd (fX9_read S) (fun S3 => zBp (fX9_takeKnown S3 4 (1 : Int32)) (fun r6 S5 => zBr (r6 = (-1 : Int32)) (some ((0 : Int32), S5)) (zBp (fX0_addLine S5 (9 : Int32) r6 (0 : Int32) (0 : Int32)) (fun r10 S9 => zBr (r10 = 0) (some ((0 : Int32), S9)) (some ((1 : Int32), S9))))))) (zBp (fX9_fail S (4 : Int32)) (fun r14 S13 => zGd (zBo r14) (some (r14, S13))))
set_option maxHeartbeats 4000000 in
set_option maxRecDepth 100000 in
theorem mX0_readSponge {l : Launch} {D : va_G} {cy : Nat → ClassId} {q : Nat → Nat} {A : Nat → Prop} {S : zSt} (hq : zQ A q zNC) {z : (Int32 × zSt)} (h : fX0_readSponge S = some z) : zMq l yX0_readSponge cX0_readSponge 2 (some .boolean) rmX0_readSponge [.ref (q 240)] zsh zNC D cy q A S z := by
  refine Met.ofW (cc := cX0_readSponge) (maxL := 2) (ret := (some .boolean)) (by decide) rfl ?_
  intro p e s m args below meth c s₁ B hml hv
  obtain ⟨rfl, hP, hK⟩ := hv
  have cx : zX RX0 cX0_readSponge 2 p s m ([.ref (q 240)]).toArray c D cy := ⟨B.exec, B.bytes, hml, findClass_of_methodNamed B.named, fun w hw => atoms_spec (ws := Cond.code yX0_readSponge cX0_readSponge 2 (some .boolean) :: zTB) B.pre w (List.mem_cons_of_mem _ hw), hK⟩
  have hx := cx.1
  have hb := cx.2.1
  have hr := B.returns
  have hlk := B.notSynchronized
  have hS : va_S A s.heap s.heap [] := va_S.rf
  have hl := lv_entry ([.ref (q 240)]) (n := 2) (Nat.le_of_ble_eq_true rfl)
  rw [lg_entry_eq]
  generalize (lg_sl ([.ref (q 240)]) ++ List.replicate (2 - (lg_sl ([.ref (q 240)])).length) Slot.unset).toArray = ls at hl ⊢
  have hl : lv_has ls 2 [(0, .ref (q 240))] := hl
  unfold fX0_readSponge at h
  refine lv_aload_n (pc := 0) hx hb dX0_readSponge_0 rfl (lv_at hl 0 rfl) ?_
  refine zr_getI (pc := 1) cx lk_X0_51 hP nC_240 sC_240 rfl dX0_readSponge_1 ?_
  refine lv_bipush (pc := 4) hx hb dX0_readSponge_4 zb_40 ?_
  refine lv_icmp_lt (pc := 6) (tgt := 18) hx hb dX0_readSponge_6 (by decide) (fun c1 => ?_) (fun c1 => ?_)
  · replace h := zBr_t c1 h
    refine lv_aload_n (pc := 18) hx hb dX0_readSponge_18 rfl (lv_at hl 0 rfl) ?_
    refine zr_getR (pc := 19) (t := 1) cx lk_X0_37 hP nC_240 sC_240 rfl dX0_readSponge_19 ?_
    obtain ⟨S3, k2, h⟩ := zBd_e h
    refine zr_VV (pc := 22) (rest := []) cx cv_X0_95 (mX9_read hq k2) ⟨⟨rfl, rfl⟩, Nat.le_of_ble_eq_true rfl, Nat.le_of_ble_eq_true rfl⟩ ⟨Nat.le_of_ble_eq_true rfl, Nat.le_of_ble_eq_true rfl⟩ hP hS nC_1 sC_1 rfl hl.1 rfl rfl (Nat.le_of_ble_eq_true rfl) dX0_readSponge_22 (fun H locs hP hS => ?_)
    refine lv_aload_n (pc := 25) hx hb dX0_readSponge_25 rfl (lv_at hl 0 rfl) ?_
    refine zr_getR (pc := 26) (t := 1) cx lk_X0_37 hP nC_240 sC_240 rfl dX0_readSponge_26 ?_
    refine lv_aload_n (pc := 29) hx hb dX0_readSponge_29 rfl (lv_at hl 0 rfl) ?_
    refine zr_getR (pc := 30) (t := 4) cx lk_X0_41 hP nC_240 sC_240 rfl dX0_readSponge_30 ?_
    refine lv_iconst (pc := 33) hx hb dX0_readSponge_33 zc_1 ?_
    obtain ⟨r6, S5, k4, h⟩ := zBp_e h
    refine zr_VQ (pc := 34) (rest := []) cx cv_X0_83 (mX9_takeKnown hq zHouse_4 k4) ⟨⟨rfl, rfl⟩, Nat.le_of_ble_eq_true rfl, Nat.le_of_ble_eq_true rfl⟩ ⟨Nat.le_of_ble_eq_true rfl, Nat.le_of_ble_eq_true rfl⟩ hP hS nC_1 sC_1 rfl hl.1 rfl rfl (Nat.le_of_ble_eq_true rfl) dX0_readSponge_34 (fun H locs hP hS => ?_)
    refine lv_istore_n (lv' := [(1, .int r6), (0, .ref (q 240))]) (pc := 37) hx hb dX0_readSponge_37 rfl hl (by decide) rfl (fun ls hl => ?_)
    refine lv_iload_n (pc := 38) hx hb dX0_readSponge_38 rfl (lv_at hl 0 rfl) ?_
    refine lv_iconst (pc := 39) hx hb dX0_readSponge_39 zc_m1 ?_
    refine lv_icmp_eq (pc := 40) (tgt := 59) hx hb dX0_readSponge_40 (by decide) (fun c7 => ?_) (fun c7 => ?_)
    · replace h := zBr_t c7 h
      refine lv_iconst (pc := 59) hx hb dX0_readSponge_59 zc_0 ?_
      have hz := Option.some.inj h
      exact zr_rqZ (pc := 60) cx hr hlk hP hS hz (by decide) dX0_readSponge_60
    · replace h := zBr_f c7 h
      refine lv_aload_n (pc := 43) hx hb dX0_readSponge_43 rfl (lv_at hl 1 rfl) ?_
      refine lv_bipush (pc := 44) hx hb dX0_readSponge_44 zb_9 ?_
      refine lv_iload_n (pc := 46) hx hb dX0_readSponge_46 rfl (lv_at hl 0 rfl) ?_
      refine lv_iconst (pc := 47) hx hb dX0_readSponge_47 zc_0 ?_
      refine lv_iconst (pc := 48) hx hb dX0_readSponge_48 zc_0 ?_
      obtain ⟨r10, S9, k8, h⟩ := zBp_e h
      refine zr_VQ (pc := 49) (rest := []) cx cv_X0_91 (mX0_addLine hq k8) ⟨⟨rfl, rfl⟩, Nat.le_of_ble_eq_true rfl, Nat.le_of_ble_eq_true rfl⟩ ⟨Nat.le_of_ble_eq_true rfl, Nat.le_of_ble_eq_true rfl⟩ hP hS nC_240 sC_240 rfl hl.1 rfl rfl (Nat.le_of_ble_eq_true rfl) dX0_readSponge_49 (fun H locs hP hS => ?_)
      refine lv_if_eq (pc := 52) (tgt := 59) hx hb dX0_readSponge_52 (by decide) (fun c11 => ?_) (fun c11 => ?_)
      · replace h := zBr_t c11 h
        refine lv_iconst (pc := 59) hx hb dX0_readSponge_59 zc_0 ?_
        have hz := Option.some.inj h
        exact zr_rqZ (pc := 60) cx hr hlk hP hS hz (by decide) dX0_readSponge_60
      · replace h := zBr_f c11 h
        refine lv_iconst (pc := 55) hx hb dX0_readSponge_55 zc_1 ?_
        refine lv_goto (pc := 56) (tgt := 60) hx hb dX0_readSponge_56 (by decide) ?_
        have hz := Option.some.inj h
        exact zr_rqZ (pc := 60) cx hr hlk hP hS hz (by decide) dX0_readSponge_60
  · replace h := zBr_f c1 h
    refine lv_aload_n (pc := 9) hx hb dX0_readSponge_9 rfl (lv_at hl 0 rfl) ?_
    refine zr_getR (pc := 10) (t := 1) cx lk_X0_37 hP nC_240 sC_240 rfl dX0_readSponge_10 ?_
    refine lv_iconst (pc := 13) hx hb dX0_readSponge_13 zc_4 ?_
    obtain ⟨r14, S13, k12, h⟩ := zBp_e h
    refine zr_VQ (pc := 14) (rest := []) cx cv_X0_77 (mX9_fail hq k12) ⟨⟨rfl, rfl⟩, Nat.le_of_ble_eq_true rfl, Nat.le_of_ble_eq_true rfl⟩ ⟨Nat.le_of_ble_eq_true rfl, Nat.le_of_ble_eq_true rfl⟩ hP hS nC_1 sC_1 rfl hl.1 rfl rfl (Nat.le_of_ble_eq_true rfl) dX0_readSponge_14 (fun H locs hP hS => ?_)
    obtain ⟨g15, h⟩ := zGd_e h
    have hz := Option.some.inj h
    exact zr_rqZ (pc := 17) cx hr hlk hP hS hz g15 dX0_readSponge_17
-- X0_readLine
abbrev rmX0_readLine : Room := { frames := 4, cells := 0, slots := 0, locals := 93 }
def fX0_readLine (S : zSt) : Option (Int32 × zSt) :=
  zBr ((S.1 1 5) = 9) (zBp (fX0_readSponge S) (fun r7 S6 => zGd (zBo r7) (some (r7, S6)))) (zBr ((S.1 1 5) = 10) (zBp (fX0_readCarry S) (fun r11 S10 => zGd (zBo r11) (some (r11, S10)))) (zBr ((S.1 1 5) = 11) (zBp (fX0_readDay S) (fun r15 S14 => zGd (zBo r15) (some (r15, S14)))) (zBr ((S.1 1 5) = 100) (zBp (fX0_readDoes S) (fun r19 S18 => zGd (zBo r19) (some (r19, S18)))) (zBp (fX9_fail S (1 : Int32)) (fun r23 S22 => zGd (zBo r23) (some (r23, S22)))))))
set_option maxHeartbeats 4000000 in
set_option maxRecDepth 100000 in
theorem mX0_readLine {l : Launch} {D : va_G} {cy : Nat → ClassId} {q : Nat → Nat} {A : Nat → Prop} {S : zSt} (hq : zQ A q zNC) {z : (Int32 × zSt)} (h : fX0_readLine S = some z) : zMq l yX0_readLine cX0_readLine 1 (some .boolean) rmX0_readLine [.ref (q 240)] zsh zNC D cy q A S z := by
  refine Met.ofW (cc := cX0_readLine) (maxL := 1) (ret := (some .boolean)) (by decide) rfl ?_
  intro p e s m args below meth c s₁ B hml hv
  obtain ⟨rfl, hP, hK⟩ := hv
  have cx : zX RX0 cX0_readLine 1 p s m ([.ref (q 240)]).toArray c D cy := ⟨B.exec, B.bytes, hml, findClass_of_methodNamed B.named, fun w hw => atoms_spec (ws := Cond.code yX0_readLine cX0_readLine 1 (some .boolean) :: zTB) B.pre w (List.mem_cons_of_mem _ hw), hK⟩
  have hx := cx.1
  have hb := cx.2.1
  have hr := B.returns
  have hlk := B.notSynchronized
  have hS : va_S A s.heap s.heap [] := va_S.rf
  have hl := lv_entry ([.ref (q 240)]) (n := 1) (Nat.le_of_ble_eq_true rfl)
  rw [lg_entry_eq]
  generalize (lg_sl ([.ref (q 240)]) ++ List.replicate (1 - (lg_sl ([.ref (q 240)])).length) Slot.unset).toArray = ls at hl ⊢
  have hl : lv_has ls 1 [(0, .ref (q 240))] := hl
  unfold fX0_readLine at h
  refine lv_aload_n (pc := 0) hx hb dX0_readLine_0 rfl (lv_at hl 0 rfl) ?_
  refine zr_getR (pc := 1) (t := 1) cx lk_X0_37 hP nC_240 sC_240 rfl dX0_readLine_1 ?_
  refine zr_getI (pc := 4) cx lk_X0_54 hP nC_1 sC_1 rfl dX0_readLine_4 ?_
  by_cases c1 : (S.1 1 5) = 9
  · replace h := zBr_t c1 h
    refine lv_lookup (pc := 7) (off := 46) (tgt := 53) hx hb dX0_readLine_7 rfl (by rw [c1]; rfl) (by decide) ?_
    refine lv_aload_n (pc := 53) hx hb dX0_readLine_53 rfl (lv_at hl 0 rfl) ?_
    obtain ⟨r7, S6, k5, h⟩ := zBp_e h
    refine zr_VQ (pc := 54) (rest := []) cx cv_X0_68 (mX0_readSponge hq k5) ⟨⟨rfl, rfl⟩, Nat.le_of_ble_eq_true rfl, Nat.le_of_ble_eq_true rfl⟩ ⟨Nat.le_of_ble_eq_true rfl, Nat.le_of_ble_eq_true rfl⟩ hP hS nC_240 sC_240 rfl hl.1 rfl rfl (Nat.le_of_ble_eq_true rfl) dX0_readLine_54 (fun H locs hP hS => ?_)
    obtain ⟨g8, h⟩ := zGd_e h
    have hz := Option.some.inj h
    exact zr_rqZ (pc := 57) cx hr hlk hP hS hz g8 dX0_readLine_57
  · replace h := zBr_f c1 h
    by_cases c2 : (S.1 1 5) = 10
    · replace h := zBr_t c2 h
      refine lv_lookup (pc := 7) (off := 51) (tgt := 58) hx hb dX0_readLine_7 rfl (by rw [c2]; rfl) (by decide) ?_
      refine lv_aload_n (pc := 58) hx hb dX0_readLine_58 rfl (lv_at hl 0 rfl) ?_
      obtain ⟨r11, S10, k9, h⟩ := zBp_e h
      refine zr_VQ (pc := 59) (rest := []) cx cv_X0_71 (mX0_readCarry hq k9) ⟨⟨rfl, rfl⟩, Nat.le_of_ble_eq_true rfl, Nat.le_of_ble_eq_true rfl⟩ ⟨Nat.le_of_ble_eq_true rfl, Nat.le_of_ble_eq_true rfl⟩ hP hS nC_240 sC_240 rfl hl.1 rfl rfl (Nat.le_of_ble_eq_true rfl) dX0_readLine_59 (fun H locs hP hS => ?_)
      obtain ⟨g12, h⟩ := zGd_e h
      have hz := Option.some.inj h
      exact zr_rqZ (pc := 62) cx hr hlk hP hS hz g12 dX0_readLine_62
    · replace h := zBr_f c2 h
      by_cases c3 : (S.1 1 5) = 11
      · replace h := zBr_t c3 h
        refine lv_lookup (pc := 7) (off := 56) (tgt := 63) hx hb dX0_readLine_7 rfl (by rw [c3]; rfl) (by decide) ?_
        refine lv_aload_n (pc := 63) hx hb dX0_readLine_63 rfl (lv_at hl 0 rfl) ?_
        obtain ⟨r15, S14, k13, h⟩ := zBp_e h
        refine zr_VQ (pc := 64) (rest := []) cx cv_X0_74 (mX0_readDay hq k13) ⟨⟨rfl, rfl⟩, Nat.le_of_ble_eq_true rfl, Nat.le_of_ble_eq_true rfl⟩ ⟨Nat.le_of_ble_eq_true rfl, Nat.le_of_ble_eq_true rfl⟩ hP hS nC_240 sC_240 rfl hl.1 rfl rfl (Nat.le_of_ble_eq_true rfl) dX0_readLine_64 (fun H locs hP hS => ?_)
        obtain ⟨g16, h⟩ := zGd_e h
        have hz := Option.some.inj h
        exact zr_rqZ (pc := 67) cx hr hlk hP hS hz g16 dX0_readLine_67
      · replace h := zBr_f c3 h
        by_cases c4 : (S.1 1 5) = 100
        · replace h := zBr_t c4 h
          refine lv_lookup (pc := 7) (off := 41) (tgt := 48) hx hb dX0_readLine_7 rfl (by rw [c4]; rfl) (by decide) ?_
          refine lv_aload_n (pc := 48) hx hb dX0_readLine_48 rfl (lv_at hl 0 rfl) ?_
          obtain ⟨r19, S18, k17, h⟩ := zBp_e h
          refine zr_VQ (pc := 49) (rest := []) cx cv_X0_65 (mX0_readDoes hq k17) ⟨⟨rfl, rfl⟩, Nat.le_of_ble_eq_true rfl, Nat.le_of_ble_eq_true rfl⟩ ⟨Nat.le_of_ble_eq_true rfl, Nat.le_of_ble_eq_true rfl⟩ hP hS nC_240 sC_240 rfl hl.1 rfl rfl (Nat.le_of_ble_eq_true rfl) dX0_readLine_49 (fun H locs hP hS => ?_)
          obtain ⟨g20, h⟩ := zGd_e h
          have hz := Option.some.inj h
          exact zr_rqZ (pc := 52) cx hr hlk hP hS hz g20 dX0_readLine_52
        · replace h := zBr_f c4 h
          refine lv_lookup (pc := 7) (off := 61) (tgt := 68) hx hb dX0_readLine_7 rfl (by show Op.lookupswitch.offset [(9, 46), (10, 51), (11, 56), (100, 41)] 61 _ = _; rw [lv_osw c1 (by decide), lv_osw c2 (by decide), lv_osw c3 (by decide), lv_osw c4 (by decide)]; rfl) (by decide) ?_
          refine lv_aload_n (pc := 68) hx hb dX0_readLine_68 rfl (lv_at hl 0 rfl) ?_
          refine zr_getR (pc := 69) (t := 1) cx lk_X0_37 hP nC_240 sC_240 rfl dX0_readLine_69 ?_
          refine lv_iconst (pc := 72) hx hb dX0_readLine_72 zc_1 ?_
          obtain ⟨r23, S22, k21, h⟩ := zBp_e h
          refine zr_VQ (pc := 73) (rest := []) cx cv_X0_77 (mX9_fail hq k21) ⟨⟨rfl, rfl⟩, Nat.le_of_ble_eq_true rfl, Nat.le_of_ble_eq_true rfl⟩ ⟨Nat.le_of_ble_eq_true rfl, Nat.le_of_ble_eq_true rfl⟩ hP hS nC_1 sC_1 rfl hl.1 rfl rfl (Nat.le_of_ble_eq_true rfl) dX0_readLine_73 (fun H locs hP hS => ?_)
          obtain ⟨g24, h⟩ := zGd_e h
          have hz := Option.some.inj h
          exact zr_rqZ (pc := 76) cx hr hlk hP hS hz g24 dX0_readLine_76
-- X9_beginReading
abbrev rmX9_beginReading : Room := { frames := 2, cells := 0, slots := 0, locals := 46 }
def fX9_beginReading (S : zSt) (v1 : Int32) : Option zSt :=
  zLt (zI S 1 3 v1) (fun S1 => zLt (zI S1 1 4 (0 : Int32)) (fun S2 => zLt (zI S2 1 9 (0 : Int32)) (fun S3 => zLt (zI S3 1 10 (0 : Int32)) (fun S4 => zBd (fX9_read S4) (fun S6 => some S6)))))
set_option maxHeartbeats 4000000 in
set_option maxRecDepth 100000 in
theorem mX9_beginReading {l : Launch} {D : va_G} {cy : Nat → ClassId} {q : Nat → Nat} {A : Nat → Prop} {S : zSt} {v1 : Int32} (hq : zQ A q zNC) {z : zSt} (h : fX9_beginReading S v1 = some z) : zMv l yX9_beginReading cX9_beginReading 2 none rmX9_beginReading [.ref (q 1), .int v1] zsh zNC D cy q A S z := by
  refine Met.ofW (cc := cX9_beginReading) (maxL := 2) (ret := none) (by decide) rfl ?_
  intro p e s m args below meth c s₁ B hml hv
  obtain ⟨rfl, hP, hK⟩ := hv
  have cx : zX RX9 cX9_beginReading 2 p s m ([.ref (q 1), .int v1]).toArray c D cy := ⟨B.exec, B.bytes, hml, findClass_of_methodNamed B.named, fun w hw => atoms_spec (ws := Cond.code yX9_beginReading cX9_beginReading 2 none :: zTB) B.pre w (List.mem_cons_of_mem _ hw), hK⟩
  have hx := cx.1
  have hb := cx.2.1
  have hr := B.returns
  have hlk := B.notSynchronized
  have hS : va_S A s.heap s.heap [] := va_S.rf
  have hl := lv_entry ([.ref (q 1), .int v1]) (n := 2) (Nat.le_of_ble_eq_true rfl)
  rw [lg_entry_eq]
  generalize (lg_sl ([.ref (q 1), .int v1]) ++ List.replicate (2 - (lg_sl ([.ref (q 1), .int v1])).length) Slot.unset).toArray = ls at hl ⊢
  have hl : lv_has ls 2 [(0, .ref (q 1)), (1, .int v1)] := hl
  unfold fX9_beginReading at h
  refine lv_aload_n (pc := 0) hx hb dX9_beginReading_0 rfl (lv_at hl 0 rfl) ?_
  refine lv_iload_n (pc := 1) hx hb dX9_beginReading_1 rfl (lv_at hl 1 rfl) ?_
  obtain ⟨S1, eS1, h⟩ := zLt_e h
  refine zr_putI (pc := 2) cx lq_X9_34 hq hP hS nC_1 sC_1 rfl rfl rfl dX9_beginReading_2 (fun H locs hP hS => ?_)
  rw [← eS1] at hP
  refine lv_aload_n (pc := 5) hx hb dX9_beginReading_5 rfl (lv_at hl 0 rfl) ?_
  refine lv_iconst (pc := 6) hx hb dX9_beginReading_6 zc_0 ?_
  obtain ⟨S2, eS2, h⟩ := zLt_e h
  refine zr_putI (pc := 7) cx lq_X9_37 hq hP hS nC_1 sC_1 rfl rfl rfl dX9_beginReading_7 (fun H locs hP hS => ?_)
  rw [← eS2] at hP
  refine lv_aload_n (pc := 10) hx hb dX9_beginReading_10 rfl (lv_at hl 0 rfl) ?_
  refine lv_iconst (pc := 11) hx hb dX9_beginReading_11 zc_0 ?_
  obtain ⟨S3, eS3, h⟩ := zLt_e h
  refine zr_putI (pc := 12) cx lq_X9_40 hq hP hS nC_1 sC_1 rfl rfl rfl dX9_beginReading_12 (fun H locs hP hS => ?_)
  rw [← eS3] at hP
  refine lv_aload_n (pc := 15) hx hb dX9_beginReading_15 rfl (lv_at hl 0 rfl) ?_
  refine lv_iconst (pc := 16) hx hb dX9_beginReading_16 zc_0 ?_
  obtain ⟨S4, eS4, h⟩ := zLt_e h
  refine zr_putI (pc := 17) cx lq_X9_43 hq hP hS nC_1 sC_1 rfl rfl rfl dX9_beginReading_17 (fun H locs hP hS => ?_)
  rw [← eS4] at hP
  refine lv_aload_n (pc := 20) hx hb dX9_beginReading_20 rfl (lv_at hl 0 rfl) ?_
  obtain ⟨S6, k5, h⟩ := zBd_e h
  refine zr_VV (pc := 21) (rest := []) cx cv_X9_46 (mX9_read hq k5) ⟨⟨rfl, rfl⟩, Nat.le_of_ble_eq_true rfl, Nat.le_of_ble_eq_true rfl⟩ ⟨Nat.le_of_ble_eq_true rfl, Nat.le_of_ble_eq_true rfl⟩ hP hS nC_1 sC_1 rfl hl.1 rfl rfl (Nat.le_of_ble_eq_true rfl) dX9_beginReading_21 (fun H locs hP hS => ?_)
  have hz := Option.some.inj h
  exact zr_rqV (pc := 24) cx hr hlk hP hS hz dX9_beginReading_24
-- X0_readAll
abbrev rmX0_readAll : Room := { frames := 5, cells := 0, slots := 0, locals := 113 }
def fX0_readAll_17  (t : (zSt × Int32)) : Option ((zSt × Int32) ⊕ (Int32 × zSt)) :=
  match t with
  | (S, v1) => zBr ((40 : Int32) < v1) (zXr (some ((1 : Int32), S))) (zBr ((S.1 1 5) = (102 : Int32)) (zXr (some ((1 : Int32), S))) (zBp (fX0_readLine S) (fun r10 S9 => zBr (r10 = 0) (zXr (some ((0 : Int32), S9))) (zBp (fX9_take S9 (59 : Int32)) (fun r15 S14 => zBr (r15 = 0) (zXr (some ((0 : Int32), S14))) (zLt (v1 + (1 : Int32)) (fun x17 => some (.inl (S14, x17)))))))))
set_option maxHeartbeats 4000000 in
set_option maxRecDepth 100000 in
theorem kX0_readAll_17B {p : Program} {l : Launch} {e : Env} {s : State} {m : MethodId} {args : Array Value} {below : List Frame} {meth : Method} {c : Code} {D : va_G} {cy : Nat → ClassId} {q : Nat → Nat} {A : Nat → Prop} (cx : zX RX0 cX0_readAll 2 p s m args c D cy) (hr : meth.sig.returnType = (some .boolean)) (hlk : meth.locks = false) (hq : zQ A q zNC) {z : (Int32 × zSt)} {S : zSt} {v1 : Int32} {C1 : ((zSt × Int32) ⊕ (Int32 × zSt)) → Prop} (hb1 : ∀ (S : zSt) (v1 : Int32), C1 (.inl (S, v1)) → ∀ (H : Heap) (locs : List Loc), va_P D vwCl (zW zsh zNC cy q S) H → va_S A s.heap H locs → ∀ (ls : Array Slot), lv_has ls 2 [(0, .ref (q 240)), (1, .int v1)] → W p l e rmX0_readAll s m args below meth c H locs 0 0 (MQ below (va_Qi (fun (r : Int32) (u : zSt) => (r, u) = z) (fun u t => va_P D vwCl (zW zsh zNC cy q u) t.heap) A) args s 0 0 A) (F0 m 17 ls [])) (hx1 : ∀ a, C1 (.inr a) → a = z) {x : ((zSt × Int32) ⊕ (Int32 × zSt))} (h : fX0_readAll_17 (S, v1) = some x) (hc : C1 x) {H : Heap} {locs : List Loc} (hP : va_P D vwCl (zW zsh zNC cy q S) H) (hS : va_S A s.heap H locs) {ls : Array Slot} (hl : lv_has ls 2 [(0, .ref (q 240)), (1, .int v1)]) : W p l e rmX0_readAll s m args below meth c H locs 0 0 (MQ below (va_Qi (fun (r : Int32) (u : zSt) => (r, u) = z) (fun u t => va_P D vwCl (zW zsh zNC cy q u) t.heap) A) args s 0 0 A) (F0 m 17 ls []) := by
  have hx := cx.1
  have hb := cx.2.1
  unfold fX0_readAll_17 at h
  dsimp only at h
  refine lv_iload_n (pc := 17) hx hb dX0_readAll_17 rfl (lv_at hl 1 rfl) ?_
  refine lv_bipush (pc := 18) hx hb dX0_readAll_18 zb_40 ?_
  refine lv_icmp_gt (pc := 20) (tgt := 62) hx hb dX0_readAll_20 (by decide) (fun c4 => ?_) (fun c4 => ?_)
  · replace h := zBr_t c4 h
    obtain ⟨y5, h, ex⟩ := zXr_e h
    have hc := hx1 y5 (by rw [ex] at hc; exact hc)
    rw [hc] at h
    refine lv_iconst (pc := 62) hx hb dX0_readAll_62 zc_1 ?_
    have hz := Option.some.inj h
    exact zr_rqZ (pc := 63) cx hr hlk hP hS hz (by decide) dX0_readAll_63
  · replace h := zBr_f c4 h
    refine lv_aload_n (pc := 23) hx hb dX0_readAll_23 rfl (lv_at hl 0 rfl) ?_
    refine zr_getR (pc := 24) (t := 1) cx lk_X0_37 hP nC_240 sC_240 rfl dX0_readAll_24 ?_
    refine zr_getI (pc := 27) cx lk_X0_54 hP nC_1 sC_1 rfl dX0_readAll_27 ?_
    refine lv_bipush (pc := 30) hx hb dX0_readAll_30 zb_102 ?_
    refine lv_icmp_eq (pc := 32) (tgt := 62) hx hb dX0_readAll_32 (by decide) (fun c6 => ?_) (fun c6 => ?_)
    · replace h := zBr_t c6 h
      obtain ⟨y7, h, ex⟩ := zXr_e h
      have hc := hx1 y7 (by rw [ex] at hc; exact hc)
      rw [hc] at h
      refine lv_iconst (pc := 62) hx hb dX0_readAll_62 zc_1 ?_
      have hz := Option.some.inj h
      exact zr_rqZ (pc := 63) cx hr hlk hP hS hz (by decide) dX0_readAll_63
    · replace h := zBr_f c6 h
      refine lv_aload_n (pc := 35) hx hb dX0_readAll_35 rfl (lv_at hl 0 rfl) ?_
      obtain ⟨r10, S9, k8, h⟩ := zBp_e h
      refine zr_VQ (pc := 36) (rest := []) cx cv_X0_57 (mX0_readLine hq k8) ⟨⟨rfl, rfl⟩, Nat.le_of_ble_eq_true rfl, Nat.le_of_ble_eq_true rfl⟩ ⟨Nat.le_of_ble_eq_true rfl, Nat.le_of_ble_eq_true rfl⟩ hP hS nC_240 sC_240 rfl hl.1 rfl rfl (Nat.le_of_ble_eq_true rfl) dX0_readAll_36 (fun H locs hP hS => ?_)
      refine lv_if_eq (pc := 39) (tgt := 54) hx hb dX0_readAll_39 (by decide) (fun c11 => ?_) (fun c11 => ?_)
      · replace h := zBr_t c11 h
        obtain ⟨y12, h, ex⟩ := zXr_e h
        have hc := hx1 y12 (by rw [ex] at hc; exact hc)
        rw [hc] at h
        refine lv_iconst (pc := 54) hx hb dX0_readAll_54 zc_0 ?_
        have hz := Option.some.inj h
        exact zr_rqZ (pc := 55) cx hr hlk hP hS hz (by decide) dX0_readAll_55
      · replace h := zBr_f c11 h
        refine lv_aload_n (pc := 42) hx hb dX0_readAll_42 rfl (lv_at hl 0 rfl) ?_
        refine zr_getR (pc := 43) (t := 1) cx lk_X0_37 hP nC_240 sC_240 rfl dX0_readAll_43 ?_
        refine lv_bipush (pc := 46) hx hb dX0_readAll_46 zb_59 ?_
        obtain ⟨r15, S14, k13, h⟩ := zBp_e h
        refine zr_VQ (pc := 48) (rest := []) cx cv_X0_61 (mX9_take hq k13) ⟨⟨rfl, rfl⟩, Nat.le_of_ble_eq_true rfl, Nat.le_of_ble_eq_true rfl⟩ ⟨Nat.le_of_ble_eq_true rfl, Nat.le_of_ble_eq_true rfl⟩ hP hS nC_1 sC_1 rfl hl.1 rfl rfl (Nat.le_of_ble_eq_true rfl) dX0_readAll_48 (fun H locs hP hS => ?_)
        refine lv_if_ne (pc := 51) (tgt := 56) hx hb dX0_readAll_51 (by decide) (fun c16 => ?_) (fun c16 => ?_)
        · replace h := zBr_f c16 h
          obtain ⟨x17, ex17, h⟩ := zLt_e h
          refine lv_iinc (v := x17) (lv' := [(1, .int x17), (0, .ref (q 240))]) (pc := 56) hx hb dX0_readAll_56 hl (k := 1) rfl (by rw [zc_1]; exact ex17.symm) (by decide) rfl (fun ls hl => ?_)
          refine lv_goto (pc := 59) (tgt := 17) hx hb dX0_readAll_59 (by decide) ?_
          cases h
          exact hb1 _ _ hc _ _ hP hS _ (lv_sub hl [1, 0] rfl)
        · replace h := zBr_t c16 h
          obtain ⟨y18, h, ex⟩ := zXr_e h
          have hc := hx1 y18 (by rw [ex] at hc; exact hc)
          rw [hc] at h
          refine lv_iconst (pc := 54) hx hb dX0_readAll_54 zc_0 ?_
          have hz := Option.some.inj h
          exact zr_rqZ (pc := 55) cx hr hlk hP hS hz (by decide) dX0_readAll_55
set_option maxHeartbeats 4000000 in
set_option maxRecDepth 100000 in
theorem kX0_readAll_17 {p : Program} {l : Launch} {e : Env} {s : State} {m : MethodId} {args : Array Value} {below : List Frame} {meth : Method} {c : Code} {D : va_G} {cy : Nat → ClassId} {q : Nat → Nat} {A : Nat → Prop} (cx : zX RX0 cX0_readAll 2 p s m args c D cy) (hr : meth.sig.returnType = (some .boolean)) (hlk : meth.locks = false) (hq : zQ A q zNC) {z : (Int32 × zSt)} : ∀ (n : Nat) (S : zSt) (v1 : Int32), zLp (fX0_readAll_17) n (S, v1) = some z → ∀ (H : Heap) (locs : List Loc), va_P D vwCl (zW zsh zNC cy q S) H → va_S A s.heap H locs → ∀ (ls : Array Slot), lv_has ls 2 [(0, .ref (q 240)), (1, .int v1)] → W p l e rmX0_readAll s m args below meth c H locs 0 0 (MQ below (va_Qi (fun (r : Int32) (u : zSt) => (r, u) = z) (fun u t => va_P D vwCl (zW zsh zNC cy q u) t.heap) A) args s 0 0 A) (F0 m 17 ls []) := by
  intro n
  induction n with
  | zero =>
    intro S v1 h
    cases h
  | succ n ih =>
    intro S v1 h H locs hP hS ls hl
    obtain ⟨x, h, hk⟩ := zLp_e h
    exact kX0_readAll_17B cx hr hlk hq  (C1 := zKt (fun t => zLp (fX0_readAll_17) n t = some z) (fun a => a = z)) (fun S v1 ht H locs hP hS ls hl => ih S v1 ht H locs hP hS ls hl) (fun a ha => ha) h hk hP hS hl
def fX0_readAll (S : zSt) : Option (Int32 × zSt) :=
  zBd (fX9_beginReading S (400 : Int32)) (fun S2 => zLt (zI S2 240 6 (0 : Int32)) (fun S3 => zLp (fX0_readAll_17) 2000 (S3, (0 : Int32))))
set_option maxHeartbeats 4000000 in
set_option maxRecDepth 100000 in
theorem mX0_readAll {l : Launch} {D : va_G} {cy : Nat → ClassId} {q : Nat → Nat} {A : Nat → Prop} {S : zSt} (hq : zQ A q zNC) {z : (Int32 × zSt)} (h : fX0_readAll S = some z) : zMq l yX0_readAll cX0_readAll 2 (some .boolean) rmX0_readAll [.ref (q 240)] zsh zNC D cy q A S z := by
  refine Met.ofW (cc := cX0_readAll) (maxL := 2) (ret := (some .boolean)) (by decide) rfl ?_
  intro p e s m args below meth c s₁ B hml hv
  obtain ⟨rfl, hP, hK⟩ := hv
  have cx : zX RX0 cX0_readAll 2 p s m ([.ref (q 240)]).toArray c D cy := ⟨B.exec, B.bytes, hml, findClass_of_methodNamed B.named, fun w hw => atoms_spec (ws := Cond.code yX0_readAll cX0_readAll 2 (some .boolean) :: zTB) B.pre w (List.mem_cons_of_mem _ hw), hK⟩
  have hx := cx.1
  have hb := cx.2.1
  have hr := B.returns
  have hlk := B.notSynchronized
  have hS : va_S A s.heap s.heap [] := va_S.rf
  have hl := lv_entry ([.ref (q 240)]) (n := 2) (Nat.le_of_ble_eq_true rfl)
  rw [lg_entry_eq]
  generalize (lg_sl ([.ref (q 240)]) ++ List.replicate (2 - (lg_sl ([.ref (q 240)])).length) Slot.unset).toArray = ls at hl ⊢
  have hl : lv_has ls 2 [(0, .ref (q 240))] := hl
  unfold fX0_readAll at h
  refine lv_aload_n (pc := 0) hx hb dX0_readAll_0 rfl (lv_at hl 0 rfl) ?_
  refine zr_getR (pc := 1) (t := 1) cx lk_X0_37 hP nC_240 sC_240 rfl dX0_readAll_1 ?_
  refine lv_sipush (pc := 4) hx hb dX0_readAll_4 zs_400 ?_
  obtain ⟨S2, k1, h⟩ := zBd_e h
  refine zr_VV (pc := 7) (rest := []) cx cv_X0_45 (mX9_beginReading hq k1) ⟨⟨rfl, rfl⟩, Nat.le_of_ble_eq_true rfl, Nat.le_of_ble_eq_true rfl⟩ ⟨Nat.le_of_ble_eq_true rfl, Nat.le_of_ble_eq_true rfl⟩ hP hS nC_1 sC_1 rfl hl.1 rfl rfl (Nat.le_of_ble_eq_true rfl) dX0_readAll_7 (fun H locs hP hS => ?_)
  refine lv_aload_n (pc := 10) hx hb dX0_readAll_10 rfl (lv_at hl 0 rfl) ?_
  refine lv_iconst (pc := 11) hx hb dX0_readAll_11 zc_0 ?_
  obtain ⟨S3, eS3, h⟩ := zLt_e h
  refine zr_putI (pc := 12) cx lq_X0_51 hq hP hS nC_240 sC_240 rfl rfl rfl dX0_readAll_12 (fun H locs hP hS => ?_)
  rw [← eS3] at hP
  refine lv_iconst (pc := 15) hx hb dX0_readAll_15 zc_0 ?_
  refine lv_istore_n (lv' := [(1, .int (0 : Int32)), (0, .ref (q 240))]) (pc := 16) hx hb dX0_readAll_16 rfl hl (by decide) rfl (fun ls hl => ?_)
  exact kX0_readAll_17 cx hr hlk hq 2000 _ _ h _ _ hP hS _ (lv_sub hl [1, 0] rfl)
-- X10_keepWay
abbrev rmX10_keepWay : Room := { frames := 0, cells := 0, slots := 0, locals := 0 }
def fX10_keepWay_58  (t : (zSt × Int32 × Int32)) : Option ((zSt × Int32 × Int32) ⊕ zSt) :=
  match t with
  | (S, v2, v3) => zBr (v3 < 0) (zXr (some S)) (zGd (decide (¬ (5 : Int32) = 0)) (zGd (zIx v3 160) (zLt (zI S 260 v3.toNatClampNeg (v2 - v2 / (5 : Int32) * (5 : Int32))) (fun S9 => zGd (zIx v2 160) (zLt (S9.1 258 v2.toNatClampNeg) (fun x11 => zLt (v3 + (-1 : Int32)) (fun x12 => some (.inl (S9, x11, x12)))))))))
set_option maxHeartbeats 4000000 in
set_option maxRecDepth 100000 in
theorem kX10_keepWay_58B {p : Program} {l : Launch} {e : Env} {s : State} {m : MethodId} {args : Array Value} {below : List Frame} {meth : Method} {c : Code} {D : va_G} {cy : Nat → ClassId} {q : Nat → Nat} {A : Nat → Prop} (cx : zX RX10 cX10_keepWay 4 p s m args c D cy) (hr : meth.sig.returnType = none) (hlk : meth.locks = false) (hq : zQ A q zNC) {z : zSt} {S : zSt} {v2 : Int32} {v3 : Int32} {C1 : ((zSt × Int32 × Int32) ⊕ zSt) → Prop} (hb1 : ∀ (S : zSt) (v2 : Int32) (v3 : Int32), C1 (.inl (S, v2, v3)) → ∀ (H : Heap) (locs : List Loc), va_P D vwCl (zW zsh zNC cy q S) H → va_S A s.heap H locs → ∀ (ls : Array Slot), lv_has ls 4 [(0, .ref (q 256)), (2, .int v2), (3, .int v3)] → W p l e rmX10_keepWay s m args below meth c H locs 0 0 (MQ below (va_Qv (fun (u : zSt) => u = z) (fun u t => va_P D vwCl (zW zsh zNC cy q u) t.heap) A) args s 0 0 A) (F0 m 58 ls [])) (hx1 : ∀ a, C1 (.inr a) → a = z) {x : ((zSt × Int32 × Int32) ⊕ zSt)} (h : fX10_keepWay_58 (S, v2, v3) = some x) (hc : C1 x) {H : Heap} {locs : List Loc} (hP : va_P D vwCl (zW zsh zNC cy q S) H) (hS : va_S A s.heap H locs) {ls : Array Slot} (hl : lv_has ls 4 [(0, .ref (q 256)), (2, .int v2), (3, .int v3)]) : W p l e rmX10_keepWay s m args below meth c H locs 0 0 (MQ below (va_Qv (fun (u : zSt) => u = z) (fun u t => va_P D vwCl (zW zsh zNC cy q u) t.heap) A) args s 0 0 A) (F0 m 58 ls []) := by
  have hx := cx.1
  have hb := cx.2.1
  unfold fX10_keepWay_58 at h
  dsimp only at h
  refine lv_iload_n (pc := 58) hx hb dX10_keepWay_58 rfl (lv_at hl 2 rfl) ?_
  refine lv_if_lt (pc := 59) (tgt := 84) hx hb dX10_keepWay_59 (by decide) (fun c5 => ?_) (fun c5 => ?_)
  · replace h := zBr_t c5 h
    obtain ⟨y6, h, ex⟩ := zXr_e h
    have hc := hx1 y6 (by rw [ex] at hc; exact hc)
    rw [hc] at h
    have hz := Option.some.inj h
    exact zr_rqV (pc := 84) cx hr hlk hP hS hz dX10_keepWay_84
  · replace h := zBr_f c5 h
    refine lv_aload_n (pc := 62) hx hb dX10_keepWay_62 rfl (lv_at hl 0 rfl) ?_
    refine zr_getR (pc := 63) (t := 260) cx lk_X10_22 hP nC_256 sC_256 rfl dX10_keepWay_63 ?_
    refine lv_iload_n (pc := 66) hx hb dX10_keepWay_66 rfl (lv_at hl 2 rfl) ?_
    refine lv_iload_n (pc := 67) hx hb dX10_keepWay_67 rfl (lv_at hl 1 rfl) ?_
    refine lv_iconst (pc := 68) hx hb dX10_keepWay_68 zc_5 ?_
    obtain ⟨g7, h⟩ := zGd_e h
    refine lv_irem (pc := 69) hx hb dX10_keepWay_69 (by simpa using g7) ?_
    obtain ⟨g8, h⟩ := zGd_e h
    obtain ⟨S9, eS9, h⟩ := zLt_e h
    refine zr_iast (pc := 70) cx hq hP hS nC_260 sC_260 g8 dX10_keepWay_70 (fun H locs hP hS => ?_)
    rw [← eS9] at hP
    refine lv_aload_n (pc := 71) hx hb dX10_keepWay_71 rfl (lv_at hl 0 rfl) ?_
    refine zr_getR (pc := 72) (t := 258) cx lk_X10_15 hP nC_256 sC_256 rfl dX10_keepWay_72 ?_
    refine lv_iload_n (pc := 75) hx hb dX10_keepWay_75 rfl (lv_at hl 1 rfl) ?_
    obtain ⟨g10, h⟩ := zGd_e h
    refine zr_iald (pc := 76) cx hP nC_258 sC_258 g10 dX10_keepWay_76 ?_
    obtain ⟨x11, ex11, h⟩ := zLt_e h
    refine zr_nmI ex11 ?_
    refine lv_istore_n (lv' := [(2, .int x11), (0, .ref (q 256)), (3, .int v3)]) (pc := 77) hx hb dX10_keepWay_77 rfl hl (by decide) rfl (fun ls hl => ?_)
    obtain ⟨x12, ex12, h⟩ := zLt_e h
    refine lv_iinc (v := x12) (lv' := [(3, .int x12), (2, .int x11), (0, .ref (q 256))]) (pc := 78) hx hb dX10_keepWay_78 hl (k := 2) rfl (by rw [zc_m1]; exact ex12.symm) (by decide) rfl (fun ls hl => ?_)
    refine lv_goto (pc := 81) (tgt := 58) hx hb dX10_keepWay_81 (by decide) ?_
    cases h
    exact hb1 _ _ _ hc _ _ hP hS _ (lv_sub hl [2, 1, 0] rfl)
set_option maxHeartbeats 4000000 in
set_option maxRecDepth 100000 in
theorem kX10_keepWay_58 {p : Program} {l : Launch} {e : Env} {s : State} {m : MethodId} {args : Array Value} {below : List Frame} {meth : Method} {c : Code} {D : va_G} {cy : Nat → ClassId} {q : Nat → Nat} {A : Nat → Prop} (cx : zX RX10 cX10_keepWay 4 p s m args c D cy) (hr : meth.sig.returnType = none) (hlk : meth.locks = false) (hq : zQ A q zNC) {z : zSt} : ∀ (n : Nat) (S : zSt) (v2 : Int32) (v3 : Int32), zLp (fX10_keepWay_58) n (S, v2, v3) = some z → ∀ (H : Heap) (locs : List Loc), va_P D vwCl (zW zsh zNC cy q S) H → va_S A s.heap H locs → ∀ (ls : Array Slot), lv_has ls 4 [(0, .ref (q 256)), (2, .int v2), (3, .int v3)] → W p l e rmX10_keepWay s m args below meth c H locs 0 0 (MQ below (va_Qv (fun (u : zSt) => u = z) (fun u t => va_P D vwCl (zW zsh zNC cy q u) t.heap) A) args s 0 0 A) (F0 m 58 ls []) := by
  intro n
  induction n with
  | zero =>
    intro S v2 v3 h
    cases h
  | succ n ih =>
    intro S v2 v3 h H locs hP hS ls hl
    obtain ⟨x, h, hk⟩ := zLp_e h
    exact kX10_keepWay_58B cx hr hlk hq  (C1 := zKt (fun t => zLp (fX10_keepWay_58) n t = some z) (fun a => a = z)) (fun S v2 v3 ht H locs hP hS ls hl => ih S v2 v3 ht H locs hP hS ls hl) (fun a ha => ha) h hk hP hS hl
def fX10_keepWay_49 (S : zSt)  (v1 : Int32) : Option zSt :=
  zLt ((S.1 256 4) - (1 : Int32)) (fun x4 => zLp (fX10_keepWay_58) 2000 (S, v1, x4))
set_option maxHeartbeats 4000000 in
set_option maxRecDepth 100000 in
theorem kX10_keepWay_49 {p : Program} {l : Launch} {e : Env} {s : State} {m : MethodId} {args : Array Value} {below : List Frame} {meth : Method} {c : Code} {D : va_G} {cy : Nat → ClassId} {q : Nat → Nat} {A : Nat → Prop} (cx : zX RX10 cX10_keepWay 4 p s m args c D cy) (hr : meth.sig.returnType = none) (hlk : meth.locks = false) (hq : zQ A q zNC) {z : zSt} {S : zSt} {v1 : Int32} (h : fX10_keepWay_49 S v1 = some z) {H : Heap} {locs : List Loc} (hP : va_P D vwCl (zW zsh zNC cy q S) H) (hS : va_S A s.heap H locs) {ls : Array Slot} (hl : lv_has ls 4 [(0, .ref (q 256)), (1, .int v1)]) : W p l e rmX10_keepWay s m args below meth c H locs 0 0 (MQ below (va_Qv (fun (u : zSt) => u = z) (fun u t => va_P D vwCl (zW zsh zNC cy q u) t.heap) A) args s 0 0 A) (F0 m 49 ls []) := by
  have hx := cx.1
  have hb := cx.2.1
  unfold fX10_keepWay_49 at h
  refine lv_iload_n (pc := 49) hx hb dX10_keepWay_49 rfl (lv_at hl 1 rfl) ?_
  refine lv_istore_n (lv' := [(2, .int v1), (0, .ref (q 256)), (1, .int v1)]) (pc := 50) hx hb dX10_keepWay_50 rfl hl (by decide) rfl (fun ls hl => ?_)
  refine lv_aload_n (pc := 51) hx hb dX10_keepWay_51 rfl (lv_at hl 1 rfl) ?_
  refine zr_getI (pc := 52) cx lk_X10_33 hP nC_256 sC_256 rfl dX10_keepWay_52 ?_
  refine lv_iconst (pc := 55) hx hb dX10_keepWay_55 zc_1 ?_
  refine lv_isub (pc := 56) hx hb dX10_keepWay_56 ?_
  obtain ⟨x4, ex4, h⟩ := zLt_e h
  refine zr_nmI ex4 ?_
  refine lv_istore_n (lv' := [(3, .int x4), (2, .int v1), (0, .ref (q 256)), (1, .int v1)]) (pc := 57) hx hb dX10_keepWay_57 rfl hl (by decide) rfl (fun ls hl => ?_)
  exact kX10_keepWay_58 cx hr hlk hq 2000 _ _ _ h _ _ hP hS _ (lv_sub hl [2, 1, 0] rfl)
def fX10_keepWay_9  (v1 : Int32) (t : (zSt × Int32 × Int32)) : Option ((zSt × Int32 × Int32) ⊕ zSt) :=
  match t with
  | (S, v2, v3) => zBr ((160 : Int32) ≤ v3) (zXr (fX10_keepWay_49 S v1)) (zGd (zIx v2 160) (zBr ((S.1 258 v2.toNatClampNeg) = (-1 : Int32)) (zXr (fX10_keepWay_49 S v1)) (zLt (zI S 256 4 ((S.1 256 4) + (1 : Int32))) (fun S16 => zGd (zIx v2 160) (zLt (S16.1 258 v2.toNatClampNeg) (fun x18 => zLt (v3 + (1 : Int32)) (fun x19 => some (.inl (S16, x18, x19)))))))))
set_option maxHeartbeats 4000000 in
set_option maxRecDepth 100000 in
theorem kX10_keepWay_9B {p : Program} {l : Launch} {e : Env} {s : State} {m : MethodId} {args : Array Value} {below : List Frame} {meth : Method} {c : Code} {D : va_G} {cy : Nat → ClassId} {q : Nat → Nat} {A : Nat → Prop} (cx : zX RX10 cX10_keepWay 4 p s m args c D cy) (hr : meth.sig.returnType = none) (hlk : meth.locks = false) (hq : zQ A q zNC) {z : zSt} {S : zSt} {v1 : Int32} {v2 : Int32} {v3 : Int32} {C1 : ((zSt × Int32 × Int32) ⊕ zSt) → Prop} (hb1 : ∀ (S : zSt) (v2 : Int32) (v3 : Int32), C1 (.inl (S, v2, v3)) → ∀ (H : Heap) (locs : List Loc), va_P D vwCl (zW zsh zNC cy q S) H → va_S A s.heap H locs → ∀ (ls : Array Slot), lv_has ls 4 [(0, .ref (q 256)), (1, .int v1), (2, .int v2), (3, .int v3)] → W p l e rmX10_keepWay s m args below meth c H locs 0 0 (MQ below (va_Qv (fun (u : zSt) => u = z) (fun u t => va_P D vwCl (zW zsh zNC cy q u) t.heap) A) args s 0 0 A) (F0 m 9 ls [])) (hx1 : ∀ a, C1 (.inr a) → a = z) {x : ((zSt × Int32 × Int32) ⊕ zSt)} (h : fX10_keepWay_9 v1 (S, v2, v3) = some x) (hc : C1 x) {H : Heap} {locs : List Loc} (hP : va_P D vwCl (zW zsh zNC cy q S) H) (hS : va_S A s.heap H locs) {ls : Array Slot} (hl : lv_has ls 4 [(0, .ref (q 256)), (1, .int v1), (2, .int v2), (3, .int v3)]) : W p l e rmX10_keepWay s m args below meth c H locs 0 0 (MQ below (va_Qv (fun (u : zSt) => u = z) (fun u t => va_P D vwCl (zW zsh zNC cy q u) t.heap) A) args s 0 0 A) (F0 m 9 ls []) := by
  have hx := cx.1
  have hb := cx.2.1
  unfold fX10_keepWay_9 at h
  dsimp only at h
  refine lv_iload_n (pc := 9) hx hb dX10_keepWay_9 rfl (lv_at hl 3 rfl) ?_
  refine lv_sipush (pc := 10) hx hb dX10_keepWay_10 zs_160 ?_
  refine lv_icmp_ge (pc := 13) (tgt := 49) hx hb dX10_keepWay_13 (by decide) (fun c2 => ?_) (fun c2 => ?_)
  · replace h := zBr_t c2 h
    obtain ⟨y3, h, ex⟩ := zXr_e h
    have hc := hx1 y3 (by rw [ex] at hc; exact hc)
    rw [hc] at h
    exact kX10_keepWay_49 cx hr hlk hq h hP hS (lv_sub hl [0, 1] rfl)
  · replace h := zBr_f c2 h
    refine lv_aload_n (pc := 16) hx hb dX10_keepWay_16 rfl (lv_at hl 0 rfl) ?_
    refine zr_getR (pc := 17) (t := 258) cx lk_X10_15 hP nC_256 sC_256 rfl dX10_keepWay_17 ?_
    refine lv_iload_n (pc := 20) hx hb dX10_keepWay_20 rfl (lv_at hl 2 rfl) ?_
    obtain ⟨g13, h⟩ := zGd_e h
    refine zr_iald (pc := 21) cx hP nC_258 sC_258 g13 dX10_keepWay_21 ?_
    refine lv_iconst (pc := 22) hx hb dX10_keepWay_22 zc_m1 ?_
    refine lv_icmp_eq (pc := 23) (tgt := 49) hx hb dX10_keepWay_23 (by decide) (fun c14 => ?_) (fun c14 => ?_)
    · replace h := zBr_t c14 h
      obtain ⟨y15, h, ex⟩ := zXr_e h
      have hc := hx1 y15 (by rw [ex] at hc; exact hc)
      rw [hc] at h
      exact kX10_keepWay_49 cx hr hlk hq h hP hS (lv_sub hl [0, 1] rfl)
    · replace h := zBr_f c14 h
      refine lv_aload_n (pc := 26) hx hb dX10_keepWay_26 rfl (lv_at hl 0 rfl) ?_
      refine lv_dup (pc := 27) hx hb dX10_keepWay_27 rfl ?_
      refine zr_getI (pc := 28) cx lk_X10_33 hP nC_256 sC_256 rfl dX10_keepWay_28 ?_
      refine lv_iconst (pc := 31) hx hb dX10_keepWay_31 zc_1 ?_
      refine lv_iadd (pc := 32) hx hb dX10_keepWay_32 ?_
      obtain ⟨S16, eS16, h⟩ := zLt_e h
      refine zr_putI (pc := 33) cx lq_X10_33 hq hP hS nC_256 sC_256 rfl rfl rfl dX10_keepWay_33 (fun H locs hP hS => ?_)
      rw [← eS16] at hP
      refine lv_aload_n (pc := 36) hx hb dX10_keepWay_36 rfl (lv_at hl 0 rfl) ?_
      refine zr_getR (pc := 37) (t := 258) cx lk_X10_15 hP nC_256 sC_256 rfl dX10_keepWay_37 ?_
      refine lv_iload_n (pc := 40) hx hb dX10_keepWay_40 rfl (lv_at hl 2 rfl) ?_
      obtain ⟨g17, h⟩ := zGd_e h
      refine zr_iald (pc := 41) cx hP nC_258 sC_258 g17 dX10_keepWay_41 ?_
      obtain ⟨x18, ex18, h⟩ := zLt_e h
      refine zr_nmI ex18 ?_
      refine lv_istore_n (lv' := [(2, .int x18), (0, .ref (q 256)), (1, .int v1), (3, .int v3)]) (pc := 42) hx hb dX10_keepWay_42 rfl hl (by decide) rfl (fun ls hl => ?_)
      obtain ⟨x19, ex19, h⟩ := zLt_e h
      refine lv_iinc (v := x19) (lv' := [(3, .int x19), (2, .int x18), (0, .ref (q 256)), (1, .int v1)]) (pc := 43) hx hb dX10_keepWay_43 hl (k := 3) rfl (by rw [zc_1]; exact ex19.symm) (by decide) rfl (fun ls hl => ?_)
      refine lv_goto (pc := 46) (tgt := 9) hx hb dX10_keepWay_46 (by decide) ?_
      cases h
      exact hb1 _ _ _ hc _ _ hP hS _ (lv_sub hl [2, 3, 1, 0] rfl)
set_option maxHeartbeats 4000000 in
set_option maxRecDepth 100000 in
theorem kX10_keepWay_9 {p : Program} {l : Launch} {e : Env} {s : State} {m : MethodId} {args : Array Value} {below : List Frame} {meth : Method} {c : Code} {D : va_G} {cy : Nat → ClassId} {q : Nat → Nat} {A : Nat → Prop} (cx : zX RX10 cX10_keepWay 4 p s m args c D cy) (hr : meth.sig.returnType = none) (hlk : meth.locks = false) (hq : zQ A q zNC) {z : zSt} {v1 : Int32} : ∀ (n : Nat) (S : zSt) (v2 : Int32) (v3 : Int32), zLp (fX10_keepWay_9 v1) n (S, v2, v3) = some z → ∀ (H : Heap) (locs : List Loc), va_P D vwCl (zW zsh zNC cy q S) H → va_S A s.heap H locs → ∀ (ls : Array Slot), lv_has ls 4 [(0, .ref (q 256)), (1, .int v1), (2, .int v2), (3, .int v3)] → W p l e rmX10_keepWay s m args below meth c H locs 0 0 (MQ below (va_Qv (fun (u : zSt) => u = z) (fun u t => va_P D vwCl (zW zsh zNC cy q u) t.heap) A) args s 0 0 A) (F0 m 9 ls []) := by
  intro n
  induction n with
  | zero =>
    intro S v2 v3 h
    cases h
  | succ n ih =>
    intro S v2 v3 h H locs hP hS ls hl
    obtain ⟨x, h, hk⟩ := zLp_e h
    exact kX10_keepWay_9B cx hr hlk hq  (C1 := zKt (fun t => zLp (fX10_keepWay_9 v1) n t = some z) (fun a => a = z)) (fun S v2 v3 ht H locs hP hS ls hl => ih S v2 v3 ht H locs hP hS ls hl) (fun a ha => ha) h hk hP hS hl
def fX10_keepWay (S : zSt) (v1 : Int32) : Option zSt :=
  zLt (zI S 256 4 (0 : Int32)) (fun S1 => zLp (fX10_keepWay_9 v1) 2000 (S1, v1, (0 : Int32)))
set_option maxHeartbeats 4000000 in
set_option maxRecDepth 100000 in
theorem mX10_keepWay {l : Launch} {D : va_G} {cy : Nat → ClassId} {q : Nat → Nat} {A : Nat → Prop} {S : zSt} {v1 : Int32} (hq : zQ A q zNC) {z : zSt} (h : fX10_keepWay S v1 = some z) : zMv l yX10_keepWay cX10_keepWay 4 none rmX10_keepWay [.ref (q 256), .int v1] zsh zNC D cy q A S z := by
  refine Met.ofW (cc := cX10_keepWay) (maxL := 4) (ret := none) (by decide) rfl ?_
  intro p e s m args below meth c s₁ B hml hv
  obtain ⟨rfl, hP, hK⟩ := hv
  have cx : zX RX10 cX10_keepWay 4 p s m ([.ref (q 256), .int v1]).toArray c D cy := ⟨B.exec, B.bytes, hml, findClass_of_methodNamed B.named, fun w hw => atoms_spec (ws := Cond.code yX10_keepWay cX10_keepWay 4 none :: zTB) B.pre w (List.mem_cons_of_mem _ hw), hK⟩
  have hx := cx.1
  have hb := cx.2.1
  have hr := B.returns
  have hlk := B.notSynchronized
  have hS : va_S A s.heap s.heap [] := va_S.rf
  have hl := lv_entry ([.ref (q 256), .int v1]) (n := 4) (Nat.le_of_ble_eq_true rfl)
  rw [lg_entry_eq]
  generalize (lg_sl ([.ref (q 256), .int v1]) ++ List.replicate (4 - (lg_sl ([.ref (q 256), .int v1])).length) Slot.unset).toArray = ls at hl ⊢
  have hl : lv_has ls 4 [(0, .ref (q 256)), (1, .int v1)] := hl
  unfold fX10_keepWay at h
  refine lv_aload_n (pc := 0) hx hb dX10_keepWay_0 rfl (lv_at hl 0 rfl) ?_
  refine lv_iconst (pc := 1) hx hb dX10_keepWay_1 zc_0 ?_
  obtain ⟨S1, eS1, h⟩ := zLt_e h
  refine zr_putI (pc := 2) cx lq_X10_33 hq hP hS nC_256 sC_256 rfl rfl rfl dX10_keepWay_2 (fun H locs hP hS => ?_)
  rw [← eS1] at hP
  refine lv_iload_n (pc := 5) hx hb dX10_keepWay_5 rfl (lv_at hl 1 rfl) ?_
  refine lv_istore_n (lv' := [(2, .int v1), (0, .ref (q 256)), (1, .int v1)]) (pc := 6) hx hb dX10_keepWay_6 rfl hl (by decide) rfl (fun ls hl => ?_)
  refine lv_iconst (pc := 7) hx hb dX10_keepWay_7 zc_0 ?_
  refine lv_istore_n (lv' := [(3, .int (0 : Int32)), (2, .int v1), (0, .ref (q 256)), (1, .int v1)]) (pc := 8) hx hb dX10_keepWay_8 rfl hl (by decide) rfl (fun ls hl => ?_)
  exact kX10_keepWay_9 cx hr hlk hq 2000 _ _ _ h _ _ hP hS _ (lv_sub hl [2, 3, 1, 0] rfl)
-- X10_state
abbrev rmX10_state : Room := { frames := 0, cells := 0, slots := 0, locals := 0 }
def fX10_state (v0 : Int32) (v1 : Int32) : Option Int32 :=
  some ((v1 * (5 : Int32)) + v0)
set_option maxHeartbeats 4000000 in
set_option maxRecDepth 100000 in
theorem mX10_state {l : Launch} {D : va_G} {cy : Nat → ClassId} {v0 : Int32} {v1 : Int32} {z : Int32} (h : fX10_state v0 v1 = some z) : zMi l yX10_state cX10_state 2 (some .int) rmX10_state [.int v0, .int v1] (zPk D cy) z := by
  refine Met.ofW (cc := cX10_state) (maxL := 2) (ret := (some .int)) (by decide) rfl ?_
  intro p e s m args below meth c s₁ B hml hv
  obtain ⟨rfl, hK⟩ := hv
  have cx : zX RX10 cX10_state 2 p s m ([.int v0, .int v1]).toArray c D cy := ⟨B.exec, B.bytes, hml, findClass_of_methodNamed B.named, fun w hw => atoms_spec (ws := Cond.code yX10_state cX10_state 2 (some .int) :: zTB) B.pre w (List.mem_cons_of_mem _ hw), hK⟩
  have hx := cx.1
  have hb := cx.2.1
  have hr := B.returns
  have hlk := B.notSynchronized
  have hl := lv_entry ([.int v0, .int v1]) (n := 2) (Nat.le_of_ble_eq_true rfl)
  rw [lg_entry_eq]
  generalize (lg_sl ([.int v0, .int v1]) ++ List.replicate (2 - (lg_sl ([.int v0, .int v1])).length) Slot.unset).toArray = ls at hl ⊢
  have hl : lv_has ls 2 [(0, .int v0), (1, .int v1)] := hl
  unfold fX10_state at h
  refine lv_iload_n (pc := 0) hx hb dX10_state_0 rfl (lv_at hl 1 rfl) ?_
  refine lv_iconst (pc := 1) hx hb dX10_state_1 zc_5 ?_
  refine lv_imul (pc := 2) hx hb dX10_state_2 ?_
  refine lv_iload_n (pc := 3) hx hb dX10_state_3 rfl (lv_at hl 0 rfl) ?_
  refine lv_iadd (pc := 4) hx hb dX10_state_4 ?_
  have hz := Option.some.inj h
  exact zr_reI (pc := 5) cx hr hlk hz dX10_state_5
-- X10_find
abbrev rmX10_find : Room := { frames := 1, cells := 0, slots := 0, locals := 23 }
def fX10_find_221 (S : zSt) (a1 : Nat) (v3 : Int32) (v5 : Int32) (v6 : Int32) (v7 : Int32) (v8 : Int32) (v9 : Int32) : Option ((zSt × Int32 × Int32) ⊕ ((zSt × Int32 × Int32) ⊕ (Int32 × zSt))) :=
  zLt (v9 + (1 : Int32)) (fun x32 => some (.inl (S, v5, x32)))
set_option maxHeartbeats 4000000 in
set_option maxRecDepth 100000 in
theorem kX10_find_221 {p : Program} {l : Launch} {e : Env} {s : State} {m : MethodId} {args : Array Value} {below : List Frame} {meth : Method} {c : Code} {D : va_G} {cy : Nat → ClassId} {q : Nat → Nat} {A : Nat → Prop} (cx : zX RX10 cX10_find 11 p s m args c D cy) (hr : meth.sig.returnType = (some .int)) (hlk : meth.locks = false) (hq : zQ A q zNC) {a1 : Nat} (ha1 : zHouse a1) {z : (Int32 × zSt)} {S : zSt} {v3 : Int32} {v5 : Int32} {v6 : Int32} {v7 : Int32} {v8 : Int32} {v9 : Int32} {C1 : ((zSt × Int32 × Int32) ⊕ (Int32 × zSt)) → Prop} (hb1 : ∀ (S : zSt) (v5 : Int32) (v6 : Int32), C1 (.inl (S, v5, v6)) → ∀ (H : Heap) (locs : List Loc), va_P D vwCl (zW zsh zNC cy q S) H → va_S A s.heap H locs → ∀ (ls : Array Slot), lv_has ls 11 [(0, .ref (q 256)), (1, .ref (q a1)), (3, .int v3), (5, .int v5), (6, .int v6)] → W p l e rmX10_find s m args below meth c H locs 0 0 (MQ below (va_Qi (fun (r : Int32) (u : zSt) => (r, u) = z) (fun u t => va_P D vwCl (zW zsh zNC cy q u) t.heap) A) args s 0 0 A) (F0 m 64 ls [])) (hx1 : ∀ a, C1 (.inr a) → a = z) {C2 : ((zSt × Int32 × Int32) ⊕ ((zSt × Int32 × Int32) ⊕ (Int32 × zSt))) → Prop} (hb2 : ∀ (S : zSt) (v5 : Int32) (v9 : Int32), C2 (.inl (S, v5, v9)) → ∀ (H : Heap) (locs : List Loc), va_P D vwCl (zW zsh zNC cy q S) H → va_S A s.heap H locs → ∀ (ls : Array Slot), lv_has ls 11 [(0, .ref (q 256)), (1, .ref (q a1)), (3, .int v3), (5, .int v5), (6, .int v6), (7, .int v7), (8, .int v8), (9, .int v9)] → W p l e rmX10_find s m args below meth c H locs 0 0 (MQ below (va_Qi (fun (r : Int32) (u : zSt) => (r, u) = z) (fun u t => va_P D vwCl (zW zsh zNC cy q u) t.heap) A) args s 0 0 A) (F0 m 134 ls [])) (hx2 : ∀ a, C2 (.inr a) → C1 a) {x : ((zSt × Int32 × Int32) ⊕ ((zSt × Int32 × Int32) ⊕ (Int32 × zSt)))} (h : fX10_find_221 S a1 v3 v5 v6 v7 v8 v9 = some x) (hc : C2 x) {H : Heap} {locs : List Loc} (hP : va_P D vwCl (zW zsh zNC cy q S) H) (hS : va_S A s.heap H locs) {ls : Array Slot} (hl : lv_has ls 11 [(0, .ref (q 256)), (1, .ref (q a1)), (3, .int v3), (5, .int v5), (6, .int v6), (7, .int v7), (8, .int v8), (9, .int v9)]) : W p l e rmX10_find s m args below meth c H locs 0 0 (MQ below (va_Qi (fun (r : Int32) (u : zSt) => (r, u) = z) (fun u t => va_P D vwCl (zW zsh zNC cy q u) t.heap) A) args s 0 0 A) (F0 m 221 ls []) := by
  have hx := cx.1
  have hb := cx.2.1
  unfold fX10_find_221 at h
  obtain ⟨x32, ex32, h⟩ := zLt_e h
  refine lv_iinc (v := x32) (lv' := [(9, .int x32), (0, .ref (q 256)), (1, .ref (q a1)), (3, .int v3), (5, .int v5), (6, .int v6), (7, .int v7), (8, .int v8)]) (pc := 221) hx hb dX10_find_221 hl (k := 7) rfl (by rw [zc_1]; exact ex32.symm) (by decide) rfl (fun ls hl => ?_)
  refine lv_goto (pc := 224) (tgt := 134) hx hb dX10_find_224 (by decide) ?_
  cases h
  exact hb2 _ _ _ hc _ _ hP hS _ (lv_sub hl [1, 2, 3, 4, 5, 6, 7, 0] rfl)
def fX10_find_134 (a1 : Nat) (v3 : Int32) (v6 : Int32) (v7 : Int32) (v8 : Int32) (t : (zSt × Int32 × Int32)) : Option ((zSt × Int32 × Int32) ⊕ ((zSt × Int32 × Int32) ⊕ (Int32 × zSt))) :=
  match t with
  | (S, v5, v9) => zGd (zIx (0 : Int32) 4) (zBr ((S.1 (a1 + 1) (0 : Int32).toNatClampNeg) ≤ v9) (zXr (zLt (v6 + (1 : Int32)) (fun x26 => some (.inl (S, v5, x26))))) (zBd (fX10_state v9 (v7 ||| ((1 : Int32) <<< (v9 &&& 31)))) (fun r28 => zBd (fX11_hasBit v8 v9) (fun r30 => zBr (r30 = 0) (fX10_find_221 S a1 v3 v5 v6 v7 v8 v9) (zGd (zIx r28 160) (zBr ((S.1 259 r28.toNatClampNeg) = 0) (zBr ((160 : Int32) ≤ v5) (fX10_find_221 S a1 v3 v5 v6 v7 v8 v9) (zGd (zIx r28 160) (zLt (zI S 259 r28.toNatClampNeg (vp_nar .boolean (1 : Int32))) (fun S37 => zGd (zIx v6 160) (zGd (zIx r28 160) (zLt (zI S37 258 r28.toNatClampNeg (S37.1 257 v6.toNatClampNeg)) (fun S40 => zGd (zIx v5 160) (zLt (zI S40 257 v5.toNatClampNeg r28) (fun S42 => zLt (v5 + (1 : Int32)) (fun x43 => fX10_find_221 S42 a1 v3 x43 v6 v7 v8 v9)))))))))) (fX10_find_221 S a1 v3 v5 v6 v7 v8 v9)))))))
set_option maxHeartbeats 4000000 in
set_option maxRecDepth 100000 in
theorem kX10_find_134B {p : Program} {l : Launch} {e : Env} {s : State} {m : MethodId} {args : Array Value} {below : List Frame} {meth : Method} {c : Code} {D : va_G} {cy : Nat → ClassId} {q : Nat → Nat} {A : Nat → Prop} (cx : zX RX10 cX10_find 11 p s m args c D cy) (hr : meth.sig.returnType = (some .int)) (hlk : meth.locks = false) (hq : zQ A q zNC) {a1 : Nat} (ha1 : zHouse a1) {z : (Int32 × zSt)} {S : zSt} {v3 : Int32} {v5 : Int32} {v6 : Int32} {v7 : Int32} {v8 : Int32} {v9 : Int32} {C1 : ((zSt × Int32 × Int32) ⊕ (Int32 × zSt)) → Prop} (hb1 : ∀ (S : zSt) (v5 : Int32) (v6 : Int32), C1 (.inl (S, v5, v6)) → ∀ (H : Heap) (locs : List Loc), va_P D vwCl (zW zsh zNC cy q S) H → va_S A s.heap H locs → ∀ (ls : Array Slot), lv_has ls 11 [(0, .ref (q 256)), (1, .ref (q a1)), (3, .int v3), (5, .int v5), (6, .int v6)] → W p l e rmX10_find s m args below meth c H locs 0 0 (MQ below (va_Qi (fun (r : Int32) (u : zSt) => (r, u) = z) (fun u t => va_P D vwCl (zW zsh zNC cy q u) t.heap) A) args s 0 0 A) (F0 m 64 ls [])) (hx1 : ∀ a, C1 (.inr a) → a = z) {C2 : ((zSt × Int32 × Int32) ⊕ ((zSt × Int32 × Int32) ⊕ (Int32 × zSt))) → Prop} (hb2 : ∀ (S : zSt) (v5 : Int32) (v9 : Int32), C2 (.inl (S, v5, v9)) → ∀ (H : Heap) (locs : List Loc), va_P D vwCl (zW zsh zNC cy q S) H → va_S A s.heap H locs → ∀ (ls : Array Slot), lv_has ls 11 [(0, .ref (q 256)), (1, .ref (q a1)), (3, .int v3), (5, .int v5), (6, .int v6), (7, .int v7), (8, .int v8), (9, .int v9)] → W p l e rmX10_find s m args below meth c H locs 0 0 (MQ below (va_Qi (fun (r : Int32) (u : zSt) => (r, u) = z) (fun u t => va_P D vwCl (zW zsh zNC cy q u) t.heap) A) args s 0 0 A) (F0 m 134 ls [])) (hx2 : ∀ a, C2 (.inr a) → C1 a) {x : ((zSt × Int32 × Int32) ⊕ ((zSt × Int32 × Int32) ⊕ (Int32 × zSt)))} (h : fX10_find_134 a1 v3 v6 v7 v8 (S, v5, v9) = some x) (hc : C2 x) {H : Heap} {locs : List Loc} (hP : va_P D vwCl (zW zsh zNC cy q S) H) (hS : va_S A s.heap H locs) {ls : Array Slot} (hl : lv_has ls 11 [(0, .ref (q 256)), (1, .ref (q a1)), (3, .int v3), (5, .int v5), (6, .int v6), (7, .int v7), (8, .int v8), (9, .int v9)]) : W p l e rmX10_find s m args below meth c H locs 0 0 (MQ below (va_Qi (fun (r : Int32) (u : zSt) => (r, u) = z) (fun u t => va_P D vwCl (zW zsh zNC cy q u) t.heap) A) args s 0 0 A) (F0 m 134 ls []) := by
  have hx := cx.1
  have hb := cx.2.1
  unfold fX10_find_134 at h
  dsimp only at h
  refine lv_iload (pc := 134) hx hb dX10_find_134 (lv_at hl 7 rfl) ?_
  refine lv_aload_n (pc := 136) hx hb dX10_find_136 rfl (lv_at hl 1 rfl) ?_
  refine zr_getR (pc := 137) (t := (a1 + 1)) cx lk_X10_42 hP (nX3_0 ha1) (sX3_0 ha1) rfl dX10_find_137 ?_
  refine lv_iconst (pc := 140) hx hb dX10_find_140 zc_0 ?_
  obtain ⟨g23, h⟩ := zGd_e h
  refine zr_iald (pc := 141) cx hP (nX3_1 ha1) (sX3_1 ha1) g23 dX10_find_141 ?_
  refine lv_icmp_ge (pc := 142) (tgt := 227) hx hb dX10_find_142 (by decide) (fun c24 => ?_) (fun c24 => ?_)
  · replace h := zBr_t c24 h
    obtain ⟨y25, h, ex⟩ := zXr_e h
    have hc := hx2 y25 (by rw [ex] at hc; exact hc)
    obtain ⟨x26, ex26, h⟩ := zLt_e h
    refine lv_iinc (v := x26) (lv' := [(6, .int x26), (0, .ref (q 256)), (1, .ref (q a1)), (3, .int v3), (5, .int v5), (7, .int v7), (8, .int v8), (9, .int v9)]) (pc := 227) hx hb dX10_find_227 hl (k := 4) rfl (by rw [zc_1]; exact ex26.symm) (by decide) rfl (fun ls hl => ?_)
    refine lv_goto (pc := 230) (tgt := 64) hx hb dX10_find_230 (by decide) ?_
    cases h
    exact hb1 _ _ _ hc _ _ hP hS _ (lv_sub hl [1, 2, 3, 4, 0] rfl)
  · replace h := zBr_f c24 h
    refine lv_iload (pc := 145) hx hb dX10_find_145 (lv_at hl 7 rfl) ?_
    refine lv_iload (pc := 147) hx hb dX10_find_147 (lv_at hl 5 rfl) ?_
    refine lv_iconst (pc := 149) hx hb dX10_find_149 zc_1 ?_
    refine lv_iload (pc := 150) hx hb dX10_find_150 (lv_at hl 7 rfl) ?_
    refine lv_ishl (pc := 152) hx hb dX10_find_152 ?_
    refine lv_ior (pc := 153) hx hb dX10_find_153 ?_
    obtain ⟨r28, k27, h⟩ := zBd_e h
    refine zr_SI (pc := 154) (rest := []) cx cv_X10_25 (mX10_state k27) ⟨⟨rfl, rfl⟩, Nat.le_of_ble_eq_true rfl, Nat.le_of_ble_eq_true rfl⟩ ⟨Nat.le_of_ble_eq_true rfl, Nat.le_of_ble_eq_true rfl⟩ (zr_preK cx) hl.1 rfl rfl (Nat.le_of_ble_eq_true rfl) dX10_find_154 ?_
    refine lv_istore (lv' := [(10, .int r28), (0, .ref (q 256)), (1, .ref (q a1)), (3, .int v3), (5, .int v5), (6, .int v6), (7, .int v7), (8, .int v8), (9, .int v9)]) (pc := 157) hx hb dX10_find_157 hl (by decide) rfl (fun ls hl => ?_)
    refine lv_iload (pc := 159) hx hb dX10_find_159 (lv_at hl 7 rfl) ?_
    refine lv_iload (pc := 161) hx hb dX10_find_161 (lv_at hl 8 rfl) ?_
    obtain ⟨r30, k29, h⟩ := zBd_e h
    refine zr_NI (pc := 163) (rest := []) cx cv_X10_45 (mX11_hasBit k29) ⟨⟨rfl, rfl⟩, Nat.le_of_ble_eq_true rfl, Nat.le_of_ble_eq_true rfl⟩ ⟨Nat.le_of_ble_eq_true rfl, Nat.le_of_ble_eq_true rfl⟩ (zr_preK cx) hl.1 rfl rfl (Nat.le_of_ble_eq_true rfl) dX10_find_163 ?_
    refine lv_if_eq (pc := 166) (tgt := 221) hx hb dX10_find_166 (by decide) (fun c31 => ?_) (fun c31 => ?_)
    · replace h := zBr_t c31 h
      exact kX10_find_221 cx hr hlk hq ha1 hb1 hx1 hb2 hx2 h hc hP hS (lv_sub hl [1, 2, 3, 4, 5, 6, 7, 8] rfl)
    · replace h := zBr_f c31 h
      refine lv_aload_n (pc := 169) hx hb dX10_find_169 rfl (lv_at hl 1 rfl) ?_
      refine zr_getR (pc := 170) (t := 259) cx lk_X10_18 hP nC_256 sC_256 rfl dX10_find_170 ?_
      refine lv_iload (pc := 173) hx hb dX10_find_173 (lv_at hl 0 rfl) ?_
      obtain ⟨g33, h⟩ := zGd_e h
      refine zr_zald (pc := 175) cx hP nC_259 sC_259 g33 dX10_find_175 ?_
      refine lv_if_ne (pc := 176) (tgt := 221) hx hb dX10_find_176 (by decide) (fun c34 => ?_) (fun c34 => ?_)
      · replace h := zBr_f c34 h
        exact kX10_find_221 cx hr hlk hq ha1 hb1 hx1 hb2 hx2 h hc hP hS (lv_sub hl [1, 2, 3, 4, 5, 6, 7, 8] rfl)
      · replace h := zBr_t c34 h
        refine lv_iload (pc := 179) hx hb dX10_find_179 (lv_at hl 4 rfl) ?_
        refine lv_sipush (pc := 181) hx hb dX10_find_181 zs_160 ?_
        refine lv_icmp_ge (pc := 184) (tgt := 221) hx hb dX10_find_184 (by decide) (fun c35 => ?_) (fun c35 => ?_)
        · replace h := zBr_t c35 h
          exact kX10_find_221 cx hr hlk hq ha1 hb1 hx1 hb2 hx2 h hc hP hS (lv_sub hl [1, 2, 3, 4, 5, 6, 7, 8] rfl)
        · replace h := zBr_f c35 h
          refine lv_aload_n (pc := 187) hx hb dX10_find_187 rfl (lv_at hl 1 rfl) ?_
          refine zr_getR (pc := 188) (t := 259) cx lk_X10_18 hP nC_256 sC_256 rfl dX10_find_188 ?_
          refine lv_iload (pc := 191) hx hb dX10_find_191 (lv_at hl 0 rfl) ?_
          refine lv_iconst (pc := 193) hx hb dX10_find_193 zc_1 ?_
          obtain ⟨g36, h⟩ := zGd_e h
          obtain ⟨S37, eS37, h⟩ := zLt_e h
          refine zr_zast (pc := 194) cx hq hP hS nC_259 sC_259 g36 dX10_find_194 (fun H locs hP hS => ?_)
          rw [← eS37] at hP
          refine lv_aload_n (pc := 195) hx hb dX10_find_195 rfl (lv_at hl 1 rfl) ?_
          refine zr_getR (pc := 196) (t := 258) cx lk_X10_15 hP nC_256 sC_256 rfl dX10_find_196 ?_
          refine lv_iload (pc := 199) hx hb dX10_find_199 (lv_at hl 0 rfl) ?_
          refine lv_aload_n (pc := 201) hx hb dX10_find_201 rfl (lv_at hl 1 rfl) ?_
          refine zr_getR (pc := 202) (t := 257) cx lk_X10_11 hP nC_256 sC_256 rfl dX10_find_202 ?_
          refine lv_iload (pc := 205) hx hb dX10_find_205 (lv_at hl 5 rfl) ?_
          obtain ⟨g38, h⟩ := zGd_e h
          refine zr_iald (pc := 207) cx hP nC_257 sC_257 g38 dX10_find_207 ?_
          obtain ⟨g39, h⟩ := zGd_e h
          obtain ⟨S40, eS40, h⟩ := zLt_e h
          refine zr_iast (pc := 208) cx hq hP hS nC_258 sC_258 g39 dX10_find_208 (fun H locs hP hS => ?_)
          rw [← eS40] at hP
          refine lv_aload_n (pc := 209) hx hb dX10_find_209 rfl (lv_at hl 1 rfl) ?_
          refine zr_getR (pc := 210) (t := 257) cx lk_X10_11 hP nC_256 sC_256 rfl dX10_find_210 ?_
          refine lv_iload (pc := 213) hx hb dX10_find_213 (lv_at hl 4 rfl) ?_
          refine lv_iload (pc := 215) hx hb dX10_find_215 (lv_at hl 0 rfl) ?_
          obtain ⟨g41, h⟩ := zGd_e h
          obtain ⟨S42, eS42, h⟩ := zLt_e h
          refine zr_iast (pc := 217) cx hq hP hS nC_257 sC_257 g41 dX10_find_217 (fun H locs hP hS => ?_)
          rw [← eS42] at hP
          obtain ⟨x43, ex43, h⟩ := zLt_e h
          refine lv_iinc (v := x43) (lv' := [(5, .int x43), (10, .int r28), (0, .ref (q 256)), (1, .ref (q a1)), (3, .int v3), (6, .int v6), (7, .int v7), (8, .int v8), (9, .int v9)]) (pc := 218) hx hb dX10_find_218 hl (k := 4) rfl (by rw [zc_1]; exact ex43.symm) (by decide) rfl (fun ls hl => ?_)
          exact kX10_find_221 cx hr hlk hq ha1 hb1 hx1 hb2 hx2 h hc hP hS (lv_sub hl [2, 3, 4, 0, 5, 6, 7, 8] rfl)
set_option maxHeartbeats 4000000 in
set_option maxRecDepth 100000 in
theorem kX10_find_134 {p : Program} {l : Launch} {e : Env} {s : State} {m : MethodId} {args : Array Value} {below : List Frame} {meth : Method} {c : Code} {D : va_G} {cy : Nat → ClassId} {q : Nat → Nat} {A : Nat → Prop} (cx : zX RX10 cX10_find 11 p s m args c D cy) (hr : meth.sig.returnType = (some .int)) (hlk : meth.locks = false) (hq : zQ A q zNC) {a1 : Nat} (ha1 : zHouse a1) {z : (Int32 × zSt)} {v3 : Int32} {v6 : Int32} {v7 : Int32} {v8 : Int32} {C1 : ((zSt × Int32 × Int32) ⊕ (Int32 × zSt)) → Prop} (hb1 : ∀ (S : zSt) (v5 : Int32) (v6 : Int32), C1 (.inl (S, v5, v6)) → ∀ (H : Heap) (locs : List Loc), va_P D vwCl (zW zsh zNC cy q S) H → va_S A s.heap H locs → ∀ (ls : Array Slot), lv_has ls 11 [(0, .ref (q 256)), (1, .ref (q a1)), (3, .int v3), (5, .int v5), (6, .int v6)] → W p l e rmX10_find s m args below meth c H locs 0 0 (MQ below (va_Qi (fun (r : Int32) (u : zSt) => (r, u) = z) (fun u t => va_P D vwCl (zW zsh zNC cy q u) t.heap) A) args s 0 0 A) (F0 m 64 ls [])) (hx1 : ∀ a, C1 (.inr a) → a = z) {xo : ((zSt × Int32 × Int32) ⊕ (Int32 × zSt))} (hc : C1 xo) : ∀ (n : Nat) (S : zSt) (v5 : Int32) (v9 : Int32), zLp (fX10_find_134 a1 v3 v6 v7 v8) n (S, v5, v9) = some xo → ∀ (H : Heap) (locs : List Loc), va_P D vwCl (zW zsh zNC cy q S) H → va_S A s.heap H locs → ∀ (ls : Array Slot), lv_has ls 11 [(0, .ref (q 256)), (1, .ref (q a1)), (3, .int v3), (5, .int v5), (6, .int v6), (7, .int v7), (8, .int v8), (9, .int v9)] → W p l e rmX10_find s m args below meth c H locs 0 0 (MQ below (va_Qi (fun (r : Int32) (u : zSt) => (r, u) = z) (fun u t => va_P D vwCl (zW zsh zNC cy q u) t.heap) A) args s 0 0 A) (F0 m 134 ls []) := by
  intro n
  induction n with
  | zero =>
    intro S v5 v9 h
    cases h
  | succ n ih =>
    intro S v5 v9 h H locs hP hS ls hl
    obtain ⟨x, h, hk⟩ := zLp_e h
    exact kX10_find_134B cx hr hlk hq ha1 hb1 hx1 (C2 := zKt (fun t => zLp (fX10_find_134 a1 v3 v6 v7 v8) n t = some xo) (fun a => a = xo)) (fun S v5 v9 ht H locs hP hS ls hl => ih S v5 v9 ht H locs hP hS ls hl) (fun a ha => ha ▸ hc) h hk hP hS hl
def fX10_find_64 (a1 : Nat) (v3 : Int32) (t : (zSt × Int32 × Int32)) : Option ((zSt × Int32 × Int32) ⊕ (Int32 × zSt)) :=
  match t with
  | (S, v5, v6) => zBr (v5 ≤ v6) (zXr (some ((-1 : Int32), S))) (zBr ((160 : Int32) ≤ v6) (zXr (some ((-1 : Int32), S))) (zGd (zIx v6 160) (zGd (decide (¬ (5 : Int32) = 0)) (zLt ((S.1 257 v6.toNatClampNeg) / (5 : Int32)) (fun x17 => zBr ((v3 &&& (x17 ^^^ (-1 : Int32))) = 0) (zXr (zGd (zIx v6 160) (zBd (fX10_keepWay S (S.1 257 v6.toNatClampNeg)) (fun S47 => some ((S47.1 256 4), S47))))) (zGd (zIx v6 160) (zGd (decide (¬ (5 : Int32) = 0)) (zGd (zIx ((S.1 257 v6.toNatClampNeg) - (S.1 257 v6.toNatClampNeg) / (5 : Int32) * (5 : Int32)) 5) (zLt (S.1 (a1 + 2) ((S.1 257 v6.toNatClampNeg) - (S.1 257 v6.toNatClampNeg) / (5 : Int32) * (5 : Int32)).toNatClampNeg) (fun x22 => zLp (fX10_find_134 a1 v3 v6 x17 x22) 2000 (S, v5, (0 : Int32))))))))))))
set_option maxHeartbeats 4000000 in
set_option maxRecDepth 100000 in
theorem kX10_find_64B {p : Program} {l : Launch} {e : Env} {s : State} {m : MethodId} {args : Array Value} {below : List Frame} {meth : Method} {c : Code} {D : va_G} {cy : Nat → ClassId} {q : Nat → Nat} {A : Nat → Prop} (cx : zX RX10 cX10_find 11 p s m args c D cy) (hr : meth.sig.returnType = (some .int)) (hlk : meth.locks = false) (hq : zQ A q zNC) {a1 : Nat} (ha1 : zHouse a1) {z : (Int32 × zSt)} {S : zSt} {v3 : Int32} {v5 : Int32} {v6 : Int32} {C1 : ((zSt × Int32 × Int32) ⊕ (Int32 × zSt)) → Prop} (hb1 : ∀ (S : zSt) (v5 : Int32) (v6 : Int32), C1 (.inl (S, v5, v6)) → ∀ (H : Heap) (locs : List Loc), va_P D vwCl (zW zsh zNC cy q S) H → va_S A s.heap H locs → ∀ (ls : Array Slot), lv_has ls 11 [(0, .ref (q 256)), (1, .ref (q a1)), (3, .int v3), (5, .int v5), (6, .int v6)] → W p l e rmX10_find s m args below meth c H locs 0 0 (MQ below (va_Qi (fun (r : Int32) (u : zSt) => (r, u) = z) (fun u t => va_P D vwCl (zW zsh zNC cy q u) t.heap) A) args s 0 0 A) (F0 m 64 ls [])) (hx1 : ∀ a, C1 (.inr a) → a = z) {x : ((zSt × Int32 × Int32) ⊕ (Int32 × zSt))} (h : fX10_find_64 a1 v3 (S, v5, v6) = some x) (hc : C1 x) {H : Heap} {locs : List Loc} (hP : va_P D vwCl (zW zsh zNC cy q S) H) (hS : va_S A s.heap H locs) {ls : Array Slot} (hl : lv_has ls 11 [(0, .ref (q 256)), (1, .ref (q a1)), (3, .int v3), (5, .int v5), (6, .int v6)]) : W p l e rmX10_find s m args below meth c H locs 0 0 (MQ below (va_Qi (fun (r : Int32) (u : zSt) => (r, u) = z) (fun u t => va_P D vwCl (zW zsh zNC cy q u) t.heap) A) args s 0 0 A) (F0 m 64 ls []) := by
  have hx := cx.1
  have hb := cx.2.1
  unfold fX10_find_64 at h
  dsimp only at h
  refine lv_iload (pc := 64) hx hb dX10_find_64 (lv_at hl 4 rfl) ?_
  refine lv_iload (pc := 66) hx hb dX10_find_66 (lv_at hl 3 rfl) ?_
  refine lv_icmp_ge (pc := 68) (tgt := 233) hx hb dX10_find_68 (by decide) (fun c11 => ?_) (fun c11 => ?_)
  · replace h := zBr_t c11 h
    obtain ⟨y12, h, ex⟩ := zXr_e h
    have hc := hx1 y12 (by rw [ex] at hc; exact hc)
    rw [hc] at h
    refine lv_iconst (pc := 233) hx hb dX10_find_233 zc_m1 ?_
    have hz := Option.some.inj h
    exact zr_rqI (pc := 234) cx hr hlk hP hS hz dX10_find_234
  · replace h := zBr_f c11 h
    refine lv_iload (pc := 71) hx hb dX10_find_71 (lv_at hl 4 rfl) ?_
    refine lv_sipush (pc := 73) hx hb dX10_find_73 zs_160 ?_
    refine lv_icmp_ge (pc := 76) (tgt := 233) hx hb dX10_find_76 (by decide) (fun c13 => ?_) (fun c13 => ?_)
    · replace h := zBr_t c13 h
      obtain ⟨y14, h, ex⟩ := zXr_e h
      have hc := hx1 y14 (by rw [ex] at hc; exact hc)
      rw [hc] at h
      refine lv_iconst (pc := 233) hx hb dX10_find_233 zc_m1 ?_
      have hz := Option.some.inj h
      exact zr_rqI (pc := 234) cx hr hlk hP hS hz dX10_find_234
    · replace h := zBr_f c13 h
      refine lv_aload_n (pc := 79) hx hb dX10_find_79 rfl (lv_at hl 0 rfl) ?_
      refine zr_getR (pc := 80) (t := 257) cx lk_X10_11 hP nC_256 sC_256 rfl dX10_find_80 ?_
      refine lv_iload (pc := 83) hx hb dX10_find_83 (lv_at hl 4 rfl) ?_
      obtain ⟨g15, h⟩ := zGd_e h
      refine zr_iald (pc := 85) cx hP nC_257 sC_257 g15 dX10_find_85 ?_
      refine lv_iconst (pc := 86) hx hb dX10_find_86 zc_5 ?_
      obtain ⟨g16, h⟩ := zGd_e h
      refine lv_idiv (pc := 87) hx hb dX10_find_87 (by simpa using g16) ?_
      obtain ⟨x17, ex17, h⟩ := zLt_e h
      refine zr_nmI ex17 ?_
      refine lv_istore (lv' := [(7, .int x17), (0, .ref (q 256)), (1, .ref (q a1)), (3, .int v3), (5, .int v5), (6, .int v6)]) (pc := 88) hx hb dX10_find_88 hl (by decide) rfl (fun ls hl => ?_)
      refine lv_iload_n (pc := 90) hx hb dX10_find_90 rfl (lv_at hl 3 rfl) ?_
      refine lv_iload (pc := 91) hx hb dX10_find_91 (lv_at hl 0 rfl) ?_
      refine lv_iconst (pc := 93) hx hb dX10_find_93 zc_m1 ?_
      refine lv_ixor (pc := 94) hx hb dX10_find_94 ?_
      refine lv_iand (pc := 95) hx hb dX10_find_95 ?_
      refine lv_if_ne (pc := 96) (tgt := 115) hx hb dX10_find_96 (by decide) (fun c18 => ?_) (fun c18 => ?_)
      · replace h := zBr_f c18 h
        refine lv_aload_n (pc := 115) hx hb dX10_find_115 rfl (lv_at hl 2 rfl) ?_
        refine zr_getR (pc := 116) (t := (a1 + 2)) cx lk_X10_37 hP (nX3_0 ha1) (sX3_0 ha1) rfl dX10_find_116 ?_
        refine lv_aload_n (pc := 119) hx hb dX10_find_119 rfl (lv_at hl 1 rfl) ?_
        refine zr_getR (pc := 120) (t := 257) cx lk_X10_11 hP nC_256 sC_256 rfl dX10_find_120 ?_
        refine lv_iload (pc := 123) hx hb dX10_find_123 (lv_at hl 5 rfl) ?_
        obtain ⟨g19, h⟩ := zGd_e h
        refine zr_iald (pc := 125) cx hP nC_257 sC_257 g19 dX10_find_125 ?_
        refine lv_iconst (pc := 126) hx hb dX10_find_126 zc_5 ?_
        obtain ⟨g20, h⟩ := zGd_e h
        refine lv_irem (pc := 127) hx hb dX10_find_127 (by simpa using g20) ?_
        obtain ⟨g21, h⟩ := zGd_e h
        refine zr_iald (pc := 128) cx hP (nX3_2 ha1) (sX3_2 ha1) g21 dX10_find_128 ?_
        obtain ⟨x22, ex22, h⟩ := zLt_e h
        refine zr_nmI ex22 ?_
        refine lv_istore (lv' := [(8, .int x22), (7, .int x17), (0, .ref (q 256)), (1, .ref (q a1)), (3, .int v3), (5, .int v5), (6, .int v6)]) (pc := 129) hx hb dX10_find_129 hl (by decide) rfl (fun ls hl => ?_)
        refine lv_iconst (pc := 131) hx hb dX10_find_131 zc_0 ?_
        refine lv_istore (lv' := [(9, .int (0 : Int32)), (8, .int x22), (7, .int x17), (0, .ref (q 256)), (1, .ref (q a1)), (3, .int v3), (5, .int v5), (6, .int v6)]) (pc := 132) hx hb dX10_find_132 hl (by decide) rfl (fun ls hl => ?_)
        exact kX10_find_134 cx hr hlk hq ha1 hb1 hx1 hc 2000 _ _ _ h _ _ hP hS _ (lv_sub hl [3, 4, 5, 6, 7, 2, 1, 0] rfl)
      · replace h := zBr_t c18 h
        obtain ⟨y44, h, ex⟩ := zXr_e h
        have hc := hx1 y44 (by rw [ex] at hc; exact hc)
        rw [hc] at h
        refine lv_aload_n (pc := 99) hx hb dX10_find_99 rfl (lv_at hl 1 rfl) ?_
        refine lv_aload_n (pc := 100) hx hb dX10_find_100 rfl (lv_at hl 1 rfl) ?_
        refine zr_getR (pc := 101) (t := 257) cx lk_X10_11 hP nC_256 sC_256 rfl dX10_find_101 ?_
        refine lv_iload (pc := 104) hx hb dX10_find_104 (lv_at hl 5 rfl) ?_
        obtain ⟨g45, h⟩ := zGd_e h
        refine zr_iald (pc := 106) cx hP nC_257 sC_257 g45 dX10_find_106 ?_
        obtain ⟨S47, k46, h⟩ := zBd_e h
        refine zr_VV (pc := 107) (rest := []) cx cv_X10_29 (mX10_keepWay hq k46) ⟨⟨rfl, rfl⟩, Nat.le_of_ble_eq_true rfl, Nat.le_of_ble_eq_true rfl⟩ ⟨Nat.le_of_ble_eq_true rfl, Nat.le_of_ble_eq_true rfl⟩ hP hS nC_256 sC_256 rfl hl.1 rfl rfl (Nat.le_of_ble_eq_true rfl) dX10_find_107 (fun H locs hP hS => ?_)
        refine lv_aload_n (pc := 110) hx hb dX10_find_110 rfl (lv_at hl 1 rfl) ?_
        refine zr_getI (pc := 111) cx lk_X10_33 hP nC_256 sC_256 rfl dX10_find_111 ?_
        have hz := Option.some.inj h
        exact zr_rqI (pc := 114) cx hr hlk hP hS hz dX10_find_114
set_option maxHeartbeats 4000000 in
set_option maxRecDepth 100000 in
theorem kX10_find_64 {p : Program} {l : Launch} {e : Env} {s : State} {m : MethodId} {args : Array Value} {below : List Frame} {meth : Method} {c : Code} {D : va_G} {cy : Nat → ClassId} {q : Nat → Nat} {A : Nat → Prop} (cx : zX RX10 cX10_find 11 p s m args c D cy) (hr : meth.sig.returnType = (some .int)) (hlk : meth.locks = false) (hq : zQ A q zNC) {a1 : Nat} (ha1 : zHouse a1) {z : (Int32 × zSt)} {v3 : Int32} : ∀ (n : Nat) (S : zSt) (v5 : Int32) (v6 : Int32), zLp (fX10_find_64 a1 v3) n (S, v5, v6) = some z → ∀ (H : Heap) (locs : List Loc), va_P D vwCl (zW zsh zNC cy q S) H → va_S A s.heap H locs → ∀ (ls : Array Slot), lv_has ls 11 [(0, .ref (q 256)), (1, .ref (q a1)), (3, .int v3), (5, .int v5), (6, .int v6)] → W p l e rmX10_find s m args below meth c H locs 0 0 (MQ below (va_Qi (fun (r : Int32) (u : zSt) => (r, u) = z) (fun u t => va_P D vwCl (zW zsh zNC cy q u) t.heap) A) args s 0 0 A) (F0 m 64 ls []) := by
  intro n
  induction n with
  | zero =>
    intro S v5 v6 h
    cases h
  | succ n ih =>
    intro S v5 v6 h H locs hP hS ls hl
    obtain ⟨x, h, hk⟩ := zLp_e h
    exact kX10_find_64B cx hr hlk hq ha1  (C1 := zKt (fun t => zLp (fX10_find_64 a1 v3) n t = some z) (fun a => a = z)) (fun S v5 v6 ht H locs hP hS ls hl => ih S v5 v6 ht H locs hP hS ls hl) (fun a ha => ha) h hk hP hS hl
def fX10_find_3 (a1 : Nat) (v2 : Int32) (v3 : Int32) (t : (zSt × Int32)) : Option ((zSt × Int32) ⊕ (Int32 × zSt)) :=
  match t with
  | (S, v4) => zBr ((160 : Int32) ≤ v4) (zXr (zBd (fX10_state v2 ((1 : Int32) <<< (v2 &&& 31))) (fun r4 => zGd (zIx (0 : Int32) 160) (zLt (zI S 257 (0 : Int32).toNatClampNeg r4) (fun S6 => zGd (zIx r4 160) (zLt (zI S6 258 r4.toNatClampNeg (-1 : Int32)) (fun S8 => zGd (zIx r4 160) (zLt (zI S8 259 r4.toNatClampNeg (vp_nar .boolean (1 : Int32))) (fun S10 => zLp (fX10_find_64 a1 v3) 2000 (S10, (1 : Int32), (0 : Int32))))))))))) (zGd (zIx v4 160) (zLt (zI S 259 v4.toNatClampNeg (vp_nar .boolean (0 : Int32))) (fun S49 => zLt (v4 + (1 : Int32)) (fun x50 => some (.inl (S49, x50))))))
set_option maxHeartbeats 4000000 in
set_option maxRecDepth 100000 in
theorem kX10_find_3B {p : Program} {l : Launch} {e : Env} {s : State} {m : MethodId} {args : Array Value} {below : List Frame} {meth : Method} {c : Code} {D : va_G} {cy : Nat → ClassId} {q : Nat → Nat} {A : Nat → Prop} (cx : zX RX10 cX10_find 11 p s m args c D cy) (hr : meth.sig.returnType = (some .int)) (hlk : meth.locks = false) (hq : zQ A q zNC) {a1 : Nat} (ha1 : zHouse a1) {z : (Int32 × zSt)} {S : zSt} {v2 : Int32} {v3 : Int32} {v4 : Int32} {C1 : ((zSt × Int32) ⊕ (Int32 × zSt)) → Prop} (hb1 : ∀ (S : zSt) (v4 : Int32), C1 (.inl (S, v4)) → ∀ (H : Heap) (locs : List Loc), va_P D vwCl (zW zsh zNC cy q S) H → va_S A s.heap H locs → ∀ (ls : Array Slot), lv_has ls 11 [(0, .ref (q 256)), (1, .ref (q a1)), (2, .int v2), (3, .int v3), (4, .int v4)] → W p l e rmX10_find s m args below meth c H locs 0 0 (MQ below (va_Qi (fun (r : Int32) (u : zSt) => (r, u) = z) (fun u t => va_P D vwCl (zW zsh zNC cy q u) t.heap) A) args s 0 0 A) (F0 m 3 ls [])) (hx1 : ∀ a, C1 (.inr a) → a = z) {x : ((zSt × Int32) ⊕ (Int32 × zSt))} (h : fX10_find_3 a1 v2 v3 (S, v4) = some x) (hc : C1 x) {H : Heap} {locs : List Loc} (hP : va_P D vwCl (zW zsh zNC cy q S) H) (hS : va_S A s.heap H locs) {ls : Array Slot} (hl : lv_has ls 11 [(0, .ref (q 256)), (1, .ref (q a1)), (2, .int v2), (3, .int v3), (4, .int v4)]) : W p l e rmX10_find s m args below meth c H locs 0 0 (MQ below (va_Qi (fun (r : Int32) (u : zSt) => (r, u) = z) (fun u t => va_P D vwCl (zW zsh zNC cy q u) t.heap) A) args s 0 0 A) (F0 m 3 ls []) := by
  have hx := cx.1
  have hb := cx.2.1
  unfold fX10_find_3 at h
  dsimp only at h
  refine lv_iload (pc := 3) hx hb dX10_find_3 (lv_at hl 4 rfl) ?_
  refine lv_sipush (pc := 5) hx hb dX10_find_5 zs_160 ?_
  refine lv_icmp_ge (pc := 8) (tgt := 25) hx hb dX10_find_8 (by decide) (fun c1 => ?_) (fun c1 => ?_)
  · replace h := zBr_t c1 h
    obtain ⟨y2, h, ex⟩ := zXr_e h
    have hc := hx1 y2 (by rw [ex] at hc; exact hc)
    rw [hc] at h
    refine lv_iload_n (pc := 25) hx hb dX10_find_25 rfl (lv_at hl 2 rfl) ?_
    refine lv_iconst (pc := 26) hx hb dX10_find_26 zc_1 ?_
    refine lv_iload_n (pc := 27) hx hb dX10_find_27 rfl (lv_at hl 2 rfl) ?_
    refine lv_ishl (pc := 28) hx hb dX10_find_28 ?_
    obtain ⟨r4, k3, h⟩ := zBd_e h
    refine zr_SI (pc := 29) (rest := []) cx cv_X10_25 (mX10_state k3) ⟨⟨rfl, rfl⟩, Nat.le_of_ble_eq_true rfl, Nat.le_of_ble_eq_true rfl⟩ ⟨Nat.le_of_ble_eq_true rfl, Nat.le_of_ble_eq_true rfl⟩ (zr_preK cx) hl.1 rfl rfl (Nat.le_of_ble_eq_true rfl) dX10_find_29 ?_
    refine lv_istore (lv' := [(4, .int r4), (0, .ref (q 256)), (1, .ref (q a1)), (2, .int v2), (3, .int v3)]) (pc := 32) hx hb dX10_find_32 hl (by decide) rfl (fun ls hl => ?_)
    refine lv_aload_n (pc := 34) hx hb dX10_find_34 rfl (lv_at hl 1 rfl) ?_
    refine zr_getR (pc := 35) (t := 257) cx lk_X10_11 hP nC_256 sC_256 rfl dX10_find_35 ?_
    refine lv_iconst (pc := 38) hx hb dX10_find_38 zc_0 ?_
    refine lv_iload (pc := 39) hx hb dX10_find_39 (lv_at hl 0 rfl) ?_
    obtain ⟨g5, h⟩ := zGd_e h
    obtain ⟨S6, eS6, h⟩ := zLt_e h
    refine zr_iast (pc := 41) cx hq hP hS nC_257 sC_257 g5 dX10_find_41 (fun H locs hP hS => ?_)
    rw [← eS6] at hP
    refine lv_aload_n (pc := 42) hx hb dX10_find_42 rfl (lv_at hl 1 rfl) ?_
    refine zr_getR (pc := 43) (t := 258) cx lk_X10_15 hP nC_256 sC_256 rfl dX10_find_43 ?_
    refine lv_iload (pc := 46) hx hb dX10_find_46 (lv_at hl 0 rfl) ?_
    refine lv_iconst (pc := 48) hx hb dX10_find_48 zc_m1 ?_
    obtain ⟨g7, h⟩ := zGd_e h
    obtain ⟨S8, eS8, h⟩ := zLt_e h
    refine zr_iast (pc := 49) cx hq hP hS nC_258 sC_258 g7 dX10_find_49 (fun H locs hP hS => ?_)
    rw [← eS8] at hP
    refine lv_aload_n (pc := 50) hx hb dX10_find_50 rfl (lv_at hl 1 rfl) ?_
    refine zr_getR (pc := 51) (t := 259) cx lk_X10_18 hP nC_256 sC_256 rfl dX10_find_51 ?_
    refine lv_iload (pc := 54) hx hb dX10_find_54 (lv_at hl 0 rfl) ?_
    refine lv_iconst (pc := 56) hx hb dX10_find_56 zc_1 ?_
    obtain ⟨g9, h⟩ := zGd_e h
    obtain ⟨S10, eS10, h⟩ := zLt_e h
    refine zr_zast (pc := 57) cx hq hP hS nC_259 sC_259 g9 dX10_find_57 (fun H locs hP hS => ?_)
    rw [← eS10] at hP
    refine lv_iconst (pc := 58) hx hb dX10_find_58 zc_1 ?_
    refine lv_istore (lv' := [(5, .int (1 : Int32)), (4, .int r4), (0, .ref (q 256)), (1, .ref (q a1)), (2, .int v2), (3, .int v3)]) (pc := 59) hx hb dX10_find_59 hl (by decide) rfl (fun ls hl => ?_)
    refine lv_iconst (pc := 61) hx hb dX10_find_61 zc_0 ?_
    refine lv_istore (lv' := [(6, .int (0 : Int32)), (5, .int (1 : Int32)), (4, .int r4), (0, .ref (q 256)), (1, .ref (q a1)), (2, .int v2), (3, .int v3)]) (pc := 62) hx hb dX10_find_62 hl (by decide) rfl (fun ls hl => ?_)
    exact kX10_find_64 cx hr hlk hq ha1 2000 _ _ _ h _ _ hP hS _ (lv_sub hl [3, 4, 6, 1, 0] rfl)
  · replace h := zBr_f c1 h
    refine lv_aload_n (pc := 11) hx hb dX10_find_11 rfl (lv_at hl 0 rfl) ?_
    refine zr_getR (pc := 12) (t := 259) cx lk_X10_18 hP nC_256 sC_256 rfl dX10_find_12 ?_
    refine lv_iload (pc := 15) hx hb dX10_find_15 (lv_at hl 4 rfl) ?_
    refine lv_iconst (pc := 17) hx hb dX10_find_17 zc_0 ?_
    obtain ⟨g48, h⟩ := zGd_e h
    obtain ⟨S49, eS49, h⟩ := zLt_e h
    refine zr_zast (pc := 18) cx hq hP hS nC_259 sC_259 g48 dX10_find_18 (fun H locs hP hS => ?_)
    rw [← eS49] at hP
    obtain ⟨x50, ex50, h⟩ := zLt_e h
    refine lv_iinc (v := x50) (lv' := [(4, .int x50), (0, .ref (q 256)), (1, .ref (q a1)), (2, .int v2), (3, .int v3)]) (pc := 19) hx hb dX10_find_19 hl (k := 4) rfl (by rw [zc_1]; exact ex50.symm) (by decide) rfl (fun ls hl => ?_)
    refine lv_goto (pc := 22) (tgt := 3) hx hb dX10_find_22 (by decide) ?_
    cases h
    exact hb1 _ _ hc _ _ hP hS _ (lv_sub hl [1, 2, 3, 4, 0] rfl)
set_option maxHeartbeats 4000000 in
set_option maxRecDepth 100000 in
theorem kX10_find_3 {p : Program} {l : Launch} {e : Env} {s : State} {m : MethodId} {args : Array Value} {below : List Frame} {meth : Method} {c : Code} {D : va_G} {cy : Nat → ClassId} {q : Nat → Nat} {A : Nat → Prop} (cx : zX RX10 cX10_find 11 p s m args c D cy) (hr : meth.sig.returnType = (some .int)) (hlk : meth.locks = false) (hq : zQ A q zNC) {a1 : Nat} (ha1 : zHouse a1) {z : (Int32 × zSt)} {v2 : Int32} {v3 : Int32} : ∀ (n : Nat) (S : zSt) (v4 : Int32), zLp (fX10_find_3 a1 v2 v3) n (S, v4) = some z → ∀ (H : Heap) (locs : List Loc), va_P D vwCl (zW zsh zNC cy q S) H → va_S A s.heap H locs → ∀ (ls : Array Slot), lv_has ls 11 [(0, .ref (q 256)), (1, .ref (q a1)), (2, .int v2), (3, .int v3), (4, .int v4)] → W p l e rmX10_find s m args below meth c H locs 0 0 (MQ below (va_Qi (fun (r : Int32) (u : zSt) => (r, u) = z) (fun u t => va_P D vwCl (zW zsh zNC cy q u) t.heap) A) args s 0 0 A) (F0 m 3 ls []) := by
  intro n
  induction n with
  | zero =>
    intro S v4 h
    cases h
  | succ n ih =>
    intro S v4 h H locs hP hS ls hl
    obtain ⟨x, h, hk⟩ := zLp_e h
    exact kX10_find_3B cx hr hlk hq ha1  (C1 := zKt (fun t => zLp (fX10_find_3 a1 v2 v3) n t = some z) (fun a => a = z)) (fun S v4 ht H locs hP hS ls hl => ih S v4 ht H locs hP hS ls hl) (fun a ha => ha) h hk hP hS hl
def fX10_find (S : zSt) (a1 : Nat) (v2 : Int32) (v3 : Int32) : Option (Int32 × zSt) :=
  zLp (fX10_find_3 a1 v2 v3) 2000 (S, (0 : Int32))
set_option maxHeartbeats 4000000 in
set_option maxRecDepth 100000 in
theorem mX10_find {l : Launch} {D : va_G} {cy : Nat → ClassId} {q : Nat → Nat} {A : Nat → Prop} {S : zSt} {a1 : Nat} {v2 : Int32} {v3 : Int32} (hq : zQ A q zNC) (ha1 : zHouse a1) {z : (Int32 × zSt)} (h : fX10_find S a1 v2 v3 = some z) : zMq l yX10_find cX10_find 11 (some .int) rmX10_find [.ref (q 256), .ref (q a1), .int v2, .int v3] zsh zNC D cy q A S z := by
  refine Met.ofW (cc := cX10_find) (maxL := 11) (ret := (some .int)) (by decide) rfl ?_
  intro p e s m args below meth c s₁ B hml hv
  obtain ⟨rfl, hP, hK⟩ := hv
  have cx : zX RX10 cX10_find 11 p s m ([.ref (q 256), .ref (q a1), .int v2, .int v3]).toArray c D cy := ⟨B.exec, B.bytes, hml, findClass_of_methodNamed B.named, fun w hw => atoms_spec (ws := Cond.code yX10_find cX10_find 11 (some .int) :: zTB) B.pre w (List.mem_cons_of_mem _ hw), hK⟩
  have hx := cx.1
  have hb := cx.2.1
  have hr := B.returns
  have hlk := B.notSynchronized
  have hS : va_S A s.heap s.heap [] := va_S.rf
  have hl := lv_entry ([.ref (q 256), .ref (q a1), .int v2, .int v3]) (n := 11) (Nat.le_of_ble_eq_true rfl)
  rw [lg_entry_eq]
  generalize (lg_sl ([.ref (q 256), .ref (q a1), .int v2, .int v3]) ++ List.replicate (11 - (lg_sl ([.ref (q 256), .ref (q a1), .int v2, .int v3])).length) Slot.unset).toArray = ls at hl ⊢
  have hl : lv_has ls 11 [(0, .ref (q 256)), (1, .ref (q a1)), (2, .int v2), (3, .int v3)] := hl
  unfold fX10_find at h
  refine lv_iconst (pc := 0) hx hb dX10_find_0 zc_0 ?_
  refine lv_istore (lv' := [(4, .int (0 : Int32)), (0, .ref (q 256)), (1, .ref (q a1)), (2, .int v2), (3, .int v3)]) (pc := 1) hx hb dX10_find_1 hl (by decide) rfl (fun ls hl => ?_)
  exact kX10_find_3 cx hr hlk hq ha1 2000 _ _ h _ _ hP hS _ (lv_sub hl [1, 2, 3, 4, 0] rfl)
-- X11_allBits
abbrev rmX11_allBits : Room := { frames := 0, cells := 0, slots := 0, locals := 0 }
def fX11_allBits (v0 : Int32) : Option Int32 :=
  some (((1 : Int32) <<< (v0 &&& 31)) - (1 : Int32))
set_option maxHeartbeats 4000000 in
set_option maxRecDepth 100000 in
theorem mX11_allBits {l : Launch} {D : va_G} {cy : Nat → ClassId} {v0 : Int32} {z : Int32} (h : fX11_allBits v0 = some z) : zMi l yX11_allBits cX11_allBits 1 (some .int) rmX11_allBits [.int v0] (zPk D cy) z := by
  refine Met.ofW (cc := cX11_allBits) (maxL := 1) (ret := (some .int)) (by decide) rfl ?_
  intro p e s m args below meth c s₁ B hml hv
  obtain ⟨rfl, hK⟩ := hv
  have cx : zX RX11 cX11_allBits 1 p s m ([.int v0]).toArray c D cy := ⟨B.exec, B.bytes, hml, findClass_of_methodNamed B.named, fun w hw => atoms_spec (ws := Cond.code yX11_allBits cX11_allBits 1 (some .int) :: zTB) B.pre w (List.mem_cons_of_mem _ hw), hK⟩
  have hx := cx.1
  have hb := cx.2.1
  have hr := B.returns
  have hlk := B.notSynchronized
  have hl := lv_entry ([.int v0]) (n := 1) (Nat.le_of_ble_eq_true rfl)
  rw [lg_entry_eq]
  generalize (lg_sl ([.int v0]) ++ List.replicate (1 - (lg_sl ([.int v0])).length) Slot.unset).toArray = ls at hl ⊢
  have hl : lv_has ls 1 [(0, .int v0)] := hl
  unfold fX11_allBits at h
  refine lv_iconst (pc := 0) hx hb dX11_allBits_0 zc_1 ?_
  refine lv_iload_n (pc := 1) hx hb dX11_allBits_1 rfl (lv_at hl 0 rfl) ?_
  refine lv_ishl (pc := 2) hx hb dX11_allBits_2 ?_
  refine lv_iconst (pc := 3) hx hb dX11_allBits_3 zc_1 ?_
  refine lv_isub (pc := 4) hx hb dX11_allBits_4 ?_
  have hz := Option.some.inj h
  exact zr_reI (pc := 5) cx hr hlk hz dX11_allBits_5
-- X11_ask
abbrev rmX11_ask : Room := { frames := 0, cells := 0, slots := 0, locals := 0 }
def fX11_ask (S : zSt) : Option Int32 :=
  some (S.1 0 15)
set_option maxHeartbeats 4000000 in
set_option maxRecDepth 100000 in
theorem mX11_ask {l : Launch} {D : va_G} {cy : Nat → ClassId} {q : Nat → Nat} {S : zSt} {z : Int32} (h : fX11_ask S = some z) : zMi l yX11_ask cX11_ask 1 (some .int) rmX11_ask [.ref (q 0)] (zPr zsh zNC D cy q S) z := by
  refine Met.ofW (cc := cX11_ask) (maxL := 1) (ret := (some .int)) (by decide) rfl ?_
  intro p e s m args below meth c s₁ B hml hv
  obtain ⟨rfl, hP, hK⟩ := hv
  have cx : zX RX11 cX11_ask 1 p s m ([.ref (q 0)]).toArray c D cy := ⟨B.exec, B.bytes, hml, findClass_of_methodNamed B.named, fun w hw => atoms_spec (ws := Cond.code yX11_ask cX11_ask 1 (some .int) :: zTB) B.pre w (List.mem_cons_of_mem _ hw), hK⟩
  have hx := cx.1
  have hb := cx.2.1
  have hr := B.returns
  have hlk := B.notSynchronized
  have hl := lv_entry ([.ref (q 0)]) (n := 1) (Nat.le_of_ble_eq_true rfl)
  rw [lg_entry_eq]
  generalize (lg_sl ([.ref (q 0)]) ++ List.replicate (1 - (lg_sl ([.ref (q 0)])).length) Slot.unset).toArray = ls at hl ⊢
  have hl : lv_has ls 1 [(0, .ref (q 0))] := hl
  unfold fX11_ask at h
  refine lv_aload_n (pc := 0) hx hb dX11_ask_0 rfl (lv_at hl 0 rfl) ?_
  refine zr_getI (pc := 1) cx lk_X11_107 hP nC_0 sC_0 rfl dX11_ask_1 ?_
  have hz := Option.some.inj h
  exact zr_reI (pc := 4) cx hr hlk hz dX11_ask_4
-- X9_clear
abbrev rmX9_clear : Room := { frames := 0, cells := 0, slots := 0, locals := 0 }
def fX9_clear (S : zSt) : Option zSt :=
  zLt (zI S 1 1 (0 : Int32)) (fun S1 => some S1)
set_option maxHeartbeats 4000000 in
set_option maxRecDepth 100000 in
theorem mX9_clear {l : Launch} {D : va_G} {cy : Nat → ClassId} {q : Nat → Nat} {A : Nat → Prop} {S : zSt} (hq : zQ A q zNC) {z : zSt} (h : fX9_clear S = some z) : zMv l yX9_clear cX9_clear 1 none rmX9_clear [.ref (q 1)] zsh zNC D cy q A S z := by
  refine Met.ofW (cc := cX9_clear) (maxL := 1) (ret := none) (by decide) rfl ?_
  intro p e s m args below meth c s₁ B hml hv
  obtain ⟨rfl, hP, hK⟩ := hv
  have cx : zX RX9 cX9_clear 1 p s m ([.ref (q 1)]).toArray c D cy := ⟨B.exec, B.bytes, hml, findClass_of_methodNamed B.named, fun w hw => atoms_spec (ws := Cond.code yX9_clear cX9_clear 1 none :: zTB) B.pre w (List.mem_cons_of_mem _ hw), hK⟩
  have hx := cx.1
  have hb := cx.2.1
  have hr := B.returns
  have hlk := B.notSynchronized
  have hS : va_S A s.heap s.heap [] := va_S.rf
  have hl := lv_entry ([.ref (q 1)]) (n := 1) (Nat.le_of_ble_eq_true rfl)
  rw [lg_entry_eq]
  generalize (lg_sl ([.ref (q 1)]) ++ List.replicate (1 - (lg_sl ([.ref (q 1)])).length) Slot.unset).toArray = ls at hl ⊢
  have hl : lv_has ls 1 [(0, .ref (q 1))] := hl
  unfold fX9_clear at h
  refine lv_aload_n (pc := 0) hx hb dX9_clear_0 rfl (lv_at hl 0 rfl) ?_
  refine lv_iconst (pc := 1) hx hb dX9_clear_1 zc_0 ?_
  obtain ⟨S1, eS1, h⟩ := zLt_e h
  refine zr_putI (pc := 2) cx lq_X9_31 hq hP hS nC_1 sC_1 rfl rfl rfl dX9_clear_2 (fun H locs hP hS => ?_)
  rw [← eS1] at hP
  have hz := Option.some.inj h
  exact zr_rqV (pc := 5) cx hr hlk hP hS hz dX9_clear_5
-- X11_endReading
abbrev rmX11_endReading : Room := { frames := 1, cells := 0, slots := 0, locals := 20 }
def fX11_endReading (S : zSt) : Option zSt :=
  zLt (zI S 0 14 (S.1 1 9)) (fun S1 => zBd (fX9_clear S1) (fun S3 => some S3))
set_option maxHeartbeats 4000000 in
set_option maxRecDepth 100000 in
theorem mX11_endReading {l : Launch} {D : va_G} {cy : Nat → ClassId} {q : Nat → Nat} {A : Nat → Prop} {S : zSt} (hq : zQ A q zNC) {z : zSt} (h : fX11_endReading S = some z) : zMv l yX11_endReading cX11_endReading 1 none rmX11_endReading [.ref (q 0)] zsh zNC D cy q A S z := by
  refine Met.ofW (cc := cX11_endReading) (maxL := 1) (ret := none) (by decide) rfl ?_
  intro p e s m args below meth c s₁ B hml hv
  obtain ⟨rfl, hP, hK⟩ := hv
  have cx : zX RX11 cX11_endReading 1 p s m ([.ref (q 0)]).toArray c D cy := ⟨B.exec, B.bytes, hml, findClass_of_methodNamed B.named, fun w hw => atoms_spec (ws := Cond.code yX11_endReading cX11_endReading 1 none :: zTB) B.pre w (List.mem_cons_of_mem _ hw), hK⟩
  have hx := cx.1
  have hb := cx.2.1
  have hr := B.returns
  have hlk := B.notSynchronized
  have hS : va_S A s.heap s.heap [] := va_S.rf
  have hl := lv_entry ([.ref (q 0)]) (n := 1) (Nat.le_of_ble_eq_true rfl)
  rw [lg_entry_eq]
  generalize (lg_sl ([.ref (q 0)]) ++ List.replicate (1 - (lg_sl ([.ref (q 0)])).length) Slot.unset).toArray = ls at hl ⊢
  have hl : lv_has ls 1 [(0, .ref (q 0))] := hl
  unfold fX11_endReading at h
  refine lv_aload_n (pc := 0) hx hb dX11_endReading_0 rfl (lv_at hl 0 rfl) ?_
  refine lv_aload_n (pc := 1) hx hb dX11_endReading_1 rfl (lv_at hl 0 rfl) ?_
  refine zr_getR (pc := 2) (t := 1) cx lk_X11_10 hP nC_0 sC_0 rfl dX11_endReading_2 ?_
  refine zr_getI (pc := 5) cx lk_X11_409 hP nC_1 sC_1 rfl dX11_endReading_5 ?_
  obtain ⟨S1, eS1, h⟩ := zLt_e h
  refine zr_putI (pc := 8) cx lq_X11_146 hq hP hS nC_0 sC_0 rfl rfl rfl dX11_endReading_8 (fun H locs hP hS => ?_)
  rw [← eS1] at hP
  refine lv_aload_n (pc := 11) hx hb dX11_endReading_11 rfl (lv_at hl 0 rfl) ?_
  refine zr_getR (pc := 12) (t := 1) cx lk_X11_10 hP nC_0 sC_0 rfl dX11_endReading_12 ?_
  obtain ⟨S3, k2, h⟩ := zBd_e h
  refine zr_VV (pc := 15) (rest := []) cx cv_X11_294 (mX9_clear hq k2) ⟨⟨rfl, rfl⟩, Nat.le_of_ble_eq_true rfl, Nat.le_of_ble_eq_true rfl⟩ ⟨Nat.le_of_ble_eq_true rfl, Nat.le_of_ble_eq_true rfl⟩ hP hS nC_1 sC_1 rfl hl.1 rfl rfl (Nat.le_of_ble_eq_true rfl) dX11_endReading_15 (fun H locs hP hS => ?_)
  have hz := Option.some.inj h
  exact zr_rqV (pc := 18) cx hr hlk hP hS hz dX11_endReading_18
-- X6_copyFrom
abbrev rmX6_copyFrom : Room := { frames := 1, cells := 0, slots := 0, locals := 48 }
def fX6_copyFrom_86 (a0 : Nat) (a1 : Nat) (t : (zSt × Int32)) : Option ((zSt × Int32) ⊕ zSt) :=
  match t with
  | (S, v2) => zBr ((6 : Int32) ≤ v2) (zXr (zGd (zCk (0 : Int32) (0 : Int32) (6 : Int32) 6 6) (zLt (zCi S (a1 + 12) (a0 + 12) (0 : Int32).toNatClampNeg (0 : Int32).toNatClampNeg (6 : Int32).toNatClampNeg) (fun S14 => zGd (zCk (0 : Int32) (0 : Int32) (6 : Int32) 6 6) (zLt (zCi S14 (a1 + 13) (a0 + 13) (0 : Int32).toNatClampNeg (0 : Int32).toNatClampNeg (6 : Int32).toNatClampNeg) (fun S16 => zGd (zCk (0 : Int32) (0 : Int32) (6 : Int32) 6 6) (zLt (zCi S16 (a1 + 14) (a0 + 14) (0 : Int32).toNatClampNeg (0 : Int32).toNatClampNeg (6 : Int32).toNatClampNeg) (fun S18 => some S18)))))))) (zGd (zIx v2 6) (zGd (zIx v2 6) (zGd (zCk (0 : Int32) (0 : Int32) (S.1 a0 2) 12 12) (zLt (zCi S (a1 + 6 + v2.toNatClampNeg) (a0 + 6 + v2.toNatClampNeg) (0 : Int32).toNatClampNeg (0 : Int32).toNatClampNeg (S.1 a0 2).toNatClampNeg) (fun S22 => zLt (v2 + (1 : Int32)) (fun x23 => some (.inl (S22, x23))))))))
set_option maxHeartbeats 4000000 in
set_option maxRecDepth 100000 in
theorem kX6_copyFrom_86B {p : Program} {l : Launch} {e : Env} {s : State} {m : MethodId} {args : Array Value} {below : List Frame} {meth : Method} {c : Code} {D : va_G} {cy : Nat → ClassId} {q : Nat → Nat} {A : Nat → Prop} (cx : zX RX6 cX6_copyFrom 3 p s m args c D cy) (hr : meth.sig.returnType = none) (hlk : meth.locks = false) (hq : zQ A q zNC) {a0 : Nat} {a1 : Nat} (ha0 : zLife a0) (ha1 : zLife a1) {z : zSt} {S : zSt} {v2 : Int32} {C1 : ((zSt × Int32) ⊕ zSt) → Prop} (hb1 : ∀ (S : zSt) (v2 : Int32), C1 (.inl (S, v2)) → ∀ (H : Heap) (locs : List Loc), va_P D vwCl (zW zsh zNC cy q S) H → va_S A s.heap H locs → ∀ (ls : Array Slot), lv_has ls 3 [(0, .ref (q a0)), (1, .ref (q a1)), (2, .int v2)] → W p l e rmX6_copyFrom s m args below meth c H locs 0 0 (MQ below (va_Qv (fun (u : zSt) => u = z) (fun u t => va_P D vwCl (zW zsh zNC cy q u) t.heap) A) args s 0 0 A) (F0 m 86 ls [])) (hx1 : ∀ a, C1 (.inr a) → a = z) {x : ((zSt × Int32) ⊕ zSt)} (h : fX6_copyFrom_86 a0 a1 (S, v2) = some x) (hc : C1 x) {H : Heap} {locs : List Loc} (hP : va_P D vwCl (zW zsh zNC cy q S) H) (hS : va_S A s.heap H locs) {ls : Array Slot} (hl : lv_has ls 3 [(0, .ref (q a0)), (1, .ref (q a1)), (2, .int v2)]) : W p l e rmX6_copyFrom s m args below meth c H locs 0 0 (MQ below (va_Qv (fun (u : zSt) => u = z) (fun u t => va_P D vwCl (zW zsh zNC cy q u) t.heap) A) args s 0 0 A) (F0 m 86 ls []) := by
  have hx := cx.1
  have hb := cx.2.1
  unfold fX6_copyFrom_86 at h
  dsimp only at h
  refine lv_iload_n (pc := 86) hx hb dX6_copyFrom_86 rfl (lv_at hl 2 rfl) ?_
  refine lv_bipush (pc := 87) hx hb dX6_copyFrom_87 zb_6 ?_
  refine lv_icmp_ge (pc := 89) (tgt := 119) hx hb dX6_copyFrom_89 (by decide) (fun c11 => ?_) (fun c11 => ?_)
  · replace h := zBr_t c11 h
    obtain ⟨y12, h, ex⟩ := zXr_e h
    have hc := hx1 y12 (by rw [ex] at hc; exact hc)
    rw [hc] at h
    refine lv_aload_n (pc := 119) hx hb dX6_copyFrom_119 rfl (lv_at hl 1 rfl) ?_
    refine zr_getR (pc := 120) (t := (a1 + 12)) cx lk_X6_29 hP (nX6_0 ha1) (sX6_0 ha1) rfl dX6_copyFrom_120 ?_
    refine lv_iconst (pc := 123) hx hb dX6_copyFrom_123 zc_0 ?_
    refine lv_aload_n (pc := 124) hx hb dX6_copyFrom_124 rfl (lv_at hl 0 rfl) ?_
    refine zr_getR (pc := 125) (t := (a0 + 12)) cx lk_X6_29 hP (nX6_0 ha0) (sX6_0 ha0) rfl dX6_copyFrom_125 ?_
    refine lv_iconst (pc := 128) hx hb dX6_copyFrom_128 zc_0 ?_
    refine lv_bipush (pc := 129) hx hb dX6_copyFrom_129 zb_6 ?_
    obtain ⟨g13, h⟩ := zGd_e h
    obtain ⟨S14, eS14, h⟩ := zLt_e h
    refine zr_cpI (pc := 131) cx lb_X6_54 ⟨Nat.le_of_ble_eq_true rfl, Nat.le_of_ble_eq_true rfl⟩ hq hP hS (nX6_12 ha1) (sX6_12 ha1) (nX6_12 ha0) (sX6_12 ha0) g13 hl.1 dX6_copyFrom_131 (fun H locs hP hS => ?_)
    rw [← eS14] at hP
    refine lv_aload_n (pc := 134) hx hb dX6_copyFrom_134 rfl (lv_at hl 1 rfl) ?_
    refine zr_getR (pc := 135) (t := (a1 + 13)) cx lk_X6_32 hP (nX6_0 ha1) (sX6_0 ha1) rfl dX6_copyFrom_135 ?_
    refine lv_iconst (pc := 138) hx hb dX6_copyFrom_138 zc_0 ?_
    refine lv_aload_n (pc := 139) hx hb dX6_copyFrom_139 rfl (lv_at hl 0 rfl) ?_
    refine zr_getR (pc := 140) (t := (a0 + 13)) cx lk_X6_32 hP (nX6_0 ha0) (sX6_0 ha0) rfl dX6_copyFrom_140 ?_
    refine lv_iconst (pc := 143) hx hb dX6_copyFrom_143 zc_0 ?_
    refine lv_bipush (pc := 144) hx hb dX6_copyFrom_144 zb_6 ?_
    obtain ⟨g15, h⟩ := zGd_e h
    obtain ⟨S16, eS16, h⟩ := zLt_e h
    refine zr_cpI (pc := 146) cx lb_X6_54 ⟨Nat.le_of_ble_eq_true rfl, Nat.le_of_ble_eq_true rfl⟩ hq hP hS (nX6_13 ha1) (sX6_13 ha1) (nX6_13 ha0) (sX6_13 ha0) g15 hl.1 dX6_copyFrom_146 (fun H locs hP hS => ?_)
    rw [← eS16] at hP
    refine lv_aload_n (pc := 149) hx hb dX6_copyFrom_149 rfl (lv_at hl 1 rfl) ?_
    refine zr_getR (pc := 150) (t := (a1 + 14)) cx lk_X6_35 hP (nX6_0 ha1) (sX6_0 ha1) rfl dX6_copyFrom_150 ?_
    refine lv_iconst (pc := 153) hx hb dX6_copyFrom_153 zc_0 ?_
    refine lv_aload_n (pc := 154) hx hb dX6_copyFrom_154 rfl (lv_at hl 0 rfl) ?_
    refine zr_getR (pc := 155) (t := (a0 + 14)) cx lk_X6_35 hP (nX6_0 ha0) (sX6_0 ha0) rfl dX6_copyFrom_155 ?_
    refine lv_iconst (pc := 158) hx hb dX6_copyFrom_158 zc_0 ?_
    refine lv_bipush (pc := 159) hx hb dX6_copyFrom_159 zb_6 ?_
    obtain ⟨g17, h⟩ := zGd_e h
    obtain ⟨S18, eS18, h⟩ := zLt_e h
    refine zr_cpI (pc := 161) cx lb_X6_54 ⟨Nat.le_of_ble_eq_true rfl, Nat.le_of_ble_eq_true rfl⟩ hq hP hS (nX6_14 ha1) (sX6_14 ha1) (nX6_14 ha0) (sX6_14 ha0) g17 hl.1 dX6_copyFrom_161 (fun H locs hP hS => ?_)
    rw [← eS18] at hP
    have hz := Option.some.inj h
    exact zr_rqV (pc := 164) cx hr hlk hP hS hz dX6_copyFrom_164
  · replace h := zBr_f c11 h
    refine lv_aload_n (pc := 92) hx hb dX6_copyFrom_92 rfl (lv_at hl 1 rfl) ?_
    refine zr_getR (pc := 93) (t := (a1 + 5)) cx lk_X6_26 hP (nX6_0 ha1) (sX6_0 ha1) rfl dX6_copyFrom_93 ?_
    refine lv_iload_n (pc := 96) hx hb dX6_copyFrom_96 rfl (lv_at hl 2 rfl) ?_
    obtain ⟨g19, h⟩ := zGd_e h
    refine zr_aald (pc := 97) (g := (a1 + 6 + v2.toNatClampNeg)) cx hP (nX6_5 ha1) (sX6_5 ha1) (Or.inr (Or.inr rfl)) g19 rfl dX6_copyFrom_97 ?_
    refine lv_iconst (pc := 98) hx hb dX6_copyFrom_98 zc_0 ?_
    refine lv_aload_n (pc := 99) hx hb dX6_copyFrom_99 rfl (lv_at hl 0 rfl) ?_
    refine zr_getR (pc := 100) (t := (a0 + 5)) cx lk_X6_26 hP (nX6_0 ha0) (sX6_0 ha0) rfl dX6_copyFrom_100 ?_
    refine lv_iload_n (pc := 103) hx hb dX6_copyFrom_103 rfl (lv_at hl 2 rfl) ?_
    obtain ⟨g20, h⟩ := zGd_e h
    refine zr_aald (pc := 104) (g := (a0 + 6 + v2.toNatClampNeg)) cx hP (nX6_5 ha0) (sX6_5 ha0) (Or.inr (Or.inr rfl)) g20 rfl dX6_copyFrom_104 ?_
    refine lv_iconst (pc := 105) hx hb dX6_copyFrom_105 zc_0 ?_
    refine lv_aload_n (pc := 106) hx hb dX6_copyFrom_106 rfl (lv_at hl 0 rfl) ?_
    refine zr_getI (pc := 107) cx lk_X6_46 hP (nX6_0 ha0) (sX6_0 ha0) rfl dX6_copyFrom_107 ?_
    obtain ⟨g21, h⟩ := zGd_e h
    obtain ⟨S22, eS22, h⟩ := zLt_e h
    refine zr_cpI (pc := 110) cx lb_X6_54 ⟨Nat.le_of_ble_eq_true rfl, Nat.le_of_ble_eq_true rfl⟩ hq hP hS (nX6_r ha1 g19) (sX6_r ha1 g19) (nX6_r ha0 g20) (sX6_r ha0 g20) g21 hl.1 dX6_copyFrom_110 (fun H locs hP hS => ?_)
    rw [← eS22] at hP
    obtain ⟨x23, ex23, h⟩ := zLt_e h
    refine lv_iinc (v := x23) (lv' := [(2, .int x23), (0, .ref (q a0)), (1, .ref (q a1))]) (pc := 113) hx hb dX6_copyFrom_113 hl (k := 2) rfl (by rw [zc_1]; exact ex23.symm) (by decide) rfl (fun ls hl => ?_)
    refine lv_goto (pc := 116) (tgt := 86) hx hb dX6_copyFrom_116 (by decide) ?_
    cases h
    exact hb1 _ _ hc _ _ hP hS _ (lv_sub hl [1, 2, 0] rfl)
set_option maxHeartbeats 4000000 in
set_option maxRecDepth 100000 in
theorem kX6_copyFrom_86 {p : Program} {l : Launch} {e : Env} {s : State} {m : MethodId} {args : Array Value} {below : List Frame} {meth : Method} {c : Code} {D : va_G} {cy : Nat → ClassId} {q : Nat → Nat} {A : Nat → Prop} (cx : zX RX6 cX6_copyFrom 3 p s m args c D cy) (hr : meth.sig.returnType = none) (hlk : meth.locks = false) (hq : zQ A q zNC) {a0 : Nat} {a1 : Nat} (ha0 : zLife a0) (ha1 : zLife a1) {z : zSt} : ∀ (n : Nat) (S : zSt) (v2 : Int32), zLp (fX6_copyFrom_86 a0 a1) n (S, v2) = some z → ∀ (H : Heap) (locs : List Loc), va_P D vwCl (zW zsh zNC cy q S) H → va_S A s.heap H locs → ∀ (ls : Array Slot), lv_has ls 3 [(0, .ref (q a0)), (1, .ref (q a1)), (2, .int v2)] → W p l e rmX6_copyFrom s m args below meth c H locs 0 0 (MQ below (va_Qv (fun (u : zSt) => u = z) (fun u t => va_P D vwCl (zW zsh zNC cy q u) t.heap) A) args s 0 0 A) (F0 m 86 ls []) := by
  intro n
  induction n with
  | zero =>
    intro S v2 h
    cases h
  | succ n ih =>
    intro S v2 h H locs hP hS ls hl
    obtain ⟨x, h, hk⟩ := zLp_e h
    exact kX6_copyFrom_86B cx hr hlk hq ha0 ha1  (C1 := zKt (fun t => zLp (fX6_copyFrom_86 a0 a1) n t = some z) (fun a => a = z)) (fun S v2 ht H locs hP hS ls hl => ih S v2 ht H locs hP hS ls hl) (fun a ha => ha) h hk hP hS hl
def fX6_copyFrom (S : zSt) (a0 : Nat) (a1 : Nat) : Option zSt :=
  zLt (zI S a0 1 (S.1 a1 1)) (fun S1 => zLt (zI S1 a0 2 (S1.1 a1 2)) (fun S2 => zGd (zCk (0 : Int32) (0 : Int32) (S2.1 a0 2) 12 12) (zLt (zCi S2 (a1 + 1) (a0 + 1) (0 : Int32).toNatClampNeg (0 : Int32).toNatClampNeg (S2.1 a0 2).toNatClampNeg) (fun S4 => zGd (zCk (0 : Int32) (0 : Int32) (S4.1 a0 2) 12 12) (zLt (zCi S4 (a1 + 2) (a0 + 2) (0 : Int32).toNatClampNeg (0 : Int32).toNatClampNeg (S4.1 a0 2).toNatClampNeg) (fun S6 => zGd (zCk (0 : Int32) (0 : Int32) (S6.1 a0 2) 12 12) (zLt (zCi S6 (a1 + 3) (a0 + 3) (0 : Int32).toNatClampNeg (0 : Int32).toNatClampNeg (S6.1 a0 2).toNatClampNeg) (fun S8 => zGd (zCk (0 : Int32) (0 : Int32) (S8.1 a0 2) 12 12) (zLt (zCi S8 (a1 + 4) (a0 + 4) (0 : Int32).toNatClampNeg (0 : Int32).toNatClampNeg (S8.1 a0 2).toNatClampNeg) (fun S10 => zLp (fX6_copyFrom_86 a0 a1) 2000 (S10, (0 : Int32))))))))))))
set_option maxHeartbeats 4000000 in
set_option maxRecDepth 100000 in
theorem mX6_copyFrom {l : Launch} {D : va_G} {cy : Nat → ClassId} {q : Nat → Nat} {A : Nat → Prop} {S : zSt} {a0 : Nat} {a1 : Nat} (hq : zQ A q zNC) (ha0 : zLife a0) (ha1 : zLife a1) {z : zSt} (h : fX6_copyFrom S a0 a1 = some z) : zMv l yX6_copyFrom cX6_copyFrom 3 none rmX6_copyFrom [.ref (q a0), .ref (q a1)] zsh zNC D cy q A S z := by
  refine Met.ofW (cc := cX6_copyFrom) (maxL := 3) (ret := none) (by decide) rfl ?_
  intro p e s m args below meth c s₁ B hml hv
  obtain ⟨rfl, hP, hK⟩ := hv
  have cx : zX RX6 cX6_copyFrom 3 p s m ([.ref (q a0), .ref (q a1)]).toArray c D cy := ⟨B.exec, B.bytes, hml, findClass_of_methodNamed B.named, fun w hw => atoms_spec (ws := Cond.code yX6_copyFrom cX6_copyFrom 3 none :: zTB) B.pre w (List.mem_cons_of_mem _ hw), hK⟩
  have hx := cx.1
  have hb := cx.2.1
  have hr := B.returns
  have hlk := B.notSynchronized
  have hS : va_S A s.heap s.heap [] := va_S.rf
  have hl := lv_entry ([.ref (q a0), .ref (q a1)]) (n := 3) (Nat.le_of_ble_eq_true rfl)
  rw [lg_entry_eq]
  generalize (lg_sl ([.ref (q a0), .ref (q a1)]) ++ List.replicate (3 - (lg_sl ([.ref (q a0), .ref (q a1)])).length) Slot.unset).toArray = ls at hl ⊢
  have hl : lv_has ls 3 [(0, .ref (q a0)), (1, .ref (q a1))] := hl
  unfold fX6_copyFrom at h
  refine lv_aload_n (pc := 0) hx hb dX6_copyFrom_0 rfl (lv_at hl 0 rfl) ?_
  refine lv_aload_n (pc := 1) hx hb dX6_copyFrom_1 rfl (lv_at hl 1 rfl) ?_
  refine zr_getI (pc := 2) cx lk_X6_42 hP (nX6_0 ha1) (sX6_0 ha1) rfl dX6_copyFrom_2 ?_
  obtain ⟨S1, eS1, h⟩ := zLt_e h
  refine zr_putI (pc := 5) cx lq_X6_42 hq hP hS (nX6_0 ha0) (sX6_0 ha0) rfl rfl rfl dX6_copyFrom_5 (fun H locs hP hS => ?_)
  rw [← eS1] at hP
  refine lv_aload_n (pc := 8) hx hb dX6_copyFrom_8 rfl (lv_at hl 0 rfl) ?_
  refine lv_aload_n (pc := 9) hx hb dX6_copyFrom_9 rfl (lv_at hl 1 rfl) ?_
  refine zr_getI (pc := 10) cx lk_X6_46 hP (nX6_0 ha1) (sX6_0 ha1) rfl dX6_copyFrom_10 ?_
  obtain ⟨S2, eS2, h⟩ := zLt_e h
  refine zr_putI (pc := 13) cx lq_X6_46 hq hP hS (nX6_0 ha0) (sX6_0 ha0) rfl rfl rfl dX6_copyFrom_13 (fun H locs hP hS => ?_)
  rw [← eS2] at hP
  refine lv_aload_n (pc := 16) hx hb dX6_copyFrom_16 rfl (lv_at hl 1 rfl) ?_
  refine zr_getR (pc := 17) (t := (a1 + 1)) cx lk_X6_9 hP (nX6_0 ha1) (sX6_0 ha1) rfl dX6_copyFrom_17 ?_
  refine lv_iconst (pc := 20) hx hb dX6_copyFrom_20 zc_0 ?_
  refine lv_aload_n (pc := 21) hx hb dX6_copyFrom_21 rfl (lv_at hl 0 rfl) ?_
  refine zr_getR (pc := 22) (t := (a0 + 1)) cx lk_X6_9 hP (nX6_0 ha0) (sX6_0 ha0) rfl dX6_copyFrom_22 ?_
  refine lv_iconst (pc := 25) hx hb dX6_copyFrom_25 zc_0 ?_
  refine lv_aload_n (pc := 26) hx hb dX6_copyFrom_26 rfl (lv_at hl 0 rfl) ?_
  refine zr_getI (pc := 27) cx lk_X6_46 hP (nX6_0 ha0) (sX6_0 ha0) rfl dX6_copyFrom_27 ?_
  obtain ⟨g3, h⟩ := zGd_e h
  obtain ⟨S4, eS4, h⟩ := zLt_e h
  refine zr_cpI (pc := 30) cx lb_X6_54 ⟨Nat.le_of_ble_eq_true rfl, Nat.le_of_ble_eq_true rfl⟩ hq hP hS (nX6_1 ha1) (sX6_1 ha1) (nX6_1 ha0) (sX6_1 ha0) g3 hl.1 dX6_copyFrom_30 (fun H locs hP hS => ?_)
  rw [← eS4] at hP
  refine lv_aload_n (pc := 33) hx hb dX6_copyFrom_33 rfl (lv_at hl 1 rfl) ?_
  refine zr_getR (pc := 34) (t := (a1 + 2)) cx lk_X6_15 hP (nX6_0 ha1) (sX6_0 ha1) rfl dX6_copyFrom_34 ?_
  refine lv_iconst (pc := 37) hx hb dX6_copyFrom_37 zc_0 ?_
  refine lv_aload_n (pc := 38) hx hb dX6_copyFrom_38 rfl (lv_at hl 0 rfl) ?_
  refine zr_getR (pc := 39) (t := (a0 + 2)) cx lk_X6_15 hP (nX6_0 ha0) (sX6_0 ha0) rfl dX6_copyFrom_39 ?_
  refine lv_iconst (pc := 42) hx hb dX6_copyFrom_42 zc_0 ?_
  refine lv_aload_n (pc := 43) hx hb dX6_copyFrom_43 rfl (lv_at hl 0 rfl) ?_
  refine zr_getI (pc := 44) cx lk_X6_46 hP (nX6_0 ha0) (sX6_0 ha0) rfl dX6_copyFrom_44 ?_
  obtain ⟨g5, h⟩ := zGd_e h
  obtain ⟨S6, eS6, h⟩ := zLt_e h
  refine zr_cpI (pc := 47) cx lb_X6_54 ⟨Nat.le_of_ble_eq_true rfl, Nat.le_of_ble_eq_true rfl⟩ hq hP hS (nX6_2 ha1) (sX6_2 ha1) (nX6_2 ha0) (sX6_2 ha0) g5 hl.1 dX6_copyFrom_47 (fun H locs hP hS => ?_)
  rw [← eS6] at hP
  refine lv_aload_n (pc := 50) hx hb dX6_copyFrom_50 rfl (lv_at hl 1 rfl) ?_
  refine zr_getR (pc := 51) (t := (a1 + 3)) cx lk_X6_18 hP (nX6_0 ha1) (sX6_0 ha1) rfl dX6_copyFrom_51 ?_
  refine lv_iconst (pc := 54) hx hb dX6_copyFrom_54 zc_0 ?_
  refine lv_aload_n (pc := 55) hx hb dX6_copyFrom_55 rfl (lv_at hl 0 rfl) ?_
  refine zr_getR (pc := 56) (t := (a0 + 3)) cx lk_X6_18 hP (nX6_0 ha0) (sX6_0 ha0) rfl dX6_copyFrom_56 ?_
  refine lv_iconst (pc := 59) hx hb dX6_copyFrom_59 zc_0 ?_
  refine lv_aload_n (pc := 60) hx hb dX6_copyFrom_60 rfl (lv_at hl 0 rfl) ?_
  refine zr_getI (pc := 61) cx lk_X6_46 hP (nX6_0 ha0) (sX6_0 ha0) rfl dX6_copyFrom_61 ?_
  obtain ⟨g7, h⟩ := zGd_e h
  obtain ⟨S8, eS8, h⟩ := zLt_e h
  refine zr_cpI (pc := 64) cx lb_X6_54 ⟨Nat.le_of_ble_eq_true rfl, Nat.le_of_ble_eq_true rfl⟩ hq hP hS (nX6_3 ha1) (sX6_3 ha1) (nX6_3 ha0) (sX6_3 ha0) g7 hl.1 dX6_copyFrom_64 (fun H locs hP hS => ?_)
  rw [← eS8] at hP
  refine lv_aload_n (pc := 67) hx hb dX6_copyFrom_67 rfl (lv_at hl 1 rfl) ?_
  refine zr_getR (pc := 68) (t := (a1 + 4)) cx lk_X6_21 hP (nX6_0 ha1) (sX6_0 ha1) rfl dX6_copyFrom_68 ?_
  refine lv_iconst (pc := 71) hx hb dX6_copyFrom_71 zc_0 ?_
  refine lv_aload_n (pc := 72) hx hb dX6_copyFrom_72 rfl (lv_at hl 0 rfl) ?_
  refine zr_getR (pc := 73) (t := (a0 + 4)) cx lk_X6_21 hP (nX6_0 ha0) (sX6_0 ha0) rfl dX6_copyFrom_73 ?_
  refine lv_iconst (pc := 76) hx hb dX6_copyFrom_76 zc_0 ?_
  refine lv_aload_n (pc := 77) hx hb dX6_copyFrom_77 rfl (lv_at hl 0 rfl) ?_
  refine zr_getI (pc := 78) cx lk_X6_46 hP (nX6_0 ha0) (sX6_0 ha0) rfl dX6_copyFrom_78 ?_
  obtain ⟨g9, h⟩ := zGd_e h
  obtain ⟨S10, eS10, h⟩ := zLt_e h
  refine zr_cpI (pc := 81) cx lb_X6_54 ⟨Nat.le_of_ble_eq_true rfl, Nat.le_of_ble_eq_true rfl⟩ hq hP hS (nX6_4 ha1) (sX6_4 ha1) (nX6_4 ha0) (sX6_4 ha0) g9 hl.1 dX6_copyFrom_81 (fun H locs hP hS => ?_)
  rw [← eS10] at hP
  refine lv_iconst (pc := 84) hx hb dX6_copyFrom_84 zc_0 ?_
  refine lv_istore_n (lv' := [(2, .int (0 : Int32)), (0, .ref (q a0)), (1, .ref (q a1))]) (pc := 85) hx hb dX6_copyFrom_85 rfl hl (by decide) rfl (fun ls hl => ?_)
  exact kX6_copyFrom_86 cx hr hlk hq ha0 ha1 2000 _ _ h _ _ hP hS _ (lv_sub hl [1, 2, 0] rfl)
-- X7_keep
abbrev rmX7_keep : Room := { frames := 2, cells := 0, slots := 0, locals := 70 }
def fX7_keep (S : zSt) (a1 : Nat) : Option zSt :=
  zGd (zIx (S.1 44 1) 8) (zBd (fX6_copyFrom S (46 + 15 * (S.1 44 1).toNatClampNeg) a1) (fun S3 => zGd (decide (¬ (8 : Int32) = 0)) (zLt (zI S3 44 1 (((S3.1 44 1) + (1 : Int32)) - ((S3.1 44 1) + (1 : Int32)) / (8 : Int32) * (8 : Int32))) (fun S5 => zLt (zI S5 44 2 (if ((S5.1 44 2) + (1 : Int32)) < (8 : Int32) then ((S5.1 44 2) + (1 : Int32)) else (8 : Int32))) (fun S6 => some S6)))))
set_option maxHeartbeats 4000000 in
set_option maxRecDepth 100000 in
theorem mX7_keep {l : Launch} {D : va_G} {cy : Nat → ClassId} {q : Nat → Nat} {A : Nat → Prop} {S : zSt} {a1 : Nat} (hq : zQ A q zNC) (ha1 : zLife a1) {z : zSt} (h : fX7_keep S a1 = some z) : zMv l yX7_keep cX7_keep 2 none rmX7_keep [.ref (q 44), .ref (q a1)] zsh zNC D cy q A S z := by
  refine Met.ofW (cc := cX7_keep) (maxL := 2) (ret := none) (by decide) rfl ?_
  intro p e s m args below meth c s₁ B hml hv
  obtain ⟨rfl, hP, hK⟩ := hv
  have cx : zX RX7 cX7_keep 2 p s m ([.ref (q 44), .ref (q a1)]).toArray c D cy := ⟨B.exec, B.bytes, hml, findClass_of_methodNamed B.named, fun w hw => atoms_spec (ws := Cond.code yX7_keep cX7_keep 2 none :: zTB) B.pre w (List.mem_cons_of_mem _ hw), hK⟩
  have hx := cx.1
  have hb := cx.2.1
  have hr := B.returns
  have hlk := B.notSynchronized
  have hS : va_S A s.heap s.heap [] := va_S.rf
  have hl := lv_entry ([.ref (q 44), .ref (q a1)]) (n := 2) (Nat.le_of_ble_eq_true rfl)
  rw [lg_entry_eq]
  generalize (lg_sl ([.ref (q 44), .ref (q a1)]) ++ List.replicate (2 - (lg_sl ([.ref (q 44), .ref (q a1)])).length) Slot.unset).toArray = ls at hl ⊢
  have hl : lv_has ls 2 [(0, .ref (q 44)), (1, .ref (q a1))] := hl
  unfold fX7_keep at h
  refine lv_aload_n (pc := 0) hx hb dX7_keep_0 rfl (lv_at hl 0 rfl) ?_
  refine zr_getR (pc := 1) (t := 45) cx lk_X7_11 hP nC_44 sC_44 rfl dX7_keep_1 ?_
  refine lv_aload_n (pc := 4) hx hb dX7_keep_4 rfl (lv_at hl 0 rfl) ?_
  refine zr_getI (pc := 5) cx lk_X7_24 hP nC_44 sC_44 rfl dX7_keep_5 ?_
  obtain ⟨g1, h⟩ := zGd_e h
  refine zr_aald (pc := 8) (g := (46 + 15 * (S.1 44 1).toNatClampNeg)) cx hP nC_45 sC_45 (Or.inr (Or.inl rfl)) g1 rfl dX7_keep_8 ?_
  refine lv_aload_n (pc := 9) hx hb dX7_keep_9 rfl (lv_at hl 1 rfl) ?_
  obtain ⟨S3, k2, h⟩ := zBd_e h
  refine zr_VV (pc := 10) (rest := []) cx cv_X7_27 (mX6_copyFrom hq (zLf_ix g1) ha1 k2) ⟨⟨rfl, rfl⟩, Nat.le_of_ble_eq_true rfl, Nat.le_of_ble_eq_true rfl⟩ ⟨Nat.le_of_ble_eq_true rfl, Nat.le_of_ble_eq_true rfl⟩ hP hS (nX6_0 (zLf_ix g1)) (sX6_0 (zLf_ix g1)) rfl hl.1 rfl rfl (Nat.le_of_ble_eq_true rfl) dX7_keep_10 (fun H locs hP hS => ?_)
  refine lv_aload_n (pc := 13) hx hb dX7_keep_13 rfl (lv_at hl 0 rfl) ?_
  refine lv_aload_n (pc := 14) hx hb dX7_keep_14 rfl (lv_at hl 0 rfl) ?_
  refine zr_getI (pc := 15) cx lk_X7_24 hP nC_44 sC_44 rfl dX7_keep_15 ?_
  refine lv_iconst (pc := 18) hx hb dX7_keep_18 zc_1 ?_
  refine lv_iadd (pc := 19) hx hb dX7_keep_19 ?_
  refine lv_bipush (pc := 20) hx hb dX7_keep_20 zb_8 ?_
  obtain ⟨g4, h⟩ := zGd_e h
  refine lv_irem (pc := 22) hx hb dX7_keep_22 (by simpa using g4) ?_
  obtain ⟨S5, eS5, h⟩ := zLt_e h
  refine zr_putI (pc := 23) cx lq_X7_24 hq hP hS nC_44 sC_44 rfl rfl rfl dX7_keep_23 (fun H locs hP hS => ?_)
  rw [← eS5] at hP
  refine lv_aload_n (pc := 26) hx hb dX7_keep_26 rfl (lv_at hl 0 rfl) ?_
  refine lv_bipush (pc := 27) hx hb dX7_keep_27 zb_8 ?_
  refine lv_aload_n (pc := 29) hx hb dX7_keep_29 rfl (lv_at hl 0 rfl) ?_
  refine zr_getI (pc := 30) cx lk_X7_20 hP nC_44 sC_44 rfl dX7_keep_30 ?_
  refine lv_iconst (pc := 33) hx hb dX7_keep_33 zc_1 ?_
  refine lv_iadd (pc := 34) hx hb dX7_keep_34 ?_
  refine zr_min (pc := 35) cx lb_X7_31 ⟨Nat.le_of_ble_eq_true rfl, Nat.le_of_ble_eq_true rfl, Nat.le_of_ble_eq_true rfl, Nat.le_of_ble_eq_true rfl⟩ hl.1 dX7_keep_35 ?_
  obtain ⟨S6, eS6, h⟩ := zLt_e h
  refine zr_putI (pc := 38) cx lq_X7_20 hq hP hS nC_44 sC_44 rfl rfl rfl dX7_keep_38 (fun H locs hP hS => ?_)
  rw [← eS6] at hP
  have hz := Option.some.inj h
  exact zr_rqV (pc := 41) cx hr hlk hP hS hz dX7_keep_41
