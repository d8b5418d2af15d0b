theorem wd_9 : (Jvm.Cond.initialized "ParlourLeaves$Past") ∈ zTB := List.mem_filter.mpr ⟨List.mem_append_right _ (List.mem_append_left _ (List.mem_of_getElem? (i := 9) rfl)), rfl⟩
theorem wd_14 : (Jvm.Cond.initialized "ParlourLeaves$Foresight") ∈ zTB := List.mem_filter.mpr ⟨List.mem_append_right _ (List.mem_append_left _ (List.mem_of_getElem? (i := 14) rfl)), rfl⟩
theorem wd_16 : (Jvm.Cond.initialized "ParlourLeaves$Draws") ∈ zTB := List.mem_filter.mpr ⟨List.mem_append_right _ (List.mem_append_left _ (List.mem_of_getElem? (i := 16) rfl)), rfl⟩
theorem wd_95 : (Jvm.Cond.fieldLink "ParlourLeaves" (114 : Nat) "ParlourLeaves$Tape" "length" "I") ∈ zTB := List.mem_filter.mpr ⟨List.mem_append_right _ (List.mem_append_left _ (List.mem_of_getElem? (i := 95) rfl)), rfl⟩
theorem wd_114 : (Jvm.Cond.fieldLink "ParlourLeaves" (128 : Nat) "ParlourLeaves$Tape" "faultPlace" "I") ∈ zTB := List.mem_filter.mpr ⟨List.mem_append_right _ (List.mem_append_left _ (List.mem_of_getElem? (i := 114) rfl)), rfl⟩
theorem wd_147 : (Jvm.Cond.fieldLink "ParlourLeaves$House" (9 : Nat) "ParlourLeaves$House" "size" "[I") ∈ zTB := List.mem_filter.mpr ⟨List.mem_append_right _ (List.mem_append_left _ (List.mem_of_getElem? (i := 147) rfl)), rfl⟩
theorem wd_149 : (Jvm.Cond.fieldLink "ParlourLeaves$Draws" (32 : Nat) "ParlourLeaves$House" "size" "[I") ∈ zTB := List.mem_filter.mpr ⟨List.mem_append_right _ (List.mem_append_left _ (List.mem_of_getElem? (i := 149) rfl)), rfl⟩
theorem wd_150 : (Jvm.Cond.fieldLink "ParlourLeaves$Foresight" (63 : Nat) "ParlourLeaves$House" "size" "[I") ∈ zTB := List.mem_filter.mpr ⟨List.mem_append_right _ (List.mem_append_left _ (List.mem_of_getElem? (i := 150) rfl)), rfl⟩
theorem wd_153 : (Jvm.Cond.fieldLink "ParlourLeaves" (312 : Nat) "ParlourLeaves$House" "size" "[I") ∈ zTB := List.mem_filter.mpr ⟨List.mem_append_right _ (List.mem_append_left _ (List.mem_of_getElem? (i := 153) rfl)), rfl⟩
theorem wd_178 : (Jvm.Cond.fieldLink "ParlourLeaves$Foresight" (74 : Nat) "ParlourLeaves$House" "dusty" "I") ∈ zTB := List.mem_filter.mpr ⟨List.mem_append_right _ (List.mem_append_left _ (List.mem_of_getElem? (i := 178) rfl)), rfl⟩
theorem wd_181 : (Jvm.Cond.fieldLink "ParlourLeaves" (403 : Nat) "ParlourLeaves$House" "dusty" "I") ∈ zTB := List.mem_filter.mpr ⟨List.mem_append_right _ (List.mem_append_left _ (List.mem_of_getElem? (i := 181) rfl)), rfl⟩
theorem wd_186 : (Jvm.Cond.fieldLink "ParlourLeaves" (406 : Nat) "ParlourLeaves$House" "proof" "I") ∈ zTB := List.mem_filter.mpr ⟨List.mem_append_right _ (List.mem_append_left _ (List.mem_of_getElem? (i := 186) rfl)), rfl⟩
theorem wd_222 : (Jvm.Cond.fieldLink "ParlourLeaves$Draws" (28 : Nat) "ParlourLeaves$Life" "house" "LParlourLeaves$House;") ∈ zTB := List.mem_filter.mpr ⟨List.mem_append_right _ (List.mem_append_left _ (List.mem_of_getElem? (i := 222) rfl)), rfl⟩
theorem wd_240 : (Jvm.Cond.fieldLink "ParlourLeaves" (213 : Nat) "ParlourLeaves$Life" "leafDay" "[[I") ∈ zTB := List.mem_filter.mpr ⟨List.mem_append_right _ (List.mem_append_right _ (List.mem_append_left _ (List.mem_of_getElem? (i := 0) rfl))), rfl⟩
theorem wd_244 : (Jvm.Cond.fieldLink "ParlourLeaves$Foresight" (116 : Nat) "ParlourLeaves$Life" "at" "[I") ∈ zTB := List.mem_filter.mpr ⟨List.mem_append_right _ (List.mem_append_right _ (List.mem_append_left _ (List.mem_of_getElem? (i := 4) rfl))), rfl⟩
theorem wd_247 : (Jvm.Cond.fieldLink "ParlourLeaves$Foresight" (77 : Nat) "ParlourLeaves$Life" "dust" "[I") ∈ zTB := List.mem_filter.mpr ⟨List.mem_append_right _ (List.mem_append_right _ (List.mem_append_left _ (List.mem_of_getElem? (i := 7) rfl))), rfl⟩
theorem wd_382 : (Jvm.Cond.fieldLink "ParlourLeaves" (368 : Nat) "ParlourLeaves$BookText" "why" "I") ∈ zTB := List.mem_filter.mpr ⟨List.mem_append_right _ (List.mem_append_right _ (List.mem_append_left _ (List.mem_of_getElem? (i := 142) rfl))), rfl⟩
theorem wd_384 : (Jvm.Cond.fieldLink "ParlourLeaves" (365 : Nat) "ParlourLeaves$BookText" "right" "I") ∈ zTB := List.mem_filter.mpr ⟨List.mem_append_right _ (List.mem_append_right _ (List.mem_append_left _ (List.mem_of_getElem? (i := 144) rfl))), rfl⟩
theorem wd_420 : (Jvm.Cond.fieldLink "ParlourLeaves$Foresight" (21 : Nat) "ParlourLeaves$Foresight" "house" "LParlourLeaves$House;") ∈ zTB := List.mem_filter.mpr ⟨List.mem_append_right _ (List.mem_append_right _ (List.mem_append_left _ (List.mem_of_getElem? (i := 180) rfl))), rfl⟩
theorem wd_421 : (Jvm.Cond.fieldLink "ParlourLeaves$Foresight" (25 : Nat) "ParlourLeaves$Foresight" "life" "LParlourLeaves$Life;") ∈ zTB := List.mem_filter.mpr ⟨List.mem_append_right _ (List.mem_append_right _ (List.mem_append_left _ (List.mem_of_getElem? (i := 181) rfl))), rfl⟩
theorem wd_422 : (Jvm.Cond.fieldLink "ParlourLeaves$Foresight" (9 : Nat) "ParlourLeaves$Foresight" "maidsPlant" "I") ∈ zTB := List.mem_filter.mpr ⟨List.mem_append_right _ (List.mem_append_right _ (List.mem_append_left _ (List.mem_of_getElem? (i := 182) rfl))), rfl⟩
theorem wd_423 : (Jvm.Cond.fieldLink "ParlourLeaves" (318 : Nat) "ParlourLeaves$Foresight" "maidsPlant" "I") ∈ zTB := List.mem_filter.mpr ⟨List.mem_append_right _ (List.mem_append_right _ (List.mem_append_left _ (List.mem_of_getElem? (i := 183) rfl))), rfl⟩
theorem wd_424 : (Jvm.Cond.fieldLink "ParlourLeaves$Foresight" (15 : Nat) "ParlourLeaves$Foresight" "maidsParlour" "I") ∈ zTB := List.mem_filter.mpr ⟨List.mem_append_right _ (List.mem_append_right _ (List.mem_append_left _ (List.mem_of_getElem? (i := 184) rfl))), rfl⟩
theorem wd_425 : (Jvm.Cond.fieldLink "ParlourLeaves" (321 : Nat) "ParlourLeaves$Foresight" "maidsParlour" "I") ∈ zTB := List.mem_filter.mpr ⟨List.mem_append_right _ (List.mem_append_right _ (List.mem_append_left _ (List.mem_of_getElem? (i := 185) rfl))), rfl⟩
theorem wd_426 : (Jvm.Cond.fieldLink "ParlourLeaves$Foresight" (18 : Nat) "ParlourLeaves$Foresight" "familysParlour" "I") ∈ zTB := List.mem_filter.mpr ⟨List.mem_append_right _ (List.mem_append_right _ (List.mem_append_left _ (List.mem_of_getElem? (i := 186) rfl))), rfl⟩
theorem wd_427 : (Jvm.Cond.fieldLink "ParlourLeaves" (324 : Nat) "ParlourLeaves$Foresight" "familysParlour" "I") ∈ zTB := List.mem_filter.mpr ⟨List.mem_append_right _ (List.mem_append_right _ (List.mem_append_left _ (List.mem_of_getElem? (i := 187) rfl))), rfl⟩
theorem wd_428 : (Jvm.Cond.laysFinal "ParlourLeaves$Foresight" "ParlourLeaves$Foresight" "house" "LParlourLeaves$House;") ∈ zTB := List.mem_filter.mpr ⟨List.mem_append_right _ (List.mem_append_right _ (List.mem_append_left _ (List.mem_of_getElem? (i := 188) rfl))), rfl⟩
theorem wd_430 : (Jvm.Cond.laysFinal "ParlourLeaves$Foresight" "ParlourLeaves$Foresight" "life" "LParlourLeaves$Life;") ∈ zTB := List.mem_filter.mpr ⟨List.mem_append_right _ (List.mem_append_right _ (List.mem_append_left _ (List.mem_of_getElem? (i := 190) rfl))), rfl⟩
theorem wd_432 : (Jvm.Cond.lays "ParlourLeaves$Foresight" "ParlourLeaves$Foresight" "maidsPlant" "I") ∈ zTB := List.mem_filter.mpr ⟨List.mem_append_right _ (List.mem_append_right _ (List.mem_append_left _ (List.mem_of_getElem? (i := 192) rfl))), rfl⟩
theorem wd_434 : (Jvm.Cond.lays "ParlourLeaves$Foresight" "ParlourLeaves$Foresight" "maidsParlour" "I") ∈ zTB := List.mem_filter.mpr ⟨List.mem_append_right _ (List.mem_append_right _ (List.mem_append_left _ (List.mem_of_getElem? (i := 194) rfl))), rfl⟩
theorem wd_436 : (Jvm.Cond.lays "ParlourLeaves$Foresight" "ParlourLeaves$Foresight" "familysParlour" "I") ∈ zTB := List.mem_filter.mpr ⟨List.mem_append_right _ (List.mem_append_right _ (List.mem_append_left _ (List.mem_of_getElem? (i := 196) rfl))), rfl⟩
theorem wd_470 : (Jvm.Cond.fieldLink "ParlourLeaves$Draws" (9 : Nat) "ParlourLeaves$Draws" "x" "I") ∈ zTB := List.mem_filter.mpr ⟨List.mem_append_right _ (List.mem_append_right _ (List.mem_append_left _ (List.mem_of_getElem? (i := 230) rfl))), rfl⟩
theorem wd_471 : (Jvm.Cond.lays "ParlourLeaves$Draws" "ParlourLeaves$Draws" "x" "I") ∈ zTB := List.mem_filter.mpr ⟨List.mem_append_right _ (List.mem_append_right _ (List.mem_append_left _ (List.mem_of_getElem? (i := 231) rfl))), rfl⟩
theorem wd_505 : (Jvm.Cond.fieldLink "ParlourLeaves" (19 : Nat) "ParlourLeaves" "house" "LParlourLeaves$House;") ∈ zTB := List.mem_filter.mpr ⟨List.mem_append_right _ (List.mem_append_right _ (List.mem_append_right _ (List.mem_append_left _ (List.mem_of_getElem? (i := 25) rfl)))), rfl⟩
theorem wd_506 : (Jvm.Cond.fieldLink "ParlourLeaves" (28 : Nat) "ParlourLeaves" "life" "LParlourLeaves$Life;") ∈ zTB := List.mem_filter.mpr ⟨List.mem_append_right _ (List.mem_append_right _ (List.mem_append_right _ (List.mem_append_left _ (List.mem_of_getElem? (i := 26) rfl)))), rfl⟩
theorem wd_507 : (Jvm.Cond.fieldLink "ParlourLeaves" (32 : Nat) "ParlourLeaves" "trial" "LParlourLeaves$Life;") ∈ zTB := List.mem_filter.mpr ⟨List.mem_append_right _ (List.mem_append_right _ (List.mem_append_right _ (List.mem_append_left _ (List.mem_of_getElem? (i := 27) rfl)))), rfl⟩
theorem wd_508 : (Jvm.Cond.fieldLink "ParlourLeaves" (38 : Nat) "ParlourLeaves" "past" "LParlourLeaves$Past;") ∈ zTB := List.mem_filter.mpr ⟨List.mem_append_right _ (List.mem_append_right _ (List.mem_append_right _ (List.mem_append_left _ (List.mem_of_getElem? (i := 28) rfl)))), rfl⟩
theorem wd_511 : (Jvm.Cond.fieldLink "ParlourLeaves" (63 : Nat) "ParlourLeaves" "bookText" "LParlourLeaves$BookText;") ∈ zTB := List.mem_filter.mpr ⟨List.mem_append_right _ (List.mem_append_right _ (List.mem_append_right _ (List.mem_append_left _ (List.mem_of_getElem? (i := 31) rfl)))), rfl⟩
theorem wd_514 : (Jvm.Cond.fieldLink "ParlourLeaves" (82 : Nat) "ParlourLeaves" "foresight" "LParlourLeaves$Foresight;") ∈ zTB := List.mem_filter.mpr ⟨List.mem_append_right _ (List.mem_append_right _ (List.mem_append_right _ (List.mem_append_left _ (List.mem_of_getElem? (i := 34) rfl)))), rfl⟩
theorem wd_516 : (Jvm.Cond.fieldLink "ParlourLeaves" (96 : Nat) "ParlourLeaves" "draws" "LParlourLeaves$Draws;") ∈ zTB := List.mem_filter.mpr ⟨List.mem_append_right _ (List.mem_append_right _ (List.mem_append_right _ (List.mem_append_left _ (List.mem_of_getElem? (i := 36) rfl)))), rfl⟩
theorem wd_520 : (Jvm.Cond.fieldLink "ParlourLeaves" (111 : Nat) "ParlourLeaves" "covered" "I") ∈ zTB := List.mem_filter.mpr ⟨List.mem_append_right _ (List.mem_append_right _ (List.mem_append_right _ (List.mem_append_left _ (List.mem_of_getElem? (i := 40) rfl)))), rfl⟩
theorem wd_664 : (Jvm.Cond.methodLink "ParlourLeaves" (125 : Nat) ({ cls := "ParlourLeaves", name := "endReading", desc := "()V" } : Jvm.MethodName)) ∈ zTB := List.mem_filter.mpr ⟨List.mem_append_right _ (List.mem_append_right _ (List.mem_append_right _ (List.mem_append_left _ (List.mem_of_getElem? (i := 184) rfl)))), rfl⟩
theorem wd_666 : (Jvm.Cond.instanceMethod ({ cls := "ParlourLeaves", name := "endReading", desc := "()V" } : Jvm.MethodName)) ∈ zTB := List.mem_filter.mpr ⟨List.mem_append_right _ (List.mem_append_right _ (List.mem_append_right _ (List.mem_append_left _ (List.mem_of_getElem? (i := 186) rfl)))), rfl⟩
theorem wd_667 : (Jvm.Cond.code ({ cls := "ParlourLeaves", name := "endReading", desc := "()V" } : Jvm.MethodName) prog_1_method_40_code (1 : Nat) (Option.none : Option Jvm.ClassFile.FieldType)) ∈ zTB := List.mem_filter.mpr ⟨List.mem_append_right _ (List.mem_append_right _ (List.mem_append_right _ (List.mem_append_left _ (List.mem_of_getElem? (i := 187) rfl)))), rfl⟩
theorem wd_699 : (Jvm.Cond.methodLink "ParlourLeaves" (149 : Nat) ({ cls := "ParlourLeaves$House", name := "has", desc := "(II)Z" } : Jvm.MethodName)) ∈ zTB := List.mem_filter.mpr ⟨List.mem_append_right _ (List.mem_append_right _ (List.mem_append_right _ (List.mem_append_left _ (List.mem_of_getElem? (i := 219) rfl)))), rfl⟩
theorem wd_700 : (Jvm.Cond.instanceMethod ({ cls := "ParlourLeaves$House", name := "has", desc := "(II)Z" } : Jvm.MethodName)) ∈ zTB := List.mem_filter.mpr ⟨List.mem_append_right _ (List.mem_append_right _ (List.mem_append_right _ (List.mem_append_left _ (List.mem_of_getElem? (i := 220) rfl)))), rfl⟩
theorem wd_701 : (Jvm.Cond.selects "ParlourLeaves$House" ({ cls := "ParlourLeaves$House", name := "has", desc := "(II)Z" } : Jvm.MethodName) ({ cls := "ParlourLeaves$House", name := "has", desc := "(II)Z" } : Jvm.MethodName)) ∈ zTB := List.mem_filter.mpr ⟨List.mem_append_right _ (List.mem_append_right _ (List.mem_append_right _ (List.mem_append_left _ (List.mem_of_getElem? (i := 221) rfl)))), rfl⟩
theorem wd_702 : (Jvm.Cond.code ({ cls := "ParlourLeaves$House", name := "has", desc := "(II)Z" } : Jvm.MethodName) prog_5_method_4_code (3 : Nat) (Option.some Jvm.ClassFile.FieldType.boolean)) ∈ zTB := List.mem_filter.mpr ⟨List.mem_append_right _ (List.mem_append_right _ (List.mem_append_right _ (List.mem_append_left _ (List.mem_of_getElem? (i := 222) rfl)))), rfl⟩
theorem wd_703 : (Jvm.Cond.methodLink "ParlourLeaves" (184 : Nat) ({ cls := "ParlourLeaves$Life", name := "hasAct", desc := "(I)Z" } : Jvm.MethodName)) ∈ zTB := List.mem_filter.mpr ⟨List.mem_append_right _ (List.mem_append_right _ (List.mem_append_right _ (List.mem_append_left _ (List.mem_of_getElem? (i := 223) rfl)))), rfl⟩
theorem wd_704 : (Jvm.Cond.instanceMethod ({ cls := "ParlourLeaves$Life", name := "hasAct", desc := "(I)Z" } : Jvm.MethodName)) ∈ zTB := List.mem_filter.mpr ⟨List.mem_append_right _ (List.mem_append_right _ (List.mem_append_right _ (List.mem_append_left _ (List.mem_of_getElem? (i := 224) rfl)))), rfl⟩
theorem wd_705 : (Jvm.Cond.selects "ParlourLeaves$Life" ({ cls := "ParlourLeaves$Life", name := "hasAct", desc := "(I)Z" } : Jvm.MethodName) ({ cls := "ParlourLeaves$Life", name := "hasAct", desc := "(I)Z" } : Jvm.MethodName)) ∈ zTB := List.mem_filter.mpr ⟨List.mem_append_right _ (List.mem_append_right _ (List.mem_append_right _ (List.mem_append_left _ (List.mem_of_getElem? (i := 225) rfl)))), rfl⟩
theorem wd_706 : (Jvm.Cond.code ({ cls := "ParlourLeaves$Life", name := "hasAct", desc := "(I)Z" } : Jvm.MethodName) prog_8_method_4_code (2 : Nat) (Option.some Jvm.ClassFile.FieldType.boolean)) ∈ zTB := List.mem_filter.mpr ⟨List.mem_append_right _ (List.mem_append_right _ (List.mem_append_right _ (List.mem_append_left _ (List.mem_of_getElem? (i := 226) rfl)))), rfl⟩
theorem wd_778 : (Jvm.Cond.static ({ cls := "ParlourLeaves", name := "allBits", desc := "(I)I" } : Jvm.MethodName)) ∈ zTB := List.mem_filter.mpr ⟨List.mem_append_right _ (List.mem_append_right _ (List.mem_append_right _ (List.mem_append_right _ (List.mem_append_left _ (List.mem_of_getElem? (i := 58) rfl))))), rfl⟩
theorem wd_779 : (Jvm.Cond.code ({ cls := "ParlourLeaves", name := "allBits", desc := "(I)I" } : Jvm.MethodName) prog_1_method_42_code (1 : Nat) (Option.some Jvm.ClassFile.FieldType.int)) ∈ zTB := List.mem_filter.mpr ⟨List.mem_append_right _ (List.mem_append_right _ (List.mem_append_right _ (List.mem_append_right _ (List.mem_append_left _ (List.mem_of_getElem? (i := 59) rfl))))), rfl⟩
theorem wd_784 : (Jvm.Cond.methodLink "ParlourLeaves" (241 : Nat) ({ cls := "ParlourLeaves$Life", name := "whyNotDo", desc := "()I" } : Jvm.MethodName)) ∈ zTB := List.mem_filter.mpr ⟨List.mem_append_right _ (List.mem_append_right _ (List.mem_append_right _ (List.mem_append_right _ (List.mem_append_left _ (List.mem_of_getElem? (i := 64) rfl))))), rfl⟩
theorem wd_788 : (Jvm.Cond.methodLink "ParlourLeaves" (244 : Nat) ({ cls := "ParlourLeaves$Past", name := "keep", desc := "(LParlourLeaves$Life;)V" } : Jvm.MethodName)) ∈ zTB := List.mem_filter.mpr ⟨List.mem_append_right _ (List.mem_append_right _ (List.mem_append_right _ (List.mem_append_right _ (List.mem_append_left _ (List.mem_of_getElem? (i := 68) rfl))))), rfl⟩
theorem wd_789 : (Jvm.Cond.instanceMethod ({ cls := "ParlourLeaves$Past", name := "keep", desc := "(LParlourLeaves$Life;)V" } : Jvm.MethodName)) ∈ zTB := List.mem_filter.mpr ⟨List.mem_append_right _ (List.mem_append_right _ (List.mem_append_right _ (List.mem_append_right _ (List.mem_append_left _ (List.mem_of_getElem? (i := 69) rfl))))), rfl⟩
theorem wd_790 : (Jvm.Cond.selects "ParlourLeaves$Past" ({ cls := "ParlourLeaves$Past", name := "keep", desc := "(LParlourLeaves$Life;)V" } : Jvm.MethodName) ({ cls := "ParlourLeaves$Past", name := "keep", desc := "(LParlourLeaves$Life;)V" } : Jvm.MethodName)) ∈ zTB := List.mem_filter.mpr ⟨List.mem_append_right _ (List.mem_append_right _ (List.mem_append_right _ (List.mem_append_right _ (List.mem_append_left _ (List.mem_of_getElem? (i := 70) rfl))))), rfl⟩
theorem wd_791 : (Jvm.Cond.code ({ cls := "ParlourLeaves$Past", name := "keep", desc := "(LParlourLeaves$Life;)V" } : Jvm.MethodName) prog_9_method_3_code (2 : Nat) (Option.none : Option Jvm.ClassFile.FieldType)) ∈ zTB := List.mem_filter.mpr ⟨List.mem_append_right _ (List.mem_append_right _ (List.mem_append_right _ (List.mem_append_right _ (List.mem_append_left _ (List.mem_of_getElem? (i := 71) rfl))))), rfl⟩
theorem wd_798 : (Jvm.Cond.methodLink "ParlourLeaves" (248 : Nat) ({ cls := "ParlourLeaves$Life", name := "doDeed", desc := "(III)V" } : Jvm.MethodName)) ∈ zTB := List.mem_filter.mpr ⟨List.mem_append_right _ (List.mem_append_right _ (List.mem_append_right _ (List.mem_append_right _ (List.mem_append_left _ (List.mem_of_getElem? (i := 78) rfl))))), rfl⟩
theorem wd_826 : (Jvm.Cond.methodLink "ParlourLeaves" (258 : Nat) ({ cls := "ParlourLeaves$Life", name := "whyNotCarry", desc := "(II)I" } : Jvm.MethodName)) ∈ zTB := List.mem_filter.mpr ⟨List.mem_append_right _ (List.mem_append_right _ (List.mem_append_right _ (List.mem_append_right _ (List.mem_append_left _ (List.mem_of_getElem? (i := 106) rfl))))), rfl⟩
theorem wd_830 : (Jvm.Cond.methodLink "ParlourLeaves" (261 : Nat) ({ cls := "ParlourLeaves$Life", name := "carryTo", desc := "(II)V" } : Jvm.MethodName)) ∈ zTB := List.mem_filter.mpr ⟨List.mem_append_right _ (List.mem_append_right _ (List.mem_append_right _ (List.mem_append_right _ (List.mem_append_left _ (List.mem_of_getElem? (i := 110) rfl))))), rfl⟩
theorem wd_838 : (Jvm.Cond.methodLink "ParlourLeaves" (265 : Nat) ({ cls := "ParlourLeaves$Life", name := "daysLeft", desc := "()I" } : Jvm.MethodName)) ∈ zTB := List.mem_filter.mpr ⟨List.mem_append_right _ (List.mem_append_right _ (List.mem_append_right _ (List.mem_append_right _ (List.mem_append_left _ (List.mem_of_getElem? (i := 118) rfl))))), rfl⟩
theorem wd_842 : (Jvm.Cond.methodLink "ParlourLeaves" (268 : Nat) ({ cls := "ParlourLeaves$Life", name := "goDays", desc := "(I)I" } : Jvm.MethodName)) ∈ zTB := List.mem_filter.mpr ⟨List.mem_append_right _ (List.mem_append_right _ (List.mem_append_right _ (List.mem_append_right _ (List.mem_append_left _ (List.mem_of_getElem? (i := 122) rfl))))), rfl⟩
theorem wd_876 : (Jvm.Cond.methodLink "ParlourLeaves$Foresight" (29 : Nat) ({ cls := "ParlourLeaves$Life", name := "plants", desc := "()I" } : Jvm.MethodName)) ∈ zTB := List.mem_filter.mpr ⟨List.mem_append_right _ (List.mem_append_right _ (List.mem_append_right _ (List.mem_append_right _ (List.mem_append_left _ (List.mem_of_getElem? (i := 156) rfl))))), rfl⟩
theorem wd_878 : (Jvm.Cond.methodLink "ParlourLeaves$Foresight" (43 : Nat) ({ cls := "java/lang/Integer", name := "bitCount", desc := "(I)I" } : Jvm.MethodName)) ∈ zTB := List.mem_filter.mpr ⟨List.mem_append_right _ (List.mem_append_right _ (List.mem_append_right _ (List.mem_append_right _ (List.mem_append_left _ (List.mem_of_getElem? (i := 158) rfl))))), rfl⟩
theorem wd_888 : (Jvm.Cond.methodLink "ParlourLeaves$Foresight" (60 : Nat) ({ cls := "ParlourLeaves$Life", name := "seenBy", desc := "(I)I" } : Jvm.MethodName)) ∈ zTB := List.mem_filter.mpr ⟨List.mem_append_right _ (List.mem_append_right _ (List.mem_append_right _ (List.mem_append_right _ (List.mem_append_left _ (List.mem_of_getElem? (i := 168) rfl))))), rfl⟩
theorem wd_894 : (Jvm.Cond.methodLink "ParlourLeaves" (287 : Nat) ({ cls := "ParlourLeaves$Foresight", name := "daysTillDark", desc := "(I)I" } : Jvm.MethodName)) ∈ zTB := List.mem_filter.mpr ⟨List.mem_append_right _ (List.mem_append_right _ (List.mem_append_right _ (List.mem_append_right _ (List.mem_append_left _ (List.mem_of_getElem? (i := 174) rfl))))), rfl⟩
theorem wd_895 : (Jvm.Cond.instanceMethod ({ cls := "ParlourLeaves$Foresight", name := "daysTillDark", desc := "(I)I" } : Jvm.MethodName)) ∈ zTB := List.mem_filter.mpr ⟨List.mem_append_right _ (List.mem_append_right _ (List.mem_append_right _ (List.mem_append_right _ (List.mem_append_left _ (List.mem_of_getElem? (i := 175) rfl))))), rfl⟩
theorem wd_896 : (Jvm.Cond.selects "ParlourLeaves$Foresight" ({ cls := "ParlourLeaves$Foresight", name := "daysTillDark", desc := "(I)I" } : Jvm.MethodName) ({ cls := "ParlourLeaves$Foresight", name := "daysTillDark", desc := "(I)I" } : Jvm.MethodName)) ∈ zTB := List.mem_filter.mpr ⟨List.mem_append_right _ (List.mem_append_right _ (List.mem_append_right _ (List.mem_append_right _ (List.mem_append_left _ (List.mem_of_getElem? (i := 176) rfl))))), rfl⟩
theorem wd_897 : (Jvm.Cond.code ({ cls := "ParlourLeaves$Foresight", name := "daysTillDark", desc := "(I)I" } : Jvm.MethodName) prog_4_method_4_code (4 : Nat) (Option.some Jvm.ClassFile.FieldType.int)) ∈ zTB := List.mem_filter.mpr ⟨List.mem_append_right _ (List.mem_append_right _ (List.mem_append_right _ (List.mem_append_right _ (List.mem_append_left _ (List.mem_of_getElem? (i := 177) rfl))))), rfl⟩
theorem wd_899 : (Jvm.Cond.methodLink "ParlourLeaves$Foresight" (80 : Nat) ({ cls := "java/lang/Math", name := "max", desc := "(II)I" } : Jvm.MethodName)) ∈ zTB := List.mem_filter.mpr ⟨List.mem_append_right _ (List.mem_append_right _ (List.mem_append_right _ (List.mem_append_right _ (List.mem_append_left _ (List.mem_of_getElem? (i := 179) rfl))))), rfl⟩
theorem wd_900 : (Jvm.Cond.methodLink "ParlourLeaves$Foresight" (85 : Nat) ({ cls := "ParlourLeaves$Life", name := "daysLeft", desc := "()I" } : Jvm.MethodName)) ∈ zTB := List.mem_filter.mpr ⟨List.mem_append_right _ (List.mem_append_right _ (List.mem_append_right _ (List.mem_append_right _ (List.mem_append_left _ (List.mem_of_getElem? (i := 180) rfl))))), rfl⟩
theorem wd_925 : (Jvm.Cond.methodLink "ParlourLeaves" (298 : Nat) ({ cls := "ParlourLeaves$Foresight", name := "leastCover", desc := "()I" } : Jvm.MethodName)) ∈ zTB := List.mem_filter.mpr ⟨List.mem_append_right _ (List.mem_append_right _ (List.mem_append_right _ (List.mem_append_right _ (List.mem_append_left _ (List.mem_of_getElem? (i := 205) rfl))))), rfl⟩
theorem wd_926 : (Jvm.Cond.instanceMethod ({ cls := "ParlourLeaves$Foresight", name := "leastCover", desc := "()I" } : Jvm.MethodName)) ∈ zTB := List.mem_filter.mpr ⟨List.mem_append_right _ (List.mem_append_right _ (List.mem_append_right _ (List.mem_append_right _ (List.mem_append_left _ (List.mem_of_getElem? (i := 206) rfl))))), rfl⟩
theorem wd_927 : (Jvm.Cond.selects "ParlourLeaves$Foresight" ({ cls := "ParlourLeaves$Foresight", name := "leastCover", desc := "()I" } : Jvm.MethodName) ({ cls := "ParlourLeaves$Foresight", name := "leastCover", desc := "()I" } : Jvm.MethodName)) ∈ zTB := List.mem_filter.mpr ⟨List.mem_append_right _ (List.mem_append_right _ (List.mem_append_right _ (List.mem_append_right _ (List.mem_append_left _ (List.mem_of_getElem? (i := 207) rfl))))), rfl⟩
theorem wd_928 : (Jvm.Cond.code ({ cls := "ParlourLeaves$Foresight", name := "leastCover", desc := "()I" } : Jvm.MethodName) prog_4_method_7_code (4 : Nat) (Option.some Jvm.ClassFile.FieldType.int)) ∈ zTB := List.mem_filter.mpr ⟨List.mem_append_right _ (List.mem_append_right _ (List.mem_append_right _ (List.mem_append_right _ (List.mem_append_left _ (List.mem_of_getElem? (i := 208) rfl))))), rfl⟩
theorem wd_929 : (Jvm.Cond.methodLink "ParlourLeaves$Foresight" (103 : Nat) ({ cls := "ParlourLeaves$Foresight", name := "reachOfAll", desc := "(I)I" } : Jvm.MethodName)) ∈ zTB := List.mem_filter.mpr ⟨List.mem_append_right _ (List.mem_append_right _ (List.mem_append_right _ (List.mem_append_right _ (List.mem_append_left _ (List.mem_of_getElem? (i := 209) rfl))))), rfl⟩
theorem wd_931 : (Jvm.Cond.instanceMethod ({ cls := "ParlourLeaves$Foresight", name := "reachOfAll", desc := "(I)I" } : Jvm.MethodName)) ∈ zTB := List.mem_filter.mpr ⟨List.mem_append_right _ (List.mem_append_right _ (List.mem_append_right _ (List.mem_append_right _ (List.mem_append_left _ (List.mem_of_getElem? (i := 211) rfl))))), rfl⟩
theorem wd_932 : (Jvm.Cond.code ({ cls := "ParlourLeaves$Foresight", name := "reachOfAll", desc := "(I)I" } : Jvm.MethodName) prog_4_method_8_code (4 : Nat) (Option.some Jvm.ClassFile.FieldType.int)) ∈ zTB := List.mem_filter.mpr ⟨List.mem_append_right _ (List.mem_append_right _ (List.mem_append_right _ (List.mem_append_right _ (List.mem_append_left _ (List.mem_of_getElem? (i := 212) rfl))))), rfl⟩
theorem wd_933 : (Jvm.Cond.methodLink "ParlourLeaves$Foresight" (106 : Nat) ({ cls := "ParlourLeaves$House", name := "reach", desc := "(I)I" } : Jvm.MethodName)) ∈ zTB := List.mem_filter.mpr ⟨List.mem_append_right _ (List.mem_append_right _ (List.mem_append_right _ (List.mem_append_right _ (List.mem_append_left _ (List.mem_of_getElem? (i := 213) rfl))))), rfl⟩
theorem wd_934 : (Jvm.Cond.methodLink "ParlourLeaves" (176 : Nat) ({ cls := "java/lang/Integer", name := "bitCount", desc := "(I)I" } : Jvm.MethodName)) ∈ zTB := List.mem_filter.mpr ⟨List.mem_append_right _ (List.mem_append_right _ (List.mem_append_right _ (List.mem_append_right _ (List.mem_append_left _ (List.mem_of_getElem? (i := 214) rfl))))), rfl⟩
theorem wd_967 : (Jvm.Cond.methodLink "ParlourLeaves" (315 : Nat) ({ cls := "ParlourLeaves$Foresight", name := "chooseByTurns", desc := "()I" } : Jvm.MethodName)) ∈ zTB := List.mem_filter.mpr ⟨List.mem_append_right _ (List.mem_append_right _ (List.mem_append_right _ (List.mem_append_right _ (List.mem_append_right _ (List.mem_append_left _ (List.mem_of_getElem? (i := 7) rfl)))))), rfl⟩
theorem wd_968 : (Jvm.Cond.instanceMethod ({ cls := "ParlourLeaves$Foresight", name := "chooseByTurns", desc := "()I" } : Jvm.MethodName)) ∈ zTB := List.mem_filter.mpr ⟨List.mem_append_right _ (List.mem_append_right _ (List.mem_append_right _ (List.mem_append_right _ (List.mem_append_right _ (List.mem_append_left _ (List.mem_of_getElem? (i := 8) rfl)))))), rfl⟩
theorem wd_969 : (Jvm.Cond.selects "ParlourLeaves$Foresight" ({ cls := "ParlourLeaves$Foresight", name := "chooseByTurns", desc := "()I" } : Jvm.MethodName) ({ cls := "ParlourLeaves$Foresight", name := "chooseByTurns", desc := "()I" } : Jvm.MethodName)) ∈ zTB := List.mem_filter.mpr ⟨List.mem_append_right _ (List.mem_append_right _ (List.mem_append_right _ (List.mem_append_right _ (List.mem_append_right _ (List.mem_append_left _ (List.mem_of_getElem? (i := 9) rfl)))))), rfl⟩
theorem wd_970 : (Jvm.Cond.code ({ cls := "ParlourLeaves$Foresight", name := "chooseByTurns", desc := "()I" } : Jvm.MethodName) prog_4_method_9_code (6 : Nat) (Option.some Jvm.ClassFile.FieldType.int)) ∈ zTB := List.mem_filter.mpr ⟨List.mem_append_right _ (List.mem_append_right _ (List.mem_append_right _ (List.mem_append_right _ (List.mem_append_right _ (List.mem_append_left _ (List.mem_of_getElem? (i := 10) rfl)))))), rfl⟩
theorem wd_971 : (Jvm.Cond.methodLink "ParlourLeaves$Foresight" (109 : Nat) ({ cls := "ParlourLeaves$Foresight", name := "familysAnswer", desc := "(II)I" } : Jvm.MethodName)) ∈ zTB := List.mem_filter.mpr ⟨List.mem_append_right _ (List.mem_append_right _ (List.mem_append_right _ (List.mem_append_right _ (List.mem_append_right _ (List.mem_append_left _ (List.mem_of_getElem? (i := 11) rfl)))))), rfl⟩
theorem wd_973 : (Jvm.Cond.instanceMethod ({ cls := "ParlourLeaves$Foresight", name := "familysAnswer", desc := "(II)I" } : Jvm.MethodName)) ∈ zTB := List.mem_filter.mpr ⟨List.mem_append_right _ (List.mem_append_right _ (List.mem_append_right _ (List.mem_append_right _ (List.mem_append_right _ (List.mem_append_left _ (List.mem_of_getElem? (i := 13) rfl)))))), rfl⟩
theorem wd_974 : (Jvm.Cond.code ({ cls := "ParlourLeaves$Foresight", name := "familysAnswer", desc := "(II)I" } : Jvm.MethodName) prog_4_method_10_code (5 : Nat) (Option.some Jvm.ClassFile.FieldType.int)) ∈ zTB := List.mem_filter.mpr ⟨List.mem_append_right _ (List.mem_append_right _ (List.mem_append_right _ (List.mem_append_right _ (List.mem_append_right _ (List.mem_append_left _ (List.mem_of_getElem? (i := 14) rfl)))))), rfl⟩
theorem wd_975 : (Jvm.Cond.methodLink "ParlourLeaves$Foresight" (112 : Nat) ({ cls := "ParlourLeaves$Foresight", name := "plantsSeeing", desc := "(III)I" } : Jvm.MethodName)) ∈ zTB := List.mem_filter.mpr ⟨List.mem_append_right _ (List.mem_append_right _ (List.mem_append_right _ (List.mem_append_right _ (List.mem_append_right _ (List.mem_append_left _ (List.mem_of_getElem? (i := 15) rfl)))))), rfl⟩
theorem wd_977 : (Jvm.Cond.instanceMethod ({ cls := "ParlourLeaves$Foresight", name := "plantsSeeing", desc := "(III)I" } : Jvm.MethodName)) ∈ zTB := List.mem_filter.mpr ⟨List.mem_append_right _ (List.mem_append_right _ (List.mem_append_right _ (List.mem_append_right _ (List.mem_append_right _ (List.mem_append_left _ (List.mem_of_getElem? (i := 17) rfl)))))), rfl⟩
theorem wd_978 : (Jvm.Cond.code ({ cls := "ParlourLeaves$Foresight", name := "plantsSeeing", desc := "(III)I" } : Jvm.MethodName) prog_4_method_11_code (7 : Nat) (Option.some Jvm.ClassFile.FieldType.int)) ∈ zTB := List.mem_filter.mpr ⟨List.mem_append_right _ (List.mem_append_right _ (List.mem_append_right _ (List.mem_append_right _ (List.mem_append_right _ (List.mem_append_left _ (List.mem_of_getElem? (i := 18) rfl)))))), rfl⟩
theorem wd_979 : (Jvm.Cond.methodLink "ParlourLeaves$Foresight" (119 : Nat) ({ cls := "ParlourLeaves$Life", name := "isBlind", desc := "(I)Z" } : Jvm.MethodName)) ∈ zTB := List.mem_filter.mpr ⟨List.mem_append_right _ (List.mem_append_right _ (List.mem_append_right _ (List.mem_append_right _ (List.mem_append_right _ (List.mem_append_left _ (List.mem_of_getElem? (i := 19) rfl)))))), rfl⟩
theorem wd_1180 : (Jvm.Cond.methodLink "ParlourLeaves" (353 : Nat) ({ cls := "ParlourLeaves$Draws", name := "liveDays", desc := "(LParlourLeaves$Life;II)I" } : Jvm.MethodName)) ∈ zTB := List.mem_filter.mpr ⟨List.mem_append_right _ (List.mem_append_right _ (List.mem_append_right _ (List.mem_append_right _ (List.mem_append_right _ (List.mem_append_left _ (List.mem_of_getElem? (i := 220) rfl)))))), rfl⟩
theorem wd_1181 : (Jvm.Cond.instanceMethod ({ cls := "ParlourLeaves$Draws", name := "liveDays", desc := "(LParlourLeaves$Life;II)I" } : Jvm.MethodName)) ∈ zTB := List.mem_filter.mpr ⟨List.mem_append_right _ (List.mem_append_right _ (List.mem_append_right _ (List.mem_append_right _ (List.mem_append_right _ (List.mem_append_left _ (List.mem_of_getElem? (i := 221) rfl)))))), rfl⟩
theorem wd_1182 : (Jvm.Cond.selects "ParlourLeaves$Draws" ({ cls := "ParlourLeaves$Draws", name := "liveDays", desc := "(LParlourLeaves$Life;II)I" } : Jvm.MethodName) ({ cls := "ParlourLeaves$Draws", name := "liveDays", desc := "(LParlourLeaves$Life;II)I" } : Jvm.MethodName)) ∈ zTB := List.mem_filter.mpr ⟨List.mem_append_right _ (List.mem_append_right _ (List.mem_append_right _ (List.mem_append_right _ (List.mem_append_right _ (List.mem_append_left _ (List.mem_of_getElem? (i := 222) rfl)))))), rfl⟩
theorem wd_1183 : (Jvm.Cond.code ({ cls := "ParlourLeaves$Draws", name := "liveDays", desc := "(LParlourLeaves$Life;II)I" } : Jvm.MethodName) prog_3_method_3_code (7 : Nat) (Option.some Jvm.ClassFile.FieldType.int)) ∈ zTB := List.mem_filter.mpr ⟨List.mem_append_right _ (List.mem_append_right _ (List.mem_append_right _ (List.mem_append_right _ (List.mem_append_right _ (List.mem_append_left _ (List.mem_of_getElem? (i := 223) rfl)))))), rfl⟩
theorem wd_1184 : (Jvm.Cond.methodLink "ParlourLeaves$Draws" (16 : Nat) ({ cls := "ParlourLeaves$Life", name := "daysLeft", desc := "()I" } : Jvm.MethodName)) ∈ zTB := List.mem_filter.mpr ⟨List.mem_append_right _ (List.mem_append_right _ (List.mem_append_right _ (List.mem_append_right _ (List.mem_append_right _ (List.mem_append_left _ (List.mem_of_getElem? (i := 224) rfl)))))), rfl⟩
theorem wd_1185 : (Jvm.Cond.methodLink "ParlourLeaves$Draws" (22 : Nat) ({ cls := "java/lang/Math", name := "min", desc := "(II)I" } : Jvm.MethodName)) ∈ zTB := List.mem_filter.mpr ⟨List.mem_append_right _ (List.mem_append_right _ (List.mem_append_right _ (List.mem_append_right _ (List.mem_append_right _ (List.mem_append_left _ (List.mem_of_getElem? (i := 225) rfl)))))), rfl⟩
theorem wd_1186 : (Jvm.Cond.methodLink "ParlourLeaves$Draws" (38 : Nat) ({ cls := "ParlourLeaves$Draws", name := "liveTurn", desc := "(LParlourLeaves$Life;I)V" } : Jvm.MethodName)) ∈ zTB := List.mem_filter.mpr ⟨List.mem_append_right _ (List.mem_append_right _ (List.mem_append_right _ (List.mem_append_right _ (List.mem_append_right _ (List.mem_append_left _ (List.mem_of_getElem? (i := 226) rfl)))))), rfl⟩
theorem wd_1188 : (Jvm.Cond.instanceMethod ({ cls := "ParlourLeaves$Draws", name := "liveTurn", desc := "(LParlourLeaves$Life;I)V" } : Jvm.MethodName)) ∈ zTB := List.mem_filter.mpr ⟨List.mem_append_right _ (List.mem_append_right _ (List.mem_append_right _ (List.mem_append_right _ (List.mem_append_right _ (List.mem_append_left _ (List.mem_of_getElem? (i := 228) rfl)))))), rfl⟩
theorem wd_1189 : (Jvm.Cond.code ({ cls := "ParlourLeaves$Draws", name := "liveTurn", desc := "(LParlourLeaves$Life;I)V" } : Jvm.MethodName) prog_3_method_4_code (6 : Nat) (Option.none : Option Jvm.ClassFile.FieldType)) ∈ zTB := List.mem_filter.mpr ⟨List.mem_append_right _ (List.mem_append_right _ (List.mem_append_right _ (List.mem_append_right _ (List.mem_append_right _ (List.mem_append_left _ (List.mem_of_getElem? (i := 229) rfl)))))), rfl⟩
theorem wd_1190 : (Jvm.Cond.methodLink "ParlourLeaves$Draws" (46 : Nat) ({ cls := "ParlourLeaves$Draws", name := "draw", desc := "(I)I" } : Jvm.MethodName)) ∈ zTB := List.mem_filter.mpr ⟨List.mem_append_right _ (List.mem_append_right _ (List.mem_append_right _ (List.mem_append_right _ (List.mem_append_right _ (List.mem_append_left _ (List.mem_of_getElem? (i := 230) rfl)))))), rfl⟩
theorem wd_1192 : (Jvm.Cond.instanceMethod ({ cls := "ParlourLeaves$Draws", name := "draw", desc := "(I)I" } : Jvm.MethodName)) ∈ zTB := List.mem_filter.mpr ⟨List.mem_append_right _ (List.mem_append_right _ (List.mem_append_right _ (List.mem_append_right _ (List.mem_append_right _ (List.mem_append_left _ (List.mem_of_getElem? (i := 232) rfl)))))), rfl⟩
theorem wd_1193 : (Jvm.Cond.code ({ cls := "ParlourLeaves$Draws", name := "draw", desc := "(I)I" } : Jvm.MethodName) prog_3_method_2_code (2 : Nat) (Option.some Jvm.ClassFile.FieldType.int)) ∈ zTB := List.mem_filter.mpr ⟨List.mem_append_right _ (List.mem_append_right _ (List.mem_append_right _ (List.mem_append_right _ (List.mem_append_right _ (List.mem_append_left _ (List.mem_of_getElem? (i := 233) rfl)))))), rfl⟩
theorem wd_1194 : (Jvm.Cond.constant "ParlourLeaves$Draws" (15 : Nat) (1103515245 : Int32)) ∈ zTB := List.mem_filter.mpr ⟨List.mem_append_right _ (List.mem_append_right _ (List.mem_append_right _ (List.mem_append_right _ (List.mem_append_right _ (List.mem_append_left _ (List.mem_of_getElem? (i := 234) rfl)))))), rfl⟩
theorem wd_1195 : (Jvm.Cond.methodLink "ParlourLeaves$Draws" (49 : Nat) ({ cls := "ParlourLeaves$Draws", name := "drawDeed", desc := "(LParlourLeaves$Life;III)V" } : Jvm.MethodName)) ∈ zTB := List.mem_filter.mpr ⟨List.mem_append_right _ (List.mem_append_right _ (List.mem_append_right _ (List.mem_append_right _ (List.mem_append_right _ (List.mem_append_left _ (List.mem_of_getElem? (i := 235) rfl)))))), rfl⟩
theorem wd_1196 : (Jvm.Cond.static ({ cls := "ParlourLeaves$Draws", name := "drawDeed", desc := "(LParlourLeaves$Life;III)V" } : Jvm.MethodName)) ∈ zTB := List.mem_filter.mpr ⟨List.mem_append_right _ (List.mem_append_right _ (List.mem_append_right _ (List.mem_append_right _ (List.mem_append_right _ (List.mem_append_left _ (List.mem_of_getElem? (i := 236) rfl)))))), rfl⟩
theorem wd_1197 : (Jvm.Cond.code ({ cls := "ParlourLeaves$Draws", name := "drawDeed", desc := "(LParlourLeaves$Life;III)V" } : Jvm.MethodName) prog_3_method_5_code (4 : Nat) (Option.none : Option Jvm.ClassFile.FieldType)) ∈ zTB := List.mem_filter.mpr ⟨List.mem_append_right _ (List.mem_append_right _ (List.mem_append_right _ (List.mem_append_right _ (List.mem_append_right _ (List.mem_append_left _ (List.mem_of_getElem? (i := 237) rfl)))))), rfl⟩
theorem wd_1198 : (Jvm.Cond.methodLink "ParlourLeaves$Draws" (64 : Nat) ({ cls := "ParlourLeaves$Life", name := "whyNotDo", desc := "()I" } : Jvm.MethodName)) ∈ zTB := List.mem_filter.mpr ⟨List.mem_append_right _ (List.mem_append_right _ (List.mem_append_right _ (List.mem_append_right _ (List.mem_append_right _ (List.mem_append_left _ (List.mem_of_getElem? (i := 238) rfl)))))), rfl⟩
theorem wd_1199 : (Jvm.Cond.methodLink "ParlourLeaves$Draws" (67 : Nat) ({ cls := "ParlourLeaves$Life", name := "doDeed", desc := "(III)V" } : Jvm.MethodName)) ∈ zTB := List.mem_filter.mpr ⟨List.mem_append_right _ (List.mem_append_right _ (List.mem_append_right _ (List.mem_append_right _ (List.mem_append_right _ (List.mem_append_left _ (List.mem_of_getElem? (i := 239) rfl)))))), rfl⟩
theorem wd_1200 : (Jvm.Cond.methodLink "ParlourLeaves$Draws" (53 : Nat) ({ cls := "ParlourLeaves$Life", name := "plants", desc := "()I" } : Jvm.MethodName)) ∈ zTB := List.mem_filter.mpr ⟨List.mem_append_right _ (List.mem_append_right _ (List.mem_append_right _ (List.mem_append_right _ (List.mem_append_right _ (List.mem_append_right _ (List.mem_append_left _ (List.mem_of_getElem? (i := 0) rfl))))))), rfl⟩
theorem wd_1201 : (Jvm.Cond.methodLink "ParlourLeaves$Draws" (56 : Nat) ({ cls := "ParlourLeaves$Life", name := "spongeOff", desc := "(I)V" } : Jvm.MethodName)) ∈ zTB := List.mem_filter.mpr ⟨List.mem_append_right _ (List.mem_append_right _ (List.mem_append_right _ (List.mem_append_right _ (List.mem_append_right _ (List.mem_append_right _ (List.mem_append_left _ (List.mem_of_getElem? (i := 1) rfl))))))), rfl⟩
theorem wd_1202 : (Jvm.Cond.methodLink "ParlourLeaves$Draws" (60 : Nat) ({ cls := "ParlourLeaves$Life", name := "carryTo", desc := "(II)V" } : Jvm.MethodName)) ∈ zTB := List.mem_filter.mpr ⟨List.mem_append_right _ (List.mem_append_right _ (List.mem_append_right _ (List.mem_append_right _ (List.mem_append_right _ (List.mem_append_right _ (List.mem_append_left _ (List.mem_of_getElem? (i := 2) rfl))))))), rfl⟩
theorem wd_1203 : (Jvm.Cond.methodLink "ParlourLeaves$Draws" (42 : Nat) ({ cls := "ParlourLeaves$Life", name := "goDays", desc := "(I)I" } : Jvm.MethodName)) ∈ zTB := List.mem_filter.mpr ⟨List.mem_append_right _ (List.mem_append_right _ (List.mem_append_right _ (List.mem_append_right _ (List.mem_append_right _ (List.mem_append_right _ (List.mem_append_left _ (List.mem_of_getElem? (i := 3) rfl))))))), rfl⟩
theorem wd_1208 : (Jvm.Cond.methodLink "ParlourLeaves" (357 : Nat) ({ cls := "ParlourLeaves$Life", name := "copyFrom", desc := "(LParlourLeaves$Life;)V" } : Jvm.MethodName)) ∈ zTB := List.mem_filter.mpr ⟨List.mem_append_right _ (List.mem_append_right _ (List.mem_append_right _ (List.mem_append_right _ (List.mem_append_right _ (List.mem_append_right _ (List.mem_append_left _ (List.mem_of_getElem? (i := 8) rfl))))))), rfl⟩
theorem wd_1213 : (Jvm.Cond.methodLink "ParlourLeaves" (359 : Nat) ({ cls := "ParlourLeaves$BookText", name := "readAll", desc := "()Z" } : Jvm.MethodName)) ∈ zTB := List.mem_filter.mpr ⟨List.mem_append_right _ (List.mem_append_right _ (List.mem_append_right _ (List.mem_append_right _ (List.mem_append_right _ (List.mem_append_right _ (List.mem_append_left _ (List.mem_of_getElem? (i := 13) rfl))))))), rfl⟩
theorem wd_1214 : (Jvm.Cond.instanceMethod ({ cls := "ParlourLeaves$BookText", name := "readAll", desc := "()Z" } : Jvm.MethodName)) ∈ zTB := List.mem_filter.mpr ⟨List.mem_append_right _ (List.mem_append_right _ (List.mem_append_right _ (List.mem_append_right _ (List.mem_append_right _ (List.mem_append_right _ (List.mem_append_left _ (List.mem_of_getElem? (i := 14) rfl))))))), rfl⟩
theorem wd_1215 : (Jvm.Cond.selects "ParlourLeaves$BookText" ({ cls := "ParlourLeaves$BookText", name := "readAll", desc := "()Z" } : Jvm.MethodName) ({ cls := "ParlourLeaves$BookText", name := "readAll", desc := "()Z" } : Jvm.MethodName)) ∈ zTB := List.mem_filter.mpr ⟨List.mem_append_right _ (List.mem_append_right _ (List.mem_append_right _ (List.mem_append_right _ (List.mem_append_right _ (List.mem_append_right _ (List.mem_append_left _ (List.mem_of_getElem? (i := 15) rfl))))))), rfl⟩
theorem wd_1216 : (Jvm.Cond.code ({ cls := "ParlourLeaves$BookText", name := "readAll", desc := "()Z" } : Jvm.MethodName) prog_2_method_2_code (2 : Nat) (Option.some Jvm.ClassFile.FieldType.boolean)) ∈ zTB := List.mem_filter.mpr ⟨List.mem_append_right _ (List.mem_append_right _ (List.mem_append_right _ (List.mem_append_right _ (List.mem_append_right _ (List.mem_append_right _ (List.mem_append_left _ (List.mem_of_getElem? (i := 16) rfl))))))), rfl⟩
theorem wd_1248 : (Jvm.Cond.methodLink "ParlourLeaves" (362 : Nat) ({ cls := "ParlourLeaves$BookText", name := "judge", desc := "(LParlourLeaves$Life;)V" } : Jvm.MethodName)) ∈ zTB := List.mem_filter.mpr ⟨List.mem_append_right _ (List.mem_append_right _ (List.mem_append_right _ (List.mem_append_right _ (List.mem_append_right _ (List.mem_append_right _ (List.mem_append_left _ (List.mem_of_getElem? (i := 48) rfl))))))), rfl⟩
theorem wd_1249 : (Jvm.Cond.instanceMethod ({ cls := "ParlourLeaves$BookText", name := "judge", desc := "(LParlourLeaves$Life;)V" } : Jvm.MethodName)) ∈ zTB := List.mem_filter.mpr ⟨List.mem_append_right _ (List.mem_append_right _ (List.mem_append_right _ (List.mem_append_right _ (List.mem_append_right _ (List.mem_append_right _ (List.mem_append_left _ (List.mem_of_getElem? (i := 49) rfl))))))), rfl⟩
theorem wd_1250 : (Jvm.Cond.selects "ParlourLeaves$BookText" ({ cls := "ParlourLeaves$BookText", name := "judge", desc := "(LParlourLeaves$Life;)V" } : Jvm.MethodName) ({ cls := "ParlourLeaves$BookText", name := "judge", desc := "(LParlourLeaves$Life;)V" } : Jvm.MethodName)) ∈ zTB := List.mem_filter.mpr ⟨List.mem_append_right _ (List.mem_append_right _ (List.mem_append_right _ (List.mem_append_right _ (List.mem_append_right _ (List.mem_append_right _ (List.mem_append_left _ (List.mem_of_getElem? (i := 50) rfl))))))), rfl⟩
theorem wd_1251 : (Jvm.Cond.code ({ cls := "ParlourLeaves$BookText", name := "judge", desc := "(LParlourLeaves$Life;)V" } : Jvm.MethodName) prog_2_method_9_code (3 : Nat) (Option.none : Option Jvm.ClassFile.FieldType)) ∈ zTB := List.mem_filter.mpr ⟨List.mem_append_right _ (List.mem_append_right _ (List.mem_append_right _ (List.mem_append_right _ (List.mem_append_right _ (List.mem_append_right _ (List.mem_append_left _ (List.mem_of_getElem? (i := 51) rfl))))))), rfl⟩
theorem wp_1_7 : Cond.selects "ParlourLeaves" (⟨"ParlourLeaves", "endReading", "()V"⟩ : MethodName) (⟨"ParlourLeaves", "endReading", "()V"⟩ : MethodName) ∈ zTB := List.mem_filter.mpr ⟨List.mem_append_left _ (List.mem_map.mpr ⟨((⟨"ParlourLeaves", "endReading", "()V"⟩ : MethodName), 17), (List.mem_append_left _ (List.mem_of_getElem? (i := 7) rfl)), rfl⟩), rfl⟩
theorem wp_1_13 : Cond.selects "ParlourLeaves$Draws" (⟨"ParlourLeaves$Draws", "draw", "(I)I"⟩ : MethodName) (⟨"ParlourLeaves$Draws", "draw", "(I)I"⟩ : MethodName) ∈ zTB := List.mem_filter.mpr ⟨List.mem_append_left _ (List.mem_map.mpr ⟨((⟨"ParlourLeaves$Draws", "draw", "(I)I"⟩ : MethodName), 1), (List.mem_append_left _ (List.mem_of_getElem? (i := 13) rfl)), rfl⟩), rfl⟩
theorem wp_1_12 : Cond.selects "ParlourLeaves$Draws" (⟨"ParlourLeaves$Draws", "liveTurn", "(LParlourLeaves$Life;I)V"⟩ : MethodName) (⟨"ParlourLeaves$Draws", "liveTurn", "(LParlourLeaves$Life;I)V"⟩ : MethodName) ∈ zTB := List.mem_filter.mpr ⟨List.mem_append_left _ (List.mem_map.mpr ⟨((⟨"ParlourLeaves$Draws", "liveTurn", "(LParlourLeaves$Life;I)V"⟩ : MethodName), 1), (List.mem_append_left _ (List.mem_of_getElem? (i := 12) rfl)), rfl⟩), rfl⟩
theorem wp_1_10 : Cond.selects "ParlourLeaves$Foresight" (⟨"ParlourLeaves$Foresight", "familysAnswer", "(II)I"⟩ : MethodName) (⟨"ParlourLeaves$Foresight", "familysAnswer", "(II)I"⟩ : MethodName) ∈ zTB := List.mem_filter.mpr ⟨List.mem_append_left _ (List.mem_map.mpr ⟨((⟨"ParlourLeaves$Foresight", "familysAnswer", "(II)I"⟩ : MethodName), 5), (List.mem_append_left _ (List.mem_of_getElem? (i := 10) rfl)), rfl⟩), rfl⟩
theorem wp_1_11 : Cond.selects "ParlourLeaves$Foresight" (⟨"ParlourLeaves$Foresight", "plantsSeeing", "(III)I"⟩ : MethodName) (⟨"ParlourLeaves$Foresight", "plantsSeeing", "(III)I"⟩ : MethodName) ∈ zTB := List.mem_filter.mpr ⟨List.mem_append_left _ (List.mem_map.mpr ⟨((⟨"ParlourLeaves$Foresight", "plantsSeeing", "(III)I"⟩ : MethodName), 5), (List.mem_append_left _ (List.mem_of_getElem? (i := 11) rfl)), rfl⟩), rfl⟩
theorem wp_1_8 : Cond.selects "ParlourLeaves$Foresight" (⟨"ParlourLeaves$Foresight", "reachOfAll", "(I)I"⟩ : MethodName) (⟨"ParlourLeaves$Foresight", "reachOfAll", "(I)I"⟩ : MethodName) ∈ zTB := List.mem_filter.mpr ⟨List.mem_append_left _ (List.mem_map.mpr ⟨((⟨"ParlourLeaves$Foresight", "reachOfAll", "(I)I"⟩ : MethodName), 5), (List.mem_append_left _ (List.mem_of_getElem? (i := 8) rfl)), rfl⟩), rfl⟩
theorem dn_X0_readAll : zDn yX0_readAll 0 := ⟨by decide, by decide, by decide +kernel⟩
theorem dn_X11_endReading : zDn yX11_endReading 0 := ⟨by decide, by decide, by decide +kernel⟩
theorem dn_X0_judge : zDn yX0_judge 1 := ⟨by decide, by decide, by decide +kernel⟩
theorem dn_X7_keep : zDn yX7_keep 1 := ⟨by decide, by decide, by decide +kernel⟩
theorem zb_m2 : (Int8.ofInt (-2)).toInt32 = (-2 : Int32) := by decide
theorem zs_m1000 : (Int16.ofInt (-1000)).toInt32 = (-1000 : Int32) := by decide
theorem dn_X3_has : zDn yX3_has 2 := ⟨by decide, by decide, by decide +kernel⟩
theorem wsin_X2 : ∀ w ∈ u_ws RX2 TX2 5, w ∈ zTB := (List.forall_mem_cons.mpr ⟨wd_428, (List.forall_mem_cons.mpr ⟨wd_430, (List.forall_mem_cons.mpr ⟨wd_432, (List.forall_mem_cons.mpr ⟨wd_434, (List.forall_mem_cons.mpr ⟨wd_436, (fun _ h => absurd h List.not_mem_nil)⟩)⟩)⟩)⟩)⟩)
theorem dn_X2_plantsSeeing : zDn yX2_plantsSeeing 3 := ⟨by decide, by decide, by decide +kernel⟩
theorem dn_X2_familysAnswer : zDn yX2_familysAnswer 2 := ⟨by decide, by decide, by decide +kernel⟩
theorem dn_X2_chooseByTurns : zDn yX2_chooseByTurns 0 := ⟨by decide, by decide, by decide +kernel⟩
theorem dn_X6_hasAct : zDn yX6_hasAct 1 := ⟨by decide, by decide, by decide +kernel⟩
theorem dn_X11_allBits : zDn yX11_allBits 1 := ⟨by decide, by decide, by decide +kernel⟩
theorem dn_X2_reachOfAll : zDn yX2_reachOfAll 1 := ⟨by decide, by decide, by decide +kernel⟩
theorem dn_X2_leastCover : zDn yX2_leastCover 0 := ⟨by decide, by decide, by decide +kernel⟩
theorem dn_X2_daysTillDark : zDn yX2_daysTillDark 1 := ⟨by decide, by decide, by decide +kernel⟩
theorem wsin_X1 : ∀ w ∈ u_ws RX1 TX1 1, w ∈ zTB := (List.forall_mem_cons.mpr ⟨wd_471, (fun _ h => absurd h List.not_mem_nil)⟩)
theorem zs_12345 : (Int16.ofInt (12345)).toInt32 = (12345 : Int32) := by decide
theorem dn_X1_draw : zDn yX1_draw 1 := ⟨by decide, by decide, by decide +kernel⟩
theorem dn_X1_drawDeed : zDn yX1_drawDeed 4 := ⟨by decide, by decide, by decide +kernel⟩
theorem dn_X1_liveTurn : zDn yX1_liveTurn 2 := ⟨by decide, by decide, by decide +kernel⟩
theorem dn_X1_liveDays : zDn yX1_liveDays 3 := ⟨by decide, by decide, by decide +kernel⟩
theorem lk_X11_63 : zLk RX11 63 12 7 := ⟨"ParlourLeaves", RX11, TX11, 17, rfl, by decide, wsin_X11, wd_511, rfl⟩
theorem cv_X11_359 : zCV RX11 RX0 359 yX0_readAll cX0_readAll 2 (some .boolean) 0 := ⟨rfl, dn_X0_readAll, wd_1213, wd_1214, wd_1215, wd_13, wd_1216⟩
theorem cv_X11_125 : zCV RX11 RX11 125 yX11_endReading cX11_endReading 1 none 0 := ⟨rfl, dn_X11_endReading, wd_664, wd_666, wp_1_7, wd_1, wd_667⟩
theorem lk_X11_32 : zLk RX11 32 12 3 := ⟨"ParlourLeaves", RX11, TX11, 17, rfl, by decide, wsin_X11, wd_507, rfl⟩
theorem lk_X11_28 : zLk RX11 28 12 2 := ⟨"ParlourLeaves", RX11, TX11, 17, rfl, by decide, wsin_X11, wd_506, rfl⟩
theorem cv_X11_357 : zCV RX11 RX6 357 yX6_copyFrom cX6_copyFrom 3 none 1 := ⟨rfl, dn_X6_copyFrom, wd_1208, wd_793, wd_794, wd_8, wd_795⟩
theorem cv_X11_362 : zCV RX11 RX0 362 yX0_judge cX0_judge 3 none 1 := ⟨rfl, dn_X0_judge, wd_1248, wd_1249, wd_1250, wd_13, wd_1251⟩
theorem lk_X11_368 : zLk RX11 368 1 7 := ⟨"ParlourLeaves$BookText", RX0, TX0, 11, rfl, by decide, wsin_X0, wd_382, rfl⟩
theorem lk_X11_365 : zLk RX11 365 1 8 := ⟨"ParlourLeaves$BookText", RX0, TX0, 11, rfl, by decide, wsin_X0, wd_384, rfl⟩
theorem lk_X11_38 : zLk RX11 38 12 4 := ⟨"ParlourLeaves", RX11, TX11, 17, rfl, by decide, wsin_X11, wd_508, rfl⟩
theorem cv_X11_244 : zCV RX11 RX7 244 yX7_keep cX7_keep 2 none 1 := ⟨rfl, dn_X7_keep, wd_788, wd_789, wd_790, wd_9, wd_791⟩
theorem lk_X11_128 : zLk RX11 128 10 10 := ⟨"ParlourLeaves$Tape", RX9, TX9, 11, rfl, by decide, wsin_X9, wd_114, rfl⟩
theorem lk_X3_9 : zLk RX3 9 4 0 := ⟨"ParlourLeaves$House", RX3, TX3, 12, rfl, by decide, wsin_X3, wd_147, rfl⟩
theorem lk_X11_19 : zLk RX11 19 12 1 := ⟨"ParlourLeaves", RX11, TX11, 17, rfl, by decide, wsin_X11, wd_505, rfl⟩
theorem cv_X11_149 : zCV RX11 RX3 149 yX3_has cX3_has 3 (some .boolean) 2 := ⟨rfl, dn_X3_has, wd_699, wd_700, wd_701, wd_7, wd_702⟩
theorem cv_X11_258 : zCV RX11 RX6 258 yX6_whyNotCarry cX6_whyNotCarry 3 (some .int) 2 := ⟨rfl, dn_X6_whyNotCarry, wd_826, wd_827, wd_828, wd_8, wd_829⟩
theorem cv_X11_261 : zCV RX11 RX6 261 yX6_carryTo cX6_carryTo 3 none 2 := ⟨rfl, dn_X6_carryTo, wd_830, wd_831, wd_832, wd_8, wd_833⟩
theorem lk_X2_25 : zLk RX2 25 3 1 := ⟨"ParlourLeaves$Foresight", RX2, TX2, 5, rfl, by decide, wsin_X2, wd_421, rfl⟩
theorem cv_X2_29 : zCV RX2 RX6 29 yX6_plants cX6_plants 1 (some .int) 0 := ⟨rfl, dn_X6_plants, wd_876, wd_728, wd_729, wd_8, wd_730⟩
theorem lk_X2_116 : zLk RX2 116 7 9 := ⟨"ParlourLeaves$Life", RX6, TX6, 11, rfl, by decide, wsin_X6, wd_244, rfl⟩
theorem cv_X2_119 : zCV RX2 RX6 119 yX6_isBlind cX6_isBlind 2 (some .boolean) 1 := ⟨rfl, dn_X6_isBlind, wd_979, wd_742, wd_743, wd_8, wd_744⟩
theorem lk_X2_21 : zLk RX2 21 3 0 := ⟨"ParlourLeaves$Foresight", RX2, TX2, 5, rfl, by decide, wsin_X2, wd_420, rfl⟩
theorem cv_X2_106 : zCV RX2 RX3 106 yX3_reach cX3_reach 2 (some .int) 1 := ⟨rfl, dn_X3_reach, wd_933, wd_774, wd_775, wd_7, wd_776⟩
theorem cv_X2_70 : zCN RX2 "ParlourLeaves" 70 yX11_hasBit cX11_hasBit 2 (some .boolean) 2 := ⟨dn_X11_hasBit, (List.mem_of_getElem? (i := 13) rfl), wd_645, wd_1, wd_646⟩
theorem lk_X2_63 : zLk RX2 63 4 0 := ⟨"ParlourLeaves$House", RX3, TX3, 12, rfl, by decide, wsin_X3, wd_150, rfl⟩
theorem cv_X2_112 : zCV RX2 RX2 112 yX2_plantsSeeing cX2_plantsSeeing 7 (some .int) 3 := ⟨rfl, dn_X2_plantsSeeing, wd_975, wd_977, wp_1_11, wd_14, wd_978⟩
theorem lq_X2_9 : zLq RX2 9 3 2 .int := ⟨"ParlourLeaves$Foresight", RX2, TX2, 5, tyX2, rfl, by decide, wsin_X2, wd_422, rfl, rfl, by decide +kernel, tyX2_ok, nmX2⟩
theorem lq_X2_15 : zLq RX2 15 3 3 .int := ⟨"ParlourLeaves$Foresight", RX2, TX2, 5, tyX2, rfl, by decide, wsin_X2, wd_424, rfl, rfl, by decide +kernel, tyX2_ok, nmX2⟩
theorem cv_X2_109 : zCV RX2 RX2 109 yX2_familysAnswer cX2_familysAnswer 5 (some .int) 2 := ⟨rfl, dn_X2_familysAnswer, wd_971, wd_973, wp_1_10, wd_14, wd_974⟩
theorem lq_X2_18 : zLq RX2 18 3 4 .int := ⟨"ParlourLeaves$Foresight", RX2, TX2, 5, tyX2, rfl, by decide, wsin_X2, wd_426, rfl, rfl, by decide +kernel, tyX2_ok, nmX2⟩
theorem lk_X2_18 : zLk RX2 18 3 4 := ⟨"ParlourLeaves$Foresight", RX2, TX2, 5, rfl, by decide, wsin_X2, wd_426, rfl⟩
theorem lk_X11_312 : zLk RX11 312 4 0 := ⟨"ParlourLeaves$House", RX3, TX3, 12, rfl, by decide, wsin_X3, wd_153, rfl⟩
theorem lk_X11_82 : zLk RX11 82 12 10 := ⟨"ParlourLeaves", RX11, TX11, 17, rfl, by decide, wsin_X11, wd_514, rfl⟩
theorem cv_X11_315 : zCV RX11 RX2 315 yX2_chooseByTurns cX2_chooseByTurns 6 (some .int) 0 := ⟨rfl, dn_X2_chooseByTurns, wd_967, wd_968, wd_969, wd_14, wd_970⟩
theorem lk_X11_318 : zLk RX11 318 3 2 := ⟨"ParlourLeaves$Foresight", RX2, TX2, 5, rfl, by decide, wsin_X2, wd_423, rfl⟩
theorem lk_X11_321 : zLk RX11 321 3 3 := ⟨"ParlourLeaves$Foresight", RX2, TX2, 5, rfl, by decide, wsin_X2, wd_425, rfl⟩
theorem lk_X11_324 : zLk RX11 324 3 4 := ⟨"ParlourLeaves$Foresight", RX2, TX2, 5, rfl, by decide, wsin_X2, wd_427, rfl⟩
theorem cv_X11_184 : zCV RX11 RX6 184 yX6_hasAct cX6_hasAct 2 (some .boolean) 1 := ⟨rfl, dn_X6_hasAct, wd_703, wd_704, wd_705, wd_8, wd_706⟩
theorem lk_X11_213 : zLk RX11 213 7 7 := ⟨"ParlourLeaves$Life", RX6, TX6, 11, rfl, by decide, wsin_X6, wd_240, rfl⟩
theorem lk_X11_403 : zLk RX11 403 4 10 := ⟨"ParlourLeaves$House", RX3, TX3, 12, rfl, by decide, wsin_X3, wd_181, rfl⟩
theorem lk_X11_406 : zLk RX11 406 4 11 := ⟨"ParlourLeaves$House", RX3, TX3, 12, rfl, by decide, wsin_X3, wd_186, rfl⟩
theorem lk_X11_114 : zLk RX11 114 10 1 := ⟨"ParlourLeaves$Tape", RX9, TX9, 11, rfl, by decide, wsin_X9, wd_95, rfl⟩
theorem cv_X2_67 : zCN RX2 "ParlourLeaves" 67 yX11_allBits cX11_allBits 1 (some .int) 1 := ⟨dn_X11_allBits, (List.mem_of_getElem? (i := 12) rfl), wd_778, wd_1, wd_779⟩
theorem cv_X2_43 : zCS RX2 43 yJ6_bitCount_0f7a4 cJ6_bitCount_0f7a4 1 (some .int) 1 := ⟨dn_J6_bitCount_0f7a4, wd_878, wd_732, wd_27, wd_733⟩
theorem cv_X2_103 : zCV RX2 RX2 103 yX2_reachOfAll cX2_reachOfAll 4 (some .int) 1 := ⟨rfl, dn_X2_reachOfAll, wd_929, wd_931, wp_1_8, wd_14, wd_932⟩
theorem cv_X11_298 : zCV RX11 RX2 298 yX2_leastCover cX2_leastCover 4 (some .int) 0 := ⟨rfl, dn_X2_leastCover, wd_925, wd_926, wd_927, wd_14, wd_928⟩
theorem lq_X11_111 : zLq RX11 111 12 16 .int := ⟨"ParlourLeaves", RX11, TX11, 17, tyX11, rfl, by decide, wsin_X11, wd_520, rfl, rfl, by decide +kernel, tyX11_ok, nmX11⟩
theorem lk_X11_111 : zLk RX11 111 12 16 := ⟨"ParlourLeaves", RX11, TX11, 17, rfl, by decide, wsin_X11, wd_520, rfl⟩
theorem cv_X11_176 : zCS RX11 176 yJ6_bitCount_0f7a4 cJ6_bitCount_0f7a4 1 (some .int) 1 := ⟨dn_J6_bitCount_0f7a4, wd_934, wd_732, wd_27, wd_733⟩
theorem cv_X2_85 : zCV RX2 RX6 85 yX6_daysLeft cX6_daysLeft 1 (some .int) 0 := ⟨rfl, dn_X6_daysLeft, wd_900, wd_839, wd_840, wd_8, wd_841⟩
theorem cv_X2_60 : zCV RX2 RX6 60 yX6_seenBy cX6_seenBy 2 (some .int) 1 := ⟨rfl, dn_X6_seenBy, wd_888, wd_770, wd_771, wd_8, wd_772⟩
theorem lk_X2_74 : zLk RX2 74 4 10 := ⟨"ParlourLeaves$House", RX3, TX3, 12, rfl, by decide, wsin_X3, wd_178, rfl⟩
theorem lk_X2_77 : zLk RX2 77 7 10 := ⟨"ParlourLeaves$Life", RX6, TX6, 11, rfl, by decide, wsin_X6, wd_247, rfl⟩
theorem lb_X2_80 : zMx RX2 80 := ⟨wd_899, wd_808, wd_20, wd_809⟩
theorem cv_X11_287 : zCV RX11 RX2 287 yX2_daysTillDark cX2_daysTillDark 4 (some .int) 1 := ⟨rfl, dn_X2_daysTillDark, wd_894, wd_895, wd_896, wd_14, wd_897⟩
theorem cv_X11_265 : zCV RX11 RX6 265 yX6_daysLeft cX6_daysLeft 1 (some .int) 0 := ⟨rfl, dn_X6_daysLeft, wd_838, wd_839, wd_840, wd_8, wd_841⟩
theorem cv_X11_268 : zCV RX11 RX6 268 yX6_goDays cX6_goDays 4 (some .int) 1 := ⟨rfl, dn_X6_goDays, wd_842, wd_843, wd_844, wd_8, wd_845⟩
theorem cv_X11_241 : zCV RX11 RX6 241 yX6_whyNotDo cX6_whyNotDo 1 (some .int) 0 := ⟨rfl, dn_X6_whyNotDo, wd_784, wd_785, wd_786, wd_8, wd_787⟩
theorem cv_X11_248 : zCV RX11 RX6 248 yX6_doDeed cX6_doDeed 5 none 3 := ⟨rfl, dn_X6_doDeed, wd_798, wd_799, wd_800, wd_8, wd_801⟩
theorem lk_X1_9 : zLk RX1 9 2 0 := ⟨"ParlourLeaves$Draws", RX1, TX1, 1, rfl, by decide, wsin_X1, wd_470, rfl⟩
theorem lq_X1_9 : zLq RX1 9 2 0 .int := ⟨"ParlourLeaves$Draws", RX1, TX1, 1, tyX1, rfl, by decide, wsin_X1, wd_470, rfl, rfl, by decide +kernel, tyX1_ok, nmX1⟩
theorem cv_X1_64 : zCV RX1 RX6 64 yX6_whyNotDo cX6_whyNotDo 1 (some .int) 0 := ⟨rfl, dn_X6_whyNotDo, wd_1198, wd_785, wd_786, wd_8, wd_787⟩
theorem cv_X1_67 : zCV RX1 RX6 67 yX6_doDeed cX6_doDeed 5 none 3 := ⟨rfl, dn_X6_doDeed, wd_1199, wd_799, wd_800, wd_8, wd_801⟩
theorem cv_X1_46 : zCV RX1 RX1 46 yX1_draw cX1_draw 2 (some .int) 1 := ⟨rfl, dn_X1_draw, wd_1190, wd_1192, wp_1_13, wd_16, wd_1193⟩
theorem lk_X1_28 : zLk RX1 28 7 0 := ⟨"ParlourLeaves$Life", RX6, TX6, 11, rfl, by decide, wsin_X6, wd_222, rfl⟩
theorem lk_X1_32 : zLk RX1 32 4 0 := ⟨"ParlourLeaves$House", RX3, TX3, 12, rfl, by decide, wsin_X3, wd_149, rfl⟩
theorem cv_X1_53 : zCV RX1 RX6 53 yX6_plants cX6_plants 1 (some .int) 0 := ⟨rfl, dn_X6_plants, wd_1200, wd_728, wd_729, wd_8, wd_730⟩
theorem cv_X1_60 : zCV RX1 RX6 60 yX6_carryTo cX6_carryTo 3 none 2 := ⟨rfl, dn_X6_carryTo, wd_1202, wd_831, wd_832, wd_8, wd_833⟩
theorem cv_X1_56 : zCV RX1 RX6 56 yX6_spongeOff cX6_spongeOff 2 none 1 := ⟨rfl, dn_X6_spongeOff, wd_1201, wd_819, wd_820, wd_8, wd_821⟩
theorem cv_X1_49 : zCS RX1 49 yX1_drawDeed cX1_drawDeed 4 none 4 := ⟨dn_X1_drawDeed, wd_1195, wd_1196, wd_16, wd_1197⟩
theorem cv_X1_16 : zCV RX1 RX6 16 yX6_daysLeft cX6_daysLeft 1 (some .int) 0 := ⟨rfl, dn_X6_daysLeft, wd_1184, wd_839, wd_840, wd_8, wd_841⟩
theorem lb_X1_22 : zMn RX1 22 := ⟨wd_1185, wd_589, wd_20, wd_590⟩
theorem cv_X1_42 : zCV RX1 RX6 42 yX6_goDays cX6_goDays 4 (some .int) 1 := ⟨rfl, dn_X6_goDays, wd_1203, wd_843, wd_844, wd_8, wd_845⟩
theorem cv_X1_38 : zCV RX1 RX1 38 yX1_liveTurn cX1_liveTurn 6 none 2 := ⟨rfl, dn_X1_liveTurn, wd_1186, wd_1188, wp_1_12, wd_16, wd_1189⟩
theorem lk_X11_96 : zLk RX11 96 12 12 := ⟨"ParlourLeaves", RX11, TX11, 17, rfl, by decide, wsin_X11, wd_516, rfl⟩
theorem cv_X11_353 : zCV RX11 RX1 353 yX1_liveDays cX1_liveDays 7 (some .int) 3 := ⟨rfl, dn_X1_liveDays, wd_1180, wd_1181, wd_1182, wd_16, wd_1183⟩
theorem dX11_book_0 : decode cX11_book 0 = .ok (.iload_n 1, 1) := by decide +kernel
theorem dX11_book_1 : decode cX11_book 1 = .ok (.ifCond .eq 12, 3) := by decide +kernel
theorem dX11_book_4 : decode cX11_book 4 = .ok (.iload_n 1, 1) := by decide +kernel
theorem dX11_book_5 : decode cX11_book 5 = .ok (.iconst 1, 1) := by decide +kernel
theorem dX11_book_6 : decode cX11_book 6 = .ok (.if_icmp .eq 7, 3) := by decide +kernel
theorem dX11_book_9 : decode cX11_book 9 = .ok (.sipush (-1000), 3) := by decide +kernel
theorem dX11_book_12 : decode cX11_book 12 = .ok (.ireturn, 1) := by decide +kernel
theorem dX11_book_13 : decode cX11_book 13 = .ok (.aload_n 0, 1) := by decide +kernel
theorem dX11_book_14 : decode cX11_book 14 = .ok (.getfield 63, 3) := by decide +kernel
theorem dX11_book_17 : decode cX11_book 17 = .ok (.invokevirtual 359, 3) := by decide +kernel
theorem dX11_book_20 : decode cX11_book 20 = .ok (.istore_n 2, 1) := by decide +kernel
theorem dX11_book_21 : decode cX11_book 21 = .ok (.aload_n 0, 1) := by decide +kernel
theorem dX11_book_22 : decode cX11_book 22 = .ok (.invokevirtual 125, 3) := by decide +kernel
theorem dX11_book_25 : decode cX11_book 25 = .ok (.iload_n 2, 1) := by decide +kernel
theorem dX11_book_26 : decode cX11_book 26 = .ok (.ifCond .ne 14, 3) := by decide +kernel
theorem dX11_book_29 : decode cX11_book 29 = .ok (.bipush (-2), 2) := by decide +kernel
theorem dX11_book_31 : decode cX11_book 31 = .ok (.aload_n 0, 1) := by decide +kernel
theorem dX11_book_32 : decode cX11_book 32 = .ok (.getfield 10, 3) := by decide +kernel
theorem dX11_book_35 : decode cX11_book 35 = .ok (.getfield 128, 3) := by decide +kernel
theorem dX11_book_38 : decode cX11_book 38 = .ok (.isub, 1) := by decide +kernel
theorem dX11_book_39 : decode cX11_book 39 = .ok (.ireturn, 1) := by decide +kernel
theorem dX11_book_40 : decode cX11_book 40 = .ok (.aload_n 0, 1) := by decide +kernel
theorem dX11_book_41 : decode cX11_book 41 = .ok (.getfield 32, 3) := by decide +kernel
theorem dX11_book_44 : decode cX11_book 44 = .ok (.aload_n 0, 1) := by decide +kernel
theorem dX11_book_45 : decode cX11_book 45 = .ok (.getfield 28, 3) := by decide +kernel
theorem dX11_book_48 : decode cX11_book 48 = .ok (.invokevirtual 357, 3) := by decide +kernel
theorem dX11_book_51 : decode cX11_book 51 = .ok (.aload_n 0, 1) := by decide +kernel
theorem dX11_book_52 : decode cX11_book 52 = .ok (.getfield 63, 3) := by decide +kernel
theorem dX11_book_55 : decode cX11_book 55 = .ok (.aload_n 0, 1) := by decide +kernel
theorem dX11_book_56 : decode cX11_book 56 = .ok (.getfield 32, 3) := by decide +kernel
theorem dX11_book_59 : decode cX11_book 59 = .ok (.invokevirtual 362, 3) := by decide +kernel
theorem dX11_book_62 : decode cX11_book 62 = .ok (.iload_n 1, 1) := by decide +kernel
theorem dX11_book_63 : decode cX11_book 63 = .ok (.iconst 1, 1) := by decide +kernel
theorem dX11_book_64 : decode cX11_book 64 = .ok (.if_icmp .ne 35, 3) := by decide +kernel
theorem dX11_book_67 : decode cX11_book 67 = .ok (.aload_n 0, 1) := by decide +kernel
theorem dX11_book_68 : decode cX11_book 68 = .ok (.getfield 63, 3) := by decide +kernel
theorem dX11_book_71 : decode cX11_book 71 = .ok (.getfield 365, 3) := by decide +kernel
theorem dX11_book_74 : decode cX11_book 74 = .ok (.ifCond .le 25, 3) := by decide +kernel
theorem dX11_book_77 : decode cX11_book 77 = .ok (.aload_n 0, 1) := by decide +kernel
theorem dX11_book_78 : decode cX11_book 78 = .ok (.getfield 38, 3) := by decide +kernel
theorem dX11_book_81 : decode cX11_book 81 = .ok (.aload_n 0, 1) := by decide +kernel
theorem dX11_book_82 : decode cX11_book 82 = .ok (.getfield 28, 3) := by decide +kernel
theorem dX11_book_85 : decode cX11_book 85 = .ok (.invokevirtual 244, 3) := by decide +kernel
theorem dX11_book_88 : decode cX11_book 88 = .ok (.aload_n 0, 1) := by decide +kernel
theorem dX11_book_89 : decode cX11_book 89 = .ok (.getfield 28, 3) := by decide +kernel
theorem dX11_book_92 : decode cX11_book 92 = .ok (.aload_n 0, 1) := by decide +kernel
theorem dX11_book_93 : decode cX11_book 93 = .ok (.getfield 32, 3) := by decide +kernel
theorem dX11_book_96 : decode cX11_book 96 = .ok (.invokevirtual 357, 3) := by decide +kernel
theorem dX11_book_99 : decode cX11_book 99 = .ok (.aload_n 0, 1) := by decide +kernel
theorem dX11_book_100 : decode cX11_book 100 = .ok (.getfield 63, 3) := by decide +kernel
theorem dX11_book_103 : decode cX11_book 103 = .ok (.getfield 368, 3) := by decide +kernel
theorem dX11_book_106 : decode cX11_book 106 = .ok (.ifCond .ne 7, 3) := by decide +kernel
theorem dX11_book_109 : decode cX11_book 109 = .ok (.iconst (-1), 1) := by decide +kernel
theorem dX11_book_110 : decode cX11_book 110 = .ok (.goto 10, 3) := by decide +kernel
theorem dX11_book_113 : decode cX11_book 113 = .ok (.aload_n 0, 1) := by decide +kernel
theorem dX11_book_114 : decode cX11_book 114 = .ok (.getfield 63, 3) := by decide +kernel
theorem dX11_book_117 : decode cX11_book 117 = .ok (.getfield 365, 3) := by decide +kernel
theorem dX11_book_120 : decode cX11_book 120 = .ok (.ireturn, 1) := by decide +kernel
theorem dX3_has_0 : decode cX3_has 0 = .ok (.iload_n 2, 1) := by decide +kernel
theorem dX3_has_1 : decode cX3_has 1 = .ok (.ifCond .lt 17, 3) := by decide +kernel
theorem dX3_has_4 : decode cX3_has 4 = .ok (.iload_n 2, 1) := by decide +kernel
theorem dX3_has_5 : decode cX3_has 5 = .ok (.aload_n 0, 1) := by decide +kernel
theorem dX3_has_6 : decode cX3_has 6 = .ok (.getfield 9, 3) := by decide +kernel
theorem dX3_has_9 : decode cX3_has 9 = .ok (.iload_n 1, 1) := by decide +kernel
theorem dX3_has_10 : decode cX3_has 10 = .ok (.iaload, 1) := by decide +kernel
theorem dX3_has_11 : decode cX3_has 11 = .ok (.if_icmp .ge 7, 3) := by decide +kernel
theorem dX3_has_14 : decode cX3_has 14 = .ok (.iconst 1, 1) := by decide +kernel
theorem dX3_has_15 : decode cX3_has 15 = .ok (.goto 4, 3) := by decide +kernel
theorem dX3_has_18 : decode cX3_has 18 = .ok (.iconst 0, 1) := by decide +kernel
theorem dX3_has_19 : decode cX3_has 19 = .ok (.ireturn, 1) := by decide +kernel
theorem dX11_carry_0 : decode cX11_carry 0 = .ok (.aload_n 0, 1) := by decide +kernel
theorem dX11_carry_1 : decode cX11_carry 1 = .ok (.getfield 19, 3) := by decide +kernel
theorem dX11_carry_4 : decode cX11_carry 4 = .ok (.iconst 1, 1) := by decide +kernel
theorem dX11_carry_5 : decode cX11_carry 5 = .ok (.iload_n 1, 1) := by decide +kernel
theorem dX11_carry_6 : decode cX11_carry 6 = .ok (.invokevirtual 149, 3) := by decide +kernel
theorem dX11_carry_9 : decode cX11_carry 9 = .ok (.ifCond .eq 15, 3) := by decide +kernel
theorem dX11_carry_12 : decode cX11_carry 12 = .ok (.aload_n 0, 1) := by decide +kernel
theorem dX11_carry_13 : decode cX11_carry 13 = .ok (.getfield 19, 3) := by decide +kernel
theorem dX11_carry_16 : decode cX11_carry 16 = .ok (.iconst 0, 1) := by decide +kernel
theorem dX11_carry_17 : decode cX11_carry 17 = .ok (.iload_n 2, 1) := by decide +kernel
theorem dX11_carry_18 : decode cX11_carry 18 = .ok (.invokevirtual 149, 3) := by decide +kernel
theorem dX11_carry_21 : decode cX11_carry 21 = .ok (.ifCond .ne 5, 3) := by decide +kernel
theorem dX11_carry_24 : decode cX11_carry 24 = .ok (.iconst (-1), 1) := by decide +kernel
theorem dX11_carry_25 : decode cX11_carry 25 = .ok (.ireturn, 1) := by decide +kernel
theorem dX11_carry_26 : decode cX11_carry 26 = .ok (.aload_n 0, 1) := by decide +kernel
theorem dX11_carry_27 : decode cX11_carry 27 = .ok (.getfield 28, 3) := by decide +kernel
theorem dX11_carry_30 : decode cX11_carry 30 = .ok (.iload_n 1, 1) := by decide +kernel
theorem dX11_carry_31 : decode cX11_carry 31 = .ok (.iload_n 2, 1) := by decide +kernel
theorem dX11_carry_32 : decode cX11_carry 32 = .ok (.invokevirtual 258, 3) := by decide +kernel
theorem dX11_carry_35 : decode cX11_carry 35 = .ok (.istore_n 3, 1) := by decide +kernel
theorem dX11_carry_36 : decode cX11_carry 36 = .ok (.iload_n 3, 1) := by decide +kernel
theorem dX11_carry_37 : decode cX11_carry 37 = .ok (.ifCond .ne 23, 3) := by decide +kernel
theorem dX11_carry_40 : decode cX11_carry 40 = .ok (.aload_n 0, 1) := by decide +kernel
theorem dX11_carry_41 : decode cX11_carry 41 = .ok (.getfield 38, 3) := by decide +kernel
theorem dX11_carry_44 : decode cX11_carry 44 = .ok (.aload_n 0, 1) := by decide +kernel
theorem dX11_carry_45 : decode cX11_carry 45 = .ok (.getfield 28, 3) := by decide +kernel
theorem dX11_carry_48 : decode cX11_carry 48 = .ok (.invokevirtual 244, 3) := by decide +kernel
theorem dX11_carry_51 : decode cX11_carry 51 = .ok (.aload_n 0, 1) := by decide +kernel
theorem dX11_carry_52 : decode cX11_carry 52 = .ok (.getfield 28, 3) := by decide +kernel
theorem dX11_carry_55 : decode cX11_carry 55 = .ok (.iload_n 1, 1) := by decide +kernel
theorem dX11_carry_56 : decode cX11_carry 56 = .ok (.iload_n 2, 1) := by decide +kernel
theorem dX11_carry_57 : decode cX11_carry 57 = .ok (.invokevirtual 261, 3) := by decide +kernel
theorem dX11_carry_60 : decode cX11_carry 60 = .ok (.iload_n 3, 1) := by decide +kernel
theorem dX11_carry_61 : decode cX11_carry 61 = .ok (.ireturn, 1) := by decide +kernel
theorem dX2_plantsSeeing_0 : decode cX2_plantsSeeing 0 = .ok (.iconst 0, 1) := by decide +kernel
theorem dX2_plantsSeeing_1 : decode cX2_plantsSeeing 1 = .ok (.istore 4, 2) := by decide +kernel
theorem dX2_plantsSeeing_3 : decode cX2_plantsSeeing 3 = .ok (.iconst 0, 1) := by decide +kernel
theorem dX2_plantsSeeing_4 : decode cX2_plantsSeeing 4 = .ok (.istore 5, 2) := by decide +kernel
theorem dX2_plantsSeeing_6 : decode cX2_plantsSeeing 6 = .ok (.iload 5, 2) := by decide +kernel
theorem dX2_plantsSeeing_8 : decode cX2_plantsSeeing 8 = .ok (.aload_n 0, 1) := by decide +kernel
theorem dX2_plantsSeeing_9 : decode cX2_plantsSeeing 9 = .ok (.getfield 25, 3) := by decide +kernel
theorem dX2_plantsSeeing_12 : decode cX2_plantsSeeing 12 = .ok (.invokevirtual 29, 3) := by decide +kernel
theorem dX2_plantsSeeing_15 : decode cX2_plantsSeeing 15 = .ok (.if_icmp .ge 62, 3) := by decide +kernel
theorem dX2_plantsSeeing_18 : decode cX2_plantsSeeing 18 = .ok (.iload 5, 2) := by decide +kernel
theorem dX2_plantsSeeing_20 : decode cX2_plantsSeeing 20 = .ok (.iload_n 2, 1) := by decide +kernel
theorem dX2_plantsSeeing_21 : decode cX2_plantsSeeing 21 = .ok (.if_icmp .ne 7, 3) := by decide +kernel
theorem dX2_plantsSeeing_24 : decode cX2_plantsSeeing 24 = .ok (.iload_n 3, 1) := by decide +kernel
theorem dX2_plantsSeeing_25 : decode cX2_plantsSeeing 25 = .ok (.goto 13, 3) := by decide +kernel
theorem dX2_plantsSeeing_28 : decode cX2_plantsSeeing 28 = .ok (.aload_n 0, 1) := by decide +kernel
theorem dX2_plantsSeeing_29 : decode cX2_plantsSeeing 29 = .ok (.getfield 25, 3) := by decide +kernel
theorem dX2_plantsSeeing_32 : decode cX2_plantsSeeing 32 = .ok (.getfield 116, 3) := by decide +kernel
theorem dX2_plantsSeeing_35 : decode cX2_plantsSeeing 35 = .ok (.iload 5, 2) := by decide +kernel
theorem dX2_plantsSeeing_37 : decode cX2_plantsSeeing 37 = .ok (.iaload, 1) := by decide +kernel
theorem dX2_plantsSeeing_38 : decode cX2_plantsSeeing 38 = .ok (.istore 6, 2) := by decide +kernel
theorem dX2_plantsSeeing_40 : decode cX2_plantsSeeing 40 = .ok (.aload_n 0, 1) := by decide +kernel
theorem dX2_plantsSeeing_41 : decode cX2_plantsSeeing 41 = .ok (.getfield 25, 3) := by decide +kernel
theorem dX2_plantsSeeing_44 : decode cX2_plantsSeeing 44 = .ok (.iload 5, 2) := by decide +kernel
theorem dX2_plantsSeeing_46 : decode cX2_plantsSeeing 46 = .ok (.invokevirtual 119, 3) := by decide +kernel
theorem dX2_plantsSeeing_49 : decode cX2_plantsSeeing 49 = .ok (.ifCond .ne 22, 3) := by decide +kernel
theorem dX2_plantsSeeing_52 : decode cX2_plantsSeeing 52 = .ok (.aload_n 0, 1) := by decide +kernel
theorem dX2_plantsSeeing_53 : decode cX2_plantsSeeing 53 = .ok (.getfield 21, 3) := by decide +kernel
theorem dX2_plantsSeeing_56 : decode cX2_plantsSeeing 56 = .ok (.iload 6, 2) := by decide +kernel
theorem dX2_plantsSeeing_58 : decode cX2_plantsSeeing 58 = .ok (.invokevirtual 106, 3) := by decide +kernel
theorem dX2_plantsSeeing_61 : decode cX2_plantsSeeing 61 = .ok (.iload_n 1, 1) := by decide +kernel
theorem dX2_plantsSeeing_62 : decode cX2_plantsSeeing 62 = .ok (.invokestatic 70, 3) := by decide +kernel
theorem dX2_plantsSeeing_65 : decode cX2_plantsSeeing 65 = .ok (.ifCond .eq 6, 3) := by decide +kernel
theorem dX2_plantsSeeing_68 : decode cX2_plantsSeeing 68 = .ok (.iinc 4 1, 3) := by decide +kernel
theorem dX2_plantsSeeing_71 : decode cX2_plantsSeeing 71 = .ok (.iinc 5 1, 3) := by decide +kernel
theorem dX2_plantsSeeing_74 : decode cX2_plantsSeeing 74 = .ok (.goto (-68), 3) := by decide +kernel
theorem dX2_plantsSeeing_77 : decode cX2_plantsSeeing 77 = .ok (.iload 4, 2) := by decide +kernel
theorem dX2_plantsSeeing_79 : decode cX2_plantsSeeing 79 = .ok (.ireturn, 1) := by decide +kernel
theorem dX2_familysAnswer_0 : decode cX2_familysAnswer 0 = .ok (.iconst 0, 1) := by decide +kernel
theorem dX2_familysAnswer_1 : decode cX2_familysAnswer 1 = .ok (.istore_n 3, 1) := by decide +kernel
theorem dX2_familysAnswer_2 : decode cX2_familysAnswer 2 = .ok (.iconst 1, 1) := by decide +kernel
theorem dX2_familysAnswer_3 : decode cX2_familysAnswer 3 = .ok (.istore 4, 2) := by decide +kernel
theorem dX2_familysAnswer_5 : decode cX2_familysAnswer 5 = .ok (.iload 4, 2) := by decide +kernel
theorem dX2_familysAnswer_7 : decode cX2_familysAnswer 7 = .ok (.aload_n 0, 1) := by decide +kernel
theorem dX2_familysAnswer_8 : decode cX2_familysAnswer 8 = .ok (.getfield 21, 3) := by decide +kernel
theorem dX2_familysAnswer_11 : decode cX2_familysAnswer 11 = .ok (.getfield 63, 3) := by decide +kernel
theorem dX2_familysAnswer_14 : decode cX2_familysAnswer 14 = .ok (.iconst 0, 1) := by decide +kernel
theorem dX2_familysAnswer_15 : decode cX2_familysAnswer 15 = .ok (.iaload, 1) := by decide +kernel
theorem dX2_familysAnswer_16 : decode cX2_familysAnswer 16 = .ok (.if_icmp .ge 30, 3) := by decide +kernel
theorem dX2_familysAnswer_19 : decode cX2_familysAnswer 19 = .ok (.aload_n 0, 1) := by decide +kernel
theorem dX2_familysAnswer_20 : decode cX2_familysAnswer 20 = .ok (.iload 4, 2) := by decide +kernel
theorem dX2_familysAnswer_22 : decode cX2_familysAnswer 22 = .ok (.iload_n 1, 1) := by decide +kernel
theorem dX2_familysAnswer_23 : decode cX2_familysAnswer 23 = .ok (.iload_n 2, 1) := by decide +kernel
theorem dX2_familysAnswer_24 : decode cX2_familysAnswer 24 = .ok (.invokevirtual 112, 3) := by decide +kernel
theorem dX2_familysAnswer_27 : decode cX2_familysAnswer 27 = .ok (.aload_n 0, 1) := by decide +kernel
theorem dX2_familysAnswer_28 : decode cX2_familysAnswer 28 = .ok (.iload_n 3, 1) := by decide +kernel
theorem dX2_familysAnswer_29 : decode cX2_familysAnswer 29 = .ok (.iload_n 1, 1) := by decide +kernel
theorem dX2_familysAnswer_30 : decode cX2_familysAnswer 30 = .ok (.iload_n 2, 1) := by decide +kernel
theorem dX2_familysAnswer_31 : decode cX2_familysAnswer 31 = .ok (.invokevirtual 112, 3) := by decide +kernel
theorem dX2_familysAnswer_34 : decode cX2_familysAnswer 34 = .ok (.if_icmp .ge 6, 3) := by decide +kernel
theorem dX2_familysAnswer_37 : decode cX2_familysAnswer 37 = .ok (.iload 4, 2) := by decide +kernel
theorem dX2_familysAnswer_39 : decode cX2_familysAnswer 39 = .ok (.istore_n 3, 1) := by decide +kernel
theorem dX2_familysAnswer_40 : decode cX2_familysAnswer 40 = .ok (.iinc 4 1, 3) := by decide +kernel
theorem dX2_familysAnswer_43 : decode cX2_familysAnswer 43 = .ok (.goto (-38), 3) := by decide +kernel
theorem dX2_familysAnswer_46 : decode cX2_familysAnswer 46 = .ok (.iload_n 3, 1) := by decide +kernel
theorem dX2_familysAnswer_47 : decode cX2_familysAnswer 47 = .ok (.ireturn, 1) := by decide +kernel
theorem dX2_chooseByTurns_0 : decode cX2_chooseByTurns 0 = .ok (.aload_n 0, 1) := by decide +kernel
theorem dX2_chooseByTurns_1 : decode cX2_chooseByTurns 1 = .ok (.iconst (-1), 1) := by decide +kernel
theorem dX2_chooseByTurns_2 : decode cX2_chooseByTurns 2 = .ok (.putfield 9, 3) := by decide +kernel
theorem dX2_chooseByTurns_5 : decode cX2_chooseByTurns 5 = .ok (.aload_n 0, 1) := by decide +kernel
theorem dX2_chooseByTurns_6 : decode cX2_chooseByTurns 6 = .ok (.iconst (-1), 1) := by decide +kernel
theorem dX2_chooseByTurns_7 : decode cX2_chooseByTurns 7 = .ok (.putfield 15, 3) := by decide +kernel
theorem dX2_chooseByTurns_10 : decode cX2_chooseByTurns 10 = .ok (.aload_n 0, 1) := by decide +kernel
theorem dX2_chooseByTurns_11 : decode cX2_chooseByTurns 11 = .ok (.aload_n 0, 1) := by decide +kernel
theorem dX2_chooseByTurns_12 : decode cX2_chooseByTurns 12 = .ok (.iconst (-1), 1) := by decide +kernel
theorem dX2_chooseByTurns_13 : decode cX2_chooseByTurns 13 = .ok (.iconst (-1), 1) := by decide +kernel
theorem dX2_chooseByTurns_14 : decode cX2_chooseByTurns 14 = .ok (.invokevirtual 109, 3) := by decide +kernel
theorem dX2_chooseByTurns_17 : decode cX2_chooseByTurns 17 = .ok (.putfield 18, 3) := by decide +kernel
theorem dX2_chooseByTurns_20 : decode cX2_chooseByTurns 20 = .ok (.aload_n 0, 1) := by decide +kernel
theorem dX2_chooseByTurns_21 : decode cX2_chooseByTurns 21 = .ok (.aload_n 0, 1) := by decide +kernel
theorem dX2_chooseByTurns_22 : decode cX2_chooseByTurns 22 = .ok (.getfield 18, 3) := by decide +kernel
theorem dX2_chooseByTurns_25 : decode cX2_chooseByTurns 25 = .ok (.iconst (-1), 1) := by decide +kernel
theorem dX2_chooseByTurns_26 : decode cX2_chooseByTurns 26 = .ok (.iconst (-1), 1) := by decide +kernel
theorem dX2_chooseByTurns_27 : decode cX2_chooseByTurns 27 = .ok (.invokevirtual 112, 3) := by decide +kernel
theorem dX2_chooseByTurns_30 : decode cX2_chooseByTurns 30 = .ok (.istore_n 1, 1) := by decide +kernel
theorem dX2_chooseByTurns_31 : decode cX2_chooseByTurns 31 = .ok (.iconst 0, 1) := by decide +kernel
theorem dX2_chooseByTurns_32 : decode cX2_chooseByTurns 32 = .ok (.istore_n 2, 1) := by decide +kernel
theorem dX2_chooseByTurns_33 : decode cX2_chooseByTurns 33 = .ok (.iload_n 2, 1) := by decide +kernel
theorem dX2_chooseByTurns_34 : decode cX2_chooseByTurns 34 = .ok (.aload_n 0, 1) := by decide +kernel
theorem dX2_chooseByTurns_35 : decode cX2_chooseByTurns 35 = .ok (.getfield 25, 3) := by decide +kernel
theorem dX2_chooseByTurns_38 : decode cX2_chooseByTurns 38 = .ok (.invokevirtual 29, 3) := by decide +kernel
theorem dX2_chooseByTurns_41 : decode cX2_chooseByTurns 41 = .ok (.if_icmp .ge 73, 3) := by decide +kernel
theorem dX2_chooseByTurns_44 : decode cX2_chooseByTurns 44 = .ok (.iconst 0, 1) := by decide +kernel
theorem dX2_chooseByTurns_45 : decode cX2_chooseByTurns 45 = .ok (.istore_n 3, 1) := by decide +kernel
theorem dX2_chooseByTurns_46 : decode cX2_chooseByTurns 46 = .ok (.iload_n 3, 1) := by decide +kernel
theorem dX2_chooseByTurns_47 : decode cX2_chooseByTurns 47 = .ok (.aload_n 0, 1) := by decide +kernel
theorem dX2_chooseByTurns_48 : decode cX2_chooseByTurns 48 = .ok (.getfield 21, 3) := by decide +kernel
theorem dX2_chooseByTurns_51 : decode cX2_chooseByTurns 51 = .ok (.getfield 63, 3) := by decide +kernel
theorem dX2_chooseByTurns_54 : decode cX2_chooseByTurns 54 = .ok (.iconst 0, 1) := by decide +kernel
theorem dX2_chooseByTurns_55 : decode cX2_chooseByTurns 55 = .ok (.iaload, 1) := by decide +kernel
theorem dX2_chooseByTurns_56 : decode cX2_chooseByTurns 56 = .ok (.if_icmp .ge 52, 3) := by decide +kernel
theorem dX2_chooseByTurns_59 : decode cX2_chooseByTurns 59 = .ok (.aload_n 0, 1) := by decide +kernel
theorem dX2_chooseByTurns_60 : decode cX2_chooseByTurns 60 = .ok (.iload_n 2, 1) := by decide +kernel
theorem dX2_chooseByTurns_61 : decode cX2_chooseByTurns 61 = .ok (.iload_n 3, 1) := by decide +kernel
theorem dX2_chooseByTurns_62 : decode cX2_chooseByTurns 62 = .ok (.invokevirtual 109, 3) := by decide +kernel
theorem dX2_chooseByTurns_65 : decode cX2_chooseByTurns 65 = .ok (.istore 4, 2) := by decide +kernel
theorem dX2_chooseByTurns_67 : decode cX2_chooseByTurns 67 = .ok (.aload_n 0, 1) := by decide +kernel
theorem dX2_chooseByTurns_68 : decode cX2_chooseByTurns 68 = .ok (.iload 4, 2) := by decide +kernel
theorem dX2_chooseByTurns_70 : decode cX2_chooseByTurns 70 = .ok (.iload_n 2, 1) := by decide +kernel
theorem dX2_chooseByTurns_71 : decode cX2_chooseByTurns 71 = .ok (.iload_n 3, 1) := by decide +kernel
theorem dX2_chooseByTurns_72 : decode cX2_chooseByTurns 72 = .ok (.invokevirtual 112, 3) := by decide +kernel
theorem dX2_chooseByTurns_75 : decode cX2_chooseByTurns 75 = .ok (.istore 5, 2) := by decide +kernel
theorem dX2_chooseByTurns_77 : decode cX2_chooseByTurns 77 = .ok (.iload 5, 2) := by decide +kernel
theorem dX2_chooseByTurns_79 : decode cX2_chooseByTurns 79 = .ok (.iload_n 1, 1) := by decide +kernel
theorem dX2_chooseByTurns_80 : decode cX2_chooseByTurns 80 = .ok (.if_icmp .le 22, 3) := by decide +kernel
theorem dX2_chooseByTurns_83 : decode cX2_chooseByTurns 83 = .ok (.iload 5, 2) := by decide +kernel
theorem dX2_chooseByTurns_85 : decode cX2_chooseByTurns 85 = .ok (.istore_n 1, 1) := by decide +kernel
theorem dX2_chooseByTurns_86 : decode cX2_chooseByTurns 86 = .ok (.aload_n 0, 1) := by decide +kernel
theorem dX2_chooseByTurns_87 : decode cX2_chooseByTurns 87 = .ok (.iload_n 2, 1) := by decide +kernel
theorem dX2_chooseByTurns_88 : decode cX2_chooseByTurns 88 = .ok (.putfield 9, 3) := by decide +kernel
theorem dX2_chooseByTurns_91 : decode cX2_chooseByTurns 91 = .ok (.aload_n 0, 1) := by decide +kernel
theorem dX2_chooseByTurns_92 : decode cX2_chooseByTurns 92 = .ok (.iload_n 3, 1) := by decide +kernel
theorem dX2_chooseByTurns_93 : decode cX2_chooseByTurns 93 = .ok (.putfield 15, 3) := by decide +kernel
theorem dX2_chooseByTurns_96 : decode cX2_chooseByTurns 96 = .ok (.aload_n 0, 1) := by decide +kernel
theorem dX2_chooseByTurns_97 : decode cX2_chooseByTurns 97 = .ok (.iload 4, 2) := by decide +kernel
theorem dX2_chooseByTurns_99 : decode cX2_chooseByTurns 99 = .ok (.putfield 18, 3) := by decide +kernel
theorem dX2_chooseByTurns_102 : decode cX2_chooseByTurns 102 = .ok (.iinc 3 1, 3) := by decide +kernel
theorem dX2_chooseByTurns_105 : decode cX2_chooseByTurns 105 = .ok (.goto (-59), 3) := by decide +kernel
theorem dX2_chooseByTurns_108 : decode cX2_chooseByTurns 108 = .ok (.iinc 2 1, 3) := by decide +kernel
theorem dX2_chooseByTurns_111 : decode cX2_chooseByTurns 111 = .ok (.goto (-78), 3) := by decide +kernel
theorem dX2_chooseByTurns_114 : decode cX2_chooseByTurns 114 = .ok (.iload_n 1, 1) := by decide +kernel
theorem dX2_chooseByTurns_115 : decode cX2_chooseByTurns 115 = .ok (.ireturn, 1) := by decide +kernel
theorem dX11_choice_0 : decode cX11_choice 0 = .ok (.aload_n 0, 1) := by decide +kernel
theorem dX11_choice_1 : decode cX11_choice 1 = .ok (.getfield 19, 3) := by decide +kernel
theorem dX11_choice_4 : decode cX11_choice 4 = .ok (.getfield 312, 3) := by decide +kernel
theorem dX11_choice_7 : decode cX11_choice 7 = .ok (.iconst 0, 1) := by decide +kernel
theorem dX11_choice_8 : decode cX11_choice 8 = .ok (.iaload, 1) := by decide +kernel
theorem dX11_choice_9 : decode cX11_choice 9 = .ok (.ifCond .ne 7, 3) := by decide +kernel
theorem dX11_choice_12 : decode cX11_choice 12 = .ok (.iconst (-1), 1) := by decide +kernel
theorem dX11_choice_13 : decode cX11_choice 13 = .ok (.goto 10, 3) := by decide +kernel
theorem dX11_choice_16 : decode cX11_choice 16 = .ok (.aload_n 0, 1) := by decide +kernel
theorem dX11_choice_17 : decode cX11_choice 17 = .ok (.getfield 82, 3) := by decide +kernel
theorem dX11_choice_20 : decode cX11_choice 20 = .ok (.invokevirtual 315, 3) := by decide +kernel
theorem dX11_choice_23 : decode cX11_choice 23 = .ok (.ireturn, 1) := by decide +kernel
theorem dX11_chosen_0 : decode cX11_chosen 0 = .ok (.iload_n 1, 1) := by decide +kernel
theorem dX11_chosen_1 : decode cX11_chosen 1 = .ok (.tableswitch 51 0 2 #[27, 35, 43], 27) := by decide +kernel
theorem dX11_chosen_28 : decode cX11_chosen 28 = .ok (.aload_n 0, 1) := by decide +kernel
theorem dX11_chosen_29 : decode cX11_chosen 29 = .ok (.getfield 82, 3) := by decide +kernel
theorem dX11_chosen_32 : decode cX11_chosen 32 = .ok (.getfield 318, 3) := by decide +kernel
theorem dX11_chosen_35 : decode cX11_chosen 35 = .ok (.ireturn, 1) := by decide +kernel
theorem dX11_chosen_36 : decode cX11_chosen 36 = .ok (.aload_n 0, 1) := by decide +kernel
theorem dX11_chosen_37 : decode cX11_chosen 37 = .ok (.getfield 82, 3) := by decide +kernel
theorem dX11_chosen_40 : decode cX11_chosen 40 = .ok (.getfield 321, 3) := by decide +kernel
theorem dX11_chosen_43 : decode cX11_chosen 43 = .ok (.ireturn, 1) := by decide +kernel
theorem dX11_chosen_44 : decode cX11_chosen 44 = .ok (.aload_n 0, 1) := by decide +kernel
theorem dX11_chosen_45 : decode cX11_chosen 45 = .ok (.getfield 82, 3) := by decide +kernel
theorem dX11_chosen_48 : decode cX11_chosen 48 = .ok (.getfield 324, 3) := by decide +kernel
theorem dX11_chosen_51 : decode cX11_chosen 51 = .ok (.ireturn, 1) := by decide +kernel
theorem dX11_chosen_52 : decode cX11_chosen 52 = .ok (.iconst (-1), 1) := by decide +kernel
theorem dX11_chosen_53 : decode cX11_chosen 53 = .ok (.ireturn, 1) := by decide +kernel
theorem dX6_hasAct_0 : decode cX6_hasAct 0 = .ok (.iload_n 1, 1) := by decide +kernel
theorem dX6_hasAct_1 : decode cX6_hasAct 1 = .ok (.ifCond .lt 15, 3) := by decide +kernel
theorem dX6_hasAct_4 : decode cX6_hasAct 4 = .ok (.iload_n 1, 1) := by decide +kernel
theorem dX6_hasAct_5 : decode cX6_hasAct 5 = .ok (.aload_n 0, 1) := by decide +kernel
theorem dX6_hasAct_6 : decode cX6_hasAct 6 = .ok (.getfield 46, 3) := by decide +kernel
theorem dX6_hasAct_9 : decode cX6_hasAct 9 = .ok (.if_icmp .ge 7, 3) := by decide +kernel
theorem dX6_hasAct_12 : decode cX6_hasAct 12 = .ok (.iconst 1, 1) := by decide +kernel
theorem dX6_hasAct_13 : decode cX6_hasAct 13 = .ok (.goto 4, 3) := by decide +kernel
theorem dX6_hasAct_16 : decode cX6_hasAct 16 = .ok (.iconst 0, 1) := by decide +kernel
theorem dX6_hasAct_17 : decode cX6_hasAct 17 = .ok (.ireturn, 1) := by decide +kernel
theorem dX11_comes_0 : decode cX11_comes 0 = .ok (.aload_n 0, 1) := by decide +kernel
theorem dX11_comes_1 : decode cX11_comes 1 = .ok (.getfield 19, 3) := by decide +kernel
theorem dX11_comes_4 : decode cX11_comes 4 = .ok (.iconst 1, 1) := by decide +kernel
theorem dX11_comes_5 : decode cX11_comes 5 = .ok (.iload_n 1, 1) := by decide +kernel
theorem dX11_comes_6 : decode cX11_comes 6 = .ok (.invokevirtual 149, 3) := by decide +kernel
theorem dX11_comes_9 : decode cX11_comes 9 = .ok (.ifCond .eq 28, 3) := by decide +kernel
theorem dX11_comes_12 : decode cX11_comes 12 = .ok (.aload_n 0, 1) := by decide +kernel
theorem dX11_comes_13 : decode cX11_comes 13 = .ok (.getfield 28, 3) := by decide +kernel
theorem dX11_comes_16 : decode cX11_comes 16 = .ok (.iload_n 2, 1) := by decide +kernel
theorem dX11_comes_17 : decode cX11_comes 17 = .ok (.invokevirtual 184, 3) := by decide +kernel
theorem dX11_comes_20 : decode cX11_comes 20 = .ok (.ifCond .eq 17, 3) := by decide +kernel
theorem dX11_comes_23 : decode cX11_comes 23 = .ok (.aload_n 0, 1) := by decide +kernel
theorem dX11_comes_24 : decode cX11_comes 24 = .ok (.getfield 28, 3) := by decide +kernel
theorem dX11_comes_27 : decode cX11_comes 27 = .ok (.getfield 213, 3) := by decide +kernel
theorem dX11_comes_30 : decode cX11_comes 30 = .ok (.iload_n 1, 1) := by decide +kernel
theorem dX11_comes_31 : decode cX11_comes 31 = .ok (.aaload, 1) := by decide +kernel
theorem dX11_comes_32 : decode cX11_comes 32 = .ok (.iload_n 2, 1) := by decide +kernel
theorem dX11_comes_33 : decode cX11_comes 33 = .ok (.iaload, 1) := by decide +kernel
theorem dX11_comes_34 : decode cX11_comes 34 = .ok (.goto 4, 3) := by decide +kernel
theorem dX11_comes_37 : decode cX11_comes 37 = .ok (.iconst (-1), 1) := by decide +kernel
theorem dX11_comes_38 : decode cX11_comes 38 = .ok (.ireturn, 1) := by decide +kernel
theorem dX11_count_0 : decode cX11_count 0 = .ok (.iload_n 1, 1) := by decide +kernel
theorem dX11_count_1 : decode cX11_count 1 = .ok (.tableswitch 107 0 6 #[43, 53, 63, 73, 83, 91, 99], 43) := by decide +kernel
theorem dX11_count_44 : decode cX11_count 44 = .ok (.aload_n 0, 1) := by decide +kernel
theorem dX11_count_45 : decode cX11_count 45 = .ok (.getfield 19, 3) := by decide +kernel
theorem dX11_count_48 : decode cX11_count 48 = .ok (.getfield 312, 3) := by decide +kernel
theorem dX11_count_51 : decode cX11_count 51 = .ok (.iconst 0, 1) := by decide +kernel
theorem dX11_count_52 : decode cX11_count 52 = .ok (.iaload, 1) := by decide +kernel
theorem dX11_count_53 : decode cX11_count 53 = .ok (.ireturn, 1) := by decide +kernel
theorem dX11_count_54 : decode cX11_count 54 = .ok (.aload_n 0, 1) := by decide +kernel
theorem dX11_count_55 : decode cX11_count 55 = .ok (.getfield 19, 3) := by decide +kernel
theorem dX11_count_58 : decode cX11_count 58 = .ok (.getfield 312, 3) := by decide +kernel
theorem dX11_count_61 : decode cX11_count 61 = .ok (.iconst 1, 1) := by decide +kernel
theorem dX11_count_62 : decode cX11_count 62 = .ok (.iaload, 1) := by decide +kernel
theorem dX11_count_63 : decode cX11_count 63 = .ok (.ireturn, 1) := by decide +kernel
theorem dX11_count_64 : decode cX11_count 64 = .ok (.aload_n 0, 1) := by decide +kernel
theorem dX11_count_65 : decode cX11_count 65 = .ok (.getfield 19, 3) := by decide +kernel
theorem dX11_count_68 : decode cX11_count 68 = .ok (.getfield 312, 3) := by decide +kernel
theorem dX11_count_71 : decode cX11_count 71 = .ok (.iconst 2, 1) := by decide +kernel
theorem dX11_count_72 : decode cX11_count 72 = .ok (.iaload, 1) := by decide +kernel
theorem dX11_count_73 : decode cX11_count 73 = .ok (.ireturn, 1) := by decide +kernel
theorem dX11_count_74 : decode cX11_count 74 = .ok (.aload_n 0, 1) := by decide +kernel
theorem dX11_count_75 : decode cX11_count 75 = .ok (.getfield 19, 3) := by decide +kernel
theorem dX11_count_78 : decode cX11_count 78 = .ok (.getfield 312, 3) := by decide +kernel
theorem dX11_count_81 : decode cX11_count 81 = .ok (.iconst 3, 1) := by decide +kernel
theorem dX11_count_82 : decode cX11_count 82 = .ok (.iaload, 1) := by decide +kernel
theorem dX11_count_83 : decode cX11_count 83 = .ok (.ireturn, 1) := by decide +kernel
theorem dX11_count_84 : decode cX11_count 84 = .ok (.aload_n 0, 1) := by decide +kernel
theorem dX11_count_85 : decode cX11_count 85 = .ok (.getfield 19, 3) := by decide +kernel
theorem dX11_count_88 : decode cX11_count 88 = .ok (.getfield 403, 3) := by decide +kernel
theorem dX11_count_91 : decode cX11_count 91 = .ok (.ireturn, 1) := by decide +kernel
theorem dX11_count_92 : decode cX11_count 92 = .ok (.aload_n 0, 1) := by decide +kernel
theorem dX11_count_93 : decode cX11_count 93 = .ok (.getfield 19, 3) := by decide +kernel
theorem dX11_count_96 : decode cX11_count 96 = .ok (.getfield 406, 3) := by decide +kernel
theorem dX11_count_99 : decode cX11_count 99 = .ok (.ireturn, 1) := by decide +kernel
theorem dX11_count_100 : decode cX11_count 100 = .ok (.aload_n 0, 1) := by decide +kernel
theorem dX11_count_101 : decode cX11_count 101 = .ok (.getfield 10, 3) := by decide +kernel
theorem dX11_count_104 : decode cX11_count 104 = .ok (.getfield 114, 3) := by decide +kernel
theorem dX11_count_107 : decode cX11_count 107 = .ok (.ireturn, 1) := by decide +kernel
theorem dX11_count_108 : decode cX11_count 108 = .ok (.iconst (-1), 1) := by decide +kernel
theorem dX11_count_109 : decode cX11_count 109 = .ok (.ireturn, 1) := by decide +kernel
theorem dX2_reachOfAll_0 : decode cX2_reachOfAll 0 = .ok (.iconst 0, 1) := by decide +kernel
theorem dX2_reachOfAll_1 : decode cX2_reachOfAll 1 = .ok (.istore_n 2, 1) := by decide +kernel
theorem dX2_reachOfAll_2 : decode cX2_reachOfAll 2 = .ok (.iconst 0, 1) := by decide +kernel
theorem dX2_reachOfAll_3 : decode cX2_reachOfAll 3 = .ok (.istore_n 3, 1) := by decide +kernel
theorem dX2_reachOfAll_4 : decode cX2_reachOfAll 4 = .ok (.iload_n 3, 1) := by decide +kernel
theorem dX2_reachOfAll_5 : decode cX2_reachOfAll 5 = .ok (.aload_n 0, 1) := by decide +kernel
theorem dX2_reachOfAll_6 : decode cX2_reachOfAll 6 = .ok (.getfield 21, 3) := by decide +kernel
theorem dX2_reachOfAll_9 : decode cX2_reachOfAll 9 = .ok (.getfield 63, 3) := by decide +kernel
theorem dX2_reachOfAll_12 : decode cX2_reachOfAll 12 = .ok (.iconst 0, 1) := by decide +kernel
theorem dX2_reachOfAll_13 : decode cX2_reachOfAll 13 = .ok (.iaload, 1) := by decide +kernel
theorem dX2_reachOfAll_14 : decode cX2_reachOfAll 14 = .ok (.if_icmp .ge 28, 3) := by decide +kernel
theorem dX2_reachOfAll_17 : decode cX2_reachOfAll 17 = .ok (.iload_n 1, 1) := by decide +kernel
theorem dX2_reachOfAll_18 : decode cX2_reachOfAll 18 = .ok (.iload_n 3, 1) := by decide +kernel
theorem dX2_reachOfAll_19 : decode cX2_reachOfAll 19 = .ok (.invokestatic 70, 3) := by decide +kernel
theorem dX2_reachOfAll_22 : decode cX2_reachOfAll 22 = .ok (.ifCond .eq 14, 3) := by decide +kernel
theorem dX2_reachOfAll_25 : decode cX2_reachOfAll 25 = .ok (.iload_n 2, 1) := by decide +kernel
theorem dX2_reachOfAll_26 : decode cX2_reachOfAll 26 = .ok (.aload_n 0, 1) := by decide +kernel
theorem dX2_reachOfAll_27 : decode cX2_reachOfAll 27 = .ok (.getfield 21, 3) := by decide +kernel
theorem dX2_reachOfAll_30 : decode cX2_reachOfAll 30 = .ok (.iload_n 3, 1) := by decide +kernel
theorem dX2_reachOfAll_31 : decode cX2_reachOfAll 31 = .ok (.invokevirtual 106, 3) := by decide +kernel
theorem dX2_reachOfAll_34 : decode cX2_reachOfAll 34 = .ok (.ior, 1) := by decide +kernel
theorem dX2_reachOfAll_35 : decode cX2_reachOfAll 35 = .ok (.istore_n 2, 1) := by decide +kernel
theorem dX2_reachOfAll_36 : decode cX2_reachOfAll 36 = .ok (.iinc 3 1, 3) := by decide +kernel
theorem dX2_reachOfAll_39 : decode cX2_reachOfAll 39 = .ok (.goto (-35), 3) := by decide +kernel
theorem dX2_reachOfAll_42 : decode cX2_reachOfAll 42 = .ok (.iload_n 2, 1) := by decide +kernel
theorem dX2_reachOfAll_43 : decode cX2_reachOfAll 43 = .ok (.ireturn, 1) := by decide +kernel
theorem dX2_leastCover_0 : decode cX2_leastCover 0 = .ok (.aload_n 0, 1) := by decide +kernel
theorem dX2_leastCover_1 : decode cX2_leastCover 1 = .ok (.getfield 21, 3) := by decide +kernel
theorem dX2_leastCover_4 : decode cX2_leastCover 4 = .ok (.getfield 63, 3) := by decide +kernel
theorem dX2_leastCover_7 : decode cX2_leastCover 7 = .ok (.iconst 0, 1) := by decide +kernel
theorem dX2_leastCover_8 : decode cX2_leastCover 8 = .ok (.iaload, 1) := by decide +kernel
theorem dX2_leastCover_9 : decode cX2_leastCover 9 = .ok (.invokestatic 67, 3) := by decide +kernel
theorem dX2_leastCover_12 : decode cX2_leastCover 12 = .ok (.istore_n 1, 1) := by decide +kernel
theorem dX2_leastCover_13 : decode cX2_leastCover 13 = .ok (.iload_n 1, 1) := by decide +kernel
theorem dX2_leastCover_14 : decode cX2_leastCover 14 = .ok (.istore_n 2, 1) := by decide +kernel
theorem dX2_leastCover_15 : decode cX2_leastCover 15 = .ok (.iconst 0, 1) := by decide +kernel
theorem dX2_leastCover_16 : decode cX2_leastCover 16 = .ok (.istore_n 3, 1) := by decide +kernel
theorem dX2_leastCover_17 : decode cX2_leastCover 17 = .ok (.iload_n 3, 1) := by decide +kernel
theorem dX2_leastCover_18 : decode cX2_leastCover 18 = .ok (.iload_n 1, 1) := by decide +kernel
theorem dX2_leastCover_19 : decode cX2_leastCover 19 = .ok (.if_icmp .ge 31, 3) := by decide +kernel
theorem dX2_leastCover_22 : decode cX2_leastCover 22 = .ok (.iload_n 3, 1) := by decide +kernel
theorem dX2_leastCover_23 : decode cX2_leastCover 23 = .ok (.invokestatic 43, 3) := by decide +kernel
theorem dX2_leastCover_26 : decode cX2_leastCover 26 = .ok (.iload_n 2, 1) := by decide +kernel
theorem dX2_leastCover_27 : decode cX2_leastCover 27 = .ok (.invokestatic 43, 3) := by decide +kernel
theorem dX2_leastCover_30 : decode cX2_leastCover 30 = .ok (.if_icmp .ge 14, 3) := by decide +kernel
theorem dX2_leastCover_33 : decode cX2_leastCover 33 = .ok (.aload_n 0, 1) := by decide +kernel
theorem dX2_leastCover_34 : decode cX2_leastCover 34 = .ok (.iload_n 3, 1) := by decide +kernel
theorem dX2_leastCover_35 : decode cX2_leastCover 35 = .ok (.invokevirtual 103, 3) := by decide +kernel
theorem dX2_leastCover_38 : decode cX2_leastCover 38 = .ok (.iload_n 1, 1) := by decide +kernel
theorem dX2_leastCover_39 : decode cX2_leastCover 39 = .ok (.if_icmp .ne 5, 3) := by decide +kernel
theorem dX2_leastCover_42 : decode cX2_leastCover 42 = .ok (.iload_n 3, 1) := by decide +kernel
theorem dX2_leastCover_43 : decode cX2_leastCover 43 = .ok (.istore_n 2, 1) := by decide +kernel
theorem dX2_leastCover_44 : decode cX2_leastCover 44 = .ok (.iinc 3 1, 3) := by decide +kernel
theorem dX2_leastCover_47 : decode cX2_leastCover 47 = .ok (.goto (-30), 3) := by decide +kernel
theorem dX2_leastCover_50 : decode cX2_leastCover 50 = .ok (.iload_n 2, 1) := by decide +kernel
theorem dX2_leastCover_51 : decode cX2_leastCover 51 = .ok (.ireturn, 1) := by decide +kernel
theorem dX11_cover_0 : decode cX11_cover 0 = .ok (.aload_n 0, 1) := by decide +kernel
theorem dX11_cover_1 : decode cX11_cover 1 = .ok (.aload_n 0, 1) := by decide +kernel
theorem dX11_cover_2 : decode cX11_cover 2 = .ok (.getfield 82, 3) := by decide +kernel
theorem dX11_cover_5 : decode cX11_cover 5 = .ok (.invokevirtual 298, 3) := by decide +kernel
theorem dX11_cover_8 : decode cX11_cover 8 = .ok (.putfield 111, 3) := by decide +kernel
theorem dX11_cover_11 : decode cX11_cover 11 = .ok (.aload_n 0, 1) := by decide +kernel
theorem dX11_cover_12 : decode cX11_cover 12 = .ok (.getfield 111, 3) := by decide +kernel
theorem dX11_cover_15 : decode cX11_cover 15 = .ok (.invokestatic 176, 3) := by decide +kernel
theorem dX11_cover_18 : decode cX11_cover 18 = .ok (.ireturn, 1) := by decide +kernel
theorem dX11_covering_0 : decode cX11_covering 0 = .ok (.aload_n 0, 1) := by decide +kernel
theorem dX11_covering_1 : decode cX11_covering 1 = .ok (.getfield 111, 3) := by decide +kernel
theorem dX11_covering_4 : decode cX11_covering 4 = .ok (.ireturn, 1) := by decide +kernel
theorem dX2_daysTillDark_0 : decode cX2_daysTillDark 0 = .ok (.iconst 0, 1) := by decide +kernel
theorem dX2_daysTillDark_1 : decode cX2_daysTillDark 1 = .ok (.istore_n 2, 1) := by decide +kernel
theorem dX2_daysTillDark_2 : decode cX2_daysTillDark 2 = .ok (.iconst 0, 1) := by decide +kernel
theorem dX2_daysTillDark_3 : decode cX2_daysTillDark 3 = .ok (.istore_n 3, 1) := by decide +kernel
theorem dX2_daysTillDark_4 : decode cX2_daysTillDark 4 = .ok (.iload_n 3, 1) := by decide +kernel
theorem dX2_daysTillDark_5 : decode cX2_daysTillDark 5 = .ok (.aload_n 0, 1) := by decide +kernel
theorem dX2_daysTillDark_6 : decode cX2_daysTillDark 6 = .ok (.getfield 25, 3) := by decide +kernel
theorem dX2_daysTillDark_9 : decode cX2_daysTillDark 9 = .ok (.invokevirtual 29, 3) := by decide +kernel
theorem dX2_daysTillDark_12 : decode cX2_daysTillDark 12 = .ok (.if_icmp .ge 46, 3) := by decide +kernel
theorem dX2_daysTillDark_15 : decode cX2_daysTillDark 15 = .ok (.aload_n 0, 1) := by decide +kernel
theorem dX2_daysTillDark_16 : decode cX2_daysTillDark 16 = .ok (.getfield 25, 3) := by decide +kernel
theorem dX2_daysTillDark_19 : decode cX2_daysTillDark 19 = .ok (.iload_n 3, 1) := by decide +kernel
theorem dX2_daysTillDark_20 : decode cX2_daysTillDark 20 = .ok (.invokevirtual 60, 3) := by decide +kernel
theorem dX2_daysTillDark_23 : decode cX2_daysTillDark 23 = .ok (.iload_n 1, 1) := by decide +kernel
theorem dX2_daysTillDark_24 : decode cX2_daysTillDark 24 = .ok (.invokestatic 70, 3) := by decide +kernel
theorem dX2_daysTillDark_27 : decode cX2_daysTillDark 27 = .ok (.ifCond .eq 25, 3) := by decide +kernel
theorem dX2_daysTillDark_30 : decode cX2_daysTillDark 30 = .ok (.iload_n 2, 1) := by decide +kernel
theorem dX2_daysTillDark_31 : decode cX2_daysTillDark 31 = .ok (.aload_n 0, 1) := by decide +kernel
theorem dX2_daysTillDark_32 : decode cX2_daysTillDark 32 = .ok (.getfield 21, 3) := by decide +kernel
theorem dX2_daysTillDark_35 : decode cX2_daysTillDark 35 = .ok (.getfield 74, 3) := by decide +kernel
theorem dX2_daysTillDark_38 : decode cX2_daysTillDark 38 = .ok (.aload_n 0, 1) := by decide +kernel
theorem dX2_daysTillDark_39 : decode cX2_daysTillDark 39 = .ok (.getfield 25, 3) := by decide +kernel
theorem dX2_daysTillDark_42 : decode cX2_daysTillDark 42 = .ok (.getfield 77, 3) := by decide +kernel
theorem dX2_daysTillDark_45 : decode cX2_daysTillDark 45 = .ok (.iload_n 3, 1) := by decide +kernel
theorem dX2_daysTillDark_46 : decode cX2_daysTillDark 46 = .ok (.iaload, 1) := by decide +kernel
theorem dX2_daysTillDark_47 : decode cX2_daysTillDark 47 = .ok (.isub, 1) := by decide +kernel
theorem dX2_daysTillDark_48 : decode cX2_daysTillDark 48 = .ok (.invokestatic 80, 3) := by decide +kernel
theorem dX2_daysTillDark_51 : decode cX2_daysTillDark 51 = .ok (.istore_n 2, 1) := by decide +kernel
theorem dX2_daysTillDark_52 : decode cX2_daysTillDark 52 = .ok (.iinc 3 1, 3) := by decide +kernel
theorem dX2_daysTillDark_55 : decode cX2_daysTillDark 55 = .ok (.goto (-51), 3) := by decide +kernel
theorem dX2_daysTillDark_58 : decode cX2_daysTillDark 58 = .ok (.iload_n 2, 1) := by decide +kernel
theorem dX2_daysTillDark_59 : decode cX2_daysTillDark 59 = .ok (.aload_n 0, 1) := by decide +kernel
theorem dX2_daysTillDark_60 : decode cX2_daysTillDark 60 = .ok (.getfield 25, 3) := by decide +kernel
theorem dX2_daysTillDark_63 : decode cX2_daysTillDark 63 = .ok (.invokevirtual 85, 3) := by decide +kernel
theorem dX2_daysTillDark_66 : decode cX2_daysTillDark 66 = .ok (.if_icmp .gt 7, 3) := by decide +kernel
theorem dX2_daysTillDark_69 : decode cX2_daysTillDark 69 = .ok (.iload_n 2, 1) := by decide +kernel
theorem dX2_daysTillDark_70 : decode cX2_daysTillDark 70 = .ok (.goto 4, 3) := by decide +kernel
theorem dX2_daysTillDark_73 : decode cX2_daysTillDark 73 = .ok (.iconst (-1), 1) := by decide +kernel
theorem dX2_daysTillDark_74 : decode cX2_daysTillDark 74 = .ok (.ireturn, 1) := by decide +kernel
theorem dX11_dark_0 : decode cX11_dark 0 = .ok (.aload_n 0, 1) := by decide +kernel
theorem dX11_dark_1 : decode cX11_dark 1 = .ok (.getfield 19, 3) := by decide +kernel
theorem dX11_dark_4 : decode cX11_dark 4 = .ok (.iconst 0, 1) := by decide +kernel
theorem dX11_dark_5 : decode cX11_dark 5 = .ok (.iload_n 1, 1) := by decide +kernel
theorem dX11_dark_6 : decode cX11_dark 6 = .ok (.invokevirtual 149, 3) := by decide +kernel
theorem dX11_dark_9 : decode cX11_dark 9 = .ok (.ifCond .eq 14, 3) := by decide +kernel
theorem dX11_dark_12 : decode cX11_dark 12 = .ok (.aload_n 0, 1) := by decide +kernel
theorem dX11_dark_13 : decode cX11_dark 13 = .ok (.getfield 82, 3) := by decide +kernel
theorem dX11_dark_16 : decode cX11_dark 16 = .ok (.iload_n 1, 1) := by decide +kernel
theorem dX11_dark_17 : decode cX11_dark 17 = .ok (.invokevirtual 287, 3) := by decide +kernel
theorem dX11_dark_20 : decode cX11_dark 20 = .ok (.goto 4, 3) := by decide +kernel
theorem dX11_dark_23 : decode cX11_dark 23 = .ok (.iconst (-1), 1) := by decide +kernel
theorem dX11_dark_24 : decode cX11_dark 24 = .ok (.ireturn, 1) := by decide +kernel
theorem dX11_days_0 : decode cX11_days 0 = .ok (.iload_n 1, 1) := by decide +kernel
theorem dX11_days_1 : decode cX11_days 1 = .ok (.iconst 1, 1) := by decide +kernel
theorem dX11_days_2 : decode cX11_days 2 = .ok (.if_icmp .lt 9, 3) := by decide +kernel
theorem dX11_days_5 : decode cX11_days 5 = .ok (.iload_n 1, 1) := by decide +kernel
theorem dX11_days_6 : decode cX11_days 6 = .ok (.bipush 60, 2) := by decide +kernel
theorem dX11_days_8 : decode cX11_days 8 = .ok (.if_icmp .le 5, 3) := by decide +kernel
theorem dX11_days_11 : decode cX11_days 11 = .ok (.iconst (-1), 1) := by decide +kernel
theorem dX11_days_12 : decode cX11_days 12 = .ok (.ireturn, 1) := by decide +kernel
theorem dX11_days_13 : decode cX11_days 13 = .ok (.aload_n 0, 1) := by decide +kernel
theorem dX11_days_14 : decode cX11_days 14 = .ok (.getfield 28, 3) := by decide +kernel
theorem dX11_days_17 : decode cX11_days 17 = .ok (.invokevirtual 265, 3) := by decide +kernel
theorem dX11_days_20 : decode cX11_days 20 = .ok (.ifCond .ne 5, 3) := by decide +kernel
theorem dX11_days_23 : decode cX11_days 23 = .ok (.iconst 0, 1) := by decide +kernel
theorem dX11_days_24 : decode cX11_days 24 = .ok (.ireturn, 1) := by decide +kernel
theorem dX11_days_25 : decode cX11_days 25 = .ok (.aload_n 0, 1) := by decide +kernel
theorem dX11_days_26 : decode cX11_days 26 = .ok (.getfield 38, 3) := by decide +kernel
theorem dX11_days_29 : decode cX11_days 29 = .ok (.aload_n 0, 1) := by decide +kernel
theorem dX11_days_30 : decode cX11_days 30 = .ok (.getfield 28, 3) := by decide +kernel
theorem dX11_days_33 : decode cX11_days 33 = .ok (.invokevirtual 244, 3) := by decide +kernel
theorem dX11_days_36 : decode cX11_days 36 = .ok (.aload_n 0, 1) := by decide +kernel
theorem dX11_days_37 : decode cX11_days 37 = .ok (.getfield 28, 3) := by decide +kernel
theorem dX11_days_40 : decode cX11_days 40 = .ok (.iload_n 1, 1) := by decide +kernel
theorem dX11_days_41 : decode cX11_days 41 = .ok (.invokevirtual 268, 3) := by decide +kernel
theorem dX11_days_44 : decode cX11_days 44 = .ok (.ireturn, 1) := by decide +kernel
theorem dX11_does_0 : decode cX11_does 0 = .ok (.aload_n 0, 1) := by decide +kernel
theorem dX11_does_1 : decode cX11_does 1 = .ok (.getfield 19, 3) := by decide +kernel
theorem dX11_does_4 : decode cX11_does 4 = .ok (.iconst 2, 1) := by decide +kernel
theorem dX11_does_5 : decode cX11_does 5 = .ok (.iload_n 1, 1) := by decide +kernel
theorem dX11_does_6 : decode cX11_does 6 = .ok (.invokevirtual 149, 3) := by decide +kernel
theorem dX11_does_9 : decode cX11_does 9 = .ok (.ifCond .eq 27, 3) := by decide +kernel
theorem dX11_does_12 : decode cX11_does 12 = .ok (.aload_n 0, 1) := by decide +kernel
theorem dX11_does_13 : decode cX11_does 13 = .ok (.getfield 19, 3) := by decide +kernel
theorem dX11_does_16 : decode cX11_does 16 = .ok (.iconst 3, 1) := by decide +kernel
theorem dX11_does_17 : decode cX11_does 17 = .ok (.iload_n 2, 1) := by decide +kernel
theorem dX11_does_18 : decode cX11_does 18 = .ok (.invokevirtual 149, 3) := by decide +kernel
theorem dX11_does_21 : decode cX11_does 21 = .ok (.ifCond .eq 15, 3) := by decide +kernel
theorem dX11_does_24 : decode cX11_does 24 = .ok (.aload_n 0, 1) := by decide +kernel
theorem dX11_does_25 : decode cX11_does 25 = .ok (.getfield 19, 3) := by decide +kernel
theorem dX11_does_28 : decode cX11_does 28 = .ok (.iconst 0, 1) := by decide +kernel
theorem dX11_does_29 : decode cX11_does 29 = .ok (.iload_n 3, 1) := by decide +kernel
theorem dX11_does_30 : decode cX11_does 30 = .ok (.invokevirtual 149, 3) := by decide +kernel
theorem dX11_does_33 : decode cX11_does 33 = .ok (.ifCond .ne 5, 3) := by decide +kernel
theorem dX11_does_36 : decode cX11_does 36 = .ok (.iconst (-1), 1) := by decide +kernel
theorem dX11_does_37 : decode cX11_does 37 = .ok (.ireturn, 1) := by decide +kernel
theorem dX11_does_38 : decode cX11_does 38 = .ok (.aload_n 0, 1) := by decide +kernel
theorem dX11_does_39 : decode cX11_does 39 = .ok (.getfield 28, 3) := by decide +kernel
theorem dX11_does_42 : decode cX11_does 42 = .ok (.invokevirtual 241, 3) := by decide +kernel
theorem dX11_does_45 : decode cX11_does 45 = .ok (.istore 4, 2) := by decide +kernel
theorem dX11_does_47 : decode cX11_does 47 = .ok (.iload 4, 2) := by decide +kernel
theorem dX11_does_49 : decode cX11_does 49 = .ok (.ifCond .ne 24, 3) := by decide +kernel
theorem dX11_does_52 : decode cX11_does 52 = .ok (.aload_n 0, 1) := by decide +kernel
theorem dX11_does_53 : decode cX11_does 53 = .ok (.getfield 38, 3) := by decide +kernel
theorem dX11_does_56 : decode cX11_does 56 = .ok (.aload_n 0, 1) := by decide +kernel
theorem dX11_does_57 : decode cX11_does 57 = .ok (.getfield 28, 3) := by decide +kernel
theorem dX11_does_60 : decode cX11_does 60 = .ok (.invokevirtual 244, 3) := by decide +kernel
theorem dX11_does_63 : decode cX11_does 63 = .ok (.aload_n 0, 1) := by decide +kernel
theorem dX11_does_64 : decode cX11_does 64 = .ok (.getfield 28, 3) := by decide +kernel
theorem dX11_does_67 : decode cX11_does 67 = .ok (.iload_n 1, 1) := by decide +kernel
theorem dX11_does_68 : decode cX11_does 68 = .ok (.iload_n 2, 1) := by decide +kernel
theorem dX11_does_69 : decode cX11_does 69 = .ok (.iload_n 3, 1) := by decide +kernel
theorem dX11_does_70 : decode cX11_does 70 = .ok (.invokevirtual 248, 3) := by decide +kernel
theorem dX11_does_73 : decode cX11_does 73 = .ok (.iload 4, 2) := by decide +kernel
theorem dX11_does_75 : decode cX11_does 75 = .ok (.ireturn, 1) := by decide +kernel
theorem dX1_draw_0 : decode cX1_draw 0 = .ok (.aload_n 0, 1) := by decide +kernel
theorem dX1_draw_1 : decode cX1_draw 1 = .ok (.aload_n 0, 1) := by decide +kernel
theorem dX1_draw_2 : decode cX1_draw 2 = .ok (.getfield 9, 3) := by decide +kernel
theorem dX1_draw_5 : decode cX1_draw 5 = .ok (.ldc 15, 2) := by decide +kernel
theorem dX1_draw_7 : decode cX1_draw 7 = .ok (.imul, 1) := by decide +kernel
theorem dX1_draw_8 : decode cX1_draw 8 = .ok (.sipush 12345, 3) := by decide +kernel
theorem dX1_draw_11 : decode cX1_draw 11 = .ok (.iadd, 1) := by decide +kernel
theorem dX1_draw_12 : decode cX1_draw 12 = .ok (.putfield 9, 3) := by decide +kernel
theorem dX1_draw_15 : decode cX1_draw 15 = .ok (.iload_n 1, 1) := by decide +kernel
theorem dX1_draw_16 : decode cX1_draw 16 = .ok (.ifCond .le 15, 3) := by decide +kernel
theorem dX1_draw_19 : decode cX1_draw 19 = .ok (.aload_n 0, 1) := by decide +kernel
theorem dX1_draw_20 : decode cX1_draw 20 = .ok (.getfield 9, 3) := by decide +kernel
theorem dX1_draw_23 : decode cX1_draw 23 = .ok (.bipush 8, 2) := by decide +kernel
theorem dX1_draw_25 : decode cX1_draw 25 = .ok (.iushr, 1) := by decide +kernel
theorem dX1_draw_26 : decode cX1_draw 26 = .ok (.iload_n 1, 1) := by decide +kernel
theorem dX1_draw_27 : decode cX1_draw 27 = .ok (.irem, 1) := by decide +kernel
theorem dX1_draw_28 : decode cX1_draw 28 = .ok (.goto 4, 3) := by decide +kernel
theorem dX1_draw_31 : decode cX1_draw 31 = .ok (.iconst 0, 1) := by decide +kernel
theorem dX1_draw_32 : decode cX1_draw 32 = .ok (.ireturn, 1) := by decide +kernel
theorem dX1_drawDeed_0 : decode cX1_drawDeed 0 = .ok (.aload_n 0, 1) := by decide +kernel
theorem dX1_drawDeed_1 : decode cX1_drawDeed 1 = .ok (.invokevirtual 64, 3) := by decide +kernel
theorem dX1_drawDeed_4 : decode cX1_drawDeed 4 = .ok (.ifCond .ne 10, 3) := by decide +kernel
theorem dX1_drawDeed_7 : decode cX1_drawDeed 7 = .ok (.aload_n 0, 1) := by decide +kernel
theorem dX1_drawDeed_8 : decode cX1_drawDeed 8 = .ok (.iload_n 1, 1) := by decide +kernel
theorem dX1_drawDeed_9 : decode cX1_drawDeed 9 = .ok (.iload_n 2, 1) := by decide +kernel
theorem dX1_drawDeed_10 : decode cX1_drawDeed 10 = .ok (.iload_n 3, 1) := by decide +kernel
theorem dX1_drawDeed_11 : decode cX1_drawDeed 11 = .ok (.invokevirtual 67, 3) := by decide +kernel
theorem dX1_drawDeed_14 : decode cX1_drawDeed 14 = .ok (.return_, 1) := by decide +kernel
theorem dX1_liveTurn_0 : decode cX1_liveTurn 0 = .ok (.aload_n 0, 1) := by decide +kernel
theorem dX1_liveTurn_1 : decode cX1_liveTurn 1 = .ok (.bipush 6, 2) := by decide +kernel
theorem dX1_liveTurn_3 : decode cX1_liveTurn 3 = .ok (.invokevirtual 46, 3) := by decide +kernel
theorem dX1_liveTurn_6 : decode cX1_liveTurn 6 = .ok (.istore_n 3, 1) := by decide +kernel
theorem dX1_liveTurn_7 : decode cX1_liveTurn 7 = .ok (.aload_n 1, 1) := by decide +kernel
theorem dX1_liveTurn_8 : decode cX1_liveTurn 8 = .ok (.getfield 28, 3) := by decide +kernel
theorem dX1_liveTurn_11 : decode cX1_liveTurn 11 = .ok (.getfield 32, 3) := by decide +kernel
theorem dX1_liveTurn_14 : decode cX1_liveTurn 14 = .ok (.iconst 0, 1) := by decide +kernel
theorem dX1_liveTurn_15 : decode cX1_liveTurn 15 = .ok (.iaload, 1) := by decide +kernel
theorem dX1_liveTurn_16 : decode cX1_liveTurn 16 = .ok (.istore 4, 2) := by decide +kernel
theorem dX1_liveTurn_18 : decode cX1_liveTurn 18 = .ok (.iload_n 3, 1) := by decide +kernel
theorem dX1_liveTurn_19 : decode cX1_liveTurn 19 = .ok (.ifCond .ne 51, 3) := by decide +kernel
theorem dX1_liveTurn_22 : decode cX1_liveTurn 22 = .ok (.aload_n 1, 1) := by decide +kernel
theorem dX1_liveTurn_23 : decode cX1_liveTurn 23 = .ok (.getfield 28, 3) := by decide +kernel
theorem dX1_liveTurn_26 : decode cX1_liveTurn 26 = .ok (.getfield 32, 3) := by decide +kernel
theorem dX1_liveTurn_29 : decode cX1_liveTurn 29 = .ok (.iconst 3, 1) := by decide +kernel
theorem dX1_liveTurn_30 : decode cX1_liveTurn 30 = .ok (.iaload, 1) := by decide +kernel
theorem dX1_liveTurn_31 : decode cX1_liveTurn 31 = .ok (.ifCond .le 39, 3) := by decide +kernel
theorem dX1_liveTurn_34 : decode cX1_liveTurn 34 = .ok (.iload 4, 2) := by decide +kernel
theorem dX1_liveTurn_36 : decode cX1_liveTurn 36 = .ok (.ifCond .le 34, 3) := by decide +kernel
theorem dX1_liveTurn_39 : decode cX1_liveTurn 39 = .ok (.aload_n 0, 1) := by decide +kernel
theorem dX1_liveTurn_40 : decode cX1_liveTurn 40 = .ok (.aload_n 1, 1) := by decide +kernel
theorem dX1_liveTurn_41 : decode cX1_liveTurn 41 = .ok (.getfield 28, 3) := by decide +kernel
theorem dX1_liveTurn_44 : decode cX1_liveTurn 44 = .ok (.getfield 32, 3) := by decide +kernel
theorem dX1_liveTurn_47 : decode cX1_liveTurn 47 = .ok (.iconst 3, 1) := by decide +kernel
theorem dX1_liveTurn_48 : decode cX1_liveTurn 48 = .ok (.iaload, 1) := by decide +kernel
theorem dX1_liveTurn_49 : decode cX1_liveTurn 49 = .ok (.invokevirtual 46, 3) := by decide +kernel
theorem dX1_liveTurn_52 : decode cX1_liveTurn 52 = .ok (.istore 5, 2) := by decide +kernel
theorem dX1_liveTurn_54 : decode cX1_liveTurn 54 = .ok (.aload_n 1, 1) := by decide +kernel
theorem dX1_liveTurn_55 : decode cX1_liveTurn 55 = .ok (.iload_n 2, 1) := by decide +kernel
theorem dX1_liveTurn_56 : decode cX1_liveTurn 56 = .ok (.iload 5, 2) := by decide +kernel
theorem dX1_liveTurn_58 : decode cX1_liveTurn 58 = .ok (.aload_n 0, 1) := by decide +kernel
theorem dX1_liveTurn_59 : decode cX1_liveTurn 59 = .ok (.iload 4, 2) := by decide +kernel
theorem dX1_liveTurn_61 : decode cX1_liveTurn 61 = .ok (.invokevirtual 46, 3) := by decide +kernel
theorem dX1_liveTurn_64 : decode cX1_liveTurn 64 = .ok (.invokestatic 49, 3) := by decide +kernel
theorem dX1_liveTurn_67 : decode cX1_liveTurn 67 = .ok (.goto 69, 3) := by decide +kernel
theorem dX1_liveTurn_70 : decode cX1_liveTurn 70 = .ok (.iload_n 3, 1) := by decide +kernel
theorem dX1_liveTurn_71 : decode cX1_liveTurn 71 = .ok (.iconst 1, 1) := by decide +kernel
theorem dX1_liveTurn_72 : decode cX1_liveTurn 72 = .ok (.if_icmp .ne 25, 3) := by decide +kernel
theorem dX1_liveTurn_75 : decode cX1_liveTurn 75 = .ok (.aload_n 1, 1) := by decide +kernel
theorem dX1_liveTurn_76 : decode cX1_liveTurn 76 = .ok (.invokevirtual 53, 3) := by decide +kernel
theorem dX1_liveTurn_79 : decode cX1_liveTurn 79 = .ok (.ifCond .le 18, 3) := by decide +kernel
theorem dX1_liveTurn_82 : decode cX1_liveTurn 82 = .ok (.aload_n 1, 1) := by decide +kernel
theorem dX1_liveTurn_83 : decode cX1_liveTurn 83 = .ok (.aload_n 0, 1) := by decide +kernel
theorem dX1_liveTurn_84 : decode cX1_liveTurn 84 = .ok (.aload_n 1, 1) := by decide +kernel
theorem dX1_liveTurn_85 : decode cX1_liveTurn 85 = .ok (.invokevirtual 53, 3) := by decide +kernel
theorem dX1_liveTurn_88 : decode cX1_liveTurn 88 = .ok (.invokevirtual 46, 3) := by decide +kernel
theorem dX1_liveTurn_91 : decode cX1_liveTurn 91 = .ok (.invokevirtual 56, 3) := by decide +kernel
theorem dX1_liveTurn_94 : decode cX1_liveTurn 94 = .ok (.goto 42, 3) := by decide +kernel
theorem dX1_liveTurn_97 : decode cX1_liveTurn 97 = .ok (.iload_n 3, 1) := by decide +kernel
theorem dX1_liveTurn_98 : decode cX1_liveTurn 98 = .ok (.iconst 2, 1) := by decide +kernel
theorem dX1_liveTurn_99 : decode cX1_liveTurn 99 = .ok (.if_icmp .ne 37, 3) := by decide +kernel
theorem dX1_liveTurn_102 : decode cX1_liveTurn 102 = .ok (.aload_n 1, 1) := by decide +kernel
theorem dX1_liveTurn_103 : decode cX1_liveTurn 103 = .ok (.invokevirtual 53, 3) := by decide +kernel
theorem dX1_liveTurn_106 : decode cX1_liveTurn 106 = .ok (.ifCond .le 30, 3) := by decide +kernel
theorem dX1_liveTurn_109 : decode cX1_liveTurn 109 = .ok (.iload 4, 2) := by decide +kernel
theorem dX1_liveTurn_111 : decode cX1_liveTurn 111 = .ok (.ifCond .le 25, 3) := by decide +kernel
theorem dX1_liveTurn_114 : decode cX1_liveTurn 114 = .ok (.aload_n 0, 1) := by decide +kernel
theorem dX1_liveTurn_115 : decode cX1_liveTurn 115 = .ok (.aload_n 1, 1) := by decide +kernel
theorem dX1_liveTurn_116 : decode cX1_liveTurn 116 = .ok (.invokevirtual 53, 3) := by decide +kernel
theorem dX1_liveTurn_119 : decode cX1_liveTurn 119 = .ok (.invokevirtual 46, 3) := by decide +kernel
theorem dX1_liveTurn_122 : decode cX1_liveTurn 122 = .ok (.istore 5, 2) := by decide +kernel
theorem dX1_liveTurn_124 : decode cX1_liveTurn 124 = .ok (.aload_n 1, 1) := by decide +kernel
theorem dX1_liveTurn_125 : decode cX1_liveTurn 125 = .ok (.iload 5, 2) := by decide +kernel
theorem dX1_liveTurn_127 : decode cX1_liveTurn 127 = .ok (.aload_n 0, 1) := by decide +kernel
theorem dX1_liveTurn_128 : decode cX1_liveTurn 128 = .ok (.iload 4, 2) := by decide +kernel
theorem dX1_liveTurn_130 : decode cX1_liveTurn 130 = .ok (.invokevirtual 46, 3) := by decide +kernel
theorem dX1_liveTurn_133 : decode cX1_liveTurn 133 = .ok (.invokevirtual 60, 3) := by decide +kernel
theorem dX1_liveTurn_136 : decode cX1_liveTurn 136 = .ok (.return_, 1) := by decide +kernel
theorem dX1_liveDays_0 : decode cX1_liveDays 0 = .ok (.aload_n 0, 1) := by decide +kernel
theorem dX1_liveDays_1 : decode cX1_liveDays 1 = .ok (.iload_n 3, 1) := by decide +kernel
theorem dX1_liveDays_2 : decode cX1_liveDays 2 = .ok (.putfield 9, 3) := by decide +kernel
theorem dX1_liveDays_5 : decode cX1_liveDays 5 = .ok (.iload_n 2, 1) := by decide +kernel
theorem dX1_liveDays_6 : decode cX1_liveDays 6 = .ok (.aload_n 1, 1) := by decide +kernel
theorem dX1_liveDays_7 : decode cX1_liveDays 7 = .ok (.invokevirtual 16, 3) := by decide +kernel
theorem dX1_liveDays_10 : decode cX1_liveDays 10 = .ok (.invokestatic 22, 3) := by decide +kernel
theorem dX1_liveDays_13 : decode cX1_liveDays 13 = .ok (.istore 4, 2) := by decide +kernel
theorem dX1_liveDays_15 : decode cX1_liveDays 15 = .ok (.iconst 0, 1) := by decide +kernel
theorem dX1_liveDays_16 : decode cX1_liveDays 16 = .ok (.istore 5, 2) := by decide +kernel
theorem dX1_liveDays_18 : decode cX1_liveDays 18 = .ok (.iload 5, 2) := by decide +kernel
theorem dX1_liveDays_20 : decode cX1_liveDays 20 = .ok (.iload 4, 2) := by decide +kernel
theorem dX1_liveDays_22 : decode cX1_liveDays 22 = .ok (.if_icmp .ge 45, 3) := by decide +kernel
theorem dX1_liveDays_25 : decode cX1_liveDays 25 = .ok (.iconst 0, 1) := by decide +kernel
theorem dX1_liveDays_26 : decode cX1_liveDays 26 = .ok (.istore 6, 2) := by decide +kernel
theorem dX1_liveDays_28 : decode cX1_liveDays 28 = .ok (.iload 6, 2) := by decide +kernel
theorem dX1_liveDays_30 : decode cX1_liveDays 30 = .ok (.aload_n 1, 1) := by decide +kernel
theorem dX1_liveDays_31 : decode cX1_liveDays 31 = .ok (.getfield 28, 3) := by decide +kernel
theorem dX1_liveDays_34 : decode cX1_liveDays 34 = .ok (.getfield 32, 3) := by decide +kernel
theorem dX1_liveDays_37 : decode cX1_liveDays 37 = .ok (.iconst 2, 1) := by decide +kernel
theorem dX1_liveDays_38 : decode cX1_liveDays 38 = .ok (.iaload, 1) := by decide +kernel
theorem dX1_liveDays_39 : decode cX1_liveDays 39 = .ok (.if_icmp .ge 16, 3) := by decide +kernel
theorem dX1_liveDays_42 : decode cX1_liveDays 42 = .ok (.aload_n 0, 1) := by decide +kernel
theorem dX1_liveDays_43 : decode cX1_liveDays 43 = .ok (.aload_n 1, 1) := by decide +kernel
theorem dX1_liveDays_44 : decode cX1_liveDays 44 = .ok (.iload 6, 2) := by decide +kernel
theorem dX1_liveDays_46 : decode cX1_liveDays 46 = .ok (.invokevirtual 38, 3) := by decide +kernel
theorem dX1_liveDays_49 : decode cX1_liveDays 49 = .ok (.iinc 6 1, 3) := by decide +kernel
theorem dX1_liveDays_52 : decode cX1_liveDays 52 = .ok (.goto (-24), 3) := by decide +kernel
theorem dX1_liveDays_55 : decode cX1_liveDays 55 = .ok (.aload_n 1, 1) := by decide +kernel
theorem dX1_liveDays_56 : decode cX1_liveDays 56 = .ok (.iconst 1, 1) := by decide +kernel
theorem dX1_liveDays_57 : decode cX1_liveDays 57 = .ok (.invokevirtual 42, 3) := by decide +kernel
theorem dX1_liveDays_60 : decode cX1_liveDays 60 = .ok (.pop, 1) := by decide +kernel
theorem dX1_liveDays_61 : decode cX1_liveDays 61 = .ok (.iinc 5 1, 3) := by decide +kernel
theorem dX1_liveDays_64 : decode cX1_liveDays 64 = .ok (.goto (-46), 3) := by decide +kernel
theorem dX1_liveDays_67 : decode cX1_liveDays 67 = .ok (.iload 4, 2) := by decide +kernel
theorem dX1_liveDays_69 : decode cX1_liveDays 69 = .ok (.ireturn, 1) := by decide +kernel
theorem dX11_drawn_0 : decode cX11_drawn 0 = .ok (.iload_n 1, 1) := by decide +kernel
theorem dX11_drawn_1 : decode cX11_drawn 1 = .ok (.iconst 1, 1) := by decide +kernel
theorem dX11_drawn_2 : decode cX11_drawn 2 = .ok (.if_icmp .lt 9, 3) := by decide +kernel
theorem dX11_drawn_5 : decode cX11_drawn 5 = .ok (.iload_n 1, 1) := by decide +kernel
theorem dX11_drawn_6 : decode cX11_drawn 6 = .ok (.bipush 60, 2) := by decide +kernel
theorem dX11_drawn_8 : decode cX11_drawn 8 = .ok (.if_icmp .le 5, 3) := by decide +kernel
theorem dX11_drawn_11 : decode cX11_drawn 11 = .ok (.iconst (-1), 1) := by decide +kernel
theorem dX11_drawn_12 : decode cX11_drawn 12 = .ok (.ireturn, 1) := by decide +kernel
theorem dX11_drawn_13 : decode cX11_drawn 13 = .ok (.aload_n 0, 1) := by decide +kernel
theorem dX11_drawn_14 : decode cX11_drawn 14 = .ok (.getfield 28, 3) := by decide +kernel
theorem dX11_drawn_17 : decode cX11_drawn 17 = .ok (.invokevirtual 265, 3) := by decide +kernel
theorem dX11_drawn_20 : decode cX11_drawn 20 = .ok (.ifCond .ne 5, 3) := by decide +kernel
theorem dX11_drawn_23 : decode cX11_drawn 23 = .ok (.iconst 0, 1) := by decide +kernel
theorem dX11_drawn_24 : decode cX11_drawn 24 = .ok (.ireturn, 1) := by decide +kernel
theorem dX11_drawn_25 : decode cX11_drawn 25 = .ok (.aload_n 0, 1) := by decide +kernel
theorem dX11_drawn_26 : decode cX11_drawn 26 = .ok (.getfield 38, 3) := by decide +kernel
theorem dX11_drawn_29 : decode cX11_drawn 29 = .ok (.aload_n 0, 1) := by decide +kernel
theorem dX11_drawn_30 : decode cX11_drawn 30 = .ok (.getfield 28, 3) := by decide +kernel
theorem dX11_drawn_33 : decode cX11_drawn 33 = .ok (.invokevirtual 244, 3) := by decide +kernel
theorem dX11_drawn_36 : decode cX11_drawn 36 = .ok (.aload_n 0, 1) := by decide +kernel
theorem dX11_drawn_37 : decode cX11_drawn 37 = .ok (.getfield 96, 3) := by decide +kernel
theorem dX11_drawn_40 : decode cX11_drawn 40 = .ok (.aload_n 0, 1) := by decide +kernel
theorem dX11_drawn_41 : decode cX11_drawn 41 = .ok (.getfield 28, 3) := by decide +kernel
theorem dX11_drawn_44 : decode cX11_drawn 44 = .ok (.iload_n 1, 1) := by decide +kernel
theorem dX11_drawn_45 : decode cX11_drawn 45 = .ok (.iload_n 2, 1) := by decide +kernel
theorem dX11_drawn_46 : decode cX11_drawn 46 = .ok (.invokevirtual 353, 3) := by decide +kernel
theorem dX11_drawn_49 : decode cX11_drawn 49 = .ok (.ireturn, 1) := by decide +kernel
-- X11_book
abbrev rmX11_book : Room := { frames := 6, cells := 0, slots := 0, locals := 134 }
def fX11_book_99 (S : zSt)  : Option (Int32 × zSt) :=
  zBr ((S.1 240 7) = 0) (some ((-1 : Int32), S)) (some ((S.1 240 8), S))
set_option maxHeartbeats 4000000 in
set_option maxRecDepth 100000 in
theorem kX11_book_99 {p : Program} {l : Launch} {e : Env} {s : State} {m : MethodId} {args : Array Value} {below : List Frame} {meth : Method} {c : Code} {D : va_G} {cy : Nat → ClassId} {q : Nat → Nat} {A : Nat → Prop} (cx : zX RX11 cX11_book 3 p s m args c D cy) (hr : meth.sig.returnType = (some .int)) (hlk : meth.locks = false) (hq : zQ A q zNC) {z : (Int32 × zSt)} {S : zSt} (h : fX11_book_99 S = some z) {H : Heap} {locs : List Loc} (hP : va_P D vwCl (zW zsh zNC cy q S) H) (hS : va_S A s.heap H locs) {ls : Array Slot} (hl : lv_has ls 3 [(0, .ref (q 0))]) : W p l e rmX11_book s m args below meth c H locs 0 0 (MQ below (va_Qi (fun (r : Int32) (u : zSt) => (r, u) = z) (fun u t => va_P D vwCl (zW zsh zNC cy q u) t.heap) A) args s 0 0 A) (F0 m 99 ls []) := by
  have hx := cx.1
  have hb := cx.2.1
  unfold fX11_book_99 at h
  refine lv_aload_n (pc := 99) hx hb dX11_book_99 rfl (lv_at hl 0 rfl) ?_
  refine zr_getR (pc := 100) (t := 240) cx lk_X11_63 hP nC_0 sC_0 rfl dX11_book_100 ?_
  refine zr_getI (pc := 103) cx lk_X11_368 hP nC_240 sC_240 rfl dX11_book_103 ?_
  refine lv_if_ne (pc := 106) (tgt := 113) hx hb dX11_book_106 (by decide) (fun c13 => ?_) (fun c13 => ?_)
  · replace h := zBr_f c13 h
    refine lv_aload_n (pc := 113) hx hb dX11_book_113 rfl (lv_at hl 0 rfl) ?_
    refine zr_getR (pc := 114) (t := 240) cx lk_X11_63 hP nC_0 sC_0 rfl dX11_book_114 ?_
    refine zr_getI (pc := 117) cx lk_X11_365 hP nC_240 sC_240 rfl dX11_book_117 ?_
    have hz := Option.some.inj h
    exact zr_rqI (pc := 120) cx hr hlk hP hS hz dX11_book_120
  · replace h := zBr_t c13 h
    refine lv_iconst (pc := 109) hx hb dX11_book_109 zc_m1 ?_
    refine lv_goto (pc := 110) (tgt := 120) hx hb dX11_book_110 (by decide) ?_
    have hz := Option.some.inj h
    exact zr_rqI (pc := 120) cx hr hlk hP hS hz dX11_book_120
def fX11_book_13 (S : zSt)  (v1 : Int32) : Option (Int32 × zSt) :=
  zBp (fX0_readAll S) (fun r4 S3 => zBd (fX11_endReading S3) (fun S6 => zBr (r4 = 0) (some (((-2 : Int32) - (S6.1 1 10)), S6)) (zBd (fX6_copyFrom S6 29 14) (fun S9 => zBd (fX0_judge S9 29) (fun S11 => zBr (v1 = (1 : Int32)) (zBr ((S11.1 240 8) ≤ 0) (fX11_book_99 S11) (zBd (fX7_keep S11 14) (fun S16 => zBd (fX6_copyFrom S16 14 29) (fun S18 => fX11_book_99 S18)))) (fX11_book_99 S11))))))
set_option maxHeartbeats 4000000 in
set_option maxRecDepth 100000 in
theorem kX11_book_13 {p : Program} {l : Launch} {e : Env} {s : State} {m : MethodId} {args : Array Value} {below : List Frame} {meth : Method} {c : Code} {D : va_G} {cy : Nat → ClassId} {q : Nat → Nat} {A : Nat → Prop} (cx : zX RX11 cX11_book 3 p s m args c D cy) (hr : meth.sig.returnType = (some .int)) (hlk : meth.locks = false) (hq : zQ A q zNC) {z : (Int32 × zSt)} {S : zSt} {v1 : Int32} (h : fX11_book_13 S v1 = some z) {H : Heap} {locs : List Loc} (hP : va_P D vwCl (zW zsh zNC cy q S) H) (hS : va_S A s.heap H locs) {ls : Array Slot} (hl : lv_has ls 3 [(0, .ref (q 0)), (1, .int v1)]) : W p l e rmX11_book s m args below meth c H locs 0 0 (MQ below (va_Qi (fun (r : Int32) (u : zSt) => (r, u) = z) (fun u t => va_P D vwCl (zW zsh zNC cy q u) t.heap) A) args s 0 0 A) (F0 m 13 ls []) := by
  have hx := cx.1
  have hb := cx.2.1
  unfold fX11_book_13 at h
  refine lv_aload_n (pc := 13) hx hb dX11_book_13 rfl (lv_at hl 0 rfl) ?_
  refine zr_getR (pc := 14) (t := 240) cx lk_X11_63 hP nC_0 sC_0 rfl dX11_book_14 ?_
  obtain ⟨r4, S3, k2, h⟩ := zBp_e h
  refine zr_VQ (pc := 17) (rest := []) cx cv_X11_359 (mX0_readAll hq k2) ⟨⟨rfl, rfl⟩, Nat.le_of_ble_eq_true rfl, Nat.le_of_ble_eq_true rfl⟩ ⟨Nat.le_of_ble_eq_true rfl, Nat.le_of_ble_eq_true rfl⟩ hP hS nC_240 sC_240 rfl hl.1 rfl rfl (Nat.le_of_ble_eq_true rfl) dX11_book_17 (fun H locs hP hS => ?_)
  refine lv_istore_n (lv' := [(2, .int r4), (0, .ref (q 0)), (1, .int v1)]) (pc := 20) hx hb dX11_book_20 rfl hl (by decide) rfl (fun ls hl => ?_)
  refine lv_aload_n (pc := 21) hx hb dX11_book_21 rfl (lv_at hl 1 rfl) ?_
  obtain ⟨S6, k5, h⟩ := zBd_e h
  refine zr_VV (pc := 22) (rest := []) cx cv_X11_125 (mX11_endReading hq k5) ⟨⟨rfl, rfl⟩, Nat.le_of_ble_eq_true rfl, Nat.le_of_ble_eq_true rfl⟩ ⟨Nat.le_of_ble_eq_true rfl, Nat.le_of_ble_eq_true rfl⟩ hP hS nC_0 sC_0 rfl hl.1 rfl rfl (Nat.le_of_ble_eq_true rfl) dX11_book_22 (fun H locs hP hS => ?_)
  refine lv_iload_n (pc := 25) hx hb dX11_book_25 rfl (lv_at hl 0 rfl) ?_
  refine lv_if_ne (pc := 26) (tgt := 40) hx hb dX11_book_26 (by decide) (fun c7 => ?_) (fun c7 => ?_)
  · replace h := zBr_f c7 h
    refine lv_aload_n (pc := 40) hx hb dX11_book_40 rfl (lv_at hl 1 rfl) ?_
    refine zr_getR (pc := 41) (t := 29) cx lk_X11_32 hP nC_0 sC_0 rfl dX11_book_41 ?_
    refine lv_aload_n (pc := 44) hx hb dX11_book_44 rfl (lv_at hl 1 rfl) ?_
    refine zr_getR (pc := 45) (t := 14) cx lk_X11_28 hP nC_0 sC_0 rfl dX11_book_45 ?_
    obtain ⟨S9, k8, h⟩ := zBd_e h
    refine zr_VV (pc := 48) (rest := []) cx cv_X11_357 (mX6_copyFrom hq zLife_29 zLife_14 k8) ⟨⟨rfl, rfl⟩, Nat.le_of_ble_eq_true rfl, Nat.le_of_ble_eq_true rfl⟩ ⟨Nat.le_of_ble_eq_true rfl, Nat.le_of_ble_eq_true rfl⟩ hP hS (nX6_0 zLife_29) (sX6_0 zLife_29) rfl hl.1 rfl rfl (Nat.le_of_ble_eq_true rfl) dX11_book_48 (fun H locs hP hS => ?_)
    refine lv_aload_n (pc := 51) hx hb dX11_book_51 rfl (lv_at hl 1 rfl) ?_
    refine zr_getR (pc := 52) (t := 240) cx lk_X11_63 hP nC_0 sC_0 rfl dX11_book_52 ?_
    refine lv_aload_n (pc := 55) hx hb dX11_book_55 rfl (lv_at hl 1 rfl) ?_
    refine zr_getR (pc := 56) (t := 29) cx lk_X11_32 hP nC_0 sC_0 rfl dX11_book_56 ?_
    obtain ⟨S11, k10, h⟩ := zBd_e h
    refine zr_VV (pc := 59) (rest := []) cx cv_X11_362 (mX0_judge hq zLife_29 k10) ⟨⟨rfl, rfl⟩, Nat.le_of_ble_eq_true rfl, Nat.le_of_ble_eq_true rfl⟩ ⟨Nat.le_of_ble_eq_true rfl, Nat.le_of_ble_eq_true rfl⟩ hP hS nC_240 sC_240 rfl hl.1 rfl rfl (Nat.le_of_ble_eq_true rfl) dX11_book_59 (fun H locs hP hS => ?_)
    refine lv_iload_n (pc := 62) hx hb dX11_book_62 rfl (lv_at hl 2 rfl) ?_
    refine lv_iconst (pc := 63) hx hb dX11_book_63 zc_1 ?_
    refine lv_icmp_ne (pc := 64) (tgt := 99) hx hb dX11_book_64 (by decide) (fun c12 => ?_) (fun c12 => ?_)
    · replace h := zBr_f c12 h
      exact kX11_book_99 cx hr hlk hq h hP hS (lv_sub hl [1] rfl)
    · replace h := zBr_t c12 h
      refine lv_aload_n (pc := 67) hx hb dX11_book_67 rfl (lv_at hl 1 rfl) ?_
      refine zr_getR (pc := 68) (t := 240) cx lk_X11_63 hP nC_0 sC_0 rfl dX11_book_68 ?_
      refine zr_getI (pc := 71) cx lk_X11_365 hP nC_240 sC_240 rfl dX11_book_71 ?_
      refine lv_if_le (pc := 74) (tgt := 99) hx hb dX11_book_74 (by decide) (fun c14 => ?_) (fun c14 => ?_)
      · replace h := zBr_t c14 h
        exact kX11_book_99 cx hr hlk hq h hP hS (lv_sub hl [1] rfl)
      · replace h := zBr_f c14 h
        refine lv_aload_n (pc := 77) hx hb dX11_book_77 rfl (lv_at hl 1 rfl) ?_
        refine zr_getR (pc := 78) (t := 44) cx lk_X11_38 hP nC_0 sC_0 rfl dX11_book_78 ?_
        refine lv_aload_n (pc := 81) hx hb dX11_book_81 rfl (lv_at hl 1 rfl) ?_
        refine zr_getR (pc := 82) (t := 14) cx lk_X11_28 hP nC_0 sC_0 rfl dX11_book_82 ?_
        obtain ⟨S16, k15, h⟩ := zBd_e h
        refine zr_VV (pc := 85) (rest := []) cx cv_X11_244 (mX7_keep hq zLife_14 k15) ⟨⟨rfl, rfl⟩, Nat.le_of_ble_eq_true rfl, Nat.le_of_ble_eq_true rfl⟩ ⟨Nat.le_of_ble_eq_true rfl, Nat.le_of_ble_eq_true rfl⟩ hP hS nC_44 sC_44 rfl hl.1 rfl rfl (Nat.le_of_ble_eq_true rfl) dX11_book_85 (fun H locs hP hS => ?_)
        refine lv_aload_n (pc := 88) hx hb dX11_book_88 rfl (lv_at hl 1 rfl) ?_
        refine zr_getR (pc := 89) (t := 14) cx lk_X11_28 hP nC_0 sC_0 rfl dX11_book_89 ?_
        refine lv_aload_n (pc := 92) hx hb dX11_book_92 rfl (lv_at hl 1 rfl) ?_
        refine zr_getR (pc := 93) (t := 29) cx lk_X11_32 hP nC_0 sC_0 rfl dX11_book_93 ?_
        obtain ⟨S18, k17, h⟩ := zBd_e h
        refine zr_VV (pc := 96) (rest := []) cx cv_X11_357 (mX6_copyFrom hq zLife_14 zLife_29 k17) ⟨⟨rfl, rfl⟩, Nat.le_of_ble_eq_true rfl, Nat.le_of_ble_eq_true rfl⟩ ⟨Nat.le_of_ble_eq_true rfl, Nat.le_of_ble_eq_true rfl⟩ hP hS (nX6_0 zLife_14) (sX6_0 zLife_14) rfl hl.1 rfl rfl (Nat.le_of_ble_eq_true rfl) dX11_book_96 (fun H locs hP hS => ?_)
        exact kX11_book_99 cx hr hlk hq h hP hS (lv_sub hl [1] rfl)
  · replace h := zBr_t c7 h
    refine lv_bipush (pc := 29) hx hb dX11_book_29 zb_m2 ?_
    refine lv_aload_n (pc := 31) hx hb dX11_book_31 rfl (lv_at hl 1 rfl) ?_
    refine zr_getR (pc := 32) (t := 1) cx lk_X11_10 hP nC_0 sC_0 rfl dX11_book_32 ?_
    refine zr_getI (pc := 35) cx lk_X11_128 hP nC_1 sC_1 rfl dX11_book_35 ?_
    refine lv_isub (pc := 38) hx hb dX11_book_38 ?_
    have hz := Option.some.inj h
    exact zr_rqI (pc := 39) cx hr hlk hP hS hz dX11_book_39
def fX11_book (S : zSt) (v1 : Int32) : Option (Int32 × zSt) :=
  zBr (v1 = 0) (fX11_book_13 S v1) (zBr (v1 = (1 : Int32)) (fX11_book_13 S v1) (some ((-1000 : Int32), S)))
set_option maxHeartbeats 4000000 in
set_option maxRecDepth 100000 in
theorem mX11_book {l : Launch} {D : va_G} {cy : Nat → ClassId} {q : Nat → Nat} {A : Nat → Prop} {S : zSt} {v1 : Int32} (hq : zQ A q zNC) {z : (Int32 × zSt)} (h : fX11_book S v1 = some z) : zMq l yX11_book cX11_book 3 (some .int) rmX11_book [.ref (q 0), .int v1] zsh zNC D cy q A S z := by
  refine Met.ofW (cc := cX11_book) (maxL := 3) (ret := (some .int)) (by decide) rfl ?_
  intro p e s m args below meth c s₁ B hml hv
  obtain ⟨rfl, hP, hK⟩ := hv
  have cx : zX RX11 cX11_book 3 p s m ([.ref (q 0), .int v1]).toArray c D cy := ⟨B.exec, B.bytes, hml, findClass_of_methodNamed B.named, fun w hw => atoms_spec (ws := Cond.code yX11_book cX11_book 3 (some .int) :: zTB) B.pre w (List.mem_cons_of_mem _ hw), hK⟩
  have hx := cx.1
  have hb := cx.2.1
  have hr := B.returns
  have hlk := B.notSynchronized
  have hS : va_S A s.heap s.heap [] := va_S.rf
  have hl := lv_entry ([.ref (q 0), .int v1]) (n := 3) (Nat.le_of_ble_eq_true rfl)
  rw [lg_entry_eq]
  generalize (lg_sl ([.ref (q 0), .int v1]) ++ List.replicate (3 - (lg_sl ([.ref (q 0), .int v1])).length) Slot.unset).toArray = ls at hl ⊢
  have hl : lv_has ls 3 [(0, .ref (q 0)), (1, .int v1)] := hl
  unfold fX11_book at h
  refine lv_iload_n (pc := 0) hx hb dX11_book_0 rfl (lv_at hl 1 rfl) ?_
  refine lv_if_eq (pc := 1) (tgt := 13) hx hb dX11_book_1 (by decide) (fun c1 => ?_) (fun c1 => ?_)
  · replace h := zBr_t c1 h
    exact kX11_book_13 cx hr hlk hq h hP hS (lv_sub hl [0, 1] rfl)
  · replace h := zBr_f c1 h
    refine lv_iload_n (pc := 4) hx hb dX11_book_4 rfl (lv_at hl 1 rfl) ?_
    refine lv_iconst (pc := 5) hx hb dX11_book_5 zc_1 ?_
    refine lv_icmp_eq (pc := 6) (tgt := 13) hx hb dX11_book_6 (by decide) (fun c19 => ?_) (fun c19 => ?_)
    · replace h := zBr_t c19 h
      exact kX11_book_13 cx hr hlk hq h hP hS (lv_sub hl [0, 1] rfl)
    · replace h := zBr_f c19 h
      refine lv_sipush (pc := 9) hx hb dX11_book_9 zs_m1000 ?_
      have hz := Option.some.inj h
      exact zr_rqI (pc := 12) cx hr hlk hP hS hz dX11_book_12
-- X3_has
abbrev rmX3_has : Room := { frames := 0, cells := 0, slots := 0, locals := 0 }
def fX3_has (S : zSt) (a0 : Nat) (v1 : Int32) (v2 : Int32) : Option Int32 :=
  zBr (v2 < 0) (some (0 : Int32)) (zGd (zIx v1 4) (zBr ((S.1 (a0 + 1) v1.toNatClampNeg) ≤ v2) (some (0 : Int32)) (some (1 : Int32))))
set_option maxHeartbeats 4000000 in
set_option maxRecDepth 100000 in
theorem mX3_has {l : Launch} {D : va_G} {cy : Nat → ClassId} {q : Nat → Nat} {S : zSt} {a0 : Nat} {v1 : Int32} {v2 : Int32} (ha0 : zHouse a0) {z : Int32} (h : fX3_has S a0 v1 v2 = some z) : zMi l yX3_has cX3_has 3 (some .boolean) rmX3_has [.ref (q a0), .int v1, .int v2] (zPr zsh zNC D cy q S) z := by
  refine Met.ofW (cc := cX3_has) (maxL := 3) (ret := (some .boolean)) (by decide) rfl ?_
  intro p e s m args below meth c s₁ B hml hv
  obtain ⟨rfl, hP, hK⟩ := hv
  have cx : zX RX3 cX3_has 3 p s m ([.ref (q a0), .int v1, .int v2]).toArray c D cy := ⟨B.exec, B.bytes, hml, findClass_of_methodNamed B.named, fun w hw => atoms_spec (ws := Cond.code yX3_has cX3_has 3 (some .boolean) :: zTB) B.pre w (List.mem_cons_of_mem _ hw), hK⟩
  have hx := cx.1
  have hb := cx.2.1
  have hr := B.returns
  have hlk := B.notSynchronized
  have hl := lv_entry ([.ref (q a0), .int v1, .int v2]) (n := 3) (Nat.le_of_ble_eq_true rfl)
  rw [lg_entry_eq]
  generalize (lg_sl ([.ref (q a0), .int v1, .int v2]) ++ List.replicate (3 - (lg_sl ([.ref (q a0), .int v1, .int v2])).length) Slot.unset).toArray = ls at hl ⊢
  have hl : lv_has ls 3 [(0, .ref (q a0)), (1, .int v1), (2, .int v2)] := hl
  unfold fX3_has at h
  refine lv_iload_n (pc := 0) hx hb dX3_has_0 rfl (lv_at hl 2 rfl) ?_
  refine lv_if_lt (pc := 1) (tgt := 18) hx hb dX3_has_1 (by decide) (fun c1 => ?_) (fun c1 => ?_)
  · replace h := zBr_t c1 h
    refine lv_iconst (pc := 18) hx hb dX3_has_18 zc_0 ?_
    have hz := Option.some.inj h
    exact zr_reZ (pc := 19) cx hr hlk hz (by decide) dX3_has_19
  · replace h := zBr_f c1 h
    refine lv_iload_n (pc := 4) hx hb dX3_has_4 rfl (lv_at hl 2 rfl) ?_
    refine lv_aload_n (pc := 5) hx hb dX3_has_5 rfl (lv_at hl 0 rfl) ?_
    refine zr_getR (pc := 6) (t := (a0 + 1)) cx lk_X3_9 hP (nX3_0 ha0) (sX3_0 ha0) rfl dX3_has_6 ?_
    refine lv_iload_n (pc := 9) hx hb dX3_has_9 rfl (lv_at hl 1 rfl) ?_
    obtain ⟨g2, h⟩ := zGd_e h
    refine zr_iald (pc := 10) cx hP (nX3_1 ha0) (sX3_1 ha0) g2 dX3_has_10 ?_
    refine lv_icmp_ge (pc := 11) (tgt := 18) hx hb dX3_has_11 (by decide) (fun c3 => ?_) (fun c3 => ?_)
    · replace h := zBr_t c3 h
      refine lv_iconst (pc := 18) hx hb dX3_has_18 zc_0 ?_
      have hz := Option.some.inj h
      exact zr_reZ (pc := 19) cx hr hlk hz (by decide) dX3_has_19
    · replace h := zBr_f c3 h
      refine lv_iconst (pc := 14) hx hb dX3_has_14 zc_1 ?_
      refine lv_goto (pc := 15) (tgt := 19) hx hb dX3_has_15 (by decide) ?_
      have hz := Option.some.inj h
      exact zr_reZ (pc := 19) cx hr hlk hz (by decide) dX3_has_19
-- X11_carry
abbrev rmX11_carry : Room := { frames := 3, cells := 0, slots := 0, locals := 91 }
def fX11_carry (S : zSt) (v1 : Int32) (v2 : Int32) : Option (Int32 × zSt) :=
  zBd (fX3_has S 4 (1 : Int32) v1) (fun r2 => zBr (r2 = 0) (some ((-1 : Int32), S)) (zBd (fX3_has S 4 (0 : Int32) v2) (fun r5 => zBr (r5 = 0) (some ((-1 : Int32), S)) (zBd (fX6_whyNotCarry S 14 v1 v2) (fun r8 => zBr (r8 = 0) (zBd (fX7_keep S 14) (fun S11 => zBd (fX6_carryTo S11 14 v1 v2) (fun S13 => some (r8, S13)))) (some (r8, S)))))))
set_option maxHeartbeats 4000000 in
set_option maxRecDepth 100000 in
theorem mX11_carry {l : Launch} {D : va_G} {cy : Nat → ClassId} {q : Nat → Nat} {A : Nat → Prop} {S : zSt} {v1 : Int32} {v2 : Int32} (hq : zQ A q zNC) {z : (Int32 × zSt)} (h : fX11_carry S v1 v2 = some z) : zMq l yX11_carry cX11_carry 4 (some .int) rmX11_carry [.ref (q 0), .int v1, .int v2] zsh zNC D cy q A S z := by
  refine Met.ofW (cc := cX11_carry) (maxL := 4) (ret := (some .int)) (by decide) rfl ?_
  intro p e s m args below meth c s₁ B hml hv
  obtain ⟨rfl, hP, hK⟩ := hv
  have cx : zX RX11 cX11_carry 4 p s m ([.ref (q 0), .int v1, .int v2]).toArray c D cy := ⟨B.exec, B.bytes, hml, findClass_of_methodNamed B.named, fun w hw => atoms_spec (ws := Cond.code yX11_carry cX11_carry 4 (some .int) :: zTB) B.pre w (List.mem_cons_of_mem _ hw), hK⟩
  have hx := cx.1
  have hb := cx.2.1
  have hr := B.returns
  have hlk := B.notSynchronized
  have hS : va_S A s.heap s.heap [] := va_S.rf
  have hl := lv_entry ([.ref (q 0), .int v1, .int v2]) (n := 4) (Nat.le_of_ble_eq_true rfl)
  rw [lg_entry_eq]
  generalize (lg_sl ([.ref (q 0), .int v1, .int v2]) ++ List.replicate (4 - (lg_sl ([.ref (q 0), .int v1, .int v2])).length) Slot.unset).toArray = ls at hl ⊢
  have hl : lv_has ls 4 [(0, .ref (q 0)), (1, .int v1), (2, .int v2)] := hl
  unfold fX11_carry at h
  refine lv_aload_n (pc := 0) hx hb dX11_carry_0 rfl (lv_at hl 0 rfl) ?_
  refine zr_getR (pc := 1) (t := 4) cx lk_X11_19 hP nC_0 sC_0 rfl dX11_carry_1 ?_
  refine lv_iconst (pc := 4) hx hb dX11_carry_4 zc_1 ?_
  refine lv_iload_n (pc := 5) hx hb dX11_carry_5 rfl (lv_at hl 1 rfl) ?_
  obtain ⟨r2, k1, h⟩ := zBd_e h
  refine zr_VI (pc := 6) (rest := []) cx cv_X11_149 (mX3_has zHouse_4 k1) ⟨⟨rfl, rfl⟩, Nat.le_of_ble_eq_true rfl, Nat.le_of_ble_eq_true rfl⟩ ⟨Nat.le_of_ble_eq_true rfl, Nat.le_of_ble_eq_true rfl⟩ hP (nX3_0 zHouse_4) (sX3_0 zHouse_4) rfl hl.1 rfl rfl (Nat.le_of_ble_eq_true rfl) dX11_carry_6 ?_
  refine lv_if_eq (pc := 9) (tgt := 24) hx hb dX11_carry_9 (by decide) (fun c3 => ?_) (fun c3 => ?_)
  · replace h := zBr_t c3 h
    refine lv_iconst (pc := 24) hx hb dX11_carry_24 zc_m1 ?_
    have hz := Option.some.inj h
    exact zr_rqI (pc := 25) cx hr hlk hP hS hz dX11_carry_25
  · replace h := zBr_f c3 h
    refine lv_aload_n (pc := 12) hx hb dX11_carry_12 rfl (lv_at hl 0 rfl) ?_
    refine zr_getR (pc := 13) (t := 4) cx lk_X11_19 hP nC_0 sC_0 rfl dX11_carry_13 ?_
    refine lv_iconst (pc := 16) hx hb dX11_carry_16 zc_0 ?_
    refine lv_iload_n (pc := 17) hx hb dX11_carry_17 rfl (lv_at hl 2 rfl) ?_
    obtain ⟨r5, k4, h⟩ := zBd_e h
    refine zr_VI (pc := 18) (rest := []) cx cv_X11_149 (mX3_has zHouse_4 k4) ⟨⟨rfl, rfl⟩, Nat.le_of_ble_eq_true rfl, Nat.le_of_ble_eq_true rfl⟩ ⟨Nat.le_of_ble_eq_true rfl, Nat.le_of_ble_eq_true rfl⟩ hP (nX3_0 zHouse_4) (sX3_0 zHouse_4) rfl hl.1 rfl rfl (Nat.le_of_ble_eq_true rfl) dX11_carry_18 ?_
    refine lv_if_ne (pc := 21) (tgt := 26) hx hb dX11_carry_21 (by decide) (fun c6 => ?_) (fun c6 => ?_)
    · replace h := zBr_f c6 h
      refine lv_aload_n (pc := 26) hx hb dX11_carry_26 rfl (lv_at hl 0 rfl) ?_
      refine zr_getR (pc := 27) (t := 14) cx lk_X11_28 hP nC_0 sC_0 rfl dX11_carry_27 ?_
      refine lv_iload_n (pc := 30) hx hb dX11_carry_30 rfl (lv_at hl 1 rfl) ?_
      refine lv_iload_n (pc := 31) hx hb dX11_carry_31 rfl (lv_at hl 2 rfl) ?_
      obtain ⟨r8, k7, h⟩ := zBd_e h
      refine zr_VI (pc := 32) (rest := []) cx cv_X11_258 (mX6_whyNotCarry zLife_14 k7) ⟨⟨rfl, rfl⟩, Nat.le_of_ble_eq_true rfl, Nat.le_of_ble_eq_true rfl⟩ ⟨Nat.le_of_ble_eq_true rfl, Nat.le_of_ble_eq_true rfl⟩ hP (nX6_0 zLife_14) (sX6_0 zLife_14) rfl hl.1 rfl rfl (Nat.le_of_ble_eq_true rfl) dX11_carry_32 ?_
      refine lv_istore_n (lv' := [(3, .int r8), (0, .ref (q 0)), (1, .int v1), (2, .int v2)]) (pc := 35) hx hb dX11_carry_35 rfl hl (by decide) rfl (fun ls hl => ?_)
      refine lv_iload_n (pc := 36) hx hb dX11_carry_36 rfl (lv_at hl 0 rfl) ?_
      refine lv_if_ne (pc := 37) (tgt := 60) hx hb dX11_carry_37 (by decide) (fun c9 => ?_) (fun c9 => ?_)
      · replace h := zBr_f c9 h
        refine lv_iload_n (pc := 60) hx hb dX11_carry_60 rfl (lv_at hl 0 rfl) ?_
        have hz := Option.some.inj h
        exact zr_rqI (pc := 61) cx hr hlk hP hS hz dX11_carry_61
      · replace h := zBr_t c9 h
        refine lv_aload_n (pc := 40) hx hb dX11_carry_40 rfl (lv_at hl 1 rfl) ?_
        refine zr_getR (pc := 41) (t := 44) cx lk_X11_38 hP nC_0 sC_0 rfl dX11_carry_41 ?_
        refine lv_aload_n (pc := 44) hx hb dX11_carry_44 rfl (lv_at hl 1 rfl) ?_
        refine zr_getR (pc := 45) (t := 14) cx lk_X11_28 hP nC_0 sC_0 rfl dX11_carry_45 ?_
        obtain ⟨S11, k10, h⟩ := zBd_e h
        refine zr_VV (pc := 48) (rest := []) cx cv_X11_244 (mX7_keep hq zLife_14 k10) ⟨⟨rfl, rfl⟩, Nat.le_of_ble_eq_true rfl, Nat.le_of_ble_eq_true rfl⟩ ⟨Nat.le_of_ble_eq_true rfl, Nat.le_of_ble_eq_true rfl⟩ hP hS nC_44 sC_44 rfl hl.1 rfl rfl (Nat.le_of_ble_eq_true rfl) dX11_carry_48 (fun H locs hP hS => ?_)
        refine lv_aload_n (pc := 51) hx hb dX11_carry_51 rfl (lv_at hl 1 rfl) ?_
        refine zr_getR (pc := 52) (t := 14) cx lk_X11_28 hP nC_0 sC_0 rfl dX11_carry_52 ?_
        refine lv_iload_n (pc := 55) hx hb dX11_carry_55 rfl (lv_at hl 2 rfl) ?_
        refine lv_iload_n (pc := 56) hx hb dX11_carry_56 rfl (lv_at hl 3 rfl) ?_
        obtain ⟨S13, k12, h⟩ := zBd_e h
        refine zr_VV (pc := 57) (rest := []) cx cv_X11_261 (mX6_carryTo hq zLife_14 k12) ⟨⟨rfl, rfl⟩, Nat.le_of_ble_eq_true rfl, Nat.le_of_ble_eq_true rfl⟩ ⟨Nat.le_of_ble_eq_true rfl, Nat.le_of_ble_eq_true rfl⟩ hP hS (nX6_0 zLife_14) (sX6_0 zLife_14) rfl hl.1 rfl rfl (Nat.le_of_ble_eq_true rfl) dX11_carry_57 (fun H locs hP hS => ?_)
        refine lv_iload_n (pc := 60) hx hb dX11_carry_60 rfl (lv_at hl 0 rfl) ?_
        have hz := Option.some.inj h
        exact zr_rqI (pc := 61) cx hr hlk hP hS hz dX11_carry_61
    · replace h := zBr_t c6 h
      refine lv_iconst (pc := 24) hx hb dX11_carry_24 zc_m1 ?_
      have hz := Option.some.inj h
      exact zr_rqI (pc := 25) cx hr hlk hP hS hz dX11_carry_25
-- X2_plantsSeeing
abbrev rmX2_plantsSeeing : Room := { frames := 1, cells := 0, slots := 0, locals := 21 }
def fX2_plantsSeeing_71 (S : zSt)  (v1 : Int32) (v2 : Int32) (v3 : Int32) (v4 : Int32) (v5 : Int32) : Option ((Int32 × Int32) ⊕ Int32) :=
  zLt (v5 + (1 : Int32)) (fun x10 => some (.inl (v4, x10)))
set_option maxHeartbeats 4000000 in
set_option maxRecDepth 100000 in
theorem kX2_plantsSeeing_71 {p : Program} {l : Launch} {e : Env} {s : State} {m : MethodId} {args : Array Value} {below : List Frame} {meth : Method} {c : Code} {D : va_G} {cy : Nat → ClassId} {q : Nat → Nat} (cx : zX RX2 cX2_plantsSeeing 7 p s m args c D cy) (hr : meth.sig.returnType = (some .int)) (hlk : meth.locks = false) {z : Int32} {S : zSt} {v1 : Int32} {v2 : Int32} {v3 : Int32} {v4 : Int32} {v5 : Int32} {C1 : ((Int32 × Int32) ⊕ Int32) → Prop} (hb1 : ∀ (v4 : Int32) (v5 : Int32), C1 (.inl (v4, v5)) → ∀ (ls : Array Slot), lv_has ls 7 [(0, .ref (q 255)), (1, .int v1), (2, .int v2), (3, .int v3), (4, .int v4), (5, .int v5)] → W p l e rmX2_plantsSeeing s m args below meth c s.heap [] 0 0 (MQ below (vp_Si (fun x => x = z)) args s 0 0 (fun _ => False)) (F0 m 6 ls [])) (hx1 : ∀ a, C1 (.inr a) → a = z) (hP : va_P D vwCl (zW zsh zNC cy q S) s.heap) {x : ((Int32 × Int32) ⊕ Int32)} (h : fX2_plantsSeeing_71 S v1 v2 v3 v4 v5 = some x) (hc : C1 x) {ls : Array Slot} (hl : lv_has ls 7 [(0, .ref (q 255)), (1, .int v1), (2, .int v2), (3, .int v3), (4, .int v4), (5, .int v5)]) : W p l e rmX2_plantsSeeing s m args below meth c s.heap [] 0 0 (MQ below (vp_Si (fun x => x = z)) args s 0 0 (fun _ => False)) (F0 m 71 ls []) := by
  have hx := cx.1
  have hb := cx.2.1
  unfold fX2_plantsSeeing_71 at h
  obtain ⟨x10, ex10, h⟩ := zLt_e h
  refine lv_iinc (v := x10) (lv' := [(5, .int x10), (0, .ref (q 255)), (1, .int v1), (2, .int v2), (3, .int v3), (4, .int v4)]) (pc := 71) hx hb dX2_plantsSeeing_71 hl (k := 5) rfl (by rw [zc_1]; exact ex10.symm) (by decide) rfl (fun ls hl => ?_)
  refine lv_goto (pc := 74) (tgt := 6) hx hb dX2_plantsSeeing_74 (by decide) ?_
  cases h
  exact hb1 _ _ hc _ (lv_sub hl [1, 2, 3, 4, 5, 0] rfl)
def fX2_plantsSeeing_38 (S : zSt)  (v1 : Int32) (v2 : Int32) (v3 : Int32) (v4 : Int32) (v5 : Int32) (t0 : Int32) : Option ((Int32 × Int32) ⊕ Int32) :=
  zBd (fX6_isBlind S 14 v5) (fun r8 => zBr (r8 = 0) (zBd (fX3_reach S 4 t0) (fun r12 => zBd (fX11_hasBit r12 v1) (fun r14 => zBr (r14 = 0) (fX2_plantsSeeing_71 S v1 v2 v3 v4 v5) (zLt (v4 + (1 : Int32)) (fun x16 => fX2_plantsSeeing_71 S v1 v2 v3 x16 v5))))) (fX2_plantsSeeing_71 S v1 v2 v3 v4 v5))
set_option maxHeartbeats 4000000 in
set_option maxRecDepth 100000 in
theorem kX2_plantsSeeing_38 {p : Program} {l : Launch} {e : Env} {s : State} {m : MethodId} {args : Array Value} {below : List Frame} {meth : Method} {c : Code} {D : va_G} {cy : Nat → ClassId} {q : Nat → Nat} (cx : zX RX2 cX2_plantsSeeing 7 p s m args c D cy) (hr : meth.sig.returnType = (some .int)) (hlk : meth.locks = false) {z : Int32} {S : zSt} {v1 : Int32} {v2 : Int32} {v3 : Int32} {v4 : Int32} {v5 : Int32} {t0 : Int32} {C1 : ((Int32 × Int32) ⊕ Int32) → Prop} (hb1 : ∀ (v4 : Int32) (v5 : Int32), C1 (.inl (v4, v5)) → ∀ (ls : Array Slot), lv_has ls 7 [(0, .ref (q 255)), (1, .int v1), (2, .int v2), (3, .int v3), (4, .int v4), (5, .int v5)] → W p l e rmX2_plantsSeeing s m args below meth c s.heap [] 0 0 (MQ below (vp_Si (fun x => x = z)) args s 0 0 (fun _ => False)) (F0 m 6 ls [])) (hx1 : ∀ a, C1 (.inr a) → a = z) (hP : va_P D vwCl (zW zsh zNC cy q S) s.heap) {x : ((Int32 × Int32) ⊕ Int32)} (h : fX2_plantsSeeing_38 S v1 v2 v3 v4 v5 t0 = some x) (hc : C1 x) {ls : Array Slot} (hl : lv_has ls 7 [(0, .ref (q 255)), (1, .int v1), (2, .int v2), (3, .int v3), (4, .int v4), (5, .int v5)]) : W p l e rmX2_plantsSeeing s m args below meth c s.heap [] 0 0 (MQ below (vp_Si (fun x => x = z)) args s 0 0 (fun _ => False)) (F0 m 38 ls [.int t0]) := by
  have hx := cx.1
  have hb := cx.2.1
  unfold fX2_plantsSeeing_38 at h
  refine lv_istore (lv' := [(6, .int t0), (0, .ref (q 255)), (1, .int v1), (2, .int v2), (3, .int v3), (4, .int v4), (5, .int v5)]) (pc := 38) hx hb dX2_plantsSeeing_38 hl (by decide) rfl (fun ls hl => ?_)
  refine lv_aload_n (pc := 40) hx hb dX2_plantsSeeing_40 rfl (lv_at hl 1 rfl) ?_
  refine zr_getR (pc := 41) (t := 14) cx lk_X2_25 hP nC_255 sC_255 rfl dX2_plantsSeeing_41 ?_
  refine lv_iload (pc := 44) hx hb dX2_plantsSeeing_44 (lv_at hl 6 rfl) ?_
  obtain ⟨r8, k7, h⟩ := zBd_e h
  refine zr_VI (pc := 46) (rest := []) cx cv_X2_119 (mX6_isBlind zLife_14 k7) ⟨⟨rfl, rfl⟩, Nat.le_of_ble_eq_true rfl, Nat.le_of_ble_eq_true rfl⟩ ⟨Nat.le_of_ble_eq_true rfl, Nat.le_of_ble_eq_true rfl⟩ hP (nX6_0 zLife_14) (sX6_0 zLife_14) rfl hl.1 rfl rfl (Nat.le_of_ble_eq_true rfl) dX2_plantsSeeing_46 ?_
  refine lv_if_ne (pc := 49) (tgt := 71) hx hb dX2_plantsSeeing_49 (by decide) (fun c9 => ?_) (fun c9 => ?_)
  · replace h := zBr_f c9 h
    exact kX2_plantsSeeing_71 cx hr hlk hb1 hx1 hP h hc (lv_sub hl [1, 2, 3, 4, 5, 6] rfl)
  · replace h := zBr_t c9 h
    refine lv_aload_n (pc := 52) hx hb dX2_plantsSeeing_52 rfl (lv_at hl 1 rfl) ?_
    refine zr_getR (pc := 53) (t := 4) cx lk_X2_21 hP nC_255 sC_255 rfl dX2_plantsSeeing_53 ?_
    refine lv_iload (pc := 56) hx hb dX2_plantsSeeing_56 (lv_at hl 0 rfl) ?_
    obtain ⟨r12, k11, h⟩ := zBd_e h
    refine zr_VI (pc := 58) (rest := []) cx cv_X2_106 (mX3_reach zHouse_4 k11) ⟨⟨rfl, rfl⟩, Nat.le_of_ble_eq_true rfl, Nat.le_of_ble_eq_true rfl⟩ ⟨Nat.le_of_ble_eq_true rfl, Nat.le_of_ble_eq_true rfl⟩ hP (nX3_0 zHouse_4) (sX3_0 zHouse_4) rfl hl.1 rfl rfl (Nat.le_of_ble_eq_true rfl) dX2_plantsSeeing_58 ?_
    refine lv_iload_n (pc := 61) hx hb dX2_plantsSeeing_61 rfl (lv_at hl 2 rfl) ?_
    obtain ⟨r14, k13, h⟩ := zBd_e h
    refine zr_NI (pc := 62) (rest := []) cx cv_X2_70 (mX11_hasBit k13) ⟨⟨rfl, rfl⟩, Nat.le_of_ble_eq_true rfl, Nat.le_of_ble_eq_true rfl⟩ ⟨Nat.le_of_ble_eq_true rfl, Nat.le_of_ble_eq_true rfl⟩ (zr_preK cx) hl.1 rfl rfl (Nat.le_of_ble_eq_true rfl) dX2_plantsSeeing_62 ?_
    refine lv_if_eq (pc := 65) (tgt := 71) hx hb dX2_plantsSeeing_65 (by decide) (fun c15 => ?_) (fun c15 => ?_)
    · replace h := zBr_t c15 h
      exact kX2_plantsSeeing_71 cx hr hlk hb1 hx1 hP h hc (lv_sub hl [1, 2, 3, 4, 5, 6] rfl)
    · replace h := zBr_f c15 h
      obtain ⟨x16, ex16, h⟩ := zLt_e h
      refine lv_iinc (v := x16) (lv' := [(4, .int x16), (6, .int t0), (0, .ref (q 255)), (1, .int v1), (2, .int v2), (3, .int v3), (5, .int v5)]) (pc := 68) hx hb dX2_plantsSeeing_68 hl (k := 5) rfl (by rw [zc_1]; exact ex16.symm) (by decide) rfl (fun ls hl => ?_)
      exact kX2_plantsSeeing_71 cx hr hlk hb1 hx1 hP h hc (lv_sub hl [2, 3, 4, 5, 0, 6] rfl)
def fX2_plantsSeeing_6 (S : zSt)  (v1 : Int32) (v2 : Int32) (v3 : Int32) (t : (Int32 × Int32)) : Option ((Int32 × Int32) ⊕ Int32) :=
  match t with
  | (v4, v5) => zBd (fX6_plants S 14) (fun r2 => zBr (r2 ≤ v5) (zXr (some v4)) (zBr (v5 = v2) (fX2_plantsSeeing_38 S v1 v2 v3 v4 v5 v3) (zGd (zIx v5 6) (fX2_plantsSeeing_38 S v1 v2 v3 v4 v5 (S.1 (14 + 13) v5.toNatClampNeg)))))
set_option maxHeartbeats 4000000 in
set_option maxRecDepth 100000 in
theorem kX2_plantsSeeing_6B {p : Program} {l : Launch} {e : Env} {s : State} {m : MethodId} {args : Array Value} {below : List Frame} {meth : Method} {c : Code} {D : va_G} {cy : Nat → ClassId} {q : Nat → Nat} (cx : zX RX2 cX2_plantsSeeing 7 p s m args c D cy) (hr : meth.sig.returnType = (some .int)) (hlk : meth.locks = false) {z : Int32} {S : zSt} {v1 : Int32} {v2 : Int32} {v3 : Int32} {v4 : Int32} {v5 : Int32} {C1 : ((Int32 × Int32) ⊕ Int32) → Prop} (hb1 : ∀ (v4 : Int32) (v5 : Int32), C1 (.inl (v4, v5)) → ∀ (ls : Array Slot), lv_has ls 7 [(0, .ref (q 255)), (1, .int v1), (2, .int v2), (3, .int v3), (4, .int v4), (5, .int v5)] → W p l e rmX2_plantsSeeing s m args below meth c s.heap [] 0 0 (MQ below (vp_Si (fun x => x = z)) args s 0 0 (fun _ => False)) (F0 m 6 ls [])) (hx1 : ∀ a, C1 (.inr a) → a = z) (hP : va_P D vwCl (zW zsh zNC cy q S) s.heap) {x : ((Int32 × Int32) ⊕ Int32)} (h : fX2_plantsSeeing_6 S v1 v2 v3 (v4, v5) = some x) (hc : C1 x) {ls : Array Slot} (hl : lv_has ls 7 [(0, .ref (q 255)), (1, .int v1), (2, .int v2), (3, .int v3), (4, .int v4), (5, .int v5)]) : W p l e rmX2_plantsSeeing s m args below meth c s.heap [] 0 0 (MQ below (vp_Si (fun x => x = z)) args s 0 0 (fun _ => False)) (F0 m 6 ls []) := by
  have hx := cx.1
  have hb := cx.2.1
  unfold fX2_plantsSeeing_6 at h
  dsimp only at h
  refine lv_iload (pc := 6) hx hb dX2_plantsSeeing_6 (lv_at hl 5 rfl) ?_
  refine lv_aload_n (pc := 8) hx hb dX2_plantsSeeing_8 rfl (lv_at hl 0 rfl) ?_
  refine zr_getR (pc := 9) (t := 14) cx lk_X2_25 hP nC_255 sC_255 rfl dX2_plantsSeeing_9 ?_
  obtain ⟨r2, k1, h⟩ := zBd_e h
  refine zr_VI (pc := 12) (rest := [.int v5]) cx cv_X2_29 (mX6_plants zLife_14 k1) ⟨⟨rfl, rfl⟩, Nat.le_of_ble_eq_true rfl, Nat.le_of_ble_eq_true rfl⟩ ⟨Nat.le_of_ble_eq_true rfl, Nat.le_of_ble_eq_true rfl⟩ hP (nX6_0 zLife_14) (sX6_0 zLife_14) rfl hl.1 rfl rfl (Nat.le_of_ble_eq_true rfl) dX2_plantsSeeing_12 ?_
  refine lv_icmp_ge (pc := 15) (tgt := 77) hx hb dX2_plantsSeeing_15 (by decide) (fun c3 => ?_) (fun c3 => ?_)
  · replace h := zBr_t c3 h
    obtain ⟨y4, h, ex⟩ := zXr_e h
    have hc := hx1 y4 (by rw [ex] at hc; exact hc)
    rw [hc] at h
    refine lv_iload (pc := 77) hx hb dX2_plantsSeeing_77 (lv_at hl 4 rfl) ?_
    have hz := Option.some.inj h
    exact zr_reI (pc := 79) cx hr hlk hz dX2_plantsSeeing_79
  · replace h := zBr_f c3 h
    refine lv_iload (pc := 18) hx hb dX2_plantsSeeing_18 (lv_at hl 5 rfl) ?_
    refine lv_iload_n (pc := 20) hx hb dX2_plantsSeeing_20 rfl (lv_at hl 2 rfl) ?_
    refine lv_icmp_ne (pc := 21) (tgt := 28) hx hb dX2_plantsSeeing_21 (by decide) (fun c5 => ?_) (fun c5 => ?_)
    · replace h := zBr_f c5 h
      refine lv_aload_n (pc := 28) hx hb dX2_plantsSeeing_28 rfl (lv_at hl 0 rfl) ?_
      refine zr_getR (pc := 29) (t := 14) cx lk_X2_25 hP nC_255 sC_255 rfl dX2_plantsSeeing_29 ?_
      refine zr_getR (pc := 32) (t := (14 + 13)) cx lk_X2_116 hP (nX6_0 zLife_14) (sX6_0 zLife_14) rfl dX2_plantsSeeing_32 ?_
      refine lv_iload (pc := 35) hx hb dX2_plantsSeeing_35 (lv_at hl 5 rfl) ?_
      obtain ⟨g6, h⟩ := zGd_e h
      refine zr_iald (pc := 37) cx hP (nX6_13 zLife_14) (sX6_13 zLife_14) g6 dX2_plantsSeeing_37 ?_
      exact kX2_plantsSeeing_38 cx hr hlk hb1 hx1 hP h hc (lv_sub hl [0, 1, 2, 3, 4, 5] rfl)
    · replace h := zBr_t c5 h
      refine lv_iload_n (pc := 24) hx hb dX2_plantsSeeing_24 rfl (lv_at hl 3 rfl) ?_
      refine lv_goto (pc := 25) (tgt := 38) hx hb dX2_plantsSeeing_25 (by decide) ?_
      exact kX2_plantsSeeing_38 cx hr hlk hb1 hx1 hP h hc (lv_sub hl [0, 1, 2, 3, 4, 5] rfl)
set_option maxHeartbeats 4000000 in
set_option maxRecDepth 100000 in
theorem kX2_plantsSeeing_6 {p : Program} {l : Launch} {e : Env} {s : State} {m : MethodId} {args : Array Value} {below : List Frame} {meth : Method} {c : Code} {D : va_G} {cy : Nat → ClassId} {q : Nat → Nat} (cx : zX RX2 cX2_plantsSeeing 7 p s m args c D cy) (hr : meth.sig.returnType = (some .int)) (hlk : meth.locks = false) {z : Int32} {S : zSt} {v1 : Int32} {v2 : Int32} {v3 : Int32} (hP : va_P D vwCl (zW zsh zNC cy q S) s.heap) : ∀ (n : Nat) (v4 : Int32) (v5 : Int32), zLp (fX2_plantsSeeing_6 S v1 v2 v3) n (v4, v5) = some z → ∀ (ls : Array Slot), lv_has ls 7 [(0, .ref (q 255)), (1, .int v1), (2, .int v2), (3, .int v3), (4, .int v4), (5, .int v5)] → W p l e rmX2_plantsSeeing s m args below meth c s.heap [] 0 0 (MQ below (vp_Si (fun x => x = z)) args s 0 0 (fun _ => False)) (F0 m 6 ls []) := by
  intro n
  induction n with
  | zero =>
    intro v4 v5 h
    cases h
  | succ n ih =>
    intro v4 v5 h ls hl
    obtain ⟨x, h, hk⟩ := zLp_e h
    exact kX2_plantsSeeing_6B cx hr hlk  (C1 := zKt (fun t => zLp (fX2_plantsSeeing_6 S v1 v2 v3) n t = some z) (fun a => a = z)) (fun v4 v5 ht ls hl => ih v4 v5 ht ls hl) (fun a ha => ha) hP h hk hl
def fX2_plantsSeeing (S : zSt) (v1 : Int32) (v2 : Int32) (v3 : Int32) : Option Int32 :=
  zLp (fX2_plantsSeeing_6 S v1 v2 v3) 2000 ((0 : Int32), (0 : Int32))
set_option maxHeartbeats 4000000 in
set_option maxRecDepth 100000 in
theorem mX2_plantsSeeing {l : Launch} {D : va_G} {cy : Nat → ClassId} {q : Nat → Nat} {S : zSt} {v1 : Int32} {v2 : Int32} {v3 : Int32} {z : Int32} (h : fX2_plantsSeeing S v1 v2 v3 = some z) : zMi l yX2_plantsSeeing cX2_plantsSeeing 7 (some .int) rmX2_plantsSeeing [.ref (q 255), .int v1, .int v2, .int v3] (zPr zsh zNC D cy q S) z := by
  refine Met.ofW (cc := cX2_plantsSeeing) (maxL := 7) (ret := (some .int)) (by decide) rfl ?_
  intro p e s m args below meth c s₁ B hml hv
  obtain ⟨rfl, hP, hK⟩ := hv
  have cx : zX RX2 cX2_plantsSeeing 7 p s m ([.ref (q 255), .int v1, .int v2, .int v3]).toArray c D cy := ⟨B.exec, B.bytes, hml, findClass_of_methodNamed B.named, fun w hw => atoms_spec (ws := Cond.code yX2_plantsSeeing cX2_plantsSeeing 7 (some .int) :: zTB) B.pre w (List.mem_cons_of_mem _ hw), hK⟩
  have hx := cx.1
  have hb := cx.2.1
  have hr := B.returns
  have hlk := B.notSynchronized
  have hl := lv_entry ([.ref (q 255), .int v1, .int v2, .int v3]) (n := 7) (Nat.le_of_ble_eq_true rfl)
  rw [lg_entry_eq]
  generalize (lg_sl ([.ref (q 255), .int v1, .int v2, .int v3]) ++ List.replicate (7 - (lg_sl ([.ref (q 255), .int v1, .int v2, .int v3])).length) Slot.unset).toArray = ls at hl ⊢
  have hl : lv_has ls 7 [(0, .ref (q 255)), (1, .int v1), (2, .int v2), (3, .int v3)] := hl
  unfold fX2_plantsSeeing at h
  refine lv_iconst (pc := 0) hx hb dX2_plantsSeeing_0 zc_0 ?_
  refine lv_istore (lv' := [(4, .int (0 : Int32)), (0, .ref (q 255)), (1, .int v1), (2, .int v2), (3, .int v3)]) (pc := 1) hx hb dX2_plantsSeeing_1 hl (by decide) rfl (fun ls hl => ?_)
  refine lv_iconst (pc := 3) hx hb dX2_plantsSeeing_3 zc_0 ?_
  refine lv_istore (lv' := [(5, .int (0 : Int32)), (4, .int (0 : Int32)), (0, .ref (q 255)), (1, .int v1), (2, .int v2), (3, .int v3)]) (pc := 4) hx hb dX2_plantsSeeing_4 hl (by decide) rfl (fun ls hl => ?_)
  exact kX2_plantsSeeing_6 cx hr hlk hP 2000 _ _ h _ (lv_sub hl [2, 3, 4, 5, 1, 0] rfl)
-- X2_familysAnswer
abbrev rmX2_familysAnswer : Room := { frames := 2, cells := 0, slots := 0, locals := 47 }
def fX2_familysAnswer_40 (S : zSt)  (v1 : Int32) (v2 : Int32) (v3 : Int32) (v4 : Int32) : Option ((Int32 × Int32) ⊕ Int32) :=
  zLt (v4 + (1 : Int32)) (fun x9 => some (.inl (v3, x9)))
set_option maxHeartbeats 4000000 in
set_option maxRecDepth 100000 in
theorem kX2_familysAnswer_40 {p : Program} {l : Launch} {e : Env} {s : State} {m : MethodId} {args : Array Value} {below : List Frame} {meth : Method} {c : Code} {D : va_G} {cy : Nat → ClassId} {q : Nat → Nat} (cx : zX RX2 cX2_familysAnswer 5 p s m args c D cy) (hr : meth.sig.returnType = (some .int)) (hlk : meth.locks = false) {z : Int32} {S : zSt} {v1 : Int32} {v2 : Int32} {v3 : Int32} {v4 : Int32} {C1 : ((Int32 × Int32) ⊕ Int32) → Prop} (hb1 : ∀ (v3 : Int32) (v4 : Int32), C1 (.inl (v3, v4)) → ∀ (ls : Array Slot), lv_has ls 5 [(0, .ref (q 255)), (1, .int v1), (2, .int v2), (3, .int v3), (4, .int v4)] → W p l e rmX2_familysAnswer s m args below meth c s.heap [] 0 0 (MQ below (vp_Si (fun x => x = z)) args s 0 0 (fun _ => False)) (F0 m 5 ls [])) (hx1 : ∀ a, C1 (.inr a) → a = z) (hP : va_P D vwCl (zW zsh zNC cy q S) s.heap) {x : ((Int32 × Int32) ⊕ Int32)} (h : fX2_familysAnswer_40 S v1 v2 v3 v4 = some x) (hc : C1 x) {ls : Array Slot} (hl : lv_has ls 5 [(0, .ref (q 255)), (1, .int v1), (2, .int v2), (3, .int v3), (4, .int v4)]) : W p l e rmX2_familysAnswer s m args below meth c s.heap [] 0 0 (MQ below (vp_Si (fun x => x = z)) args s 0 0 (fun _ => False)) (F0 m 40 ls []) := by
  have hx := cx.1
  have hb := cx.2.1
  unfold fX2_familysAnswer_40 at h
  obtain ⟨x9, ex9, h⟩ := zLt_e h
  refine lv_iinc (v := x9) (lv' := [(4, .int x9), (0, .ref (q 255)), (1, .int v1), (2, .int v2), (3, .int v3)]) (pc := 40) hx hb dX2_familysAnswer_40 hl (k := 4) rfl (by rw [zc_1]; exact ex9.symm) (by decide) rfl (fun ls hl => ?_)
  refine lv_goto (pc := 43) (tgt := 5) hx hb dX2_familysAnswer_43 (by decide) ?_
  cases h
  exact hb1 _ _ hc _ (lv_sub hl [1, 2, 3, 4, 0] rfl)
def fX2_familysAnswer_5 (S : zSt)  (v1 : Int32) (v2 : Int32) (t : (Int32 × Int32)) : Option ((Int32 × Int32) ⊕ Int32) :=
  match t with
  | (v3, v4) => zGd (zIx (0 : Int32) 4) (zBr ((S.1 (4 + 1) (0 : Int32).toNatClampNeg) ≤ v4) (zXr (some v3)) (zBd (fX2_plantsSeeing S v4 v1 v2) (fun r5 => zBd (fX2_plantsSeeing S v3 v1 v2) (fun r7 => zBr (r7 ≤ r5) (fX2_familysAnswer_40 S v1 v2 v3 v4) (fX2_familysAnswer_40 S v1 v2 v4 v4)))))
set_option maxHeartbeats 4000000 in
set_option maxRecDepth 100000 in
theorem kX2_familysAnswer_5B {p : Program} {l : Launch} {e : Env} {s : State} {m : MethodId} {args : Array Value} {below : List Frame} {meth : Method} {c : Code} {D : va_G} {cy : Nat → ClassId} {q : Nat → Nat} (cx : zX RX2 cX2_familysAnswer 5 p s m args c D cy) (hr : meth.sig.returnType = (some .int)) (hlk : meth.locks = false) {z : Int32} {S : zSt} {v1 : Int32} {v2 : Int32} {v3 : Int32} {v4 : Int32} {C1 : ((Int32 × Int32) ⊕ Int32) → Prop} (hb1 : ∀ (v3 : Int32) (v4 : Int32), C1 (.inl (v3, v4)) → ∀ (ls : Array Slot), lv_has ls 5 [(0, .ref (q 255)), (1, .int v1), (2, .int v2), (3, .int v3), (4, .int v4)] → W p l e rmX2_familysAnswer s m args below meth c s.heap [] 0 0 (MQ below (vp_Si (fun x => x = z)) args s 0 0 (fun _ => False)) (F0 m 5 ls [])) (hx1 : ∀ a, C1 (.inr a) → a = z) (hP : va_P D vwCl (zW zsh zNC cy q S) s.heap) {x : ((Int32 × Int32) ⊕ Int32)} (h : fX2_familysAnswer_5 S v1 v2 (v3, v4) = some x) (hc : C1 x) {ls : Array Slot} (hl : lv_has ls 5 [(0, .ref (q 255)), (1, .int v1), (2, .int v2), (3, .int v3), (4, .int v4)]) : W p l e rmX2_familysAnswer s m args below meth c s.heap [] 0 0 (MQ below (vp_Si (fun x => x = z)) args s 0 0 (fun _ => False)) (F0 m 5 ls []) := by
  have hx := cx.1
  have hb := cx.2.1
  unfold fX2_familysAnswer_5 at h
  dsimp only at h
  refine lv_iload (pc := 5) hx hb dX2_familysAnswer_5 (lv_at hl 4 rfl) ?_
  refine lv_aload_n (pc := 7) hx hb dX2_familysAnswer_7 rfl (lv_at hl 0 rfl) ?_
  refine zr_getR (pc := 8) (t := 4) cx lk_X2_21 hP nC_255 sC_255 rfl dX2_familysAnswer_8 ?_
  refine zr_getR (pc := 11) (t := (4 + 1)) cx lk_X2_63 hP (nX3_0 zHouse_4) (sX3_0 zHouse_4) rfl dX2_familysAnswer_11 ?_
  refine lv_iconst (pc := 14) hx hb dX2_familysAnswer_14 zc_0 ?_
  obtain ⟨g1, h⟩ := zGd_e h
  refine zr_iald (pc := 15) cx hP (nX3_1 zHouse_4) (sX3_1 zHouse_4) g1 dX2_familysAnswer_15 ?_
  refine lv_icmp_ge (pc := 16) (tgt := 46) hx hb dX2_familysAnswer_16 (by decide) (fun c2 => ?_) (fun c2 => ?_)
  · replace h := zBr_t c2 h
    obtain ⟨y3, h, ex⟩ := zXr_e h
    have hc := hx1 y3 (by rw [ex] at hc; exact hc)
    rw [hc] at h
    refine lv_iload_n (pc := 46) hx hb dX2_familysAnswer_46 rfl (lv_at hl 3 rfl) ?_
    have hz := Option.some.inj h
    exact zr_reI (pc := 47) cx hr hlk hz dX2_familysAnswer_47
  · replace h := zBr_f c2 h
    refine lv_aload_n (pc := 19) hx hb dX2_familysAnswer_19 rfl (lv_at hl 0 rfl) ?_
    refine lv_iload (pc := 20) hx hb dX2_familysAnswer_20 (lv_at hl 4 rfl) ?_
    refine lv_iload_n (pc := 22) hx hb dX2_familysAnswer_22 rfl (lv_at hl 1 rfl) ?_
    refine lv_iload_n (pc := 23) hx hb dX2_familysAnswer_23 rfl (lv_at hl 2 rfl) ?_
    obtain ⟨r5, k4, h⟩ := zBd_e h
    refine zr_VI (pc := 24) (rest := []) cx cv_X2_112 (mX2_plantsSeeing k4) ⟨⟨rfl, rfl⟩, Nat.le_of_ble_eq_true rfl, Nat.le_of_ble_eq_true rfl⟩ ⟨Nat.le_of_ble_eq_true rfl, Nat.le_of_ble_eq_true rfl⟩ hP nC_255 sC_255 rfl hl.1 rfl rfl (Nat.le_of_ble_eq_true rfl) dX2_familysAnswer_24 ?_
    refine lv_aload_n (pc := 27) hx hb dX2_familysAnswer_27 rfl (lv_at hl 0 rfl) ?_
    refine lv_iload_n (pc := 28) hx hb dX2_familysAnswer_28 rfl (lv_at hl 3 rfl) ?_
    refine lv_iload_n (pc := 29) hx hb dX2_familysAnswer_29 rfl (lv_at hl 1 rfl) ?_
    refine lv_iload_n (pc := 30) hx hb dX2_familysAnswer_30 rfl (lv_at hl 2 rfl) ?_
    obtain ⟨r7, k6, h⟩ := zBd_e h
    refine zr_VI (pc := 31) (rest := [.int r5]) cx cv_X2_112 (mX2_plantsSeeing k6) ⟨⟨rfl, rfl⟩, Nat.le_of_ble_eq_true rfl, Nat.le_of_ble_eq_true rfl⟩ ⟨Nat.le_of_ble_eq_true rfl, Nat.le_of_ble_eq_true rfl⟩ hP nC_255 sC_255 rfl hl.1 rfl rfl (Nat.le_of_ble_eq_true rfl) dX2_familysAnswer_31 ?_
    refine lv_icmp_ge (pc := 34) (tgt := 40) hx hb dX2_familysAnswer_34 (by decide) (fun c8 => ?_) (fun c8 => ?_)
    · replace h := zBr_t c8 h
      exact kX2_familysAnswer_40 cx hr hlk hb1 hx1 hP h hc (lv_sub hl [0, 1, 2, 3, 4] rfl)
    · replace h := zBr_f c8 h
      refine lv_iload (pc := 37) hx hb dX2_familysAnswer_37 (lv_at hl 4 rfl) ?_
      refine lv_istore_n (lv' := [(3, .int v4), (0, .ref (q 255)), (1, .int v1), (2, .int v2), (4, .int v4)]) (pc := 39) hx hb dX2_familysAnswer_39 rfl hl (by decide) rfl (fun ls hl => ?_)
      exact kX2_familysAnswer_40 cx hr hlk hb1 hx1 hP h hc (lv_sub hl [1, 2, 3, 0, 4] rfl)
set_option maxHeartbeats 4000000 in
set_option maxRecDepth 100000 in
theorem kX2_familysAnswer_5 {p : Program} {l : Launch} {e : Env} {s : State} {m : MethodId} {args : Array Value} {below : List Frame} {meth : Method} {c : Code} {D : va_G} {cy : Nat → ClassId} {q : Nat → Nat} (cx : zX RX2 cX2_familysAnswer 5 p s m args c D cy) (hr : meth.sig.returnType = (some .int)) (hlk : meth.locks = false) {z : Int32} {S : zSt} {v1 : Int32} {v2 : Int32} (hP : va_P D vwCl (zW zsh zNC cy q S) s.heap) : ∀ (n : Nat) (v3 : Int32) (v4 : Int32), zLp (fX2_familysAnswer_5 S v1 v2) n (v3, v4) = some z → ∀ (ls : Array Slot), lv_has ls 5 [(0, .ref (q 255)), (1, .int v1), (2, .int v2), (3, .int v3), (4, .int v4)] → W p l e rmX2_familysAnswer s m args below meth c s.heap [] 0 0 (MQ below (vp_Si (fun x => x = z)) args s 0 0 (fun _ => False)) (F0 m 5 ls []) := by
  intro n
  induction n with
  | zero =>
    intro v3 v4 h
    cases h
  | succ n ih =>
    intro v3 v4 h ls hl
    obtain ⟨x, h, hk⟩ := zLp_e h
    exact kX2_familysAnswer_5B cx hr hlk  (C1 := zKt (fun t => zLp (fX2_familysAnswer_5 S v1 v2) n t = some z) (fun a => a = z)) (fun v3 v4 ht ls hl => ih v3 v4 ht ls hl) (fun a ha => ha) hP h hk hl
def fX2_familysAnswer (S : zSt) (v1 : Int32) (v2 : Int32) : Option Int32 :=
  zLp (fX2_familysAnswer_5 S v1 v2) 2000 ((0 : Int32), (1 : Int32))
set_option maxHeartbeats 4000000 in
set_option maxRecDepth 100000 in
theorem mX2_familysAnswer {l : Launch} {D : va_G} {cy : Nat → ClassId} {q : Nat → Nat} {S : zSt} {v1 : Int32} {v2 : Int32} {z : Int32} (h : fX2_familysAnswer S v1 v2 = some z) : zMi l yX2_familysAnswer cX2_familysAnswer 5 (some .int) rmX2_familysAnswer [.ref (q 255), .int v1, .int v2] (zPr zsh zNC D cy q S) z := by
  refine Met.ofW (cc := cX2_familysAnswer) (maxL := 5) (ret := (some .int)) (by decide) rfl ?_
  intro p e s m args below meth c s₁ B hml hv
  obtain ⟨rfl, hP, hK⟩ := hv
  have cx : zX RX2 cX2_familysAnswer 5 p s m ([.ref (q 255), .int v1, .int v2]).toArray c D cy := ⟨B.exec, B.bytes, hml, findClass_of_methodNamed B.named, fun w hw => atoms_spec (ws := Cond.code yX2_familysAnswer cX2_familysAnswer 5 (some .int) :: zTB) B.pre w (List.mem_cons_of_mem _ hw), hK⟩
  have hx := cx.1
  have hb := cx.2.1
  have hr := B.returns
  have hlk := B.notSynchronized
  have hl := lv_entry ([.ref (q 255), .int v1, .int v2]) (n := 5) (Nat.le_of_ble_eq_true rfl)
  rw [lg_entry_eq]
  generalize (lg_sl ([.ref (q 255), .int v1, .int v2]) ++ List.replicate (5 - (lg_sl ([.ref (q 255), .int v1, .int v2])).length) Slot.unset).toArray = ls at hl ⊢
  have hl : lv_has ls 5 [(0, .ref (q 255)), (1, .int v1), (2, .int v2)] := hl
  unfold fX2_familysAnswer at h
  refine lv_iconst (pc := 0) hx hb dX2_familysAnswer_0 zc_0 ?_
  refine lv_istore_n (lv' := [(3, .int (0 : Int32)), (0, .ref (q 255)), (1, .int v1), (2, .int v2)]) (pc := 1) hx hb dX2_familysAnswer_1 rfl hl (by decide) rfl (fun ls hl => ?_)
  refine lv_iconst (pc := 2) hx hb dX2_familysAnswer_2 zc_1 ?_
  refine lv_istore (lv' := [(4, .int (1 : Int32)), (3, .int (0 : Int32)), (0, .ref (q 255)), (1, .int v1), (2, .int v2)]) (pc := 3) hx hb dX2_familysAnswer_3 hl (by decide) rfl (fun ls hl => ?_)
  exact kX2_familysAnswer_5 cx hr hlk hP 2000 _ _ h _ (lv_sub hl [2, 3, 4, 1, 0] rfl)
-- X2_chooseByTurns
abbrev rmX2_chooseByTurns : Room := { frames := 3, cells := 0, slots := 0, locals := 71 }
def fX2_chooseByTurns_102 (S : zSt)  (v1 : Int32) (v2 : Int32) (v3 : Int32) : Option ((zSt × Int32 × Int32) ⊕ ((zSt × Int32 × Int32) ⊕ (Int32 × zSt))) :=
  zLt (v3 + (1 : Int32)) (fun x21 => some (.inl (S, v1, x21)))
set_option maxHeartbeats 4000000 in
set_option maxRecDepth 100000 in
theorem kX2_chooseByTurns_102 {p : Program} {l : Launch} {e : Env} {s : State} {m : MethodId} {args : Array Value} {below : List Frame} {meth : Method} {c : Code} {D : va_G} {cy : Nat → ClassId} {q : Nat → Nat} {A : Nat → Prop} (cx : zX RX2 cX2_chooseByTurns 6 p s m args c D cy) (hr : meth.sig.returnType = (some .int)) (hlk : meth.locks = false) (hq : zQ A q zNC) {z : (Int32 × zSt)} {S : zSt} {v1 : Int32} {v2 : Int32} {v3 : Int32} {C1 : ((zSt × Int32 × Int32) ⊕ (Int32 × zSt)) → Prop} (hb1 : ∀ (S : zSt) (v1 : Int32) (v2 : Int32), C1 (.inl (S, v1, v2)) → ∀ (H : Heap) (locs : List Loc), va_P D vwCl (zW zsh zNC cy q S) H → va_S A s.heap H locs → ∀ (ls : Array Slot), lv_has ls 6 [(0, .ref (q 255)), (1, .int v1), (2, .int v2)] → W p l e rmX2_chooseByTurns s m args below meth c H locs 0 0 (MQ below (va_Qi (fun (r : Int32) (u : zSt) => (r, u) = z) (fun u t => va_P D vwCl (zW zsh zNC cy q u) t.heap) A) args s 0 0 A) (F0 m 33 ls [])) (hx1 : ∀ a, C1 (.inr a) → a = z) {C2 : ((zSt × Int32 × Int32) ⊕ ((zSt × Int32 × Int32) ⊕ (Int32 × zSt))) → Prop} (hb2 : ∀ (S : zSt) (v1 : Int32) (v3 : Int32), C2 (.inl (S, v1, v3)) → ∀ (H : Heap) (locs : List Loc), va_P D vwCl (zW zsh zNC cy q S) H → va_S A s.heap H locs → ∀ (ls : Array Slot), lv_has ls 6 [(0, .ref (q 255)), (1, .int v1), (2, .int v2), (3, .int v3)] → W p l e rmX2_chooseByTurns s m args below meth c H locs 0 0 (MQ below (va_Qi (fun (r : Int32) (u : zSt) => (r, u) = z) (fun u t => va_P D vwCl (zW zsh zNC cy q u) t.heap) A) args s 0 0 A) (F0 m 46 ls [])) (hx2 : ∀ a, C2 (.inr a) → C1 a) {x : ((zSt × Int32 × Int32) ⊕ ((zSt × Int32 × Int32) ⊕ (Int32 × zSt)))} (h : fX2_chooseByTurns_102 S v1 v2 v3 = some x) (hc : C2 x) {H : Heap} {locs : List Loc} (hP : va_P D vwCl (zW zsh zNC cy q S) H) (hS : va_S A s.heap H locs) {ls : Array Slot} (hl : lv_has ls 6 [(0, .ref (q 255)), (1, .int v1), (2, .int v2), (3, .int v3)]) : W p l e rmX2_chooseByTurns s m args below meth c H locs 0 0 (MQ below (va_Qi (fun (r : Int32) (u : zSt) => (r, u) = z) (fun u t => va_P D vwCl (zW zsh zNC cy q u) t.heap) A) args s 0 0 A) (F0 m 102 ls []) := by
  have hx := cx.1
  have hb := cx.2.1
  unfold fX2_chooseByTurns_102 at h
  obtain ⟨x21, ex21, h⟩ := zLt_e h
  refine lv_iinc (v := x21) (lv' := [(3, .int x21), (0, .ref (q 255)), (1, .int v1), (2, .int v2)]) (pc := 102) hx hb dX2_chooseByTurns_102 hl (k := 3) rfl (by rw [zc_1]; exact ex21.symm) (by decide) rfl (fun ls hl => ?_)
  refine lv_goto (pc := 105) (tgt := 46) hx hb dX2_chooseByTurns_105 (by decide) ?_
  cases h
  exact hb2 _ _ _ hc _ _ hP hS _ (lv_sub hl [1, 2, 3, 0] rfl)
def fX2_chooseByTurns_46  (v2 : Int32) (t : (zSt × Int32 × Int32)) : Option ((zSt × Int32 × Int32) ⊕ ((zSt × Int32 × Int32) ⊕ (Int32 × zSt))) :=
  match t with
  | (S, v1, v3) => zGd (zIx (0 : Int32) 4) (zBr ((S.1 (4 + 1) (0 : Int32).toNatClampNeg) ≤ v3) (zXr (zLt (v2 + (1 : Int32)) (fun x15 => some (.inl (S, v1, x15))))) (zBd (fX2_familysAnswer S v2 v3) (fun r17 => zBd (fX2_plantsSeeing S r17 v2 v3) (fun r19 => zBr (r19 ≤ v1) (fX2_chooseByTurns_102 S v1 v2 v3) (zLt (zI S 255 2 v2) (fun S22 => zLt (zI S22 255 3 v3) (fun S23 => zLt (zI S23 255 4 r17) (fun S24 => fX2_chooseByTurns_102 S24 r19 v2 v3))))))))
set_option maxHeartbeats 4000000 in
set_option maxRecDepth 100000 in
theorem kX2_chooseByTurns_46B {p : Program} {l : Launch} {e : Env} {s : State} {m : MethodId} {args : Array Value} {below : List Frame} {meth : Method} {c : Code} {D : va_G} {cy : Nat → ClassId} {q : Nat → Nat} {A : Nat → Prop} (cx : zX RX2 cX2_chooseByTurns 6 p s m args c D cy) (hr : meth.sig.returnType = (some .int)) (hlk : meth.locks = false) (hq : zQ A q zNC) {z : (Int32 × zSt)} {S : zSt} {v1 : Int32} {v2 : Int32} {v3 : Int32} {C1 : ((zSt × Int32 × Int32) ⊕ (Int32 × zSt)) → Prop} (hb1 : ∀ (S : zSt) (v1 : Int32) (v2 : Int32), C1 (.inl (S, v1, v2)) → ∀ (H : Heap) (locs : List Loc), va_P D vwCl (zW zsh zNC cy q S) H → va_S A s.heap H locs → ∀ (ls : Array Slot), lv_has ls 6 [(0, .ref (q 255)), (1, .int v1), (2, .int v2)] → W p l e rmX2_chooseByTurns s m args below meth c H locs 0 0 (MQ below (va_Qi (fun (r : Int32) (u : zSt) => (r, u) = z) (fun u t => va_P D vwCl (zW zsh zNC cy q u) t.heap) A) args s 0 0 A) (F0 m 33 ls [])) (hx1 : ∀ a, C1 (.inr a) → a = z) {C2 : ((zSt × Int32 × Int32) ⊕ ((zSt × Int32 × Int32) ⊕ (Int32 × zSt))) → Prop} (hb2 : ∀ (S : zSt) (v1 : Int32) (v3 : Int32), C2 (.inl (S, v1, v3)) → ∀ (H : Heap) (locs : List Loc), va_P D vwCl (zW zsh zNC cy q S) H → va_S A s.heap H locs → ∀ (ls : Array Slot), lv_has ls 6 [(0, .ref (q 255)), (1, .int v1), (2, .int v2), (3, .int v3)] → W p l e rmX2_chooseByTurns s m args below meth c H locs 0 0 (MQ below (va_Qi (fun (r : Int32) (u : zSt) => (r, u) = z) (fun u t => va_P D vwCl (zW zsh zNC cy q u) t.heap) A) args s 0 0 A) (F0 m 46 ls [])) (hx2 : ∀ a, C2 (.inr a) → C1 a) {x : ((zSt × Int32 × Int32) ⊕ ((zSt × Int32 × Int32) ⊕ (Int32 × zSt)))} (h : fX2_chooseByTurns_46 v2 (S, v1, v3) = some x) (hc : C2 x) {H : Heap} {locs : List Loc} (hP : va_P D vwCl (zW zsh zNC cy q S) H) (hS : va_S A s.heap H locs) {ls : Array Slot} (hl : lv_has ls 6 [(0, .ref (q 255)), (1, .int v1), (2, .int v2), (3, .int v3)]) : W p l e rmX2_chooseByTurns s m args below meth c H locs 0 0 (MQ below (va_Qi (fun (r : Int32) (u : zSt) => (r, u) = z) (fun u t => va_P D vwCl (zW zsh zNC cy q u) t.heap) A) args s 0 0 A) (F0 m 46 ls []) := by
  have hx := cx.1
  have hb := cx.2.1
  unfold fX2_chooseByTurns_46 at h
  dsimp only at h
  refine lv_iload_n (pc := 46) hx hb dX2_chooseByTurns_46 rfl (lv_at hl 3 rfl) ?_
  refine lv_aload_n (pc := 47) hx hb dX2_chooseByTurns_47 rfl (lv_at hl 0 rfl) ?_
  refine zr_getR (pc := 48) (t := 4) cx lk_X2_21 hP nC_255 sC_255 rfl dX2_chooseByTurns_48 ?_
  refine zr_getR (pc := 51) (t := (4 + 1)) cx lk_X2_63 hP (nX3_0 zHouse_4) (sX3_0 zHouse_4) rfl dX2_chooseByTurns_51 ?_
  refine lv_iconst (pc := 54) hx hb dX2_chooseByTurns_54 zc_0 ?_
  obtain ⟨g12, h⟩ := zGd_e h
  refine zr_iald (pc := 55) cx hP (nX3_1 zHouse_4) (sX3_1 zHouse_4) g12 dX2_chooseByTurns_55 ?_
  refine lv_icmp_ge (pc := 56) (tgt := 108) hx hb dX2_chooseByTurns_56 (by decide) (fun c13 => ?_) (fun c13 => ?_)
  · replace h := zBr_t c13 h
    obtain ⟨y14, h, ex⟩ := zXr_e h
    have hc := hx2 y14 (by rw [ex] at hc; exact hc)
    obtain ⟨x15, ex15, h⟩ := zLt_e h
    refine lv_iinc (v := x15) (lv' := [(2, .int x15), (0, .ref (q 255)), (1, .int v1), (3, .int v3)]) (pc := 108) hx hb dX2_chooseByTurns_108 hl (k := 2) rfl (by rw [zc_1]; exact ex15.symm) (by decide) rfl (fun ls hl => ?_)
    refine lv_goto (pc := 111) (tgt := 33) hx hb dX2_chooseByTurns_111 (by decide) ?_
    cases h
    exact hb1 _ _ _ hc _ _ hP hS _ (lv_sub hl [1, 2, 0] rfl)
  · replace h := zBr_f c13 h
    refine lv_aload_n (pc := 59) hx hb dX2_chooseByTurns_59 rfl (lv_at hl 0 rfl) ?_
    refine lv_iload_n (pc := 60) hx hb dX2_chooseByTurns_60 rfl (lv_at hl 2 rfl) ?_
    refine lv_iload_n (pc := 61) hx hb dX2_chooseByTurns_61 rfl (lv_at hl 3 rfl) ?_
    obtain ⟨r17, k16, h⟩ := zBd_e h
    refine zr_VI (pc := 62) (rest := []) cx cv_X2_109 (mX2_familysAnswer k16) ⟨⟨rfl, rfl⟩, Nat.le_of_ble_eq_true rfl, Nat.le_of_ble_eq_true rfl⟩ ⟨Nat.le_of_ble_eq_true rfl, Nat.le_of_ble_eq_true rfl⟩ hP nC_255 sC_255 rfl hl.1 rfl rfl (Nat.le_of_ble_eq_true rfl) dX2_chooseByTurns_62 ?_
    refine lv_istore (lv' := [(4, .int r17), (0, .ref (q 255)), (1, .int v1), (2, .int v2), (3, .int v3)]) (pc := 65) hx hb dX2_chooseByTurns_65 hl (by decide) rfl (fun ls hl => ?_)
    refine lv_aload_n (pc := 67) hx hb dX2_chooseByTurns_67 rfl (lv_at hl 1 rfl) ?_
    refine lv_iload (pc := 68) hx hb dX2_chooseByTurns_68 (lv_at hl 0 rfl) ?_
    refine lv_iload_n (pc := 70) hx hb dX2_chooseByTurns_70 rfl (lv_at hl 3 rfl) ?_
    refine lv_iload_n (pc := 71) hx hb dX2_chooseByTurns_71 rfl (lv_at hl 4 rfl) ?_
    obtain ⟨r19, k18, h⟩ := zBd_e h
    refine zr_VI (pc := 72) (rest := []) cx cv_X2_112 (mX2_plantsSeeing k18) ⟨⟨rfl, rfl⟩, Nat.le_of_ble_eq_true rfl, Nat.le_of_ble_eq_true rfl⟩ ⟨Nat.le_of_ble_eq_true rfl, Nat.le_of_ble_eq_true rfl⟩ hP nC_255 sC_255 rfl hl.1 rfl rfl (Nat.le_of_ble_eq_true rfl) dX2_chooseByTurns_72 ?_
    refine lv_istore (lv' := [(5, .int r19), (4, .int r17), (0, .ref (q 255)), (1, .int v1), (2, .int v2), (3, .int v3)]) (pc := 75) hx hb dX2_chooseByTurns_75 hl (by decide) rfl (fun ls hl => ?_)
    refine lv_iload (pc := 77) hx hb dX2_chooseByTurns_77 (lv_at hl 0 rfl) ?_
    refine lv_iload_n (pc := 79) hx hb dX2_chooseByTurns_79 rfl (lv_at hl 3 rfl) ?_
    refine lv_icmp_le (pc := 80) (tgt := 102) hx hb dX2_chooseByTurns_80 (by decide) (fun c20 => ?_) (fun c20 => ?_)
    · replace h := zBr_t c20 h
      exact kX2_chooseByTurns_102 cx hr hlk hq hb1 hx1 hb2 hx2 h hc hP hS (lv_sub hl [2, 3, 4, 5] rfl)
    · replace h := zBr_f c20 h
      refine lv_iload (pc := 83) hx hb dX2_chooseByTurns_83 (lv_at hl 0 rfl) ?_
      refine lv_istore_n (lv' := [(1, .int r19), (5, .int r19), (4, .int r17), (0, .ref (q 255)), (2, .int v2), (3, .int v3)]) (pc := 85) hx hb dX2_chooseByTurns_85 rfl hl (by decide) rfl (fun ls hl => ?_)
      refine lv_aload_n (pc := 86) hx hb dX2_chooseByTurns_86 rfl (lv_at hl 3 rfl) ?_
      refine lv_iload_n (pc := 87) hx hb dX2_chooseByTurns_87 rfl (lv_at hl 4 rfl) ?_
      obtain ⟨S22, eS22, h⟩ := zLt_e h
      refine zr_putI (pc := 88) cx lq_X2_9 hq hP hS nC_255 sC_255 rfl rfl rfl dX2_chooseByTurns_88 (fun H locs hP hS => ?_)
      rw [← eS22] at hP
      refine lv_aload_n (pc := 91) hx hb dX2_chooseByTurns_91 rfl (lv_at hl 3 rfl) ?_
      refine lv_iload_n (pc := 92) hx hb dX2_chooseByTurns_92 rfl (lv_at hl 5 rfl) ?_
      obtain ⟨S23, eS23, h⟩ := zLt_e h
      refine zr_putI (pc := 93) cx lq_X2_15 hq hP hS nC_255 sC_255 rfl rfl rfl dX2_chooseByTurns_93 (fun H locs hP hS => ?_)
      rw [← eS23] at hP
      refine lv_aload_n (pc := 96) hx hb dX2_chooseByTurns_96 rfl (lv_at hl 3 rfl) ?_
      refine lv_iload (pc := 97) hx hb dX2_chooseByTurns_97 (lv_at hl 2 rfl) ?_
      obtain ⟨S24, eS24, h⟩ := zLt_e h
      refine zr_putI (pc := 99) cx lq_X2_18 hq hP hS nC_255 sC_255 rfl rfl rfl dX2_chooseByTurns_99 (fun H locs hP hS => ?_)
      rw [← eS24] at hP
      exact kX2_chooseByTurns_102 cx hr hlk hq hb1 hx1 hb2 hx2 h hc hP hS (lv_sub hl [3, 0, 4, 5] rfl)
set_option maxHeartbeats 4000000 in
set_option maxRecDepth 100000 in
theorem kX2_chooseByTurns_46 {p : Program} {l : Launch} {e : Env} {s : State} {m : MethodId} {args : Array Value} {below : List Frame} {meth : Method} {c : Code} {D : va_G} {cy : Nat → ClassId} {q : Nat → Nat} {A : Nat → Prop} (cx : zX RX2 cX2_chooseByTurns 6 p s m args c D cy) (hr : meth.sig.returnType = (some .int)) (hlk : meth.locks = false) (hq : zQ A q zNC) {z : (Int32 × zSt)} {v2 : Int32} {C1 : ((zSt × Int32 × Int32) ⊕ (Int32 × zSt)) → Prop} (hb1 : ∀ (S : zSt) (v1 : Int32) (v2 : Int32), C1 (.inl (S, v1, v2)) → ∀ (H : Heap) (locs : List Loc), va_P D vwCl (zW zsh zNC cy q S) H → va_S A s.heap H locs → ∀ (ls : Array Slot), lv_has ls 6 [(0, .ref (q 255)), (1, .int v1), (2, .int v2)] → W p l e rmX2_chooseByTurns s m args below meth c H locs 0 0 (MQ below (va_Qi (fun (r : Int32) (u : zSt) => (r, u) = z) (fun u t => va_P D vwCl (zW zsh zNC cy q u) t.heap) A) args s 0 0 A) (F0 m 33 ls [])) (hx1 : ∀ a, C1 (.inr a) → a = z) {xo : ((zSt × Int32 × Int32) ⊕ (Int32 × zSt))} (hc : C1 xo) : ∀ (n : Nat) (S : zSt) (v1 : Int32) (v3 : Int32), zLp (fX2_chooseByTurns_46 v2) n (S, v1, v3) = some xo → ∀ (H : Heap) (locs : List Loc), va_P D vwCl (zW zsh zNC cy q S) H → va_S A s.heap H locs → ∀ (ls : Array Slot), lv_has ls 6 [(0, .ref (q 255)), (1, .int v1), (2, .int v2), (3, .int v3)] → W p l e rmX2_chooseByTurns s m args below meth c H locs 0 0 (MQ below (va_Qi (fun (r : Int32) (u : zSt) => (r, u) = z) (fun u t => va_P D vwCl (zW zsh zNC cy q u) t.heap) A) args s 0 0 A) (F0 m 46 ls []) := by
  intro n
  induction n with
  | zero =>
    intro S v1 v3 h
    cases h
  | succ n ih =>
    intro S v1 v3 h H locs hP hS ls hl
    obtain ⟨x, h, hk⟩ := zLp_e h
    exact kX2_chooseByTurns_46B cx hr hlk hq hb1 hx1 (C2 := zKt (fun t => zLp (fX2_chooseByTurns_46 v2) n t = some xo) (fun a => a = xo)) (fun S v1 v3 ht H locs hP hS ls hl => ih S v1 v3 ht H locs hP hS ls hl) (fun a ha => ha ▸ hc) h hk hP hS hl
def fX2_chooseByTurns_33  (t : (zSt × Int32 × Int32)) : Option ((zSt × Int32 × Int32) ⊕ (Int32 × zSt)) :=
  match t with
  | (S, v1, v2) => zBd (fX6_plants S 14) (fun r9 => zBr (r9 ≤ v2) (zXr (some (v1, S))) (zLp (fX2_chooseByTurns_46 v2) 2000 (S, v1, (0 : Int32))))
set_option maxHeartbeats 4000000 in
set_option maxRecDepth 100000 in
theorem kX2_chooseByTurns_33B {p : Program} {l : Launch} {e : Env} {s : State} {m : MethodId} {args : Array Value} {below : List Frame} {meth : Method} {c : Code} {D : va_G} {cy : Nat → ClassId} {q : Nat → Nat} {A : Nat → Prop} (cx : zX RX2 cX2_chooseByTurns 6 p s m args c D cy) (hr : meth.sig.returnType = (some .int)) (hlk : meth.locks = false) (hq : zQ A q zNC) {z : (Int32 × zSt)} {S : zSt} {v1 : Int32} {v2 : Int32} {C1 : ((zSt × Int32 × Int32) ⊕ (Int32 × zSt)) → Prop} (hb1 : ∀ (S : zSt) (v1 : Int32) (v2 : Int32), C1 (.inl (S, v1, v2)) → ∀ (H : Heap) (locs : List Loc), va_P D vwCl (zW zsh zNC cy q S) H → va_S A s.heap H locs → ∀ (ls : Array Slot), lv_has ls 6 [(0, .ref (q 255)), (1, .int v1), (2, .int v2)] → W p l e rmX2_chooseByTurns s m args below meth c H locs 0 0 (MQ below (va_Qi (fun (r : Int32) (u : zSt) => (r, u) = z) (fun u t => va_P D vwCl (zW zsh zNC cy q u) t.heap) A) args s 0 0 A) (F0 m 33 ls [])) (hx1 : ∀ a, C1 (.inr a) → a = z) {x : ((zSt × Int32 × Int32) ⊕ (Int32 × zSt))} (h : fX2_chooseByTurns_33 (S, v1, v2) = some x) (hc : C1 x) {H : Heap} {locs : List Loc} (hP : va_P D vwCl (zW zsh zNC cy q S) H) (hS : va_S A s.heap H locs) {ls : Array Slot} (hl : lv_has ls 6 [(0, .ref (q 255)), (1, .int v1), (2, .int v2)]) : W p l e rmX2_chooseByTurns s m args below meth c H locs 0 0 (MQ below (va_Qi (fun (r : Int32) (u : zSt) => (r, u) = z) (fun u t => va_P D vwCl (zW zsh zNC cy q u) t.heap) A) args s 0 0 A) (F0 m 33 ls []) := by
  have hx := cx.1
  have hb := cx.2.1
  unfold fX2_chooseByTurns_33 at h
  dsimp only at h
  refine lv_iload_n (pc := 33) hx hb dX2_chooseByTurns_33 rfl (lv_at hl 2 rfl) ?_
  refine lv_aload_n (pc := 34) hx hb dX2_chooseByTurns_34 rfl (lv_at hl 0 rfl) ?_
  refine zr_getR (pc := 35) (t := 14) cx lk_X2_25 hP nC_255 sC_255 rfl dX2_chooseByTurns_35 ?_
  obtain ⟨r9, k8, h⟩ := zBd_e h
  refine zr_VI (pc := 38) (rest := [.int v2]) cx cv_X2_29 (mX6_plants zLife_14 k8) ⟨⟨rfl, rfl⟩, Nat.le_of_ble_eq_true rfl, Nat.le_of_ble_eq_true rfl⟩ ⟨Nat.le_of_ble_eq_true rfl, Nat.le_of_ble_eq_true rfl⟩ hP (nX6_0 zLife_14) (sX6_0 zLife_14) rfl hl.1 rfl rfl (Nat.le_of_ble_eq_true rfl) dX2_chooseByTurns_38 ?_
  refine lv_icmp_ge (pc := 41) (tgt := 114) hx hb dX2_chooseByTurns_41 (by decide) (fun c10 => ?_) (fun c10 => ?_)
  · replace h := zBr_t c10 h
    obtain ⟨y11, h, ex⟩ := zXr_e h
    have hc := hx1 y11 (by rw [ex] at hc; exact hc)
    rw [hc] at h
    refine lv_iload_n (pc := 114) hx hb dX2_chooseByTurns_114 rfl (lv_at hl 1 rfl) ?_
    have hz := Option.some.inj h
    exact zr_rqI (pc := 115) cx hr hlk hP hS hz dX2_chooseByTurns_115
  · replace h := zBr_f c10 h
    refine lv_iconst (pc := 44) hx hb dX2_chooseByTurns_44 zc_0 ?_
    refine lv_istore_n (lv' := [(3, .int (0 : Int32)), (0, .ref (q 255)), (1, .int v1), (2, .int v2)]) (pc := 45) hx hb dX2_chooseByTurns_45 rfl hl (by decide) rfl (fun ls hl => ?_)
    exact kX2_chooseByTurns_46 cx hr hlk hq hb1 hx1 hc 2000 _ _ _ h _ _ hP hS _ (lv_sub hl [1, 2, 3, 0] rfl)
set_option maxHeartbeats 4000000 in
set_option maxRecDepth 100000 in
theorem kX2_chooseByTurns_33 {p : Program} {l : Launch} {e : Env} {s : State} {m : MethodId} {args : Array Value} {below : List Frame} {meth : Method} {c : Code} {D : va_G} {cy : Nat → ClassId} {q : Nat → Nat} {A : Nat → Prop} (cx : zX RX2 cX2_chooseByTurns 6 p s m args c D cy) (hr : meth.sig.returnType = (some .int)) (hlk : meth.locks = false) (hq : zQ A q zNC) {z : (Int32 × zSt)} : ∀ (n : Nat) (S : zSt) (v1 : Int32) (v2 : Int32), zLp (fX2_chooseByTurns_33) n (S, v1, v2) = some z → ∀ (H : Heap) (locs : List Loc), va_P D vwCl (zW zsh zNC cy q S) H → va_S A s.heap H locs → ∀ (ls : Array Slot), lv_has ls 6 [(0, .ref (q 255)), (1, .int v1), (2, .int v2)] → W p l e rmX2_chooseByTurns s m args below meth c H locs 0 0 (MQ below (va_Qi (fun (r : Int32) (u : zSt) => (r, u) = z) (fun u t => va_P D vwCl (zW zsh zNC cy q u) t.heap) A) args s 0 0 A) (F0 m 33 ls []) := by
  intro n
  induction n with
  | zero =>
    intro S v1 v2 h
    cases h
  | succ n ih =>
    intro S v1 v2 h H locs hP hS ls hl
    obtain ⟨x, h, hk⟩ := zLp_e h
    exact kX2_chooseByTurns_33B cx hr hlk hq  (C1 := zKt (fun t => zLp (fX2_chooseByTurns_33) n t = some z) (fun a => a = z)) (fun S v1 v2 ht H locs hP hS ls hl => ih S v1 v2 ht H locs hP hS ls hl) (fun a ha => ha) h hk hP hS hl
def fX2_chooseByTurns (S : zSt) : Option (Int32 × zSt) :=
  zLt (zI S 255 2 (-1 : Int32)) (fun S1 => zLt (zI S1 255 3 (-1 : Int32)) (fun S2 => zBd (fX2_familysAnswer S2 (-1 : Int32) (-1 : Int32)) (fun r4 => zLt (zI S2 255 4 r4) (fun S5 => zBd (fX2_plantsSeeing S5 (S5.1 255 4) (-1 : Int32) (-1 : Int32)) (fun r7 => zLp (fX2_chooseByTurns_33) 2000 (S5, r7, (0 : Int32)))))))
set_option maxHeartbeats 4000000 in
set_option maxRecDepth 100000 in
theorem mX2_chooseByTurns {l : Launch} {D : va_G} {cy : Nat → ClassId} {q : Nat → Nat} {A : Nat → Prop} {S : zSt} (hq : zQ A q zNC) {z : (Int32 × zSt)} (h : fX2_chooseByTurns S = some z) : zMq l yX2_chooseByTurns cX2_chooseByTurns 6 (some .int) rmX2_chooseByTurns [.ref (q 255)] zsh zNC D cy q A S z := by
  refine Met.ofW (cc := cX2_chooseByTurns) (maxL := 6) (ret := (some .int)) (by decide) rfl ?_
  intro p e s m args below meth c s₁ B hml hv
  obtain ⟨rfl, hP, hK⟩ := hv
  have cx : zX RX2 cX2_chooseByTurns 6 p s m ([.ref (q 255)]).toArray c D cy := ⟨B.exec, B.bytes, hml, findClass_of_methodNamed B.named, fun w hw => atoms_spec (ws := Cond.code yX2_chooseByTurns cX2_chooseByTurns 6 (some .int) :: zTB) B.pre w (List.mem_cons_of_mem _ hw), hK⟩
  have hx := cx.1
  have hb := cx.2.1
  have hr := B.returns
  have hlk := B.notSynchronized
  have hS : va_S A s.heap s.heap [] := va_S.rf
  have hl := lv_entry ([.ref (q 255)]) (n := 6) (Nat.le_of_ble_eq_true rfl)
  rw [lg_entry_eq]
  generalize (lg_sl ([.ref (q 255)]) ++ List.replicate (6 - (lg_sl ([.ref (q 255)])).length) Slot.unset).toArray = ls at hl ⊢
  have hl : lv_has ls 6 [(0, .ref (q 255))] := hl
  unfold fX2_chooseByTurns at h
  refine lv_aload_n (pc := 0) hx hb dX2_chooseByTurns_0 rfl (lv_at hl 0 rfl) ?_
  refine lv_iconst (pc := 1) hx hb dX2_chooseByTurns_1 zc_m1 ?_
  obtain ⟨S1, eS1, h⟩ := zLt_e h
  refine zr_putI (pc := 2) cx lq_X2_9 hq hP hS nC_255 sC_255 rfl rfl rfl dX2_chooseByTurns_2 (fun H locs hP hS => ?_)
  rw [← eS1] at hP
  refine lv_aload_n (pc := 5) hx hb dX2_chooseByTurns_5 rfl (lv_at hl 0 rfl) ?_
  refine lv_iconst (pc := 6) hx hb dX2_chooseByTurns_6 zc_m1 ?_
  obtain ⟨S2, eS2, h⟩ := zLt_e h
  refine zr_putI (pc := 7) cx lq_X2_15 hq hP hS nC_255 sC_255 rfl rfl rfl dX2_chooseByTurns_7 (fun H locs hP hS => ?_)
  rw [← eS2] at hP
  refine lv_aload_n (pc := 10) hx hb dX2_chooseByTurns_10 rfl (lv_at hl 0 rfl) ?_
  refine lv_aload_n (pc := 11) hx hb dX2_chooseByTurns_11 rfl (lv_at hl 0 rfl) ?_
  refine lv_iconst (pc := 12) hx hb dX2_chooseByTurns_12 zc_m1 ?_
  refine lv_iconst (pc := 13) hx hb dX2_chooseByTurns_13 zc_m1 ?_
  obtain ⟨r4, k3, h⟩ := zBd_e h
  refine zr_VI (pc := 14) (rest := [.ref (q 255)]) cx cv_X2_109 (mX2_familysAnswer k3) ⟨⟨rfl, rfl⟩, Nat.le_of_ble_eq_true rfl, Nat.le_of_ble_eq_true rfl⟩ ⟨Nat.le_of_ble_eq_true rfl, Nat.le_of_ble_eq_true rfl⟩ hP nC_255 sC_255 rfl hl.1 rfl rfl (Nat.le_of_ble_eq_true rfl) dX2_chooseByTurns_14 ?_
  obtain ⟨S5, eS5, h⟩ := zLt_e h
  refine zr_putI (pc := 17) cx lq_X2_18 hq hP hS nC_255 sC_255 rfl rfl rfl dX2_chooseByTurns_17 (fun H locs hP hS => ?_)
  rw [← eS5] at hP
  refine lv_aload_n (pc := 20) hx hb dX2_chooseByTurns_20 rfl (lv_at hl 0 rfl) ?_
  refine lv_aload_n (pc := 21) hx hb dX2_chooseByTurns_21 rfl (lv_at hl 0 rfl) ?_
  refine zr_getI (pc := 22) cx lk_X2_18 hP nC_255 sC_255 rfl dX2_chooseByTurns_22 ?_
  refine lv_iconst (pc := 25) hx hb dX2_chooseByTurns_25 zc_m1 ?_
  refine lv_iconst (pc := 26) hx hb dX2_chooseByTurns_26 zc_m1 ?_
  obtain ⟨r7, k6, h⟩ := zBd_e h
  refine zr_VI (pc := 27) (rest := []) cx cv_X2_112 (mX2_plantsSeeing k6) ⟨⟨rfl, rfl⟩, Nat.le_of_ble_eq_true rfl, Nat.le_of_ble_eq_true rfl⟩ ⟨Nat.le_of_ble_eq_true rfl, Nat.le_of_ble_eq_true rfl⟩ hP nC_255 sC_255 rfl hl.1 rfl rfl (Nat.le_of_ble_eq_true rfl) dX2_chooseByTurns_27 ?_
  refine lv_istore_n (lv' := [(1, .int r7), (0, .ref (q 255))]) (pc := 30) hx hb dX2_chooseByTurns_30 rfl hl (by decide) rfl (fun ls hl => ?_)
  refine lv_iconst (pc := 31) hx hb dX2_chooseByTurns_31 zc_0 ?_
  refine lv_istore_n (lv' := [(2, .int (0 : Int32)), (1, .int r7), (0, .ref (q 255))]) (pc := 32) hx hb dX2_chooseByTurns_32 rfl hl (by decide) rfl (fun ls hl => ?_)
  exact kX2_chooseByTurns_33 cx hr hlk hq 2000 _ _ _ h _ _ hP hS _ (lv_sub hl [2, 1, 0] rfl)
-- X11_choice
abbrev rmX11_choice : Room := { frames := 4, cells := 0, slots := 0, locals := 96 }
def fX11_choice (S : zSt) : Option (Int32 × zSt) :=
  zGd (zIx (0 : Int32) 4) (zBr ((S.1 (4 + 1) (0 : Int32).toNatClampNeg) = 0) (some ((-1 : Int32), S)) (zBp (fX2_chooseByTurns S) (fun r5 S4 => some (r5, S4))))
set_option maxHeartbeats 4000000 in
set_option maxRecDepth 100000 in
theorem mX11_choice {l : Launch} {D : va_G} {cy : Nat → ClassId} {q : Nat → Nat} {A : Nat → Prop} {S : zSt} (hq : zQ A q zNC) {z : (Int32 × zSt)} (h : fX11_choice S = some z) : zMq l yX11_choice cX11_choice 1 (some .int) rmX11_choice [.ref (q 0)] zsh zNC D cy q A S z := by
  refine Met.ofW (cc := cX11_choice) (maxL := 1) (ret := (some .int)) (by decide) rfl ?_
  intro p e s m args below meth c s₁ B hml hv
  obtain ⟨rfl, hP, hK⟩ := hv
  have cx : zX RX11 cX11_choice 1 p s m ([.ref (q 0)]).toArray c D cy := ⟨B.exec, B.bytes, hml, findClass_of_methodNamed B.named, fun w hw => atoms_spec (ws := Cond.code yX11_choice cX11_choice 1 (some .int) :: zTB) B.pre w (List.mem_cons_of_mem _ hw), hK⟩
  have hx := cx.1
  have hb := cx.2.1
  have hr := B.returns
  have hlk := B.notSynchronized
  have hS : va_S A s.heap s.heap [] := va_S.rf
  have hl := lv_entry ([.ref (q 0)]) (n := 1) (Nat.le_of_ble_eq_true rfl)
  rw [lg_entry_eq]
  generalize (lg_sl ([.ref (q 0)]) ++ List.replicate (1 - (lg_sl ([.ref (q 0)])).length) Slot.unset).toArray = ls at hl ⊢
  have hl : lv_has ls 1 [(0, .ref (q 0))] := hl
  unfold fX11_choice at h
  refine lv_aload_n (pc := 0) hx hb dX11_choice_0 rfl (lv_at hl 0 rfl) ?_
  refine zr_getR (pc := 1) (t := 4) cx lk_X11_19 hP nC_0 sC_0 rfl dX11_choice_1 ?_
  refine zr_getR (pc := 4) (t := (4 + 1)) cx lk_X11_312 hP (nX3_0 zHouse_4) (sX3_0 zHouse_4) rfl dX11_choice_4 ?_
  refine lv_iconst (pc := 7) hx hb dX11_choice_7 zc_0 ?_
  obtain ⟨g1, h⟩ := zGd_e h
  refine zr_iald (pc := 8) cx hP (nX3_1 zHouse_4) (sX3_1 zHouse_4) g1 dX11_choice_8 ?_
  refine lv_if_ne (pc := 9) (tgt := 16) hx hb dX11_choice_9 (by decide) (fun c2 => ?_) (fun c2 => ?_)
  · replace h := zBr_f c2 h
    refine lv_aload_n (pc := 16) hx hb dX11_choice_16 rfl (lv_at hl 0 rfl) ?_
    refine zr_getR (pc := 17) (t := 255) cx lk_X11_82 hP nC_0 sC_0 rfl dX11_choice_17 ?_
    obtain ⟨r5, S4, k3, h⟩ := zBp_e h
    refine zr_VQ (pc := 20) (rest := []) cx cv_X11_315 (mX2_chooseByTurns hq k3) ⟨⟨rfl, rfl⟩, Nat.le_of_ble_eq_true rfl, Nat.le_of_ble_eq_true rfl⟩ ⟨Nat.le_of_ble_eq_true rfl, Nat.le_of_ble_eq_true rfl⟩ hP hS nC_255 sC_255 rfl hl.1 rfl rfl (Nat.le_of_ble_eq_true rfl) dX11_choice_20 (fun H locs hP hS => ?_)
    have hz := Option.some.inj h
    exact zr_rqI (pc := 23) cx hr hlk hP hS hz dX11_choice_23
  · replace h := zBr_t c2 h
    refine lv_iconst (pc := 12) hx hb dX11_choice_12 zc_m1 ?_
    refine lv_goto (pc := 13) (tgt := 23) hx hb dX11_choice_13 (by decide) ?_
    have hz := Option.some.inj h
    exact zr_rqI (pc := 23) cx hr hlk hP hS hz dX11_choice_23
-- X11_chosen
abbrev rmX11_chosen : Room := { frames := 0, cells := 0, slots := 0, locals := 0 }
def fX11_chosen (S : zSt) (v1 : Int32) : Option Int32 :=
  zBr (v1 = 0) (some (S.1 255 2)) (zBr (v1 = 1) (some (S.1 255 3)) (zBr (v1 = 2) (some (S.1 255 4)) (some (-1 : Int32))))
set_option maxHeartbeats 4000000 in
set_option maxRecDepth 100000 in
theorem mX11_chosen {l : Launch} {D : va_G} {cy : Nat → ClassId} {q : Nat → Nat} {S : zSt} {v1 : Int32} {z : Int32} (h : fX11_chosen S v1 = some z) : zMi l yX11_chosen cX11_chosen 2 (some .int) rmX11_chosen [.ref (q 0), .int v1] (zPr zsh zNC D cy q S) z := by
  refine Met.ofW (cc := cX11_chosen) (maxL := 2) (ret := (some .int)) (by decide) rfl ?_
  intro p e s m args below meth c s₁ B hml hv
  obtain ⟨rfl, hP, hK⟩ := hv
  have cx : zX RX11 cX11_chosen 2 p s m ([.ref (q 0), .int v1]).toArray c D cy := ⟨B.exec, B.bytes, hml, findClass_of_methodNamed B.named, fun w hw => atoms_spec (ws := Cond.code yX11_chosen cX11_chosen 2 (some .int) :: zTB) B.pre w (List.mem_cons_of_mem _ hw), hK⟩
  have hx := cx.1
  have hb := cx.2.1
  have hr := B.returns
  have hlk := B.notSynchronized
  have hl := lv_entry ([.ref (q 0), .int v1]) (n := 2) (Nat.le_of_ble_eq_true rfl)
  rw [lg_entry_eq]
  generalize (lg_sl ([.ref (q 0), .int v1]) ++ List.replicate (2 - (lg_sl ([.ref (q 0), .int v1])).length) Slot.unset).toArray = ls at hl ⊢
  have hl : lv_has ls 2 [(0, .ref (q 0)), (1, .int v1)] := hl
  unfold fX11_chosen at h
  refine lv_iload_n (pc := 0) hx hb dX11_chosen_0 rfl (lv_at hl 1 rfl) ?_
  by_cases c1 : v1 = 0
  · replace h := zBr_t c1 h
    refine lv_tableIn (pc := 1) (off := 27) (tgt := 28) hx hb dX11_chosen_1 (by rw [c1]; decide) (by rw [c1]; decide) (by rw [c1]; rfl) (by decide) ?_
    refine lv_aload_n (pc := 28) hx hb dX11_chosen_28 rfl (lv_at hl 0 rfl) ?_
    refine zr_getR (pc := 29) (t := 255) cx lk_X11_82 hP nC_0 sC_0 rfl dX11_chosen_29 ?_
    refine zr_getI (pc := 32) cx lk_X11_318 hP nC_255 sC_255 rfl dX11_chosen_32 ?_
    have hz := Option.some.inj h
    exact zr_reI (pc := 35) cx hr hlk hz dX11_chosen_35
  · replace h := zBr_f c1 h
    by_cases c2 : v1 = 1
    · replace h := zBr_t c2 h
      refine lv_tableIn (pc := 1) (off := 35) (tgt := 36) hx hb dX11_chosen_1 (by rw [c2]; decide) (by rw [c2]; decide) (by rw [c2]; rfl) (by decide) ?_
      refine lv_aload_n (pc := 36) hx hb dX11_chosen_36 rfl (lv_at hl 0 rfl) ?_
      refine zr_getR (pc := 37) (t := 255) cx lk_X11_82 hP nC_0 sC_0 rfl dX11_chosen_37 ?_
      refine zr_getI (pc := 40) cx lk_X11_321 hP nC_255 sC_255 rfl dX11_chosen_40 ?_
      have hz := Option.some.inj h
      exact zr_reI (pc := 43) cx hr hlk hz dX11_chosen_43
    · replace h := zBr_f c2 h
      by_cases c3 : v1 = 2
      · replace h := zBr_t c3 h
        refine lv_tableIn (pc := 1) (off := 43) (tgt := 44) hx hb dX11_chosen_1 (by rw [c3]; decide) (by rw [c3]; decide) (by rw [c3]; rfl) (by decide) ?_
        refine lv_aload_n (pc := 44) hx hb dX11_chosen_44 rfl (lv_at hl 0 rfl) ?_
        refine zr_getR (pc := 45) (t := 255) cx lk_X11_82 hP nC_0 sC_0 rfl dX11_chosen_45 ?_
        refine zr_getI (pc := 48) cx lk_X11_324 hP nC_255 sC_255 rfl dX11_chosen_48 ?_
        have hz := Option.some.inj h
        exact zr_reI (pc := 51) cx hr hlk hz dX11_chosen_51
      · replace h := zBr_f c3 h
        refine zr_tsD (pc := 1) (tgt := 52) hx hb dX11_chosen_1 (fun h1 h2 => ?_) (by decide) ?_
        · rcases (show (v1).toInt = 0 ∨ (v1).toInt = 1 ∨ (v1).toInt = 2 by omega) with e9 | e9 | e9
          · exact absurd (Int32.toInt_inj.mp (e9.trans (by decide))) c1
          · exact absurd (Int32.toInt_inj.mp (e9.trans (by decide))) c2
          · exact absurd (Int32.toInt_inj.mp (e9.trans (by decide))) c3
        · skip
          refine lv_iconst (pc := 52) hx hb dX11_chosen_52 zc_m1 ?_
          have hz := Option.some.inj h
          exact zr_reI (pc := 53) cx hr hlk hz dX11_chosen_53
-- X6_hasAct
abbrev rmX6_hasAct : Room := { frames := 0, cells := 0, slots := 0, locals := 0 }
def fX6_hasAct (S : zSt) (a0 : Nat) (v1 : Int32) : Option Int32 :=
  zBr (v1 < 0) (some (0 : Int32)) (zBr ((S.1 a0 2) ≤ v1) (some (0 : Int32)) (some (1 : Int32)))
set_option maxHeartbeats 4000000 in
set_option maxRecDepth 100000 in
theorem mX6_hasAct {l : Launch} {D : va_G} {cy : Nat → ClassId} {q : Nat → Nat} {S : zSt} {a0 : Nat} {v1 : Int32} (ha0 : zLife a0) {z : Int32} (h : fX6_hasAct S a0 v1 = some z) : zMi l yX6_hasAct cX6_hasAct 2 (some .boolean) rmX6_hasAct [.ref (q a0), .int v1] (zPr zsh zNC D cy q S) z := by
  refine Met.ofW (cc := cX6_hasAct) (maxL := 2) (ret := (some .boolean)) (by decide) rfl ?_
  intro p e s m args below meth c s₁ B hml hv
  obtain ⟨rfl, hP, hK⟩ := hv
  have cx : zX RX6 cX6_hasAct 2 p s m ([.ref (q a0), .int v1]).toArray c D cy := ⟨B.exec, B.bytes, hml, findClass_of_methodNamed B.named, fun w hw => atoms_spec (ws := Cond.code yX6_hasAct cX6_hasAct 2 (some .boolean) :: zTB) B.pre w (List.mem_cons_of_mem _ hw), hK⟩
  have hx := cx.1
  have hb := cx.2.1
  have hr := B.returns
  have hlk := B.notSynchronized
  have hl := lv_entry ([.ref (q a0), .int v1]) (n := 2) (Nat.le_of_ble_eq_true rfl)
  rw [lg_entry_eq]
  generalize (lg_sl ([.ref (q a0), .int v1]) ++ List.replicate (2 - (lg_sl ([.ref (q a0), .int v1])).length) Slot.unset).toArray = ls at hl ⊢
  have hl : lv_has ls 2 [(0, .ref (q a0)), (1, .int v1)] := hl
  unfold fX6_hasAct at h
  refine lv_iload_n (pc := 0) hx hb dX6_hasAct_0 rfl (lv_at hl 1 rfl) ?_
  refine lv_if_lt (pc := 1) (tgt := 16) hx hb dX6_hasAct_1 (by decide) (fun c1 => ?_) (fun c1 => ?_)
  · replace h := zBr_t c1 h
    refine lv_iconst (pc := 16) hx hb dX6_hasAct_16 zc_0 ?_
    have hz := Option.some.inj h
    exact zr_reZ (pc := 17) cx hr hlk hz (by decide) dX6_hasAct_17
  · replace h := zBr_f c1 h
    refine lv_iload_n (pc := 4) hx hb dX6_hasAct_4 rfl (lv_at hl 1 rfl) ?_
    refine lv_aload_n (pc := 5) hx hb dX6_hasAct_5 rfl (lv_at hl 0 rfl) ?_
    refine zr_getI (pc := 6) cx lk_X6_46 hP (nX6_0 ha0) (sX6_0 ha0) rfl dX6_hasAct_6 ?_
    refine lv_icmp_ge (pc := 9) (tgt := 16) hx hb dX6_hasAct_9 (by decide) (fun c2 => ?_) (fun c2 => ?_)
    · replace h := zBr_t c2 h
      refine lv_iconst (pc := 16) hx hb dX6_hasAct_16 zc_0 ?_
      have hz := Option.some.inj h
      exact zr_reZ (pc := 17) cx hr hlk hz (by decide) dX6_hasAct_17
    · replace h := zBr_f c2 h
      refine lv_iconst (pc := 12) hx hb dX6_hasAct_12 zc_1 ?_
      refine lv_goto (pc := 13) (tgt := 17) hx hb dX6_hasAct_13 (by decide) ?_
      have hz := Option.some.inj h
      exact zr_reZ (pc := 17) cx hr hlk hz (by decide) dX6_hasAct_17
-- X11_comes
abbrev rmX11_comes : Room := { frames := 1, cells := 0, slots := 0, locals := 22 }
def fX11_comes (S : zSt) (v1 : Int32) (v2 : Int32) : Option Int32 :=
  zBd (fX3_has S 4 (1 : Int32) v1) (fun r2 => zBr (r2 = 0) (some (-1 : Int32)) (zBd (fX6_hasAct S 14 v2) (fun r5 => zBr (r5 = 0) (some (-1 : Int32)) (zGd (zIx v1 6) (zGd (zIx v2 12) (some (S.1 (14 + 6 + v1.toNatClampNeg) v2.toNatClampNeg)))))))
set_option maxHeartbeats 4000000 in
set_option maxRecDepth 100000 in
theorem mX11_comes {l : Launch} {D : va_G} {cy : Nat → ClassId} {q : Nat → Nat} {S : zSt} {v1 : Int32} {v2 : Int32} {z : Int32} (h : fX11_comes S v1 v2 = some z) : zMi l yX11_comes cX11_comes 3 (some .int) rmX11_comes [.ref (q 0), .int v1, .int v2] (zPr zsh zNC D cy q S) z := by
  refine Met.ofW (cc := cX11_comes) (maxL := 3) (ret := (some .int)) (by decide) rfl ?_
  intro p e s m args below meth c s₁ B hml hv
  obtain ⟨rfl, hP, hK⟩ := hv
  have cx : zX RX11 cX11_comes 3 p s m ([.ref (q 0), .int v1, .int v2]).toArray c D cy := ⟨B.exec, B.bytes, hml, findClass_of_methodNamed B.named, fun w hw => atoms_spec (ws := Cond.code yX11_comes cX11_comes 3 (some .int) :: zTB) B.pre w (List.mem_cons_of_mem _ hw), hK⟩
  have hx := cx.1
  have hb := cx.2.1
  have hr := B.returns
  have hlk := B.notSynchronized
  have hl := lv_entry ([.ref (q 0), .int v1, .int v2]) (n := 3) (Nat.le_of_ble_eq_true rfl)
  rw [lg_entry_eq]
  generalize (lg_sl ([.ref (q 0), .int v1, .int v2]) ++ List.replicate (3 - (lg_sl ([.ref (q 0), .int v1, .int v2])).length) Slot.unset).toArray = ls at hl ⊢
  have hl : lv_has ls 3 [(0, .ref (q 0)), (1, .int v1), (2, .int v2)] := hl
  unfold fX11_comes at h
  refine lv_aload_n (pc := 0) hx hb dX11_comes_0 rfl (lv_at hl 0 rfl) ?_
  refine zr_getR (pc := 1) (t := 4) cx lk_X11_19 hP nC_0 sC_0 rfl dX11_comes_1 ?_
  refine lv_iconst (pc := 4) hx hb dX11_comes_4 zc_1 ?_
  refine lv_iload_n (pc := 5) hx hb dX11_comes_5 rfl (lv_at hl 1 rfl) ?_
  obtain ⟨r2, k1, h⟩ := zBd_e h
  refine zr_VI (pc := 6) (rest := []) cx cv_X11_149 (mX3_has zHouse_4 k1) ⟨⟨rfl, rfl⟩, Nat.le_of_ble_eq_true rfl, Nat.le_of_ble_eq_true rfl⟩ ⟨Nat.le_of_ble_eq_true rfl, Nat.le_of_ble_eq_true rfl⟩ hP (nX3_0 zHouse_4) (sX3_0 zHouse_4) rfl hl.1 rfl rfl (Nat.le_of_ble_eq_true rfl) dX11_comes_6 ?_
  refine lv_if_eq (pc := 9) (tgt := 37) hx hb dX11_comes_9 (by decide) (fun c3 => ?_) (fun c3 => ?_)
  · replace h := zBr_t c3 h
    refine lv_iconst (pc := 37) hx hb dX11_comes_37 zc_m1 ?_
    have hz := Option.some.inj h
    exact zr_reI (pc := 38) cx hr hlk hz dX11_comes_38
  · replace h := zBr_f c3 h
    refine lv_aload_n (pc := 12) hx hb dX11_comes_12 rfl (lv_at hl 0 rfl) ?_
    refine zr_getR (pc := 13) (t := 14) cx lk_X11_28 hP nC_0 sC_0 rfl dX11_comes_13 ?_
    refine lv_iload_n (pc := 16) hx hb dX11_comes_16 rfl (lv_at hl 2 rfl) ?_
    obtain ⟨r5, k4, h⟩ := zBd_e h
    refine zr_VI (pc := 17) (rest := []) cx cv_X11_184 (mX6_hasAct zLife_14 k4) ⟨⟨rfl, rfl⟩, Nat.le_of_ble_eq_true rfl, Nat.le_of_ble_eq_true rfl⟩ ⟨Nat.le_of_ble_eq_true rfl, Nat.le_of_ble_eq_true rfl⟩ hP (nX6_0 zLife_14) (sX6_0 zLife_14) rfl hl.1 rfl rfl (Nat.le_of_ble_eq_true rfl) dX11_comes_17 ?_
    refine lv_if_eq (pc := 20) (tgt := 37) hx hb dX11_comes_20 (by decide) (fun c6 => ?_) (fun c6 => ?_)
    · replace h := zBr_t c6 h
      refine lv_iconst (pc := 37) hx hb dX11_comes_37 zc_m1 ?_
      have hz := Option.some.inj h
      exact zr_reI (pc := 38) cx hr hlk hz dX11_comes_38
    · replace h := zBr_f c6 h
      refine lv_aload_n (pc := 23) hx hb dX11_comes_23 rfl (lv_at hl 0 rfl) ?_
      refine zr_getR (pc := 24) (t := 14) cx lk_X11_28 hP nC_0 sC_0 rfl dX11_comes_24 ?_
      refine zr_getR (pc := 27) (t := (14 + 5)) cx lk_X11_213 hP (nX6_0 zLife_14) (sX6_0 zLife_14) rfl dX11_comes_27 ?_
      refine lv_iload_n (pc := 30) hx hb dX11_comes_30 rfl (lv_at hl 1 rfl) ?_
      obtain ⟨g7, h⟩ := zGd_e h
      refine zr_aald (pc := 31) (g := (14 + 6 + v1.toNatClampNeg)) cx hP (nX6_5 zLife_14) (sX6_5 zLife_14) (Or.inr (Or.inr rfl)) g7 rfl dX11_comes_31 ?_
      refine lv_iload_n (pc := 32) hx hb dX11_comes_32 rfl (lv_at hl 2 rfl) ?_
      obtain ⟨g8, h⟩ := zGd_e h
      refine zr_iald (pc := 33) cx hP (nX6_r zLife_14 g7) (sX6_r zLife_14 g7) g8 dX11_comes_33 ?_
      refine lv_goto (pc := 34) (tgt := 38) hx hb dX11_comes_34 (by decide) ?_
      have hz := Option.some.inj h
      exact zr_reI (pc := 38) cx hr hlk hz dX11_comes_38
-- X11_count
abbrev rmX11_count : Room := { frames := 0, cells := 0, slots := 0, locals := 0 }
def fX11_count (S : zSt) (v1 : Int32) : Option Int32 :=
  zBr (v1 = 0) (zGd (zIx (0 : Int32) 4) (some (S.1 (4 + 1) (0 : Int32).toNatClampNeg))) (zBr (v1 = 1) (zGd (zIx (1 : Int32) 4) (some (S.1 (4 + 1) (1 : Int32).toNatClampNeg))) (zBr (v1 = 2) (zGd (zIx (2 : Int32) 4) (some (S.1 (4 + 1) (2 : Int32).toNatClampNeg))) (zBr (v1 = 3) (zGd (zIx (3 : Int32) 4) (some (S.1 (4 + 1) (3 : Int32).toNatClampNeg))) (zBr (v1 = 4) (some (S.1 4 10)) (zBr (v1 = 5) (some (S.1 4 11)) (zBr (v1 = 6) (some (S.1 1 1)) (some (-1 : Int32))))))))
set_option maxHeartbeats 4000000 in
set_option maxRecDepth 100000 in
theorem mX11_count {l : Launch} {D : va_G} {cy : Nat → ClassId} {q : Nat → Nat} {S : zSt} {v1 : Int32} {z : Int32} (h : fX11_count S v1 = some z) : zMi l yX11_count cX11_count 2 (some .int) rmX11_count [.ref (q 0), .int v1] (zPr zsh zNC D cy q S) z := by
  refine Met.ofW (cc := cX11_count) (maxL := 2) (ret := (some .int)) (by decide) rfl ?_
  intro p e s m args below meth c s₁ B hml hv
  obtain ⟨rfl, hP, hK⟩ := hv
  have cx : zX RX11 cX11_count 2 p s m ([.ref (q 0), .int v1]).toArray c D cy := ⟨B.exec, B.bytes, hml, findClass_of_methodNamed B.named, fun w hw => atoms_spec (ws := Cond.code yX11_count cX11_count 2 (some .int) :: zTB) B.pre w (List.mem_cons_of_mem _ hw), hK⟩
  have hx := cx.1
  have hb := cx.2.1
  have hr := B.returns
  have hlk := B.notSynchronized
  have hl := lv_entry ([.ref (q 0), .int v1]) (n := 2) (Nat.le_of_ble_eq_true rfl)
  rw [lg_entry_eq]
  generalize (lg_sl ([.ref (q 0), .int v1]) ++ List.replicate (2 - (lg_sl ([.ref (q 0), .int v1])).length) Slot.unset).toArray = ls at hl ⊢
  have hl : lv_has ls 2 [(0, .ref (q 0)), (1, .int v1)] := hl
  unfold fX11_count at h
  refine lv_iload_n (pc := 0) hx hb dX11_count_0 rfl (lv_at hl 1 rfl) ?_
  by_cases c1 : v1 = 0
  · replace h := zBr_t c1 h
    refine lv_tableIn (pc := 1) (off := 43) (tgt := 44) hx hb dX11_count_1 (by rw [c1]; decide) (by rw [c1]; decide) (by rw [c1]; rfl) (by decide) ?_
    refine lv_aload_n (pc := 44) hx hb dX11_count_44 rfl (lv_at hl 0 rfl) ?_
    refine zr_getR (pc := 45) (t := 4) cx lk_X11_19 hP nC_0 sC_0 rfl dX11_count_45 ?_
    refine zr_getR (pc := 48) (t := (4 + 1)) cx lk_X11_312 hP (nX3_0 zHouse_4) (sX3_0 zHouse_4) rfl dX11_count_48 ?_
    refine lv_iconst (pc := 51) hx hb dX11_count_51 zc_0 ?_
    obtain ⟨g8, h⟩ := zGd_e h
    refine zr_iald (pc := 52) cx hP (nX3_1 zHouse_4) (sX3_1 zHouse_4) g8 dX11_count_52 ?_
    have hz := Option.some.inj h
    exact zr_reI (pc := 53) cx hr hlk hz dX11_count_53
  · replace h := zBr_f c1 h
    by_cases c2 : v1 = 1
    · replace h := zBr_t c2 h
      refine lv_tableIn (pc := 1) (off := 53) (tgt := 54) hx hb dX11_count_1 (by rw [c2]; decide) (by rw [c2]; decide) (by rw [c2]; rfl) (by decide) ?_
      refine lv_aload_n (pc := 54) hx hb dX11_count_54 rfl (lv_at hl 0 rfl) ?_
      refine zr_getR (pc := 55) (t := 4) cx lk_X11_19 hP nC_0 sC_0 rfl dX11_count_55 ?_
      refine zr_getR (pc := 58) (t := (4 + 1)) cx lk_X11_312 hP (nX3_0 zHouse_4) (sX3_0 zHouse_4) rfl dX11_count_58 ?_
      refine lv_iconst (pc := 61) hx hb dX11_count_61 zc_1 ?_
      obtain ⟨g9, h⟩ := zGd_e h
      refine zr_iald (pc := 62) cx hP (nX3_1 zHouse_4) (sX3_1 zHouse_4) g9 dX11_count_62 ?_
      have hz := Option.some.inj h
      exact zr_reI (pc := 63) cx hr hlk hz dX11_count_63
    · replace h := zBr_f c2 h
      by_cases c3 : v1 = 2
      · replace h := zBr_t c3 h
        refine lv_tableIn (pc := 1) (off := 63) (tgt := 64) hx hb dX11_count_1 (by rw [c3]; decide) (by rw [c3]; decide) (by rw [c3]; rfl) (by decide) ?_
        refine lv_aload_n (pc := 64) hx hb dX11_count_64 rfl (lv_at hl 0 rfl) ?_
        refine zr_getR (pc := 65) (t := 4) cx lk_X11_19 hP nC_0 sC_0 rfl dX11_count_65 ?_
        refine zr_getR (pc := 68) (t := (4 + 1)) cx lk_X11_312 hP (nX3_0 zHouse_4) (sX3_0 zHouse_4) rfl dX11_count_68 ?_
        refine lv_iconst (pc := 71) hx hb dX11_count_71 zc_2 ?_
        obtain ⟨g10, h⟩ := zGd_e h
        refine zr_iald (pc := 72) cx hP (nX3_1 zHouse_4) (sX3_1 zHouse_4) g10 dX11_count_72 ?_
        have hz := Option.some.inj h
        exact zr_reI (pc := 73) cx hr hlk hz dX11_count_73
      · replace h := zBr_f c3 h
        by_cases c4 : v1 = 3
        · replace h := zBr_t c4 h
          refine lv_tableIn (pc := 1) (off := 73) (tgt := 74) hx hb dX11_count_1 (by rw [c4]; decide) (by rw [c4]; decide) (by rw [c4]; rfl) (by decide) ?_
          refine lv_aload_n (pc := 74) hx hb dX11_count_74 rfl (lv_at hl 0 rfl) ?_
          refine zr_getR (pc := 75) (t := 4) cx lk_X11_19 hP nC_0 sC_0 rfl dX11_count_75 ?_
          refine zr_getR (pc := 78) (t := (4 + 1)) cx lk_X11_312 hP (nX3_0 zHouse_4) (sX3_0 zHouse_4) rfl dX11_count_78 ?_
          refine lv_iconst (pc := 81) hx hb dX11_count_81 zc_3 ?_
          obtain ⟨g11, h⟩ := zGd_e h
          refine zr_iald (pc := 82) cx hP (nX3_1 zHouse_4) (sX3_1 zHouse_4) g11 dX11_count_82 ?_
          have hz := Option.some.inj h
          exact zr_reI (pc := 83) cx hr hlk hz dX11_count_83
        · replace h := zBr_f c4 h
          by_cases c5 : v1 = 4
          · replace h := zBr_t c5 h
            refine lv_tableIn (pc := 1) (off := 83) (tgt := 84) hx hb dX11_count_1 (by rw [c5]; decide) (by rw [c5]; decide) (by rw [c5]; rfl) (by decide) ?_
            refine lv_aload_n (pc := 84) hx hb dX11_count_84 rfl (lv_at hl 0 rfl) ?_
            refine zr_getR (pc := 85) (t := 4) cx lk_X11_19 hP nC_0 sC_0 rfl dX11_count_85 ?_
            refine zr_getI (pc := 88) cx lk_X11_403 hP (nX3_0 zHouse_4) (sX3_0 zHouse_4) rfl dX11_count_88 ?_
            have hz := Option.some.inj h
            exact zr_reI (pc := 91) cx hr hlk hz dX11_count_91
          · replace h := zBr_f c5 h
            by_cases c6 : v1 = 5
            · replace h := zBr_t c6 h
              refine lv_tableIn (pc := 1) (off := 91) (tgt := 92) hx hb dX11_count_1 (by rw [c6]; decide) (by rw [c6]; decide) (by rw [c6]; rfl) (by decide) ?_
              refine lv_aload_n (pc := 92) hx hb dX11_count_92 rfl (lv_at hl 0 rfl) ?_
              refine zr_getR (pc := 93) (t := 4) cx lk_X11_19 hP nC_0 sC_0 rfl dX11_count_93 ?_
              refine zr_getI (pc := 96) cx lk_X11_406 hP (nX3_0 zHouse_4) (sX3_0 zHouse_4) rfl dX11_count_96 ?_
              have hz := Option.some.inj h
              exact zr_reI (pc := 99) cx hr hlk hz dX11_count_99
            · replace h := zBr_f c6 h
              by_cases c7 : v1 = 6
              · replace h := zBr_t c7 h
                refine lv_tableIn (pc := 1) (off := 99) (tgt := 100) hx hb dX11_count_1 (by rw [c7]; decide) (by rw [c7]; decide) (by rw [c7]; rfl) (by decide) ?_
                refine lv_aload_n (pc := 100) hx hb dX11_count_100 rfl (lv_at hl 0 rfl) ?_
                refine zr_getR (pc := 101) (t := 1) cx lk_X11_10 hP nC_0 sC_0 rfl dX11_count_101 ?_
                refine zr_getI (pc := 104) cx lk_X11_114 hP nC_1 sC_1 rfl dX11_count_104 ?_
                have hz := Option.some.inj h
                exact zr_reI (pc := 107) cx hr hlk hz dX11_count_107
              · replace h := zBr_f c7 h
                refine zr_tsD (pc := 1) (tgt := 108) hx hb dX11_count_1 (fun h1 h2 => ?_) (by decide) ?_
                · rcases (show (v1).toInt = 0 ∨ (v1).toInt = 1 ∨ (v1).toInt = 2 ∨ (v1).toInt = 3 ∨ (v1).toInt = 4 ∨ (v1).toInt = 5 ∨ (v1).toInt = 6 by omega) with e9 | e9 | e9 | e9 | e9 | e9 | e9
                  · exact absurd (Int32.toInt_inj.mp (e9.trans (by decide))) c1
                  · exact absurd (Int32.toInt_inj.mp (e9.trans (by decide))) c2
                  · exact absurd (Int32.toInt_inj.mp (e9.trans (by decide))) c3
                  · exact absurd (Int32.toInt_inj.mp (e9.trans (by decide))) c4
                  · exact absurd (Int32.toInt_inj.mp (e9.trans (by decide))) c5
                  · exact absurd (Int32.toInt_inj.mp (e9.trans (by decide))) c6
                  · exact absurd (Int32.toInt_inj.mp (e9.trans (by decide))) c7
                · skip
                  refine lv_iconst (pc := 108) hx hb dX11_count_108 zc_m1 ?_
                  have hz := Option.some.inj h
                  exact zr_reI (pc := 109) cx hr hlk hz dX11_count_109
-- X2_reachOfAll
abbrev rmX2_reachOfAll : Room := { frames := 1, cells := 0, slots := 0, locals := 21 }
def fX2_reachOfAll_36 (S : zSt)  (v1 : Int32) (v2 : Int32) (v3 : Int32) : Option ((Int32 × Int32) ⊕ Int32) :=
  zLt (v3 + (1 : Int32)) (fun x7 => some (.inl (v2, x7)))
set_option maxHeartbeats 4000000 in
set_option maxRecDepth 100000 in
theorem kX2_reachOfAll_36 {p : Program} {l : Launch} {e : Env} {s : State} {m : MethodId} {args : Array Value} {below : List Frame} {meth : Method} {c : Code} {D : va_G} {cy : Nat → ClassId} {q : Nat → Nat} (cx : zX RX2 cX2_reachOfAll 4 p s m args c D cy) (hr : meth.sig.returnType = (some .int)) (hlk : meth.locks = false) {z : Int32} {S : zSt} {v1 : Int32} {v2 : Int32} {v3 : Int32} {C1 : ((Int32 × Int32) ⊕ Int32) → Prop} (hb1 : ∀ (v2 : Int32) (v3 : Int32), C1 (.inl (v2, v3)) → ∀ (ls : Array Slot), lv_has ls 4 [(0, .ref (q 255)), (1, .int v1), (2, .int v2), (3, .int v3)] → W p l e rmX2_reachOfAll s m args below meth c s.heap [] 0 0 (MQ below (vp_Si (fun x => x = z)) args s 0 0 (fun _ => False)) (F0 m 4 ls [])) (hx1 : ∀ a, C1 (.inr a) → a = z) (hP : va_P D vwCl (zW zsh zNC cy q S) s.heap) {x : ((Int32 × Int32) ⊕ Int32)} (h : fX2_reachOfAll_36 S v1 v2 v3 = some x) (hc : C1 x) {ls : Array Slot} (hl : lv_has ls 4 [(0, .ref (q 255)), (1, .int v1), (2, .int v2), (3, .int v3)]) : W p l e rmX2_reachOfAll s m args below meth c s.heap [] 0 0 (MQ below (vp_Si (fun x => x = z)) args s 0 0 (fun _ => False)) (F0 m 36 ls []) := by
  have hx := cx.1
  have hb := cx.2.1
  unfold fX2_reachOfAll_36 at h
  obtain ⟨x7, ex7, h⟩ := zLt_e h
  refine lv_iinc (v := x7) (lv' := [(3, .int x7), (0, .ref (q 255)), (1, .int v1), (2, .int v2)]) (pc := 36) hx hb dX2_reachOfAll_36 hl (k := 3) rfl (by rw [zc_1]; exact ex7.symm) (by decide) rfl (fun ls hl => ?_)
  refine lv_goto (pc := 39) (tgt := 4) hx hb dX2_reachOfAll_39 (by decide) ?_
  cases h
  exact hb1 _ _ hc _ (lv_sub hl [1, 2, 3, 0] rfl)
def fX2_reachOfAll_4 (S : zSt)  (v1 : Int32) (t : (Int32 × Int32)) : Option ((Int32 × Int32) ⊕ Int32) :=
  match t with
  | (v2, v3) => zGd (zIx (0 : Int32) 4) (zBr ((S.1 (4 + 1) (0 : Int32).toNatClampNeg) ≤ v3) (zXr (some v2)) (zBd (fX11_hasBit v1 v3) (fun r5 => zBr (r5 = 0) (fX2_reachOfAll_36 S v1 v2 v3) (zBd (fX3_reach S 4 v3) (fun r9 => zLt (v2 ||| r9) (fun x10 => fX2_reachOfAll_36 S v1 x10 v3))))))
set_option maxHeartbeats 4000000 in
set_option maxRecDepth 100000 in
theorem kX2_reachOfAll_4B {p : Program} {l : Launch} {e : Env} {s : State} {m : MethodId} {args : Array Value} {below : List Frame} {meth : Method} {c : Code} {D : va_G} {cy : Nat → ClassId} {q : Nat → Nat} (cx : zX RX2 cX2_reachOfAll 4 p s m args c D cy) (hr : meth.sig.returnType = (some .int)) (hlk : meth.locks = false) {z : Int32} {S : zSt} {v1 : Int32} {v2 : Int32} {v3 : Int32} {C1 : ((Int32 × Int32) ⊕ Int32) → Prop} (hb1 : ∀ (v2 : Int32) (v3 : Int32), C1 (.inl (v2, v3)) → ∀ (ls : Array Slot), lv_has ls 4 [(0, .ref (q 255)), (1, .int v1), (2, .int v2), (3, .int v3)] → W p l e rmX2_reachOfAll s m args below meth c s.heap [] 0 0 (MQ below (vp_Si (fun x => x = z)) args s 0 0 (fun _ => False)) (F0 m 4 ls [])) (hx1 : ∀ a, C1 (.inr a) → a = z) (hP : va_P D vwCl (zW zsh zNC cy q S) s.heap) {x : ((Int32 × Int32) ⊕ Int32)} (h : fX2_reachOfAll_4 S v1 (v2, v3) = some x) (hc : C1 x) {ls : Array Slot} (hl : lv_has ls 4 [(0, .ref (q 255)), (1, .int v1), (2, .int v2), (3, .int v3)]) : W p l e rmX2_reachOfAll s m args below meth c s.heap [] 0 0 (MQ below (vp_Si (fun x => x = z)) args s 0 0 (fun _ => False)) (F0 m 4 ls []) := by
  have hx := cx.1
  have hb := cx.2.1
  unfold fX2_reachOfAll_4 at h
  dsimp only at h
  refine lv_iload_n (pc := 4) hx hb dX2_reachOfAll_4 rfl (lv_at hl 3 rfl) ?_
  refine lv_aload_n (pc := 5) hx hb dX2_reachOfAll_5 rfl (lv_at hl 0 rfl) ?_
  refine zr_getR (pc := 6) (t := 4) cx lk_X2_21 hP nC_255 sC_255 rfl dX2_reachOfAll_6 ?_
  refine zr_getR (pc := 9) (t := (4 + 1)) cx lk_X2_63 hP (nX3_0 zHouse_4) (sX3_0 zHouse_4) rfl dX2_reachOfAll_9 ?_
  refine lv_iconst (pc := 12) hx hb dX2_reachOfAll_12 zc_0 ?_
  obtain ⟨g1, h⟩ := zGd_e h
  refine zr_iald (pc := 13) cx hP (nX3_1 zHouse_4) (sX3_1 zHouse_4) g1 dX2_reachOfAll_13 ?_
  refine lv_icmp_ge (pc := 14) (tgt := 42) hx hb dX2_reachOfAll_14 (by decide) (fun c2 => ?_) (fun c2 => ?_)
  · replace h := zBr_t c2 h
    obtain ⟨y3, h, ex⟩ := zXr_e h
    have hc := hx1 y3 (by rw [ex] at hc; exact hc)
    rw [hc] at h
    refine lv_iload_n (pc := 42) hx hb dX2_reachOfAll_42 rfl (lv_at hl 2 rfl) ?_
    have hz := Option.some.inj h
    exact zr_reI (pc := 43) cx hr hlk hz dX2_reachOfAll_43
  · replace h := zBr_f c2 h
    refine lv_iload_n (pc := 17) hx hb dX2_reachOfAll_17 rfl (lv_at hl 1 rfl) ?_
    refine lv_iload_n (pc := 18) hx hb dX2_reachOfAll_18 rfl (lv_at hl 3 rfl) ?_
    obtain ⟨r5, k4, h⟩ := zBd_e h
    refine zr_NI (pc := 19) (rest := []) cx cv_X2_70 (mX11_hasBit k4) ⟨⟨rfl, rfl⟩, Nat.le_of_ble_eq_true rfl, Nat.le_of_ble_eq_true rfl⟩ ⟨Nat.le_of_ble_eq_true rfl, Nat.le_of_ble_eq_true rfl⟩ (zr_preK cx) hl.1 rfl rfl (Nat.le_of_ble_eq_true rfl) dX2_reachOfAll_19 ?_
    refine lv_if_eq (pc := 22) (tgt := 36) hx hb dX2_reachOfAll_22 (by decide) (fun c6 => ?_) (fun c6 => ?_)
    · replace h := zBr_t c6 h
      exact kX2_reachOfAll_36 cx hr hlk hb1 hx1 hP h hc (lv_sub hl [0, 1, 2, 3] rfl)
    · replace h := zBr_f c6 h
      refine lv_iload_n (pc := 25) hx hb dX2_reachOfAll_25 rfl (lv_at hl 2 rfl) ?_
      refine lv_aload_n (pc := 26) hx hb dX2_reachOfAll_26 rfl (lv_at hl 0 rfl) ?_
      refine zr_getR (pc := 27) (t := 4) cx lk_X2_21 hP nC_255 sC_255 rfl dX2_reachOfAll_27 ?_
      refine lv_iload_n (pc := 30) hx hb dX2_reachOfAll_30 rfl (lv_at hl 3 rfl) ?_
      obtain ⟨r9, k8, h⟩ := zBd_e h
      refine zr_VI (pc := 31) (rest := [.int v2]) cx cv_X2_106 (mX3_reach zHouse_4 k8) ⟨⟨rfl, rfl⟩, Nat.le_of_ble_eq_true rfl, Nat.le_of_ble_eq_true rfl⟩ ⟨Nat.le_of_ble_eq_true rfl, Nat.le_of_ble_eq_true rfl⟩ hP (nX3_0 zHouse_4) (sX3_0 zHouse_4) rfl hl.1 rfl rfl (Nat.le_of_ble_eq_true rfl) dX2_reachOfAll_31 ?_
      refine lv_ior (pc := 34) hx hb dX2_reachOfAll_34 ?_
      obtain ⟨x10, ex10, h⟩ := zLt_e h
      refine zr_nmI ex10 ?_
      refine lv_istore_n (lv' := [(2, .int x10), (0, .ref (q 255)), (1, .int v1), (3, .int v3)]) (pc := 35) hx hb dX2_reachOfAll_35 rfl hl (by decide) rfl (fun ls hl => ?_)
      exact kX2_reachOfAll_36 cx hr hlk hb1 hx1 hP h hc (lv_sub hl [1, 2, 0, 3] rfl)
set_option maxHeartbeats 4000000 in
set_option maxRecDepth 100000 in
theorem kX2_reachOfAll_4 {p : Program} {l : Launch} {e : Env} {s : State} {m : MethodId} {args : Array Value} {below : List Frame} {meth : Method} {c : Code} {D : va_G} {cy : Nat → ClassId} {q : Nat → Nat} (cx : zX RX2 cX2_reachOfAll 4 p s m args c D cy) (hr : meth.sig.returnType = (some .int)) (hlk : meth.locks = false) {z : Int32} {S : zSt} {v1 : Int32} (hP : va_P D vwCl (zW zsh zNC cy q S) s.heap) : ∀ (n : Nat) (v2 : Int32) (v3 : Int32), zLp (fX2_reachOfAll_4 S v1) n (v2, v3) = some z → ∀ (ls : Array Slot), lv_has ls 4 [(0, .ref (q 255)), (1, .int v1), (2, .int v2), (3, .int v3)] → W p l e rmX2_reachOfAll s m args below meth c s.heap [] 0 0 (MQ below (vp_Si (fun x => x = z)) args s 0 0 (fun _ => False)) (F0 m 4 ls []) := by
  intro n
  induction n with
  | zero =>
    intro v2 v3 h
    cases h
  | succ n ih =>
    intro v2 v3 h ls hl
    obtain ⟨x, h, hk⟩ := zLp_e h
    exact kX2_reachOfAll_4B cx hr hlk  (C1 := zKt (fun t => zLp (fX2_reachOfAll_4 S v1) n t = some z) (fun a => a = z)) (fun v2 v3 ht ls hl => ih v2 v3 ht ls hl) (fun a ha => ha) hP h hk hl
def fX2_reachOfAll (S : zSt) (v1 : Int32) : Option Int32 :=
  zLp (fX2_reachOfAll_4 S v1) 2000 ((0 : Int32), (0 : Int32))
set_option maxHeartbeats 4000000 in
set_option maxRecDepth 100000 in
theorem mX2_reachOfAll {l : Launch} {D : va_G} {cy : Nat → ClassId} {q : Nat → Nat} {S : zSt} {v1 : Int32} {z : Int32} (h : fX2_reachOfAll S v1 = some z) : zMi l yX2_reachOfAll cX2_reachOfAll 4 (some .int) rmX2_reachOfAll [.ref (q 255), .int v1] (zPr zsh zNC D cy q S) z := by
  refine Met.ofW (cc := cX2_reachOfAll) (maxL := 4) (ret := (some .int)) (by decide) rfl ?_
  intro p e s m args below meth c s₁ B hml hv
  obtain ⟨rfl, hP, hK⟩ := hv
  have cx : zX RX2 cX2_reachOfAll 4 p s m ([.ref (q 255), .int v1]).toArray c D cy := ⟨B.exec, B.bytes, hml, findClass_of_methodNamed B.named, fun w hw => atoms_spec (ws := Cond.code yX2_reachOfAll cX2_reachOfAll 4 (some .int) :: zTB) B.pre w (List.mem_cons_of_mem _ hw), hK⟩
  have hx := cx.1
  have hb := cx.2.1
  have hr := B.returns
  have hlk := B.notSynchronized
  have hl := lv_entry ([.ref (q 255), .int v1]) (n := 4) (Nat.le_of_ble_eq_true rfl)
  rw [lg_entry_eq]
  generalize (lg_sl ([.ref (q 255), .int v1]) ++ List.replicate (4 - (lg_sl ([.ref (q 255), .int v1])).length) Slot.unset).toArray = ls at hl ⊢
  have hl : lv_has ls 4 [(0, .ref (q 255)), (1, .int v1)] := hl
  unfold fX2_reachOfAll at h
  refine lv_iconst (pc := 0) hx hb dX2_reachOfAll_0 zc_0 ?_
  refine lv_istore_n (lv' := [(2, .int (0 : Int32)), (0, .ref (q 255)), (1, .int v1)]) (pc := 1) hx hb dX2_reachOfAll_1 rfl hl (by decide) rfl (fun ls hl => ?_)
  refine lv_iconst (pc := 2) hx hb dX2_reachOfAll_2 zc_0 ?_
  refine lv_istore_n (lv' := [(3, .int (0 : Int32)), (2, .int (0 : Int32)), (0, .ref (q 255)), (1, .int v1)]) (pc := 3) hx hb dX2_reachOfAll_3 rfl hl (by decide) rfl (fun ls hl => ?_)
  exact kX2_reachOfAll_4 cx hr hlk hP 2000 _ _ h _ (lv_sub hl [2, 3, 1, 0] rfl)
-- X2_leastCover
abbrev rmX2_leastCover : Room := { frames := 2, cells := 0, slots := 0, locals := 44 }
def fX2_leastCover_44 (S : zSt)  (v1 : Int32) (v2 : Int32) (v3 : Int32) : Option ((Int32 × Int32) ⊕ Int32) :=
  zLt (v3 + (1 : Int32)) (fun x11 => some (.inl (v2, x11)))
set_option maxHeartbeats 4000000 in
set_option maxRecDepth 100000 in
theorem kX2_leastCover_44 {p : Program} {l : Launch} {e : Env} {s : State} {m : MethodId} {args : Array Value} {below : List Frame} {meth : Method} {c : Code} {D : va_G} {cy : Nat → ClassId} {q : Nat → Nat} (cx : zX RX2 cX2_leastCover 4 p s m args c D cy) (hr : meth.sig.returnType = (some .int)) (hlk : meth.locks = false) {z : Int32} {S : zSt} {v1 : Int32} {v2 : Int32} {v3 : Int32} {C1 : ((Int32 × Int32) ⊕ Int32) → Prop} (hb1 : ∀ (v2 : Int32) (v3 : Int32), C1 (.inl (v2, v3)) → ∀ (ls : Array Slot), lv_has ls 4 [(0, .ref (q 255)), (1, .int v1), (2, .int v2), (3, .int v3)] → W p l e rmX2_leastCover s m args below meth c s.heap [] 0 0 (MQ below (vp_Si (fun x => x = z)) args s 0 0 (fun _ => False)) (F0 m 17 ls [])) (hx1 : ∀ a, C1 (.inr a) → a = z) (hP : va_P D vwCl (zW zsh zNC cy q S) s.heap) {x : ((Int32 × Int32) ⊕ Int32)} (h : fX2_leastCover_44 S v1 v2 v3 = some x) (hc : C1 x) {ls : Array Slot} (hl : lv_has ls 4 [(0, .ref (q 255)), (1, .int v1), (2, .int v2), (3, .int v3)]) : W p l e rmX2_leastCover s m args below meth c s.heap [] 0 0 (MQ below (vp_Si (fun x => x = z)) args s 0 0 (fun _ => False)) (F0 m 44 ls []) := by
  have hx := cx.1
  have hb := cx.2.1
  unfold fX2_leastCover_44 at h
  obtain ⟨x11, ex11, h⟩ := zLt_e h
  refine lv_iinc (v := x11) (lv' := [(3, .int x11), (0, .ref (q 255)), (1, .int v1), (2, .int v2)]) (pc := 44) hx hb dX2_leastCover_44 hl (k := 3) rfl (by rw [zc_1]; exact ex11.symm) (by decide) rfl (fun ls hl => ?_)
  refine lv_goto (pc := 47) (tgt := 17) hx hb dX2_leastCover_47 (by decide) ?_
  cases h
  exact hb1 _ _ hc _ (lv_sub hl [1, 2, 3, 0] rfl)
def fX2_leastCover_17 (S : zSt)  (v1 : Int32) (t : (Int32 × Int32)) : Option ((Int32 × Int32) ⊕ Int32) :=
  match t with
  | (v2, v3) => zBr (v1 ≤ v3) (zXr (some v2)) (zBd (fJ6_bitCount_0f7a4 v3) (fun r7 => zBd (fJ6_bitCount_0f7a4 v2) (fun r9 => zBr (r9 ≤ r7) (fX2_leastCover_44 S v1 v2 v3) (zBd (fX2_reachOfAll S v3) (fun r13 => zBr (r13 = v1) (fX2_leastCover_44 S v1 v3 v3) (fX2_leastCover_44 S v1 v2 v3))))))
set_option maxHeartbeats 4000000 in
set_option maxRecDepth 100000 in
theorem kX2_leastCover_17B {p : Program} {l : Launch} {e : Env} {s : State} {m : MethodId} {args : Array Value} {below : List Frame} {meth : Method} {c : Code} {D : va_G} {cy : Nat → ClassId} {q : Nat → Nat} (cx : zX RX2 cX2_leastCover 4 p s m args c D cy) (hr : meth.sig.returnType = (some .int)) (hlk : meth.locks = false) {z : Int32} {S : zSt} {v1 : Int32} {v2 : Int32} {v3 : Int32} {C1 : ((Int32 × Int32) ⊕ Int32) → Prop} (hb1 : ∀ (v2 : Int32) (v3 : Int32), C1 (.inl (v2, v3)) → ∀ (ls : Array Slot), lv_has ls 4 [(0, .ref (q 255)), (1, .int v1), (2, .int v2), (3, .int v3)] → W p l e rmX2_leastCover s m args below meth c s.heap [] 0 0 (MQ below (vp_Si (fun x => x = z)) args s 0 0 (fun _ => False)) (F0 m 17 ls [])) (hx1 : ∀ a, C1 (.inr a) → a = z) (hP : va_P D vwCl (zW zsh zNC cy q S) s.heap) {x : ((Int32 × Int32) ⊕ Int32)} (h : fX2_leastCover_17 S v1 (v2, v3) = some x) (hc : C1 x) {ls : Array Slot} (hl : lv_has ls 4 [(0, .ref (q 255)), (1, .int v1), (2, .int v2), (3, .int v3)]) : W p l e rmX2_leastCover s m args below meth c s.heap [] 0 0 (MQ below (vp_Si (fun x => x = z)) args s 0 0 (fun _ => False)) (F0 m 17 ls []) := by
  have hx := cx.1
  have hb := cx.2.1
  unfold fX2_leastCover_17 at h
  dsimp only at h
  refine lv_iload_n (pc := 17) hx hb dX2_leastCover_17 rfl (lv_at hl 3 rfl) ?_
  refine lv_iload_n (pc := 18) hx hb dX2_leastCover_18 rfl (lv_at hl 1 rfl) ?_
  refine lv_icmp_ge (pc := 19) (tgt := 50) hx hb dX2_leastCover_19 (by decide) (fun c4 => ?_) (fun c4 => ?_)
  · replace h := zBr_t c4 h
    obtain ⟨y5, h, ex⟩ := zXr_e h
    have hc := hx1 y5 (by rw [ex] at hc; exact hc)
    rw [hc] at h
    refine lv_iload_n (pc := 50) hx hb dX2_leastCover_50 rfl (lv_at hl 2 rfl) ?_
    have hz := Option.some.inj h
    exact zr_reI (pc := 51) cx hr hlk hz dX2_leastCover_51
  · replace h := zBr_f c4 h
    refine lv_iload_n (pc := 22) hx hb dX2_leastCover_22 rfl (lv_at hl 3 rfl) ?_
    obtain ⟨r7, k6, h⟩ := zBd_e h
    refine zr_SI (pc := 23) (rest := []) cx cv_X2_43 (mJ6_bitCount_0f7a4 k6) ⟨⟨rfl, rfl⟩, Nat.le_of_ble_eq_true rfl, Nat.le_of_ble_eq_true rfl⟩ ⟨Nat.le_of_ble_eq_true rfl, Nat.le_of_ble_eq_true rfl⟩ (zr_preK cx) hl.1 rfl rfl (Nat.le_of_ble_eq_true rfl) dX2_leastCover_23 ?_
    refine lv_iload_n (pc := 26) hx hb dX2_leastCover_26 rfl (lv_at hl 2 rfl) ?_
    obtain ⟨r9, k8, h⟩ := zBd_e h
    refine zr_SI (pc := 27) (rest := [.int r7]) cx cv_X2_43 (mJ6_bitCount_0f7a4 k8) ⟨⟨rfl, rfl⟩, Nat.le_of_ble_eq_true rfl, Nat.le_of_ble_eq_true rfl⟩ ⟨Nat.le_of_ble_eq_true rfl, Nat.le_of_ble_eq_true rfl⟩ (zr_preK cx) hl.1 rfl rfl (Nat.le_of_ble_eq_true rfl) dX2_leastCover_27 ?_
    refine lv_icmp_ge (pc := 30) (tgt := 44) hx hb dX2_leastCover_30 (by decide) (fun c10 => ?_) (fun c10 => ?_)
    · replace h := zBr_t c10 h
      exact kX2_leastCover_44 cx hr hlk hb1 hx1 hP h hc (lv_sub hl [0, 1, 2, 3] rfl)
    · replace h := zBr_f c10 h
      refine lv_aload_n (pc := 33) hx hb dX2_leastCover_33 rfl (lv_at hl 0 rfl) ?_
      refine lv_iload_n (pc := 34) hx hb dX2_leastCover_34 rfl (lv_at hl 3 rfl) ?_
      obtain ⟨r13, k12, h⟩ := zBd_e h
      refine zr_VI (pc := 35) (rest := []) cx cv_X2_103 (mX2_reachOfAll k12) ⟨⟨rfl, rfl⟩, Nat.le_of_ble_eq_true rfl, Nat.le_of_ble_eq_true rfl⟩ ⟨Nat.le_of_ble_eq_true rfl, Nat.le_of_ble_eq_true rfl⟩ hP nC_255 sC_255 rfl hl.1 rfl rfl (Nat.le_of_ble_eq_true rfl) dX2_leastCover_35 ?_
      refine lv_iload_n (pc := 38) hx hb dX2_leastCover_38 rfl (lv_at hl 1 rfl) ?_
      refine lv_icmp_ne (pc := 39) (tgt := 44) hx hb dX2_leastCover_39 (by decide) (fun c14 => ?_) (fun c14 => ?_)
      · replace h := zBr_f c14 h
        exact kX2_leastCover_44 cx hr hlk hb1 hx1 hP h hc (lv_sub hl [0, 1, 2, 3] rfl)
      · replace h := zBr_t c14 h
        refine lv_iload_n (pc := 42) hx hb dX2_leastCover_42 rfl (lv_at hl 3 rfl) ?_
        refine lv_istore_n (lv' := [(2, .int v3), (0, .ref (q 255)), (1, .int v1), (3, .int v3)]) (pc := 43) hx hb dX2_leastCover_43 rfl hl (by decide) rfl (fun ls hl => ?_)
        exact kX2_leastCover_44 cx hr hlk hb1 hx1 hP h hc (lv_sub hl [1, 2, 0, 3] rfl)
set_option maxHeartbeats 4000000 in
set_option maxRecDepth 100000 in
theorem kX2_leastCover_17 {p : Program} {l : Launch} {e : Env} {s : State} {m : MethodId} {args : Array Value} {below : List Frame} {meth : Method} {c : Code} {D : va_G} {cy : Nat → ClassId} {q : Nat → Nat} (cx : zX RX2 cX2_leastCover 4 p s m args c D cy) (hr : meth.sig.returnType = (some .int)) (hlk : meth.locks = false) {z : Int32} {S : zSt} {v1 : Int32} (hP : va_P D vwCl (zW zsh zNC cy q S) s.heap) : ∀ (n : Nat) (v2 : Int32) (v3 : Int32), zLp (fX2_leastCover_17 S v1) n (v2, v3) = some z → ∀ (ls : Array Slot), lv_has ls 4 [(0, .ref (q 255)), (1, .int v1), (2, .int v2), (3, .int v3)] → W p l e rmX2_leastCover s m args below meth c s.heap [] 0 0 (MQ below (vp_Si (fun x => x = z)) args s 0 0 (fun _ => False)) (F0 m 17 ls []) := by
  intro n
  induction n with
  | zero =>
    intro v2 v3 h
    cases h
  | succ n ih =>
    intro v2 v3 h ls hl
    obtain ⟨x, h, hk⟩ := zLp_e h
    exact kX2_leastCover_17B cx hr hlk  (C1 := zKt (fun t => zLp (fX2_leastCover_17 S v1) n t = some z) (fun a => a = z)) (fun v2 v3 ht ls hl => ih v2 v3 ht ls hl) (fun a ha => ha) hP h hk hl
def fX2_leastCover (S : zSt) : Option Int32 :=
  zGd (zIx (0 : Int32) 4) (zBd (fX11_allBits (S.1 (4 + 1) (0 : Int32).toNatClampNeg)) (fun r3 => zLp (fX2_leastCover_17 S r3) 2000 (r3, (0 : Int32))))
set_option maxHeartbeats 4000000 in
set_option maxRecDepth 100000 in
theorem mX2_leastCover {l : Launch} {D : va_G} {cy : Nat → ClassId} {q : Nat → Nat} {S : zSt} {z : Int32} (h : fX2_leastCover S = some z) : zMi l yX2_leastCover cX2_leastCover 4 (some .int) rmX2_leastCover [.ref (q 255)] (zPr zsh zNC D cy q S) z := by
  refine Met.ofW (cc := cX2_leastCover) (maxL := 4) (ret := (some .int)) (by decide) rfl ?_
  intro p e s m args below meth c s₁ B hml hv
  obtain ⟨rfl, hP, hK⟩ := hv
  have cx : zX RX2 cX2_leastCover 4 p s m ([.ref (q 255)]).toArray c D cy := ⟨B.exec, B.bytes, hml, findClass_of_methodNamed B.named, fun w hw => atoms_spec (ws := Cond.code yX2_leastCover cX2_leastCover 4 (some .int) :: zTB) B.pre w (List.mem_cons_of_mem _ hw), hK⟩
  have hx := cx.1
  have hb := cx.2.1
  have hr := B.returns
  have hlk := B.notSynchronized
  have hl := lv_entry ([.ref (q 255)]) (n := 4) (Nat.le_of_ble_eq_true rfl)
  rw [lg_entry_eq]
  generalize (lg_sl ([.ref (q 255)]) ++ List.replicate (4 - (lg_sl ([.ref (q 255)])).length) Slot.unset).toArray = ls at hl ⊢
  have hl : lv_has ls 4 [(0, .ref (q 255))] := hl
  unfold fX2_leastCover at h
  refine lv_aload_n (pc := 0) hx hb dX2_leastCover_0 rfl (lv_at hl 0 rfl) ?_
  refine zr_getR (pc := 1) (t := 4) cx lk_X2_21 hP nC_255 sC_255 rfl dX2_leastCover_1 ?_
  refine zr_getR (pc := 4) (t := (4 + 1)) cx lk_X2_63 hP (nX3_0 zHouse_4) (sX3_0 zHouse_4) rfl dX2_leastCover_4 ?_
  refine lv_iconst (pc := 7) hx hb dX2_leastCover_7 zc_0 ?_
  obtain ⟨g1, h⟩ := zGd_e h
  refine zr_iald (pc := 8) cx hP (nX3_1 zHouse_4) (sX3_1 zHouse_4) g1 dX2_leastCover_8 ?_
  obtain ⟨r3, k2, h⟩ := zBd_e h
  refine zr_NI (pc := 9) (rest := []) cx cv_X2_67 (mX11_allBits k2) ⟨⟨rfl, rfl⟩, Nat.le_of_ble_eq_true rfl, Nat.le_of_ble_eq_true rfl⟩ ⟨Nat.le_of_ble_eq_true rfl, Nat.le_of_ble_eq_true rfl⟩ (zr_preK cx) hl.1 rfl rfl (Nat.le_of_ble_eq_true rfl) dX2_leastCover_9 ?_
  refine lv_istore_n (lv' := [(1, .int r3), (0, .ref (q 255))]) (pc := 12) hx hb dX2_leastCover_12 rfl hl (by decide) rfl (fun ls hl => ?_)
  refine lv_iload_n (pc := 13) hx hb dX2_leastCover_13 rfl (lv_at hl 0 rfl) ?_
  refine lv_istore_n (lv' := [(2, .int r3), (1, .int r3), (0, .ref (q 255))]) (pc := 14) hx hb dX2_leastCover_14 rfl hl (by decide) rfl (fun ls hl => ?_)
  refine lv_iconst (pc := 15) hx hb dX2_leastCover_15 zc_0 ?_
  refine lv_istore_n (lv' := [(3, .int (0 : Int32)), (2, .int r3), (1, .int r3), (0, .ref (q 255))]) (pc := 16) hx hb dX2_leastCover_16 rfl hl (by decide) rfl (fun ls hl => ?_)
  exact kX2_leastCover_17 cx hr hlk hP 2000 _ _ h _ (lv_sub hl [3, 2, 1, 0] rfl)
-- X11_cover
abbrev rmX11_cover : Room := { frames := 3, cells := 0, slots := 0, locals := 67 }
def fX11_cover (S : zSt) : Option (Int32 × zSt) :=
  zBd (fX2_leastCover S) (fun r2 => zLt (zI S 0 16 r2) (fun S3 => zBd (fJ6_bitCount_0f7a4 (S3.1 0 16)) (fun r5 => some (r5, S3))))
set_option maxHeartbeats 4000000 in
set_option maxRecDepth 100000 in
theorem mX11_cover {l : Launch} {D : va_G} {cy : Nat → ClassId} {q : Nat → Nat} {A : Nat → Prop} {S : zSt} (hq : zQ A q zNC) {z : (Int32 × zSt)} (h : fX11_cover S = some z) : zMq l yX11_cover cX11_cover 1 (some .int) rmX11_cover [.ref (q 0)] zsh zNC D cy q A S z := by
  refine Met.ofW (cc := cX11_cover) (maxL := 1) (ret := (some .int)) (by decide) rfl ?_
  intro p e s m args below meth c s₁ B hml hv
  obtain ⟨rfl, hP, hK⟩ := hv
  have cx : zX RX11 cX11_cover 1 p s m ([.ref (q 0)]).toArray c D cy := ⟨B.exec, B.bytes, hml, findClass_of_methodNamed B.named, fun w hw => atoms_spec (ws := Cond.code yX11_cover cX11_cover 1 (some .int) :: zTB) B.pre w (List.mem_cons_of_mem _ hw), hK⟩
  have hx := cx.1
  have hb := cx.2.1
  have hr := B.returns
  have hlk := B.notSynchronized
  have hS : va_S A s.heap s.heap [] := va_S.rf
  have hl := lv_entry ([.ref (q 0)]) (n := 1) (Nat.le_of_ble_eq_true rfl)
  rw [lg_entry_eq]
  generalize (lg_sl ([.ref (q 0)]) ++ List.replicate (1 - (lg_sl ([.ref (q 0)])).length) Slot.unset).toArray = ls at hl ⊢
  have hl : lv_has ls 1 [(0, .ref (q 0))] := hl
  unfold fX11_cover at h
  refine lv_aload_n (pc := 0) hx hb dX11_cover_0 rfl (lv_at hl 0 rfl) ?_
  refine lv_aload_n (pc := 1) hx hb dX11_cover_1 rfl (lv_at hl 0 rfl) ?_
  refine zr_getR (pc := 2) (t := 255) cx lk_X11_82 hP nC_0 sC_0 rfl dX11_cover_2 ?_
  obtain ⟨r2, k1, h⟩ := zBd_e h
  refine zr_VI (pc := 5) (rest := [.ref (q 0)]) cx cv_X11_298 (mX2_leastCover k1) ⟨⟨rfl, rfl⟩, Nat.le_of_ble_eq_true rfl, Nat.le_of_ble_eq_true rfl⟩ ⟨Nat.le_of_ble_eq_true rfl, Nat.le_of_ble_eq_true rfl⟩ hP nC_255 sC_255 rfl hl.1 rfl rfl (Nat.le_of_ble_eq_true rfl) dX11_cover_5 ?_
  obtain ⟨S3, eS3, h⟩ := zLt_e h
  refine zr_putI (pc := 8) cx lq_X11_111 hq hP hS nC_0 sC_0 rfl rfl rfl dX11_cover_8 (fun H locs hP hS => ?_)
  rw [← eS3] at hP
  refine lv_aload_n (pc := 11) hx hb dX11_cover_11 rfl (lv_at hl 0 rfl) ?_
  refine zr_getI (pc := 12) cx lk_X11_111 hP nC_0 sC_0 rfl dX11_cover_12 ?_
  obtain ⟨r5, k4, h⟩ := zBd_e h
  refine zr_SI (pc := 15) (rest := []) cx cv_X11_176 (mJ6_bitCount_0f7a4 k4) ⟨⟨rfl, rfl⟩, Nat.le_of_ble_eq_true rfl, Nat.le_of_ble_eq_true rfl⟩ ⟨Nat.le_of_ble_eq_true rfl, Nat.le_of_ble_eq_true rfl⟩ (zr_preK cx) hl.1 rfl rfl (Nat.le_of_ble_eq_true rfl) dX11_cover_15 ?_
  have hz := Option.some.inj h
  exact zr_rqI (pc := 18) cx hr hlk hP hS hz dX11_cover_18
-- X11_covering
abbrev rmX11_covering : Room := { frames := 0, cells := 0, slots := 0, locals := 0 }
def fX11_covering (S : zSt) : Option Int32 :=
  some (S.1 0 16)
set_option maxHeartbeats 4000000 in
set_option maxRecDepth 100000 in
theorem mX11_covering {l : Launch} {D : va_G} {cy : Nat → ClassId} {q : Nat → Nat} {S : zSt} {z : Int32} (h : fX11_covering S = some z) : zMi l yX11_covering cX11_covering 1 (some .int) rmX11_covering [.ref (q 0)] (zPr zsh zNC D cy q S) z := by
  refine Met.ofW (cc := cX11_covering) (maxL := 1) (ret := (some .int)) (by decide) rfl ?_
  intro p e s m args below meth c s₁ B hml hv
  obtain ⟨rfl, hP, hK⟩ := hv
  have cx : zX RX11 cX11_covering 1 p s m ([.ref (q 0)]).toArray c D cy := ⟨B.exec, B.bytes, hml, findClass_of_methodNamed B.named, fun w hw => atoms_spec (ws := Cond.code yX11_covering cX11_covering 1 (some .int) :: zTB) B.pre w (List.mem_cons_of_mem _ hw), hK⟩
  have hx := cx.1
  have hb := cx.2.1
  have hr := B.returns
  have hlk := B.notSynchronized
  have hl := lv_entry ([.ref (q 0)]) (n := 1) (Nat.le_of_ble_eq_true rfl)
  rw [lg_entry_eq]
  generalize (lg_sl ([.ref (q 0)]) ++ List.replicate (1 - (lg_sl ([.ref (q 0)])).length) Slot.unset).toArray = ls at hl ⊢
  have hl : lv_has ls 1 [(0, .ref (q 0))] := hl
  unfold fX11_covering at h
  refine lv_aload_n (pc := 0) hx hb dX11_covering_0 rfl (lv_at hl 0 rfl) ?_
  refine zr_getI (pc := 1) cx lk_X11_111 hP nC_0 sC_0 rfl dX11_covering_1 ?_
  have hz := Option.some.inj h
  exact zr_reI (pc := 4) cx hr hlk hz dX11_covering_4
-- X2_daysTillDark
abbrev rmX2_daysTillDark : Room := { frames := 2, cells := 0, slots := 0, locals := 42 }
def fX2_daysTillDark_52 (S : zSt)  (v1 : Int32) (v2 : Int32) (v3 : Int32) : Option ((Int32 × Int32) ⊕ Int32) :=
  zLt (v3 + (1 : Int32)) (fun x13 => some (.inl (v2, x13)))
set_option maxHeartbeats 4000000 in
set_option maxRecDepth 100000 in
theorem kX2_daysTillDark_52 {p : Program} {l : Launch} {e : Env} {s : State} {m : MethodId} {args : Array Value} {below : List Frame} {meth : Method} {c : Code} {D : va_G} {cy : Nat → ClassId} {q : Nat → Nat} (cx : zX RX2 cX2_daysTillDark 4 p s m args c D cy) (hr : meth.sig.returnType = (some .int)) (hlk : meth.locks = false) {z : Int32} {S : zSt} {v1 : Int32} {v2 : Int32} {v3 : Int32} {C1 : ((Int32 × Int32) ⊕ Int32) → Prop} (hb1 : ∀ (v2 : Int32) (v3 : Int32), C1 (.inl (v2, v3)) → ∀ (ls : Array Slot), lv_has ls 4 [(0, .ref (q 255)), (1, .int v1), (2, .int v2), (3, .int v3)] → W p l e rmX2_daysTillDark s m args below meth c s.heap [] 0 0 (MQ below (vp_Si (fun x => x = z)) args s 0 0 (fun _ => False)) (F0 m 4 ls [])) (hx1 : ∀ a, C1 (.inr a) → a = z) (hP : va_P D vwCl (zW zsh zNC cy q S) s.heap) {x : ((Int32 × Int32) ⊕ Int32)} (h : fX2_daysTillDark_52 S v1 v2 v3 = some x) (hc : C1 x) {ls : Array Slot} (hl : lv_has ls 4 [(0, .ref (q 255)), (1, .int v1), (2, .int v2), (3, .int v3)]) : W p l e rmX2_daysTillDark s m args below meth c s.heap [] 0 0 (MQ below (vp_Si (fun x => x = z)) args s 0 0 (fun _ => False)) (F0 m 52 ls []) := by
  have hx := cx.1
  have hb := cx.2.1
  unfold fX2_daysTillDark_52 at h
  obtain ⟨x13, ex13, h⟩ := zLt_e h
  refine lv_iinc (v := x13) (lv' := [(3, .int x13), (0, .ref (q 255)), (1, .int v1), (2, .int v2)]) (pc := 52) hx hb dX2_daysTillDark_52 hl (k := 3) rfl (by rw [zc_1]; exact ex13.symm) (by decide) rfl (fun ls hl => ?_)
  refine lv_goto (pc := 55) (tgt := 4) hx hb dX2_daysTillDark_55 (by decide) ?_
  cases h
  exact hb1 _ _ hc _ (lv_sub hl [1, 2, 3, 0] rfl)
def fX2_daysTillDark_4 (S : zSt)  (v1 : Int32) (t : (Int32 × Int32)) : Option ((Int32 × Int32) ⊕ Int32) :=
  match t with
  | (v2, v3) => zBd (fX6_plants S 14) (fun r2 => zBr (r2 ≤ v3) (zXr (zBd (fX6_daysLeft S 14) (fun r6 => zBr (r6 < v2) (some (-1 : Int32)) (some v2)))) (zBd (fX6_seenBy S 14 v3) (fun r9 => zBd (fX11_hasBit r9 v1) (fun r11 => zBr (r11 = 0) (fX2_daysTillDark_52 S v1 v2 v3) (zGd (zIx v3 6) (zLt (if v2 < ((S.1 4 10) - (S.1 (14 + 14) v3.toNatClampNeg)) then ((S.1 4 10) - (S.1 (14 + 14) v3.toNatClampNeg)) else v2) (fun x15 => fX2_daysTillDark_52 S v1 x15 v3)))))))
set_option maxHeartbeats 4000000 in
set_option maxRecDepth 100000 in
theorem kX2_daysTillDark_4B {p : Program} {l : Launch} {e : Env} {s : State} {m : MethodId} {args : Array Value} {below : List Frame} {meth : Method} {c : Code} {D : va_G} {cy : Nat → ClassId} {q : Nat → Nat} (cx : zX RX2 cX2_daysTillDark 4 p s m args c D cy) (hr : meth.sig.returnType = (some .int)) (hlk : meth.locks = false) {z : Int32} {S : zSt} {v1 : Int32} {v2 : Int32} {v3 : Int32} {C1 : ((Int32 × Int32) ⊕ Int32) → Prop} (hb1 : ∀ (v2 : Int32) (v3 : Int32), C1 (.inl (v2, v3)) → ∀ (ls : Array Slot), lv_has ls 4 [(0, .ref (q 255)), (1, .int v1), (2, .int v2), (3, .int v3)] → W p l e rmX2_daysTillDark s m args below meth c s.heap [] 0 0 (MQ below (vp_Si (fun x => x = z)) args s 0 0 (fun _ => False)) (F0 m 4 ls [])) (hx1 : ∀ a, C1 (.inr a) → a = z) (hP : va_P D vwCl (zW zsh zNC cy q S) s.heap) {x : ((Int32 × Int32) ⊕ Int32)} (h : fX2_daysTillDark_4 S v1 (v2, v3) = some x) (hc : C1 x) {ls : Array Slot} (hl : lv_has ls 4 [(0, .ref (q 255)), (1, .int v1), (2, .int v2), (3, .int v3)]) : W p l e rmX2_daysTillDark s m args below meth c s.heap [] 0 0 (MQ below (vp_Si (fun x => x = z)) args s 0 0 (fun _ => False)) (F0 m 4 ls []) := by
  have hx := cx.1
  have hb := cx.2.1
  unfold fX2_daysTillDark_4 at h
  dsimp only at h
  refine lv_iload_n (pc := 4) hx hb dX2_daysTillDark_4 rfl (lv_at hl 3 rfl) ?_
  refine lv_aload_n (pc := 5) hx hb dX2_daysTillDark_5 rfl (lv_at hl 0 rfl) ?_
  refine zr_getR (pc := 6) (t := 14) cx lk_X2_25 hP nC_255 sC_255 rfl dX2_daysTillDark_6 ?_
  obtain ⟨r2, k1, h⟩ := zBd_e h
  refine zr_VI (pc := 9) (rest := [.int v3]) cx cv_X2_29 (mX6_plants zLife_14 k1) ⟨⟨rfl, rfl⟩, Nat.le_of_ble_eq_true rfl, Nat.le_of_ble_eq_true rfl⟩ ⟨Nat.le_of_ble_eq_true rfl, Nat.le_of_ble_eq_true rfl⟩ hP (nX6_0 zLife_14) (sX6_0 zLife_14) rfl hl.1 rfl rfl (Nat.le_of_ble_eq_true rfl) dX2_daysTillDark_9 ?_
  refine lv_icmp_ge (pc := 12) (tgt := 58) hx hb dX2_daysTillDark_12 (by decide) (fun c3 => ?_) (fun c3 => ?_)
  · replace h := zBr_t c3 h
    obtain ⟨y4, h, ex⟩ := zXr_e h
    have hc := hx1 y4 (by rw [ex] at hc; exact hc)
    rw [hc] at h
    refine lv_iload_n (pc := 58) hx hb dX2_daysTillDark_58 rfl (lv_at hl 2 rfl) ?_
    refine lv_aload_n (pc := 59) hx hb dX2_daysTillDark_59 rfl (lv_at hl 0 rfl) ?_
    refine zr_getR (pc := 60) (t := 14) cx lk_X2_25 hP nC_255 sC_255 rfl dX2_daysTillDark_60 ?_
    obtain ⟨r6, k5, h⟩ := zBd_e h
    refine zr_VI (pc := 63) (rest := [.int v2]) cx cv_X2_85 (mX6_daysLeft zLife_14 k5) ⟨⟨rfl, rfl⟩, Nat.le_of_ble_eq_true rfl, Nat.le_of_ble_eq_true rfl⟩ ⟨Nat.le_of_ble_eq_true rfl, Nat.le_of_ble_eq_true rfl⟩ hP (nX6_0 zLife_14) (sX6_0 zLife_14) rfl hl.1 rfl rfl (Nat.le_of_ble_eq_true rfl) dX2_daysTillDark_63 ?_
    refine lv_icmp_gt (pc := 66) (tgt := 73) hx hb dX2_daysTillDark_66 (by decide) (fun c7 => ?_) (fun c7 => ?_)
    · replace h := zBr_t c7 h
      refine lv_iconst (pc := 73) hx hb dX2_daysTillDark_73 zc_m1 ?_
      have hz := Option.some.inj h
      exact zr_reI (pc := 74) cx hr hlk hz dX2_daysTillDark_74
    · replace h := zBr_f c7 h
      refine lv_iload_n (pc := 69) hx hb dX2_daysTillDark_69 rfl (lv_at hl 2 rfl) ?_
      refine lv_goto (pc := 70) (tgt := 74) hx hb dX2_daysTillDark_70 (by decide) ?_
      have hz := Option.some.inj h
      exact zr_reI (pc := 74) cx hr hlk hz dX2_daysTillDark_74
  · replace h := zBr_f c3 h
    refine lv_aload_n (pc := 15) hx hb dX2_daysTillDark_15 rfl (lv_at hl 0 rfl) ?_
    refine zr_getR (pc := 16) (t := 14) cx lk_X2_25 hP nC_255 sC_255 rfl dX2_daysTillDark_16 ?_
    refine lv_iload_n (pc := 19) hx hb dX2_daysTillDark_19 rfl (lv_at hl 3 rfl) ?_
    obtain ⟨r9, k8, h⟩ := zBd_e h
    refine zr_VI (pc := 20) (rest := []) cx cv_X2_60 (mX6_seenBy zLife_14 k8) ⟨⟨rfl, rfl⟩, Nat.le_of_ble_eq_true rfl, Nat.le_of_ble_eq_true rfl⟩ ⟨Nat.le_of_ble_eq_true rfl, Nat.le_of_ble_eq_true rfl⟩ hP (nX6_0 zLife_14) (sX6_0 zLife_14) rfl hl.1 rfl rfl (Nat.le_of_ble_eq_true rfl) dX2_daysTillDark_20 ?_
    refine lv_iload_n (pc := 23) hx hb dX2_daysTillDark_23 rfl (lv_at hl 1 rfl) ?_
    obtain ⟨r11, k10, h⟩ := zBd_e h
    refine zr_NI (pc := 24) (rest := []) cx cv_X2_70 (mX11_hasBit k10) ⟨⟨rfl, rfl⟩, Nat.le_of_ble_eq_true rfl, Nat.le_of_ble_eq_true rfl⟩ ⟨Nat.le_of_ble_eq_true rfl, Nat.le_of_ble_eq_true rfl⟩ (zr_preK cx) hl.1 rfl rfl (Nat.le_of_ble_eq_true rfl) dX2_daysTillDark_24 ?_
    refine lv_if_eq (pc := 27) (tgt := 52) hx hb dX2_daysTillDark_27 (by decide) (fun c12 => ?_) (fun c12 => ?_)
    · replace h := zBr_t c12 h
      exact kX2_daysTillDark_52 cx hr hlk hb1 hx1 hP h hc (lv_sub hl [0, 1, 2, 3] rfl)
    · replace h := zBr_f c12 h
      refine lv_iload_n (pc := 30) hx hb dX2_daysTillDark_30 rfl (lv_at hl 2 rfl) ?_
      refine lv_aload_n (pc := 31) hx hb dX2_daysTillDark_31 rfl (lv_at hl 0 rfl) ?_
      refine zr_getR (pc := 32) (t := 4) cx lk_X2_21 hP nC_255 sC_255 rfl dX2_daysTillDark_32 ?_
      refine zr_getI (pc := 35) cx lk_X2_74 hP (nX3_0 zHouse_4) (sX3_0 zHouse_4) rfl dX2_daysTillDark_35 ?_
      refine lv_aload_n (pc := 38) hx hb dX2_daysTillDark_38 rfl (lv_at hl 0 rfl) ?_
      refine zr_getR (pc := 39) (t := 14) cx lk_X2_25 hP nC_255 sC_255 rfl dX2_daysTillDark_39 ?_
      refine zr_getR (pc := 42) (t := (14 + 14)) cx lk_X2_77 hP (nX6_0 zLife_14) (sX6_0 zLife_14) rfl dX2_daysTillDark_42 ?_
      refine lv_iload_n (pc := 45) hx hb dX2_daysTillDark_45 rfl (lv_at hl 3 rfl) ?_
      obtain ⟨g14, h⟩ := zGd_e h
      refine zr_iald (pc := 46) cx hP (nX6_14 zLife_14) (sX6_14 zLife_14) g14 dX2_daysTillDark_46 ?_
      refine lv_isub (pc := 47) hx hb dX2_daysTillDark_47 ?_
      refine zr_max (pc := 48) cx lb_X2_80 ⟨Nat.le_of_ble_eq_true rfl, Nat.le_of_ble_eq_true rfl, Nat.le_of_ble_eq_true rfl, Nat.le_of_ble_eq_true rfl⟩ hl.1 dX2_daysTillDark_48 ?_
      obtain ⟨x15, ex15, h⟩ := zLt_e h
      refine zr_nmI ex15 ?_
      refine lv_istore_n (lv' := [(2, .int x15), (0, .ref (q 255)), (1, .int v1), (3, .int v3)]) (pc := 51) hx hb dX2_daysTillDark_51 rfl hl (by decide) rfl (fun ls hl => ?_)
      exact kX2_daysTillDark_52 cx hr hlk hb1 hx1 hP h hc (lv_sub hl [1, 2, 0, 3] rfl)
set_option maxHeartbeats 4000000 in
set_option maxRecDepth 100000 in
theorem kX2_daysTillDark_4 {p : Program} {l : Launch} {e : Env} {s : State} {m : MethodId} {args : Array Value} {below : List Frame} {meth : Method} {c : Code} {D : va_G} {cy : Nat → ClassId} {q : Nat → Nat} (cx : zX RX2 cX2_daysTillDark 4 p s m args c D cy) (hr : meth.sig.returnType = (some .int)) (hlk : meth.locks = false) {z : Int32} {S : zSt} {v1 : Int32} (hP : va_P D vwCl (zW zsh zNC cy q S) s.heap) : ∀ (n : Nat) (v2 : Int32) (v3 : Int32), zLp (fX2_daysTillDark_4 S v1) n (v2, v3) = some z → ∀ (ls : Array Slot), lv_has ls 4 [(0, .ref (q 255)), (1, .int v1), (2, .int v2), (3, .int v3)] → W p l e rmX2_daysTillDark s m args below meth c s.heap [] 0 0 (MQ below (vp_Si (fun x => x = z)) args s 0 0 (fun _ => False)) (F0 m 4 ls []) := by
  intro n
  induction n with
  | zero =>
    intro v2 v3 h
    cases h
  | succ n ih =>
    intro v2 v3 h ls hl
    obtain ⟨x, h, hk⟩ := zLp_e h
    exact kX2_daysTillDark_4B cx hr hlk  (C1 := zKt (fun t => zLp (fX2_daysTillDark_4 S v1) n t = some z) (fun a => a = z)) (fun v2 v3 ht ls hl => ih v2 v3 ht ls hl) (fun a ha => ha) hP h hk hl
def fX2_daysTillDark (S : zSt) (v1 : Int32) : Option Int32 :=
  zLp (fX2_daysTillDark_4 S v1) 2000 ((0 : Int32), (0 : Int32))
set_option maxHeartbeats 4000000 in
set_option maxRecDepth 100000 in
theorem mX2_daysTillDark {l : Launch} {D : va_G} {cy : Nat → ClassId} {q : Nat → Nat} {S : zSt} {v1 : Int32} {z : Int32} (h : fX2_daysTillDark S v1 = some z) : zMi l yX2_daysTillDark cX2_daysTillDark 4 (some .int) rmX2_daysTillDark [.ref (q 255), .int v1] (zPr zsh zNC D cy q S) z := by
  refine Met.ofW (cc := cX2_daysTillDark) (maxL := 4) (ret := (some .int)) (by decide) rfl ?_
  intro p e s m args below meth c s₁ B hml hv
  obtain ⟨rfl, hP, hK⟩ := hv
  have cx : zX RX2 cX2_daysTillDark 4 p s m ([.ref (q 255), .int v1]).toArray c D cy := ⟨B.exec, B.bytes, hml, findClass_of_methodNamed B.named, fun w hw => atoms_spec (ws := Cond.code yX2_daysTillDark cX2_daysTillDark 4 (some .int) :: zTB) B.pre w (List.mem_cons_of_mem _ hw), hK⟩
  have hx := cx.1
  have hb := cx.2.1
  have hr := B.returns
  have hlk := B.notSynchronized
  have hl := lv_entry ([.ref (q 255), .int v1]) (n := 4) (Nat.le_of_ble_eq_true rfl)
  rw [lg_entry_eq]
  generalize (lg_sl ([.ref (q 255), .int v1]) ++ List.replicate (4 - (lg_sl ([.ref (q 255), .int v1])).length) Slot.unset).toArray = ls at hl ⊢
  have hl : lv_has ls 4 [(0, .ref (q 255)), (1, .int v1)] := hl
  unfold fX2_daysTillDark at h
  refine lv_iconst (pc := 0) hx hb dX2_daysTillDark_0 zc_0 ?_
  refine lv_istore_n (lv' := [(2, .int (0 : Int32)), (0, .ref (q 255)), (1, .int v1)]) (pc := 1) hx hb dX2_daysTillDark_1 rfl hl (by decide) rfl (fun ls hl => ?_)
  refine lv_iconst (pc := 2) hx hb dX2_daysTillDark_2 zc_0 ?_
  refine lv_istore_n (lv' := [(3, .int (0 : Int32)), (2, .int (0 : Int32)), (0, .ref (q 255)), (1, .int v1)]) (pc := 3) hx hb dX2_daysTillDark_3 rfl hl (by decide) rfl (fun ls hl => ?_)
  exact kX2_daysTillDark_4 cx hr hlk hP 2000 _ _ h _ (lv_sub hl [2, 3, 1, 0] rfl)
-- X11_dark
abbrev rmX11_dark : Room := { frames := 3, cells := 0, slots := 0, locals := 65 }
def fX11_dark (S : zSt) (v1 : Int32) : Option Int32 :=
  zBd (fX3_has S 4 (0 : Int32) v1) (fun r2 => zBr (r2 = 0) (some (-1 : Int32)) (zBd (fX2_daysTillDark S v1) (fun r5 => some r5)))
set_option maxHeartbeats 4000000 in
set_option maxRecDepth 100000 in
theorem mX11_dark {l : Launch} {D : va_G} {cy : Nat → ClassId} {q : Nat → Nat} {S : zSt} {v1 : Int32} {z : Int32} (h : fX11_dark S v1 = some z) : zMi l yX11_dark cX11_dark 2 (some .int) rmX11_dark [.ref (q 0), .int v1] (zPr zsh zNC D cy q S) z := by
  refine Met.ofW (cc := cX11_dark) (maxL := 2) (ret := (some .int)) (by decide) rfl ?_
  intro p e s m args below meth c s₁ B hml hv
  obtain ⟨rfl, hP, hK⟩ := hv
  have cx : zX RX11 cX11_dark 2 p s m ([.ref (q 0), .int v1]).toArray c D cy := ⟨B.exec, B.bytes, hml, findClass_of_methodNamed B.named, fun w hw => atoms_spec (ws := Cond.code yX11_dark cX11_dark 2 (some .int) :: zTB) B.pre w (List.mem_cons_of_mem _ hw), hK⟩
  have hx := cx.1
  have hb := cx.2.1
  have hr := B.returns
  have hlk := B.notSynchronized
  have hl := lv_entry ([.ref (q 0), .int v1]) (n := 2) (Nat.le_of_ble_eq_true rfl)
  rw [lg_entry_eq]
  generalize (lg_sl ([.ref (q 0), .int v1]) ++ List.replicate (2 - (lg_sl ([.ref (q 0), .int v1])).length) Slot.unset).toArray = ls at hl ⊢
  have hl : lv_has ls 2 [(0, .ref (q 0)), (1, .int v1)] := hl
  unfold fX11_dark at h
  refine lv_aload_n (pc := 0) hx hb dX11_dark_0 rfl (lv_at hl 0 rfl) ?_
  refine zr_getR (pc := 1) (t := 4) cx lk_X11_19 hP nC_0 sC_0 rfl dX11_dark_1 ?_
  refine lv_iconst (pc := 4) hx hb dX11_dark_4 zc_0 ?_
  refine lv_iload_n (pc := 5) hx hb dX11_dark_5 rfl (lv_at hl 1 rfl) ?_
  obtain ⟨r2, k1, h⟩ := zBd_e h
  refine zr_VI (pc := 6) (rest := []) cx cv_X11_149 (mX3_has zHouse_4 k1) ⟨⟨rfl, rfl⟩, Nat.le_of_ble_eq_true rfl, Nat.le_of_ble_eq_true rfl⟩ ⟨Nat.le_of_ble_eq_true rfl, Nat.le_of_ble_eq_true rfl⟩ hP (nX3_0 zHouse_4) (sX3_0 zHouse_4) rfl hl.1 rfl rfl (Nat.le_of_ble_eq_true rfl) dX11_dark_6 ?_
  refine lv_if_eq (pc := 9) (tgt := 23) hx hb dX11_dark_9 (by decide) (fun c3 => ?_) (fun c3 => ?_)
  · replace h := zBr_t c3 h
    refine lv_iconst (pc := 23) hx hb dX11_dark_23 zc_m1 ?_
    have hz := Option.some.inj h
    exact zr_reI (pc := 24) cx hr hlk hz dX11_dark_24
  · replace h := zBr_f c3 h
    refine lv_aload_n (pc := 12) hx hb dX11_dark_12 rfl (lv_at hl 0 rfl) ?_
    refine zr_getR (pc := 13) (t := 255) cx lk_X11_82 hP nC_0 sC_0 rfl dX11_dark_13 ?_
    refine lv_iload_n (pc := 16) hx hb dX11_dark_16 rfl (lv_at hl 1 rfl) ?_
    obtain ⟨r5, k4, h⟩ := zBd_e h
    refine zr_VI (pc := 17) (rest := []) cx cv_X11_287 (mX2_daysTillDark k4) ⟨⟨rfl, rfl⟩, Nat.le_of_ble_eq_true rfl, Nat.le_of_ble_eq_true rfl⟩ ⟨Nat.le_of_ble_eq_true rfl, Nat.le_of_ble_eq_true rfl⟩ hP nC_255 sC_255 rfl hl.1 rfl rfl (Nat.le_of_ble_eq_true rfl) dX11_dark_17 ?_
    refine lv_goto (pc := 20) (tgt := 24) hx hb dX11_dark_20 (by decide) ?_
    have hz := Option.some.inj h
    exact zr_reI (pc := 24) cx hr hlk hz dX11_dark_24
-- X11_days
abbrev rmX11_days : Room := { frames := 3, cells := 0, slots := 0, locals := 91 }
def fX11_days (S : zSt) (v1 : Int32) : Option (Int32 × zSt) :=
  zBr (v1 < (1 : Int32)) (some ((-1 : Int32), S)) (zBr (v1 ≤ (60 : Int32)) (zBd (fX6_daysLeft S 14) (fun r4 => zBr (r4 = 0) (some ((0 : Int32), S)) (zBd (fX7_keep S 14) (fun S7 => zBp (fX6_goDays S7 14 v1) (fun r10 S9 => some (r10, S9)))))) (some ((-1 : Int32), S)))
set_option maxHeartbeats 4000000 in
set_option maxRecDepth 100000 in
theorem mX11_days {l : Launch} {D : va_G} {cy : Nat → ClassId} {q : Nat → Nat} {A : Nat → Prop} {S : zSt} {v1 : Int32} (hq : zQ A q zNC) {z : (Int32 × zSt)} (h : fX11_days S v1 = some z) : zMq l yX11_days cX11_days 2 (some .int) rmX11_days [.ref (q 0), .int v1] zsh zNC D cy q A S z := by
  refine Met.ofW (cc := cX11_days) (maxL := 2) (ret := (some .int)) (by decide) rfl ?_
  intro p e s m args below meth c s₁ B hml hv
  obtain ⟨rfl, hP, hK⟩ := hv
  have cx : zX RX11 cX11_days 2 p s m ([.ref (q 0), .int v1]).toArray c D cy := ⟨B.exec, B.bytes, hml, findClass_of_methodNamed B.named, fun w hw => atoms_spec (ws := Cond.code yX11_days cX11_days 2 (some .int) :: zTB) B.pre w (List.mem_cons_of_mem _ hw), hK⟩
  have hx := cx.1
  have hb := cx.2.1
  have hr := B.returns
  have hlk := B.notSynchronized
  have hS : va_S A s.heap s.heap [] := va_S.rf
  have hl := lv_entry ([.ref (q 0), .int v1]) (n := 2) (Nat.le_of_ble_eq_true rfl)
  rw [lg_entry_eq]
  generalize (lg_sl ([.ref (q 0), .int v1]) ++ List.replicate (2 - (lg_sl ([.ref (q 0), .int v1])).length) Slot.unset).toArray = ls at hl ⊢
  have hl : lv_has ls 2 [(0, .ref (q 0)), (1, .int v1)] := hl
  unfold fX11_days at h
  refine lv_iload_n (pc := 0) hx hb dX11_days_0 rfl (lv_at hl 1 rfl) ?_
  refine lv_iconst (pc := 1) hx hb dX11_days_1 zc_1 ?_
  refine lv_icmp_lt (pc := 2) (tgt := 11) hx hb dX11_days_2 (by decide) (fun c1 => ?_) (fun c1 => ?_)
  · replace h := zBr_t c1 h
    refine lv_iconst (pc := 11) hx hb dX11_days_11 zc_m1 ?_
    have hz := Option.some.inj h
    exact zr_rqI (pc := 12) cx hr hlk hP hS hz dX11_days_12
  · replace h := zBr_f c1 h
    refine lv_iload_n (pc := 5) hx hb dX11_days_5 rfl (lv_at hl 1 rfl) ?_
    refine lv_bipush (pc := 6) hx hb dX11_days_6 zb_60 ?_
    refine lv_icmp_le (pc := 8) (tgt := 13) hx hb dX11_days_8 (by decide) (fun c2 => ?_) (fun c2 => ?_)
    · replace h := zBr_t c2 h
      refine lv_aload_n (pc := 13) hx hb dX11_days_13 rfl (lv_at hl 0 rfl) ?_
      refine zr_getR (pc := 14) (t := 14) cx lk_X11_28 hP nC_0 sC_0 rfl dX11_days_14 ?_
      obtain ⟨r4, k3, h⟩ := zBd_e h
      refine zr_VI (pc := 17) (rest := []) cx cv_X11_265 (mX6_daysLeft zLife_14 k3) ⟨⟨rfl, rfl⟩, Nat.le_of_ble_eq_true rfl, Nat.le_of_ble_eq_true rfl⟩ ⟨Nat.le_of_ble_eq_true rfl, Nat.le_of_ble_eq_true rfl⟩ hP (nX6_0 zLife_14) (sX6_0 zLife_14) rfl hl.1 rfl rfl (Nat.le_of_ble_eq_true rfl) dX11_days_17 ?_
      refine lv_if_ne (pc := 20) (tgt := 25) hx hb dX11_days_20 (by decide) (fun c5 => ?_) (fun c5 => ?_)
      · replace h := zBr_f c5 h
        refine lv_aload_n (pc := 25) hx hb dX11_days_25 rfl (lv_at hl 0 rfl) ?_
        refine zr_getR (pc := 26) (t := 44) cx lk_X11_38 hP nC_0 sC_0 rfl dX11_days_26 ?_
        refine lv_aload_n (pc := 29) hx hb dX11_days_29 rfl (lv_at hl 0 rfl) ?_
        refine zr_getR (pc := 30) (t := 14) cx lk_X11_28 hP nC_0 sC_0 rfl dX11_days_30 ?_
        obtain ⟨S7, k6, h⟩ := zBd_e h
        refine zr_VV (pc := 33) (rest := []) cx cv_X11_244 (mX7_keep hq zLife_14 k6) ⟨⟨rfl, rfl⟩, Nat.le_of_ble_eq_true rfl, Nat.le_of_ble_eq_true rfl⟩ ⟨Nat.le_of_ble_eq_true rfl, Nat.le_of_ble_eq_true rfl⟩ hP hS nC_44 sC_44 rfl hl.1 rfl rfl (Nat.le_of_ble_eq_true rfl) dX11_days_33 (fun H locs hP hS => ?_)
        refine lv_aload_n (pc := 36) hx hb dX11_days_36 rfl (lv_at hl 0 rfl) ?_
        refine zr_getR (pc := 37) (t := 14) cx lk_X11_28 hP nC_0 sC_0 rfl dX11_days_37 ?_
        refine lv_iload_n (pc := 40) hx hb dX11_days_40 rfl (lv_at hl 1 rfl) ?_
        obtain ⟨r10, S9, k8, h⟩ := zBp_e h
        refine zr_VQ (pc := 41) (rest := []) cx cv_X11_268 (mX6_goDays hq zLife_14 k8) ⟨⟨rfl, rfl⟩, Nat.le_of_ble_eq_true rfl, Nat.le_of_ble_eq_true rfl⟩ ⟨Nat.le_of_ble_eq_true rfl, Nat.le_of_ble_eq_true rfl⟩ hP hS (nX6_0 zLife_14) (sX6_0 zLife_14) rfl hl.1 rfl rfl (Nat.le_of_ble_eq_true rfl) dX11_days_41 (fun H locs hP hS => ?_)
        have hz := Option.some.inj h
        exact zr_rqI (pc := 44) cx hr hlk hP hS hz dX11_days_44
      · replace h := zBr_t c5 h
        refine lv_iconst (pc := 23) hx hb dX11_days_23 zc_0 ?_
        have hz := Option.some.inj h
        exact zr_rqI (pc := 24) cx hr hlk hP hS hz dX11_days_24
    · replace h := zBr_f c2 h
      refine lv_iconst (pc := 11) hx hb dX11_days_11 zc_m1 ?_
      have hz := Option.some.inj h
      exact zr_rqI (pc := 12) cx hr hlk hP hS hz dX11_days_12
-- X11_does
abbrev rmX11_does : Room := { frames := 3, cells := 0, slots := 0, locals := 91 }
def fX11_does (S : zSt) (v1 : Int32) (v2 : Int32) (v3 : Int32) : Option (Int32 × zSt) :=
  zBd (fX3_has S 4 (2 : Int32) v1) (fun r2 => zBr (r2 = 0) (some ((-1 : Int32), S)) (zBd (fX3_has S 4 (3 : Int32) v2) (fun r5 => zBr (r5 = 0) (some ((-1 : Int32), S)) (zBd (fX3_has S 4 (0 : Int32) v3) (fun r8 => zBr (r8 = 0) (some ((-1 : Int32), S)) (zBd (fX6_whyNotDo S 14) (fun r11 => zBr (r11 = 0) (zBd (fX7_keep S 14) (fun S14 => zBd (fX6_doDeed S14 14 v1 v2 v3) (fun S16 => some (r11, S16)))) (some (r11, S)))))))))
set_option maxHeartbeats 4000000 in
set_option maxRecDepth 100000 in
theorem mX11_does {l : Launch} {D : va_G} {cy : Nat → ClassId} {q : Nat → Nat} {A : Nat → Prop} {S : zSt} {v1 : Int32} {v2 : Int32} {v3 : Int32} (hq : zQ A q zNC) {z : (Int32 × zSt)} (h : fX11_does S v1 v2 v3 = some z) : zMq l yX11_does cX11_does 5 (some .int) rmX11_does [.ref (q 0), .int v1, .int v2, .int v3] zsh zNC D cy q A S z := by
  refine Met.ofW (cc := cX11_does) (maxL := 5) (ret := (some .int)) (by decide) rfl ?_
  intro p e s m args below meth c s₁ B hml hv
  obtain ⟨rfl, hP, hK⟩ := hv
  have cx : zX RX11 cX11_does 5 p s m ([.ref (q 0), .int v1, .int v2, .int v3]).toArray c D cy := ⟨B.exec, B.bytes, hml, findClass_of_methodNamed B.named, fun w hw => atoms_spec (ws := Cond.code yX11_does cX11_does 5 (some .int) :: zTB) B.pre w (List.mem_cons_of_mem _ hw), hK⟩
  have hx := cx.1
  have hb := cx.2.1
  have hr := B.returns
  have hlk := B.notSynchronized
  have hS : va_S A s.heap s.heap [] := va_S.rf
  have hl := lv_entry ([.ref (q 0), .int v1, .int v2, .int v3]) (n := 5) (Nat.le_of_ble_eq_true rfl)
  rw [lg_entry_eq]
  generalize (lg_sl ([.ref (q 0), .int v1, .int v2, .int v3]) ++ List.replicate (5 - (lg_sl ([.ref (q 0), .int v1, .int v2, .int v3])).length) Slot.unset).toArray = ls at hl ⊢
  have hl : lv_has ls 5 [(0, .ref (q 0)), (1, .int v1), (2, .int v2), (3, .int v3)] := hl
  unfold fX11_does at h
  refine lv_aload_n (pc := 0) hx hb dX11_does_0 rfl (lv_at hl 0 rfl) ?_
  refine zr_getR (pc := 1) (t := 4) cx lk_X11_19 hP nC_0 sC_0 rfl dX11_does_1 ?_
  refine lv_iconst (pc := 4) hx hb dX11_does_4 zc_2 ?_
  refine lv_iload_n (pc := 5) hx hb dX11_does_5 rfl (lv_at hl 1 rfl) ?_
  obtain ⟨r2, k1, h⟩ := zBd_e h
  refine zr_VI (pc := 6) (rest := []) cx cv_X11_149 (mX3_has zHouse_4 k1) ⟨⟨rfl, rfl⟩, Nat.le_of_ble_eq_true rfl, Nat.le_of_ble_eq_true rfl⟩ ⟨Nat.le_of_ble_eq_true rfl, Nat.le_of_ble_eq_true rfl⟩ hP (nX3_0 zHouse_4) (sX3_0 zHouse_4) rfl hl.1 rfl rfl (Nat.le_of_ble_eq_true rfl) dX11_does_6 ?_
  refine lv_if_eq (pc := 9) (tgt := 36) hx hb dX11_does_9 (by decide) (fun c3 => ?_) (fun c3 => ?_)
  · replace h := zBr_t c3 h
    refine lv_iconst (pc := 36) hx hb dX11_does_36 zc_m1 ?_
    have hz := Option.some.inj h
    exact zr_rqI (pc := 37) cx hr hlk hP hS hz dX11_does_37
  · replace h := zBr_f c3 h
    refine lv_aload_n (pc := 12) hx hb dX11_does_12 rfl (lv_at hl 0 rfl) ?_
    refine zr_getR (pc := 13) (t := 4) cx lk_X11_19 hP nC_0 sC_0 rfl dX11_does_13 ?_
    refine lv_iconst (pc := 16) hx hb dX11_does_16 zc_3 ?_
    refine lv_iload_n (pc := 17) hx hb dX11_does_17 rfl (lv_at hl 2 rfl) ?_
    obtain ⟨r5, k4, h⟩ := zBd_e h
    refine zr_VI (pc := 18) (rest := []) cx cv_X11_149 (mX3_has zHouse_4 k4) ⟨⟨rfl, rfl⟩, Nat.le_of_ble_eq_true rfl, Nat.le_of_ble_eq_true rfl⟩ ⟨Nat.le_of_ble_eq_true rfl, Nat.le_of_ble_eq_true rfl⟩ hP (nX3_0 zHouse_4) (sX3_0 zHouse_4) rfl hl.1 rfl rfl (Nat.le_of_ble_eq_true rfl) dX11_does_18 ?_
    refine lv_if_eq (pc := 21) (tgt := 36) hx hb dX11_does_21 (by decide) (fun c6 => ?_) (fun c6 => ?_)
    · replace h := zBr_t c6 h
      refine lv_iconst (pc := 36) hx hb dX11_does_36 zc_m1 ?_
      have hz := Option.some.inj h
      exact zr_rqI (pc := 37) cx hr hlk hP hS hz dX11_does_37
    · replace h := zBr_f c6 h
      refine lv_aload_n (pc := 24) hx hb dX11_does_24 rfl (lv_at hl 0 rfl) ?_
      refine zr_getR (pc := 25) (t := 4) cx lk_X11_19 hP nC_0 sC_0 rfl dX11_does_25 ?_
      refine lv_iconst (pc := 28) hx hb dX11_does_28 zc_0 ?_
      refine lv_iload_n (pc := 29) hx hb dX11_does_29 rfl (lv_at hl 3 rfl) ?_
      obtain ⟨r8, k7, h⟩ := zBd_e h
      refine zr_VI (pc := 30) (rest := []) cx cv_X11_149 (mX3_has zHouse_4 k7) ⟨⟨rfl, rfl⟩, Nat.le_of_ble_eq_true rfl, Nat.le_of_ble_eq_true rfl⟩ ⟨Nat.le_of_ble_eq_true rfl, Nat.le_of_ble_eq_true rfl⟩ hP (nX3_0 zHouse_4) (sX3_0 zHouse_4) rfl hl.1 rfl rfl (Nat.le_of_ble_eq_true rfl) dX11_does_30 ?_
      refine lv_if_ne (pc := 33) (tgt := 38) hx hb dX11_does_33 (by decide) (fun c9 => ?_) (fun c9 => ?_)
      · replace h := zBr_f c9 h
        refine lv_aload_n (pc := 38) hx hb dX11_does_38 rfl (lv_at hl 0 rfl) ?_
        refine zr_getR (pc := 39) (t := 14) cx lk_X11_28 hP nC_0 sC_0 rfl dX11_does_39 ?_
        obtain ⟨r11, k10, h⟩ := zBd_e h
        refine zr_VI (pc := 42) (rest := []) cx cv_X11_241 (mX6_whyNotDo zLife_14 k10) ⟨⟨rfl, rfl⟩, Nat.le_of_ble_eq_true rfl, Nat.le_of_ble_eq_true rfl⟩ ⟨Nat.le_of_ble_eq_true rfl, Nat.le_of_ble_eq_true rfl⟩ hP (nX6_0 zLife_14) (sX6_0 zLife_14) rfl hl.1 rfl rfl (Nat.le_of_ble_eq_true rfl) dX11_does_42 ?_
        refine lv_istore (lv' := [(4, .int r11), (0, .ref (q 0)), (1, .int v1), (2, .int v2), (3, .int v3)]) (pc := 45) hx hb dX11_does_45 hl (by decide) rfl (fun ls hl => ?_)
        refine lv_iload (pc := 47) hx hb dX11_does_47 (lv_at hl 0 rfl) ?_
        refine lv_if_ne (pc := 49) (tgt := 73) hx hb dX11_does_49 (by decide) (fun c12 => ?_) (fun c12 => ?_)
        · replace h := zBr_f c12 h
          refine lv_iload (pc := 73) hx hb dX11_does_73 (lv_at hl 0 rfl) ?_
          have hz := Option.some.inj h
          exact zr_rqI (pc := 75) cx hr hlk hP hS hz dX11_does_75
        · replace h := zBr_t c12 h
          refine lv_aload_n (pc := 52) hx hb dX11_does_52 rfl (lv_at hl 1 rfl) ?_
          refine zr_getR (pc := 53) (t := 44) cx lk_X11_38 hP nC_0 sC_0 rfl dX11_does_53 ?_
          refine lv_aload_n (pc := 56) hx hb dX11_does_56 rfl (lv_at hl 1 rfl) ?_
          refine zr_getR (pc := 57) (t := 14) cx lk_X11_28 hP nC_0 sC_0 rfl dX11_does_57 ?_
          obtain ⟨S14, k13, h⟩ := zBd_e h
          refine zr_VV (pc := 60) (rest := []) cx cv_X11_244 (mX7_keep hq zLife_14 k13) ⟨⟨rfl, rfl⟩, Nat.le_of_ble_eq_true rfl, Nat.le_of_ble_eq_true rfl⟩ ⟨Nat.le_of_ble_eq_true rfl, Nat.le_of_ble_eq_true rfl⟩ hP hS nC_44 sC_44 rfl hl.1 rfl rfl (Nat.le_of_ble_eq_true rfl) dX11_does_60 (fun H locs hP hS => ?_)
          refine lv_aload_n (pc := 63) hx hb dX11_does_63 rfl (lv_at hl 1 rfl) ?_
          refine zr_getR (pc := 64) (t := 14) cx lk_X11_28 hP nC_0 sC_0 rfl dX11_does_64 ?_
          refine lv_iload_n (pc := 67) hx hb dX11_does_67 rfl (lv_at hl 2 rfl) ?_
          refine lv_iload_n (pc := 68) hx hb dX11_does_68 rfl (lv_at hl 3 rfl) ?_
          refine lv_iload_n (pc := 69) hx hb dX11_does_69 rfl (lv_at hl 4 rfl) ?_
          obtain ⟨S16, k15, h⟩ := zBd_e h
          refine zr_VV (pc := 70) (rest := []) cx cv_X11_248 (mX6_doDeed hq zLife_14 k15) ⟨⟨rfl, rfl⟩, Nat.le_of_ble_eq_true rfl, Nat.le_of_ble_eq_true rfl⟩ ⟨Nat.le_of_ble_eq_true rfl, Nat.le_of_ble_eq_true rfl⟩ hP hS (nX6_0 zLife_14) (sX6_0 zLife_14) rfl hl.1 rfl rfl (Nat.le_of_ble_eq_true rfl) dX11_does_70 (fun H locs hP hS => ?_)
          refine lv_iload (pc := 73) hx hb dX11_does_73 (lv_at hl 0 rfl) ?_
          have hz := Option.some.inj h
          exact zr_rqI (pc := 75) cx hr hlk hP hS hz dX11_does_75
      · replace h := zBr_t c9 h
        refine lv_iconst (pc := 36) hx hb dX11_does_36 zc_m1 ?_
        have hz := Option.some.inj h
        exact zr_rqI (pc := 37) cx hr hlk hP hS hz dX11_does_37
-- X1_draw
abbrev rmX1_draw : Room := { frames := 0, cells := 0, slots := 0, locals := 0 }
def fX1_draw (S : zSt) (v1 : Int32) : Option (Int32 × zSt) :=
  zLt (zI S 261 0 (((S.1 261 0) * (1103515245 : Int32)) + (12345 : Int32))) (fun S1 => zBr (v1 ≤ 0) (some ((0 : Int32), S1)) (zGd (decide (¬ v1 = 0)) (some (((zUsh (S1.1 261 0) (8 : Int32)) - (zUsh (S1.1 261 0) (8 : Int32)) / v1 * v1), S1))))
set_option maxHeartbeats 4000000 in
set_option maxRecDepth 100000 in
theorem mX1_draw {l : Launch} {D : va_G} {cy : Nat → ClassId} {q : Nat → Nat} {A : Nat → Prop} {S : zSt} {v1 : Int32} (hq : zQ A q zNC) {z : (Int32 × zSt)} (h : fX1_draw S v1 = some z) : zMq l yX1_draw cX1_draw 2 (some .int) rmX1_draw [.ref (q 261), .int v1] zsh zNC D cy q A S z := by
  refine Met.ofW (cc := cX1_draw) (maxL := 2) (ret := (some .int)) (by decide) rfl ?_
  intro p e s m args below meth c s₁ B hml hv
  obtain ⟨rfl, hP, hK⟩ := hv
  have cx : zX RX1 cX1_draw 2 p s m ([.ref (q 261), .int v1]).toArray c D cy := ⟨B.exec, B.bytes, hml, findClass_of_methodNamed B.named, fun w hw => atoms_spec (ws := Cond.code yX1_draw cX1_draw 2 (some .int) :: zTB) B.pre w (List.mem_cons_of_mem _ hw), hK⟩
  have hx := cx.1
  have hb := cx.2.1
  have hr := B.returns
  have hlk := B.notSynchronized
  have hS : va_S A s.heap s.heap [] := va_S.rf
  have hl := lv_entry ([.ref (q 261), .int v1]) (n := 2) (Nat.le_of_ble_eq_true rfl)
  rw [lg_entry_eq]
  generalize (lg_sl ([.ref (q 261), .int v1]) ++ List.replicate (2 - (lg_sl ([.ref (q 261), .int v1])).length) Slot.unset).toArray = ls at hl ⊢
  have hl : lv_has ls 2 [(0, .ref (q 261)), (1, .int v1)] := hl
  unfold fX1_draw at h
  refine lv_aload_n (pc := 0) hx hb dX1_draw_0 rfl (lv_at hl 0 rfl) ?_
  refine lv_aload_n (pc := 1) hx hb dX1_draw_1 rfl (lv_at hl 0 rfl) ?_
  refine zr_getI (pc := 2) cx lk_X1_9 hP nC_261 sC_261 rfl dX1_draw_2 ?_
  refine lv_ldc (pc := 5) hx hb cx.2.2.2.1 (cx.2.2.2.2.1 _ wd_1194) dX1_draw_5 ?_
  refine lv_imul (pc := 7) hx hb dX1_draw_7 ?_
  refine lv_sipush (pc := 8) hx hb dX1_draw_8 zs_12345 ?_
  refine lv_iadd (pc := 11) hx hb dX1_draw_11 ?_
  obtain ⟨S1, eS1, h⟩ := zLt_e h
  refine zr_putI (pc := 12) cx lq_X1_9 hq hP hS nC_261 sC_261 rfl rfl rfl dX1_draw_12 (fun H locs hP hS => ?_)
  rw [← eS1] at hP
  refine lv_iload_n (pc := 15) hx hb dX1_draw_15 rfl (lv_at hl 1 rfl) ?_
  refine lv_if_le (pc := 16) (tgt := 31) hx hb dX1_draw_16 (by decide) (fun c2 => ?_) (fun c2 => ?_)
  · replace h := zBr_t c2 h
    refine lv_iconst (pc := 31) hx hb dX1_draw_31 zc_0 ?_
    have hz := Option.some.inj h
    exact zr_rqI (pc := 32) cx hr hlk hP hS hz dX1_draw_32
  · replace h := zBr_f c2 h
    refine lv_aload_n (pc := 19) hx hb dX1_draw_19 rfl (lv_at hl 0 rfl) ?_
    refine zr_getI (pc := 20) cx lk_X1_9 hP nC_261 sC_261 rfl dX1_draw_20 ?_
    refine lv_bipush (pc := 23) hx hb dX1_draw_23 zb_8 ?_
    refine lv_iushr (v := (zUsh (S1.1 261 0) (8 : Int32))) (pc := 25) hx hb dX1_draw_25 rfl ?_
    refine lv_iload_n (pc := 26) hx hb dX1_draw_26 rfl (lv_at hl 1 rfl) ?_
    obtain ⟨g3, h⟩ := zGd_e h
    refine lv_irem (pc := 27) hx hb dX1_draw_27 (by simpa using g3) ?_
    refine lv_goto (pc := 28) (tgt := 32) hx hb dX1_draw_28 (by decide) ?_
    have hz := Option.some.inj h
    exact zr_rqI (pc := 32) cx hr hlk hP hS hz dX1_draw_32
-- X1_drawDeed
abbrev rmX1_drawDeed : Room := { frames := 3, cells := 0, slots := 0, locals := 66 }
def fX1_drawDeed (S : zSt) (a0 : Nat) (v1 : Int32) (v2 : Int32) (v3 : Int32) : Option zSt :=
  zBd (fX6_whyNotDo S a0) (fun r2 => zBr (r2 = 0) (zBd (fX6_doDeed S a0 v1 v2 v3) (fun S5 => some S5)) (some S))
set_option maxHeartbeats 4000000 in
set_option maxRecDepth 100000 in
theorem mX1_drawDeed {l : Launch} {D : va_G} {cy : Nat → ClassId} {q : Nat → Nat} {A : Nat → Prop} {S : zSt} {a0 : Nat} {v1 : Int32} {v2 : Int32} {v3 : Int32} (hq : zQ A q zNC) (ha0 : zLife a0) {z : zSt} (h : fX1_drawDeed S a0 v1 v2 v3 = some z) : zMv l yX1_drawDeed cX1_drawDeed 4 none rmX1_drawDeed [.ref (q a0), .int v1, .int v2, .int v3] zsh zNC D cy q A S z := by
  refine Met.ofW (cc := cX1_drawDeed) (maxL := 4) (ret := none) (by decide) rfl ?_
  intro p e s m args below meth c s₁ B hml hv
  obtain ⟨rfl, hP, hK⟩ := hv
  have cx : zX RX1 cX1_drawDeed 4 p s m ([.ref (q a0), .int v1, .int v2, .int v3]).toArray c D cy := ⟨B.exec, B.bytes, hml, findClass_of_methodNamed B.named, fun w hw => atoms_spec (ws := Cond.code yX1_drawDeed cX1_drawDeed 4 none :: zTB) B.pre w (List.mem_cons_of_mem _ hw), hK⟩
  have hx := cx.1
  have hb := cx.2.1
  have hr := B.returns
  have hlk := B.notSynchronized
  have hS : va_S A s.heap s.heap [] := va_S.rf
  have hl := lv_entry ([.ref (q a0), .int v1, .int v2, .int v3]) (n := 4) (Nat.le_of_ble_eq_true rfl)
  rw [lg_entry_eq]
  generalize (lg_sl ([.ref (q a0), .int v1, .int v2, .int v3]) ++ List.replicate (4 - (lg_sl ([.ref (q a0), .int v1, .int v2, .int v3])).length) Slot.unset).toArray = ls at hl ⊢
  have hl : lv_has ls 4 [(0, .ref (q a0)), (1, .int v1), (2, .int v2), (3, .int v3)] := hl
  unfold fX1_drawDeed at h
  refine lv_aload_n (pc := 0) hx hb dX1_drawDeed_0 rfl (lv_at hl 0 rfl) ?_
  obtain ⟨r2, k1, h⟩ := zBd_e h
  refine zr_VI (pc := 1) (rest := []) cx cv_X1_64 (mX6_whyNotDo ha0 k1) ⟨⟨rfl, rfl⟩, Nat.le_of_ble_eq_true rfl, Nat.le_of_ble_eq_true rfl⟩ ⟨Nat.le_of_ble_eq_true rfl, Nat.le_of_ble_eq_true rfl⟩ hP (nX6_0 ha0) (sX6_0 ha0) rfl hl.1 rfl rfl (Nat.le_of_ble_eq_true rfl) dX1_drawDeed_1 ?_
  refine lv_if_ne (pc := 4) (tgt := 14) hx hb dX1_drawDeed_4 (by decide) (fun c3 => ?_) (fun c3 => ?_)
  · replace h := zBr_f c3 h
    have hz := Option.some.inj h
    exact zr_rqV (pc := 14) cx hr hlk hP hS hz dX1_drawDeed_14
  · replace h := zBr_t c3 h
    refine lv_aload_n (pc := 7) hx hb dX1_drawDeed_7 rfl (lv_at hl 0 rfl) ?_
    refine lv_iload_n (pc := 8) hx hb dX1_drawDeed_8 rfl (lv_at hl 1 rfl) ?_
    refine lv_iload_n (pc := 9) hx hb dX1_drawDeed_9 rfl (lv_at hl 2 rfl) ?_
    refine lv_iload_n (pc := 10) hx hb dX1_drawDeed_10 rfl (lv_at hl 3 rfl) ?_
    obtain ⟨S5, k4, h⟩ := zBd_e h
    refine zr_VV (pc := 11) (rest := []) cx cv_X1_67 (mX6_doDeed hq ha0 k4) ⟨⟨rfl, rfl⟩, Nat.le_of_ble_eq_true rfl, Nat.le_of_ble_eq_true rfl⟩ ⟨Nat.le_of_ble_eq_true rfl, Nat.le_of_ble_eq_true rfl⟩ hP hS (nX6_0 ha0) (sX6_0 ha0) rfl hl.1 rfl rfl (Nat.le_of_ble_eq_true rfl) dX1_drawDeed_11 (fun H locs hP hS => ?_)
    have hz := Option.some.inj h
    exact zr_rqV (pc := 14) cx hr hlk hP hS hz dX1_drawDeed_14
-- X1_liveTurn
abbrev rmX1_liveTurn : Room := { frames := 4, cells := 0, slots := 0, locals := 89 }
def fX1_liveTurn_97 (S : zSt) (a1 : Nat) (v3 : Int32) (v4 : Int32) : Option zSt :=
  zBr (v3 = (2 : Int32)) (zBd (fX6_plants S a1) (fun r10 => zBr (r10 ≤ 0) (some S) (zBr (v4 ≤ 0) (some S) (zBd (fX6_plants S a1) (fun r14 => zBp (fX1_draw S r14) (fun r17 S16 => zBp (fX1_draw S16 v4) (fun r20 S19 => zBd (fX6_carryTo S19 a1 r17 r20) (fun S22 => some S22)))))))) (some S)
set_option maxHeartbeats 4000000 in
set_option maxRecDepth 100000 in
theorem kX1_liveTurn_97 {p : Program} {l : Launch} {e : Env} {s : State} {m : MethodId} {args : Array Value} {below : List Frame} {meth : Method} {c : Code} {D : va_G} {cy : Nat → ClassId} {q : Nat → Nat} {A : Nat → Prop} (cx : zX RX1 cX1_liveTurn 6 p s m args c D cy) (hr : meth.sig.returnType = none) (hlk : meth.locks = false) (hq : zQ A q zNC) {a1 : Nat} (ha1 : zLife a1) {z : zSt} {S : zSt} {v3 : Int32} {v4 : Int32} (h : fX1_liveTurn_97 S a1 v3 v4 = some z) {H : Heap} {locs : List Loc} (hP : va_P D vwCl (zW zsh zNC cy q S) H) (hS : va_S A s.heap H locs) {ls : Array Slot} (hl : lv_has ls 6 [(0, .ref (q 261)), (1, .ref (q a1)), (3, .int v3), (4, .int v4)]) : W p l e rmX1_liveTurn s m args below meth c H locs 0 0 (MQ below (va_Qv (fun (u : zSt) => u = z) (fun u t => va_P D vwCl (zW zsh zNC cy q u) t.heap) A) args s 0 0 A) (F0 m 97 ls []) := by
  have hx := cx.1
  have hb := cx.2.1
  unfold fX1_liveTurn_97 at h
  refine lv_iload_n (pc := 97) hx hb dX1_liveTurn_97 rfl (lv_at hl 2 rfl) ?_
  refine lv_iconst (pc := 98) hx hb dX1_liveTurn_98 zc_2 ?_
  refine lv_icmp_ne (pc := 99) (tgt := 136) hx hb dX1_liveTurn_99 (by decide) (fun c8 => ?_) (fun c8 => ?_)
  · replace h := zBr_f c8 h
    have hz := Option.some.inj h
    exact zr_rqV (pc := 136) cx hr hlk hP hS hz dX1_liveTurn_136
  · replace h := zBr_t c8 h
    refine lv_aload_n (pc := 102) hx hb dX1_liveTurn_102 rfl (lv_at hl 1 rfl) ?_
    obtain ⟨r10, k9, h⟩ := zBd_e h
    refine zr_VI (pc := 103) (rest := []) cx cv_X1_53 (mX6_plants ha1 k9) ⟨⟨rfl, rfl⟩, Nat.le_of_ble_eq_true rfl, Nat.le_of_ble_eq_true rfl⟩ ⟨Nat.le_of_ble_eq_true rfl, Nat.le_of_ble_eq_true rfl⟩ hP (nX6_0 ha1) (sX6_0 ha1) rfl hl.1 rfl rfl (Nat.le_of_ble_eq_true rfl) dX1_liveTurn_103 ?_
    refine lv_if_le (pc := 106) (tgt := 136) hx hb dX1_liveTurn_106 (by decide) (fun c11 => ?_) (fun c11 => ?_)
    · replace h := zBr_t c11 h
      have hz := Option.some.inj h
      exact zr_rqV (pc := 136) cx hr hlk hP hS hz dX1_liveTurn_136
    · replace h := zBr_f c11 h
      refine lv_iload (pc := 109) hx hb dX1_liveTurn_109 (lv_at hl 3 rfl) ?_
      refine lv_if_le (pc := 111) (tgt := 136) hx hb dX1_liveTurn_111 (by decide) (fun c12 => ?_) (fun c12 => ?_)
      · replace h := zBr_t c12 h
        have hz := Option.some.inj h
        exact zr_rqV (pc := 136) cx hr hlk hP hS hz dX1_liveTurn_136
      · replace h := zBr_f c12 h
        refine lv_aload_n (pc := 114) hx hb dX1_liveTurn_114 rfl (lv_at hl 0 rfl) ?_
        refine lv_aload_n (pc := 115) hx hb dX1_liveTurn_115 rfl (lv_at hl 1 rfl) ?_
        obtain ⟨r14, k13, h⟩ := zBd_e h
        refine zr_VI (pc := 116) (rest := [.ref (q 261)]) cx cv_X1_53 (mX6_plants ha1 k13) ⟨⟨rfl, rfl⟩, Nat.le_of_ble_eq_true rfl, Nat.le_of_ble_eq_true rfl⟩ ⟨Nat.le_of_ble_eq_true rfl, Nat.le_of_ble_eq_true rfl⟩ hP (nX6_0 ha1) (sX6_0 ha1) rfl hl.1 rfl rfl (Nat.le_of_ble_eq_true rfl) dX1_liveTurn_116 ?_
        obtain ⟨r17, S16, k15, h⟩ := zBp_e h
        refine zr_VQ (pc := 119) (rest := []) cx cv_X1_46 (mX1_draw hq k15) ⟨⟨rfl, rfl⟩, Nat.le_of_ble_eq_true rfl, Nat.le_of_ble_eq_true rfl⟩ ⟨Nat.le_of_ble_eq_true rfl, Nat.le_of_ble_eq_true rfl⟩ hP hS nC_261 sC_261 rfl hl.1 rfl rfl (Nat.le_of_ble_eq_true rfl) dX1_liveTurn_119 (fun H locs hP hS => ?_)
        refine lv_istore (lv' := [(5, .int r17), (0, .ref (q 261)), (1, .ref (q a1)), (3, .int v3), (4, .int v4)]) (pc := 122) hx hb dX1_liveTurn_122 hl (by decide) rfl (fun ls hl => ?_)
        refine lv_aload_n (pc := 124) hx hb dX1_liveTurn_124 rfl (lv_at hl 2 rfl) ?_
        refine lv_iload (pc := 125) hx hb dX1_liveTurn_125 (lv_at hl 0 rfl) ?_
        refine lv_aload_n (pc := 127) hx hb dX1_liveTurn_127 rfl (lv_at hl 1 rfl) ?_
        refine lv_iload (pc := 128) hx hb dX1_liveTurn_128 (lv_at hl 4 rfl) ?_
        obtain ⟨r20, S19, k18, h⟩ := zBp_e h
        refine zr_VQ (pc := 130) (rest := [.int r17, .ref (q a1)]) cx cv_X1_46 (mX1_draw hq k18) ⟨⟨rfl, rfl⟩, Nat.le_of_ble_eq_true rfl, Nat.le_of_ble_eq_true rfl⟩ ⟨Nat.le_of_ble_eq_true rfl, Nat.le_of_ble_eq_true rfl⟩ hP hS nC_261 sC_261 rfl hl.1 rfl rfl (Nat.le_of_ble_eq_true rfl) dX1_liveTurn_130 (fun H locs hP hS => ?_)
        obtain ⟨S22, k21, h⟩ := zBd_e h
        refine zr_VV (pc := 133) (rest := []) cx cv_X1_60 (mX6_carryTo hq ha1 k21) ⟨⟨rfl, rfl⟩, Nat.le_of_ble_eq_true rfl, Nat.le_of_ble_eq_true rfl⟩ ⟨Nat.le_of_ble_eq_true rfl, Nat.le_of_ble_eq_true rfl⟩ hP hS (nX6_0 ha1) (sX6_0 ha1) rfl hl.1 rfl rfl (Nat.le_of_ble_eq_true rfl) dX1_liveTurn_133 (fun H locs hP hS => ?_)
        have hz := Option.some.inj h
        exact zr_rqV (pc := 136) cx hr hlk hP hS hz dX1_liveTurn_136
def fX1_liveTurn_70 (S : zSt) (a1 : Nat) (v3 : Int32) (v4 : Int32) : Option zSt :=
  zBr (v3 = (1 : Int32)) (zBd (fX6_plants S a1) (fun r24 => zBr (r24 ≤ 0) (fX1_liveTurn_97 S a1 v3 v4) (zBd (fX6_plants S a1) (fun r27 => zBp (fX1_draw S r27) (fun r30 S29 => zBd (fX6_spongeOff S29 a1 r30) (fun S32 => some S32)))))) (fX1_liveTurn_97 S a1 v3 v4)
set_option maxHeartbeats 4000000 in
set_option maxRecDepth 100000 in
theorem kX1_liveTurn_70 {p : Program} {l : Launch} {e : Env} {s : State} {m : MethodId} {args : Array Value} {below : List Frame} {meth : Method} {c : Code} {D : va_G} {cy : Nat → ClassId} {q : Nat → Nat} {A : Nat → Prop} (cx : zX RX1 cX1_liveTurn 6 p s m args c D cy) (hr : meth.sig.returnType = none) (hlk : meth.locks = false) (hq : zQ A q zNC) {a1 : Nat} (ha1 : zLife a1) {z : zSt} {S : zSt} {v3 : Int32} {v4 : Int32} (h : fX1_liveTurn_70 S a1 v3 v4 = some z) {H : Heap} {locs : List Loc} (hP : va_P D vwCl (zW zsh zNC cy q S) H) (hS : va_S A s.heap H locs) {ls : Array Slot} (hl : lv_has ls 6 [(0, .ref (q 261)), (1, .ref (q a1)), (3, .int v3), (4, .int v4)]) : W p l e rmX1_liveTurn s m args below meth c H locs 0 0 (MQ below (va_Qv (fun (u : zSt) => u = z) (fun u t => va_P D vwCl (zW zsh zNC cy q u) t.heap) A) args s 0 0 A) (F0 m 70 ls []) := by
  have hx := cx.1
  have hb := cx.2.1
  unfold fX1_liveTurn_70 at h
  refine lv_iload_n (pc := 70) hx hb dX1_liveTurn_70 rfl (lv_at hl 2 rfl) ?_
  refine lv_iconst (pc := 71) hx hb dX1_liveTurn_71 zc_1 ?_
  refine lv_icmp_ne (pc := 72) (tgt := 97) hx hb dX1_liveTurn_72 (by decide) (fun c7 => ?_) (fun c7 => ?_)
  · replace h := zBr_f c7 h
    exact kX1_liveTurn_97 cx hr hlk hq ha1 h hP hS (lv_sub hl [0, 1, 2, 3] rfl)
  · replace h := zBr_t c7 h
    refine lv_aload_n (pc := 75) hx hb dX1_liveTurn_75 rfl (lv_at hl 1 rfl) ?_
    obtain ⟨r24, k23, h⟩ := zBd_e h
    refine zr_VI (pc := 76) (rest := []) cx cv_X1_53 (mX6_plants ha1 k23) ⟨⟨rfl, rfl⟩, Nat.le_of_ble_eq_true rfl, Nat.le_of_ble_eq_true rfl⟩ ⟨Nat.le_of_ble_eq_true rfl, Nat.le_of_ble_eq_true rfl⟩ hP (nX6_0 ha1) (sX6_0 ha1) rfl hl.1 rfl rfl (Nat.le_of_ble_eq_true rfl) dX1_liveTurn_76 ?_
    refine lv_if_le (pc := 79) (tgt := 97) hx hb dX1_liveTurn_79 (by decide) (fun c25 => ?_) (fun c25 => ?_)
    · replace h := zBr_t c25 h
      exact kX1_liveTurn_97 cx hr hlk hq ha1 h hP hS (lv_sub hl [0, 1, 2, 3] rfl)
    · replace h := zBr_f c25 h
      refine lv_aload_n (pc := 82) hx hb dX1_liveTurn_82 rfl (lv_at hl 1 rfl) ?_
      refine lv_aload_n (pc := 83) hx hb dX1_liveTurn_83 rfl (lv_at hl 0 rfl) ?_
      refine lv_aload_n (pc := 84) hx hb dX1_liveTurn_84 rfl (lv_at hl 1 rfl) ?_
      obtain ⟨r27, k26, h⟩ := zBd_e h
      refine zr_VI (pc := 85) (rest := [.ref (q 261), .ref (q a1)]) cx cv_X1_53 (mX6_plants ha1 k26) ⟨⟨rfl, rfl⟩, Nat.le_of_ble_eq_true rfl, Nat.le_of_ble_eq_true rfl⟩ ⟨Nat.le_of_ble_eq_true rfl, Nat.le_of_ble_eq_true rfl⟩ hP (nX6_0 ha1) (sX6_0 ha1) rfl hl.1 rfl rfl (Nat.le_of_ble_eq_true rfl) dX1_liveTurn_85 ?_
      obtain ⟨r30, S29, k28, h⟩ := zBp_e h
      refine zr_VQ (pc := 88) (rest := [.ref (q a1)]) cx cv_X1_46 (mX1_draw hq k28) ⟨⟨rfl, rfl⟩, Nat.le_of_ble_eq_true rfl, Nat.le_of_ble_eq_true rfl⟩ ⟨Nat.le_of_ble_eq_true rfl, Nat.le_of_ble_eq_true rfl⟩ hP hS nC_261 sC_261 rfl hl.1 rfl rfl (Nat.le_of_ble_eq_true rfl) dX1_liveTurn_88 (fun H locs hP hS => ?_)
      obtain ⟨S32, k31, h⟩ := zBd_e h
      refine zr_VV (pc := 91) (rest := []) cx cv_X1_56 (mX6_spongeOff hq ha1 k31) ⟨⟨rfl, rfl⟩, Nat.le_of_ble_eq_true rfl, Nat.le_of_ble_eq_true rfl⟩ ⟨Nat.le_of_ble_eq_true rfl, Nat.le_of_ble_eq_true rfl⟩ hP hS (nX6_0 ha1) (sX6_0 ha1) rfl hl.1 rfl rfl (Nat.le_of_ble_eq_true rfl) dX1_liveTurn_91 (fun H locs hP hS => ?_)
      refine lv_goto (pc := 94) (tgt := 136) hx hb dX1_liveTurn_94 (by decide) ?_
      have hz := Option.some.inj h
      exact zr_rqV (pc := 136) cx hr hlk hP hS hz dX1_liveTurn_136
def fX1_liveTurn (S : zSt) (a1 : Nat) (v2 : Int32) : Option zSt :=
  zBp (fX1_draw S (6 : Int32)) (fun r3 S2 => zGd (zIx (0 : Int32) 4) (zLt (S2.1 ((zHs a1) + 1) (0 : Int32).toNatClampNeg) (fun x5 => zBr (r3 = 0) (zGd (zIx (3 : Int32) 4) (zBr ((S2.1 ((zHs a1) + 1) (3 : Int32).toNatClampNeg) ≤ 0) (fX1_liveTurn_70 S2 a1 r3 x5) (zBr (x5 ≤ 0) (fX1_liveTurn_70 S2 a1 r3 x5) (zGd (zIx (3 : Int32) 4) (zBp (fX1_draw S2 (S2.1 ((zHs a1) + 1) (3 : Int32).toNatClampNeg)) (fun r39 S38 => zBp (fX1_draw S38 x5) (fun r42 S41 => zBd (fX1_drawDeed S41 a1 v2 r39 r42) (fun S44 => some S44)))))))) (fX1_liveTurn_70 S2 a1 r3 x5))))
set_option maxHeartbeats 4000000 in
set_option maxRecDepth 100000 in
theorem mX1_liveTurn {l : Launch} {D : va_G} {cy : Nat → ClassId} {q : Nat → Nat} {A : Nat → Prop} {S : zSt} {a1 : Nat} {v2 : Int32} (hq : zQ A q zNC) (ha1 : zLife a1) {z : zSt} (h : fX1_liveTurn S a1 v2 = some z) : zMv l yX1_liveTurn cX1_liveTurn 6 none rmX1_liveTurn [.ref (q 261), .ref (q a1), .int v2] zsh zNC D cy q A S z := by
  refine Met.ofW (cc := cX1_liveTurn) (maxL := 6) (ret := none) (by decide) rfl ?_
  intro p e s m args below meth c s₁ B hml hv
  obtain ⟨rfl, hP, hK⟩ := hv
  have cx : zX RX1 cX1_liveTurn 6 p s m ([.ref (q 261), .ref (q a1), .int v2]).toArray c D cy := ⟨B.exec, B.bytes, hml, findClass_of_methodNamed B.named, fun w hw => atoms_spec (ws := Cond.code yX1_liveTurn cX1_liveTurn 6 none :: zTB) B.pre w (List.mem_cons_of_mem _ hw), hK⟩
  have hx := cx.1
  have hb := cx.2.1
  have hr := B.returns
  have hlk := B.notSynchronized
  have hS : va_S A s.heap s.heap [] := va_S.rf
  have hl := lv_entry ([.ref (q 261), .ref (q a1), .int v2]) (n := 6) (Nat.le_of_ble_eq_true rfl)
  rw [lg_entry_eq]
  generalize (lg_sl ([.ref (q 261), .ref (q a1), .int v2]) ++ List.replicate (6 - (lg_sl ([.ref (q 261), .ref (q a1), .int v2])).length) Slot.unset).toArray = ls at hl ⊢
  have hl : lv_has ls 6 [(0, .ref (q 261)), (1, .ref (q a1)), (2, .int v2)] := hl
  unfold fX1_liveTurn at h
  refine lv_aload_n (pc := 0) hx hb dX1_liveTurn_0 rfl (lv_at hl 0 rfl) ?_
  refine lv_bipush (pc := 1) hx hb dX1_liveTurn_1 zb_6 ?_
  obtain ⟨r3, S2, k1, h⟩ := zBp_e h
  refine zr_VQ (pc := 3) (rest := []) cx cv_X1_46 (mX1_draw hq k1) ⟨⟨rfl, rfl⟩, Nat.le_of_ble_eq_true rfl, Nat.le_of_ble_eq_true rfl⟩ ⟨Nat.le_of_ble_eq_true rfl, Nat.le_of_ble_eq_true rfl⟩ hP hS nC_261 sC_261 rfl hl.1 rfl rfl (Nat.le_of_ble_eq_true rfl) dX1_liveTurn_3 (fun H locs hP hS => ?_)
  refine lv_istore_n (lv' := [(3, .int r3), (0, .ref (q 261)), (1, .ref (q a1)), (2, .int v2)]) (pc := 6) hx hb dX1_liveTurn_6 rfl hl (by decide) rfl (fun ls hl => ?_)
  refine lv_aload_n (pc := 7) hx hb dX1_liveTurn_7 rfl (lv_at hl 2 rfl) ?_
  refine zr_getR (pc := 8) (t := (zHs a1)) cx lk_X1_28 hP (nX6_0 ha1) (sX6_0 ha1) rfl dX1_liveTurn_8 ?_
  refine zr_getR (pc := 11) (t := ((zHs a1) + 1)) cx lk_X1_32 hP (nX3_0 (zHs_ok ha1)) (sX3_0 (zHs_ok ha1)) rfl dX1_liveTurn_11 ?_
  refine lv_iconst (pc := 14) hx hb dX1_liveTurn_14 zc_0 ?_
  obtain ⟨g4, h⟩ := zGd_e h
  refine zr_iald (pc := 15) cx hP (nX3_1 (zHs_ok ha1)) (sX3_1 (zHs_ok ha1)) g4 dX1_liveTurn_15 ?_
  obtain ⟨x5, ex5, h⟩ := zLt_e h
  refine zr_nmI ex5 ?_
  refine lv_istore (lv' := [(4, .int x5), (3, .int r3), (0, .ref (q 261)), (1, .ref (q a1)), (2, .int v2)]) (pc := 16) hx hb dX1_liveTurn_16 hl (by decide) rfl (fun ls hl => ?_)
  refine lv_iload_n (pc := 18) hx hb dX1_liveTurn_18 rfl (lv_at hl 1 rfl) ?_
  refine lv_if_ne (pc := 19) (tgt := 70) hx hb dX1_liveTurn_19 (by decide) (fun c6 => ?_) (fun c6 => ?_)
  · replace h := zBr_f c6 h
    exact kX1_liveTurn_70 cx hr hlk hq ha1 h hP hS (lv_sub hl [2, 3, 1, 0] rfl)
  · replace h := zBr_t c6 h
    refine lv_aload_n (pc := 22) hx hb dX1_liveTurn_22 rfl (lv_at hl 3 rfl) ?_
    refine zr_getR (pc := 23) (t := (zHs a1)) cx lk_X1_28 hP (nX6_0 ha1) (sX6_0 ha1) rfl dX1_liveTurn_23 ?_
    refine zr_getR (pc := 26) (t := ((zHs a1) + 1)) cx lk_X1_32 hP (nX3_0 (zHs_ok ha1)) (sX3_0 (zHs_ok ha1)) rfl dX1_liveTurn_26 ?_
    refine lv_iconst (pc := 29) hx hb dX1_liveTurn_29 zc_3 ?_
    obtain ⟨g33, h⟩ := zGd_e h
    refine zr_iald (pc := 30) cx hP (nX3_1 (zHs_ok ha1)) (sX3_1 (zHs_ok ha1)) g33 dX1_liveTurn_30 ?_
    refine lv_if_le (pc := 31) (tgt := 70) hx hb dX1_liveTurn_31 (by decide) (fun c34 => ?_) (fun c34 => ?_)
    · replace h := zBr_t c34 h
      exact kX1_liveTurn_70 cx hr hlk hq ha1 h hP hS (lv_sub hl [2, 3, 1, 0] rfl)
    · replace h := zBr_f c34 h
      refine lv_iload (pc := 34) hx hb dX1_liveTurn_34 (lv_at hl 0 rfl) ?_
      refine lv_if_le (pc := 36) (tgt := 70) hx hb dX1_liveTurn_36 (by decide) (fun c35 => ?_) (fun c35 => ?_)
      · replace h := zBr_t c35 h
        exact kX1_liveTurn_70 cx hr hlk hq ha1 h hP hS (lv_sub hl [2, 3, 1, 0] rfl)
      · replace h := zBr_f c35 h
        refine lv_aload_n (pc := 39) hx hb dX1_liveTurn_39 rfl (lv_at hl 2 rfl) ?_
        refine lv_aload_n (pc := 40) hx hb dX1_liveTurn_40 rfl (lv_at hl 3 rfl) ?_
        refine zr_getR (pc := 41) (t := (zHs a1)) cx lk_X1_28 hP (nX6_0 ha1) (sX6_0 ha1) rfl dX1_liveTurn_41 ?_
        refine zr_getR (pc := 44) (t := ((zHs a1) + 1)) cx lk_X1_32 hP (nX3_0 (zHs_ok ha1)) (sX3_0 (zHs_ok ha1)) rfl dX1_liveTurn_44 ?_
        refine lv_iconst (pc := 47) hx hb dX1_liveTurn_47 zc_3 ?_
        obtain ⟨g36, h⟩ := zGd_e h
        refine zr_iald (pc := 48) cx hP (nX3_1 (zHs_ok ha1)) (sX3_1 (zHs_ok ha1)) g36 dX1_liveTurn_48 ?_
        obtain ⟨r39, S38, k37, h⟩ := zBp_e h
        refine zr_VQ (pc := 49) (rest := []) cx cv_X1_46 (mX1_draw hq k37) ⟨⟨rfl, rfl⟩, Nat.le_of_ble_eq_true rfl, Nat.le_of_ble_eq_true rfl⟩ ⟨Nat.le_of_ble_eq_true rfl, Nat.le_of_ble_eq_true rfl⟩ hP hS nC_261 sC_261 rfl hl.1 rfl rfl (Nat.le_of_ble_eq_true rfl) dX1_liveTurn_49 (fun H locs hP hS => ?_)
        refine lv_istore (lv' := [(5, .int r39), (4, .int x5), (3, .int r3), (0, .ref (q 261)), (1, .ref (q a1)), (2, .int v2)]) (pc := 52) hx hb dX1_liveTurn_52 hl (by decide) rfl (fun ls hl => ?_)
        refine lv_aload_n (pc := 54) hx hb dX1_liveTurn_54 rfl (lv_at hl 4 rfl) ?_
        refine lv_iload_n (pc := 55) hx hb dX1_liveTurn_55 rfl (lv_at hl 5 rfl) ?_
        refine lv_iload (pc := 56) hx hb dX1_liveTurn_56 (lv_at hl 0 rfl) ?_
        refine lv_aload_n (pc := 58) hx hb dX1_liveTurn_58 rfl (lv_at hl 3 rfl) ?_
        refine lv_iload (pc := 59) hx hb dX1_liveTurn_59 (lv_at hl 1 rfl) ?_
        obtain ⟨r42, S41, k40, h⟩ := zBp_e h
        refine zr_VQ (pc := 61) (rest := [.int r39, .int v2, .ref (q a1)]) cx cv_X1_46 (mX1_draw hq k40) ⟨⟨rfl, rfl⟩, Nat.le_of_ble_eq_true rfl, Nat.le_of_ble_eq_true rfl⟩ ⟨Nat.le_of_ble_eq_true rfl, Nat.le_of_ble_eq_true rfl⟩ hP hS nC_261 sC_261 rfl hl.1 rfl rfl (Nat.le_of_ble_eq_true rfl) dX1_liveTurn_61 (fun H locs hP hS => ?_)
        obtain ⟨S44, k43, h⟩ := zBd_e h
        refine zr_SV (pc := 64) (rest := []) cx cv_X1_49 (mX1_drawDeed hq ha1 k43) ⟨⟨rfl, rfl⟩, Nat.le_of_ble_eq_true rfl, Nat.le_of_ble_eq_true rfl⟩ ⟨Nat.le_of_ble_eq_true rfl, Nat.le_of_ble_eq_true rfl⟩ hP hS hl.1 rfl rfl (Nat.le_of_ble_eq_true rfl) dX1_liveTurn_64 (fun H locs hP hS => ?_)
        refine lv_goto (pc := 67) (tgt := 136) hx hb dX1_liveTurn_67 (by decide) ?_
        have hz := Option.some.inj h
        exact zr_rqV (pc := 136) cx hr hlk hP hS hz dX1_liveTurn_136
-- X1_liveDays
abbrev rmX1_liveDays : Room := { frames := 5, cells := 0, slots := 0, locals := 114 }
def fX1_liveDays_28 (a1 : Nat) (v4 : Int32) (v5 : Int32) (t : (zSt × Int32)) : Option ((zSt × Int32) ⊕ ((zSt × Int32) ⊕ (Int32 × zSt))) :=
  match t with
  | (S, v6) => zGd (zIx (2 : Int32) 4) (zBr ((S.1 ((zHs a1) + 1) (2 : Int32).toNatClampNeg) ≤ v6) (zXr (zBp (fX6_goDays S a1 (1 : Int32)) (fun r12 S11 => zLt (v5 + (1 : Int32)) (fun x13 => some (.inl (S11, x13)))))) (zBd (fX1_liveTurn S a1 v6) (fun S15 => zLt (v6 + (1 : Int32)) (fun x16 => some (.inl (S15, x16))))))
set_option maxHeartbeats 4000000 in
set_option maxRecDepth 100000 in
theorem kX1_liveDays_28B {p : Program} {l : Launch} {e : Env} {s : State} {m : MethodId} {args : Array Value} {below : List Frame} {meth : Method} {c : Code} {D : va_G} {cy : Nat → ClassId} {q : Nat → Nat} {A : Nat → Prop} (cx : zX RX1 cX1_liveDays 7 p s m args c D cy) (hr : meth.sig.returnType = (some .int)) (hlk : meth.locks = false) (hq : zQ A q zNC) {a1 : Nat} (ha1 : zLife a1) {z : (Int32 × zSt)} {S : zSt} {v4 : Int32} {v5 : Int32} {v6 : Int32} {C1 : ((zSt × Int32) ⊕ (Int32 × zSt)) → Prop} (hb1 : ∀ (S : zSt) (v5 : Int32), C1 (.inl (S, v5)) → ∀ (H : Heap) (locs : List Loc), va_P D vwCl (zW zsh zNC cy q S) H → va_S A s.heap H locs → ∀ (ls : Array Slot), lv_has ls 7 [(0, .ref (q 261)), (1, .ref (q a1)), (4, .int v4), (5, .int v5)] → W p l e rmX1_liveDays s m args below meth c H locs 0 0 (MQ below (va_Qi (fun (r : Int32) (u : zSt) => (r, u) = z) (fun u t => va_P D vwCl (zW zsh zNC cy q u) t.heap) A) args s 0 0 A) (F0 m 18 ls [])) (hx1 : ∀ a, C1 (.inr a) → a = z) {C2 : ((zSt × Int32) ⊕ ((zSt × Int32) ⊕ (Int32 × zSt))) → Prop} (hb2 : ∀ (S : zSt) (v6 : Int32), C2 (.inl (S, v6)) → ∀ (H : Heap) (locs : List Loc), va_P D vwCl (zW zsh zNC cy q S) H → va_S A s.heap H locs → ∀ (ls : Array Slot), lv_has ls 7 [(0, .ref (q 261)), (1, .ref (q a1)), (4, .int v4), (5, .int v5), (6, .int v6)] → W p l e rmX1_liveDays s m args below meth c H locs 0 0 (MQ below (va_Qi (fun (r : Int32) (u : zSt) => (r, u) = z) (fun u t => va_P D vwCl (zW zsh zNC cy q u) t.heap) A) args s 0 0 A) (F0 m 28 ls [])) (hx2 : ∀ a, C2 (.inr a) → C1 a) {x : ((zSt × Int32) ⊕ ((zSt × Int32) ⊕ (Int32 × zSt)))} (h : fX1_liveDays_28 a1 v4 v5 (S, v6) = some x) (hc : C2 x) {H : Heap} {locs : List Loc} (hP : va_P D vwCl (zW zsh zNC cy q S) H) (hS : va_S A s.heap H locs) {ls : Array Slot} (hl : lv_has ls 7 [(0, .ref (q 261)), (1, .ref (q a1)), (4, .int v4), (5, .int v5), (6, .int v6)]) : W p l e rmX1_liveDays s m args below meth c H locs 0 0 (MQ below (va_Qi (fun (r : Int32) (u : zSt) => (r, u) = z) (fun u t => va_P D vwCl (zW zsh zNC cy q u) t.heap) A) args s 0 0 A) (F0 m 28 ls []) := by
  have hx := cx.1
  have hb := cx.2.1
  unfold fX1_liveDays_28 at h
  dsimp only at h
  refine lv_iload (pc := 28) hx hb dX1_liveDays_28 (lv_at hl 4 rfl) ?_
  refine lv_aload_n (pc := 30) hx hb dX1_liveDays_30 rfl (lv_at hl 1 rfl) ?_
  refine zr_getR (pc := 31) (t := (zHs a1)) cx lk_X1_28 hP (nX6_0 ha1) (sX6_0 ha1) rfl dX1_liveDays_31 ?_
  refine zr_getR (pc := 34) (t := ((zHs a1) + 1)) cx lk_X1_32 hP (nX3_0 (zHs_ok ha1)) (sX3_0 (zHs_ok ha1)) rfl dX1_liveDays_34 ?_
  refine lv_iconst (pc := 37) hx hb dX1_liveDays_37 zc_2 ?_
  obtain ⟨g7, h⟩ := zGd_e h
  refine zr_iald (pc := 38) cx hP (nX3_1 (zHs_ok ha1)) (sX3_1 (zHs_ok ha1)) g7 dX1_liveDays_38 ?_
  refine lv_icmp_ge (pc := 39) (tgt := 55) hx hb dX1_liveDays_39 (by decide) (fun c8 => ?_) (fun c8 => ?_)
  · replace h := zBr_t c8 h
    obtain ⟨y9, h, ex⟩ := zXr_e h
    have hc := hx2 y9 (by rw [ex] at hc; exact hc)
    refine lv_aload_n (pc := 55) hx hb dX1_liveDays_55 rfl (lv_at hl 1 rfl) ?_
    refine lv_iconst (pc := 56) hx hb dX1_liveDays_56 zc_1 ?_
    obtain ⟨r12, S11, k10, h⟩ := zBp_e h
    refine zr_VQ (pc := 57) (rest := []) cx cv_X1_42 (mX6_goDays hq ha1 k10) ⟨⟨rfl, rfl⟩, Nat.le_of_ble_eq_true rfl, Nat.le_of_ble_eq_true rfl⟩ ⟨Nat.le_of_ble_eq_true rfl, Nat.le_of_ble_eq_true rfl⟩ hP hS (nX6_0 ha1) (sX6_0 ha1) rfl hl.1 rfl rfl (Nat.le_of_ble_eq_true rfl) dX1_liveDays_57 (fun H locs hP hS => ?_)
    refine lv_pop (pc := 60) hx hb dX1_liveDays_60 rfl ?_
    obtain ⟨x13, ex13, h⟩ := zLt_e h
    refine lv_iinc (v := x13) (lv' := [(5, .int x13), (0, .ref (q 261)), (1, .ref (q a1)), (4, .int v4), (6, .int v6)]) (pc := 61) hx hb dX1_liveDays_61 hl (k := 3) rfl (by rw [zc_1]; exact ex13.symm) (by decide) rfl (fun ls hl => ?_)
    refine lv_goto (pc := 64) (tgt := 18) hx hb dX1_liveDays_64 (by decide) ?_
    cases h
    exact hb1 _ _ hc _ _ hP hS _ (lv_sub hl [1, 2, 3, 0] rfl)
  · replace h := zBr_f c8 h
    refine lv_aload_n (pc := 42) hx hb dX1_liveDays_42 rfl (lv_at hl 0 rfl) ?_
    refine lv_aload_n (pc := 43) hx hb dX1_liveDays_43 rfl (lv_at hl 1 rfl) ?_
    refine lv_iload (pc := 44) hx hb dX1_liveDays_44 (lv_at hl 4 rfl) ?_
    obtain ⟨S15, k14, h⟩ := zBd_e h
    refine zr_VV (pc := 46) (rest := []) cx cv_X1_38 (mX1_liveTurn hq ha1 k14) ⟨⟨rfl, rfl⟩, Nat.le_of_ble_eq_true rfl, Nat.le_of_ble_eq_true rfl⟩ ⟨Nat.le_of_ble_eq_true rfl, Nat.le_of_ble_eq_true rfl⟩ hP hS nC_261 sC_261 rfl hl.1 rfl rfl (Nat.le_of_ble_eq_true rfl) dX1_liveDays_46 (fun H locs hP hS => ?_)
    obtain ⟨x16, ex16, h⟩ := zLt_e h
    refine lv_iinc (v := x16) (lv' := [(6, .int x16), (0, .ref (q 261)), (1, .ref (q a1)), (4, .int v4), (5, .int v5)]) (pc := 49) hx hb dX1_liveDays_49 hl (k := 4) rfl (by rw [zc_1]; exact ex16.symm) (by decide) rfl (fun ls hl => ?_)
    refine lv_goto (pc := 52) (tgt := 28) hx hb dX1_liveDays_52 (by decide) ?_
    cases h
    exact hb2 _ _ hc _ _ hP hS _ (lv_sub hl [1, 2, 3, 4, 0] rfl)
set_option maxHeartbeats 4000000 in
set_option maxRecDepth 100000 in
theorem kX1_liveDays_28 {p : Program} {l : Launch} {e : Env} {s : State} {m : MethodId} {args : Array Value} {below : List Frame} {meth : Method} {c : Code} {D : va_G} {cy : Nat → ClassId} {q : Nat → Nat} {A : Nat → Prop} (cx : zX RX1 cX1_liveDays 7 p s m args c D cy) (hr : meth.sig.returnType = (some .int)) (hlk : meth.locks = false) (hq : zQ A q zNC) {a1 : Nat} (ha1 : zLife a1) {z : (Int32 × zSt)} {v4 : Int32} {v5 : Int32} {C1 : ((zSt × Int32) ⊕ (Int32 × zSt)) → Prop} (hb1 : ∀ (S : zSt) (v5 : Int32), C1 (.inl (S, v5)) → ∀ (H : Heap) (locs : List Loc), va_P D vwCl (zW zsh zNC cy q S) H → va_S A s.heap H locs → ∀ (ls : Array Slot), lv_has ls 7 [(0, .ref (q 261)), (1, .ref (q a1)), (4, .int v4), (5, .int v5)] → W p l e rmX1_liveDays s m args below meth c H locs 0 0 (MQ below (va_Qi (fun (r : Int32) (u : zSt) => (r, u) = z) (fun u t => va_P D vwCl (zW zsh zNC cy q u) t.heap) A) args s 0 0 A) (F0 m 18 ls [])) (hx1 : ∀ a, C1 (.inr a) → a = z) {xo : ((zSt × Int32) ⊕ (Int32 × zSt))} (hc : C1 xo) : ∀ (n : Nat) (S : zSt) (v6 : Int32), zLp (fX1_liveDays_28 a1 v4 v5) n (S, v6) = some xo → ∀ (H : Heap) (locs : List Loc), va_P D vwCl (zW zsh zNC cy q S) H → va_S A s.heap H locs → ∀ (ls : Array Slot), lv_has ls 7 [(0, .ref (q 261)), (1, .ref (q a1)), (4, .int v4), (5, .int v5), (6, .int v6)] → W p l e rmX1_liveDays s m args below meth c H locs 0 0 (MQ below (va_Qi (fun (r : Int32) (u : zSt) => (r, u) = z) (fun u t => va_P D vwCl (zW zsh zNC cy q u) t.heap) A) args s 0 0 A) (F0 m 28 ls []) := by
  intro n
  induction n with
  | zero =>
    intro S v6 h
    cases h
  | succ n ih =>
    intro S v6 h H locs hP hS ls hl
    obtain ⟨x, h, hk⟩ := zLp_e h
    exact kX1_liveDays_28B cx hr hlk hq ha1 hb1 hx1 (C2 := zKt (fun t => zLp (fX1_liveDays_28 a1 v4 v5) n t = some xo) (fun a => a = xo)) (fun S v6 ht H locs hP hS ls hl => ih S v6 ht H locs hP hS ls hl) (fun a ha => ha ▸ hc) h hk hP hS hl
def fX1_liveDays_18 (a1 : Nat) (v4 : Int32) (t : (zSt × Int32)) : Option ((zSt × Int32) ⊕ (Int32 × zSt)) :=
  match t with
  | (S, v5) => zBr (v4 ≤ v5) (zXr (some (v4, S))) (zLp (fX1_liveDays_28 a1 v4 v5) 2000 (S, (0 : Int32)))
set_option maxHeartbeats 4000000 in
set_option maxRecDepth 100000 in
theorem kX1_liveDays_18B {p : Program} {l : Launch} {e : Env} {s : State} {m : MethodId} {args : Array Value} {below : List Frame} {meth : Method} {c : Code} {D : va_G} {cy : Nat → ClassId} {q : Nat → Nat} {A : Nat → Prop} (cx : zX RX1 cX1_liveDays 7 p s m args c D cy) (hr : meth.sig.returnType = (some .int)) (hlk : meth.locks = false) (hq : zQ A q zNC) {a1 : Nat} (ha1 : zLife a1) {z : (Int32 × zSt)} {S : zSt} {v4 : Int32} {v5 : Int32} {C1 : ((zSt × Int32) ⊕ (Int32 × zSt)) → Prop} (hb1 : ∀ (S : zSt) (v5 : Int32), C1 (.inl (S, v5)) → ∀ (H : Heap) (locs : List Loc), va_P D vwCl (zW zsh zNC cy q S) H → va_S A s.heap H locs → ∀ (ls : Array Slot), lv_has ls 7 [(0, .ref (q 261)), (1, .ref (q a1)), (4, .int v4), (5, .int v5)] → W p l e rmX1_liveDays s m args below meth c H locs 0 0 (MQ below (va_Qi (fun (r : Int32) (u : zSt) => (r, u) = z) (fun u t => va_P D vwCl (zW zsh zNC cy q u) t.heap) A) args s 0 0 A) (F0 m 18 ls [])) (hx1 : ∀ a, C1 (.inr a) → a = z) {x : ((zSt × Int32) ⊕ (Int32 × zSt))} (h : fX1_liveDays_18 a1 v4 (S, v5) = some x) (hc : C1 x) {H : Heap} {locs : List Loc} (hP : va_P D vwCl (zW zsh zNC cy q S) H) (hS : va_S A s.heap H locs) {ls : Array Slot} (hl : lv_has ls 7 [(0, .ref (q 261)), (1, .ref (q a1)), (4, .int v4), (5, .int v5)]) : W p l e rmX1_liveDays s m args below meth c H locs 0 0 (MQ below (va_Qi (fun (r : Int32) (u : zSt) => (r, u) = z) (fun u t => va_P D vwCl (zW zsh zNC cy q u) t.heap) A) args s 0 0 A) (F0 m 18 ls []) := by
  have hx := cx.1
  have hb := cx.2.1
  unfold fX1_liveDays_18 at h
  dsimp only at h
  refine lv_iload (pc := 18) hx hb dX1_liveDays_18 (lv_at hl 3 rfl) ?_
  refine lv_iload (pc := 20) hx hb dX1_liveDays_20 (lv_at hl 2 rfl) ?_
  refine lv_icmp_ge (pc := 22) (tgt := 67) hx hb dX1_liveDays_22 (by decide) (fun c5 => ?_) (fun c5 => ?_)
  · replace h := zBr_t c5 h
    obtain ⟨y6, h, ex⟩ := zXr_e h
    have hc := hx1 y6 (by rw [ex] at hc; exact hc)
    rw [hc] at h
    refine lv_iload (pc := 67) hx hb dX1_liveDays_67 (lv_at hl 2 rfl) ?_
    have hz := Option.some.inj h
    exact zr_rqI (pc := 69) cx hr hlk hP hS hz dX1_liveDays_69
  · replace h := zBr_f c5 h
    refine lv_iconst (pc := 25) hx hb dX1_liveDays_25 zc_0 ?_
    refine lv_istore (lv' := [(6, .int (0 : Int32)), (0, .ref (q 261)), (1, .ref (q a1)), (4, .int v4), (5, .int v5)]) (pc := 26) hx hb dX1_liveDays_26 hl (by decide) rfl (fun ls hl => ?_)
    exact kX1_liveDays_28 cx hr hlk hq ha1 hb1 hx1 hc 2000 _ _ h _ _ hP hS _ (lv_sub hl [1, 2, 3, 4, 0] rfl)
set_option maxHeartbeats 4000000 in
set_option maxRecDepth 100000 in
theorem kX1_liveDays_18 {p : Program} {l : Launch} {e : Env} {s : State} {m : MethodId} {args : Array Value} {below : List Frame} {meth : Method} {c : Code} {D : va_G} {cy : Nat → ClassId} {q : Nat → Nat} {A : Nat → Prop} (cx : zX RX1 cX1_liveDays 7 p s m args c D cy) (hr : meth.sig.returnType = (some .int)) (hlk : meth.locks = false) (hq : zQ A q zNC) {a1 : Nat} (ha1 : zLife a1) {z : (Int32 × zSt)} {v4 : Int32} : ∀ (n : Nat) (S : zSt) (v5 : Int32), zLp (fX1_liveDays_18 a1 v4) n (S, v5) = some z → ∀ (H : Heap) (locs : List Loc), va_P D vwCl (zW zsh zNC cy q S) H → va_S A s.heap H locs → ∀ (ls : Array Slot), lv_has ls 7 [(0, .ref (q 261)), (1, .ref (q a1)), (4, .int v4), (5, .int v5)] → W p l e rmX1_liveDays s m args below meth c H locs 0 0 (MQ below (va_Qi (fun (r : Int32) (u : zSt) => (r, u) = z) (fun u t => va_P D vwCl (zW zsh zNC cy q u) t.heap) A) args s 0 0 A) (F0 m 18 ls []) := by
  intro n
  induction n with
  | zero =>
    intro S v5 h
    cases h
  | succ n ih =>
    intro S v5 h H locs hP hS ls hl
    obtain ⟨x, h, hk⟩ := zLp_e h
    exact kX1_liveDays_18B cx hr hlk hq ha1  (C1 := zKt (fun t => zLp (fX1_liveDays_18 a1 v4) n t = some z) (fun a => a = z)) (fun S v5 ht H locs hP hS ls hl => ih S v5 ht H locs hP hS ls hl) (fun a ha => ha) h hk hP hS hl
def fX1_liveDays (S : zSt) (a1 : Nat) (v2 : Int32) (v3 : Int32) : Option (Int32 × zSt) :=
  zLt (zI S 261 0 v3) (fun S1 => zBd (fX6_daysLeft S1 a1) (fun r3 => zLt (if r3 < v2 then r3 else v2) (fun x4 => zLp (fX1_liveDays_18 a1 x4) 2000 (S1, (0 : Int32)))))
set_option maxHeartbeats 4000000 in
set_option maxRecDepth 100000 in
theorem mX1_liveDays {l : Launch} {D : va_G} {cy : Nat → ClassId} {q : Nat → Nat} {A : Nat → Prop} {S : zSt} {a1 : Nat} {v2 : Int32} {v3 : Int32} (hq : zQ A q zNC) (ha1 : zLife a1) {z : (Int32 × zSt)} (h : fX1_liveDays S a1 v2 v3 = some z) : zMq l yX1_liveDays cX1_liveDays 7 (some .int) rmX1_liveDays [.ref (q 261), .ref (q a1), .int v2, .int v3] zsh zNC D cy q A S z := by
  refine Met.ofW (cc := cX1_liveDays) (maxL := 7) (ret := (some .int)) (by decide) rfl ?_
  intro p e s m args below meth c s₁ B hml hv
  obtain ⟨rfl, hP, hK⟩ := hv
  have cx : zX RX1 cX1_liveDays 7 p s m ([.ref (q 261), .ref (q a1), .int v2, .int v3]).toArray c D cy := ⟨B.exec, B.bytes, hml, findClass_of_methodNamed B.named, fun w hw => atoms_spec (ws := Cond.code yX1_liveDays cX1_liveDays 7 (some .int) :: zTB) B.pre w (List.mem_cons_of_mem _ hw), hK⟩
  have hx := cx.1
  have hb := cx.2.1
  have hr := B.returns
  have hlk := B.notSynchronized
  have hS : va_S A s.heap s.heap [] := va_S.rf
  have hl := lv_entry ([.ref (q 261), .ref (q a1), .int v2, .int v3]) (n := 7) (Nat.le_of_ble_eq_true rfl)
  rw [lg_entry_eq]
  generalize (lg_sl ([.ref (q 261), .ref (q a1), .int v2, .int v3]) ++ List.replicate (7 - (lg_sl ([.ref (q 261), .ref (q a1), .int v2, .int v3])).length) Slot.unset).toArray = ls at hl ⊢
  have hl : lv_has ls 7 [(0, .ref (q 261)), (1, .ref (q a1)), (2, .int v2), (3, .int v3)] := hl
  unfold fX1_liveDays at h
  refine lv_aload_n (pc := 0) hx hb dX1_liveDays_0 rfl (lv_at hl 0 rfl) ?_
  refine lv_iload_n (pc := 1) hx hb dX1_liveDays_1 rfl (lv_at hl 3 rfl) ?_
  obtain ⟨S1, eS1, h⟩ := zLt_e h
  refine zr_putI (pc := 2) cx lq_X1_9 hq hP hS nC_261 sC_261 rfl rfl rfl dX1_liveDays_2 (fun H locs hP hS => ?_)
  rw [← eS1] at hP
  refine lv_iload_n (pc := 5) hx hb dX1_liveDays_5 rfl (lv_at hl 2 rfl) ?_
  refine lv_aload_n (pc := 6) hx hb dX1_liveDays_6 rfl (lv_at hl 1 rfl) ?_
  obtain ⟨r3, k2, h⟩ := zBd_e h
  refine zr_VI (pc := 7) (rest := [.int v2]) cx cv_X1_16 (mX6_daysLeft ha1 k2) ⟨⟨rfl, rfl⟩, Nat.le_of_ble_eq_true rfl, Nat.le_of_ble_eq_true rfl⟩ ⟨Nat.le_of_ble_eq_true rfl, Nat.le_of_ble_eq_true rfl⟩ hP (nX6_0 ha1) (sX6_0 ha1) rfl hl.1 rfl rfl (Nat.le_of_ble_eq_true rfl) dX1_liveDays_7 ?_
  refine zr_min (pc := 10) cx lb_X1_22 ⟨Nat.le_of_ble_eq_true rfl, Nat.le_of_ble_eq_true rfl, Nat.le_of_ble_eq_true rfl, Nat.le_of_ble_eq_true rfl⟩ hl.1 dX1_liveDays_10 ?_
  obtain ⟨x4, ex4, h⟩ := zLt_e h
  refine zr_nmI ex4 ?_
  refine lv_istore (lv' := [(4, .int x4), (0, .ref (q 261)), (1, .ref (q a1)), (2, .int v2), (3, .int v3)]) (pc := 13) hx hb dX1_liveDays_13 hl (by decide) rfl (fun ls hl => ?_)
  refine lv_iconst (pc := 15) hx hb dX1_liveDays_15 zc_0 ?_
  refine lv_istore (lv' := [(5, .int (0 : Int32)), (4, .int x4), (0, .ref (q 261)), (1, .ref (q a1)), (2, .int v2), (3, .int v3)]) (pc := 16) hx hb dX1_liveDays_16 hl (by decide) rfl (fun ls hl => ?_)
  exact kX1_liveDays_18 cx hr hlk hq ha1 2000 _ _ h _ _ hP hS _ (lv_sub hl [2, 3, 1, 0] rfl)
-- X11_drawn
abbrev rmX11_drawn : Room := { frames := 6, cells := 0, slots := 0, locals := 140 }
def fX11_drawn (S : zSt) (v1 : Int32) (v2 : Int32) : Option (Int32 × zSt) :=
  zBr (v1 < (1 : Int32)) (some ((-1 : Int32), S)) (zBr (v1 ≤ (60 : Int32)) (zBd (fX6_daysLeft S 14) (fun r4 => zBr (r4 = 0) (some ((0 : Int32), S)) (zBd (fX7_keep S 14) (fun S7 => zBp (fX1_liveDays S7 14 v1 v2) (fun r10 S9 => some (r10, S9)))))) (some ((-1 : Int32), S)))
set_option maxHeartbeats 4000000 in
set_option maxRecDepth 100000 in
theorem mX11_drawn {l : Launch} {D : va_G} {cy : Nat → ClassId} {q : Nat → Nat} {A : Nat → Prop} {S : zSt} {v1 : Int32} {v2 : Int32} (hq : zQ A q zNC) {z : (Int32 × zSt)} (h : fX11_drawn S v1 v2 = some z) : zMq l yX11_drawn cX11_drawn 3 (some .int) rmX11_drawn [.ref (q 0), .int v1, .int v2] zsh zNC D cy q A S z := by
  refine Met.ofW (cc := cX11_drawn) (maxL := 3) (ret := (some .int)) (by decide) rfl ?_
  intro p e s m args below meth c s₁ B hml hv
  obtain ⟨rfl, hP, hK⟩ := hv
  have cx : zX RX11 cX11_drawn 3 p s m ([.ref (q 0), .int v1, .int v2]).toArray c D cy := ⟨B.exec, B.bytes, hml, findClass_of_methodNamed B.named, fun w hw => atoms_spec (ws := Cond.code yX11_drawn cX11_drawn 3 (some .int) :: zTB) B.pre w (List.mem_cons_of_mem _ hw), hK⟩
  have hx := cx.1
  have hb := cx.2.1
  have hr := B.returns
  have hlk := B.notSynchronized
  have hS : va_S A s.heap s.heap [] := va_S.rf
  have hl := lv_entry ([.ref (q 0), .int v1, .int v2]) (n := 3) (Nat.le_of_ble_eq_true rfl)
  rw [lg_entry_eq]
  generalize (lg_sl ([.ref (q 0), .int v1, .int v2]) ++ List.replicate (3 - (lg_sl ([.ref (q 0), .int v1, .int v2])).length) Slot.unset).toArray = ls at hl ⊢
  have hl : lv_has ls 3 [(0, .ref (q 0)), (1, .int v1), (2, .int v2)] := hl
  unfold fX11_drawn at h
  refine lv_iload_n (pc := 0) hx hb dX11_drawn_0 rfl (lv_at hl 1 rfl) ?_
  refine lv_iconst (pc := 1) hx hb dX11_drawn_1 zc_1 ?_
  refine lv_icmp_lt (pc := 2) (tgt := 11) hx hb dX11_drawn_2 (by decide) (fun c1 => ?_) (fun c1 => ?_)
  · replace h := zBr_t c1 h
    refine lv_iconst (pc := 11) hx hb dX11_drawn_11 zc_m1 ?_
    have hz := Option.some.inj h
    exact zr_rqI (pc := 12) cx hr hlk hP hS hz dX11_drawn_12
  · replace h := zBr_f c1 h
    refine lv_iload_n (pc := 5) hx hb dX11_drawn_5 rfl (lv_at hl 1 rfl) ?_
    refine lv_bipush (pc := 6) hx hb dX11_drawn_6 zb_60 ?_
    refine lv_icmp_le (pc := 8) (tgt := 13) hx hb dX11_drawn_8 (by decide) (fun c2 => ?_) (fun c2 => ?_)
    · replace h := zBr_t c2 h
      refine lv_aload_n (pc := 13) hx hb dX11_drawn_13 rfl (lv_at hl 0 rfl) ?_
      refine zr_getR (pc := 14) (t := 14) cx lk_X11_28 hP nC_0 sC_0 rfl dX11_drawn_14 ?_
      obtain ⟨r4, k3, h⟩ := zBd_e h
      refine zr_VI (pc := 17) (rest := []) cx cv_X11_265 (mX6_daysLeft zLife_14 k3) ⟨⟨rfl, rfl⟩, Nat.le_of_ble_eq_true rfl, Nat.le_of_ble_eq_true rfl⟩ ⟨Nat.le_of_ble_eq_true rfl, Nat.le_of_ble_eq_true rfl⟩ hP (nX6_0 zLife_14) (sX6_0 zLife_14) rfl hl.1 rfl rfl (Nat.le_of_ble_eq_true rfl) dX11_drawn_17 ?_
      refine lv_if_ne (pc := 20) (tgt := 25) hx hb dX11_drawn_20 (by decide) (fun c5 => ?_) (fun c5 => ?_)
      · replace h := zBr_f c5 h
        refine lv_aload_n (pc := 25) hx hb dX11_drawn_25 rfl (lv_at hl 0 rfl) ?_
        refine zr_getR (pc := 26) (t := 44) cx lk_X11_38 hP nC_0 sC_0 rfl dX11_drawn_26 ?_
        refine lv_aload_n (pc := 29) hx hb dX11_drawn_29 rfl (lv_at hl 0 rfl) ?_
        refine zr_getR (pc := 30) (t := 14) cx lk_X11_28 hP nC_0 sC_0 rfl dX11_drawn_30 ?_
        obtain ⟨S7, k6, h⟩ := zBd_e h
        refine zr_VV (pc := 33) (rest := []) cx cv_X11_244 (mX7_keep hq zLife_14 k6) ⟨⟨rfl, rfl⟩, Nat.le_of_ble_eq_true rfl, Nat.le_of_ble_eq_true rfl⟩ ⟨Nat.le_of_ble_eq_true rfl, Nat.le_of_ble_eq_true rfl⟩ hP hS nC_44 sC_44 rfl hl.1 rfl rfl (Nat.le_of_ble_eq_true rfl) dX11_drawn_33 (fun H locs hP hS => ?_)
        refine lv_aload_n (pc := 36) hx hb dX11_drawn_36 rfl (lv_at hl 0 rfl) ?_
        refine zr_getR (pc := 37) (t := 261) cx lk_X11_96 hP nC_0 sC_0 rfl dX11_drawn_37 ?_
        refine lv_aload_n (pc := 40) hx hb dX11_drawn_40 rfl (lv_at hl 0 rfl) ?_
        refine zr_getR (pc := 41) (t := 14) cx lk_X11_28 hP nC_0 sC_0 rfl dX11_drawn_41 ?_
        refine lv_iload_n (pc := 44) hx hb dX11_drawn_44 rfl (lv_at hl 1 rfl) ?_
        refine lv_iload_n (pc := 45) hx hb dX11_drawn_45 rfl (lv_at hl 2 rfl) ?_
        obtain ⟨r10, S9, k8, h⟩ := zBp_e h
        refine zr_VQ (pc := 46) (rest := []) cx cv_X11_353 (mX1_liveDays hq zLife_14 k8) ⟨⟨rfl, rfl⟩, Nat.le_of_ble_eq_true rfl, Nat.le_of_ble_eq_true rfl⟩ ⟨Nat.le_of_ble_eq_true rfl, Nat.le_of_ble_eq_true rfl⟩ hP hS nC_261 sC_261 rfl hl.1 rfl rfl (Nat.le_of_ble_eq_true rfl) dX11_drawn_46 (fun H locs hP hS => ?_)
        have hz := Option.some.inj h
        exact zr_rqI (pc := 49) cx hr hlk hP hS hz dX11_drawn_49
      · replace h := zBr_t c5 h
        refine lv_iconst (pc := 23) hx hb dX11_drawn_23 zc_0 ?_
        have hz := Option.some.inj h
        exact zr_rqI (pc := 24) cx hr hlk hP hS hz dX11_drawn_24
    · replace h := zBr_f c2 h
      refine lv_iconst (pc := 11) hx hb dX11_drawn_11 zc_m1 ?_
      have hz := Option.some.inj h
      exact zr_rqI (pc := 12) cx hr hlk hP hS hz dX11_drawn_12
