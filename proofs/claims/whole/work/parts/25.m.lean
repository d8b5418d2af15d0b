theorem wd_12 : (Jvm.Cond.initialized "ParlourLeaves$HouseText") ∈ zTB := List.mem_filter.mpr ⟨List.mem_append_right _ (List.mem_append_left _ (List.mem_of_getElem? (i := 12) rfl)), rfl⟩
theorem wd_102 : (Jvm.Cond.fieldLink "ParlourLeaves$HouseText" (38 : Nat) "ParlourLeaves$Tape" "token" "I") ∈ zTB := List.mem_filter.mpr ⟨List.mem_append_right _ (List.mem_append_left _ (List.mem_of_getElem? (i := 102) rfl)), rfl⟩
theorem wd_108 : (Jvm.Cond.fieldLink "ParlourLeaves$HouseText" (74 : Nat) "ParlourLeaves$Tape" "word" "J") ∈ zTB := List.mem_filter.mpr ⟨List.mem_append_right _ (List.mem_append_left _ (List.mem_of_getElem? (i := 108) rfl)), rfl⟩
theorem wd_151 : (Jvm.Cond.fieldLink "ParlourLeaves$HouseText" (86 : Nat) "ParlourLeaves$House" "size" "[I") ∈ zTB := List.mem_filter.mpr ⟨List.mem_append_right _ (List.mem_append_left _ (List.mem_of_getElem? (i := 151) rfl)), rfl⟩
theorem wd_160 : (Jvm.Cond.fieldLink "ParlourLeaves$HouseText" (98 : Nat) "ParlourLeaves$House" "home" "[I") ∈ zTB := List.mem_filter.mpr ⟨List.mem_append_right _ (List.mem_append_left _ (List.mem_of_getElem? (i := 160) rfl)), rfl⟩
theorem wd_162 : (Jvm.Cond.fieldLink "ParlourLeaves$HouseText" (101 : Nat) "ParlourLeaves$House" "slow" "[I") ∈ zTB := List.mem_filter.mpr ⟨List.mem_append_right _ (List.mem_append_left _ (List.mem_of_getElem? (i := 162) rfl)), rfl⟩
theorem wd_166 : (Jvm.Cond.fieldLink "ParlourLeaves$HouseText" (104 : Nat) "ParlourLeaves$House" "fern" "[I") ∈ zTB := List.mem_filter.mpr ⟨List.mem_append_right _ (List.mem_append_left _ (List.mem_of_getElem? (i := 166) rfl)), rfl⟩
theorem wd_356 : (Jvm.Cond.fieldLink "ParlourLeaves" (131 : Nat) "ParlourLeaves$HouseText" "draft" "LParlourLeaves$House;") ∈ zTB := List.mem_filter.mpr ⟨List.mem_append_right _ (List.mem_append_right _ (List.mem_append_left _ (List.mem_of_getElem? (i := 116) rfl))), rfl⟩
theorem wd_510 : (Jvm.Cond.fieldLink "ParlourLeaves" (54 : Nat) "ParlourLeaves" "houseText" "LParlourLeaves$HouseText;") ∈ zTB := List.mem_filter.mpr ⟨List.mem_append_right _ (List.mem_append_right _ (List.mem_append_right _ (List.mem_append_left _ (List.mem_of_getElem? (i := 30) rfl)))), rfl⟩
theorem wd_572 : (Jvm.Cond.methodLink "ParlourLeaves" (121 : Nat) ({ cls := "ParlourLeaves$HouseText", name := "readAll", desc := "()I" } : Jvm.MethodName)) ∈ zTB := List.mem_filter.mpr ⟨List.mem_append_right _ (List.mem_append_right _ (List.mem_append_right _ (List.mem_append_left _ (List.mem_of_getElem? (i := 92) rfl)))), rfl⟩
theorem wd_573 : (Jvm.Cond.instanceMethod ({ cls := "ParlourLeaves$HouseText", name := "readAll", desc := "()I" } : Jvm.MethodName)) ∈ zTB := List.mem_filter.mpr ⟨List.mem_append_right _ (List.mem_append_right _ (List.mem_append_right _ (List.mem_append_left _ (List.mem_of_getElem? (i := 93) rfl)))), rfl⟩
theorem wd_574 : (Jvm.Cond.selects "ParlourLeaves$HouseText" ({ cls := "ParlourLeaves$HouseText", name := "readAll", desc := "()I" } : Jvm.MethodName) ({ cls := "ParlourLeaves$HouseText", name := "readAll", desc := "()I" } : Jvm.MethodName)) ∈ zTB := List.mem_filter.mpr ⟨List.mem_append_right _ (List.mem_append_right _ (List.mem_append_right _ (List.mem_append_left _ (List.mem_of_getElem? (i := 94) rfl)))), rfl⟩
theorem wd_575 : (Jvm.Cond.code ({ cls := "ParlourLeaves$HouseText", name := "readAll", desc := "()I" } : Jvm.MethodName) prog_6_method_2_code (2 : Nat) (Option.some Jvm.ClassFile.FieldType.int)) ∈ zTB := List.mem_filter.mpr ⟨List.mem_append_right _ (List.mem_append_right _ (List.mem_append_right _ (List.mem_append_left _ (List.mem_of_getElem? (i := 95) rfl)))), rfl⟩
theorem wd_576 : (Jvm.Cond.methodLink "ParlourLeaves$HouseText" (22 : Nat) ({ cls := "ParlourLeaves$House", name := "clear", desc := "()V" } : Jvm.MethodName)) ∈ zTB := List.mem_filter.mpr ⟨List.mem_append_right _ (List.mem_append_right _ (List.mem_append_right _ (List.mem_append_left _ (List.mem_of_getElem? (i := 96) rfl)))), rfl⟩
theorem wd_577 : (Jvm.Cond.instanceMethod ({ cls := "ParlourLeaves$House", name := "clear", desc := "()V" } : Jvm.MethodName)) ∈ zTB := List.mem_filter.mpr ⟨List.mem_append_right _ (List.mem_append_right _ (List.mem_append_right _ (List.mem_append_left _ (List.mem_of_getElem? (i := 97) rfl)))), rfl⟩
theorem wd_578 : (Jvm.Cond.selects "ParlourLeaves$House" ({ cls := "ParlourLeaves$House", name := "clear", desc := "()V" } : Jvm.MethodName) ({ cls := "ParlourLeaves$House", name := "clear", desc := "()V" } : Jvm.MethodName)) ∈ zTB := List.mem_filter.mpr ⟨List.mem_append_right _ (List.mem_append_right _ (List.mem_append_right _ (List.mem_append_left _ (List.mem_of_getElem? (i := 98) rfl)))), rfl⟩
theorem wd_579 : (Jvm.Cond.code ({ cls := "ParlourLeaves$House", name := "clear", desc := "()V" } : Jvm.MethodName) prog_5_method_2_code (2 : Nat) (Option.none : Option Jvm.ClassFile.FieldType)) ∈ zTB := List.mem_filter.mpr ⟨List.mem_append_right _ (List.mem_append_right _ (List.mem_append_right _ (List.mem_append_left _ (List.mem_of_getElem? (i := 99) rfl)))), rfl⟩
theorem wd_580 : (Jvm.Cond.methodLink "ParlourLeaves$HouseText" (32 : Nat) ({ cls := "ParlourLeaves$Tape", name := "beginReading", desc := "(I)V" } : Jvm.MethodName)) ∈ zTB := List.mem_filter.mpr ⟨List.mem_append_right _ (List.mem_append_right _ (List.mem_append_right _ (List.mem_append_left _ (List.mem_of_getElem? (i := 100) rfl)))), rfl⟩
theorem wd_595 : (Jvm.Cond.methodLink "ParlourLeaves$HouseText" (42 : Nat) ({ cls := "ParlourLeaves$HouseText", name := "readLine", desc := "()Z" } : Jvm.MethodName)) ∈ zTB := List.mem_filter.mpr ⟨List.mem_append_right _ (List.mem_append_right _ (List.mem_append_right _ (List.mem_append_left _ (List.mem_of_getElem? (i := 115) rfl)))), rfl⟩
theorem wd_597 : (Jvm.Cond.instanceMethod ({ cls := "ParlourLeaves$HouseText", name := "readLine", desc := "()Z" } : Jvm.MethodName)) ∈ zTB := List.mem_filter.mpr ⟨List.mem_append_right _ (List.mem_append_right _ (List.mem_append_right _ (List.mem_append_left _ (List.mem_of_getElem? (i := 117) rfl)))), rfl⟩
theorem wd_598 : (Jvm.Cond.code ({ cls := "ParlourLeaves$HouseText", name := "readLine", desc := "()Z" } : Jvm.MethodName) prog_6_method_3_code (1 : Nat) (Option.some Jvm.ClassFile.FieldType.boolean)) ∈ zTB := List.mem_filter.mpr ⟨List.mem_append_right _ (List.mem_append_right _ (List.mem_append_right _ (List.mem_append_left _ (List.mem_of_getElem? (i := 118) rfl)))), rfl⟩
theorem wd_599 : (Jvm.Cond.methodLink "ParlourLeaves$HouseText" (50 : Nat) ({ cls := "ParlourLeaves$HouseText", name := "readNamed", desc := "(I)Z" } : Jvm.MethodName)) ∈ zTB := List.mem_filter.mpr ⟨List.mem_append_right _ (List.mem_append_right _ (List.mem_append_right _ (List.mem_append_left _ (List.mem_of_getElem? (i := 119) rfl)))), rfl⟩
theorem wd_601 : (Jvm.Cond.instanceMethod ({ cls := "ParlourLeaves$HouseText", name := "readNamed", desc := "(I)Z" } : Jvm.MethodName)) ∈ zTB := List.mem_filter.mpr ⟨List.mem_append_right _ (List.mem_append_right _ (List.mem_append_right _ (List.mem_append_left _ (List.mem_of_getElem? (i := 121) rfl)))), rfl⟩
theorem wd_602 : (Jvm.Cond.code ({ cls := "ParlourLeaves$HouseText", name := "readNamed", desc := "(I)Z" } : Jvm.MethodName) prog_6_method_4_code (2 : Nat) (Option.some Jvm.ClassFile.FieldType.boolean)) ∈ zTB := List.mem_filter.mpr ⟨List.mem_append_right _ (List.mem_append_right _ (List.mem_append_right _ (List.mem_append_left _ (List.mem_of_getElem? (i := 122) rfl)))), rfl⟩
theorem wd_603 : (Jvm.Cond.methodLink "ParlourLeaves$HouseText" (68 : Nat) ({ cls := "ParlourLeaves$House", name := "isFull", desc := "(I)Z" } : Jvm.MethodName)) ∈ zTB := List.mem_filter.mpr ⟨List.mem_append_right _ (List.mem_append_right _ (List.mem_append_right _ (List.mem_append_left _ (List.mem_of_getElem? (i := 123) rfl)))), rfl⟩
theorem wd_604 : (Jvm.Cond.instanceMethod ({ cls := "ParlourLeaves$House", name := "isFull", desc := "(I)Z" } : Jvm.MethodName)) ∈ zTB := List.mem_filter.mpr ⟨List.mem_append_right _ (List.mem_append_right _ (List.mem_append_right _ (List.mem_append_left _ (List.mem_of_getElem? (i := 124) rfl)))), rfl⟩
theorem wd_605 : (Jvm.Cond.selects "ParlourLeaves$House" ({ cls := "ParlourLeaves$House", name := "isFull", desc := "(I)Z" } : Jvm.MethodName) ({ cls := "ParlourLeaves$House", name := "isFull", desc := "(I)Z" } : Jvm.MethodName)) ∈ zTB := List.mem_filter.mpr ⟨List.mem_append_right _ (List.mem_append_right _ (List.mem_append_right _ (List.mem_append_left _ (List.mem_of_getElem? (i := 125) rfl)))), rfl⟩
theorem wd_606 : (Jvm.Cond.code ({ cls := "ParlourLeaves$House", name := "isFull", desc := "(I)Z" } : Jvm.MethodName) prog_5_method_5_code (2 : Nat) (Option.some Jvm.ClassFile.FieldType.boolean)) ∈ zTB := List.mem_filter.mpr ⟨List.mem_append_right _ (List.mem_append_right _ (List.mem_append_right _ (List.mem_append_left _ (List.mem_of_getElem? (i := 126) rfl)))), rfl⟩
theorem wd_618 : (Jvm.Cond.methodLink "ParlourLeaves$HouseText" (78 : Nat) ({ cls := "ParlourLeaves$House", name := "placeOfWord", desc := "(J)I" } : Jvm.MethodName)) ∈ zTB := List.mem_filter.mpr ⟨List.mem_append_right _ (List.mem_append_right _ (List.mem_append_right _ (List.mem_append_left _ (List.mem_of_getElem? (i := 138) rfl)))), rfl⟩
theorem wd_622 : (Jvm.Cond.methodLink "ParlourLeaves$HouseText" (82 : Nat) ({ cls := "ParlourLeaves$House", name := "addName", desc := "(JI)V" } : Jvm.MethodName)) ∈ zTB := List.mem_filter.mpr ⟨List.mem_append_right _ (List.mem_append_right _ (List.mem_append_right _ (List.mem_append_left _ (List.mem_of_getElem? (i := 142) rfl)))), rfl⟩
theorem wd_623 : (Jvm.Cond.instanceMethod ({ cls := "ParlourLeaves$House", name := "addName", desc := "(JI)V" } : Jvm.MethodName)) ∈ zTB := List.mem_filter.mpr ⟨List.mem_append_right _ (List.mem_append_right _ (List.mem_append_right _ (List.mem_append_left _ (List.mem_of_getElem? (i := 143) rfl)))), rfl⟩
theorem wd_624 : (Jvm.Cond.selects "ParlourLeaves$House" ({ cls := "ParlourLeaves$House", name := "addName", desc := "(JI)V" } : Jvm.MethodName) ({ cls := "ParlourLeaves$House", name := "addName", desc := "(JI)V" } : Jvm.MethodName)) ∈ zTB := List.mem_filter.mpr ⟨List.mem_append_right _ (List.mem_append_right _ (List.mem_append_right _ (List.mem_append_left _ (List.mem_of_getElem? (i := 144) rfl)))), rfl⟩
theorem wd_625 : (Jvm.Cond.code ({ cls := "ParlourLeaves$House", name := "addName", desc := "(JI)V" } : Jvm.MethodName) prog_5_method_7_code (4 : Nat) (Option.none : Option Jvm.ClassFile.FieldType)) ∈ zTB := List.mem_filter.mpr ⟨List.mem_append_right _ (List.mem_append_right _ (List.mem_append_right _ (List.mem_append_left _ (List.mem_of_getElem? (i := 145) rfl)))), rfl⟩
theorem wd_626 : (Jvm.Cond.methodLink "ParlourLeaves$HouseText" (53 : Nat) ({ cls := "ParlourLeaves$HouseText", name := "readPlant", desc := "()Z" } : Jvm.MethodName)) ∈ zTB := List.mem_filter.mpr ⟨List.mem_append_right _ (List.mem_append_right _ (List.mem_append_right _ (List.mem_append_left _ (List.mem_of_getElem? (i := 146) rfl)))), rfl⟩
theorem wd_628 : (Jvm.Cond.instanceMethod ({ cls := "ParlourLeaves$HouseText", name := "readPlant", desc := "()Z" } : Jvm.MethodName)) ∈ zTB := List.mem_filter.mpr ⟨List.mem_append_right _ (List.mem_append_right _ (List.mem_append_right _ (List.mem_append_left _ (List.mem_of_getElem? (i := 148) rfl)))), rfl⟩
theorem wd_629 : (Jvm.Cond.code ({ cls := "ParlourLeaves$HouseText", name := "readPlant", desc := "()Z" } : Jvm.MethodName) prog_6_method_5_code (4 : Nat) (Option.some Jvm.ClassFile.FieldType.boolean)) ∈ zTB := List.mem_filter.mpr ⟨List.mem_append_right _ (List.mem_append_right _ (List.mem_append_right _ (List.mem_append_left _ (List.mem_of_getElem? (i := 149) rfl)))), rfl⟩
theorem wd_640 : (Jvm.Cond.methodLink "ParlourLeaves$HouseText" (56 : Nat) ({ cls := "ParlourLeaves$HouseText", name := "readSight", desc := "()Z" } : Jvm.MethodName)) ∈ zTB := List.mem_filter.mpr ⟨List.mem_append_right _ (List.mem_append_right _ (List.mem_append_right _ (List.mem_append_left _ (List.mem_of_getElem? (i := 160) rfl)))), rfl⟩
theorem wd_642 : (Jvm.Cond.instanceMethod ({ cls := "ParlourLeaves$HouseText", name := "readSight", desc := "()Z" } : Jvm.MethodName)) ∈ zTB := List.mem_filter.mpr ⟨List.mem_append_right _ (List.mem_append_right _ (List.mem_append_right _ (List.mem_append_left _ (List.mem_of_getElem? (i := 162) rfl)))), rfl⟩
theorem wd_643 : (Jvm.Cond.code ({ cls := "ParlourLeaves$HouseText", name := "readSight", desc := "()Z" } : Jvm.MethodName) prog_6_method_6_code (4 : Nat) (Option.some Jvm.ClassFile.FieldType.boolean)) ∈ zTB := List.mem_filter.mpr ⟨List.mem_append_right _ (List.mem_append_right _ (List.mem_append_right _ (List.mem_append_left _ (List.mem_of_getElem? (i := 163) rfl)))), rfl⟩
theorem wd_652 : (Jvm.Cond.methodLink "ParlourLeaves$HouseText" (59 : Nat) ({ cls := "ParlourLeaves$HouseText", name := "readDusty", desc := "()Z" } : Jvm.MethodName)) ∈ zTB := List.mem_filter.mpr ⟨List.mem_append_right _ (List.mem_append_right _ (List.mem_append_right _ (List.mem_append_left _ (List.mem_of_getElem? (i := 172) rfl)))), rfl⟩
theorem wd_654 : (Jvm.Cond.instanceMethod ({ cls := "ParlourLeaves$HouseText", name := "readDusty", desc := "()Z" } : Jvm.MethodName)) ∈ zTB := List.mem_filter.mpr ⟨List.mem_append_right _ (List.mem_append_right _ (List.mem_append_right _ (List.mem_append_left _ (List.mem_of_getElem? (i := 174) rfl)))), rfl⟩
theorem wd_655 : (Jvm.Cond.code ({ cls := "ParlourLeaves$HouseText", name := "readDusty", desc := "()Z" } : Jvm.MethodName) prog_6_method_7_code (1 : Nat) (Option.some Jvm.ClassFile.FieldType.boolean)) ∈ zTB := List.mem_filter.mpr ⟨List.mem_append_right _ (List.mem_append_right _ (List.mem_append_right _ (List.mem_append_left _ (List.mem_of_getElem? (i := 175) rfl)))), rfl⟩
theorem wd_656 : (Jvm.Cond.methodLink "ParlourLeaves$HouseText" (62 : Nat) ({ cls := "ParlourLeaves$HouseText", name := "readProof", desc := "()Z" } : Jvm.MethodName)) ∈ zTB := List.mem_filter.mpr ⟨List.mem_append_right _ (List.mem_append_right _ (List.mem_append_right _ (List.mem_append_left _ (List.mem_of_getElem? (i := 176) rfl)))), rfl⟩
theorem wd_658 : (Jvm.Cond.instanceMethod ({ cls := "ParlourLeaves$HouseText", name := "readProof", desc := "()Z" } : Jvm.MethodName)) ∈ zTB := List.mem_filter.mpr ⟨List.mem_append_right _ (List.mem_append_right _ (List.mem_append_right _ (List.mem_append_left _ (List.mem_of_getElem? (i := 178) rfl)))), rfl⟩
theorem wd_659 : (Jvm.Cond.code ({ cls := "ParlourLeaves$HouseText", name := "readProof", desc := "()Z" } : Jvm.MethodName) prog_6_method_8_code (1 : Nat) (Option.some Jvm.ClassFile.FieldType.boolean)) ∈ zTB := List.mem_filter.mpr ⟨List.mem_append_right _ (List.mem_append_right _ (List.mem_append_right _ (List.mem_append_left _ (List.mem_of_getElem? (i := 179) rfl)))), rfl⟩
theorem wd_660 : (Jvm.Cond.methodLink "ParlourLeaves$HouseText" (46 : Nat) ({ cls := "ParlourLeaves$Tape", name := "take", desc := "(I)Z" } : Jvm.MethodName)) ∈ zTB := List.mem_filter.mpr ⟨List.mem_append_right _ (List.mem_append_right _ (List.mem_append_right _ (List.mem_append_left _ (List.mem_of_getElem? (i := 180) rfl)))), rfl⟩
theorem wd_679 : (Jvm.Cond.methodLink "ParlourLeaves" (137 : Nat) ({ cls := "ParlourLeaves$Life", name := "begin", desc := "()V" } : Jvm.MethodName)) ∈ zTB := List.mem_filter.mpr ⟨List.mem_append_right _ (List.mem_append_right _ (List.mem_append_right _ (List.mem_append_left _ (List.mem_of_getElem? (i := 199) rfl)))), rfl⟩
theorem wd_680 : (Jvm.Cond.instanceMethod ({ cls := "ParlourLeaves$Life", name := "begin", desc := "()V" } : Jvm.MethodName)) ∈ zTB := List.mem_filter.mpr ⟨List.mem_append_right _ (List.mem_append_right _ (List.mem_append_right _ (List.mem_append_left _ (List.mem_of_getElem? (i := 200) rfl)))), rfl⟩
theorem wd_681 : (Jvm.Cond.selects "ParlourLeaves$Life" ({ cls := "ParlourLeaves$Life", name := "begin", desc := "()V" } : Jvm.MethodName) ({ cls := "ParlourLeaves$Life", name := "begin", desc := "()V" } : Jvm.MethodName)) ∈ zTB := List.mem_filter.mpr ⟨List.mem_append_right _ (List.mem_append_right _ (List.mem_append_right _ (List.mem_append_left _ (List.mem_of_getElem? (i := 201) rfl)))), rfl⟩
theorem wd_682 : (Jvm.Cond.code ({ cls := "ParlourLeaves$Life", name := "begin", desc := "()V" } : Jvm.MethodName) prog_8_method_2_code (2 : Nat) (Option.none : Option Jvm.ClassFile.FieldType)) ∈ zTB := List.mem_filter.mpr ⟨List.mem_append_right _ (List.mem_append_right _ (List.mem_append_right _ (List.mem_append_left _ (List.mem_of_getElem? (i := 202) rfl)))), rfl⟩
theorem wd_687 : (Jvm.Cond.methodLink "ParlourLeaves" (143 : Nat) ({ cls := "ParlourLeaves$Sentence", name := "clear", desc := "()V" } : Jvm.MethodName)) ∈ zTB := List.mem_filter.mpr ⟨List.mem_append_right _ (List.mem_append_right _ (List.mem_append_right _ (List.mem_append_left _ (List.mem_of_getElem? (i := 207) rfl)))), rfl⟩
theorem wp_1_5 : Cond.selects "ParlourLeaves$HouseText" (⟨"ParlourLeaves$HouseText", "readDusty", "()Z"⟩ : MethodName) (⟨"ParlourLeaves$HouseText", "readDusty", "()Z"⟩ : MethodName) ∈ zTB := List.mem_filter.mpr ⟨List.mem_append_left _ (List.mem_map.mpr ⟨((⟨"ParlourLeaves$HouseText", "readDusty", "()Z"⟩ : MethodName), 4), (List.mem_append_left _ (List.mem_of_getElem? (i := 5) rfl)), rfl⟩), rfl⟩
theorem wp_1_1 : Cond.selects "ParlourLeaves$HouseText" (⟨"ParlourLeaves$HouseText", "readLine", "()Z"⟩ : MethodName) (⟨"ParlourLeaves$HouseText", "readLine", "()Z"⟩ : MethodName) ∈ zTB := List.mem_filter.mpr ⟨List.mem_append_left _ (List.mem_map.mpr ⟨((⟨"ParlourLeaves$HouseText", "readLine", "()Z"⟩ : MethodName), 4), (List.mem_append_left _ (List.mem_of_getElem? (i := 1) rfl)), rfl⟩), rfl⟩
theorem wp_1_2 : Cond.selects "ParlourLeaves$HouseText" (⟨"ParlourLeaves$HouseText", "readNamed", "(I)Z"⟩ : MethodName) (⟨"ParlourLeaves$HouseText", "readNamed", "(I)Z"⟩ : MethodName) ∈ zTB := List.mem_filter.mpr ⟨List.mem_append_left _ (List.mem_map.mpr ⟨((⟨"ParlourLeaves$HouseText", "readNamed", "(I)Z"⟩ : MethodName), 4), (List.mem_append_left _ (List.mem_of_getElem? (i := 2) rfl)), rfl⟩), rfl⟩
theorem wp_1_3 : Cond.selects "ParlourLeaves$HouseText" (⟨"ParlourLeaves$HouseText", "readPlant", "()Z"⟩ : MethodName) (⟨"ParlourLeaves$HouseText", "readPlant", "()Z"⟩ : MethodName) ∈ zTB := List.mem_filter.mpr ⟨List.mem_append_left _ (List.mem_map.mpr ⟨((⟨"ParlourLeaves$HouseText", "readPlant", "()Z"⟩ : MethodName), 4), (List.mem_append_left _ (List.mem_of_getElem? (i := 3) rfl)), rfl⟩), rfl⟩
theorem wp_1_6 : Cond.selects "ParlourLeaves$HouseText" (⟨"ParlourLeaves$HouseText", "readProof", "()Z"⟩ : MethodName) (⟨"ParlourLeaves$HouseText", "readProof", "()Z"⟩ : MethodName) ∈ zTB := List.mem_filter.mpr ⟨List.mem_append_left _ (List.mem_map.mpr ⟨((⟨"ParlourLeaves$HouseText", "readProof", "()Z"⟩ : MethodName), 4), (List.mem_append_left _ (List.mem_of_getElem? (i := 6) rfl)), rfl⟩), rfl⟩
theorem wp_1_4 : Cond.selects "ParlourLeaves$HouseText" (⟨"ParlourLeaves$HouseText", "readSight", "()Z"⟩ : MethodName) (⟨"ParlourLeaves$HouseText", "readSight", "()Z"⟩ : MethodName) ∈ zTB := List.mem_filter.mpr ⟨List.mem_append_left _ (List.mem_map.mpr ⟨((⟨"ParlourLeaves$HouseText", "readSight", "()Z"⟩ : MethodName), 4), (List.mem_append_left _ (List.mem_of_getElem? (i := 4) rfl)), rfl⟩), rfl⟩
theorem dn_X3_isFull : zDn yX3_isFull 1 := ⟨by decide, by decide, by decide +kernel⟩
theorem dn_X3_addName : zDn yX3_addName 2 := ⟨by decide, by decide, by decide +kernel⟩
theorem dn_X4_readNamed : zDn yX4_readNamed 1 := ⟨by decide, by decide, by decide +kernel⟩
theorem dn_X4_readSight : zDn yX4_readSight 0 := ⟨by decide, by decide, by decide +kernel⟩
theorem dn_X4_readPlant : zDn yX4_readPlant 0 := ⟨by decide, by decide, by decide +kernel⟩
theorem dn_X4_readDusty : zDn yX4_readDusty 0 := ⟨by decide, by decide, by decide +kernel⟩
theorem dn_X4_readProof : zDn yX4_readProof 0 := ⟨by decide, by decide, by decide +kernel⟩
theorem dn_X3_clear : zDn yX3_clear 0 := ⟨by decide, by decide, by decide +kernel⟩
theorem dn_X4_readLine : zDn yX4_readLine 0 := ⟨by decide, by decide, by decide +kernel⟩
theorem dn_X4_readAll : zDn yX4_readAll 0 := ⟨by decide, by decide, by decide +kernel⟩
theorem dn_X6_begin : zDn yX6_begin 0 := ⟨by decide, by decide, by decide +kernel⟩
theorem cv_X4_68 : zCV RX4 RX3 68 yX3_isFull cX3_isFull 2 (some .boolean) 1 := ⟨rfl, dn_X3_isFull, wd_603, wd_604, wd_605, wd_7, wd_606⟩
theorem lk_X4_38 : zLk RX4 38 10 5 := ⟨"ParlourLeaves$Tape", RX9, TX9, 11, rfl, by decide, wsin_X9, wd_102, rfl⟩
theorem lk_X4_74 : zLk RX4 74 10 7 := ⟨"ParlourLeaves$Tape", RX9, TX9, 11, rfl, by decide, wsin_X9, wd_108, rfl⟩
theorem cv_X4_78 : zCV RX4 RX3 78 yX3_placeOfWord cX3_placeOfWord 4 (some .int) 1 := ⟨rfl, dn_X3_placeOfWord, wd_618, wd_619, wd_620, wd_7, wd_621⟩
theorem cv_X4_82 : zCV RX4 RX3 82 yX3_addName cX3_addName 4 none 2 := ⟨rfl, dn_X3_addName, wd_622, wd_623, wd_624, wd_7, wd_625⟩
theorem lk_X4_86 : zLk RX4 86 4 0 := ⟨"ParlourLeaves$House", RX3, TX3, 12, rfl, by decide, wsin_X3, wd_151, rfl⟩
theorem cv_X4_50 : zCV RX4 RX4 50 yX4_readNamed cX4_readNamed 2 (some .boolean) 1 := ⟨rfl, dn_X4_readNamed, wd_599, wd_601, wp_1_2, wd_12, wd_602⟩
theorem lk_X4_98 : zLk RX4 98 4 2 := ⟨"ParlourLeaves$House", RX3, TX3, 12, rfl, by decide, wsin_X3, wd_160, rfl⟩
theorem lk_X4_101 : zLk RX4 101 4 3 := ⟨"ParlourLeaves$House", RX3, TX3, 12, rfl, by decide, wsin_X3, wd_162, rfl⟩
theorem lk_X4_104 : zLk RX4 104 4 4 := ⟨"ParlourLeaves$House", RX3, TX3, 12, rfl, by decide, wsin_X3, wd_166, rfl⟩
theorem cv_X4_56 : zCV RX4 RX4 56 yX4_readSight cX4_readSight 4 (some .boolean) 0 := ⟨rfl, dn_X4_readSight, wd_640, wd_642, wp_1_4, wd_12, wd_643⟩
theorem cv_X4_53 : zCV RX4 RX4 53 yX4_readPlant cX4_readPlant 4 (some .boolean) 0 := ⟨rfl, dn_X4_readPlant, wd_626, wd_628, wp_1_3, wd_12, wd_629⟩
theorem cv_X4_59 : zCV RX4 RX4 59 yX4_readDusty cX4_readDusty 1 (some .boolean) 0 := ⟨rfl, dn_X4_readDusty, wd_652, wd_654, wp_1_5, wd_12, wd_655⟩
theorem cv_X4_62 : zCV RX4 RX4 62 yX4_readProof cX4_readProof 1 (some .boolean) 0 := ⟨rfl, dn_X4_readProof, wd_656, wd_658, wp_1_6, wd_12, wd_659⟩
theorem cv_X4_22 : zCV RX4 RX3 22 yX3_clear cX3_clear 2 none 0 := ⟨rfl, dn_X3_clear, wd_576, wd_577, wd_578, wd_7, wd_579⟩
theorem cv_X4_32 : zCV RX4 RX9 32 yX9_beginReading cX9_beginReading 2 none 1 := ⟨rfl, dn_X9_beginReading, wd_580, wd_581, wd_582, wd_2, wd_583⟩
theorem cv_X4_42 : zCV RX4 RX4 42 yX4_readLine cX4_readLine 1 (some .boolean) 0 := ⟨rfl, dn_X4_readLine, wd_595, wd_597, wp_1_1, wd_12, wd_598⟩
theorem cv_X4_46 : zCV RX4 RX9 46 yX9_take cX9_take 2 (some .boolean) 1 := ⟨rfl, dn_X9_take, wd_660, wd_661, wd_662, wd_2, wd_663⟩
theorem lk_X11_54 : zLk RX11 54 12 6 := ⟨"ParlourLeaves", RX11, TX11, 17, rfl, by decide, wsin_X11, wd_510, rfl⟩
theorem cv_X11_121 : zCV RX11 RX4 121 yX4_readAll cX4_readAll 2 (some .int) 0 := ⟨rfl, dn_X4_readAll, wd_572, wd_573, wd_574, wd_12, wd_575⟩
theorem lk_X11_131 : zLk RX11 131 5 1 := ⟨"ParlourLeaves$HouseText", RX4, TX4, 4, rfl, by decide, wsin_X4, wd_356, rfl⟩
theorem cv_X11_137 : zCV RX11 RX6 137 yX6_begin cX6_begin 2 none 0 := ⟨rfl, dn_X6_begin, wd_679, wd_680, wd_681, wd_8, wd_682⟩
theorem cv_X11_143 : zCV RX11 RX8 143 yX8_clear cX8_clear 1 none 0 := ⟨rfl, dn_X8_clear, wd_687, wd_688, wd_689, wd_11, wd_690⟩
theorem dX3_isFull_0 : decode cX3_isFull 0 = .ok (.aload_n 0, 1) := by decide +kernel
theorem dX3_isFull_1 : decode cX3_isFull 1 = .ok (.getfield 9, 3) := by decide +kernel
theorem dX3_isFull_4 : decode cX3_isFull 4 = .ok (.iload_n 1, 1) := by decide +kernel
theorem dX3_isFull_5 : decode cX3_isFull 5 = .ok (.iaload, 1) := by decide +kernel
theorem dX3_isFull_6 : decode cX3_isFull 6 = .ok (.getstatic 56, 3) := by decide +kernel
theorem dX3_isFull_9 : decode cX3_isFull 9 = .ok (.iload_n 1, 1) := by decide +kernel
theorem dX3_isFull_10 : decode cX3_isFull 10 = .ok (.iaload, 1) := by decide +kernel
theorem dX3_isFull_11 : decode cX3_isFull 11 = .ok (.if_icmp .lt 7, 3) := by decide +kernel
theorem dX3_isFull_14 : decode cX3_isFull 14 = .ok (.iconst 1, 1) := by decide +kernel
theorem dX3_isFull_15 : decode cX3_isFull 15 = .ok (.goto 4, 3) := by decide +kernel
theorem dX3_isFull_18 : decode cX3_isFull 18 = .ok (.iconst 0, 1) := by decide +kernel
theorem dX3_isFull_19 : decode cX3_isFull 19 = .ok (.ireturn, 1) := by decide +kernel
theorem dX4_readNamed_0 : decode cX4_readNamed 0 = .ok (.aload_n 0, 1) := by decide +kernel
theorem dX4_readNamed_1 : decode cX4_readNamed 1 = .ok (.getfield 12, 3) := by decide +kernel
theorem dX4_readNamed_4 : decode cX4_readNamed 4 = .ok (.iload_n 1, 1) := by decide +kernel
theorem dX4_readNamed_5 : decode cX4_readNamed 5 = .ok (.invokevirtual 68, 3) := by decide +kernel
theorem dX4_readNamed_8 : decode cX4_readNamed 8 = .ok (.ifCond .eq 12, 3) := by decide +kernel
theorem dX4_readNamed_11 : decode cX4_readNamed 11 = .ok (.aload_n 0, 1) := by decide +kernel
theorem dX4_readNamed_12 : decode cX4_readNamed 12 = .ok (.getfield 18, 3) := by decide +kernel
theorem dX4_readNamed_15 : decode cX4_readNamed 15 = .ok (.iconst 4, 1) := by decide +kernel
theorem dX4_readNamed_16 : decode cX4_readNamed 16 = .ok (.invokevirtual 65, 3) := by decide +kernel
theorem dX4_readNamed_19 : decode cX4_readNamed 19 = .ok (.ireturn, 1) := by decide +kernel
theorem dX4_readNamed_20 : decode cX4_readNamed 20 = .ok (.aload_n 0, 1) := by decide +kernel
theorem dX4_readNamed_21 : decode cX4_readNamed 21 = .ok (.getfield 18, 3) := by decide +kernel
theorem dX4_readNamed_24 : decode cX4_readNamed 24 = .ok (.invokevirtual 71, 3) := by decide +kernel
theorem dX4_readNamed_27 : decode cX4_readNamed 27 = .ok (.aload_n 0, 1) := by decide +kernel
theorem dX4_readNamed_28 : decode cX4_readNamed 28 = .ok (.getfield 18, 3) := by decide +kernel
theorem dX4_readNamed_31 : decode cX4_readNamed 31 = .ok (.getfield 38, 3) := by decide +kernel
theorem dX4_readNamed_34 : decode cX4_readNamed 34 = .ok (.bipush 100, 2) := by decide +kernel
theorem dX4_readNamed_36 : decode cX4_readNamed 36 = .ok (.if_icmp .eq 12, 3) := by decide +kernel
theorem dX4_readNamed_39 : decode cX4_readNamed 39 = .ok (.aload_n 0, 1) := by decide +kernel
theorem dX4_readNamed_40 : decode cX4_readNamed 40 = .ok (.getfield 18, 3) := by decide +kernel
theorem dX4_readNamed_43 : decode cX4_readNamed 43 = .ok (.iconst 1, 1) := by decide +kernel
theorem dX4_readNamed_44 : decode cX4_readNamed 44 = .ok (.invokevirtual 65, 3) := by decide +kernel
theorem dX4_readNamed_47 : decode cX4_readNamed 47 = .ok (.ireturn, 1) := by decide +kernel
theorem dX4_readNamed_48 : decode cX4_readNamed 48 = .ok (.aload_n 0, 1) := by decide +kernel
theorem dX4_readNamed_49 : decode cX4_readNamed 49 = .ok (.getfield 12, 3) := by decide +kernel
theorem dX4_readNamed_52 : decode cX4_readNamed 52 = .ok (.aload_n 0, 1) := by decide +kernel
theorem dX4_readNamed_53 : decode cX4_readNamed 53 = .ok (.getfield 18, 3) := by decide +kernel
theorem dX4_readNamed_56 : decode cX4_readNamed 56 = .ok (.getfield 74, 3) := by decide +kernel
theorem dX4_readNamed_59 : decode cX4_readNamed 59 = .ok (.invokevirtual 78, 3) := by decide +kernel
theorem dX4_readNamed_62 : decode cX4_readNamed 62 = .ok (.iconst (-1), 1) := by decide +kernel
theorem dX4_readNamed_63 : decode cX4_readNamed 63 = .ok (.if_icmp .eq 12, 3) := by decide +kernel
theorem dX4_readNamed_66 : decode cX4_readNamed 66 = .ok (.aload_n 0, 1) := by decide +kernel
theorem dX4_readNamed_67 : decode cX4_readNamed 67 = .ok (.getfield 18, 3) := by decide +kernel
theorem dX4_readNamed_70 : decode cX4_readNamed 70 = .ok (.iconst 3, 1) := by decide +kernel
theorem dX4_readNamed_71 : decode cX4_readNamed 71 = .ok (.invokevirtual 65, 3) := by decide +kernel
theorem dX4_readNamed_74 : decode cX4_readNamed 74 = .ok (.ireturn, 1) := by decide +kernel
theorem dX4_readNamed_75 : decode cX4_readNamed 75 = .ok (.aload_n 0, 1) := by decide +kernel
theorem dX4_readNamed_76 : decode cX4_readNamed 76 = .ok (.getfield 12, 3) := by decide +kernel
theorem dX4_readNamed_79 : decode cX4_readNamed 79 = .ok (.aload_n 0, 1) := by decide +kernel
theorem dX4_readNamed_80 : decode cX4_readNamed 80 = .ok (.getfield 18, 3) := by decide +kernel
theorem dX4_readNamed_83 : decode cX4_readNamed 83 = .ok (.getfield 74, 3) := by decide +kernel
theorem dX4_readNamed_86 : decode cX4_readNamed 86 = .ok (.iload_n 1, 1) := by decide +kernel
theorem dX4_readNamed_87 : decode cX4_readNamed 87 = .ok (.invokevirtual 82, 3) := by decide +kernel
theorem dX4_readNamed_90 : decode cX4_readNamed 90 = .ok (.aload_n 0, 1) := by decide +kernel
theorem dX4_readNamed_91 : decode cX4_readNamed 91 = .ok (.getfield 18, 3) := by decide +kernel
theorem dX4_readNamed_94 : decode cX4_readNamed 94 = .ok (.invokevirtual 71, 3) := by decide +kernel
theorem dX4_readNamed_97 : decode cX4_readNamed 97 = .ok (.iconst 1, 1) := by decide +kernel
theorem dX4_readNamed_98 : decode cX4_readNamed 98 = .ok (.ireturn, 1) := by decide +kernel
theorem dX4_readPlant_0 : decode cX4_readPlant 0 = .ok (.aload_n 0, 1) := by decide +kernel
theorem dX4_readPlant_1 : decode cX4_readPlant 1 = .ok (.getfield 12, 3) := by decide +kernel
theorem dX4_readPlant_4 : decode cX4_readPlant 4 = .ok (.getfield 86, 3) := by decide +kernel
theorem dX4_readPlant_7 : decode cX4_readPlant 7 = .ok (.iconst 1, 1) := by decide +kernel
theorem dX4_readPlant_8 : decode cX4_readPlant 8 = .ok (.iaload, 1) := by decide +kernel
theorem dX4_readPlant_9 : decode cX4_readPlant 9 = .ok (.istore_n 1, 1) := by decide +kernel
theorem dX4_readPlant_10 : decode cX4_readPlant 10 = .ok (.aload_n 0, 1) := by decide +kernel
theorem dX4_readPlant_11 : decode cX4_readPlant 11 = .ok (.iconst 1, 1) := by decide +kernel
theorem dX4_readPlant_12 : decode cX4_readPlant 12 = .ok (.invokevirtual 50, 3) := by decide +kernel
theorem dX4_readPlant_15 : decode cX4_readPlant 15 = .ok (.ifCond .ne 5, 3) := by decide +kernel
theorem dX4_readPlant_18 : decode cX4_readPlant 18 = .ok (.iconst 0, 1) := by decide +kernel
theorem dX4_readPlant_19 : decode cX4_readPlant 19 = .ok (.ireturn, 1) := by decide +kernel
theorem dX4_readPlant_20 : decode cX4_readPlant 20 = .ok (.aload_n 0, 1) := by decide +kernel
theorem dX4_readPlant_21 : decode cX4_readPlant 21 = .ok (.getfield 18, 3) := by decide +kernel
theorem dX4_readPlant_24 : decode cX4_readPlant 24 = .ok (.aload_n 0, 1) := by decide +kernel
theorem dX4_readPlant_25 : decode cX4_readPlant 25 = .ok (.getfield 12, 3) := by decide +kernel
theorem dX4_readPlant_28 : decode cX4_readPlant 28 = .ok (.iconst 0, 1) := by decide +kernel
theorem dX4_readPlant_29 : decode cX4_readPlant 29 = .ok (.invokevirtual 90, 3) := by decide +kernel
theorem dX4_readPlant_32 : decode cX4_readPlant 32 = .ok (.istore_n 2, 1) := by decide +kernel
theorem dX4_readPlant_33 : decode cX4_readPlant 33 = .ok (.iload_n 2, 1) := by decide +kernel
theorem dX4_readPlant_34 : decode cX4_readPlant 34 = .ok (.iconst (-1), 1) := by decide +kernel
theorem dX4_readPlant_35 : decode cX4_readPlant 35 = .ok (.if_icmp .ne 5, 3) := by decide +kernel
theorem dX4_readPlant_38 : decode cX4_readPlant 38 = .ok (.iconst 0, 1) := by decide +kernel
theorem dX4_readPlant_39 : decode cX4_readPlant 39 = .ok (.ireturn, 1) := by decide +kernel
theorem dX4_readPlant_40 : decode cX4_readPlant 40 = .ok (.aload_n 0, 1) := by decide +kernel
theorem dX4_readPlant_41 : decode cX4_readPlant 41 = .ok (.getfield 18, 3) := by decide +kernel
theorem dX4_readPlant_44 : decode cX4_readPlant 44 = .ok (.iconst 1, 1) := by decide +kernel
theorem dX4_readPlant_45 : decode cX4_readPlant 45 = .ok (.bipush 9, 2) := by decide +kernel
theorem dX4_readPlant_47 : decode cX4_readPlant 47 = .ok (.invokevirtual 94, 3) := by decide +kernel
theorem dX4_readPlant_50 : decode cX4_readPlant 50 = .ok (.istore_n 3, 1) := by decide +kernel
theorem dX4_readPlant_51 : decode cX4_readPlant 51 = .ok (.iload_n 3, 1) := by decide +kernel
theorem dX4_readPlant_52 : decode cX4_readPlant 52 = .ok (.iconst (-1), 1) := by decide +kernel
theorem dX4_readPlant_53 : decode cX4_readPlant 53 = .ok (.if_icmp .ne 5, 3) := by decide +kernel
theorem dX4_readPlant_56 : decode cX4_readPlant 56 = .ok (.iconst 0, 1) := by decide +kernel
theorem dX4_readPlant_57 : decode cX4_readPlant 57 = .ok (.ireturn, 1) := by decide +kernel
theorem dX4_readPlant_58 : decode cX4_readPlant 58 = .ok (.aload_n 0, 1) := by decide +kernel
theorem dX4_readPlant_59 : decode cX4_readPlant 59 = .ok (.getfield 12, 3) := by decide +kernel
theorem dX4_readPlant_62 : decode cX4_readPlant 62 = .ok (.getfield 98, 3) := by decide +kernel
theorem dX4_readPlant_65 : decode cX4_readPlant 65 = .ok (.iload_n 1, 1) := by decide +kernel
theorem dX4_readPlant_66 : decode cX4_readPlant 66 = .ok (.iload_n 2, 1) := by decide +kernel
theorem dX4_readPlant_67 : decode cX4_readPlant 67 = .ok (.iastore, 1) := by decide +kernel
theorem dX4_readPlant_68 : decode cX4_readPlant 68 = .ok (.aload_n 0, 1) := by decide +kernel
theorem dX4_readPlant_69 : decode cX4_readPlant 69 = .ok (.getfield 12, 3) := by decide +kernel
theorem dX4_readPlant_72 : decode cX4_readPlant 72 = .ok (.getfield 101, 3) := by decide +kernel
theorem dX4_readPlant_75 : decode cX4_readPlant 75 = .ok (.iload_n 1, 1) := by decide +kernel
theorem dX4_readPlant_76 : decode cX4_readPlant 76 = .ok (.iload_n 3, 1) := by decide +kernel
theorem dX4_readPlant_77 : decode cX4_readPlant 77 = .ok (.iastore, 1) := by decide +kernel
theorem dX4_readPlant_78 : decode cX4_readPlant 78 = .ok (.aload_n 0, 1) := by decide +kernel
theorem dX4_readPlant_79 : decode cX4_readPlant 79 = .ok (.getfield 12, 3) := by decide +kernel
theorem dX4_readPlant_82 : decode cX4_readPlant 82 = .ok (.getfield 104, 3) := by decide +kernel
theorem dX4_readPlant_85 : decode cX4_readPlant 85 = .ok (.iload_n 1, 1) := by decide +kernel
theorem dX4_readPlant_86 : decode cX4_readPlant 86 = .ok (.iconst 0, 1) := by decide +kernel
theorem dX4_readPlant_87 : decode cX4_readPlant 87 = .ok (.iastore, 1) := by decide +kernel
theorem dX4_readPlant_88 : decode cX4_readPlant 88 = .ok (.aload_n 0, 1) := by decide +kernel
theorem dX4_readPlant_89 : decode cX4_readPlant 89 = .ok (.getfield 18, 3) := by decide +kernel
theorem dX4_readPlant_92 : decode cX4_readPlant 92 = .ok (.getfield 38, 3) := by decide +kernel
theorem dX4_readPlant_95 : decode cX4_readPlant 95 = .ok (.iconst 3, 1) := by decide +kernel
theorem dX4_readPlant_96 : decode cX4_readPlant 96 = .ok (.if_icmp .ne 20, 3) := by decide +kernel
theorem dX4_readPlant_99 : decode cX4_readPlant 99 = .ok (.aload_n 0, 1) := by decide +kernel
theorem dX4_readPlant_100 : decode cX4_readPlant 100 = .ok (.getfield 12, 3) := by decide +kernel
theorem dX4_readPlant_103 : decode cX4_readPlant 103 = .ok (.getfield 104, 3) := by decide +kernel
theorem dX4_readPlant_106 : decode cX4_readPlant 106 = .ok (.iload_n 1, 1) := by decide +kernel
theorem dX4_readPlant_107 : decode cX4_readPlant 107 = .ok (.iconst 1, 1) := by decide +kernel
theorem dX4_readPlant_108 : decode cX4_readPlant 108 = .ok (.iastore, 1) := by decide +kernel
theorem dX4_readPlant_109 : decode cX4_readPlant 109 = .ok (.aload_n 0, 1) := by decide +kernel
theorem dX4_readPlant_110 : decode cX4_readPlant 110 = .ok (.getfield 18, 3) := by decide +kernel
theorem dX4_readPlant_113 : decode cX4_readPlant 113 = .ok (.invokevirtual 71, 3) := by decide +kernel
theorem dX4_readPlant_116 : decode cX4_readPlant 116 = .ok (.iconst 1, 1) := by decide +kernel
theorem dX4_readPlant_117 : decode cX4_readPlant 117 = .ok (.ireturn, 1) := by decide +kernel
theorem dX4_readLine_0 : decode cX4_readLine 0 = .ok (.aload_n 0, 1) := by decide +kernel
theorem dX4_readLine_1 : decode cX4_readLine 1 = .ok (.getfield 18, 3) := by decide +kernel
theorem dX4_readLine_4 : decode cX4_readLine 4 = .ok (.getfield 38, 3) := by decide +kernel
theorem dX4_readLine_7 : decode cX4_readLine 7 = .ok (.tableswitch 83 0 7 #[45, 68, 63, 83, 51, 57, 73, 78], 45) := by decide +kernel
theorem dX4_readLine_52 : decode cX4_readLine 52 = .ok (.aload_n 0, 1) := by decide +kernel
theorem dX4_readLine_53 : decode cX4_readLine 53 = .ok (.iconst 0, 1) := by decide +kernel
theorem dX4_readLine_54 : decode cX4_readLine 54 = .ok (.invokevirtual 50, 3) := by decide +kernel
theorem dX4_readLine_57 : decode cX4_readLine 57 = .ok (.ireturn, 1) := by decide +kernel
theorem dX4_readLine_58 : decode cX4_readLine 58 = .ok (.aload_n 0, 1) := by decide +kernel
theorem dX4_readLine_59 : decode cX4_readLine 59 = .ok (.iconst 2, 1) := by decide +kernel
theorem dX4_readLine_60 : decode cX4_readLine 60 = .ok (.invokevirtual 50, 3) := by decide +kernel
theorem dX4_readLine_63 : decode cX4_readLine 63 = .ok (.ireturn, 1) := by decide +kernel
theorem dX4_readLine_64 : decode cX4_readLine 64 = .ok (.aload_n 0, 1) := by decide +kernel
theorem dX4_readLine_65 : decode cX4_readLine 65 = .ok (.iconst 3, 1) := by decide +kernel
theorem dX4_readLine_66 : decode cX4_readLine 66 = .ok (.invokevirtual 50, 3) := by decide +kernel
theorem dX4_readLine_69 : decode cX4_readLine 69 = .ok (.ireturn, 1) := by decide +kernel
theorem dX4_readLine_70 : decode cX4_readLine 70 = .ok (.aload_n 0, 1) := by decide +kernel
theorem dX4_readLine_71 : decode cX4_readLine 71 = .ok (.invokevirtual 53, 3) := by decide +kernel
theorem dX4_readLine_74 : decode cX4_readLine 74 = .ok (.ireturn, 1) := by decide +kernel
theorem dX4_readLine_75 : decode cX4_readLine 75 = .ok (.aload_n 0, 1) := by decide +kernel
theorem dX4_readLine_76 : decode cX4_readLine 76 = .ok (.invokevirtual 56, 3) := by decide +kernel
theorem dX4_readLine_79 : decode cX4_readLine 79 = .ok (.ireturn, 1) := by decide +kernel
theorem dX4_readLine_80 : decode cX4_readLine 80 = .ok (.aload_n 0, 1) := by decide +kernel
theorem dX4_readLine_81 : decode cX4_readLine 81 = .ok (.invokevirtual 59, 3) := by decide +kernel
theorem dX4_readLine_84 : decode cX4_readLine 84 = .ok (.ireturn, 1) := by decide +kernel
theorem dX4_readLine_85 : decode cX4_readLine 85 = .ok (.aload_n 0, 1) := by decide +kernel
theorem dX4_readLine_86 : decode cX4_readLine 86 = .ok (.invokevirtual 62, 3) := by decide +kernel
theorem dX4_readLine_89 : decode cX4_readLine 89 = .ok (.ireturn, 1) := by decide +kernel
theorem dX4_readLine_90 : decode cX4_readLine 90 = .ok (.aload_n 0, 1) := by decide +kernel
theorem dX4_readLine_91 : decode cX4_readLine 91 = .ok (.getfield 18, 3) := by decide +kernel
theorem dX4_readLine_94 : decode cX4_readLine 94 = .ok (.iconst 1, 1) := by decide +kernel
theorem dX4_readLine_95 : decode cX4_readLine 95 = .ok (.invokevirtual 65, 3) := by decide +kernel
theorem dX4_readLine_98 : decode cX4_readLine 98 = .ok (.ireturn, 1) := by decide +kernel
theorem dX4_readAll_0 : decode cX4_readAll 0 = .ok (.aload_n 0, 1) := by decide +kernel
theorem dX4_readAll_1 : decode cX4_readAll 1 = .ok (.getfield 12, 3) := by decide +kernel
theorem dX4_readAll_4 : decode cX4_readAll 4 = .ok (.invokevirtual 22, 3) := by decide +kernel
theorem dX4_readAll_7 : decode cX4_readAll 7 = .ok (.aload_n 0, 1) := by decide +kernel
theorem dX4_readAll_8 : decode cX4_readAll 8 = .ok (.iconst 0, 1) := by decide +kernel
theorem dX4_readAll_9 : decode cX4_readAll 9 = .ok (.putfield 25, 3) := by decide +kernel
theorem dX4_readAll_12 : decode cX4_readAll 12 = .ok (.aload_n 0, 1) := by decide +kernel
theorem dX4_readAll_13 : decode cX4_readAll 13 = .ok (.iconst 0, 1) := by decide +kernel
theorem dX4_readAll_14 : decode cX4_readAll 14 = .ok (.putfield 29, 3) := by decide +kernel
theorem dX4_readAll_17 : decode cX4_readAll 17 = .ok (.aload_n 0, 1) := by decide +kernel
theorem dX4_readAll_18 : decode cX4_readAll 18 = .ok (.getfield 18, 3) := by decide +kernel
theorem dX4_readAll_21 : decode cX4_readAll 21 = .ok (.sipush 900, 3) := by decide +kernel
theorem dX4_readAll_24 : decode cX4_readAll 24 = .ok (.invokevirtual 32, 3) := by decide +kernel
theorem dX4_readAll_27 : decode cX4_readAll 27 = .ok (.iconst 0, 1) := by decide +kernel
theorem dX4_readAll_28 : decode cX4_readAll 28 = .ok (.istore_n 1, 1) := by decide +kernel
theorem dX4_readAll_29 : decode cX4_readAll 29 = .ok (.iload_n 1, 1) := by decide +kernel
theorem dX4_readAll_30 : decode cX4_readAll 30 = .ok (.sipush 900, 3) := by decide +kernel
theorem dX4_readAll_33 : decode cX4_readAll 33 = .ok (.if_icmp .ge 42, 3) := by decide +kernel
theorem dX4_readAll_36 : decode cX4_readAll 36 = .ok (.aload_n 0, 1) := by decide +kernel
theorem dX4_readAll_37 : decode cX4_readAll 37 = .ok (.getfield 18, 3) := by decide +kernel
theorem dX4_readAll_40 : decode cX4_readAll 40 = .ok (.getfield 38, 3) := by decide +kernel
theorem dX4_readAll_43 : decode cX4_readAll 43 = .ok (.bipush 102, 2) := by decide +kernel
theorem dX4_readAll_45 : decode cX4_readAll 45 = .ok (.if_icmp .eq 30, 3) := by decide +kernel
theorem dX4_readAll_48 : decode cX4_readAll 48 = .ok (.aload_n 0, 1) := by decide +kernel
theorem dX4_readAll_49 : decode cX4_readAll 49 = .ok (.invokevirtual 42, 3) := by decide +kernel
theorem dX4_readAll_52 : decode cX4_readAll 52 = .ok (.ifCond .eq 15, 3) := by decide +kernel
theorem dX4_readAll_55 : decode cX4_readAll 55 = .ok (.aload_n 0, 1) := by decide +kernel
theorem dX4_readAll_56 : decode cX4_readAll 56 = .ok (.getfield 18, 3) := by decide +kernel
theorem dX4_readAll_59 : decode cX4_readAll 59 = .ok (.bipush 59, 2) := by decide +kernel
theorem dX4_readAll_61 : decode cX4_readAll 61 = .ok (.invokevirtual 46, 3) := by decide +kernel
theorem dX4_readAll_64 : decode cX4_readAll 64 = .ok (.ifCond .ne 5, 3) := by decide +kernel
theorem dX4_readAll_67 : decode cX4_readAll 67 = .ok (.iconst (-1), 1) := by decide +kernel
theorem dX4_readAll_68 : decode cX4_readAll 68 = .ok (.ireturn, 1) := by decide +kernel
theorem dX4_readAll_69 : decode cX4_readAll 69 = .ok (.iinc 1 1, 3) := by decide +kernel
theorem dX4_readAll_72 : decode cX4_readAll 72 = .ok (.goto (-43), 3) := by decide +kernel
theorem dX4_readAll_75 : decode cX4_readAll 75 = .ok (.iload_n 1, 1) := by decide +kernel
theorem dX4_readAll_76 : decode cX4_readAll 76 = .ok (.ireturn, 1) := by decide +kernel
theorem dX11_house_0 : decode cX11_house 0 = .ok (.aload_n 0, 1) := by decide +kernel
theorem dX11_house_1 : decode cX11_house 1 = .ok (.getfield 54, 3) := by decide +kernel
theorem dX11_house_4 : decode cX11_house 4 = .ok (.invokevirtual 121, 3) := by decide +kernel
theorem dX11_house_7 : decode cX11_house 7 = .ok (.istore_n 1, 1) := by decide +kernel
theorem dX11_house_8 : decode cX11_house 8 = .ok (.aload_n 0, 1) := by decide +kernel
theorem dX11_house_9 : decode cX11_house 9 = .ok (.invokevirtual 125, 3) := by decide +kernel
theorem dX11_house_12 : decode cX11_house 12 = .ok (.iload_n 1, 1) := by decide +kernel
theorem dX11_house_13 : decode cX11_house 13 = .ok (.iconst (-1), 1) := by decide +kernel
theorem dX11_house_14 : decode cX11_house 14 = .ok (.if_icmp .ne 13, 3) := by decide +kernel
theorem dX11_house_17 : decode cX11_house 17 = .ok (.iconst (-1), 1) := by decide +kernel
theorem dX11_house_18 : decode cX11_house 18 = .ok (.aload_n 0, 1) := by decide +kernel
theorem dX11_house_19 : decode cX11_house 19 = .ok (.getfield 10, 3) := by decide +kernel
theorem dX11_house_22 : decode cX11_house 22 = .ok (.getfield 128, 3) := by decide +kernel
theorem dX11_house_25 : decode cX11_house 25 = .ok (.isub, 1) := by decide +kernel
theorem dX11_house_26 : decode cX11_house 26 = .ok (.ireturn, 1) := by decide +kernel
theorem dX11_house_27 : decode cX11_house 27 = .ok (.aload_n 0, 1) := by decide +kernel
theorem dX11_house_28 : decode cX11_house 28 = .ok (.getfield 19, 3) := by decide +kernel
theorem dX11_house_31 : decode cX11_house 31 = .ok (.aload_n 0, 1) := by decide +kernel
theorem dX11_house_32 : decode cX11_house 32 = .ok (.getfield 54, 3) := by decide +kernel
theorem dX11_house_35 : decode cX11_house 35 = .ok (.getfield 131, 3) := by decide +kernel
theorem dX11_house_38 : decode cX11_house 38 = .ok (.invokevirtual 134, 3) := by decide +kernel
theorem dX11_house_41 : decode cX11_house 41 = .ok (.aload_n 0, 1) := by decide +kernel
theorem dX11_house_42 : decode cX11_house 42 = .ok (.getfield 28, 3) := by decide +kernel
theorem dX11_house_45 : decode cX11_house 45 = .ok (.invokevirtual 137, 3) := by decide +kernel
theorem dX11_house_48 : decode cX11_house 48 = .ok (.aload_n 0, 1) := by decide +kernel
theorem dX11_house_49 : decode cX11_house 49 = .ok (.getfield 38, 3) := by decide +kernel
theorem dX11_house_52 : decode cX11_house 52 = .ok (.invokevirtual 140, 3) := by decide +kernel
theorem dX11_house_55 : decode cX11_house 55 = .ok (.aload_n 0, 1) := by decide +kernel
theorem dX11_house_56 : decode cX11_house 56 = .ok (.getfield 70, 3) := by decide +kernel
theorem dX11_house_59 : decode cX11_house 59 = .ok (.invokevirtual 143, 3) := by decide +kernel
theorem dX11_house_62 : decode cX11_house 62 = .ok (.iload_n 1, 1) := by decide +kernel
theorem dX11_house_63 : decode cX11_house 63 = .ok (.ireturn, 1) := by decide +kernel
-- X3_isFull
abbrev rmX3_isFull : Room := { frames := 0, cells := 0, slots := 0, locals := 0 }
def fX3_isFull (S : zSt) (a0 : Nat) (v1 : Int32) : Option Int32 :=
  zGd (zIx v1 4) (zGd (zIx v1 4) (zBr ((S.1 (a0 + 1) v1.toNatClampNeg) < (zMo v1.toNatClampNeg)) (some (0 : Int32)) (some (1 : Int32))))
set_option maxHeartbeats 4000000 in
set_option maxRecDepth 100000 in
theorem mX3_isFull {l : Launch} {D : va_G} {cy : Nat → ClassId} {q : Nat → Nat} {S : zSt} {a0 : Nat} {v1 : Int32} (ha0 : zHouse a0) {z : Int32} (h : fX3_isFull S a0 v1 = some z) : zMi l yX3_isFull cX3_isFull 2 (some .boolean) rmX3_isFull [.ref (q a0), .int v1] (zPs zsh zNC D cy q (fun _ => False) S) z := by
  refine Met.ofW (cc := cX3_isFull) (maxL := 2) (ret := (some .boolean)) (by decide) rfl ?_
  intro p e s m args below meth c s₁ B hml hv
  obtain ⟨rfl, ⟨hP, hK⟩, hM⟩ := hv
  have cx : zX RX3 cX3_isFull 2 p s m ([.ref (q a0), .int v1]).toArray c D cy := ⟨B.exec, B.bytes, hml, findClass_of_methodNamed B.named, fun w hw => atoms_spec (ws := Cond.code yX3_isFull cX3_isFull 2 (some .boolean) :: zTB) B.pre w (List.mem_cons_of_mem _ hw), hK⟩
  have hx := cx.1
  have hb := cx.2.1
  have hr := B.returns
  have hlk := B.notSynchronized
  have hl := lv_entry ([.ref (q a0), .int v1]) (n := 2) (Nat.le_of_ble_eq_true rfl)
  rw [lg_entry_eq]
  generalize (lg_sl ([.ref (q a0), .int v1]) ++ List.replicate (2 - (lg_sl ([.ref (q a0), .int v1])).length) Slot.unset).toArray = ls at hl ⊢
  have hl : lv_has ls 2 [(0, .ref (q a0)), (1, .int v1)] := hl
  unfold fX3_isFull at h
  refine lv_aload_n (pc := 0) hx hb dX3_isFull_0 rfl (lv_at hl 0 rfl) ?_
  refine zr_getR (pc := 1) (t := (a0 + 1)) cx lk_X3_9 hP (nX3_0 ha0) (sX3_0 ha0) rfl dX3_isFull_1 ?_
  refine lv_iload_n (pc := 4) hx hb dX3_isFull_4 rfl (lv_at hl 1 rfl) ?_
  obtain ⟨g1, h⟩ := zGd_e h
  refine zr_iald (pc := 5) cx hP (nX3_1 ha0) (sX3_1 ha0) g1 dX3_isFull_5 ?_
  obtain ⟨t9, hZ9, hT9⟩ := hM
  refine va_getsN (pc := 6) (A := fun _ => False) hx hb hZ9 va_S.rf cx.2.2.2.1 (va_Nw.use rfl (cx.2.2.2.2.2.2 _ (List.mem_of_getElem? (i := 8) rfl))) (fun _ h => h) dX3_isFull_6 ?_
  refine lv_iload_n (pc := 9) hx hb dX3_isFull_9 rfl (lv_at hl 1 rfl) ?_
  obtain ⟨g2, h⟩ := zGd_e h
  refine va_ti (pc := 10) (A := fun _ => False) hx hb hT9 va_S.rf (zIx_in g2) rfl dX3_isFull_10 ?_
  refine lv_icmp_lt (pc := 11) (tgt := 18) hx hb dX3_isFull_11 (by decide) (fun c3 => ?_) (fun c3 => ?_)
  · replace h := zBr_t c3 h
    refine lv_iconst (pc := 18) hx hb dX3_isFull_18 zc_0 ?_
    have hz := Option.some.inj h
    exact zr_reZ (pc := 19) cx hr hlk hz (by decide) dX3_isFull_19
  · replace h := zBr_f c3 h
    refine lv_iconst (pc := 14) hx hb dX3_isFull_14 zc_1 ?_
    refine lv_goto (pc := 15) (tgt := 19) hx hb dX3_isFull_15 (by decide) ?_
    have hz := Option.some.inj h
    exact zr_reZ (pc := 19) cx hr hlk hz (by decide) dX3_isFull_19
-- X4_readNamed
abbrev rmX4_readNamed : Room := { frames := 2, cells := 0, slots := 0, locals := 46 }
def fX4_readNamed (S : zSt) (v1 : Int32) : Option (Int32 × zSt) :=
  zBd (fX3_isFull S 230 v1) (fun r2 => zBr (r2 = 0) (zBd (fX9_read S) (fun S5 => zBr ((S5.1 1 5) = (100 : Int32)) (zBd (fX3_placeOfWord S5 230 (S5.2 1 7)) (fun r8 => zBr (r8 = (-1 : Int32)) (zBd (fX3_addName S5 230 (S5.2 1 7) v1) (fun S11 => zBd (fX9_read S11) (fun S13 => some ((1 : Int32), S13)))) (zBp (fX9_fail S5 (3 : Int32)) (fun r16 S15 => zGd (zBo r16) (some (r16, S15)))))) (zBp (fX9_fail S5 (1 : Int32)) (fun r20 S19 => zGd (zBo r20) (some (r20, S19)))))) (zBp (fX9_fail S (4 : Int32)) (fun r24 S23 => zGd (zBo r24) (some (r24, S23)))))
set_option maxHeartbeats 4000000 in
set_option maxRecDepth 100000 in
theorem mX4_readNamed {l : Launch} {D : va_G} {cy : Nat → ClassId} {q : Nat → Nat} {A : Nat → Prop} {S : zSt} {v1 : Int32} (hq : zQ A q zNC) {z : (Int32 × zSt)} (h : fX4_readNamed S v1 = some z) : zMqS l yX4_readNamed cX4_readNamed 2 (some .boolean) rmX4_readNamed [.ref (q 229), .int v1] zsh zNC D cy q A S z := by
  refine Met.ofW (cc := cX4_readNamed) (maxL := 2) (ret := (some .boolean)) (by decide) rfl ?_
  intro p e s m args below meth c s₁ B hml hv
  obtain ⟨rfl, ⟨hP, hK⟩, hM⟩ := hv
  have cx : zX RX4 cX4_readNamed 2 p s m ([.ref (q 229), .int v1]).toArray c D cy := ⟨B.exec, B.bytes, hml, findClass_of_methodNamed B.named, fun w hw => atoms_spec (ws := Cond.code yX4_readNamed cX4_readNamed 2 (some .boolean) :: zTB) B.pre w (List.mem_cons_of_mem _ hw), hK⟩
  have hx := cx.1
  have hb := cx.2.1
  have hr := B.returns
  have hlk := B.notSynchronized
  have hS : va_S A s.heap s.heap [] := va_S.rf
  have hl := lv_entry ([.ref (q 229), .int v1]) (n := 2) (Nat.le_of_ble_eq_true rfl)
  rw [lg_entry_eq]
  generalize (lg_sl ([.ref (q 229), .int v1]) ++ List.replicate (2 - (lg_sl ([.ref (q 229), .int v1])).length) Slot.unset).toArray = ls at hl ⊢
  have hl : lv_has ls 2 [(0, .ref (q 229)), (1, .int v1)] := hl
  unfold fX4_readNamed at h
  refine lv_aload_n (pc := 0) hx hb dX4_readNamed_0 rfl (lv_at hl 0 rfl) ?_
  refine zr_getR (pc := 1) (t := 230) cx lk_X4_12 hP nC_229 sC_229 rfl dX4_readNamed_1 ?_
  refine lv_iload_n (pc := 4) hx hb dX4_readNamed_4 rfl (lv_at hl 1 rfl) ?_
  obtain ⟨r2, k1, h⟩ := zBd_e h
  refine zr_VIg (pc := 5) (rest := []) cx cv_X4_68 (mX3_isFull zHouse_230 k1) ⟨⟨rfl, rfl⟩, Nat.le_of_ble_eq_true rfl, Nat.le_of_ble_eq_true rfl⟩ ⟨Nat.le_of_ble_eq_true rfl, Nat.le_of_ble_eq_true rfl⟩ (zr_preVF cx hM hS hP (nX3_0 zHouse_230) (sX3_0 zHouse_230) rfl) hl.1 rfl rfl (Nat.le_of_ble_eq_true rfl) dX4_readNamed_5 ?_
  refine lv_if_eq (pc := 8) (tgt := 20) hx hb dX4_readNamed_8 (by decide) (fun c3 => ?_) (fun c3 => ?_)
  · replace h := zBr_t c3 h
    refine lv_aload_n (pc := 20) hx hb dX4_readNamed_20 rfl (lv_at hl 0 rfl) ?_
    refine zr_getR (pc := 21) (t := 1) cx lk_X4_18 hP nC_229 sC_229 rfl dX4_readNamed_21 ?_
    obtain ⟨S5, k4, h⟩ := zBd_e h
    refine zr_VV (pc := 24) (rest := []) cx cv_X4_71 (mX9_read hq k4) ⟨⟨rfl, rfl⟩, Nat.le_of_ble_eq_true rfl, Nat.le_of_ble_eq_true rfl⟩ ⟨Nat.le_of_ble_eq_true rfl, Nat.le_of_ble_eq_true rfl⟩ hP hS nC_1 sC_1 rfl hl.1 rfl rfl (Nat.le_of_ble_eq_true rfl) dX4_readNamed_24 (fun H locs hP hS => ?_)
    refine lv_aload_n (pc := 27) hx hb dX4_readNamed_27 rfl (lv_at hl 0 rfl) ?_
    refine zr_getR (pc := 28) (t := 1) cx lk_X4_18 hP nC_229 sC_229 rfl dX4_readNamed_28 ?_
    refine zr_getI (pc := 31) cx lk_X4_38 hP nC_1 sC_1 rfl dX4_readNamed_31 ?_
    refine lv_bipush (pc := 34) hx hb dX4_readNamed_34 zb_100 ?_
    refine lv_icmp_eq (pc := 36) (tgt := 48) hx hb dX4_readNamed_36 (by decide) (fun c6 => ?_) (fun c6 => ?_)
    · replace h := zBr_t c6 h
      refine lv_aload_n (pc := 48) hx hb dX4_readNamed_48 rfl (lv_at hl 0 rfl) ?_
      refine zr_getR (pc := 49) (t := 230) cx lk_X4_12 hP nC_229 sC_229 rfl dX4_readNamed_49 ?_
      refine lv_aload_n (pc := 52) hx hb dX4_readNamed_52 rfl (lv_at hl 0 rfl) ?_
      refine zr_getR (pc := 53) (t := 1) cx lk_X4_18 hP nC_229 sC_229 rfl dX4_readNamed_53 ?_
      refine zr_getJ (pc := 56) cx lk_X4_74 hP nC_1 sC_1 rfl dX4_readNamed_56 ?_
      obtain ⟨r8, k7, h⟩ := zBd_e h
      refine zr_VI (pc := 59) (rest := []) cx cv_X4_78 (mX3_placeOfWord zHouse_230 k7) ⟨⟨rfl, rfl⟩, Nat.le_of_ble_eq_true rfl, Nat.le_of_ble_eq_true rfl⟩ ⟨Nat.le_of_ble_eq_true rfl, Nat.le_of_ble_eq_true rfl⟩ hP (nX3_0 zHouse_230) (sX3_0 zHouse_230) rfl hl.1 rfl rfl (Nat.le_of_ble_eq_true rfl) dX4_readNamed_59 ?_
      refine lv_iconst (pc := 62) hx hb dX4_readNamed_62 zc_m1 ?_
      refine lv_icmp_eq (pc := 63) (tgt := 75) hx hb dX4_readNamed_63 (by decide) (fun c9 => ?_) (fun c9 => ?_)
      · replace h := zBr_t c9 h
        refine lv_aload_n (pc := 75) hx hb dX4_readNamed_75 rfl (lv_at hl 0 rfl) ?_
        refine zr_getR (pc := 76) (t := 230) cx lk_X4_12 hP nC_229 sC_229 rfl dX4_readNamed_76 ?_
        refine lv_aload_n (pc := 79) hx hb dX4_readNamed_79 rfl (lv_at hl 0 rfl) ?_
        refine zr_getR (pc := 80) (t := 1) cx lk_X4_18 hP nC_229 sC_229 rfl dX4_readNamed_80 ?_
        refine zr_getJ (pc := 83) cx lk_X4_74 hP nC_1 sC_1 rfl dX4_readNamed_83 ?_
        refine lv_iload_n (pc := 86) hx hb dX4_readNamed_86 rfl (lv_at hl 1 rfl) ?_
        obtain ⟨S11, k10, h⟩ := zBd_e h
        refine zr_VV (pc := 87) (rest := []) cx cv_X4_82 (mX3_addName hq zHouse_230 k10) ⟨⟨rfl, rfl⟩, Nat.le_of_ble_eq_true rfl, Nat.le_of_ble_eq_true rfl⟩ ⟨Nat.le_of_ble_eq_true rfl, Nat.le_of_ble_eq_true rfl⟩ hP hS (nX3_0 zHouse_230) (sX3_0 zHouse_230) rfl hl.1 rfl rfl (Nat.le_of_ble_eq_true rfl) dX4_readNamed_87 (fun H locs hP hS => ?_)
        refine lv_aload_n (pc := 90) hx hb dX4_readNamed_90 rfl (lv_at hl 0 rfl) ?_
        refine zr_getR (pc := 91) (t := 1) cx lk_X4_18 hP nC_229 sC_229 rfl dX4_readNamed_91 ?_
        obtain ⟨S13, k12, h⟩ := zBd_e h
        refine zr_VV (pc := 94) (rest := []) cx cv_X4_71 (mX9_read hq k12) ⟨⟨rfl, rfl⟩, Nat.le_of_ble_eq_true rfl, Nat.le_of_ble_eq_true rfl⟩ ⟨Nat.le_of_ble_eq_true rfl, Nat.le_of_ble_eq_true rfl⟩ hP hS nC_1 sC_1 rfl hl.1 rfl rfl (Nat.le_of_ble_eq_true rfl) dX4_readNamed_94 (fun H locs hP hS => ?_)
        refine lv_iconst (pc := 97) hx hb dX4_readNamed_97 zc_1 ?_
        have hz := Option.some.inj h
        exact zr_rqZ (pc := 98) cx hr hlk hP hS hz (by decide) dX4_readNamed_98
      · replace h := zBr_f c9 h
        refine lv_aload_n (pc := 66) hx hb dX4_readNamed_66 rfl (lv_at hl 0 rfl) ?_
        refine zr_getR (pc := 67) (t := 1) cx lk_X4_18 hP nC_229 sC_229 rfl dX4_readNamed_67 ?_
        refine lv_iconst (pc := 70) hx hb dX4_readNamed_70 zc_3 ?_
        obtain ⟨r16, S15, k14, h⟩ := zBp_e h
        refine zr_VQ (pc := 71) (rest := []) cx cv_X4_65 (mX9_fail hq k14) ⟨⟨rfl, rfl⟩, Nat.le_of_ble_eq_true rfl, Nat.le_of_ble_eq_true rfl⟩ ⟨Nat.le_of_ble_eq_true rfl, Nat.le_of_ble_eq_true rfl⟩ hP hS nC_1 sC_1 rfl hl.1 rfl rfl (Nat.le_of_ble_eq_true rfl) dX4_readNamed_71 (fun H locs hP hS => ?_)
        obtain ⟨g17, h⟩ := zGd_e h
        have hz := Option.some.inj h
        exact zr_rqZ (pc := 74) cx hr hlk hP hS hz g17 dX4_readNamed_74
    · replace h := zBr_f c6 h
      refine lv_aload_n (pc := 39) hx hb dX4_readNamed_39 rfl (lv_at hl 0 rfl) ?_
      refine zr_getR (pc := 40) (t := 1) cx lk_X4_18 hP nC_229 sC_229 rfl dX4_readNamed_40 ?_
      refine lv_iconst (pc := 43) hx hb dX4_readNamed_43 zc_1 ?_
      obtain ⟨r20, S19, k18, h⟩ := zBp_e h
      refine zr_VQ (pc := 44) (rest := []) cx cv_X4_65 (mX9_fail hq k18) ⟨⟨rfl, rfl⟩, Nat.le_of_ble_eq_true rfl, Nat.le_of_ble_eq_true rfl⟩ ⟨Nat.le_of_ble_eq_true rfl, Nat.le_of_ble_eq_true rfl⟩ hP hS nC_1 sC_1 rfl hl.1 rfl rfl (Nat.le_of_ble_eq_true rfl) dX4_readNamed_44 (fun H locs hP hS => ?_)
      obtain ⟨g21, h⟩ := zGd_e h
      have hz := Option.some.inj h
      exact zr_rqZ (pc := 47) cx hr hlk hP hS hz g21 dX4_readNamed_47
  · replace h := zBr_f c3 h
    refine lv_aload_n (pc := 11) hx hb dX4_readNamed_11 rfl (lv_at hl 0 rfl) ?_
    refine zr_getR (pc := 12) (t := 1) cx lk_X4_18 hP nC_229 sC_229 rfl dX4_readNamed_12 ?_
    refine lv_iconst (pc := 15) hx hb dX4_readNamed_15 zc_4 ?_
    obtain ⟨r24, S23, k22, h⟩ := zBp_e h
    refine zr_VQ (pc := 16) (rest := []) cx cv_X4_65 (mX9_fail hq k22) ⟨⟨rfl, rfl⟩, Nat.le_of_ble_eq_true rfl, Nat.le_of_ble_eq_true rfl⟩ ⟨Nat.le_of_ble_eq_true rfl, Nat.le_of_ble_eq_true rfl⟩ hP hS nC_1 sC_1 rfl hl.1 rfl rfl (Nat.le_of_ble_eq_true rfl) dX4_readNamed_16 (fun H locs hP hS => ?_)
    obtain ⟨g25, h⟩ := zGd_e h
    have hz := Option.some.inj h
    exact zr_rqZ (pc := 19) cx hr hlk hP hS hz g25 dX4_readNamed_19
-- X4_readPlant
abbrev rmX4_readPlant : Room := { frames := 3, cells := 0, slots := 0, locals := 69 }
def fX4_readPlant (S : zSt) : Option (Int32 × zSt) :=
  zGd (zIx (1 : Int32) 4) (zLt (S.1 (230 + 1) (1 : Int32).toNatClampNeg) (fun x2 => zBp (fX4_readNamed S (1 : Int32)) (fun r5 S4 => zBr (r5 = 0) (some ((0 : Int32), S4)) (zBp (fX9_takeKnown S4 230 (0 : Int32)) (fun r9 S8 => zBr (r9 = (-1 : Int32)) (some ((0 : Int32), S8)) (zBp (fX9_takeNumber S8 (1 : Int32) (9 : Int32)) (fun r13 S12 => zBr (r13 = (-1 : Int32)) (some ((0 : Int32), S12)) (zGd (zIx x2 6) (zLt (zI S12 (230 + 3) x2.toNatClampNeg r9) (fun S16 => zGd (zIx x2 6) (zLt (zI S16 (230 + 4) x2.toNatClampNeg r13) (fun S18 => zGd (zIx x2 6) (zLt (zI S18 (230 + 5) x2.toNatClampNeg (0 : Int32)) (fun S20 => zBr ((S20.1 1 5) = (3 : Int32)) (zGd (zIx x2 6) (zLt (zI S20 (230 + 5) x2.toNatClampNeg (1 : Int32)) (fun S23 => zBd (fX9_read S23) (fun S25 => some ((1 : Int32), S25))))) (some ((1 : Int32), S20))))))))))))))))
set_option maxHeartbeats 4000000 in
set_option maxRecDepth 100000 in
theorem mX4_readPlant {l : Launch} {D : va_G} {cy : Nat → ClassId} {q : Nat → Nat} {A : Nat → Prop} {S : zSt} (hq : zQ A q zNC) {z : (Int32 × zSt)} (h : fX4_readPlant S = some z) : zMqS l yX4_readPlant cX4_readPlant 4 (some .boolean) rmX4_readPlant [.ref (q 229)] zsh zNC D cy q A S z := by
  refine Met.ofW (cc := cX4_readPlant) (maxL := 4) (ret := (some .boolean)) (by decide) rfl ?_
  intro p e s m args below meth c s₁ B hml hv
  obtain ⟨rfl, ⟨hP, hK⟩, hM⟩ := hv
  have cx : zX RX4 cX4_readPlant 4 p s m ([.ref (q 229)]).toArray c D cy := ⟨B.exec, B.bytes, hml, findClass_of_methodNamed B.named, fun w hw => atoms_spec (ws := Cond.code yX4_readPlant cX4_readPlant 4 (some .boolean) :: zTB) B.pre w (List.mem_cons_of_mem _ hw), hK⟩
  have hx := cx.1
  have hb := cx.2.1
  have hr := B.returns
  have hlk := B.notSynchronized
  have hS : va_S A s.heap s.heap [] := va_S.rf
  have hl := lv_entry ([.ref (q 229)]) (n := 4) (Nat.le_of_ble_eq_true rfl)
  rw [lg_entry_eq]
  generalize (lg_sl ([.ref (q 229)]) ++ List.replicate (4 - (lg_sl ([.ref (q 229)])).length) Slot.unset).toArray = ls at hl ⊢
  have hl : lv_has ls 4 [(0, .ref (q 229))] := hl
  unfold fX4_readPlant at h
  refine lv_aload_n (pc := 0) hx hb dX4_readPlant_0 rfl (lv_at hl 0 rfl) ?_
  refine zr_getR (pc := 1) (t := 230) cx lk_X4_12 hP nC_229 sC_229 rfl dX4_readPlant_1 ?_
  refine zr_getR (pc := 4) (t := (230 + 1)) cx lk_X4_86 hP (nX3_0 zHouse_230) (sX3_0 zHouse_230) rfl dX4_readPlant_4 ?_
  refine lv_iconst (pc := 7) hx hb dX4_readPlant_7 zc_1 ?_
  obtain ⟨g1, h⟩ := zGd_e h
  refine zr_iald (pc := 8) cx hP (nX3_1 zHouse_230) (sX3_1 zHouse_230) g1 dX4_readPlant_8 ?_
  obtain ⟨x2, ex2, h⟩ := zLt_e h
  refine zr_nmI ex2 ?_
  refine lv_istore_n (lv' := [(1, .int x2), (0, .ref (q 229))]) (pc := 9) hx hb dX4_readPlant_9 rfl hl (by decide) rfl (fun ls hl => ?_)
  refine lv_aload_n (pc := 10) hx hb dX4_readPlant_10 rfl (lv_at hl 1 rfl) ?_
  refine lv_iconst (pc := 11) hx hb dX4_readPlant_11 zc_1 ?_
  obtain ⟨r5, S4, k3, h⟩ := zBp_e h
  refine zr_VQS (pc := 12) (rest := []) cx cv_X4_50 (mX4_readNamed hq k3) ⟨⟨rfl, rfl⟩, Nat.le_of_ble_eq_true rfl, Nat.le_of_ble_eq_true rfl⟩ ⟨Nat.le_of_ble_eq_true rfl, Nat.le_of_ble_eq_true rfl⟩ (zr_preVS cx hM hS hP nC_229 sC_229 rfl) hS hl.1 rfl rfl (Nat.le_of_ble_eq_true rfl) dX4_readPlant_12 (fun H locs hP hS => ?_)
  refine lv_if_ne (pc := 15) (tgt := 20) hx hb dX4_readPlant_15 (by decide) (fun c6 => ?_) (fun c6 => ?_)
  · replace h := zBr_f c6 h
    refine lv_aload_n (pc := 20) hx hb dX4_readPlant_20 rfl (lv_at hl 1 rfl) ?_
    refine zr_getR (pc := 21) (t := 1) cx lk_X4_18 hP nC_229 sC_229 rfl dX4_readPlant_21 ?_
    refine lv_aload_n (pc := 24) hx hb dX4_readPlant_24 rfl (lv_at hl 1 rfl) ?_
    refine zr_getR (pc := 25) (t := 230) cx lk_X4_12 hP nC_229 sC_229 rfl dX4_readPlant_25 ?_
    refine lv_iconst (pc := 28) hx hb dX4_readPlant_28 zc_0 ?_
    obtain ⟨r9, S8, k7, h⟩ := zBp_e h
    refine zr_VQ (pc := 29) (rest := []) cx cv_X4_90 (mX9_takeKnown hq zHouse_230 k7) ⟨⟨rfl, rfl⟩, Nat.le_of_ble_eq_true rfl, Nat.le_of_ble_eq_true rfl⟩ ⟨Nat.le_of_ble_eq_true rfl, Nat.le_of_ble_eq_true rfl⟩ hP hS nC_1 sC_1 rfl hl.1 rfl rfl (Nat.le_of_ble_eq_true rfl) dX4_readPlant_29 (fun H locs hP hS => ?_)
    refine lv_istore_n (lv' := [(2, .int r9), (1, .int x2), (0, .ref (q 229))]) (pc := 32) hx hb dX4_readPlant_32 rfl hl (by decide) rfl (fun ls hl => ?_)
    refine lv_iload_n (pc := 33) hx hb dX4_readPlant_33 rfl (lv_at hl 0 rfl) ?_
    refine lv_iconst (pc := 34) hx hb dX4_readPlant_34 zc_m1 ?_
    refine lv_icmp_ne (pc := 35) (tgt := 40) hx hb dX4_readPlant_35 (by decide) (fun c10 => ?_) (fun c10 => ?_)
    · replace h := zBr_f c10 h
      refine lv_aload_n (pc := 40) hx hb dX4_readPlant_40 rfl (lv_at hl 2 rfl) ?_
      refine zr_getR (pc := 41) (t := 1) cx lk_X4_18 hP nC_229 sC_229 rfl dX4_readPlant_41 ?_
      refine lv_iconst (pc := 44) hx hb dX4_readPlant_44 zc_1 ?_
      refine lv_bipush (pc := 45) hx hb dX4_readPlant_45 zb_9 ?_
      obtain ⟨r13, S12, k11, h⟩ := zBp_e h
      refine zr_VQ (pc := 47) (rest := []) cx cv_X4_94 (mX9_takeNumber hq k11) ⟨⟨rfl, rfl⟩, Nat.le_of_ble_eq_true rfl, Nat.le_of_ble_eq_true rfl⟩ ⟨Nat.le_of_ble_eq_true rfl, Nat.le_of_ble_eq_true rfl⟩ hP hS nC_1 sC_1 rfl hl.1 rfl rfl (Nat.le_of_ble_eq_true rfl) dX4_readPlant_47 (fun H locs hP hS => ?_)
      refine lv_istore_n (lv' := [(3, .int r13), (2, .int r9), (1, .int x2), (0, .ref (q 229))]) (pc := 50) hx hb dX4_readPlant_50 rfl hl (by decide) rfl (fun ls hl => ?_)
      refine lv_iload_n (pc := 51) hx hb dX4_readPlant_51 rfl (lv_at hl 0 rfl) ?_
      refine lv_iconst (pc := 52) hx hb dX4_readPlant_52 zc_m1 ?_
      refine lv_icmp_ne (pc := 53) (tgt := 58) hx hb dX4_readPlant_53 (by decide) (fun c14 => ?_) (fun c14 => ?_)
      · replace h := zBr_f c14 h
        refine lv_aload_n (pc := 58) hx hb dX4_readPlant_58 rfl (lv_at hl 3 rfl) ?_
        refine zr_getR (pc := 59) (t := 230) cx lk_X4_12 hP nC_229 sC_229 rfl dX4_readPlant_59 ?_
        refine zr_getR (pc := 62) (t := (230 + 3)) cx lk_X4_98 hP (nX3_0 zHouse_230) (sX3_0 zHouse_230) rfl dX4_readPlant_62 ?_
        refine lv_iload_n (pc := 65) hx hb dX4_readPlant_65 rfl (lv_at hl 2 rfl) ?_
        refine lv_iload_n (pc := 66) hx hb dX4_readPlant_66 rfl (lv_at hl 1 rfl) ?_
        obtain ⟨g15, h⟩ := zGd_e h
        obtain ⟨S16, eS16, h⟩ := zLt_e h
        refine zr_iast (pc := 67) cx hq hP hS (nX3_3 zHouse_230) (sX3_3 zHouse_230) g15 dX4_readPlant_67 (fun H locs hP hS => ?_)
        rw [← eS16] at hP
        refine lv_aload_n (pc := 68) hx hb dX4_readPlant_68 rfl (lv_at hl 3 rfl) ?_
        refine zr_getR (pc := 69) (t := 230) cx lk_X4_12 hP nC_229 sC_229 rfl dX4_readPlant_69 ?_
        refine zr_getR (pc := 72) (t := (230 + 4)) cx lk_X4_101 hP (nX3_0 zHouse_230) (sX3_0 zHouse_230) rfl dX4_readPlant_72 ?_
        refine lv_iload_n (pc := 75) hx hb dX4_readPlant_75 rfl (lv_at hl 2 rfl) ?_
        refine lv_iload_n (pc := 76) hx hb dX4_readPlant_76 rfl (lv_at hl 0 rfl) ?_
        obtain ⟨g17, h⟩ := zGd_e h
        obtain ⟨S18, eS18, h⟩ := zLt_e h
        refine zr_iast (pc := 77) cx hq hP hS (nX3_4 zHouse_230) (sX3_4 zHouse_230) g17 dX4_readPlant_77 (fun H locs hP hS => ?_)
        rw [← eS18] at hP
        refine lv_aload_n (pc := 78) hx hb dX4_readPlant_78 rfl (lv_at hl 3 rfl) ?_
        refine zr_getR (pc := 79) (t := 230) cx lk_X4_12 hP nC_229 sC_229 rfl dX4_readPlant_79 ?_
        refine zr_getR (pc := 82) (t := (230 + 5)) cx lk_X4_104 hP (nX3_0 zHouse_230) (sX3_0 zHouse_230) rfl dX4_readPlant_82 ?_
        refine lv_iload_n (pc := 85) hx hb dX4_readPlant_85 rfl (lv_at hl 2 rfl) ?_
        refine lv_iconst (pc := 86) hx hb dX4_readPlant_86 zc_0 ?_
        obtain ⟨g19, h⟩ := zGd_e h
        obtain ⟨S20, eS20, h⟩ := zLt_e h
        refine zr_iast (pc := 87) cx hq hP hS (nX3_5 zHouse_230) (sX3_5 zHouse_230) g19 dX4_readPlant_87 (fun H locs hP hS => ?_)
        rw [← eS20] at hP
        refine lv_aload_n (pc := 88) hx hb dX4_readPlant_88 rfl (lv_at hl 3 rfl) ?_
        refine zr_getR (pc := 89) (t := 1) cx lk_X4_18 hP nC_229 sC_229 rfl dX4_readPlant_89 ?_
        refine zr_getI (pc := 92) cx lk_X4_38 hP nC_1 sC_1 rfl dX4_readPlant_92 ?_
        refine lv_iconst (pc := 95) hx hb dX4_readPlant_95 zc_3 ?_
        refine lv_icmp_ne (pc := 96) (tgt := 116) hx hb dX4_readPlant_96 (by decide) (fun c21 => ?_) (fun c21 => ?_)
        · replace h := zBr_f c21 h
          refine lv_iconst (pc := 116) hx hb dX4_readPlant_116 zc_1 ?_
          have hz := Option.some.inj h
          exact zr_rqZ (pc := 117) cx hr hlk hP hS hz (by decide) dX4_readPlant_117
        · replace h := zBr_t c21 h
          refine lv_aload_n (pc := 99) hx hb dX4_readPlant_99 rfl (lv_at hl 3 rfl) ?_
          refine zr_getR (pc := 100) (t := 230) cx lk_X4_12 hP nC_229 sC_229 rfl dX4_readPlant_100 ?_
          refine zr_getR (pc := 103) (t := (230 + 5)) cx lk_X4_104 hP (nX3_0 zHouse_230) (sX3_0 zHouse_230) rfl dX4_readPlant_103 ?_
          refine lv_iload_n (pc := 106) hx hb dX4_readPlant_106 rfl (lv_at hl 2 rfl) ?_
          refine lv_iconst (pc := 107) hx hb dX4_readPlant_107 zc_1 ?_
          obtain ⟨g22, h⟩ := zGd_e h
          obtain ⟨S23, eS23, h⟩ := zLt_e h
          refine zr_iast (pc := 108) cx hq hP hS (nX3_5 zHouse_230) (sX3_5 zHouse_230) g22 dX4_readPlant_108 (fun H locs hP hS => ?_)
          rw [← eS23] at hP
          refine lv_aload_n (pc := 109) hx hb dX4_readPlant_109 rfl (lv_at hl 3 rfl) ?_
          refine zr_getR (pc := 110) (t := 1) cx lk_X4_18 hP nC_229 sC_229 rfl dX4_readPlant_110 ?_
          obtain ⟨S25, k24, h⟩ := zBd_e h
          refine zr_VV (pc := 113) (rest := []) cx cv_X4_71 (mX9_read hq k24) ⟨⟨rfl, rfl⟩, Nat.le_of_ble_eq_true rfl, Nat.le_of_ble_eq_true rfl⟩ ⟨Nat.le_of_ble_eq_true rfl, Nat.le_of_ble_eq_true rfl⟩ hP hS nC_1 sC_1 rfl hl.1 rfl rfl (Nat.le_of_ble_eq_true rfl) dX4_readPlant_113 (fun H locs hP hS => ?_)
          refine lv_iconst (pc := 116) hx hb dX4_readPlant_116 zc_1 ?_
          have hz := Option.some.inj h
          exact zr_rqZ (pc := 117) cx hr hlk hP hS hz (by decide) dX4_readPlant_117
      · replace h := zBr_t c14 h
        refine lv_iconst (pc := 56) hx hb dX4_readPlant_56 zc_0 ?_
        have hz := Option.some.inj h
        exact zr_rqZ (pc := 57) cx hr hlk hP hS hz (by decide) dX4_readPlant_57
    · replace h := zBr_t c10 h
      refine lv_iconst (pc := 38) hx hb dX4_readPlant_38 zc_0 ?_
      have hz := Option.some.inj h
      exact zr_rqZ (pc := 39) cx hr hlk hP hS hz (by decide) dX4_readPlant_39
  · replace h := zBr_t c6 h
    refine lv_iconst (pc := 18) hx hb dX4_readPlant_18 zc_0 ?_
    have hz := Option.some.inj h
    exact zr_rqZ (pc := 19) cx hr hlk hP hS hz (by decide) dX4_readPlant_19
-- X4_readLine
abbrev rmX4_readLine : Room := { frames := 4, cells := 0, slots := 0, locals := 92 }
def fX4_readLine (S : zSt) : Option (Int32 × zSt) :=
  zBr ((S.1 1 5) = 0) (zBp (fX4_readNamed S (0 : Int32)) (fun r10 S9 => zGd (zBo r10) (some (r10, S9)))) (zBr ((S.1 1 5) = 1) (zBp (fX4_readSight S) (fun r14 S13 => zGd (zBo r14) (some (r14, S13)))) (zBr ((S.1 1 5) = 2) (zBp (fX4_readPlant S) (fun r18 S17 => zGd (zBo r18) (some (r18, S17)))) (zBr ((S.1 1 5) = 4) (zBp (fX4_readNamed S (2 : Int32)) (fun r22 S21 => zGd (zBo r22) (some (r22, S21)))) (zBr ((S.1 1 5) = 5) (zBp (fX4_readNamed S (3 : Int32)) (fun r26 S25 => zGd (zBo r26) (some (r26, S25)))) (zBr ((S.1 1 5) = 6) (zBp (fX4_readDusty S) (fun r30 S29 => zGd (zBo r30) (some (r30, S29)))) (zBr ((S.1 1 5) = 7) (zBp (fX4_readProof S) (fun r34 S33 => zGd (zBo r34) (some (r34, S33)))) (zBp (fX9_fail S (1 : Int32)) (fun r38 S37 => zGd (zBo r38) (some (r38, S37))))))))))
set_option maxHeartbeats 4000000 in
set_option maxRecDepth 100000 in
theorem mX4_readLine {l : Launch} {D : va_G} {cy : Nat → ClassId} {q : Nat → Nat} {A : Nat → Prop} {S : zSt} (hq : zQ A q zNC) {z : (Int32 × zSt)} (h : fX4_readLine S = some z) : zMqS l yX4_readLine cX4_readLine 1 (some .boolean) rmX4_readLine [.ref (q 229)] zsh zNC D cy q A S z := by
  refine Met.ofW (cc := cX4_readLine) (maxL := 1) (ret := (some .boolean)) (by decide) rfl ?_
  intro p e s m args below meth c s₁ B hml hv
  obtain ⟨rfl, ⟨hP, hK⟩, hM⟩ := hv
  have cx : zX RX4 cX4_readLine 1 p s m ([.ref (q 229)]).toArray c D cy := ⟨B.exec, B.bytes, hml, findClass_of_methodNamed B.named, fun w hw => atoms_spec (ws := Cond.code yX4_readLine cX4_readLine 1 (some .boolean) :: zTB) B.pre w (List.mem_cons_of_mem _ hw), hK⟩
  have hx := cx.1
  have hb := cx.2.1
  have hr := B.returns
  have hlk := B.notSynchronized
  have hS : va_S A s.heap s.heap [] := va_S.rf
  have hl := lv_entry ([.ref (q 229)]) (n := 1) (Nat.le_of_ble_eq_true rfl)
  rw [lg_entry_eq]
  generalize (lg_sl ([.ref (q 229)]) ++ List.replicate (1 - (lg_sl ([.ref (q 229)])).length) Slot.unset).toArray = ls at hl ⊢
  have hl : lv_has ls 1 [(0, .ref (q 229))] := hl
  unfold fX4_readLine at h
  refine lv_aload_n (pc := 0) hx hb dX4_readLine_0 rfl (lv_at hl 0 rfl) ?_
  refine zr_getR (pc := 1) (t := 1) cx lk_X4_18 hP nC_229 sC_229 rfl dX4_readLine_1 ?_
  refine zr_getI (pc := 4) cx lk_X4_38 hP nC_1 sC_1 rfl dX4_readLine_4 ?_
  by_cases c1 : (S.1 1 5) = 0
  · replace h := zBr_t c1 h
    refine lv_tableIn (pc := 7) (off := 45) (tgt := 52) hx hb dX4_readLine_7 (by rw [c1]; decide) (by rw [c1]; decide) (by rw [c1]; rfl) (by decide) ?_
    refine lv_aload_n (pc := 52) hx hb dX4_readLine_52 rfl (lv_at hl 0 rfl) ?_
    refine lv_iconst (pc := 53) hx hb dX4_readLine_53 zc_0 ?_
    obtain ⟨r10, S9, k8, h⟩ := zBp_e h
    refine zr_VQS (pc := 54) (rest := []) cx cv_X4_50 (mX4_readNamed hq k8) ⟨⟨rfl, rfl⟩, Nat.le_of_ble_eq_true rfl, Nat.le_of_ble_eq_true rfl⟩ ⟨Nat.le_of_ble_eq_true rfl, Nat.le_of_ble_eq_true rfl⟩ (zr_preVS cx hM hS hP nC_229 sC_229 rfl) hS hl.1 rfl rfl (Nat.le_of_ble_eq_true rfl) dX4_readLine_54 (fun H locs hP hS => ?_)
    obtain ⟨g11, h⟩ := zGd_e h
    have hz := Option.some.inj h
    exact zr_rqZ (pc := 57) cx hr hlk hP hS hz g11 dX4_readLine_57
  · replace h := zBr_f c1 h
    by_cases c2 : (S.1 1 5) = 1
    · replace h := zBr_t c2 h
      refine lv_tableIn (pc := 7) (off := 68) (tgt := 75) hx hb dX4_readLine_7 (by rw [c2]; decide) (by rw [c2]; decide) (by rw [c2]; rfl) (by decide) ?_
      refine lv_aload_n (pc := 75) hx hb dX4_readLine_75 rfl (lv_at hl 0 rfl) ?_
      obtain ⟨r14, S13, k12, h⟩ := zBp_e h
      refine zr_VQ (pc := 76) (rest := []) cx cv_X4_56 (mX4_readSight hq k12) ⟨⟨rfl, rfl⟩, Nat.le_of_ble_eq_true rfl, Nat.le_of_ble_eq_true rfl⟩ ⟨Nat.le_of_ble_eq_true rfl, Nat.le_of_ble_eq_true rfl⟩ hP hS nC_229 sC_229 rfl hl.1 rfl rfl (Nat.le_of_ble_eq_true rfl) dX4_readLine_76 (fun H locs hP hS => ?_)
      obtain ⟨g15, h⟩ := zGd_e h
      have hz := Option.some.inj h
      exact zr_rqZ (pc := 79) cx hr hlk hP hS hz g15 dX4_readLine_79
    · replace h := zBr_f c2 h
      by_cases c3 : (S.1 1 5) = 2
      · replace h := zBr_t c3 h
        refine lv_tableIn (pc := 7) (off := 63) (tgt := 70) hx hb dX4_readLine_7 (by rw [c3]; decide) (by rw [c3]; decide) (by rw [c3]; rfl) (by decide) ?_
        refine lv_aload_n (pc := 70) hx hb dX4_readLine_70 rfl (lv_at hl 0 rfl) ?_
        obtain ⟨r18, S17, k16, h⟩ := zBp_e h
        refine zr_VQS (pc := 71) (rest := []) cx cv_X4_53 (mX4_readPlant hq k16) ⟨⟨rfl, rfl⟩, Nat.le_of_ble_eq_true rfl, Nat.le_of_ble_eq_true rfl⟩ ⟨Nat.le_of_ble_eq_true rfl, Nat.le_of_ble_eq_true rfl⟩ (zr_preVS cx hM hS hP nC_229 sC_229 rfl) hS hl.1 rfl rfl (Nat.le_of_ble_eq_true rfl) dX4_readLine_71 (fun H locs hP hS => ?_)
        obtain ⟨g19, h⟩ := zGd_e h
        have hz := Option.some.inj h
        exact zr_rqZ (pc := 74) cx hr hlk hP hS hz g19 dX4_readLine_74
      · replace h := zBr_f c3 h
        by_cases c4 : (S.1 1 5) = 4
        · replace h := zBr_t c4 h
          refine lv_tableIn (pc := 7) (off := 51) (tgt := 58) hx hb dX4_readLine_7 (by rw [c4]; decide) (by rw [c4]; decide) (by rw [c4]; rfl) (by decide) ?_
          refine lv_aload_n (pc := 58) hx hb dX4_readLine_58 rfl (lv_at hl 0 rfl) ?_
          refine lv_iconst (pc := 59) hx hb dX4_readLine_59 zc_2 ?_
          obtain ⟨r22, S21, k20, h⟩ := zBp_e h
          refine zr_VQS (pc := 60) (rest := []) cx cv_X4_50 (mX4_readNamed hq k20) ⟨⟨rfl, rfl⟩, Nat.le_of_ble_eq_true rfl, Nat.le_of_ble_eq_true rfl⟩ ⟨Nat.le_of_ble_eq_true rfl, Nat.le_of_ble_eq_true rfl⟩ (zr_preVS cx hM hS hP nC_229 sC_229 rfl) hS hl.1 rfl rfl (Nat.le_of_ble_eq_true rfl) dX4_readLine_60 (fun H locs hP hS => ?_)
          obtain ⟨g23, h⟩ := zGd_e h
          have hz := Option.some.inj h
          exact zr_rqZ (pc := 63) cx hr hlk hP hS hz g23 dX4_readLine_63
        · replace h := zBr_f c4 h
          by_cases c5 : (S.1 1 5) = 5
          · replace h := zBr_t c5 h
            refine lv_tableIn (pc := 7) (off := 57) (tgt := 64) hx hb dX4_readLine_7 (by rw [c5]; decide) (by rw [c5]; decide) (by rw [c5]; rfl) (by decide) ?_
            refine lv_aload_n (pc := 64) hx hb dX4_readLine_64 rfl (lv_at hl 0 rfl) ?_
            refine lv_iconst (pc := 65) hx hb dX4_readLine_65 zc_3 ?_
            obtain ⟨r26, S25, k24, h⟩ := zBp_e h
            refine zr_VQS (pc := 66) (rest := []) cx cv_X4_50 (mX4_readNamed hq k24) ⟨⟨rfl, rfl⟩, Nat.le_of_ble_eq_true rfl, Nat.le_of_ble_eq_true rfl⟩ ⟨Nat.le_of_ble_eq_true rfl, Nat.le_of_ble_eq_true rfl⟩ (zr_preVS cx hM hS hP nC_229 sC_229 rfl) hS hl.1 rfl rfl (Nat.le_of_ble_eq_true rfl) dX4_readLine_66 (fun H locs hP hS => ?_)
            obtain ⟨g27, h⟩ := zGd_e h
            have hz := Option.some.inj h
            exact zr_rqZ (pc := 69) cx hr hlk hP hS hz g27 dX4_readLine_69
          · replace h := zBr_f c5 h
            by_cases c6 : (S.1 1 5) = 6
            · replace h := zBr_t c6 h
              refine lv_tableIn (pc := 7) (off := 73) (tgt := 80) hx hb dX4_readLine_7 (by rw [c6]; decide) (by rw [c6]; decide) (by rw [c6]; rfl) (by decide) ?_
              refine lv_aload_n (pc := 80) hx hb dX4_readLine_80 rfl (lv_at hl 0 rfl) ?_
              obtain ⟨r30, S29, k28, h⟩ := zBp_e h
              refine zr_VQ (pc := 81) (rest := []) cx cv_X4_59 (mX4_readDusty hq k28) ⟨⟨rfl, rfl⟩, Nat.le_of_ble_eq_true rfl, Nat.le_of_ble_eq_true rfl⟩ ⟨Nat.le_of_ble_eq_true rfl, Nat.le_of_ble_eq_true rfl⟩ hP hS nC_229 sC_229 rfl hl.1 rfl rfl (Nat.le_of_ble_eq_true rfl) dX4_readLine_81 (fun H locs hP hS => ?_)
              obtain ⟨g31, h⟩ := zGd_e h
              have hz := Option.some.inj h
              exact zr_rqZ (pc := 84) cx hr hlk hP hS hz g31 dX4_readLine_84
            · replace h := zBr_f c6 h
              by_cases c7 : (S.1 1 5) = 7
              · replace h := zBr_t c7 h
                refine lv_tableIn (pc := 7) (off := 78) (tgt := 85) hx hb dX4_readLine_7 (by rw [c7]; decide) (by rw [c7]; decide) (by rw [c7]; rfl) (by decide) ?_
                refine lv_aload_n (pc := 85) hx hb dX4_readLine_85 rfl (lv_at hl 0 rfl) ?_
                obtain ⟨r34, S33, k32, h⟩ := zBp_e h
                refine zr_VQ (pc := 86) (rest := []) cx cv_X4_62 (mX4_readProof hq k32) ⟨⟨rfl, rfl⟩, Nat.le_of_ble_eq_true rfl, Nat.le_of_ble_eq_true rfl⟩ ⟨Nat.le_of_ble_eq_true rfl, Nat.le_of_ble_eq_true rfl⟩ hP hS nC_229 sC_229 rfl hl.1 rfl rfl (Nat.le_of_ble_eq_true rfl) dX4_readLine_86 (fun H locs hP hS => ?_)
                obtain ⟨g35, h⟩ := zGd_e h
                have hz := Option.some.inj h
                exact zr_rqZ (pc := 89) cx hr hlk hP hS hz g35 dX4_readLine_89
              · replace h := zBr_f c7 h
                refine zr_tsD (pc := 7) (tgt := 90) hx hb dX4_readLine_7 (fun h1 h2 => ?_) (by decide) ?_
                · rcases (show ((S.1 1 5)).toInt = 0 ∨ ((S.1 1 5)).toInt = 1 ∨ ((S.1 1 5)).toInt = 2 ∨ ((S.1 1 5)).toInt = 3 ∨ ((S.1 1 5)).toInt = 4 ∨ ((S.1 1 5)).toInt = 5 ∨ ((S.1 1 5)).toInt = 6 ∨ ((S.1 1 5)).toInt = 7 by omega) with e9 | e9 | e9 | e9 | e9 | e9 | e9 | e9
                  · exact absurd (Int32.toInt_inj.mp (e9.trans (by decide))) c1
                  · exact absurd (Int32.toInt_inj.mp (e9.trans (by decide))) c2
                  · exact absurd (Int32.toInt_inj.mp (e9.trans (by decide))) c3
                  · rw [e9]; rfl
                  · exact absurd (Int32.toInt_inj.mp (e9.trans (by decide))) c4
                  · exact absurd (Int32.toInt_inj.mp (e9.trans (by decide))) c5
                  · exact absurd (Int32.toInt_inj.mp (e9.trans (by decide))) c6
                  · exact absurd (Int32.toInt_inj.mp (e9.trans (by decide))) c7
                · skip
                  refine lv_aload_n (pc := 90) hx hb dX4_readLine_90 rfl (lv_at hl 0 rfl) ?_
                  refine zr_getR (pc := 91) (t := 1) cx lk_X4_18 hP nC_229 sC_229 rfl dX4_readLine_91 ?_
                  refine lv_iconst (pc := 94) hx hb dX4_readLine_94 zc_1 ?_
                  obtain ⟨r38, S37, k36, h⟩ := zBp_e h
                  refine zr_VQ (pc := 95) (rest := []) cx cv_X4_65 (mX9_fail hq k36) ⟨⟨rfl, rfl⟩, Nat.le_of_ble_eq_true rfl, Nat.le_of_ble_eq_true rfl⟩ ⟨Nat.le_of_ble_eq_true rfl, Nat.le_of_ble_eq_true rfl⟩ hP hS nC_1 sC_1 rfl hl.1 rfl rfl (Nat.le_of_ble_eq_true rfl) dX4_readLine_95 (fun H locs hP hS => ?_)
                  obtain ⟨g39, h⟩ := zGd_e h
                  have hz := Option.some.inj h
                  exact zr_rqZ (pc := 98) cx hr hlk hP hS hz g39 dX4_readLine_98
-- X4_readAll
abbrev rmX4_readAll : Room := { frames := 5, cells := 0, slots := 0, locals := 112 }
def fX4_readAll_29  (t : (zSt × Int32)) : Option ((zSt × Int32) ⊕ (Int32 × zSt)) :=
  match t with
  | (S, v1) => zBr ((900 : Int32) ≤ v1) (zXr (some (v1, S))) (zBr ((S.1 1 5) = (102 : Int32)) (zXr (some (v1, S))) (zBp (fX4_readLine S) (fun r15 S14 => zBr (r15 = 0) (zXr (some ((-1 : Int32), S14))) (zBp (fX9_take S14 (59 : Int32)) (fun r20 S19 => zBr (r20 = 0) (zXr (some ((-1 : Int32), S19))) (zLt (v1 + (1 : Int32)) (fun x22 => some (.inl (S19, x22)))))))))
set_option maxHeartbeats 4000000 in
set_option maxRecDepth 100000 in
theorem kX4_readAll_29B {p : Program} {l : Launch} {e : Env} {s : State} {m : MethodId} {args : Array Value} {below : List Frame} {meth : Method} {c : Code} {D : va_G} {cy : Nat → ClassId} {q : Nat → Nat} {A : Nat → Prop} (cx : zX RX4 cX4_readAll 2 p s m args c D cy) (hr : meth.sig.returnType = (some .int)) (hlk : meth.locks = false) (hq : zQ A q zNC) (hM : zMS A s) {z : (Int32 × zSt)} {S : zSt} {v1 : Int32} {C1 : ((zSt × Int32) ⊕ (Int32 × zSt)) → Prop} (hb1 : ∀ (S : zSt) (v1 : Int32), C1 (.inl (S, v1)) → ∀ (H : Heap) (locs : List Loc), va_P D vwCl (zW zsh zNC cy q S) H → va_S A s.heap H locs → ∀ (ls : Array Slot), lv_has ls 2 [(0, .ref (q 229)), (1, .int v1)] → W p l e rmX4_readAll s m args below meth c H locs 0 0 (MQ below (va_Qi (fun (r : Int32) (u : zSt) => (r, u) = z) (fun u t => va_P D vwCl (zW zsh zNC cy q u) t.heap) A) args s 0 0 A) (F0 m 29 ls [])) (hx1 : ∀ a, C1 (.inr a) → a = z) {x : ((zSt × Int32) ⊕ (Int32 × zSt))} (h : fX4_readAll_29 (S, v1) = some x) (hc : C1 x) {H : Heap} {locs : List Loc} (hP : va_P D vwCl (zW zsh zNC cy q S) H) (hS : va_S A s.heap H locs) {ls : Array Slot} (hl : lv_has ls 2 [(0, .ref (q 229)), (1, .int v1)]) : W p l e rmX4_readAll s m args below meth c H locs 0 0 (MQ below (va_Qi (fun (r : Int32) (u : zSt) => (r, u) = z) (fun u t => va_P D vwCl (zW zsh zNC cy q u) t.heap) A) args s 0 0 A) (F0 m 29 ls []) := by
  have hx := cx.1
  have hb := cx.2.1
  unfold fX4_readAll_29 at h
  dsimp only at h
  refine lv_iload_n (pc := 29) hx hb dX4_readAll_29 rfl (lv_at hl 1 rfl) ?_
  refine lv_sipush (pc := 30) hx hb dX4_readAll_30 zs_900 ?_
  refine lv_icmp_ge (pc := 33) (tgt := 75) hx hb dX4_readAll_33 (by decide) (fun c9 => ?_) (fun c9 => ?_)
  · replace h := zBr_t c9 h
    obtain ⟨y10, h, ex⟩ := zXr_e h
    have hc := hx1 y10 (by rw [ex] at hc; exact hc)
    rw [hc] at h
    refine lv_iload_n (pc := 75) hx hb dX4_readAll_75 rfl (lv_at hl 1 rfl) ?_
    have hz := Option.some.inj h
    exact zr_rqI (pc := 76) cx hr hlk hP hS hz dX4_readAll_76
  · replace h := zBr_f c9 h
    refine lv_aload_n (pc := 36) hx hb dX4_readAll_36 rfl (lv_at hl 0 rfl) ?_
    refine zr_getR (pc := 37) (t := 1) cx lk_X4_18 hP nC_229 sC_229 rfl dX4_readAll_37 ?_
    refine zr_getI (pc := 40) cx lk_X4_38 hP nC_1 sC_1 rfl dX4_readAll_40 ?_
    refine lv_bipush (pc := 43) hx hb dX4_readAll_43 zb_102 ?_
    refine lv_icmp_eq (pc := 45) (tgt := 75) hx hb dX4_readAll_45 (by decide) (fun c11 => ?_) (fun c11 => ?_)
    · replace h := zBr_t c11 h
      obtain ⟨y12, h, ex⟩ := zXr_e h
      have hc := hx1 y12 (by rw [ex] at hc; exact hc)
      rw [hc] at h
      refine lv_iload_n (pc := 75) hx hb dX4_readAll_75 rfl (lv_at hl 1 rfl) ?_
      have hz := Option.some.inj h
      exact zr_rqI (pc := 76) cx hr hlk hP hS hz dX4_readAll_76
    · replace h := zBr_f c11 h
      refine lv_aload_n (pc := 48) hx hb dX4_readAll_48 rfl (lv_at hl 0 rfl) ?_
      obtain ⟨r15, S14, k13, h⟩ := zBp_e h
      refine zr_VQS (pc := 49) (rest := []) cx cv_X4_42 (mX4_readLine hq k13) ⟨⟨rfl, rfl⟩, Nat.le_of_ble_eq_true rfl, Nat.le_of_ble_eq_true rfl⟩ ⟨Nat.le_of_ble_eq_true rfl, Nat.le_of_ble_eq_true rfl⟩ (zr_preVS cx hM hS hP nC_229 sC_229 rfl) hS hl.1 rfl rfl (Nat.le_of_ble_eq_true rfl) dX4_readAll_49 (fun H locs hP hS => ?_)
      refine lv_if_eq (pc := 52) (tgt := 67) hx hb dX4_readAll_52 (by decide) (fun c16 => ?_) (fun c16 => ?_)
      · replace h := zBr_t c16 h
        obtain ⟨y17, h, ex⟩ := zXr_e h
        have hc := hx1 y17 (by rw [ex] at hc; exact hc)
        rw [hc] at h
        refine lv_iconst (pc := 67) hx hb dX4_readAll_67 zc_m1 ?_
        have hz := Option.some.inj h
        exact zr_rqI (pc := 68) cx hr hlk hP hS hz dX4_readAll_68
      · replace h := zBr_f c16 h
        refine lv_aload_n (pc := 55) hx hb dX4_readAll_55 rfl (lv_at hl 0 rfl) ?_
        refine zr_getR (pc := 56) (t := 1) cx lk_X4_18 hP nC_229 sC_229 rfl dX4_readAll_56 ?_
        refine lv_bipush (pc := 59) hx hb dX4_readAll_59 zb_59 ?_
        obtain ⟨r20, S19, k18, h⟩ := zBp_e h
        refine zr_VQ (pc := 61) (rest := []) cx cv_X4_46 (mX9_take hq k18) ⟨⟨rfl, rfl⟩, Nat.le_of_ble_eq_true rfl, Nat.le_of_ble_eq_true rfl⟩ ⟨Nat.le_of_ble_eq_true rfl, Nat.le_of_ble_eq_true rfl⟩ hP hS nC_1 sC_1 rfl hl.1 rfl rfl (Nat.le_of_ble_eq_true rfl) dX4_readAll_61 (fun H locs hP hS => ?_)
        refine lv_if_ne (pc := 64) (tgt := 69) hx hb dX4_readAll_64 (by decide) (fun c21 => ?_) (fun c21 => ?_)
        · replace h := zBr_f c21 h
          obtain ⟨x22, ex22, h⟩ := zLt_e h
          refine lv_iinc (v := x22) (lv' := [(1, .int x22), (0, .ref (q 229))]) (pc := 69) hx hb dX4_readAll_69 hl (k := 1) rfl (by rw [zc_1]; exact ex22.symm) (by decide) rfl (fun ls hl => ?_)
          refine lv_goto (pc := 72) (tgt := 29) hx hb dX4_readAll_72 (by decide) ?_
          cases h
          exact hb1 _ _ hc _ _ hP hS _ (lv_sub hl [1, 0] rfl)
        · replace h := zBr_t c21 h
          obtain ⟨y23, h, ex⟩ := zXr_e h
          have hc := hx1 y23 (by rw [ex] at hc; exact hc)
          rw [hc] at h
          refine lv_iconst (pc := 67) hx hb dX4_readAll_67 zc_m1 ?_
          have hz := Option.some.inj h
          exact zr_rqI (pc := 68) cx hr hlk hP hS hz dX4_readAll_68
set_option maxHeartbeats 4000000 in
set_option maxRecDepth 100000 in
theorem kX4_readAll_29 {p : Program} {l : Launch} {e : Env} {s : State} {m : MethodId} {args : Array Value} {below : List Frame} {meth : Method} {c : Code} {D : va_G} {cy : Nat → ClassId} {q : Nat → Nat} {A : Nat → Prop} (cx : zX RX4 cX4_readAll 2 p s m args c D cy) (hr : meth.sig.returnType = (some .int)) (hlk : meth.locks = false) (hq : zQ A q zNC) (hM : zMS A s) {z : (Int32 × zSt)} : ∀ (n : Nat) (S : zSt) (v1 : Int32), zLp (fX4_readAll_29) n (S, v1) = some z → ∀ (H : Heap) (locs : List Loc), va_P D vwCl (zW zsh zNC cy q S) H → va_S A s.heap H locs → ∀ (ls : Array Slot), lv_has ls 2 [(0, .ref (q 229)), (1, .int v1)] → W p l e rmX4_readAll s m args below meth c H locs 0 0 (MQ below (va_Qi (fun (r : Int32) (u : zSt) => (r, u) = z) (fun u t => va_P D vwCl (zW zsh zNC cy q u) t.heap) A) args s 0 0 A) (F0 m 29 ls []) := by
  intro n
  induction n with
  | zero =>
    intro S v1 h
    cases h
  | succ n ih =>
    intro S v1 h H locs hP hS ls hl
    obtain ⟨x, h, hk⟩ := zLp_e h
    exact kX4_readAll_29B cx hr hlk hq hM  (C1 := zKt (fun t => zLp (fX4_readAll_29) n t = some z) (fun a => a = z)) (fun S v1 ht H locs hP hS ls hl => ih S v1 ht H locs hP hS ls hl) (fun a ha => ha) h hk hP hS hl
def fX4_readAll (S : zSt) : Option (Int32 × zSt) :=
  zBd (fX3_clear S 230) (fun S2 => zGd (zBo (0 : Int32)) (zLt (zI S2 229 2 (0 : Int32)) (fun S3 => zGd (zBo (0 : Int32)) (zLt (zI S3 229 3 (0 : Int32)) (fun S5 => zBd (fX9_beginReading S5 (900 : Int32)) (fun S8 => zLp (fX4_readAll_29) 2000 (S8, (0 : Int32))))))))
set_option maxHeartbeats 4000000 in
set_option maxRecDepth 100000 in
theorem mX4_readAll {l : Launch} {D : va_G} {cy : Nat → ClassId} {q : Nat → Nat} {A : Nat → Prop} {S : zSt} (hq : zQ A q zNC) {z : (Int32 × zSt)} (h : fX4_readAll S = some z) : zMqS l yX4_readAll cX4_readAll 2 (some .int) rmX4_readAll [.ref (q 229)] zsh zNC D cy q A S z := by
  refine Met.ofW (cc := cX4_readAll) (maxL := 2) (ret := (some .int)) (by decide) rfl ?_
  intro p e s m args below meth c s₁ B hml hv
  obtain ⟨rfl, ⟨hP, hK⟩, hM⟩ := hv
  have cx : zX RX4 cX4_readAll 2 p s m ([.ref (q 229)]).toArray c D cy := ⟨B.exec, B.bytes, hml, findClass_of_methodNamed B.named, fun w hw => atoms_spec (ws := Cond.code yX4_readAll cX4_readAll 2 (some .int) :: zTB) B.pre w (List.mem_cons_of_mem _ hw), hK⟩
  have hx := cx.1
  have hb := cx.2.1
  have hr := B.returns
  have hlk := B.notSynchronized
  have hS : va_S A s.heap s.heap [] := va_S.rf
  have hl := lv_entry ([.ref (q 229)]) (n := 2) (Nat.le_of_ble_eq_true rfl)
  rw [lg_entry_eq]
  generalize (lg_sl ([.ref (q 229)]) ++ List.replicate (2 - (lg_sl ([.ref (q 229)])).length) Slot.unset).toArray = ls at hl ⊢
  have hl : lv_has ls 2 [(0, .ref (q 229))] := hl
  unfold fX4_readAll at h
  refine lv_aload_n (pc := 0) hx hb dX4_readAll_0 rfl (lv_at hl 0 rfl) ?_
  refine zr_getR (pc := 1) (t := 230) cx lk_X4_12 hP nC_229 sC_229 rfl dX4_readAll_1 ?_
  obtain ⟨S2, k1, h⟩ := zBd_e h
  refine zr_VV (pc := 4) (rest := []) cx cv_X4_22 (mX3_clear hq zHouse_230 k1) ⟨⟨rfl, rfl⟩, Nat.le_of_ble_eq_true rfl, Nat.le_of_ble_eq_true rfl⟩ ⟨Nat.le_of_ble_eq_true rfl, Nat.le_of_ble_eq_true rfl⟩ hP hS (nX3_0 zHouse_230) (sX3_0 zHouse_230) rfl hl.1 rfl rfl (Nat.le_of_ble_eq_true rfl) dX4_readAll_4 (fun H locs hP hS => ?_)
  refine lv_aload_n (pc := 7) hx hb dX4_readAll_7 rfl (lv_at hl 0 rfl) ?_
  refine lv_iconst (pc := 8) hx hb dX4_readAll_8 zc_0 ?_
  obtain ⟨g4, h⟩ := zGd_e h
  obtain ⟨S3, eS3, h⟩ := zLt_e h
  refine zr_putI (pc := 9) cx lq_X4_25 hq hP hS nC_229 sC_229 rfl (zBo_n g4) (zBo_f g4) dX4_readAll_9 (fun H locs hP hS => ?_)
  rw [← eS3] at hP
  refine lv_aload_n (pc := 12) hx hb dX4_readAll_12 rfl (lv_at hl 0 rfl) ?_
  refine lv_iconst (pc := 13) hx hb dX4_readAll_13 zc_0 ?_
  obtain ⟨g6, h⟩ := zGd_e h
  obtain ⟨S5, eS5, h⟩ := zLt_e h
  refine zr_putI (pc := 14) cx lq_X4_29 hq hP hS nC_229 sC_229 rfl (zBo_n g6) (zBo_f g6) dX4_readAll_14 (fun H locs hP hS => ?_)
  rw [← eS5] at hP
  refine lv_aload_n (pc := 17) hx hb dX4_readAll_17 rfl (lv_at hl 0 rfl) ?_
  refine zr_getR (pc := 18) (t := 1) cx lk_X4_18 hP nC_229 sC_229 rfl dX4_readAll_18 ?_
  refine lv_sipush (pc := 21) hx hb dX4_readAll_21 zs_900 ?_
  obtain ⟨S8, k7, h⟩ := zBd_e h
  refine zr_VV (pc := 24) (rest := []) cx cv_X4_32 (mX9_beginReading hq k7) ⟨⟨rfl, rfl⟩, Nat.le_of_ble_eq_true rfl, Nat.le_of_ble_eq_true rfl⟩ ⟨Nat.le_of_ble_eq_true rfl, Nat.le_of_ble_eq_true rfl⟩ hP hS nC_1 sC_1 rfl hl.1 rfl rfl (Nat.le_of_ble_eq_true rfl) dX4_readAll_24 (fun H locs hP hS => ?_)
  refine lv_iconst (pc := 27) hx hb dX4_readAll_27 zc_0 ?_
  refine lv_istore_n (lv' := [(1, .int (0 : Int32)), (0, .ref (q 229))]) (pc := 28) hx hb dX4_readAll_28 rfl hl (by decide) rfl (fun ls hl => ?_)
  exact kX4_readAll_29 cx hr hlk hq hM 2000 _ _ h _ _ hP hS _ (lv_sub hl [1, 0] rfl)
-- X11_house
abbrev rmX11_house : Room := { frames := 6, cells := 0, slots := 0, locals := 133 }
def fX11_house (S : zSt) : Option (Int32 × zSt) :=
  zBp (fX4_readAll S) (fun r3 S2 => zBd (fX11_endReading S2) (fun S5 => zBr (r3 = (-1 : Int32)) (some (((-1 : Int32) - (S5.1 1 10)), S5)) (zBd (fX3_copyFrom S5 4 230) (fun S8 => zBd (fX6_begin S8 14) (fun S10 => zBd (fX7_forget S10) (fun S12 => zBd (fX8_clear S12 245) (fun S14 => some (r3, S14))))))))
set_option maxHeartbeats 4000000 in
set_option maxRecDepth 100000 in
theorem mX11_house {l : Launch} {D : va_G} {cy : Nat → ClassId} {q : Nat → Nat} {A : Nat → Prop} {S : zSt} (hq : zQ A q zNC) {z : (Int32 × zSt)} (h : fX11_house S = some z) : zMqS l yX11_house cX11_house 2 (some .int) rmX11_house [.ref (q 0)] zsh zNC D cy q A S z := by
  refine Met.ofW (cc := cX11_house) (maxL := 2) (ret := (some .int)) (by decide) rfl ?_
  intro p e s m args below meth c s₁ B hml hv
  obtain ⟨rfl, ⟨hP, hK⟩, hM⟩ := hv
  have cx : zX RX11 cX11_house 2 p s m ([.ref (q 0)]).toArray c D cy := ⟨B.exec, B.bytes, hml, findClass_of_methodNamed B.named, fun w hw => atoms_spec (ws := Cond.code yX11_house cX11_house 2 (some .int) :: zTB) B.pre w (List.mem_cons_of_mem _ hw), hK⟩
  have hx := cx.1
  have hb := cx.2.1
  have hr := B.returns
  have hlk := B.notSynchronized
  have hS : va_S A s.heap s.heap [] := va_S.rf
  have hl := lv_entry ([.ref (q 0)]) (n := 2) (Nat.le_of_ble_eq_true rfl)
  rw [lg_entry_eq]
  generalize (lg_sl ([.ref (q 0)]) ++ List.replicate (2 - (lg_sl ([.ref (q 0)])).length) Slot.unset).toArray = ls at hl ⊢
  have hl : lv_has ls 2 [(0, .ref (q 0))] := hl
  unfold fX11_house at h
  refine lv_aload_n (pc := 0) hx hb dX11_house_0 rfl (lv_at hl 0 rfl) ?_
  refine zr_getR (pc := 1) (t := 229) cx lk_X11_54 hP nC_0 sC_0 rfl dX11_house_1 ?_
  obtain ⟨r3, S2, k1, h⟩ := zBp_e h
  refine zr_VQS (pc := 4) (rest := []) cx cv_X11_121 (mX4_readAll hq k1) ⟨⟨rfl, rfl⟩, Nat.le_of_ble_eq_true rfl, Nat.le_of_ble_eq_true rfl⟩ ⟨Nat.le_of_ble_eq_true rfl, Nat.le_of_ble_eq_true rfl⟩ (zr_preVS cx hM hS hP nC_229 sC_229 rfl) hS hl.1 rfl rfl (Nat.le_of_ble_eq_true rfl) dX11_house_4 (fun H locs hP hS => ?_)
  refine lv_istore_n (lv' := [(1, .int r3), (0, .ref (q 0))]) (pc := 7) hx hb dX11_house_7 rfl hl (by decide) rfl (fun ls hl => ?_)
  refine lv_aload_n (pc := 8) hx hb dX11_house_8 rfl (lv_at hl 1 rfl) ?_
  obtain ⟨S5, k4, h⟩ := zBd_e h
  refine zr_VV (pc := 9) (rest := []) cx cv_X11_125 (mX11_endReading hq k4) ⟨⟨rfl, rfl⟩, Nat.le_of_ble_eq_true rfl, Nat.le_of_ble_eq_true rfl⟩ ⟨Nat.le_of_ble_eq_true rfl, Nat.le_of_ble_eq_true rfl⟩ hP hS nC_0 sC_0 rfl hl.1 rfl rfl (Nat.le_of_ble_eq_true rfl) dX11_house_9 (fun H locs hP hS => ?_)
  refine lv_iload_n (pc := 12) hx hb dX11_house_12 rfl (lv_at hl 0 rfl) ?_
  refine lv_iconst (pc := 13) hx hb dX11_house_13 zc_m1 ?_
  refine lv_icmp_ne (pc := 14) (tgt := 27) hx hb dX11_house_14 (by decide) (fun c6 => ?_) (fun c6 => ?_)
  · replace h := zBr_f c6 h
    refine lv_aload_n (pc := 27) hx hb dX11_house_27 rfl (lv_at hl 1 rfl) ?_
    refine zr_getR (pc := 28) (t := 4) cx lk_X11_19 hP nC_0 sC_0 rfl dX11_house_28 ?_
    refine lv_aload_n (pc := 31) hx hb dX11_house_31 rfl (lv_at hl 1 rfl) ?_
    refine zr_getR (pc := 32) (t := 229) cx lk_X11_54 hP nC_0 sC_0 rfl dX11_house_32 ?_
    refine zr_getR (pc := 35) (t := 230) cx lk_X11_131 hP nC_229 sC_229 rfl dX11_house_35 ?_
    obtain ⟨S8, k7, h⟩ := zBd_e h
    refine zr_VV (pc := 38) (rest := []) cx cv_X11_134 (mX3_copyFrom hq zHouse_4 zHouse_230 k7) ⟨⟨rfl, rfl⟩, Nat.le_of_ble_eq_true rfl, Nat.le_of_ble_eq_true rfl⟩ ⟨Nat.le_of_ble_eq_true rfl, Nat.le_of_ble_eq_true rfl⟩ hP hS (nX3_0 zHouse_4) (sX3_0 zHouse_4) rfl hl.1 rfl rfl (Nat.le_of_ble_eq_true rfl) dX11_house_38 (fun H locs hP hS => ?_)
    refine lv_aload_n (pc := 41) hx hb dX11_house_41 rfl (lv_at hl 1 rfl) ?_
    refine zr_getR (pc := 42) (t := 14) cx lk_X11_28 hP nC_0 sC_0 rfl dX11_house_42 ?_
    obtain ⟨S10, k9, h⟩ := zBd_e h
    refine zr_VV (pc := 45) (rest := []) cx cv_X11_137 (mX6_begin hq zLife_14 k9) ⟨⟨rfl, rfl⟩, Nat.le_of_ble_eq_true rfl, Nat.le_of_ble_eq_true rfl⟩ ⟨Nat.le_of_ble_eq_true rfl, Nat.le_of_ble_eq_true rfl⟩ hP hS (nX6_0 zLife_14) (sX6_0 zLife_14) rfl hl.1 rfl rfl (Nat.le_of_ble_eq_true rfl) dX11_house_45 (fun H locs hP hS => ?_)
    refine lv_aload_n (pc := 48) hx hb dX11_house_48 rfl (lv_at hl 1 rfl) ?_
    refine zr_getR (pc := 49) (t := 44) cx lk_X11_38 hP nC_0 sC_0 rfl dX11_house_49 ?_
    obtain ⟨S12, k11, h⟩ := zBd_e h
    refine zr_VV (pc := 52) (rest := []) cx cv_X11_140 (mX7_forget hq k11) ⟨⟨rfl, rfl⟩, Nat.le_of_ble_eq_true rfl, Nat.le_of_ble_eq_true rfl⟩ ⟨Nat.le_of_ble_eq_true rfl, Nat.le_of_ble_eq_true rfl⟩ hP hS nC_44 sC_44 rfl hl.1 rfl rfl (Nat.le_of_ble_eq_true rfl) dX11_house_52 (fun H locs hP hS => ?_)
    refine lv_aload_n (pc := 55) hx hb dX11_house_55 rfl (lv_at hl 1 rfl) ?_
    refine zr_getR (pc := 56) (t := 245) cx lk_X11_70 hP nC_0 sC_0 rfl dX11_house_56 ?_
    obtain ⟨S14, k13, h⟩ := zBd_e h
    refine zr_VV (pc := 59) (rest := []) cx cv_X11_143 (mX8_clear hq zSent_245 k13) ⟨⟨rfl, rfl⟩, Nat.le_of_ble_eq_true rfl, Nat.le_of_ble_eq_true rfl⟩ ⟨Nat.le_of_ble_eq_true rfl, Nat.le_of_ble_eq_true rfl⟩ hP hS (nX8_0 zSent_245) (sX8_0 zSent_245) rfl hl.1 rfl rfl (Nat.le_of_ble_eq_true rfl) dX11_house_59 (fun H locs hP hS => ?_)
    refine lv_iload_n (pc := 62) hx hb dX11_house_62 rfl (lv_at hl 0 rfl) ?_
    have hz := Option.some.inj h
    exact zr_rqI (pc := 63) cx hr hlk hP hS hz dX11_house_63
  · replace h := zBr_t c6 h
    refine lv_iconst (pc := 17) hx hb dX11_house_17 zc_m1 ?_
    refine lv_aload_n (pc := 18) hx hb dX11_house_18 rfl (lv_at hl 1 rfl) ?_
    refine zr_getR (pc := 19) (t := 1) cx lk_X11_10 hP nC_0 sC_0 rfl dX11_house_19 ?_
    refine zr_getI (pc := 22) cx lk_X11_128 hP nC_1 sC_1 rfl dX11_house_22 ?_
    refine lv_isub (pc := 25) hx hb dX11_house_25 ?_
    have hz := Option.some.inj h
    exact zr_rqI (pc := 26) cx hr hlk hP hS hz dX11_house_26
