theorem wd_19 : (Jvm.Cond.initialized "ParlourLeavesModel") ∈ zTB := List.mem_filter.mpr ⟨List.mem_append_right _ (List.mem_append_left _ (List.mem_of_getElem? (i := 19) rfl)), rfl⟩
theorem wd_107 : (Jvm.Cond.fieldLink "ParlourLeaves$HouseText" (107 : Nat) "ParlourLeaves$Tape" "start" "I") ∈ zTB := List.mem_filter.mpr ⟨List.mem_append_right _ (List.mem_append_left _ (List.mem_of_getElem? (i := 107) rfl)), rfl⟩
theorem wd_156 : (Jvm.Cond.fieldLink "ParlourLeaves$HouseText" (110 : Nat) "ParlourLeaves$House" "sight" "[I") ∈ zTB := List.mem_filter.mpr ⟨List.mem_append_right _ (List.mem_append_left _ (List.mem_of_getElem? (i := 156) rfl)), rfl⟩
theorem wd_159 : (Jvm.Cond.fieldLink "ParlourLeaves$Life" (49 : Nat) "ParlourLeaves$House" "home" "[I") ∈ zTB := List.mem_filter.mpr ⟨List.mem_append_right _ (List.mem_append_left _ (List.mem_of_getElem? (i := 159) rfl)), rfl⟩
theorem wd_180 : (Jvm.Cond.fieldLink "ParlourLeaves$HouseText" (124 : Nat) "ParlourLeaves$House" "dusty" "I") ∈ zTB := List.mem_filter.mpr ⟨List.mem_append_right _ (List.mem_append_left _ (List.mem_of_getElem? (i := 180) rfl)), rfl⟩
theorem wd_184 : (Jvm.Cond.fieldLink "ParlourLeaves$HouseText" (127 : Nat) "ParlourLeaves$House" "proof" "I") ∈ zTB := List.mem_filter.mpr ⟨List.mem_append_right _ (List.mem_append_left _ (List.mem_of_getElem? (i := 184) rfl)), rfl⟩
theorem wd_354 : (Jvm.Cond.fieldLink "ParlourLeaves$HouseText" (18 : Nat) "ParlourLeaves$HouseText" "tape" "LParlourLeaves$Tape;") ∈ zTB := List.mem_filter.mpr ⟨List.mem_append_right _ (List.mem_append_right _ (List.mem_append_left _ (List.mem_of_getElem? (i := 114) rfl))), rfl⟩
theorem wd_355 : (Jvm.Cond.fieldLink "ParlourLeaves$HouseText" (12 : Nat) "ParlourLeaves$HouseText" "draft" "LParlourLeaves$House;") ∈ zTB := List.mem_filter.mpr ⟨List.mem_append_right _ (List.mem_append_right _ (List.mem_append_left _ (List.mem_of_getElem? (i := 115) rfl))), rfl⟩
theorem wd_357 : (Jvm.Cond.fieldLink "ParlourLeaves$HouseText" (25 : Nat) "ParlourLeaves$HouseText" "dustyTold" "Z") ∈ zTB := List.mem_filter.mpr ⟨List.mem_append_right _ (List.mem_append_right _ (List.mem_append_left _ (List.mem_of_getElem? (i := 117) rfl))), rfl⟩
theorem wd_358 : (Jvm.Cond.fieldLink "ParlourLeaves$HouseText" (29 : Nat) "ParlourLeaves$HouseText" "proofTold" "Z") ∈ zTB := List.mem_filter.mpr ⟨List.mem_append_right _ (List.mem_append_right _ (List.mem_append_left _ (List.mem_of_getElem? (i := 118) rfl))), rfl⟩
theorem wd_359 : (Jvm.Cond.laysFinal "ParlourLeaves$HouseText" "ParlourLeaves$HouseText" "tape" "LParlourLeaves$Tape;") ∈ zTB := List.mem_filter.mpr ⟨List.mem_append_right _ (List.mem_append_right _ (List.mem_append_left _ (List.mem_of_getElem? (i := 119) rfl))), rfl⟩
theorem wd_361 : (Jvm.Cond.laysFinal "ParlourLeaves$HouseText" "ParlourLeaves$HouseText" "draft" "LParlourLeaves$House;") ∈ zTB := List.mem_filter.mpr ⟨List.mem_append_right _ (List.mem_append_right _ (List.mem_append_left _ (List.mem_of_getElem? (i := 121) rfl))), rfl⟩
theorem wd_363 : (Jvm.Cond.lays "ParlourLeaves$HouseText" "ParlourLeaves$HouseText" "dustyTold" "Z") ∈ zTB := List.mem_filter.mpr ⟨List.mem_append_right _ (List.mem_append_right _ (List.mem_append_left _ (List.mem_of_getElem? (i := 123) rfl))), rfl⟩
theorem wd_365 : (Jvm.Cond.lays "ParlourLeaves$HouseText" "ParlourLeaves$HouseText" "proofTold" "Z") ∈ zTB := List.mem_filter.mpr ⟨List.mem_append_right _ (List.mem_append_right _ (List.mem_append_left _ (List.mem_of_getElem? (i := 125) rfl))), rfl⟩
theorem wd_609 : (Jvm.Cond.methodLink "ParlourLeaves$HouseText" (65 : Nat) ({ cls := "ParlourLeaves$Tape", name := "fail", desc := "(I)Z" } : Jvm.MethodName)) ∈ zTB := List.mem_filter.mpr ⟨List.mem_append_right _ (List.mem_append_right _ (List.mem_append_right _ (List.mem_append_left _ (List.mem_of_getElem? (i := 129) rfl)))), rfl⟩
theorem wd_617 : (Jvm.Cond.methodLink "ParlourLeaves$HouseText" (71 : Nat) ({ cls := "ParlourLeaves$Tape", name := "read", desc := "()V" } : Jvm.MethodName)) ∈ zTB := List.mem_filter.mpr ⟨List.mem_append_right _ (List.mem_append_right _ (List.mem_append_right _ (List.mem_append_left _ (List.mem_of_getElem? (i := 137) rfl)))), rfl⟩
theorem wd_630 : (Jvm.Cond.methodLink "ParlourLeaves$HouseText" (90 : Nat) ({ cls := "ParlourLeaves$Tape", name := "takeKnown", desc := "(LParlourLeaves$House;I)I" } : Jvm.MethodName)) ∈ zTB := List.mem_filter.mpr ⟨List.mem_append_right _ (List.mem_append_right _ (List.mem_append_right _ (List.mem_append_left _ (List.mem_of_getElem? (i := 150) rfl)))), rfl⟩
theorem wd_636 : (Jvm.Cond.methodLink "ParlourLeaves$HouseText" (94 : Nat) ({ cls := "ParlourLeaves$Tape", name := "takeNumber", desc := "(II)I" } : Jvm.MethodName)) ∈ zTB := List.mem_filter.mpr ⟨List.mem_append_right _ (List.mem_append_right _ (List.mem_append_right _ (List.mem_append_left _ (List.mem_of_getElem? (i := 156) rfl)))), rfl⟩
theorem wd_647 : (Jvm.Cond.methodLink "ParlourLeaves$HouseText" (117 : Nat) ({ cls := "ParlourLeaves$Tape", name := "failAt", desc := "(II)Z" } : Jvm.MethodName)) ∈ zTB := List.mem_filter.mpr ⟨List.mem_append_right _ (List.mem_append_right _ (List.mem_append_right _ (List.mem_append_left _ (List.mem_of_getElem? (i := 167) rfl)))), rfl⟩
theorem wd_648 : (Jvm.Cond.methodLink "ParlourLeaves$HouseText" (120 : Nat) ({ cls := "ParlourLeaves$House", name := "addSight", desc := "(II)V" } : Jvm.MethodName)) ∈ zTB := List.mem_filter.mpr ⟨List.mem_append_right _ (List.mem_append_right _ (List.mem_append_right _ (List.mem_append_left _ (List.mem_of_getElem? (i := 168) rfl)))), rfl⟩
theorem wd_649 : (Jvm.Cond.instanceMethod ({ cls := "ParlourLeaves$House", name := "addSight", desc := "(II)V" } : Jvm.MethodName)) ∈ zTB := List.mem_filter.mpr ⟨List.mem_append_right _ (List.mem_append_right _ (List.mem_append_right _ (List.mem_append_left _ (List.mem_of_getElem? (i := 169) rfl)))), rfl⟩
theorem wd_650 : (Jvm.Cond.selects "ParlourLeaves$House" ({ cls := "ParlourLeaves$House", name := "addSight", desc := "(II)V" } : Jvm.MethodName) ({ cls := "ParlourLeaves$House", name := "addSight", desc := "(II)V" } : Jvm.MethodName)) ∈ zTB := List.mem_filter.mpr ⟨List.mem_append_right _ (List.mem_append_right _ (List.mem_append_right _ (List.mem_append_left _ (List.mem_of_getElem? (i := 170) rfl)))), rfl⟩
theorem wd_651 : (Jvm.Cond.code ({ cls := "ParlourLeaves$House", name := "addSight", desc := "(II)V" } : Jvm.MethodName) prog_5_method_8_code (3 : Nat) (Option.none : Option Jvm.ClassFile.FieldType)) ∈ zTB := List.mem_filter.mpr ⟨List.mem_append_right _ (List.mem_append_right _ (List.mem_append_right _ (List.mem_append_left _ (List.mem_of_getElem? (i := 171) rfl)))), rfl⟩
theorem wd_852 : (Jvm.Cond.methodLink "ParlourLeaves" (271 : Nat) ({ cls := "ParlourLeaves$Past", name := "takeBack", desc := "(LParlourLeaves$Life;)I" } : Jvm.MethodName)) ∈ zTB := List.mem_filter.mpr ⟨List.mem_append_right _ (List.mem_append_right _ (List.mem_append_right _ (List.mem_append_right _ (List.mem_append_left _ (List.mem_of_getElem? (i := 132) rfl))))), rfl⟩
theorem wd_853 : (Jvm.Cond.instanceMethod ({ cls := "ParlourLeaves$Past", name := "takeBack", desc := "(LParlourLeaves$Life;)I" } : Jvm.MethodName)) ∈ zTB := List.mem_filter.mpr ⟨List.mem_append_right _ (List.mem_append_right _ (List.mem_append_right _ (List.mem_append_right _ (List.mem_append_left _ (List.mem_of_getElem? (i := 133) rfl))))), rfl⟩
theorem wd_854 : (Jvm.Cond.selects "ParlourLeaves$Past" ({ cls := "ParlourLeaves$Past", name := "takeBack", desc := "(LParlourLeaves$Life;)I" } : Jvm.MethodName) ({ cls := "ParlourLeaves$Past", name := "takeBack", desc := "(LParlourLeaves$Life;)I" } : Jvm.MethodName)) ∈ zTB := List.mem_filter.mpr ⟨List.mem_append_right _ (List.mem_append_right _ (List.mem_append_right _ (List.mem_append_right _ (List.mem_append_left _ (List.mem_of_getElem? (i := 134) rfl))))), rfl⟩
theorem wd_855 : (Jvm.Cond.code ({ cls := "ParlourLeaves$Past", name := "takeBack", desc := "(LParlourLeaves$Life;)I" } : Jvm.MethodName) prog_9_method_4_code (2 : Nat) (Option.some Jvm.ClassFile.FieldType.int)) ∈ zTB := List.mem_filter.mpr ⟨List.mem_append_right _ (List.mem_append_right _ (List.mem_append_right _ (List.mem_append_right _ (List.mem_append_left _ (List.mem_of_getElem? (i := 135) rfl))))), rfl⟩
theorem wd_1485 : (Jvm.Cond.fieldLink "ParlourLeavesModel" (1 : Nat) "ParlourLeavesModel" "thrown" "I") ∈ zTB := List.mem_filter.mpr ⟨List.mem_append_right _ (List.mem_append_right _ (List.mem_append_right _ (List.mem_append_right _ (List.mem_append_right _ (List.mem_append_right _ (List.mem_append_right _ (List.mem_append_left _ (List.mem_of_getElem? (i := 45) rfl)))))))), rfl⟩
theorem wd_1486 : (Jvm.Cond.fieldLink "ParlourLeavesModel" (7 : Nat) "ParlourLeavesModel" "tape" "[I") ∈ zTB := List.mem_filter.mpr ⟨List.mem_append_right _ (List.mem_append_right _ (List.mem_append_right _ (List.mem_append_right _ (List.mem_append_right _ (List.mem_append_right _ (List.mem_append_right _ (List.mem_append_left _ (List.mem_of_getElem? (i := 46) rfl)))))))), rfl⟩
theorem wd_1488 : (Jvm.Cond.fieldLink "ParlourLeavesModel" (18 : Nat) "ParlourLeavesModel" "size" "I") ∈ zTB := List.mem_filter.mpr ⟨List.mem_append_right _ (List.mem_append_right _ (List.mem_append_right _ (List.mem_append_right _ (List.mem_append_right _ (List.mem_append_right _ (List.mem_append_right _ (List.mem_append_left _ (List.mem_of_getElem? (i := 48) rfl)))))))), rfl⟩
theorem wd_1489 : (Jvm.Cond.fieldLink "ParlourLeavesModel" (27 : Nat) "ParlourLeavesModel" "limit" "I") ∈ zTB := List.mem_filter.mpr ⟨List.mem_append_right _ (List.mem_append_right _ (List.mem_append_right _ (List.mem_append_right _ (List.mem_append_right _ (List.mem_append_right _ (List.mem_append_right _ (List.mem_append_left _ (List.mem_of_getElem? (i := 49) rfl)))))))), rfl⟩
theorem wd_1490 : (Jvm.Cond.fieldLink "ParlourLeavesModel" (21 : Nat) "ParlourLeavesModel" "to" "I") ∈ zTB := List.mem_filter.mpr ⟨List.mem_append_right _ (List.mem_append_right _ (List.mem_append_right _ (List.mem_append_right _ (List.mem_append_right _ (List.mem_append_right _ (List.mem_append_right _ (List.mem_append_left _ (List.mem_of_getElem? (i := 50) rfl)))))))), rfl⟩
theorem wd_1491 : (Jvm.Cond.fieldLink "ParlourLeavesModel" (24 : Nat) "ParlourLeavesModel" "from" "I") ∈ zTB := List.mem_filter.mpr ⟨List.mem_append_right _ (List.mem_append_right _ (List.mem_append_right _ (List.mem_append_right _ (List.mem_append_right _ (List.mem_append_right _ (List.mem_append_right _ (List.mem_append_left _ (List.mem_of_getElem? (i := 51) rfl)))))))), rfl⟩
theorem wd_1492 : (Jvm.Cond.fieldLink "ParlourLeavesModel" (30 : Nat) "ParlourLeavesModel" "kind" "I") ∈ zTB := List.mem_filter.mpr ⟨List.mem_append_right _ (List.mem_append_right _ (List.mem_append_right _ (List.mem_append_right _ (List.mem_append_right _ (List.mem_append_right _ (List.mem_append_right _ (List.mem_append_left _ (List.mem_of_getElem? (i := 52) rfl)))))))), rfl⟩
theorem wd_1493 : (Jvm.Cond.fieldLink "ParlourLeavesModel" (47 : Nat) "ParlourLeavesModel" "number" "I") ∈ zTB := List.mem_filter.mpr ⟨List.mem_append_right _ (List.mem_append_right _ (List.mem_append_right _ (List.mem_append_right _ (List.mem_append_right _ (List.mem_append_right _ (List.mem_append_right _ (List.mem_append_left _ (List.mem_of_getElem? (i := 53) rfl)))))))), rfl⟩
theorem wd_1494 : (Jvm.Cond.fieldLink "ParlourLeavesModel" (40 : Nat) "ParlourLeavesModel" "sign" "I") ∈ zTB := List.mem_filter.mpr ⟨List.mem_append_right _ (List.mem_append_right _ (List.mem_append_right _ (List.mem_append_right _ (List.mem_append_right _ (List.mem_append_right _ (List.mem_append_right _ (List.mem_append_left _ (List.mem_of_getElem? (i := 54) rfl)))))))), rfl⟩
theorem wd_1495 : (Jvm.Cond.fieldLink "ParlourLeavesModel" (66 : Nat) "ParlourLeavesModel" "fault" "I") ∈ zTB := List.mem_filter.mpr ⟨List.mem_append_right _ (List.mem_append_right _ (List.mem_append_right _ (List.mem_append_right _ (List.mem_append_right _ (List.mem_append_right _ (List.mem_append_right _ (List.mem_append_left _ (List.mem_of_getElem? (i := 55) rfl)))))))), rfl⟩
theorem wd_1496 : (Jvm.Cond.fieldLink "ParlourLeavesModel" (69 : Nat) "ParlourLeavesModel" "place" "I") ∈ zTB := List.mem_filter.mpr ⟨List.mem_append_right _ (List.mem_append_right _ (List.mem_append_right _ (List.mem_append_right _ (List.mem_append_right _ (List.mem_append_right _ (List.mem_append_right _ (List.mem_append_left _ (List.mem_of_getElem? (i := 56) rfl)))))))), rfl⟩
theorem wd_1497 : (Jvm.Cond.fieldLink "ParlourLeavesModel" (43 : Nat) "ParlourLeavesModel" "word" "J") ∈ zTB := List.mem_filter.mpr ⟨List.mem_append_right _ (List.mem_append_right _ (List.mem_append_right _ (List.mem_append_right _ (List.mem_append_right _ (List.mem_append_right _ (List.mem_append_right _ (List.mem_append_left _ (List.mem_of_getElem? (i := 57) rfl)))))))), rfl⟩
theorem wd_1499 : (Jvm.Cond.fieldLink "ParlourLeavesModel" (98 : Nat) "ParlourLeavesModel" "now" "[I") ∈ zTB := List.mem_filter.mpr ⟨List.mem_append_right _ (List.mem_append_right _ (List.mem_append_right _ (List.mem_append_right _ (List.mem_append_right _ (List.mem_append_right _ (List.mem_append_right _ (List.mem_append_left _ (List.mem_of_getElem? (i := 59) rfl)))))))), rfl⟩
theorem wd_1510 : (Jvm.Cond.fieldLink "ParlourLeavesModel" (130 : Nat) "ParlourLeavesModel" "asking" "I") ∈ zTB := List.mem_filter.mpr ⟨List.mem_append_right _ (List.mem_append_right _ (List.mem_append_right _ (List.mem_append_right _ (List.mem_append_right _ (List.mem_append_right _ (List.mem_append_right _ (List.mem_append_left _ (List.mem_of_getElem? (i := 70) rfl)))))))), rfl⟩
theorem wd_1530 : (Jvm.Cond.lays "ParlourLeavesModel" "ParlourLeavesModel" "thrown" "I") ∈ zTB := List.mem_filter.mpr ⟨List.mem_append_right _ (List.mem_append_right _ (List.mem_append_right _ (List.mem_append_right _ (List.mem_append_right _ (List.mem_append_right _ (List.mem_append_right _ (List.mem_append_left _ (List.mem_of_getElem? (i := 90) rfl)))))))), rfl⟩
theorem wd_1532 : (Jvm.Cond.laysFinal "ParlourLeavesModel" "ParlourLeavesModel" "tape" "[I") ∈ zTB := List.mem_filter.mpr ⟨List.mem_append_right _ (List.mem_append_right _ (List.mem_append_right _ (List.mem_append_right _ (List.mem_append_right _ (List.mem_append_right _ (List.mem_append_right _ (List.mem_append_left _ (List.mem_of_getElem? (i := 92) rfl)))))))), rfl⟩
theorem wd_1534 : (Jvm.Cond.lays "ParlourLeavesModel" "ParlourLeavesModel" "taped" "I") ∈ zTB := List.mem_filter.mpr ⟨List.mem_append_right _ (List.mem_append_right _ (List.mem_append_right _ (List.mem_append_right _ (List.mem_append_right _ (List.mem_append_right _ (List.mem_append_right _ (List.mem_append_left _ (List.mem_of_getElem? (i := 94) rfl)))))))), rfl⟩
theorem wd_1536 : (Jvm.Cond.lays "ParlourLeavesModel" "ParlourLeavesModel" "size" "I") ∈ zTB := List.mem_filter.mpr ⟨List.mem_append_right _ (List.mem_append_right _ (List.mem_append_right _ (List.mem_append_right _ (List.mem_append_right _ (List.mem_append_right _ (List.mem_append_right _ (List.mem_append_left _ (List.mem_of_getElem? (i := 96) rfl)))))))), rfl⟩
theorem wd_1538 : (Jvm.Cond.lays "ParlourLeavesModel" "ParlourLeavesModel" "limit" "I") ∈ zTB := List.mem_filter.mpr ⟨List.mem_append_right _ (List.mem_append_right _ (List.mem_append_right _ (List.mem_append_right _ (List.mem_append_right _ (List.mem_append_right _ (List.mem_append_right _ (List.mem_append_left _ (List.mem_of_getElem? (i := 98) rfl)))))))), rfl⟩
theorem wd_1540 : (Jvm.Cond.lays "ParlourLeavesModel" "ParlourLeavesModel" "to" "I") ∈ zTB := List.mem_filter.mpr ⟨List.mem_append_right _ (List.mem_append_right _ (List.mem_append_right _ (List.mem_append_right _ (List.mem_append_right _ (List.mem_append_right _ (List.mem_append_right _ (List.mem_append_left _ (List.mem_of_getElem? (i := 100) rfl)))))))), rfl⟩
theorem wd_1542 : (Jvm.Cond.lays "ParlourLeavesModel" "ParlourLeavesModel" "from" "I") ∈ zTB := List.mem_filter.mpr ⟨List.mem_append_right _ (List.mem_append_right _ (List.mem_append_right _ (List.mem_append_right _ (List.mem_append_right _ (List.mem_append_right _ (List.mem_append_right _ (List.mem_append_left _ (List.mem_of_getElem? (i := 102) rfl)))))))), rfl⟩
theorem wd_1544 : (Jvm.Cond.lays "ParlourLeavesModel" "ParlourLeavesModel" "kind" "I") ∈ zTB := List.mem_filter.mpr ⟨List.mem_append_right _ (List.mem_append_right _ (List.mem_append_right _ (List.mem_append_right _ (List.mem_append_right _ (List.mem_append_right _ (List.mem_append_right _ (List.mem_append_left _ (List.mem_of_getElem? (i := 104) rfl)))))))), rfl⟩
theorem wd_1546 : (Jvm.Cond.lays "ParlourLeavesModel" "ParlourLeavesModel" "number" "I") ∈ zTB := List.mem_filter.mpr ⟨List.mem_append_right _ (List.mem_append_right _ (List.mem_append_right _ (List.mem_append_right _ (List.mem_append_right _ (List.mem_append_right _ (List.mem_append_right _ (List.mem_append_left _ (List.mem_of_getElem? (i := 106) rfl)))))))), rfl⟩
theorem wd_1548 : (Jvm.Cond.lays "ParlourLeavesModel" "ParlourLeavesModel" "sign" "I") ∈ zTB := List.mem_filter.mpr ⟨List.mem_append_right _ (List.mem_append_right _ (List.mem_append_right _ (List.mem_append_right _ (List.mem_append_right _ (List.mem_append_right _ (List.mem_append_right _ (List.mem_append_left _ (List.mem_of_getElem? (i := 108) rfl)))))))), rfl⟩
theorem wd_1550 : (Jvm.Cond.lays "ParlourLeavesModel" "ParlourLeavesModel" "fault" "I") ∈ zTB := List.mem_filter.mpr ⟨List.mem_append_right _ (List.mem_append_right _ (List.mem_append_right _ (List.mem_append_right _ (List.mem_append_right _ (List.mem_append_right _ (List.mem_append_right _ (List.mem_append_left _ (List.mem_of_getElem? (i := 110) rfl)))))))), rfl⟩
theorem wd_1552 : (Jvm.Cond.lays "ParlourLeavesModel" "ParlourLeavesModel" "place" "I") ∈ zTB := List.mem_filter.mpr ⟨List.mem_append_right _ (List.mem_append_right _ (List.mem_append_right _ (List.mem_append_right _ (List.mem_append_right _ (List.mem_append_right _ (List.mem_append_right _ (List.mem_append_left _ (List.mem_of_getElem? (i := 112) rfl)))))))), rfl⟩
theorem wd_1554 : (Jvm.Cond.lays "ParlourLeavesModel" "ParlourLeavesModel" "word" "J") ∈ zTB := List.mem_filter.mpr ⟨List.mem_append_right _ (List.mem_append_right _ (List.mem_append_right _ (List.mem_append_right _ (List.mem_append_right _ (List.mem_append_right _ (List.mem_append_right _ (List.mem_append_left _ (List.mem_of_getElem? (i := 114) rfl)))))))), rfl⟩
theorem wd_1556 : (Jvm.Cond.lays "ParlourLeavesModel" "ParlourLeavesModel" "told" "I") ∈ zTB := List.mem_filter.mpr ⟨List.mem_append_right _ (List.mem_append_right _ (List.mem_append_right _ (List.mem_append_right _ (List.mem_append_right _ (List.mem_append_right _ (List.mem_append_right _ (List.mem_append_left _ (List.mem_of_getElem? (i := 116) rfl)))))))), rfl⟩
theorem wd_1558 : (Jvm.Cond.laysFinal "ParlourLeavesModel" "ParlourLeavesModel" "now" "[I") ∈ zTB := List.mem_filter.mpr ⟨List.mem_append_right _ (List.mem_append_right _ (List.mem_append_right _ (List.mem_append_right _ (List.mem_append_right _ (List.mem_append_right _ (List.mem_append_right _ (List.mem_append_left _ (List.mem_of_getElem? (i := 118) rfl)))))))), rfl⟩
theorem wd_1560 : (Jvm.Cond.laysFinal "ParlourLeavesModel" "ParlourLeavesModel" "read" "[I") ∈ zTB := List.mem_filter.mpr ⟨List.mem_append_right _ (List.mem_append_right _ (List.mem_append_right _ (List.mem_append_right _ (List.mem_append_right _ (List.mem_append_right _ (List.mem_append_right _ (List.mem_append_left _ (List.mem_of_getElem? (i := 120) rfl)))))))), rfl⟩
theorem wd_1562 : (Jvm.Cond.laysFinal "ParlourLeavesModel" "ParlourLeavesModel" "kept" "[I") ∈ zTB := List.mem_filter.mpr ⟨List.mem_append_right _ (List.mem_append_right _ (List.mem_append_right _ (List.mem_append_right _ (List.mem_append_right _ (List.mem_append_right _ (List.mem_append_right _ (List.mem_append_left _ (List.mem_of_getElem? (i := 122) rfl)))))))), rfl⟩
theorem wd_1564 : (Jvm.Cond.laysFinal "ParlourLeavesModel" "ParlourLeavesModel" "snaps" "[I") ∈ zTB := List.mem_filter.mpr ⟨List.mem_append_right _ (List.mem_append_right _ (List.mem_append_right _ (List.mem_append_right _ (List.mem_append_right _ (List.mem_append_right _ (List.mem_append_right _ (List.mem_append_left _ (List.mem_of_getElem? (i := 124) rfl)))))))), rfl⟩
theorem wd_1566 : (Jvm.Cond.laysFinal "ParlourLeavesModel" "ParlourLeavesModel" "aside" "[I") ∈ zTB := List.mem_filter.mpr ⟨List.mem_append_right _ (List.mem_append_right _ (List.mem_append_right _ (List.mem_append_right _ (List.mem_append_right _ (List.mem_append_right _ (List.mem_append_right _ (List.mem_append_left _ (List.mem_of_getElem? (i := 126) rfl)))))))), rfl⟩
theorem wd_1568 : (Jvm.Cond.laysFinal "ParlourLeavesModel" "ParlourLeavesModel" "name" "[J") ∈ zTB := List.mem_filter.mpr ⟨List.mem_append_right _ (List.mem_append_right _ (List.mem_append_right _ (List.mem_append_right _ (List.mem_append_right _ (List.mem_append_right _ (List.mem_append_right _ (List.mem_append_left _ (List.mem_of_getElem? (i := 128) rfl)))))))), rfl⟩
theorem wd_1570 : (Jvm.Cond.laysFinal "ParlourLeavesModel" "ParlourLeavesModel" "readName" "[J") ∈ zTB := List.mem_filter.mpr ⟨List.mem_append_right _ (List.mem_append_right _ (List.mem_append_right _ (List.mem_append_right _ (List.mem_append_right _ (List.mem_append_right _ (List.mem_append_right _ (List.mem_append_left _ (List.mem_of_getElem? (i := 130) rfl)))))))), rfl⟩
theorem wd_1572 : (Jvm.Cond.laysFinal "ParlourLeavesModel" "ParlourLeavesModel" "keptName" "[J") ∈ zTB := List.mem_filter.mpr ⟨List.mem_append_right _ (List.mem_append_right _ (List.mem_append_right _ (List.mem_append_right _ (List.mem_append_right _ (List.mem_append_right _ (List.mem_append_right _ (List.mem_append_left _ (List.mem_of_getElem? (i := 132) rfl)))))))), rfl⟩
theorem wd_1574 : (Jvm.Cond.laysFinal "ParlourLeavesModel" "ParlourLeavesModel" "isKept" "[Z") ∈ zTB := List.mem_filter.mpr ⟨List.mem_append_right _ (List.mem_append_right _ (List.mem_append_right _ (List.mem_append_right _ (List.mem_append_right _ (List.mem_append_right _ (List.mem_append_right _ (List.mem_append_left _ (List.mem_of_getElem? (i := 134) rfl)))))))), rfl⟩
theorem wd_1576 : (Jvm.Cond.laysFinal "ParlourLeavesModel" "ParlourLeavesModel" "onces" "[Z") ∈ zTB := List.mem_filter.mpr ⟨List.mem_append_right _ (List.mem_append_right _ (List.mem_append_right _ (List.mem_append_right _ (List.mem_append_right _ (List.mem_append_right _ (List.mem_append_right _ (List.mem_append_left _ (List.mem_of_getElem? (i := 136) rfl)))))))), rfl⟩
theorem wd_1578 : (Jvm.Cond.lays "ParlourLeavesModel" "ParlourLeavesModel" "snapMany" "I") ∈ zTB := List.mem_filter.mpr ⟨List.mem_append_right _ (List.mem_append_right _ (List.mem_append_right _ (List.mem_append_right _ (List.mem_append_right _ (List.mem_append_right _ (List.mem_append_right _ (List.mem_append_left _ (List.mem_of_getElem? (i := 138) rfl)))))))), rfl⟩
theorem wd_1580 : (Jvm.Cond.lays "ParlourLeavesModel" "ParlourLeavesModel" "asking" "I") ∈ zTB := List.mem_filter.mpr ⟨List.mem_append_right _ (List.mem_append_right _ (List.mem_append_right _ (List.mem_append_right _ (List.mem_append_right _ (List.mem_append_right _ (List.mem_append_right _ (List.mem_append_left _ (List.mem_of_getElem? (i := 140) rfl)))))))), rfl⟩
theorem wd_1582 : (Jvm.Cond.lays "ParlourLeavesModel" "ParlourLeavesModel" "covering" "I") ∈ zTB := List.mem_filter.mpr ⟨List.mem_append_right _ (List.mem_append_right _ (List.mem_append_right _ (List.mem_append_right _ (List.mem_append_right _ (List.mem_append_right _ (List.mem_append_right _ (List.mem_append_left _ (List.mem_of_getElem? (i := 142) rfl)))))))), rfl⟩
theorem wd_1584 : (Jvm.Cond.laysFinal "ParlourLeavesModel" "ParlourLeavesModel" "steps" "[I") ∈ zTB := List.mem_filter.mpr ⟨List.mem_append_right _ (List.mem_append_right _ (List.mem_append_right _ (List.mem_append_right _ (List.mem_append_right _ (List.mem_append_right _ (List.mem_append_right _ (List.mem_append_left _ (List.mem_of_getElem? (i := 144) rfl)))))))), rfl⟩
theorem wd_1586 : (Jvm.Cond.laysFinal "ParlourLeavesModel" "ParlourLeavesModel" "walk" "[I") ∈ zTB := List.mem_filter.mpr ⟨List.mem_append_right _ (List.mem_append_right _ (List.mem_append_right _ (List.mem_append_right _ (List.mem_append_right _ (List.mem_append_right _ (List.mem_append_right _ (List.mem_append_left _ (List.mem_of_getElem? (i := 146) rfl)))))))), rfl⟩
theorem wd_1588 : (Jvm.Cond.lays "ParlourLeavesModel" "ParlourLeavesModel" "walkMany" "I") ∈ zTB := List.mem_filter.mpr ⟨List.mem_append_right _ (List.mem_append_right _ (List.mem_append_right _ (List.mem_append_right _ (List.mem_append_right _ (List.mem_append_right _ (List.mem_append_right _ (List.mem_append_left _ (List.mem_of_getElem? (i := 148) rfl)))))))), rfl⟩
theorem wd_1590 : (Jvm.Cond.laysFinal "ParlourLeavesModel" "ParlourLeavesModel" "chosen" "[I") ∈ zTB := List.mem_filter.mpr ⟨List.mem_append_right _ (List.mem_append_right _ (List.mem_append_right _ (List.mem_append_right _ (List.mem_append_right _ (List.mem_append_right _ (List.mem_append_right _ (List.mem_append_left _ (List.mem_of_getElem? (i := 150) rfl)))))))), rfl⟩
theorem wd_1592 : (Jvm.Cond.lays "ParlourLeavesModel" "ParlourLeavesModel" "hasChosen" "Z") ∈ zTB := List.mem_filter.mpr ⟨List.mem_append_right _ (List.mem_append_right _ (List.mem_append_right _ (List.mem_append_right _ (List.mem_append_right _ (List.mem_append_right _ (List.mem_append_right _ (List.mem_append_left _ (List.mem_of_getElem? (i := 152) rfl)))))))), rfl⟩
theorem wd_1594 : (Jvm.Cond.lays "ParlourLeavesModel" "ParlourLeavesModel" "darkest" "I") ∈ zTB := List.mem_filter.mpr ⟨List.mem_append_right _ (List.mem_append_right _ (List.mem_append_right _ (List.mem_append_right _ (List.mem_append_right _ (List.mem_append_right _ (List.mem_append_right _ (List.mem_append_left _ (List.mem_of_getElem? (i := 154) rfl)))))))), rfl⟩
theorem wd_1596 : (Jvm.Cond.laysFinal "ParlourLeavesModel" "ParlourLeavesModel" "text" "[I") ∈ zTB := List.mem_filter.mpr ⟨List.mem_append_right _ (List.mem_append_right _ (List.mem_append_right _ (List.mem_append_right _ (List.mem_append_right _ (List.mem_append_right _ (List.mem_append_right _ (List.mem_append_left _ (List.mem_of_getElem? (i := 156) rfl)))))))), rfl⟩
theorem wd_1598 : (Jvm.Cond.lays "ParlourLeavesModel" "ParlourLeavesModel" "texts" "I") ∈ zTB := List.mem_filter.mpr ⟨List.mem_append_right _ (List.mem_append_right _ (List.mem_append_right _ (List.mem_append_right _ (List.mem_append_right _ (List.mem_append_right _ (List.mem_append_right _ (List.mem_append_left _ (List.mem_of_getElem? (i := 158) rfl)))))))), rfl⟩
theorem wd_1600 : (Jvm.Cond.lays "ParlourLeavesModel" "ParlourLeavesModel" "seed" "I") ∈ zTB := List.mem_filter.mpr ⟨List.mem_append_right _ (List.mem_append_right _ (List.mem_append_right _ (List.mem_append_right _ (List.mem_append_right _ (List.mem_append_right _ (List.mem_append_right _ (List.mem_append_left _ (List.mem_of_getElem? (i := 160) rfl)))))))), rfl⟩
theorem wd_1602 : (Jvm.Cond.laysFinal "ParlourLeavesModel" "ParlourLeavesModel" "line" "[I") ∈ zTB := List.mem_filter.mpr ⟨List.mem_append_right _ (List.mem_append_right _ (List.mem_append_right _ (List.mem_append_right _ (List.mem_append_right _ (List.mem_append_right _ (List.mem_append_right _ (List.mem_append_left _ (List.mem_of_getElem? (i := 162) rfl)))))))), rfl⟩
theorem wd_1604 : (Jvm.Cond.laysFinal "ParlourLeavesModel" "ParlourLeavesModel" "written" "[I") ∈ zTB := List.mem_filter.mpr ⟨List.mem_append_right _ (List.mem_append_right _ (List.mem_append_right _ (List.mem_append_right _ (List.mem_append_right _ (List.mem_append_right _ (List.mem_append_right _ (List.mem_append_left _ (List.mem_of_getElem? (i := 164) rfl)))))))), rfl⟩
theorem wd_1606 : (Jvm.Cond.lays "ParlourLeavesModel" "ParlourLeavesModel" "lineMany" "I") ∈ zTB := List.mem_filter.mpr ⟨List.mem_append_right _ (List.mem_append_right _ (List.mem_append_right _ (List.mem_append_right _ (List.mem_append_right _ (List.mem_append_right _ (List.mem_append_right _ (List.mem_append_left _ (List.mem_of_getElem? (i := 166) rfl)))))))), rfl⟩
theorem wd_1608 : (Jvm.Cond.lays "ParlourLeavesModel" "ParlourLeavesModel" "hasWritten" "Z") ∈ zTB := List.mem_filter.mpr ⟨List.mem_append_right _ (List.mem_append_right _ (List.mem_append_right _ (List.mem_append_right _ (List.mem_append_right _ (List.mem_append_right _ (List.mem_append_right _ (List.mem_append_left _ (List.mem_of_getElem? (i := 168) rfl)))))))), rfl⟩
theorem wd_1610 : (Jvm.Cond.laysFinal "ParlourLeavesModel" "ParlourLeavesModel" "node" "[I") ∈ zTB := List.mem_filter.mpr ⟨List.mem_append_right _ (List.mem_append_right _ (List.mem_append_right _ (List.mem_append_right _ (List.mem_append_right _ (List.mem_append_right _ (List.mem_append_right _ (List.mem_append_left _ (List.mem_of_getElem? (i := 170) rfl)))))))), rfl⟩
theorem wd_1612 : (Jvm.Cond.lays "ParlourLeavesModel" "ParlourLeavesModel" "nodes" "I") ∈ zTB := List.mem_filter.mpr ⟨List.mem_append_right _ (List.mem_append_right _ (List.mem_append_right _ (List.mem_append_right _ (List.mem_append_right _ (List.mem_append_right _ (List.mem_append_right _ (List.mem_append_left _ (List.mem_of_getElem? (i := 172) rfl)))))))), rfl⟩
theorem wd_1614 : (Jvm.Cond.lays "ParlourLeavesModel" "ParlourLeavesModel" "onesMany" "I") ∈ zTB := List.mem_filter.mpr ⟨List.mem_append_right _ (List.mem_append_right _ (List.mem_append_right _ (List.mem_append_right _ (List.mem_append_right _ (List.mem_append_right _ (List.mem_append_right _ (List.mem_append_left _ (List.mem_of_getElem? (i := 174) rfl)))))))), rfl⟩
theorem wd_1616 : (Jvm.Cond.lays "ParlourLeavesModel" "ParlourLeavesModel" "within" "I") ∈ zTB := List.mem_filter.mpr ⟨List.mem_append_right _ (List.mem_append_right _ (List.mem_append_right _ (List.mem_append_right _ (List.mem_append_right _ (List.mem_append_right _ (List.mem_append_right _ (List.mem_append_left _ (List.mem_of_getElem? (i := 176) rfl)))))))), rfl⟩
theorem wd_1618 : (Jvm.Cond.lays "ParlourLeavesModel" "ParlourLeavesModel" "top" "I") ∈ zTB := List.mem_filter.mpr ⟨List.mem_append_right _ (List.mem_append_right _ (List.mem_append_right _ (List.mem_append_right _ (List.mem_append_right _ (List.mem_append_right _ (List.mem_append_right _ (List.mem_append_left _ (List.mem_of_getElem? (i := 178) rfl)))))))), rfl⟩
theorem wd_1637 : (Jvm.Cond.methodLink "ParlourLeavesModel" (33 : Nat) ({ cls := "ParlourLeavesModel", name := "isLetter", desc := "(I)Z" } : Jvm.MethodName)) ∈ zTB := List.mem_filter.mpr ⟨List.mem_append_right _ (List.mem_append_right _ (List.mem_append_right _ (List.mem_append_right _ (List.mem_append_right _ (List.mem_append_right _ (List.mem_append_right _ (List.mem_append_left _ (List.mem_of_getElem? (i := 197) rfl)))))))), rfl⟩
theorem wd_1638 : (Jvm.Cond.static ({ cls := "ParlourLeavesModel", name := "isLetter", desc := "(I)Z" } : Jvm.MethodName)) ∈ zTB := List.mem_filter.mpr ⟨List.mem_append_right _ (List.mem_append_right _ (List.mem_append_right _ (List.mem_append_right _ (List.mem_append_right _ (List.mem_append_right _ (List.mem_append_right _ (List.mem_append_left _ (List.mem_of_getElem? (i := 198) rfl)))))))), rfl⟩
theorem wd_1639 : (Jvm.Cond.code ({ cls := "ParlourLeavesModel", name := "isLetter", desc := "(I)Z" } : Jvm.MethodName) prog_14_method_15_code (1 : Nat) (Option.some Jvm.ClassFile.FieldType.boolean)) ∈ zTB := List.mem_filter.mpr ⟨List.mem_append_right _ (List.mem_append_right _ (List.mem_append_right _ (List.mem_append_right _ (List.mem_append_right _ (List.mem_append_right _ (List.mem_append_right _ (List.mem_append_left _ (List.mem_of_getElem? (i := 199) rfl)))))))), rfl⟩
theorem wd_1640 : (Jvm.Cond.methodLink "ParlourLeavesModel" (37 : Nat) ({ cls := "ParlourLeavesModel", name := "isDigit", desc := "(I)Z" } : Jvm.MethodName)) ∈ zTB := List.mem_filter.mpr ⟨List.mem_append_right _ (List.mem_append_right _ (List.mem_append_right _ (List.mem_append_right _ (List.mem_append_right _ (List.mem_append_right _ (List.mem_append_right _ (List.mem_append_left _ (List.mem_of_getElem? (i := 200) rfl)))))))), rfl⟩
theorem wd_1641 : (Jvm.Cond.static ({ cls := "ParlourLeavesModel", name := "isDigit", desc := "(I)Z" } : Jvm.MethodName)) ∈ zTB := List.mem_filter.mpr ⟨List.mem_append_right _ (List.mem_append_right _ (List.mem_append_right _ (List.mem_append_right _ (List.mem_append_right _ (List.mem_append_right _ (List.mem_append_right _ (List.mem_append_left _ (List.mem_of_getElem? (i := 201) rfl)))))))), rfl⟩
theorem wd_1642 : (Jvm.Cond.code ({ cls := "ParlourLeavesModel", name := "isDigit", desc := "(I)Z" } : Jvm.MethodName) prog_14_method_14_code (1 : Nat) (Option.some Jvm.ClassFile.FieldType.boolean)) ∈ zTB := List.mem_filter.mpr ⟨List.mem_append_right _ (List.mem_append_right _ (List.mem_append_right _ (List.mem_append_right _ (List.mem_append_right _ (List.mem_append_right _ (List.mem_append_right _ (List.mem_append_left _ (List.mem_of_getElem? (i := 202) rfl)))))))), rfl⟩
theorem wd_1643 : (Jvm.Cond.methodLink "ParlourLeavesModel" (50 : Nat) ({ cls := "ParlourLeavesModel", name := "tapeAt", desc := "(I)I" } : Jvm.MethodName)) ∈ zTB := List.mem_filter.mpr ⟨List.mem_append_right _ (List.mem_append_right _ (List.mem_append_right _ (List.mem_append_right _ (List.mem_append_right _ (List.mem_append_right _ (List.mem_append_right _ (List.mem_append_left _ (List.mem_of_getElem? (i := 203) rfl)))))))), rfl⟩
theorem wd_1645 : (Jvm.Cond.instanceMethod ({ cls := "ParlourLeavesModel", name := "tapeAt", desc := "(I)I" } : Jvm.MethodName)) ∈ zTB := List.mem_filter.mpr ⟨List.mem_append_right _ (List.mem_append_right _ (List.mem_append_right _ (List.mem_append_right _ (List.mem_append_right _ (List.mem_append_right _ (List.mem_append_right _ (List.mem_append_left _ (List.mem_of_getElem? (i := 205) rfl)))))))), rfl⟩
theorem wd_1646 : (Jvm.Cond.code ({ cls := "ParlourLeavesModel", name := "tapeAt", desc := "(I)I" } : Jvm.MethodName) prog_14_method_13_code (2 : Nat) (Option.some Jvm.ClassFile.FieldType.int)) ∈ zTB := List.mem_filter.mpr ⟨List.mem_append_right _ (List.mem_append_right _ (List.mem_append_right _ (List.mem_append_right _ (List.mem_append_right _ (List.mem_append_right _ (List.mem_append_right _ (List.mem_append_left _ (List.mem_of_getElem? (i := 206) rfl)))))))), rfl⟩
theorem wd_1647 : (Jvm.Cond.constantLong "ParlourLeavesModel" (54 : Nat) (27 : Int64)) ∈ zTB := List.mem_filter.mpr ⟨List.mem_append_right _ (List.mem_append_right _ (List.mem_append_right _ (List.mem_append_right _ (List.mem_append_right _ (List.mem_append_right _ (List.mem_append_right _ (List.mem_append_left _ (List.mem_of_getElem? (i := 207) rfl)))))))), rfl⟩
theorem wd_1648 : (Jvm.Cond.constantLong "ParlourLeavesModel" (56 : Nat) (96 : Int64)) ∈ zTB := List.mem_filter.mpr ⟨List.mem_append_right _ (List.mem_append_right _ (List.mem_append_right _ (List.mem_append_right _ (List.mem_append_right _ (List.mem_append_right _ (List.mem_append_right _ (List.mem_append_left _ (List.mem_of_getElem? (i := 208) rfl)))))))), rfl⟩
theorem wd_1713 : (Jvm.Cond.methodLink "ParlourLeavesModel" (75 : Nat) ({ cls := "ParlourLeavesModel", name := "isIn", desc := "(III)Z" } : Jvm.MethodName)) ∈ zTB := List.mem_filter.mpr ⟨List.mem_append_right _ (List.mem_append_right _ (List.mem_append_right _ (List.mem_append_right _ (List.mem_append_right _ (List.mem_append_right _ (List.mem_append_right _ (List.mem_append_right _ (List.mem_append_left _ (List.mem_of_getElem? (i := 33) rfl))))))))), rfl⟩
theorem wd_1714 : (Jvm.Cond.static ({ cls := "ParlourLeavesModel", name := "isIn", desc := "(III)Z" } : Jvm.MethodName)) ∈ zTB := List.mem_filter.mpr ⟨List.mem_append_right _ (List.mem_append_right _ (List.mem_append_right _ (List.mem_append_right _ (List.mem_append_right _ (List.mem_append_right _ (List.mem_append_right _ (List.mem_append_right _ (List.mem_append_left _ (List.mem_of_getElem? (i := 34) rfl))))))))), rfl⟩
theorem wd_1715 : (Jvm.Cond.code ({ cls := "ParlourLeavesModel", name := "isIn", desc := "(III)Z" } : Jvm.MethodName) prog_14_method_7_code (3 : Nat) (Option.some Jvm.ClassFile.FieldType.boolean)) ∈ zTB := List.mem_filter.mpr ⟨List.mem_append_right _ (List.mem_append_right _ (List.mem_append_right _ (List.mem_append_right _ (List.mem_append_right _ (List.mem_append_right _ (List.mem_append_right _ (List.mem_append_right _ (List.mem_append_left _ (List.mem_of_getElem? (i := 35) rfl))))))))), rfl⟩
theorem wd_1740 : (Jvm.Cond.methodLink "ParlourLeavesModel" (247 : Nat) ({ cls := "ParlourLeavesModel", name := "refuse", desc := "()I" } : Jvm.MethodName)) ∈ zTB := List.mem_filter.mpr ⟨List.mem_append_right _ (List.mem_append_right _ (List.mem_append_right _ (List.mem_append_right _ (List.mem_append_right _ (List.mem_append_right _ (List.mem_append_right _ (List.mem_append_right _ (List.mem_append_left _ (List.mem_of_getElem? (i := 60) rfl))))))))), rfl⟩
theorem wd_1742 : (Jvm.Cond.instanceMethod ({ cls := "ParlourLeavesModel", name := "refuse", desc := "()I" } : Jvm.MethodName)) ∈ zTB := List.mem_filter.mpr ⟨List.mem_append_right _ (List.mem_append_right _ (List.mem_append_right _ (List.mem_append_right _ (List.mem_append_right _ (List.mem_append_right _ (List.mem_append_right _ (List.mem_append_right _ (List.mem_append_left _ (List.mem_of_getElem? (i := 62) rfl))))))))), rfl⟩
theorem wd_1743 : (Jvm.Cond.code ({ cls := "ParlourLeavesModel", name := "refuse", desc := "()I" } : Jvm.MethodName) prog_14_method_2_code (1 : Nat) (Option.some Jvm.ClassFile.FieldType.int)) ∈ zTB := List.mem_filter.mpr ⟨List.mem_append_right _ (List.mem_append_right _ (List.mem_append_right _ (List.mem_append_right _ (List.mem_append_right _ (List.mem_append_right _ (List.mem_append_right _ (List.mem_append_right _ (List.mem_append_left _ (List.mem_of_getElem? (i := 63) rfl))))))))), rfl⟩
theorem wd_1760 : (Jvm.Cond.methodLink "ParlourLeavesModel" (228 : Nat) ({ cls := "ParlourLeavesModel", name := "hasCome", desc := "(II)Z" } : Jvm.MethodName)) ∈ zTB := List.mem_filter.mpr ⟨List.mem_append_right _ (List.mem_append_right _ (List.mem_append_right _ (List.mem_append_right _ (List.mem_append_right _ (List.mem_append_right _ (List.mem_append_right _ (List.mem_append_right _ (List.mem_append_left _ (List.mem_of_getElem? (i := 80) rfl))))))))), rfl⟩
theorem wd_1762 : (Jvm.Cond.instanceMethod ({ cls := "ParlourLeavesModel", name := "hasCome", desc := "(II)Z" } : Jvm.MethodName)) ∈ zTB := List.mem_filter.mpr ⟨List.mem_append_right _ (List.mem_append_right _ (List.mem_append_right _ (List.mem_append_right _ (List.mem_append_right _ (List.mem_append_right _ (List.mem_append_right _ (List.mem_append_right _ (List.mem_append_left _ (List.mem_of_getElem? (i := 82) rfl))))))))), rfl⟩
theorem wd_1763 : (Jvm.Cond.code ({ cls := "ParlourLeavesModel", name := "hasCome", desc := "(II)Z" } : Jvm.MethodName) prog_14_method_50_code (3 : Nat) (Option.some Jvm.ClassFile.FieldType.boolean)) ∈ zTB := List.mem_filter.mpr ⟨List.mem_append_right _ (List.mem_append_right _ (List.mem_append_right _ (List.mem_append_right _ (List.mem_append_right _ (List.mem_append_right _ (List.mem_append_right _ (List.mem_append_right _ (List.mem_append_left _ (List.mem_of_getElem? (i := 83) rfl))))))))), rfl⟩
theorem wd_1764 : (Jvm.Cond.methodLink "ParlourLeavesModel" (224 : Nat) ({ cls := "ParlourLeavesModel", name := "leafOf", desc := "(II)I" } : Jvm.MethodName)) ∈ zTB := List.mem_filter.mpr ⟨List.mem_append_right _ (List.mem_append_right _ (List.mem_append_right _ (List.mem_append_right _ (List.mem_append_right _ (List.mem_append_right _ (List.mem_append_right _ (List.mem_append_right _ (List.mem_append_left _ (List.mem_of_getElem? (i := 84) rfl))))))))), rfl⟩
theorem wd_1766 : (Jvm.Cond.instanceMethod ({ cls := "ParlourLeavesModel", name := "leafOf", desc := "(II)I" } : Jvm.MethodName)) ∈ zTB := List.mem_filter.mpr ⟨List.mem_append_right _ (List.mem_append_right _ (List.mem_append_right _ (List.mem_append_right _ (List.mem_append_right _ (List.mem_append_right _ (List.mem_append_right _ (List.mem_append_right _ (List.mem_append_left _ (List.mem_of_getElem? (i := 86) rfl))))))))), rfl⟩
theorem wd_1767 : (Jvm.Cond.code ({ cls := "ParlourLeavesModel", name := "leafOf", desc := "(II)I" } : Jvm.MethodName) prog_14_method_49_code (3 : Nat) (Option.some Jvm.ClassFile.FieldType.int)) ∈ zTB := List.mem_filter.mpr ⟨List.mem_append_right _ (List.mem_append_right _ (List.mem_append_right _ (List.mem_append_right _ (List.mem_append_right _ (List.mem_append_right _ (List.mem_append_right _ (List.mem_append_right _ (List.mem_append_left _ (List.mem_of_getElem? (i := 87) rfl))))))))), rfl⟩
theorem wd_1768 : (Jvm.Cond.methodLink "ParlourLeavesModel" (231 : Nat) ({ cls := "ParlourLeavesModel", name := "willCome", desc := "(II)Z" } : Jvm.MethodName)) ∈ zTB := List.mem_filter.mpr ⟨List.mem_append_right _ (List.mem_append_right _ (List.mem_append_right _ (List.mem_append_right _ (List.mem_append_right _ (List.mem_append_right _ (List.mem_append_right _ (List.mem_append_right _ (List.mem_append_left _ (List.mem_of_getElem? (i := 88) rfl))))))))), rfl⟩
theorem wd_1770 : (Jvm.Cond.instanceMethod ({ cls := "ParlourLeavesModel", name := "willCome", desc := "(II)Z" } : Jvm.MethodName)) ∈ zTB := List.mem_filter.mpr ⟨List.mem_append_right _ (List.mem_append_right _ (List.mem_append_right _ (List.mem_append_right _ (List.mem_append_right _ (List.mem_append_right _ (List.mem_append_right _ (List.mem_append_right _ (List.mem_append_left _ (List.mem_of_getElem? (i := 90) rfl))))))))), rfl⟩
theorem wd_1771 : (Jvm.Cond.code ({ cls := "ParlourLeavesModel", name := "willCome", desc := "(II)Z" } : Jvm.MethodName) prog_14_method_51_code (3 : Nat) (Option.some Jvm.ClassFile.FieldType.boolean)) ∈ zTB := List.mem_filter.mpr ⟨List.mem_append_right _ (List.mem_append_right _ (List.mem_append_right _ (List.mem_append_right _ (List.mem_append_right _ (List.mem_append_right _ (List.mem_append_right _ (List.mem_append_right _ (List.mem_append_left _ (List.mem_of_getElem? (i := 91) rfl))))))))), rfl⟩
theorem wd_1772 : (Jvm.Cond.methodLink "ParlourLeavesModel" (238 : Nat) ({ cls := "ParlourLeavesModel", name := "bits", desc := "(I)I" } : Jvm.MethodName)) ∈ zTB := List.mem_filter.mpr ⟨List.mem_append_right _ (List.mem_append_right _ (List.mem_append_right _ (List.mem_append_right _ (List.mem_append_right _ (List.mem_append_right _ (List.mem_append_right _ (List.mem_append_right _ (List.mem_append_left _ (List.mem_of_getElem? (i := 92) rfl))))))))), rfl⟩
theorem wd_1773 : (Jvm.Cond.static ({ cls := "ParlourLeavesModel", name := "bits", desc := "(I)I" } : Jvm.MethodName)) ∈ zTB := List.mem_filter.mpr ⟨List.mem_append_right _ (List.mem_append_right _ (List.mem_append_right _ (List.mem_append_right _ (List.mem_append_right _ (List.mem_append_right _ (List.mem_append_right _ (List.mem_append_right _ (List.mem_append_left _ (List.mem_of_getElem? (i := 93) rfl))))))))), rfl⟩
theorem wd_1774 : (Jvm.Cond.code ({ cls := "ParlourLeavesModel", name := "bits", desc := "(I)I" } : Jvm.MethodName) prog_14_method_9_code (3 : Nat) (Option.some Jvm.ClassFile.FieldType.int)) ∈ zTB := List.mem_filter.mpr ⟨List.mem_append_right _ (List.mem_append_right _ (List.mem_append_right _ (List.mem_append_right _ (List.mem_append_right _ (List.mem_append_right _ (List.mem_append_right _ (List.mem_append_right _ (List.mem_append_left _ (List.mem_of_getElem? (i := 94) rfl))))))))), rfl⟩
theorem wd_1779 : (Jvm.Cond.methodLink "ParlourLeavesModel" (256 : Nat) ({ cls := "ParlourLeavesModel", name := "isAct", desc := "(I)Z" } : Jvm.MethodName)) ∈ zTB := List.mem_filter.mpr ⟨List.mem_append_right _ (List.mem_append_right _ (List.mem_append_right _ (List.mem_append_right _ (List.mem_append_right _ (List.mem_append_right _ (List.mem_append_right _ (List.mem_append_right _ (List.mem_append_left _ (List.mem_of_getElem? (i := 99) rfl))))))))), rfl⟩
theorem wd_1781 : (Jvm.Cond.instanceMethod ({ cls := "ParlourLeavesModel", name := "isAct", desc := "(I)Z" } : Jvm.MethodName)) ∈ zTB := List.mem_filter.mpr ⟨List.mem_append_right _ (List.mem_append_right _ (List.mem_append_right _ (List.mem_append_right _ (List.mem_append_right _ (List.mem_append_right _ (List.mem_append_right _ (List.mem_append_right _ (List.mem_append_left _ (List.mem_of_getElem? (i := 101) rfl))))))))), rfl⟩
theorem wd_1782 : (Jvm.Cond.code ({ cls := "ParlourLeavesModel", name := "isAct", desc := "(I)Z" } : Jvm.MethodName) prog_14_method_45_code (2 : Nat) (Option.some Jvm.ClassFile.FieldType.boolean)) ∈ zTB := List.mem_filter.mpr ⟨List.mem_append_right _ (List.mem_append_right _ (List.mem_append_right _ (List.mem_append_right _ (List.mem_append_right _ (List.mem_append_right _ (List.mem_append_right _ (List.mem_append_right _ (List.mem_append_left _ (List.mem_of_getElem? (i := 102) rfl))))))))), rfl⟩
theorem wd_1783 : (Jvm.Cond.methodLink "ParlourLeavesModel" (234 : Nat) ({ cls := "ParlourLeavesModel", name := "plantsFor", desc := "(IZ)I" } : Jvm.MethodName)) ∈ zTB := List.mem_filter.mpr ⟨List.mem_append_right _ (List.mem_append_right _ (List.mem_append_right _ (List.mem_append_right _ (List.mem_append_right _ (List.mem_append_right _ (List.mem_append_right _ (List.mem_append_right _ (List.mem_append_left _ (List.mem_of_getElem? (i := 103) rfl))))))))), rfl⟩
theorem wd_1785 : (Jvm.Cond.instanceMethod ({ cls := "ParlourLeavesModel", name := "plantsFor", desc := "(IZ)I" } : Jvm.MethodName)) ∈ zTB := List.mem_filter.mpr ⟨List.mem_append_right _ (List.mem_append_right _ (List.mem_append_right _ (List.mem_append_right _ (List.mem_append_right _ (List.mem_append_right _ (List.mem_append_right _ (List.mem_append_right _ (List.mem_append_left _ (List.mem_of_getElem? (i := 105) rfl))))))))), rfl⟩
theorem wd_1786 : (Jvm.Cond.code ({ cls := "ParlourLeavesModel", name := "plantsFor", desc := "(IZ)I" } : Jvm.MethodName) prog_14_method_53_code (5 : Nat) (Option.some Jvm.ClassFile.FieldType.int)) ∈ zTB := List.mem_filter.mpr ⟨List.mem_append_right _ (List.mem_append_right _ (List.mem_append_right _ (List.mem_append_right _ (List.mem_append_right _ (List.mem_append_right _ (List.mem_append_right _ (List.mem_append_right _ (List.mem_append_left _ (List.mem_of_getElem? (i := 106) rfl))))))))), rfl⟩
theorem wd_1787 : (Jvm.Cond.methodLink "ParlourLeavesModel" (241 : Nat) ({ cls := "ParlourLeavesModel", name := "isProved", desc := "(I)Z" } : Jvm.MethodName)) ∈ zTB := List.mem_filter.mpr ⟨List.mem_append_right _ (List.mem_append_right _ (List.mem_append_right _ (List.mem_append_right _ (List.mem_append_right _ (List.mem_append_right _ (List.mem_append_right _ (List.mem_append_right _ (List.mem_append_left _ (List.mem_of_getElem? (i := 107) rfl))))))))), rfl⟩
theorem wd_1789 : (Jvm.Cond.instanceMethod ({ cls := "ParlourLeavesModel", name := "isProved", desc := "(I)Z" } : Jvm.MethodName)) ∈ zTB := List.mem_filter.mpr ⟨List.mem_append_right _ (List.mem_append_right _ (List.mem_append_right _ (List.mem_append_right _ (List.mem_append_right _ (List.mem_append_right _ (List.mem_append_right _ (List.mem_append_right _ (List.mem_append_left _ (List.mem_of_getElem? (i := 109) rfl))))))))), rfl⟩
theorem wd_1790 : (Jvm.Cond.code ({ cls := "ParlourLeavesModel", name := "isProved", desc := "(I)Z" } : Jvm.MethodName) prog_14_method_54_code (2 : Nat) (Option.some Jvm.ClassFile.FieldType.boolean)) ∈ zTB := List.mem_filter.mpr ⟨List.mem_append_right _ (List.mem_append_right _ (List.mem_append_right _ (List.mem_append_right _ (List.mem_append_right _ (List.mem_append_right _ (List.mem_append_right _ (List.mem_append_right _ (List.mem_append_left _ (List.mem_of_getElem? (i := 110) rfl))))))))), rfl⟩
theorem wp_4_10 : Cond.selects "ParlourLeavesModel" (⟨"ParlourLeavesModel", "hasCome", "(II)Z"⟩ : MethodName) (⟨"ParlourLeavesModel", "hasCome", "(II)Z"⟩ : MethodName) ∈ zTB := List.mem_filter.mpr ⟨List.mem_append_left _ (List.mem_map.mpr ⟨((⟨"ParlourLeavesModel", "hasCome", "(II)Z"⟩ : MethodName), 45), (List.mem_append_right _ (List.mem_append_right _ (List.mem_append_right _ (List.mem_append_left _ (List.mem_of_getElem? (i := 10) rfl))))), rfl⟩), rfl⟩
theorem wp_4_13 : Cond.selects "ParlourLeavesModel" (⟨"ParlourLeavesModel", "isAct", "(I)Z"⟩ : MethodName) (⟨"ParlourLeavesModel", "isAct", "(I)Z"⟩ : MethodName) ∈ zTB := List.mem_filter.mpr ⟨List.mem_append_left _ (List.mem_map.mpr ⟨((⟨"ParlourLeavesModel", "isAct", "(I)Z"⟩ : MethodName), 45), (List.mem_append_right _ (List.mem_append_right _ (List.mem_append_right _ (List.mem_append_left _ (List.mem_of_getElem? (i := 13) rfl))))), rfl⟩), rfl⟩
theorem wp_4_15 : Cond.selects "ParlourLeavesModel" (⟨"ParlourLeavesModel", "isProved", "(I)Z"⟩ : MethodName) (⟨"ParlourLeavesModel", "isProved", "(I)Z"⟩ : MethodName) ∈ zTB := List.mem_filter.mpr ⟨List.mem_append_left _ (List.mem_map.mpr ⟨((⟨"ParlourLeavesModel", "isProved", "(I)Z"⟩ : MethodName), 45), (List.mem_append_right _ (List.mem_append_right _ (List.mem_append_right _ (List.mem_append_left _ (List.mem_of_getElem? (i := 15) rfl))))), rfl⟩), rfl⟩
theorem wp_4_11 : Cond.selects "ParlourLeavesModel" (⟨"ParlourLeavesModel", "leafOf", "(II)I"⟩ : MethodName) (⟨"ParlourLeavesModel", "leafOf", "(II)I"⟩ : MethodName) ∈ zTB := List.mem_filter.mpr ⟨List.mem_append_left _ (List.mem_map.mpr ⟨((⟨"ParlourLeavesModel", "leafOf", "(II)I"⟩ : MethodName), 45), (List.mem_append_right _ (List.mem_append_right _ (List.mem_append_right _ (List.mem_append_left _ (List.mem_of_getElem? (i := 11) rfl))))), rfl⟩), rfl⟩
theorem wp_4_14 : Cond.selects "ParlourLeavesModel" (⟨"ParlourLeavesModel", "plantsFor", "(IZ)I"⟩ : MethodName) (⟨"ParlourLeavesModel", "plantsFor", "(IZ)I"⟩ : MethodName) ∈ zTB := List.mem_filter.mpr ⟨List.mem_append_left _ (List.mem_map.mpr ⟨((⟨"ParlourLeavesModel", "plantsFor", "(IZ)I"⟩ : MethodName), 45), (List.mem_append_right _ (List.mem_append_right _ (List.mem_append_right _ (List.mem_append_left _ (List.mem_of_getElem? (i := 14) rfl))))), rfl⟩), rfl⟩
theorem wp_4_5 : Cond.selects "ParlourLeavesModel" (⟨"ParlourLeavesModel", "refuse", "()I"⟩ : MethodName) (⟨"ParlourLeavesModel", "refuse", "()I"⟩ : MethodName) ∈ zTB := List.mem_filter.mpr ⟨List.mem_append_left _ (List.mem_map.mpr ⟨((⟨"ParlourLeavesModel", "refuse", "()I"⟩ : MethodName), 45), (List.mem_append_right _ (List.mem_append_right _ (List.mem_append_right _ (List.mem_append_left _ (List.mem_of_getElem? (i := 5) rfl))))), rfl⟩), rfl⟩
theorem wp_3_3 : Cond.selects "ParlourLeavesModel" (⟨"ParlourLeavesModel", "tapeAt", "(I)I"⟩ : MethodName) (⟨"ParlourLeavesModel", "tapeAt", "(I)I"⟩ : MethodName) ∈ zTB := List.mem_filter.mpr ⟨List.mem_append_left _ (List.mem_map.mpr ⟨((⟨"ParlourLeavesModel", "tapeAt", "(I)I"⟩ : MethodName), 45), (List.mem_append_right _ (List.mem_append_right _ (List.mem_append_left _ (List.mem_of_getElem? (i := 3) rfl)))), rfl⟩), rfl⟩
theorem wp_4_12 : Cond.selects "ParlourLeavesModel" (⟨"ParlourLeavesModel", "willCome", "(II)Z"⟩ : MethodName) (⟨"ParlourLeavesModel", "willCome", "(II)Z"⟩ : MethodName) ∈ zTB := List.mem_filter.mpr ⟨List.mem_append_left _ (List.mem_map.mpr ⟨((⟨"ParlourLeavesModel", "willCome", "(II)Z"⟩ : MethodName), 45), (List.mem_append_right _ (List.mem_append_right _ (List.mem_append_right _ (List.mem_append_left _ (List.mem_of_getElem? (i := 12) rfl))))), rfl⟩), rfl⟩
theorem dn_X7_takeBack : zDn yX7_takeBack 1 := ⟨by decide, by decide, by decide +kernel⟩
theorem wsin_X4 : ∀ w ∈ u_ws RX4 TX4 4, w ∈ zTB := (List.forall_mem_cons.mpr ⟨wd_359, (List.forall_mem_cons.mpr ⟨wd_361, (List.forall_mem_cons.mpr ⟨wd_363, (List.forall_mem_cons.mpr ⟨wd_365, (fun _ h => absurd h List.not_mem_nil)⟩)⟩)⟩)⟩)
theorem dn_X3_addSight : zDn yX3_addSight 2 := ⟨by decide, by decide, by decide +kernel⟩
theorem zb_15 : (Int8.ofInt (15)).toInt32 = (15 : Int32) := by decide
theorem zb_21 : (Int8.ofInt (21)).toInt32 = (21 : Int32) := by decide
theorem zb_61 : (Int8.ofInt (61)).toInt32 = (61 : Int32) := by decide
theorem wsin_X12 : ∀ w ∈ u_ws RX12 TX12 45, w ∈ zTB := (List.forall_mem_cons.mpr ⟨wd_1530, (List.forall_mem_cons.mpr ⟨wd_1532, (List.forall_mem_cons.mpr ⟨wd_1534, (List.forall_mem_cons.mpr ⟨wd_1536, (List.forall_mem_cons.mpr ⟨wd_1538, (List.forall_mem_cons.mpr ⟨wd_1540, (List.forall_mem_cons.mpr ⟨wd_1542, (List.forall_mem_cons.mpr ⟨wd_1544, (List.forall_mem_cons.mpr ⟨wd_1546, (List.forall_mem_cons.mpr ⟨wd_1548, (List.forall_mem_cons.mpr ⟨wd_1550, (List.forall_mem_cons.mpr ⟨wd_1552, (List.forall_mem_cons.mpr ⟨wd_1554, (List.forall_mem_cons.mpr ⟨wd_1556, (List.forall_mem_cons.mpr ⟨wd_1558, (List.forall_mem_cons.mpr ⟨wd_1560, (List.forall_mem_cons.mpr ⟨wd_1562, (List.forall_mem_cons.mpr ⟨wd_1564, (List.forall_mem_cons.mpr ⟨wd_1566, (List.forall_mem_cons.mpr ⟨wd_1568, (List.forall_mem_cons.mpr ⟨wd_1570, (List.forall_mem_cons.mpr ⟨wd_1572, (List.forall_mem_cons.mpr ⟨wd_1574, (List.forall_mem_cons.mpr ⟨wd_1576, (List.forall_mem_cons.mpr ⟨wd_1578, (List.forall_mem_cons.mpr ⟨wd_1580, (List.forall_mem_cons.mpr ⟨wd_1582, (List.forall_mem_cons.mpr ⟨wd_1584, (List.forall_mem_cons.mpr ⟨wd_1586, (List.forall_mem_cons.mpr ⟨wd_1588, (List.forall_mem_cons.mpr ⟨wd_1590, (List.forall_mem_cons.mpr ⟨wd_1592, (List.forall_mem_cons.mpr ⟨wd_1594, (List.forall_mem_cons.mpr ⟨wd_1596, (List.forall_mem_cons.mpr ⟨wd_1598, (List.forall_mem_cons.mpr ⟨wd_1600, (List.forall_mem_cons.mpr ⟨wd_1602, (List.forall_mem_cons.mpr ⟨wd_1604, (List.forall_mem_cons.mpr ⟨wd_1606, (List.forall_mem_cons.mpr ⟨wd_1608, (List.forall_mem_cons.mpr ⟨wd_1610, (List.forall_mem_cons.mpr ⟨wd_1612, (List.forall_mem_cons.mpr ⟨wd_1614, (List.forall_mem_cons.mpr ⟨wd_1616, (List.forall_mem_cons.mpr ⟨wd_1618, (fun _ h => absurd h List.not_mem_nil)⟩)⟩)⟩)⟩)⟩)⟩)⟩)⟩)⟩)⟩)⟩)⟩)⟩)⟩)⟩)⟩)⟩)⟩)⟩)⟩)⟩)⟩)⟩)⟩)⟩)⟩)⟩)⟩)⟩)⟩)⟩)⟩)⟩)⟩)⟩)⟩)⟩)⟩)⟩)⟩)⟩)⟩)⟩)⟩)⟩)
theorem zb_25 : (Int8.ofInt (25)).toInt32 = (25 : Int32) := by decide
theorem dn_X12_isIn : zDn yX12_isIn 3 := ⟨by decide, by decide, by decide +kernel⟩
theorem zb_86 : (Int8.ofInt (86)).toInt32 = (86 : Int32) := by decide
theorem dn_X12_leafOf : zDn yX12_leafOf 2 := ⟨by decide, by decide, by decide +kernel⟩
theorem dn_X12_willCome : zDn yX12_willCome 2 := ⟨by decide, by decide, by decide +kernel⟩
theorem dn_X12_hasCome : zDn yX12_hasCome 2 := ⟨by decide, by decide, by decide +kernel⟩
theorem dn_X12_plantsFor : zDn yX12_plantsFor 2 := ⟨by decide, by decide, by decide +kernel⟩
theorem dn_X12_bits : zDn yX12_bits 1 := ⟨by decide, by decide, by decide +kernel⟩
theorem dn_X12_isAct : zDn yX12_isAct 1 := ⟨by decide, by decide, by decide +kernel⟩
theorem zb_38 : (Int8.ofInt (38)).toInt32 = (38 : Int32) := by decide
theorem zb_50 : (Int8.ofInt (50)).toInt32 = (50 : Int32) := by decide
theorem zb_74 : (Int8.ofInt (74)).toInt32 = (74 : Int32) := by decide
theorem dn_X12_isProved : zDn yX12_isProved 1 := ⟨by decide, by decide, by decide +kernel⟩
theorem dn_X12_refuse : zDn yX12_refuse 0 := ⟨by decide, by decide, by decide +kernel⟩
theorem dn_X12_isLetter : zDn yX12_isLetter 1 := ⟨by decide, by decide, by decide +kernel⟩
theorem dn_X12_tapeAt : zDn yX12_tapeAt 1 := ⟨by decide, by decide, by decide +kernel⟩
theorem dn_X12_isDigit : zDn yX12_isDigit 1 := ⟨by decide, by decide, by decide +kernel⟩
theorem cv_X11_271 : zCV RX11 RX7 271 yX7_takeBack cX7_takeBack 2 (some .int) 1 := ⟨rfl, dn_X7_takeBack, wd_852, wd_853, wd_854, wd_9, wd_855⟩
theorem lk_X4_25 : zLk RX4 25 5 2 := ⟨"ParlourLeaves$HouseText", RX4, TX4, 4, rfl, by decide, wsin_X4, wd_357, rfl⟩
theorem lq_X4_25 : zLq RX4 25 5 2 .boolean := ⟨"ParlourLeaves$HouseText", RX4, TX4, 4, tyX4, rfl, by decide, wsin_X4, wd_357, rfl, rfl, by decide +kernel, tyX4_ok, nmX4⟩
theorem lk_X4_18 : zLk RX4 18 5 0 := ⟨"ParlourLeaves$HouseText", RX4, TX4, 4, rfl, by decide, wsin_X4, wd_354, rfl⟩
theorem cv_X4_71 : zCV RX4 RX9 71 yX9_read cX9_read 4 none 0 := ⟨rfl, dn_X9_read, wd_617, wd_585, wd_586, wd_2, wd_587⟩
theorem lk_X4_12 : zLk RX4 12 5 1 := ⟨"ParlourLeaves$HouseText", RX4, TX4, 4, rfl, by decide, wsin_X4, wd_355, rfl⟩
theorem cv_X4_94 : zCV RX4 RX9 94 yX9_takeNumber cX9_takeNumber 4 (some .int) 2 := ⟨rfl, dn_X9_takeNumber, wd_636, wd_637, wd_638, wd_2, wd_639⟩
theorem lq_X4_124 : zLq RX4 124 4 10 .int := ⟨"ParlourLeaves$House", RX3, TX3, 12, tyX3, rfl, by decide, wsin_X3, wd_180, rfl, rfl, by decide +kernel, tyX3_ok, nmX3⟩
theorem lk_X4_124 : zLk RX4 124 4 10 := ⟨"ParlourLeaves$House", RX3, TX3, 12, rfl, by decide, wsin_X3, wd_180, rfl⟩
theorem cv_X4_65 : zCV RX4 RX9 65 yX9_fail cX9_fail 2 (some .boolean) 1 := ⟨rfl, dn_X9_fail, wd_609, wd_610, wd_611, wd_2, wd_612⟩
theorem lk_X4_29 : zLk RX4 29 5 3 := ⟨"ParlourLeaves$HouseText", RX4, TX4, 4, rfl, by decide, wsin_X4, wd_358, rfl⟩
theorem lq_X4_29 : zLq RX4 29 5 3 .boolean := ⟨"ParlourLeaves$HouseText", RX4, TX4, 4, tyX4, rfl, by decide, wsin_X4, wd_358, rfl, rfl, by decide +kernel, tyX4_ok, nmX4⟩
theorem lq_X4_127 : zLq RX4 127 4 11 .int := ⟨"ParlourLeaves$House", RX3, TX3, 12, tyX3, rfl, by decide, wsin_X3, wd_184, rfl, rfl, by decide +kernel, tyX3_ok, nmX3⟩
theorem lk_X4_127 : zLk RX4 127 4 11 := ⟨"ParlourLeaves$House", RX3, TX3, 12, rfl, by decide, wsin_X3, wd_184, rfl⟩
theorem cv_X4_90 : zCV RX4 RX9 90 yX9_takeKnown cX9_takeKnown 4 (some .int) 2 := ⟨rfl, dn_X9_takeKnown, wd_630, wd_631, wd_632, wd_2, wd_633⟩
theorem lk_X4_107 : zLk RX4 107 10 6 := ⟨"ParlourLeaves$Tape", RX9, TX9, 11, rfl, by decide, wsin_X9, wd_107, rfl⟩
theorem cv_X4_117 : zCV RX4 RX9 117 yX9_failAt cX9_failAt 3 (some .boolean) 2 := ⟨rfl, dn_X9_failAt, wd_647, wd_614, wd_615, wd_2, wd_616⟩
theorem lk_X4_110 : zLk RX4 110 4 1 := ⟨"ParlourLeaves$House", RX3, TX3, 12, rfl, by decide, wsin_X3, wd_156, rfl⟩
theorem cv_X4_113 : zCN RX4 "ParlourLeaves" 113 yX11_hasBit cX11_hasBit 2 (some .boolean) 2 := ⟨dn_X11_hasBit, (List.mem_of_getElem? (i := 9) rfl), wd_645, wd_1, wd_646⟩
theorem cv_X4_120 : zCV RX4 RX3 120 yX3_addSight cX3_addSight 3 none 2 := ⟨rfl, dn_X3_addSight, wd_648, wd_649, wd_650, wd_7, wd_651⟩
theorem lk_X6_49 : zLk RX6 49 4 2 := ⟨"ParlourLeaves$House", RX3, TX3, 12, rfl, by decide, wsin_X3, wd_159, rfl⟩
theorem lk_X12_98 : zLk RX12 98 13 14 := ⟨"ParlourLeavesModel", RX12, TX12, 45, rfl, by decide, wsin_X12, wd_1499, rfl⟩
theorem cv_X12_75 : zCS RX12 75 yX12_isIn cX12_isIn 3 (some .boolean) 3 := ⟨dn_X12_isIn, wd_1713, wd_1714, wd_19, wd_1715⟩
theorem cv_X12_224 : zCV RX12 RX12 224 yX12_leafOf cX12_leafOf 3 (some .int) 2 := ⟨rfl, dn_X12_leafOf, wd_1764, wd_1766, wp_4_11, wd_19, wd_1767⟩
theorem cv_X12_231 : zCV RX12 RX12 231 yX12_willCome cX12_willCome 3 (some .boolean) 2 := ⟨rfl, dn_X12_willCome, wd_1768, wd_1770, wp_4_12, wd_19, wd_1771⟩
theorem cv_X12_228 : zCV RX12 RX12 228 yX12_hasCome cX12_hasCome 3 (some .boolean) 2 := ⟨rfl, dn_X12_hasCome, wd_1760, wd_1762, wp_4_10, wd_19, wd_1763⟩
theorem cv_X12_234 : zCV RX12 RX12 234 yX12_plantsFor cX12_plantsFor 5 (some .int) 2 := ⟨rfl, dn_X12_plantsFor, wd_1783, wd_1785, wp_4_14, wd_19, wd_1786⟩
theorem cv_X12_238 : zCS RX12 238 yX12_bits cX12_bits 3 (some .int) 1 := ⟨dn_X12_bits, wd_1772, wd_1773, wd_19, wd_1774⟩
theorem lq_X12_1 : zLq RX12 1 13 0 .int := ⟨"ParlourLeavesModel", RX12, TX12, 45, tyX12, rfl, by decide, wsin_X12, wd_1485, rfl, rfl, by decide +kernel, tyX12_ok, nmX12⟩
theorem cv_X12_256 : zCV RX12 RX12 256 yX12_isAct cX12_isAct 2 (some .boolean) 1 := ⟨rfl, dn_X12_isAct, wd_1779, wd_1781, wp_4_13, wd_19, wd_1782⟩
theorem cv_X12_241 : zCV RX12 RX12 241 yX12_isProved cX12_isProved 2 (some .boolean) 1 := ⟨rfl, dn_X12_isProved, wd_1787, wd_1789, wp_4_15, wd_19, wd_1790⟩
theorem cv_X12_247 : zCV RX12 RX12 247 yX12_refuse cX12_refuse 1 (some .int) 0 := ⟨rfl, dn_X12_refuse, wd_1740, wd_1742, wp_4_5, wd_19, wd_1743⟩
theorem lk_X12_130 : zLk RX12 130 13 25 := ⟨"ParlourLeavesModel", RX12, TX12, 45, rfl, by decide, wsin_X12, wd_1510, rfl⟩
theorem lk_X12_30 : zLk RX12 30 13 7 := ⟨"ParlourLeavesModel", RX12, TX12, 45, rfl, by decide, wsin_X12, wd_1492, rfl⟩
theorem lq_X12_66 : zLq RX12 66 13 10 .int := ⟨"ParlourLeavesModel", RX12, TX12, 45, tyX12, rfl, by decide, wsin_X12, wd_1495, rfl, rfl, by decide +kernel, tyX12_ok, nmX12⟩
theorem lk_X12_24 : zLk RX12 24 13 6 := ⟨"ParlourLeavesModel", RX12, TX12, 45, rfl, by decide, wsin_X12, wd_1491, rfl⟩
theorem lq_X12_69 : zLq RX12 69 13 11 .int := ⟨"ParlourLeavesModel", RX12, TX12, 45, tyX12, rfl, by decide, wsin_X12, wd_1496, rfl, rfl, by decide +kernel, tyX12_ok, nmX12⟩
theorem lk_X12_18 : zLk RX12 18 13 3 := ⟨"ParlourLeavesModel", RX12, TX12, 45, rfl, by decide, wsin_X12, wd_1488, rfl⟩
theorem lk_X12_7 : zLk RX12 7 13 1 := ⟨"ParlourLeavesModel", RX12, TX12, 45, rfl, by decide, wsin_X12, wd_1486, rfl⟩
theorem lk_X12_21 : zLk RX12 21 13 5 := ⟨"ParlourLeavesModel", RX12, TX12, 45, rfl, by decide, wsin_X12, wd_1490, rfl⟩
theorem lq_X12_24 : zLq RX12 24 13 6 .int := ⟨"ParlourLeavesModel", RX12, TX12, 45, tyX12, rfl, by decide, wsin_X12, wd_1491, rfl, rfl, by decide +kernel, tyX12_ok, nmX12⟩
theorem lk_X12_27 : zLk RX12 27 13 4 := ⟨"ParlourLeavesModel", RX12, TX12, 45, rfl, by decide, wsin_X12, wd_1489, rfl⟩
theorem cv_X12_33 : zCS RX12 33 yX12_isLetter cX12_isLetter 1 (some .boolean) 1 := ⟨dn_X12_isLetter, wd_1637, wd_1638, wd_19, wd_1639⟩
theorem lq_X12_43 : zLq RX12 43 13 12 .long := ⟨"ParlourLeavesModel", RX12, TX12, 45, tyX12, rfl, by decide, wsin_X12, wd_1497, rfl, rfl, by decide +kernel, tyX12_ok, nmX12⟩
theorem lq_X12_47 : zLq RX12 47 13 8 .int := ⟨"ParlourLeavesModel", RX12, TX12, 45, tyX12, rfl, by decide, wsin_X12, wd_1493, rfl, rfl, by decide +kernel, tyX12_ok, nmX12⟩
theorem cv_X12_50 : zCV RX12 RX12 50 yX12_tapeAt cX12_tapeAt 2 (some .int) 1 := ⟨rfl, dn_X12_tapeAt, wd_1643, wd_1645, wp_3_3, wd_19, wd_1646⟩
theorem lq_X12_21 : zLq RX12 21 13 5 .int := ⟨"ParlourLeavesModel", RX12, TX12, 45, tyX12, rfl, by decide, wsin_X12, wd_1490, rfl, rfl, by decide +kernel, tyX12_ok, nmX12⟩
theorem lk_X12_47 : zLk RX12 47 13 8 := ⟨"ParlourLeavesModel", RX12, TX12, 45, rfl, by decide, wsin_X12, wd_1493, rfl⟩
theorem lk_X12_43 : zLk RX12 43 13 12 := ⟨"ParlourLeavesModel", RX12, TX12, 45, rfl, by decide, wsin_X12, wd_1497, rfl⟩
theorem cv_X12_37 : zCS RX12 37 yX12_isDigit cX12_isDigit 1 (some .boolean) 1 := ⟨dn_X12_isDigit, wd_1640, wd_1641, wd_19, wd_1642⟩
theorem lq_X12_30 : zLq RX12 30 13 7 .int := ⟨"ParlourLeavesModel", RX12, TX12, 45, tyX12, rfl, by decide, wsin_X12, wd_1492, rfl, rfl, by decide +kernel, tyX12_ok, nmX12⟩
theorem lq_X12_40 : zLq RX12 40 13 9 .int := ⟨"ParlourLeavesModel", RX12, TX12, 45, tyX12, rfl, by decide, wsin_X12, wd_1494, rfl, rfl, by decide +kernel, tyX12_ok, nmX12⟩
theorem dX11_undo_0 : decode cX11_undo 0 = .ok (.aload_n 0, 1) := by decide +kernel
theorem dX11_undo_1 : decode cX11_undo 1 = .ok (.getfield 38, 3) := by decide +kernel
theorem dX11_undo_4 : decode cX11_undo 4 = .ok (.aload_n 0, 1) := by decide +kernel
theorem dX11_undo_5 : decode cX11_undo 5 = .ok (.getfield 28, 3) := by decide +kernel
theorem dX11_undo_8 : decode cX11_undo 8 = .ok (.invokevirtual 271, 3) := by decide +kernel
theorem dX11_undo_11 : decode cX11_undo 11 = .ok (.ireturn, 1) := by decide +kernel
theorem dX3_addName_0 : decode cX3_addName 0 = .ok (.aload_n 0, 1) := by decide +kernel
theorem dX3_addName_1 : decode cX3_addName 1 = .ok (.getfield 31, 3) := by decide +kernel
theorem dX3_addName_4 : decode cX3_addName 4 = .ok (.aload_n 0, 1) := by decide +kernel
theorem dX3_addName_5 : decode cX3_addName 5 = .ok (.getfield 47, 3) := by decide +kernel
theorem dX3_addName_8 : decode cX3_addName 8 = .ok (.lload_n 1, 1) := by decide +kernel
theorem dX3_addName_9 : decode cX3_addName 9 = .ok (.lastore, 1) := by decide +kernel
theorem dX3_addName_10 : decode cX3_addName 10 = .ok (.aload_n 0, 1) := by decide +kernel
theorem dX3_addName_11 : decode cX3_addName 11 = .ok (.getfield 34, 3) := by decide +kernel
theorem dX3_addName_14 : decode cX3_addName 14 = .ok (.aload_n 0, 1) := by decide +kernel
theorem dX3_addName_15 : decode cX3_addName 15 = .ok (.getfield 47, 3) := by decide +kernel
theorem dX3_addName_18 : decode cX3_addName 18 = .ok (.iload_n 3, 1) := by decide +kernel
theorem dX3_addName_19 : decode cX3_addName 19 = .ok (.iastore, 1) := by decide +kernel
theorem dX3_addName_20 : decode cX3_addName 20 = .ok (.aload_n 0, 1) := by decide +kernel
theorem dX3_addName_21 : decode cX3_addName 21 = .ok (.getfield 37, 3) := by decide +kernel
theorem dX3_addName_24 : decode cX3_addName 24 = .ok (.aload_n 0, 1) := by decide +kernel
theorem dX3_addName_25 : decode cX3_addName 25 = .ok (.getfield 47, 3) := by decide +kernel
theorem dX3_addName_28 : decode cX3_addName 28 = .ok (.aload_n 0, 1) := by decide +kernel
theorem dX3_addName_29 : decode cX3_addName 29 = .ok (.getfield 9, 3) := by decide +kernel
theorem dX3_addName_32 : decode cX3_addName 32 = .ok (.iload_n 3, 1) := by decide +kernel
theorem dX3_addName_33 : decode cX3_addName 33 = .ok (.iaload, 1) := by decide +kernel
theorem dX3_addName_34 : decode cX3_addName 34 = .ok (.iastore, 1) := by decide +kernel
theorem dX3_addName_35 : decode cX3_addName 35 = .ok (.aload_n 0, 1) := by decide +kernel
theorem dX3_addName_36 : decode cX3_addName 36 = .ok (.dup, 1) := by decide +kernel
theorem dX3_addName_37 : decode cX3_addName 37 = .ok (.getfield 47, 3) := by decide +kernel
theorem dX3_addName_40 : decode cX3_addName 40 = .ok (.iconst 1, 1) := by decide +kernel
theorem dX3_addName_41 : decode cX3_addName 41 = .ok (.iadd, 1) := by decide +kernel
theorem dX3_addName_42 : decode cX3_addName 42 = .ok (.putfield 47, 3) := by decide +kernel
theorem dX3_addName_45 : decode cX3_addName 45 = .ok (.iload_n 3, 1) := by decide +kernel
theorem dX3_addName_46 : decode cX3_addName 46 = .ok (.iconst 1, 1) := by decide +kernel
theorem dX3_addName_47 : decode cX3_addName 47 = .ok (.if_icmp .ne 15, 3) := by decide +kernel
theorem dX3_addName_50 : decode cX3_addName 50 = .ok (.aload_n 0, 1) := by decide +kernel
theorem dX3_addName_51 : decode cX3_addName 51 = .ok (.getfield 27, 3) := by decide +kernel
theorem dX3_addName_54 : decode cX3_addName 54 = .ok (.aload_n 0, 1) := by decide +kernel
theorem dX3_addName_55 : decode cX3_addName 55 = .ok (.getfield 9, 3) := by decide +kernel
theorem dX3_addName_58 : decode cX3_addName 58 = .ok (.iload_n 3, 1) := by decide +kernel
theorem dX3_addName_59 : decode cX3_addName 59 = .ok (.iaload, 1) := by decide +kernel
theorem dX3_addName_60 : decode cX3_addName 60 = .ok (.lload_n 1, 1) := by decide +kernel
theorem dX3_addName_61 : decode cX3_addName 61 = .ok (.lastore, 1) := by decide +kernel
theorem dX3_addName_62 : decode cX3_addName 62 = .ok (.aload_n 0, 1) := by decide +kernel
theorem dX3_addName_63 : decode cX3_addName 63 = .ok (.getfield 9, 3) := by decide +kernel
theorem dX3_addName_66 : decode cX3_addName 66 = .ok (.iload_n 3, 1) := by decide +kernel
theorem dX3_addName_67 : decode cX3_addName 67 = .ok (.dup2, 1) := by decide +kernel
theorem dX3_addName_68 : decode cX3_addName 68 = .ok (.iaload, 1) := by decide +kernel
theorem dX3_addName_69 : decode cX3_addName 69 = .ok (.iconst 1, 1) := by decide +kernel
theorem dX3_addName_70 : decode cX3_addName 70 = .ok (.iadd, 1) := by decide +kernel
theorem dX3_addName_71 : decode cX3_addName 71 = .ok (.iastore, 1) := by decide +kernel
theorem dX3_addName_72 : decode cX3_addName 72 = .ok (.return_, 1) := by decide +kernel
theorem dX3_addSight_0 : decode cX3_addSight 0 = .ok (.aload_n 0, 1) := by decide +kernel
theorem dX3_addSight_1 : decode cX3_addSight 1 = .ok (.getfield 15, 3) := by decide +kernel
theorem dX3_addSight_4 : decode cX3_addSight 4 = .ok (.iload_n 1, 1) := by decide +kernel
theorem dX3_addSight_5 : decode cX3_addSight 5 = .ok (.dup2, 1) := by decide +kernel
theorem dX3_addSight_6 : decode cX3_addSight 6 = .ok (.iaload, 1) := by decide +kernel
theorem dX3_addSight_7 : decode cX3_addSight 7 = .ok (.iconst 1, 1) := by decide +kernel
theorem dX3_addSight_8 : decode cX3_addSight 8 = .ok (.iload_n 2, 1) := by decide +kernel
theorem dX3_addSight_9 : decode cX3_addSight 9 = .ok (.ishl, 1) := by decide +kernel
theorem dX3_addSight_10 : decode cX3_addSight 10 = .ok (.ior, 1) := by decide +kernel
theorem dX3_addSight_11 : decode cX3_addSight 11 = .ok (.iastore, 1) := by decide +kernel
theorem dX3_addSight_12 : decode cX3_addSight 12 = .ok (.aload_n 0, 1) := by decide +kernel
theorem dX3_addSight_13 : decode cX3_addSight 13 = .ok (.getfield 15, 3) := by decide +kernel
theorem dX3_addSight_16 : decode cX3_addSight 16 = .ok (.iload_n 2, 1) := by decide +kernel
theorem dX3_addSight_17 : decode cX3_addSight 17 = .ok (.dup2, 1) := by decide +kernel
theorem dX3_addSight_18 : decode cX3_addSight 18 = .ok (.iaload, 1) := by decide +kernel
theorem dX3_addSight_19 : decode cX3_addSight 19 = .ok (.iconst 1, 1) := by decide +kernel
theorem dX3_addSight_20 : decode cX3_addSight 20 = .ok (.iload_n 1, 1) := by decide +kernel
theorem dX3_addSight_21 : decode cX3_addSight 21 = .ok (.ishl, 1) := by decide +kernel
theorem dX3_addSight_22 : decode cX3_addSight 22 = .ok (.ior, 1) := by decide +kernel
theorem dX3_addSight_23 : decode cX3_addSight 23 = .ok (.iastore, 1) := by decide +kernel
theorem dX3_addSight_24 : decode cX3_addSight 24 = .ok (.return_, 1) := by decide +kernel
theorem dX3_clear_0 : decode cX3_clear 0 = .ok (.iconst 0, 1) := by decide +kernel
theorem dX3_clear_1 : decode cX3_clear 1 = .ok (.istore_n 1, 1) := by decide +kernel
theorem dX3_clear_2 : decode cX3_clear 2 = .ok (.iload_n 1, 1) := by decide +kernel
theorem dX3_clear_3 : decode cX3_clear 3 = .ok (.iconst 4, 1) := by decide +kernel
theorem dX3_clear_4 : decode cX3_clear 4 = .ok (.if_icmp .ge 16, 3) := by decide +kernel
theorem dX3_clear_7 : decode cX3_clear 7 = .ok (.aload_n 0, 1) := by decide +kernel
theorem dX3_clear_8 : decode cX3_clear 8 = .ok (.getfield 9, 3) := by decide +kernel
theorem dX3_clear_11 : decode cX3_clear 11 = .ok (.iload_n 1, 1) := by decide +kernel
theorem dX3_clear_12 : decode cX3_clear 12 = .ok (.iconst 0, 1) := by decide +kernel
theorem dX3_clear_13 : decode cX3_clear 13 = .ok (.iastore, 1) := by decide +kernel
theorem dX3_clear_14 : decode cX3_clear 14 = .ok (.iinc 1 1, 3) := by decide +kernel
theorem dX3_clear_17 : decode cX3_clear 17 = .ok (.goto (-15), 3) := by decide +kernel
theorem dX3_clear_20 : decode cX3_clear 20 = .ok (.iconst 0, 1) := by decide +kernel
theorem dX3_clear_21 : decode cX3_clear 21 = .ok (.istore_n 1, 1) := by decide +kernel
theorem dX3_clear_22 : decode cX3_clear 22 = .ok (.iload_n 1, 1) := by decide +kernel
theorem dX3_clear_23 : decode cX3_clear 23 = .ok (.iconst 5, 1) := by decide +kernel
theorem dX3_clear_24 : decode cX3_clear 24 = .ok (.if_icmp .ge 16, 3) := by decide +kernel
theorem dX3_clear_27 : decode cX3_clear 27 = .ok (.aload_n 0, 1) := by decide +kernel
theorem dX3_clear_28 : decode cX3_clear 28 = .ok (.getfield 15, 3) := by decide +kernel
theorem dX3_clear_31 : decode cX3_clear 31 = .ok (.iload_n 1, 1) := by decide +kernel
theorem dX3_clear_32 : decode cX3_clear 32 = .ok (.iconst 0, 1) := by decide +kernel
theorem dX3_clear_33 : decode cX3_clear 33 = .ok (.iastore, 1) := by decide +kernel
theorem dX3_clear_34 : decode cX3_clear 34 = .ok (.iinc 1 1, 3) := by decide +kernel
theorem dX3_clear_37 : decode cX3_clear 37 = .ok (.goto (-15), 3) := by decide +kernel
theorem dX3_clear_40 : decode cX3_clear 40 = .ok (.aload_n 0, 1) := by decide +kernel
theorem dX3_clear_41 : decode cX3_clear 41 = .ok (.iconst 0, 1) := by decide +kernel
theorem dX3_clear_42 : decode cX3_clear 42 = .ok (.putfield 47, 3) := by decide +kernel
theorem dX3_clear_45 : decode cX3_clear 45 = .ok (.aload_n 0, 1) := by decide +kernel
theorem dX3_clear_46 : decode cX3_clear 46 = .ok (.bipush 6, 2) := by decide +kernel
theorem dX3_clear_48 : decode cX3_clear 48 = .ok (.putfield 40, 3) := by decide +kernel
theorem dX3_clear_51 : decode cX3_clear 51 = .ok (.aload_n 0, 1) := by decide +kernel
theorem dX3_clear_52 : decode cX3_clear 52 = .ok (.iconst 2, 1) := by decide +kernel
theorem dX3_clear_53 : decode cX3_clear 53 = .ok (.putfield 44, 3) := by decide +kernel
theorem dX3_clear_56 : decode cX3_clear 56 = .ok (.return_, 1) := by decide +kernel
theorem dX4_readDusty_0 : decode cX4_readDusty 0 = .ok (.aload_n 0, 1) := by decide +kernel
theorem dX4_readDusty_1 : decode cX4_readDusty 1 = .ok (.getfield 25, 3) := by decide +kernel
theorem dX4_readDusty_4 : decode cX4_readDusty 4 = .ok (.ifCond .eq 12, 3) := by decide +kernel
theorem dX4_readDusty_7 : decode cX4_readDusty 7 = .ok (.aload_n 0, 1) := by decide +kernel
theorem dX4_readDusty_8 : decode cX4_readDusty 8 = .ok (.getfield 18, 3) := by decide +kernel
theorem dX4_readDusty_11 : decode cX4_readDusty 11 = .ok (.iconst 3, 1) := by decide +kernel
theorem dX4_readDusty_12 : decode cX4_readDusty 12 = .ok (.invokevirtual 65, 3) := by decide +kernel
theorem dX4_readDusty_15 : decode cX4_readDusty 15 = .ok (.ireturn, 1) := by decide +kernel
theorem dX4_readDusty_16 : decode cX4_readDusty 16 = .ok (.aload_n 0, 1) := by decide +kernel
theorem dX4_readDusty_17 : decode cX4_readDusty 17 = .ok (.iconst 1, 1) := by decide +kernel
theorem dX4_readDusty_18 : decode cX4_readDusty 18 = .ok (.putfield 25, 3) := by decide +kernel
theorem dX4_readDusty_21 : decode cX4_readDusty 21 = .ok (.aload_n 0, 1) := by decide +kernel
theorem dX4_readDusty_22 : decode cX4_readDusty 22 = .ok (.getfield 18, 3) := by decide +kernel
theorem dX4_readDusty_25 : decode cX4_readDusty 25 = .ok (.invokevirtual 71, 3) := by decide +kernel
theorem dX4_readDusty_28 : decode cX4_readDusty 28 = .ok (.aload_n 0, 1) := by decide +kernel
theorem dX4_readDusty_29 : decode cX4_readDusty 29 = .ok (.getfield 12, 3) := by decide +kernel
theorem dX4_readDusty_32 : decode cX4_readDusty 32 = .ok (.aload_n 0, 1) := by decide +kernel
theorem dX4_readDusty_33 : decode cX4_readDusty 33 = .ok (.getfield 18, 3) := by decide +kernel
theorem dX4_readDusty_36 : decode cX4_readDusty 36 = .ok (.iconst 1, 1) := by decide +kernel
theorem dX4_readDusty_37 : decode cX4_readDusty 37 = .ok (.bipush 60, 2) := by decide +kernel
theorem dX4_readDusty_39 : decode cX4_readDusty 39 = .ok (.invokevirtual 94, 3) := by decide +kernel
theorem dX4_readDusty_42 : decode cX4_readDusty 42 = .ok (.putfield 124, 3) := by decide +kernel
theorem dX4_readDusty_45 : decode cX4_readDusty 45 = .ok (.aload_n 0, 1) := by decide +kernel
theorem dX4_readDusty_46 : decode cX4_readDusty 46 = .ok (.getfield 12, 3) := by decide +kernel
theorem dX4_readDusty_49 : decode cX4_readDusty 49 = .ok (.getfield 124, 3) := by decide +kernel
theorem dX4_readDusty_52 : decode cX4_readDusty 52 = .ok (.iconst (-1), 1) := by decide +kernel
theorem dX4_readDusty_53 : decode cX4_readDusty 53 = .ok (.if_icmp .eq 7, 3) := by decide +kernel
theorem dX4_readDusty_56 : decode cX4_readDusty 56 = .ok (.iconst 1, 1) := by decide +kernel
theorem dX4_readDusty_57 : decode cX4_readDusty 57 = .ok (.goto 4, 3) := by decide +kernel
theorem dX4_readDusty_60 : decode cX4_readDusty 60 = .ok (.iconst 0, 1) := by decide +kernel
theorem dX4_readDusty_61 : decode cX4_readDusty 61 = .ok (.ireturn, 1) := by decide +kernel
theorem dX4_readProof_0 : decode cX4_readProof 0 = .ok (.aload_n 0, 1) := by decide +kernel
theorem dX4_readProof_1 : decode cX4_readProof 1 = .ok (.getfield 29, 3) := by decide +kernel
theorem dX4_readProof_4 : decode cX4_readProof 4 = .ok (.ifCond .eq 12, 3) := by decide +kernel
theorem dX4_readProof_7 : decode cX4_readProof 7 = .ok (.aload_n 0, 1) := by decide +kernel
theorem dX4_readProof_8 : decode cX4_readProof 8 = .ok (.getfield 18, 3) := by decide +kernel
theorem dX4_readProof_11 : decode cX4_readProof 11 = .ok (.iconst 3, 1) := by decide +kernel
theorem dX4_readProof_12 : decode cX4_readProof 12 = .ok (.invokevirtual 65, 3) := by decide +kernel
theorem dX4_readProof_15 : decode cX4_readProof 15 = .ok (.ireturn, 1) := by decide +kernel
theorem dX4_readProof_16 : decode cX4_readProof 16 = .ok (.aload_n 0, 1) := by decide +kernel
theorem dX4_readProof_17 : decode cX4_readProof 17 = .ok (.iconst 1, 1) := by decide +kernel
theorem dX4_readProof_18 : decode cX4_readProof 18 = .ok (.putfield 29, 3) := by decide +kernel
theorem dX4_readProof_21 : decode cX4_readProof 21 = .ok (.aload_n 0, 1) := by decide +kernel
theorem dX4_readProof_22 : decode cX4_readProof 22 = .ok (.getfield 18, 3) := by decide +kernel
theorem dX4_readProof_25 : decode cX4_readProof 25 = .ok (.invokevirtual 71, 3) := by decide +kernel
theorem dX4_readProof_28 : decode cX4_readProof 28 = .ok (.aload_n 0, 1) := by decide +kernel
theorem dX4_readProof_29 : decode cX4_readProof 29 = .ok (.getfield 12, 3) := by decide +kernel
theorem dX4_readProof_32 : decode cX4_readProof 32 = .ok (.aload_n 0, 1) := by decide +kernel
theorem dX4_readProof_33 : decode cX4_readProof 33 = .ok (.getfield 18, 3) := by decide +kernel
theorem dX4_readProof_36 : decode cX4_readProof 36 = .ok (.iconst 1, 1) := by decide +kernel
theorem dX4_readProof_37 : decode cX4_readProof 37 = .ok (.bipush 6, 2) := by decide +kernel
theorem dX4_readProof_39 : decode cX4_readProof 39 = .ok (.invokevirtual 94, 3) := by decide +kernel
theorem dX4_readProof_42 : decode cX4_readProof 42 = .ok (.putfield 127, 3) := by decide +kernel
theorem dX4_readProof_45 : decode cX4_readProof 45 = .ok (.aload_n 0, 1) := by decide +kernel
theorem dX4_readProof_46 : decode cX4_readProof 46 = .ok (.getfield 12, 3) := by decide +kernel
theorem dX4_readProof_49 : decode cX4_readProof 49 = .ok (.getfield 127, 3) := by decide +kernel
theorem dX4_readProof_52 : decode cX4_readProof 52 = .ok (.iconst (-1), 1) := by decide +kernel
theorem dX4_readProof_53 : decode cX4_readProof 53 = .ok (.if_icmp .eq 7, 3) := by decide +kernel
theorem dX4_readProof_56 : decode cX4_readProof 56 = .ok (.iconst 1, 1) := by decide +kernel
theorem dX4_readProof_57 : decode cX4_readProof 57 = .ok (.goto 4, 3) := by decide +kernel
theorem dX4_readProof_60 : decode cX4_readProof 60 = .ok (.iconst 0, 1) := by decide +kernel
theorem dX4_readProof_61 : decode cX4_readProof 61 = .ok (.ireturn, 1) := by decide +kernel
theorem dX4_readSight_0 : decode cX4_readSight 0 = .ok (.aload_n 0, 1) := by decide +kernel
theorem dX4_readSight_1 : decode cX4_readSight 1 = .ok (.getfield 18, 3) := by decide +kernel
theorem dX4_readSight_4 : decode cX4_readSight 4 = .ok (.invokevirtual 71, 3) := by decide +kernel
theorem dX4_readSight_7 : decode cX4_readSight 7 = .ok (.aload_n 0, 1) := by decide +kernel
theorem dX4_readSight_8 : decode cX4_readSight 8 = .ok (.getfield 18, 3) := by decide +kernel
theorem dX4_readSight_11 : decode cX4_readSight 11 = .ok (.aload_n 0, 1) := by decide +kernel
theorem dX4_readSight_12 : decode cX4_readSight 12 = .ok (.getfield 12, 3) := by decide +kernel
theorem dX4_readSight_15 : decode cX4_readSight 15 = .ok (.iconst 0, 1) := by decide +kernel
theorem dX4_readSight_16 : decode cX4_readSight 16 = .ok (.invokevirtual 90, 3) := by decide +kernel
theorem dX4_readSight_19 : decode cX4_readSight 19 = .ok (.istore_n 1, 1) := by decide +kernel
theorem dX4_readSight_20 : decode cX4_readSight 20 = .ok (.iload_n 1, 1) := by decide +kernel
theorem dX4_readSight_21 : decode cX4_readSight 21 = .ok (.iconst (-1), 1) := by decide +kernel
theorem dX4_readSight_22 : decode cX4_readSight 22 = .ok (.if_icmp .ne 5, 3) := by decide +kernel
theorem dX4_readSight_25 : decode cX4_readSight 25 = .ok (.iconst 0, 1) := by decide +kernel
theorem dX4_readSight_26 : decode cX4_readSight 26 = .ok (.ireturn, 1) := by decide +kernel
theorem dX4_readSight_27 : decode cX4_readSight 27 = .ok (.aload_n 0, 1) := by decide +kernel
theorem dX4_readSight_28 : decode cX4_readSight 28 = .ok (.getfield 18, 3) := by decide +kernel
theorem dX4_readSight_31 : decode cX4_readSight 31 = .ok (.getfield 107, 3) := by decide +kernel
theorem dX4_readSight_34 : decode cX4_readSight 34 = .ok (.istore_n 2, 1) := by decide +kernel
theorem dX4_readSight_35 : decode cX4_readSight 35 = .ok (.aload_n 0, 1) := by decide +kernel
theorem dX4_readSight_36 : decode cX4_readSight 36 = .ok (.getfield 18, 3) := by decide +kernel
theorem dX4_readSight_39 : decode cX4_readSight 39 = .ok (.aload_n 0, 1) := by decide +kernel
theorem dX4_readSight_40 : decode cX4_readSight 40 = .ok (.getfield 12, 3) := by decide +kernel
theorem dX4_readSight_43 : decode cX4_readSight 43 = .ok (.iconst 0, 1) := by decide +kernel
theorem dX4_readSight_44 : decode cX4_readSight 44 = .ok (.invokevirtual 90, 3) := by decide +kernel
theorem dX4_readSight_47 : decode cX4_readSight 47 = .ok (.istore_n 3, 1) := by decide +kernel
theorem dX4_readSight_48 : decode cX4_readSight 48 = .ok (.iload_n 3, 1) := by decide +kernel
theorem dX4_readSight_49 : decode cX4_readSight 49 = .ok (.iconst (-1), 1) := by decide +kernel
theorem dX4_readSight_50 : decode cX4_readSight 50 = .ok (.if_icmp .ne 5, 3) := by decide +kernel
theorem dX4_readSight_53 : decode cX4_readSight 53 = .ok (.iconst 0, 1) := by decide +kernel
theorem dX4_readSight_54 : decode cX4_readSight 54 = .ok (.ireturn, 1) := by decide +kernel
theorem dX4_readSight_55 : decode cX4_readSight 55 = .ok (.iload_n 1, 1) := by decide +kernel
theorem dX4_readSight_56 : decode cX4_readSight 56 = .ok (.iload_n 3, 1) := by decide +kernel
theorem dX4_readSight_57 : decode cX4_readSight 57 = .ok (.if_icmp .eq 19, 3) := by decide +kernel
theorem dX4_readSight_60 : decode cX4_readSight 60 = .ok (.aload_n 0, 1) := by decide +kernel
theorem dX4_readSight_61 : decode cX4_readSight 61 = .ok (.getfield 12, 3) := by decide +kernel
theorem dX4_readSight_64 : decode cX4_readSight 64 = .ok (.getfield 110, 3) := by decide +kernel
theorem dX4_readSight_67 : decode cX4_readSight 67 = .ok (.iload_n 1, 1) := by decide +kernel
theorem dX4_readSight_68 : decode cX4_readSight 68 = .ok (.iaload, 1) := by decide +kernel
theorem dX4_readSight_69 : decode cX4_readSight 69 = .ok (.iload_n 3, 1) := by decide +kernel
theorem dX4_readSight_70 : decode cX4_readSight 70 = .ok (.invokestatic 113, 3) := by decide +kernel
theorem dX4_readSight_73 : decode cX4_readSight 73 = .ok (.ifCond .eq 13, 3) := by decide +kernel
theorem dX4_readSight_76 : decode cX4_readSight 76 = .ok (.aload_n 0, 1) := by decide +kernel
theorem dX4_readSight_77 : decode cX4_readSight 77 = .ok (.getfield 18, 3) := by decide +kernel
theorem dX4_readSight_80 : decode cX4_readSight 80 = .ok (.iconst 3, 1) := by decide +kernel
theorem dX4_readSight_81 : decode cX4_readSight 81 = .ok (.iload_n 2, 1) := by decide +kernel
theorem dX4_readSight_82 : decode cX4_readSight 82 = .ok (.invokevirtual 117, 3) := by decide +kernel
theorem dX4_readSight_85 : decode cX4_readSight 85 = .ok (.ireturn, 1) := by decide +kernel
theorem dX4_readSight_86 : decode cX4_readSight 86 = .ok (.aload_n 0, 1) := by decide +kernel
theorem dX4_readSight_87 : decode cX4_readSight 87 = .ok (.getfield 12, 3) := by decide +kernel
theorem dX4_readSight_90 : decode cX4_readSight 90 = .ok (.iload_n 1, 1) := by decide +kernel
theorem dX4_readSight_91 : decode cX4_readSight 91 = .ok (.iload_n 3, 1) := by decide +kernel
theorem dX4_readSight_92 : decode cX4_readSight 92 = .ok (.invokevirtual 120, 3) := by decide +kernel
theorem dX4_readSight_95 : decode cX4_readSight 95 = .ok (.iconst 1, 1) := by decide +kernel
theorem dX4_readSight_96 : decode cX4_readSight 96 = .ok (.ireturn, 1) := by decide +kernel
theorem dX6_begin_0 : decode cX6_begin 0 = .ok (.aload_n 0, 1) := by decide +kernel
theorem dX6_begin_1 : decode cX6_begin 1 = .ok (.iconst 0, 1) := by decide +kernel
theorem dX6_begin_2 : decode cX6_begin 2 = .ok (.putfield 42, 3) := by decide +kernel
theorem dX6_begin_5 : decode cX6_begin 5 = .ok (.aload_n 0, 1) := by decide +kernel
theorem dX6_begin_6 : decode cX6_begin 6 = .ok (.iconst 0, 1) := by decide +kernel
theorem dX6_begin_7 : decode cX6_begin 7 = .ok (.putfield 46, 3) := by decide +kernel
theorem dX6_begin_10 : decode cX6_begin 10 = .ok (.iconst 0, 1) := by decide +kernel
theorem dX6_begin_11 : decode cX6_begin 11 = .ok (.istore_n 1, 1) := by decide +kernel
theorem dX6_begin_12 : decode cX6_begin 12 = .ok (.iload_n 1, 1) := by decide +kernel
theorem dX6_begin_13 : decode cX6_begin 13 = .ok (.bipush 6, 2) := by decide +kernel
theorem dX6_begin_15 : decode cX6_begin 15 = .ok (.if_icmp .ge 38, 3) := by decide +kernel
theorem dX6_begin_18 : decode cX6_begin 18 = .ok (.aload_n 0, 1) := by decide +kernel
theorem dX6_begin_19 : decode cX6_begin 19 = .ok (.getfield 29, 3) := by decide +kernel
theorem dX6_begin_22 : decode cX6_begin 22 = .ok (.iload_n 1, 1) := by decide +kernel
theorem dX6_begin_23 : decode cX6_begin 23 = .ok (.iconst 0, 1) := by decide +kernel
theorem dX6_begin_24 : decode cX6_begin 24 = .ok (.iastore, 1) := by decide +kernel
theorem dX6_begin_25 : decode cX6_begin 25 = .ok (.aload_n 0, 1) := by decide +kernel
theorem dX6_begin_26 : decode cX6_begin 26 = .ok (.getfield 35, 3) := by decide +kernel
theorem dX6_begin_29 : decode cX6_begin 29 = .ok (.iload_n 1, 1) := by decide +kernel
theorem dX6_begin_30 : decode cX6_begin 30 = .ok (.iconst 0, 1) := by decide +kernel
theorem dX6_begin_31 : decode cX6_begin 31 = .ok (.iastore, 1) := by decide +kernel
theorem dX6_begin_32 : decode cX6_begin 32 = .ok (.aload_n 0, 1) := by decide +kernel
theorem dX6_begin_33 : decode cX6_begin 33 = .ok (.getfield 32, 3) := by decide +kernel
theorem dX6_begin_36 : decode cX6_begin 36 = .ok (.iload_n 1, 1) := by decide +kernel
theorem dX6_begin_37 : decode cX6_begin 37 = .ok (.aload_n 0, 1) := by decide +kernel
theorem dX6_begin_38 : decode cX6_begin 38 = .ok (.getfield 38, 3) := by decide +kernel
theorem dX6_begin_41 : decode cX6_begin 41 = .ok (.getfield 49, 3) := by decide +kernel
theorem dX6_begin_44 : decode cX6_begin 44 = .ok (.iload_n 1, 1) := by decide +kernel
theorem dX6_begin_45 : decode cX6_begin 45 = .ok (.iaload, 1) := by decide +kernel
theorem dX6_begin_46 : decode cX6_begin 46 = .ok (.iastore, 1) := by decide +kernel
theorem dX6_begin_47 : decode cX6_begin 47 = .ok (.iinc 1 1, 3) := by decide +kernel
theorem dX6_begin_50 : decode cX6_begin 50 = .ok (.goto (-38), 3) := by decide +kernel
theorem dX6_begin_53 : decode cX6_begin 53 = .ok (.return_, 1) := by decide +kernel
theorem dX6_witnessesDue_0 : decode cX6_witnessesDue 0 = .ok (.iconst 0, 1) := by decide +kernel
theorem dX6_witnessesDue_1 : decode cX6_witnessesDue 1 = .ok (.istore_n 2, 1) := by decide +kernel
theorem dX6_witnessesDue_2 : decode cX6_witnessesDue 2 = .ok (.iconst 0, 1) := by decide +kernel
theorem dX6_witnessesDue_3 : decode cX6_witnessesDue 3 = .ok (.istore_n 3, 1) := by decide +kernel
theorem dX6_witnessesDue_4 : decode cX6_witnessesDue 4 = .ok (.iload_n 3, 1) := by decide +kernel
theorem dX6_witnessesDue_5 : decode cX6_witnessesDue 5 = .ok (.aload_n 0, 1) := by decide +kernel
theorem dX6_witnessesDue_6 : decode cX6_witnessesDue 6 = .ok (.invokevirtual 86, 3) := by decide +kernel
theorem dX6_witnessesDue_9 : decode cX6_witnessesDue 9 = .ok (.if_icmp .ge 30, 3) := by decide +kernel
theorem dX6_witnessesDue_12 : decode cX6_witnessesDue 12 = .ok (.aload_n 0, 1) := by decide +kernel
theorem dX6_witnessesDue_13 : decode cX6_witnessesDue 13 = .ok (.getfield 26, 3) := by decide +kernel
theorem dX6_witnessesDue_16 : decode cX6_witnessesDue 16 = .ok (.iload_n 3, 1) := by decide +kernel
theorem dX6_witnessesDue_17 : decode cX6_witnessesDue 17 = .ok (.aaload, 1) := by decide +kernel
theorem dX6_witnessesDue_18 : decode cX6_witnessesDue 18 = .ok (.iload_n 1, 1) := by decide +kernel
theorem dX6_witnessesDue_19 : decode cX6_witnessesDue 19 = .ok (.iaload, 1) := by decide +kernel
theorem dX6_witnessesDue_20 : decode cX6_witnessesDue 20 = .ok (.aload_n 0, 1) := by decide +kernel
theorem dX6_witnessesDue_21 : decode cX6_witnessesDue 21 = .ok (.getfield 42, 3) := by decide +kernel
theorem dX6_witnessesDue_24 : decode cX6_witnessesDue 24 = .ok (.if_icmp .le 9, 3) := by decide +kernel
theorem dX6_witnessesDue_27 : decode cX6_witnessesDue 27 = .ok (.iload_n 2, 1) := by decide +kernel
theorem dX6_witnessesDue_28 : decode cX6_witnessesDue 28 = .ok (.iconst 1, 1) := by decide +kernel
theorem dX6_witnessesDue_29 : decode cX6_witnessesDue 29 = .ok (.iload_n 3, 1) := by decide +kernel
theorem dX6_witnessesDue_30 : decode cX6_witnessesDue 30 = .ok (.ishl, 1) := by decide +kernel
theorem dX6_witnessesDue_31 : decode cX6_witnessesDue 31 = .ok (.ior, 1) := by decide +kernel
theorem dX6_witnessesDue_32 : decode cX6_witnessesDue 32 = .ok (.istore_n 2, 1) := by decide +kernel
theorem dX6_witnessesDue_33 : decode cX6_witnessesDue 33 = .ok (.iinc 3 1, 3) := by decide +kernel
theorem dX6_witnessesDue_36 : decode cX6_witnessesDue 36 = .ok (.goto (-32), 3) := by decide +kernel
theorem dX6_witnessesDue_39 : decode cX6_witnessesDue 39 = .ok (.iload_n 2, 1) := by decide +kernel
theorem dX6_witnessesDue_40 : decode cX6_witnessesDue 40 = .ok (.ireturn, 1) := by decide +kernel
theorem dX8_add_0 : decode cX8_add 0 = .ok (.iload_n 2, 1) := by decide +kernel
theorem dX8_add_1 : decode cX8_add 1 = .ok (.iconst (-1), 1) := by decide +kernel
theorem dX8_add_2 : decode cX8_add 2 = .ok (.if_icmp .eq 17, 3) := by decide +kernel
theorem dX8_add_5 : decode cX8_add 5 = .ok (.iload_n 3, 1) := by decide +kernel
theorem dX8_add_6 : decode cX8_add 6 = .ok (.iconst (-1), 1) := by decide +kernel
theorem dX8_add_7 : decode cX8_add 7 = .ok (.if_icmp .eq 12, 3) := by decide +kernel
theorem dX8_add_10 : decode cX8_add 10 = .ok (.aload_n 0, 1) := by decide +kernel
theorem dX8_add_11 : decode cX8_add 11 = .ok (.getfield 24, 3) := by decide +kernel
theorem dX8_add_14 : decode cX8_add 14 = .ok (.bipush 40, 2) := by decide +kernel
theorem dX8_add_16 : decode cX8_add 16 = .ok (.if_icmp .lt 5, 3) := by decide +kernel
theorem dX8_add_19 : decode cX8_add 19 = .ok (.iconst 0, 1) := by decide +kernel
theorem dX8_add_20 : decode cX8_add 20 = .ok (.ireturn, 1) := by decide +kernel
theorem dX8_add_21 : decode cX8_add 21 = .ok (.aload_n 0, 1) := by decide +kernel
theorem dX8_add_22 : decode cX8_add 22 = .ok (.getfield 11, 3) := by decide +kernel
theorem dX8_add_25 : decode cX8_add 25 = .ok (.aload_n 0, 1) := by decide +kernel
theorem dX8_add_26 : decode cX8_add 26 = .ok (.getfield 24, 3) := by decide +kernel
theorem dX8_add_29 : decode cX8_add 29 = .ok (.iload_n 1, 1) := by decide +kernel
theorem dX8_add_30 : decode cX8_add 30 = .ok (.iastore, 1) := by decide +kernel
theorem dX8_add_31 : decode cX8_add 31 = .ok (.aload_n 0, 1) := by decide +kernel
theorem dX8_add_32 : decode cX8_add 32 = .ok (.getfield 15, 3) := by decide +kernel
theorem dX8_add_35 : decode cX8_add 35 = .ok (.aload_n 0, 1) := by decide +kernel
theorem dX8_add_36 : decode cX8_add 36 = .ok (.getfield 24, 3) := by decide +kernel
theorem dX8_add_39 : decode cX8_add 39 = .ok (.iload_n 2, 1) := by decide +kernel
theorem dX8_add_40 : decode cX8_add 40 = .ok (.iastore, 1) := by decide +kernel
theorem dX8_add_41 : decode cX8_add 41 = .ok (.aload_n 0, 1) := by decide +kernel
theorem dX8_add_42 : decode cX8_add 42 = .ok (.getfield 18, 3) := by decide +kernel
theorem dX8_add_45 : decode cX8_add 45 = .ok (.aload_n 0, 1) := by decide +kernel
theorem dX8_add_46 : decode cX8_add 46 = .ok (.getfield 24, 3) := by decide +kernel
theorem dX8_add_49 : decode cX8_add 49 = .ok (.iload_n 3, 1) := by decide +kernel
theorem dX8_add_50 : decode cX8_add 50 = .ok (.iastore, 1) := by decide +kernel
theorem dX8_add_51 : decode cX8_add 51 = .ok (.aload_n 0, 1) := by decide +kernel
theorem dX8_add_52 : decode cX8_add 52 = .ok (.dup, 1) := by decide +kernel
theorem dX8_add_53 : decode cX8_add 53 = .ok (.getfield 24, 3) := by decide +kernel
theorem dX8_add_56 : decode cX8_add 56 = .ok (.iconst 1, 1) := by decide +kernel
theorem dX8_add_57 : decode cX8_add 57 = .ok (.iadd, 1) := by decide +kernel
theorem dX8_add_58 : decode cX8_add 58 = .ok (.putfield 24, 3) := by decide +kernel
theorem dX8_add_61 : decode cX8_add 61 = .ok (.iconst 1, 1) := by decide +kernel
theorem dX8_add_62 : decode cX8_add 62 = .ok (.ireturn, 1) := by decide +kernel
theorem dX8_canBeginOne_0 : decode cX8_canBeginOne 0 = .ok (.iload_n 0, 1) := by decide +kernel
theorem dX8_canBeginOne_1 : decode cX8_canBeginOne 1 = .ok (.bipush 40, 2) := by decide +kernel
theorem dX8_canBeginOne_3 : decode cX8_canBeginOne 3 = .ok (.if_icmp .eq 32, 3) := by decide +kernel
theorem dX8_canBeginOne_6 : decode cX8_canBeginOne 6 = .ok (.iload_n 0, 1) := by decide +kernel
theorem dX8_canBeginOne_7 : decode cX8_canBeginOne 7 = .ok (.iconst 3, 1) := by decide +kernel
theorem dX8_canBeginOne_8 : decode cX8_canBeginOne 8 = .ok (.if_icmp .eq 27, 3) := by decide +kernel
theorem dX8_canBeginOne_11 : decode cX8_canBeginOne 11 = .ok (.iload_n 0, 1) := by decide +kernel
theorem dX8_canBeginOne_12 : decode cX8_canBeginOne 12 = .ok (.bipush 14, 2) := by decide +kernel
theorem dX8_canBeginOne_14 : decode cX8_canBeginOne 14 = .ok (.if_icmp .eq 21, 3) := by decide +kernel
theorem dX8_canBeginOne_17 : decode cX8_canBeginOne 17 = .ok (.iload_n 0, 1) := by decide +kernel
theorem dX8_canBeginOne_18 : decode cX8_canBeginOne 18 = .ok (.bipush 15, 2) := by decide +kernel
theorem dX8_canBeginOne_20 : decode cX8_canBeginOne 20 = .ok (.if_icmp .eq 15, 3) := by decide +kernel
theorem dX8_canBeginOne_23 : decode cX8_canBeginOne 23 = .ok (.iload_n 0, 1) := by decide +kernel
theorem dX8_canBeginOne_24 : decode cX8_canBeginOne 24 = .ok (.bipush 16, 2) := by decide +kernel
theorem dX8_canBeginOne_26 : decode cX8_canBeginOne 26 = .ok (.if_icmp .lt 13, 3) := by decide +kernel
theorem dX8_canBeginOne_29 : decode cX8_canBeginOne 29 = .ok (.iload_n 0, 1) := by decide +kernel
theorem dX8_canBeginOne_30 : decode cX8_canBeginOne 30 = .ok (.bipush 21, 2) := by decide +kernel
theorem dX8_canBeginOne_32 : decode cX8_canBeginOne 32 = .ok (.if_icmp .gt 7, 3) := by decide +kernel
theorem dX8_canBeginOne_35 : decode cX8_canBeginOne 35 = .ok (.iconst 1, 1) := by decide +kernel
theorem dX8_canBeginOne_36 : decode cX8_canBeginOne 36 = .ok (.goto 4, 3) := by decide +kernel
theorem dX8_canBeginOne_39 : decode cX8_canBeginOne 39 = .ok (.iconst 0, 1) := by decide +kernel
theorem dX8_canBeginOne_40 : decode cX8_canBeginOne 40 = .ok (.ireturn, 1) := by decide +kernel
theorem dX8_clear_0 : decode cX8_clear 0 = .ok (.aload_n 0, 1) := by decide +kernel
theorem dX8_clear_1 : decode cX8_clear 1 = .ok (.iconst 0, 1) := by decide +kernel
theorem dX8_clear_2 : decode cX8_clear 2 = .ok (.putfield 24, 3) := by decide +kernel
theorem dX8_clear_5 : decode cX8_clear 5 = .ok (.aload_n 0, 1) := by decide +kernel
theorem dX8_clear_6 : decode cX8_clear 6 = .ok (.iconst 0, 1) := by decide +kernel
theorem dX8_clear_7 : decode cX8_clear 7 = .ok (.putfield 28, 3) := by decide +kernel
theorem dX8_clear_10 : decode cX8_clear 10 = .ok (.return_, 1) := by decide +kernel
theorem dX9_takeSign_0 : decode cX9_takeSign 0 = .ok (.aload_n 0, 1) := by decide +kernel
theorem dX9_takeSign_1 : decode cX9_takeSign 1 = .ok (.getfield 58, 3) := by decide +kernel
theorem dX9_takeSign_4 : decode cX9_takeSign 4 = .ok (.istore_n 1, 1) := by decide +kernel
theorem dX9_takeSign_5 : decode cX9_takeSign 5 = .ok (.iload_n 1, 1) := by decide +kernel
theorem dX9_takeSign_6 : decode cX9_takeSign 6 = .ok (.bipush 60, 2) := by decide +kernel
theorem dX9_takeSign_8 : decode cX9_takeSign 8 = .ok (.if_icmp .eq 23, 3) := by decide +kernel
theorem dX9_takeSign_11 : decode cX9_takeSign 11 = .ok (.iload_n 1, 1) := by decide +kernel
theorem dX9_takeSign_12 : decode cX9_takeSign 12 = .ok (.bipush 61, 2) := by decide +kernel
theorem dX9_takeSign_14 : decode cX9_takeSign 14 = .ok (.if_icmp .eq 17, 3) := by decide +kernel
theorem dX9_takeSign_17 : decode cX9_takeSign 17 = .ok (.iload_n 1, 1) := by decide +kernel
theorem dX9_takeSign_18 : decode cX9_takeSign 18 = .ok (.bipush 62, 2) := by decide +kernel
theorem dX9_takeSign_20 : decode cX9_takeSign 20 = .ok (.if_icmp .eq 11, 3) := by decide +kernel
theorem dX9_takeSign_23 : decode cX9_takeSign 23 = .ok (.aload_n 0, 1) := by decide +kernel
theorem dX9_takeSign_24 : decode cX9_takeSign 24 = .ok (.iconst 1, 1) := by decide +kernel
theorem dX9_takeSign_25 : decode cX9_takeSign 25 = .ok (.invokevirtual 75, 3) := by decide +kernel
theorem dX9_takeSign_28 : decode cX9_takeSign 28 = .ok (.pop, 1) := by decide +kernel
theorem dX9_takeSign_29 : decode cX9_takeSign 29 = .ok (.iconst (-1), 1) := by decide +kernel
theorem dX9_takeSign_30 : decode cX9_takeSign 30 = .ok (.ireturn, 1) := by decide +kernel
theorem dX9_takeSign_31 : decode cX9_takeSign 31 = .ok (.aload_n 0, 1) := by decide +kernel
theorem dX9_takeSign_32 : decode cX9_takeSign 32 = .ok (.invokevirtual 46, 3) := by decide +kernel
theorem dX9_takeSign_35 : decode cX9_takeSign 35 = .ok (.iload_n 1, 1) := by decide +kernel
theorem dX9_takeSign_36 : decode cX9_takeSign 36 = .ok (.ireturn, 1) := by decide +kernel
theorem dX12_isIn_0 : decode cX12_isIn 0 = .ok (.iload_n 0, 1) := by decide +kernel
theorem dX12_isIn_1 : decode cX12_isIn 1 = .ok (.iload_n 1, 1) := by decide +kernel
theorem dX12_isIn_2 : decode cX12_isIn 2 = .ok (.if_icmp .lt 12, 3) := by decide +kernel
theorem dX12_isIn_5 : decode cX12_isIn 5 = .ok (.iload_n 0, 1) := by decide +kernel
theorem dX12_isIn_6 : decode cX12_isIn 6 = .ok (.iload_n 2, 1) := by decide +kernel
theorem dX12_isIn_7 : decode cX12_isIn 7 = .ok (.if_icmp .gt 7, 3) := by decide +kernel
theorem dX12_isIn_10 : decode cX12_isIn 10 = .ok (.iconst 1, 1) := by decide +kernel
theorem dX12_isIn_11 : decode cX12_isIn 11 = .ok (.goto 4, 3) := by decide +kernel
theorem dX12_isIn_14 : decode cX12_isIn 14 = .ok (.iconst 0, 1) := by decide +kernel
theorem dX12_isIn_15 : decode cX12_isIn 15 = .ok (.ireturn, 1) := by decide +kernel
theorem dX12_isAct_0 : decode cX12_isAct 0 = .ok (.iload_n 1, 1) := by decide +kernel
theorem dX12_isAct_1 : decode cX12_isAct 1 = .ok (.iconst 0, 1) := by decide +kernel
theorem dX12_isAct_2 : decode cX12_isAct 2 = .ok (.aload_n 0, 1) := by decide +kernel
theorem dX12_isAct_3 : decode cX12_isAct 3 = .ok (.getfield 98, 3) := by decide +kernel
theorem dX12_isAct_6 : decode cX12_isAct 6 = .ok (.bipush 25, 2) := by decide +kernel
theorem dX12_isAct_8 : decode cX12_isAct 8 = .ok (.iaload, 1) := by decide +kernel
theorem dX12_isAct_9 : decode cX12_isAct 9 = .ok (.iconst 1, 1) := by decide +kernel
theorem dX12_isAct_10 : decode cX12_isAct 10 = .ok (.isub, 1) := by decide +kernel
theorem dX12_isAct_11 : decode cX12_isAct 11 = .ok (.invokestatic 75, 3) := by decide +kernel
theorem dX12_isAct_14 : decode cX12_isAct 14 = .ok (.ireturn, 1) := by decide +kernel
theorem dX12_bits_0 : decode cX12_bits 0 = .ok (.iconst 0, 1) := by decide +kernel
theorem dX12_bits_1 : decode cX12_bits 1 = .ok (.istore_n 1, 1) := by decide +kernel
theorem dX12_bits_2 : decode cX12_bits 2 = .ok (.iload_n 0, 1) := by decide +kernel
theorem dX12_bits_3 : decode cX12_bits 3 = .ok (.istore_n 2, 1) := by decide +kernel
theorem dX12_bits_4 : decode cX12_bits 4 = .ok (.iload_n 2, 1) := by decide +kernel
theorem dX12_bits_5 : decode cX12_bits 5 = .ok (.ifCond .eq 15, 3) := by decide +kernel
theorem dX12_bits_8 : decode cX12_bits 8 = .ok (.iinc 1 1, 3) := by decide +kernel
theorem dX12_bits_11 : decode cX12_bits 11 = .ok (.iload_n 2, 1) := by decide +kernel
theorem dX12_bits_12 : decode cX12_bits 12 = .ok (.iload_n 2, 1) := by decide +kernel
theorem dX12_bits_13 : decode cX12_bits 13 = .ok (.iconst 1, 1) := by decide +kernel
theorem dX12_bits_14 : decode cX12_bits 14 = .ok (.isub, 1) := by decide +kernel
theorem dX12_bits_15 : decode cX12_bits 15 = .ok (.iand, 1) := by decide +kernel
theorem dX12_bits_16 : decode cX12_bits 16 = .ok (.istore_n 2, 1) := by decide +kernel
theorem dX12_bits_17 : decode cX12_bits 17 = .ok (.goto (-13), 3) := by decide +kernel
theorem dX12_bits_20 : decode cX12_bits 20 = .ok (.iload_n 1, 1) := by decide +kernel
theorem dX12_bits_21 : decode cX12_bits 21 = .ok (.ireturn, 1) := by decide +kernel
theorem dX12_leafOf_0 : decode cX12_leafOf 0 = .ok (.aload_n 0, 1) := by decide +kernel
theorem dX12_leafOf_1 : decode cX12_leafOf 1 = .ok (.getfield 98, 3) := by decide +kernel
theorem dX12_leafOf_4 : decode cX12_leafOf 4 = .ok (.bipush 86, 2) := by decide +kernel
theorem dX12_leafOf_6 : decode cX12_leafOf 6 = .ok (.bipush 12, 2) := by decide +kernel
theorem dX12_leafOf_8 : decode cX12_leafOf 8 = .ok (.iload_n 1, 1) := by decide +kernel
theorem dX12_leafOf_9 : decode cX12_leafOf 9 = .ok (.imul, 1) := by decide +kernel
theorem dX12_leafOf_10 : decode cX12_leafOf 10 = .ok (.iadd, 1) := by decide +kernel
theorem dX12_leafOf_11 : decode cX12_leafOf 11 = .ok (.iload_n 2, 1) := by decide +kernel
theorem dX12_leafOf_12 : decode cX12_leafOf 12 = .ok (.iadd, 1) := by decide +kernel
theorem dX12_leafOf_13 : decode cX12_leafOf 13 = .ok (.iaload, 1) := by decide +kernel
theorem dX12_leafOf_14 : decode cX12_leafOf 14 = .ok (.ireturn, 1) := by decide +kernel
theorem dX12_hasCome_0 : decode cX12_hasCome 0 = .ok (.aload_n 0, 1) := by decide +kernel
theorem dX12_hasCome_1 : decode cX12_hasCome 1 = .ok (.iload_n 1, 1) := by decide +kernel
theorem dX12_hasCome_2 : decode cX12_hasCome 2 = .ok (.iload_n 2, 1) := by decide +kernel
theorem dX12_hasCome_3 : decode cX12_hasCome 3 = .ok (.invokevirtual 224, 3) := by decide +kernel
theorem dX12_hasCome_6 : decode cX12_hasCome 6 = .ok (.iconst (-1), 1) := by decide +kernel
theorem dX12_hasCome_7 : decode cX12_hasCome 7 = .ok (.if_icmp .eq 23, 3) := by decide +kernel
theorem dX12_hasCome_10 : decode cX12_hasCome 10 = .ok (.aload_n 0, 1) := by decide +kernel
theorem dX12_hasCome_11 : decode cX12_hasCome 11 = .ok (.iload_n 1, 1) := by decide +kernel
theorem dX12_hasCome_12 : decode cX12_hasCome 12 = .ok (.iload_n 2, 1) := by decide +kernel
theorem dX12_hasCome_13 : decode cX12_hasCome 13 = .ok (.invokevirtual 224, 3) := by decide +kernel
theorem dX12_hasCome_16 : decode cX12_hasCome 16 = .ok (.aload_n 0, 1) := by decide +kernel
theorem dX12_hasCome_17 : decode cX12_hasCome 17 = .ok (.getfield 98, 3) := by decide +kernel
theorem dX12_hasCome_20 : decode cX12_hasCome 20 = .ok (.bipush 24, 2) := by decide +kernel
theorem dX12_hasCome_22 : decode cX12_hasCome 22 = .ok (.iaload, 1) := by decide +kernel
theorem dX12_hasCome_23 : decode cX12_hasCome 23 = .ok (.if_icmp .gt 7, 3) := by decide +kernel
theorem dX12_hasCome_26 : decode cX12_hasCome 26 = .ok (.iconst 1, 1) := by decide +kernel
theorem dX12_hasCome_27 : decode cX12_hasCome 27 = .ok (.goto 4, 3) := by decide +kernel
theorem dX12_hasCome_30 : decode cX12_hasCome 30 = .ok (.iconst 0, 1) := by decide +kernel
theorem dX12_hasCome_31 : decode cX12_hasCome 31 = .ok (.ireturn, 1) := by decide +kernel
theorem dX12_willCome_0 : decode cX12_willCome 0 = .ok (.aload_n 0, 1) := by decide +kernel
theorem dX12_willCome_1 : decode cX12_willCome 1 = .ok (.iload_n 1, 1) := by decide +kernel
theorem dX12_willCome_2 : decode cX12_willCome 2 = .ok (.iload_n 2, 1) := by decide +kernel
theorem dX12_willCome_3 : decode cX12_willCome 3 = .ok (.invokevirtual 224, 3) := by decide +kernel
theorem dX12_willCome_6 : decode cX12_willCome 6 = .ok (.aload_n 0, 1) := by decide +kernel
theorem dX12_willCome_7 : decode cX12_willCome 7 = .ok (.getfield 98, 3) := by decide +kernel
theorem dX12_willCome_10 : decode cX12_willCome 10 = .ok (.bipush 24, 2) := by decide +kernel
theorem dX12_willCome_12 : decode cX12_willCome 12 = .ok (.iaload, 1) := by decide +kernel
theorem dX12_willCome_13 : decode cX12_willCome 13 = .ok (.if_icmp .le 7, 3) := by decide +kernel
theorem dX12_willCome_16 : decode cX12_willCome 16 = .ok (.iconst 1, 1) := by decide +kernel
theorem dX12_willCome_17 : decode cX12_willCome 17 = .ok (.goto 4, 3) := by decide +kernel
theorem dX12_willCome_20 : decode cX12_willCome 20 = .ok (.iconst 0, 1) := by decide +kernel
theorem dX12_willCome_21 : decode cX12_willCome 21 = .ok (.ireturn, 1) := by decide +kernel
theorem dX12_plantsFor_0 : decode cX12_plantsFor 0 = .ok (.iconst 0, 1) := by decide +kernel
theorem dX12_plantsFor_1 : decode cX12_plantsFor 1 = .ok (.istore_n 3, 1) := by decide +kernel
theorem dX12_plantsFor_2 : decode cX12_plantsFor 2 = .ok (.iconst 0, 1) := by decide +kernel
theorem dX12_plantsFor_3 : decode cX12_plantsFor 3 = .ok (.istore 4, 2) := by decide +kernel
theorem dX12_plantsFor_5 : decode cX12_plantsFor 5 = .ok (.iload 4, 2) := by decide +kernel
theorem dX12_plantsFor_7 : decode cX12_plantsFor 7 = .ok (.aload_n 0, 1) := by decide +kernel
theorem dX12_plantsFor_8 : decode cX12_plantsFor 8 = .ok (.getfield 98, 3) := by decide +kernel
theorem dX12_plantsFor_11 : decode cX12_plantsFor 11 = .ok (.iconst 1, 1) := by decide +kernel
theorem dX12_plantsFor_12 : decode cX12_plantsFor 12 = .ok (.iaload, 1) := by decide +kernel
theorem dX12_plantsFor_13 : decode cX12_plantsFor 13 = .ok (.if_icmp .ge 43, 3) := by decide +kernel
theorem dX12_plantsFor_16 : decode cX12_plantsFor 16 = .ok (.iload_n 2, 1) := by decide +kernel
theorem dX12_plantsFor_17 : decode cX12_plantsFor 17 = .ok (.ifCond .eq 16, 3) := by decide +kernel
theorem dX12_plantsFor_20 : decode cX12_plantsFor 20 = .ok (.aload_n 0, 1) := by decide +kernel
theorem dX12_plantsFor_21 : decode cX12_plantsFor 21 = .ok (.iload 4, 2) := by decide +kernel
theorem dX12_plantsFor_23 : decode cX12_plantsFor 23 = .ok (.iload_n 1, 1) := by decide +kernel
theorem dX12_plantsFor_24 : decode cX12_plantsFor 24 = .ok (.invokevirtual 228, 3) := by decide +kernel
theorem dX12_plantsFor_27 : decode cX12_plantsFor 27 = .ok (.ifCond .eq 23, 3) := by decide +kernel
theorem dX12_plantsFor_30 : decode cX12_plantsFor 30 = .ok (.goto 13, 3) := by decide +kernel
theorem dX12_plantsFor_33 : decode cX12_plantsFor 33 = .ok (.aload_n 0, 1) := by decide +kernel
theorem dX12_plantsFor_34 : decode cX12_plantsFor 34 = .ok (.iload 4, 2) := by decide +kernel
theorem dX12_plantsFor_36 : decode cX12_plantsFor 36 = .ok (.iload_n 1, 1) := by decide +kernel
theorem dX12_plantsFor_37 : decode cX12_plantsFor 37 = .ok (.invokevirtual 231, 3) := by decide +kernel
theorem dX12_plantsFor_40 : decode cX12_plantsFor 40 = .ok (.ifCond .eq 10, 3) := by decide +kernel
theorem dX12_plantsFor_43 : decode cX12_plantsFor 43 = .ok (.iload_n 3, 1) := by decide +kernel
theorem dX12_plantsFor_44 : decode cX12_plantsFor 44 = .ok (.iconst 1, 1) := by decide +kernel
theorem dX12_plantsFor_45 : decode cX12_plantsFor 45 = .ok (.iload 4, 2) := by decide +kernel
theorem dX12_plantsFor_47 : decode cX12_plantsFor 47 = .ok (.ishl, 1) := by decide +kernel
theorem dX12_plantsFor_48 : decode cX12_plantsFor 48 = .ok (.ior, 1) := by decide +kernel
theorem dX12_plantsFor_49 : decode cX12_plantsFor 49 = .ok (.istore_n 3, 1) := by decide +kernel
theorem dX12_plantsFor_50 : decode cX12_plantsFor 50 = .ok (.iinc 4 1, 3) := by decide +kernel
theorem dX12_plantsFor_53 : decode cX12_plantsFor 53 = .ok (.goto (-48), 3) := by decide +kernel
theorem dX12_plantsFor_56 : decode cX12_plantsFor 56 = .ok (.iload_n 3, 1) := by decide +kernel
theorem dX12_plantsFor_57 : decode cX12_plantsFor 57 = .ok (.ireturn, 1) := by decide +kernel
theorem dX12_isProved_0 : decode cX12_isProved 0 = .ok (.aload_n 0, 1) := by decide +kernel
theorem dX12_isProved_1 : decode cX12_isProved 1 = .ok (.iload_n 1, 1) := by decide +kernel
theorem dX12_isProved_2 : decode cX12_isProved 2 = .ok (.iconst 1, 1) := by decide +kernel
theorem dX12_isProved_3 : decode cX12_isProved 3 = .ok (.invokevirtual 234, 3) := by decide +kernel
theorem dX12_isProved_6 : decode cX12_isProved 6 = .ok (.invokestatic 238, 3) := by decide +kernel
theorem dX12_isProved_9 : decode cX12_isProved 9 = .ok (.aload_n 0, 1) := by decide +kernel
theorem dX12_isProved_10 : decode cX12_isProved 10 = .ok (.getfield 98, 3) := by decide +kernel
theorem dX12_isProved_13 : decode cX12_isProved 13 = .ok (.iconst 5, 1) := by decide +kernel
theorem dX12_isProved_14 : decode cX12_isProved 14 = .ok (.iaload, 1) := by decide +kernel
theorem dX12_isProved_15 : decode cX12_isProved 15 = .ok (.if_icmp .lt 7, 3) := by decide +kernel
theorem dX12_isProved_18 : decode cX12_isProved 18 = .ok (.iconst 1, 1) := by decide +kernel
theorem dX12_isProved_19 : decode cX12_isProved 19 = .ok (.goto 4, 3) := by decide +kernel
theorem dX12_isProved_22 : decode cX12_isProved 22 = .ok (.iconst 0, 1) := by decide +kernel
theorem dX12_isProved_23 : decode cX12_isProved 23 = .ok (.ireturn, 1) := by decide +kernel
theorem dX12_refuse_0 : decode cX12_refuse 0 = .ok (.aload_n 0, 1) := by decide +kernel
theorem dX12_refuse_1 : decode cX12_refuse 1 = .ok (.iconst 1, 1) := by decide +kernel
theorem dX12_refuse_2 : decode cX12_refuse 2 = .ok (.putfield 1, 3) := by decide +kernel
theorem dX12_refuse_5 : decode cX12_refuse 5 = .ok (.iconst 0, 1) := by decide +kernel
theorem dX12_refuse_6 : decode cX12_refuse 6 = .ok (.ireturn, 1) := by decide +kernel
theorem dX12_act_0 : decode cX12_act 0 = .ok (.aload_n 0, 1) := by decide +kernel
theorem dX12_act_1 : decode cX12_act 1 = .ok (.iconst 0, 1) := by decide +kernel
theorem dX12_act_2 : decode cX12_act 2 = .ok (.putfield 1, 3) := by decide +kernel
theorem dX12_act_5 : decode cX12_act 5 = .ok (.aload_n 0, 1) := by decide +kernel
theorem dX12_act_6 : decode cX12_act 6 = .ok (.iload_n 1, 1) := by decide +kernel
theorem dX12_act_7 : decode cX12_act 7 = .ok (.invokevirtual 256, 3) := by decide +kernel
theorem dX12_act_10 : decode cX12_act 10 = .ok (.ifCond .ne 8, 3) := by decide +kernel
theorem dX12_act_13 : decode cX12_act 13 = .ok (.aload_n 0, 1) := by decide +kernel
theorem dX12_act_14 : decode cX12_act 14 = .ok (.invokevirtual 247, 3) := by decide +kernel
theorem dX12_act_17 : decode cX12_act 17 = .ok (.ireturn, 1) := by decide +kernel
theorem dX12_act_18 : decode cX12_act 18 = .ok (.iload_n 2, 1) := by decide +kernel
theorem dX12_act_19 : decode cX12_act 19 = .ok (.tableswitch 109 0 6 #[41, 51, 61, 71, 81, 88, 95], 41) := by decide +kernel
theorem dX12_act_60 : decode cX12_act 60 = .ok (.aload_n 0, 1) := by decide +kernel
theorem dX12_act_61 : decode cX12_act 61 = .ok (.getfield 98, 3) := by decide +kernel
theorem dX12_act_64 : decode cX12_act 64 = .ok (.bipush 38, 2) := by decide +kernel
theorem dX12_act_66 : decode cX12_act 66 = .ok (.iload_n 1, 1) := by decide +kernel
theorem dX12_act_67 : decode cX12_act 67 = .ok (.iadd, 1) := by decide +kernel
theorem dX12_act_68 : decode cX12_act 68 = .ok (.iaload, 1) := by decide +kernel
theorem dX12_act_69 : decode cX12_act 69 = .ok (.ireturn, 1) := by decide +kernel
theorem dX12_act_70 : decode cX12_act 70 = .ok (.aload_n 0, 1) := by decide +kernel
theorem dX12_act_71 : decode cX12_act 71 = .ok (.getfield 98, 3) := by decide +kernel
theorem dX12_act_74 : decode cX12_act 74 = .ok (.bipush 50, 2) := by decide +kernel
theorem dX12_act_76 : decode cX12_act 76 = .ok (.iload_n 1, 1) := by decide +kernel
theorem dX12_act_77 : decode cX12_act 77 = .ok (.iadd, 1) := by decide +kernel
theorem dX12_act_78 : decode cX12_act 78 = .ok (.iaload, 1) := by decide +kernel
theorem dX12_act_79 : decode cX12_act 79 = .ok (.ireturn, 1) := by decide +kernel
theorem dX12_act_80 : decode cX12_act 80 = .ok (.aload_n 0, 1) := by decide +kernel
theorem dX12_act_81 : decode cX12_act 81 = .ok (.getfield 98, 3) := by decide +kernel
theorem dX12_act_84 : decode cX12_act 84 = .ok (.bipush 62, 2) := by decide +kernel
theorem dX12_act_86 : decode cX12_act 86 = .ok (.iload_n 1, 1) := by decide +kernel
theorem dX12_act_87 : decode cX12_act 87 = .ok (.iadd, 1) := by decide +kernel
theorem dX12_act_88 : decode cX12_act 88 = .ok (.iaload, 1) := by decide +kernel
theorem dX12_act_89 : decode cX12_act 89 = .ok (.ireturn, 1) := by decide +kernel
theorem dX12_act_90 : decode cX12_act 90 = .ok (.aload_n 0, 1) := by decide +kernel
theorem dX12_act_91 : decode cX12_act 91 = .ok (.getfield 98, 3) := by decide +kernel
theorem dX12_act_94 : decode cX12_act 94 = .ok (.bipush 74, 2) := by decide +kernel
theorem dX12_act_96 : decode cX12_act 96 = .ok (.iload_n 1, 1) := by decide +kernel
theorem dX12_act_97 : decode cX12_act 97 = .ok (.iadd, 1) := by decide +kernel
theorem dX12_act_98 : decode cX12_act 98 = .ok (.iaload, 1) := by decide +kernel
theorem dX12_act_99 : decode cX12_act 99 = .ok (.ireturn, 1) := by decide +kernel
theorem dX12_act_100 : decode cX12_act 100 = .ok (.aload_n 0, 1) := by decide +kernel
theorem dX12_act_101 : decode cX12_act 101 = .ok (.iload_n 1, 1) := by decide +kernel
theorem dX12_act_102 : decode cX12_act 102 = .ok (.iconst 1, 1) := by decide +kernel
theorem dX12_act_103 : decode cX12_act 103 = .ok (.invokevirtual 234, 3) := by decide +kernel
theorem dX12_act_106 : decode cX12_act 106 = .ok (.ireturn, 1) := by decide +kernel
theorem dX12_act_107 : decode cX12_act 107 = .ok (.aload_n 0, 1) := by decide +kernel
theorem dX12_act_108 : decode cX12_act 108 = .ok (.iload_n 1, 1) := by decide +kernel
theorem dX12_act_109 : decode cX12_act 109 = .ok (.iconst 0, 1) := by decide +kernel
theorem dX12_act_110 : decode cX12_act 110 = .ok (.invokevirtual 234, 3) := by decide +kernel
theorem dX12_act_113 : decode cX12_act 113 = .ok (.ireturn, 1) := by decide +kernel
theorem dX12_act_114 : decode cX12_act 114 = .ok (.aload_n 0, 1) := by decide +kernel
theorem dX12_act_115 : decode cX12_act 115 = .ok (.iload_n 1, 1) := by decide +kernel
theorem dX12_act_116 : decode cX12_act 116 = .ok (.invokevirtual 241, 3) := by decide +kernel
theorem dX12_act_119 : decode cX12_act 119 = .ok (.ifCond .eq 7, 3) := by decide +kernel
theorem dX12_act_122 : decode cX12_act 122 = .ok (.iconst 1, 1) := by decide +kernel
theorem dX12_act_123 : decode cX12_act 123 = .ok (.goto 4, 3) := by decide +kernel
theorem dX12_act_126 : decode cX12_act 126 = .ok (.iconst 0, 1) := by decide +kernel
theorem dX12_act_127 : decode cX12_act 127 = .ok (.ireturn, 1) := by decide +kernel
theorem dX12_act_128 : decode cX12_act 128 = .ok (.aload_n 0, 1) := by decide +kernel
theorem dX12_act_129 : decode cX12_act 129 = .ok (.invokevirtual 247, 3) := by decide +kernel
theorem dX12_act_132 : decode cX12_act 132 = .ok (.ireturn, 1) := by decide +kernel
theorem dX12_around_0 : decode cX12_around 0 = .ok (.aload_n 0, 1) := by decide +kernel
theorem dX12_around_1 : decode cX12_around 1 = .ok (.getfield 98, 3) := by decide +kernel
theorem dX12_around_4 : decode cX12_around 4 = .ok (.bipush 6, 2) := by decide +kernel
theorem dX12_around_6 : decode cX12_around 6 = .ok (.iload_n 1, 1) := by decide +kernel
theorem dX12_around_7 : decode cX12_around 7 = .ok (.iadd, 1) := by decide +kernel
theorem dX12_around_8 : decode cX12_around 8 = .ok (.iaload, 1) := by decide +kernel
theorem dX12_around_9 : decode cX12_around 9 = .ok (.iconst 1, 1) := by decide +kernel
theorem dX12_around_10 : decode cX12_around 10 = .ok (.iload_n 1, 1) := by decide +kernel
theorem dX12_around_11 : decode cX12_around 11 = .ok (.ishl, 1) := by decide +kernel
theorem dX12_around_12 : decode cX12_around 12 = .ok (.ior, 1) := by decide +kernel
theorem dX12_around_13 : decode cX12_around 13 = .ok (.ireturn, 1) := by decide +kernel
theorem dX12_ask_0 : decode cX12_ask 0 = .ok (.aload_n 0, 1) := by decide +kernel
theorem dX12_ask_1 : decode cX12_ask 1 = .ok (.iconst 0, 1) := by decide +kernel
theorem dX12_ask_2 : decode cX12_ask 2 = .ok (.putfield 1, 3) := by decide +kernel
theorem dX12_ask_5 : decode cX12_ask 5 = .ok (.aload_n 0, 1) := by decide +kernel
theorem dX12_ask_6 : decode cX12_ask 6 = .ok (.getfield 130, 3) := by decide +kernel
theorem dX12_ask_9 : decode cX12_ask 9 = .ok (.ireturn, 1) := by decide +kernel
theorem dX12_bad_0 : decode cX12_bad 0 = .ok (.aload_n 0, 1) := by decide +kernel
theorem dX12_bad_1 : decode cX12_bad 1 = .ok (.aload_n 0, 1) := by decide +kernel
theorem dX12_bad_2 : decode cX12_bad 2 = .ok (.getfield 30, 3) := by decide +kernel
theorem dX12_bad_5 : decode cX12_bad 5 = .ok (.iconst 1, 1) := by decide +kernel
theorem dX12_bad_6 : decode cX12_bad 6 = .ok (.if_icmp .ne 7, 3) := by decide +kernel
theorem dX12_bad_9 : decode cX12_bad 9 = .ok (.iconst 1, 1) := by decide +kernel
theorem dX12_bad_10 : decode cX12_bad 10 = .ok (.goto 4, 3) := by decide +kernel
theorem dX12_bad_13 : decode cX12_bad 13 = .ok (.iload_n 1, 1) := by decide +kernel
theorem dX12_bad_14 : decode cX12_bad 14 = .ok (.putfield 66, 3) := by decide +kernel
theorem dX12_bad_17 : decode cX12_bad 17 = .ok (.aload_n 0, 1) := by decide +kernel
theorem dX12_bad_18 : decode cX12_bad 18 = .ok (.aload_n 0, 1) := by decide +kernel
theorem dX12_bad_19 : decode cX12_bad 19 = .ok (.getfield 24, 3) := by decide +kernel
theorem dX12_bad_22 : decode cX12_bad 22 = .ok (.putfield 69, 3) := by decide +kernel
theorem dX12_bad_25 : decode cX12_bad 25 = .ok (.iconst 0, 1) := by decide +kernel
theorem dX12_bad_26 : decode cX12_bad 26 = .ok (.ireturn, 1) := by decide +kernel
theorem dX12_isDigit_0 : decode cX12_isDigit 0 = .ok (.iload_n 0, 1) := by decide +kernel
theorem dX12_isDigit_1 : decode cX12_isDigit 1 = .ok (.bipush 48, 2) := by decide +kernel
theorem dX12_isDigit_3 : decode cX12_isDigit 3 = .ok (.if_icmp .lt 13, 3) := by decide +kernel
theorem dX12_isDigit_6 : decode cX12_isDigit 6 = .ok (.iload_n 0, 1) := by decide +kernel
theorem dX12_isDigit_7 : decode cX12_isDigit 7 = .ok (.bipush 57, 2) := by decide +kernel
theorem dX12_isDigit_9 : decode cX12_isDigit 9 = .ok (.if_icmp .gt 7, 3) := by decide +kernel
theorem dX12_isDigit_12 : decode cX12_isDigit 12 = .ok (.iconst 1, 1) := by decide +kernel
theorem dX12_isDigit_13 : decode cX12_isDigit 13 = .ok (.goto 4, 3) := by decide +kernel
theorem dX12_isDigit_16 : decode cX12_isDigit 16 = .ok (.iconst 0, 1) := by decide +kernel
theorem dX12_isDigit_17 : decode cX12_isDigit 17 = .ok (.ireturn, 1) := by decide +kernel
theorem dX12_isLetter_0 : decode cX12_isLetter 0 = .ok (.iload_n 0, 1) := by decide +kernel
theorem dX12_isLetter_1 : decode cX12_isLetter 1 = .ok (.bipush 97, 2) := by decide +kernel
theorem dX12_isLetter_3 : decode cX12_isLetter 3 = .ok (.if_icmp .lt 13, 3) := by decide +kernel
theorem dX12_isLetter_6 : decode cX12_isLetter 6 = .ok (.iload_n 0, 1) := by decide +kernel
theorem dX12_isLetter_7 : decode cX12_isLetter 7 = .ok (.bipush 122, 2) := by decide +kernel
theorem dX12_isLetter_9 : decode cX12_isLetter 9 = .ok (.if_icmp .gt 7, 3) := by decide +kernel
theorem dX12_isLetter_12 : decode cX12_isLetter 12 = .ok (.iconst 1, 1) := by decide +kernel
theorem dX12_isLetter_13 : decode cX12_isLetter 13 = .ok (.goto 4, 3) := by decide +kernel
theorem dX12_isLetter_16 : decode cX12_isLetter 16 = .ok (.iconst 0, 1) := by decide +kernel
theorem dX12_isLetter_17 : decode cX12_isLetter 17 = .ok (.ireturn, 1) := by decide +kernel
theorem dX12_tapeAt_0 : decode cX12_tapeAt 0 = .ok (.iload_n 1, 1) := by decide +kernel
theorem dX12_tapeAt_1 : decode cX12_tapeAt 1 = .ok (.aload_n 0, 1) := by decide +kernel
theorem dX12_tapeAt_2 : decode cX12_tapeAt 2 = .ok (.getfield 18, 3) := by decide +kernel
theorem dX12_tapeAt_5 : decode cX12_tapeAt 5 = .ok (.if_icmp .ge 12, 3) := by decide +kernel
theorem dX12_tapeAt_8 : decode cX12_tapeAt 8 = .ok (.aload_n 0, 1) := by decide +kernel
theorem dX12_tapeAt_9 : decode cX12_tapeAt 9 = .ok (.getfield 7, 3) := by decide +kernel
theorem dX12_tapeAt_12 : decode cX12_tapeAt 12 = .ok (.iload_n 1, 1) := by decide +kernel
theorem dX12_tapeAt_13 : decode cX12_tapeAt 13 = .ok (.iaload, 1) := by decide +kernel
theorem dX12_tapeAt_14 : decode cX12_tapeAt 14 = .ok (.goto 4, 3) := by decide +kernel
theorem dX12_tapeAt_17 : decode cX12_tapeAt 17 = .ok (.iconst 0, 1) := by decide +kernel
theorem dX12_tapeAt_18 : decode cX12_tapeAt 18 = .ok (.ireturn, 1) := by decide +kernel
theorem dX12_go_0 : decode cX12_go 0 = .ok (.aload_n 0, 1) := by decide +kernel
theorem dX12_go_1 : decode cX12_go 1 = .ok (.getfield 21, 3) := by decide +kernel
theorem dX12_go_4 : decode cX12_go 4 = .ok (.aload_n 0, 1) := by decide +kernel
theorem dX12_go_5 : decode cX12_go 5 = .ok (.getfield 18, 3) := by decide +kernel
theorem dX12_go_8 : decode cX12_go 8 = .ok (.if_icmp .ge 44, 3) := by decide +kernel
theorem dX12_go_11 : decode cX12_go 11 = .ok (.aload_n 0, 1) := by decide +kernel
theorem dX12_go_12 : decode cX12_go 12 = .ok (.getfield 7, 3) := by decide +kernel
theorem dX12_go_15 : decode cX12_go 15 = .ok (.aload_n 0, 1) := by decide +kernel
theorem dX12_go_16 : decode cX12_go 16 = .ok (.getfield 21, 3) := by decide +kernel
theorem dX12_go_19 : decode cX12_go 19 = .ok (.iaload, 1) := by decide +kernel
theorem dX12_go_20 : decode cX12_go 20 = .ok (.bipush 32, 2) := by decide +kernel
theorem dX12_go_22 : decode cX12_go 22 = .ok (.if_icmp .eq 17, 3) := by decide +kernel
theorem dX12_go_25 : decode cX12_go 25 = .ok (.aload_n 0, 1) := by decide +kernel
theorem dX12_go_26 : decode cX12_go 26 = .ok (.getfield 7, 3) := by decide +kernel
theorem dX12_go_29 : decode cX12_go 29 = .ok (.aload_n 0, 1) := by decide +kernel
theorem dX12_go_30 : decode cX12_go 30 = .ok (.getfield 21, 3) := by decide +kernel
theorem dX12_go_33 : decode cX12_go 33 = .ok (.iaload, 1) := by decide +kernel
theorem dX12_go_34 : decode cX12_go 34 = .ok (.bipush 10, 2) := by decide +kernel
theorem dX12_go_36 : decode cX12_go 36 = .ok (.if_icmp .ne 16, 3) := by decide +kernel
theorem dX12_go_39 : decode cX12_go 39 = .ok (.aload_n 0, 1) := by decide +kernel
theorem dX12_go_40 : decode cX12_go 40 = .ok (.dup, 1) := by decide +kernel
theorem dX12_go_41 : decode cX12_go 41 = .ok (.getfield 21, 3) := by decide +kernel
theorem dX12_go_44 : decode cX12_go 44 = .ok (.iconst 1, 1) := by decide +kernel
theorem dX12_go_45 : decode cX12_go 45 = .ok (.iadd, 1) := by decide +kernel
theorem dX12_go_46 : decode cX12_go 46 = .ok (.putfield 21, 3) := by decide +kernel
theorem dX12_go_49 : decode cX12_go 49 = .ok (.goto (-49), 3) := by decide +kernel
theorem dX12_go_52 : decode cX12_go 52 = .ok (.aload_n 0, 1) := by decide +kernel
theorem dX12_go_53 : decode cX12_go 53 = .ok (.aload_n 0, 1) := by decide +kernel
theorem dX12_go_54 : decode cX12_go 54 = .ok (.getfield 21, 3) := by decide +kernel
theorem dX12_go_57 : decode cX12_go 57 = .ok (.putfield 24, 3) := by decide +kernel
theorem dX12_go_60 : decode cX12_go 60 = .ok (.aload_n 0, 1) := by decide +kernel
theorem dX12_go_61 : decode cX12_go 61 = .ok (.getfield 18, 3) := by decide +kernel
theorem dX12_go_64 : decode cX12_go 64 = .ok (.aload_n 0, 1) := by decide +kernel
theorem dX12_go_65 : decode cX12_go 65 = .ok (.getfield 27, 3) := by decide +kernel
theorem dX12_go_68 : decode cX12_go 68 = .ok (.if_icmp .le 28, 3) := by decide +kernel
theorem dX12_go_71 : decode cX12_go 71 = .ok (.aload_n 0, 1) := by decide +kernel
theorem dX12_go_72 : decode cX12_go 72 = .ok (.getfield 24, 3) := by decide +kernel
theorem dX12_go_75 : decode cX12_go 75 = .ok (.aload_n 0, 1) := by decide +kernel
theorem dX12_go_76 : decode cX12_go 76 = .ok (.getfield 27, 3) := by decide +kernel
theorem dX12_go_79 : decode cX12_go 79 = .ok (.if_icmp .lt 17, 3) := by decide +kernel
theorem dX12_go_82 : decode cX12_go 82 = .ok (.aload_n 0, 1) := by decide +kernel
theorem dX12_go_83 : decode cX12_go 83 = .ok (.aload_n 0, 1) := by decide +kernel
theorem dX12_go_84 : decode cX12_go 84 = .ok (.getfield 27, 3) := by decide +kernel
theorem dX12_go_87 : decode cX12_go 87 = .ok (.putfield 24, 3) := by decide +kernel
theorem dX12_go_90 : decode cX12_go 90 = .ok (.aload_n 0, 1) := by decide +kernel
theorem dX12_go_91 : decode cX12_go 91 = .ok (.iconst 1, 1) := by decide +kernel
theorem dX12_go_92 : decode cX12_go 92 = .ok (.putfield 30, 3) := by decide +kernel
theorem dX12_go_95 : decode cX12_go 95 = .ok (.return_, 1) := by decide +kernel
theorem dX12_go_96 : decode cX12_go 96 = .ok (.aload_n 0, 1) := by decide +kernel
theorem dX12_go_97 : decode cX12_go 97 = .ok (.getfield 21, 3) := by decide +kernel
theorem dX12_go_100 : decode cX12_go 100 = .ok (.aload_n 0, 1) := by decide +kernel
theorem dX12_go_101 : decode cX12_go 101 = .ok (.getfield 18, 3) := by decide +kernel
theorem dX12_go_104 : decode cX12_go 104 = .ok (.if_icmp .lt 9, 3) := by decide +kernel
theorem dX12_go_107 : decode cX12_go 107 = .ok (.aload_n 0, 1) := by decide +kernel
theorem dX12_go_108 : decode cX12_go 108 = .ok (.iconst 0, 1) := by decide +kernel
theorem dX12_go_109 : decode cX12_go 109 = .ok (.putfield 30, 3) := by decide +kernel
theorem dX12_go_112 : decode cX12_go 112 = .ok (.return_, 1) := by decide +kernel
theorem dX12_go_113 : decode cX12_go 113 = .ok (.aload_n 0, 1) := by decide +kernel
theorem dX12_go_114 : decode cX12_go 114 = .ok (.getfield 7, 3) := by decide +kernel
theorem dX12_go_117 : decode cX12_go 117 = .ok (.aload_n 0, 1) := by decide +kernel
theorem dX12_go_118 : decode cX12_go 118 = .ok (.getfield 21, 3) := by decide +kernel
theorem dX12_go_121 : decode cX12_go 121 = .ok (.iaload, 1) := by decide +kernel
theorem dX12_go_122 : decode cX12_go 122 = .ok (.istore_n 1, 1) := by decide +kernel
theorem dX12_go_123 : decode cX12_go 123 = .ok (.iload_n 1, 1) := by decide +kernel
theorem dX12_go_124 : decode cX12_go 124 = .ok (.invokestatic 33, 3) := by decide +kernel
theorem dX12_go_127 : decode cX12_go 127 = .ok (.ifCond .ne 71, 3) := by decide +kernel
theorem dX12_go_130 : decode cX12_go 130 = .ok (.iload_n 1, 1) := by decide +kernel
theorem dX12_go_131 : decode cX12_go 131 = .ok (.invokestatic 37, 3) := by decide +kernel
theorem dX12_go_134 : decode cX12_go 134 = .ok (.ifCond .ne 64, 3) := by decide +kernel
theorem dX12_go_137 : decode cX12_go 137 = .ok (.aload_n 0, 1) := by decide +kernel
theorem dX12_go_138 : decode cX12_go 138 = .ok (.iload_n 1, 1) := by decide +kernel
theorem dX12_go_139 : decode cX12_go 139 = .ok (.bipush 59, 2) := by decide +kernel
theorem dX12_go_141 : decode cX12_go 141 = .ok (.if_icmp .eq 33, 3) := by decide +kernel
theorem dX12_go_144 : decode cX12_go 144 = .ok (.iload_n 1, 1) := by decide +kernel
theorem dX12_go_145 : decode cX12_go 145 = .ok (.bipush 60, 2) := by decide +kernel
theorem dX12_go_147 : decode cX12_go 147 = .ok (.if_icmp .eq 27, 3) := by decide +kernel
theorem dX12_go_150 : decode cX12_go 150 = .ok (.iload_n 1, 1) := by decide +kernel
theorem dX12_go_151 : decode cX12_go 151 = .ok (.bipush 61, 2) := by decide +kernel
theorem dX12_go_153 : decode cX12_go 153 = .ok (.if_icmp .eq 21, 3) := by decide +kernel
theorem dX12_go_156 : decode cX12_go 156 = .ok (.iload_n 1, 1) := by decide +kernel
theorem dX12_go_157 : decode cX12_go 157 = .ok (.bipush 62, 2) := by decide +kernel
theorem dX12_go_159 : decode cX12_go 159 = .ok (.if_icmp .eq 15, 3) := by decide +kernel
theorem dX12_go_162 : decode cX12_go 162 = .ok (.iload_n 1, 1) := by decide +kernel
theorem dX12_go_163 : decode cX12_go 163 = .ok (.bipush 40, 2) := by decide +kernel
theorem dX12_go_165 : decode cX12_go 165 = .ok (.if_icmp .eq 9, 3) := by decide +kernel
theorem dX12_go_168 : decode cX12_go 168 = .ok (.iload_n 1, 1) := by decide +kernel
theorem dX12_go_169 : decode cX12_go 169 = .ok (.bipush 41, 2) := by decide +kernel
theorem dX12_go_171 : decode cX12_go 171 = .ok (.if_icmp .ne 7, 3) := by decide +kernel
theorem dX12_go_174 : decode cX12_go 174 = .ok (.iconst 4, 1) := by decide +kernel
theorem dX12_go_175 : decode cX12_go 175 = .ok (.goto 4, 3) := by decide +kernel
theorem dX12_go_178 : decode cX12_go 178 = .ok (.iconst 1, 1) := by decide +kernel
theorem dX12_go_179 : decode cX12_go 179 = .ok (.putfield 30, 3) := by decide +kernel
theorem dX12_go_182 : decode cX12_go 182 = .ok (.aload_n 0, 1) := by decide +kernel
theorem dX12_go_183 : decode cX12_go 183 = .ok (.iload_n 1, 1) := by decide +kernel
theorem dX12_go_184 : decode cX12_go 184 = .ok (.putfield 40, 3) := by decide +kernel
theorem dX12_go_187 : decode cX12_go 187 = .ok (.aload_n 0, 1) := by decide +kernel
theorem dX12_go_188 : decode cX12_go 188 = .ok (.dup, 1) := by decide +kernel
theorem dX12_go_189 : decode cX12_go 189 = .ok (.getfield 21, 3) := by decide +kernel
theorem dX12_go_192 : decode cX12_go 192 = .ok (.iconst 1, 1) := by decide +kernel
theorem dX12_go_193 : decode cX12_go 193 = .ok (.iadd, 1) := by decide +kernel
theorem dX12_go_194 : decode cX12_go 194 = .ok (.putfield 21, 3) := by decide +kernel
theorem dX12_go_197 : decode cX12_go 197 = .ok (.return_, 1) := by decide +kernel
theorem dX12_go_198 : decode cX12_go 198 = .ok (.iload_n 1, 1) := by decide +kernel
theorem dX12_go_199 : decode cX12_go 199 = .ok (.invokestatic 33, 3) := by decide +kernel
theorem dX12_go_202 : decode cX12_go 202 = .ok (.istore_n 2, 1) := by decide +kernel
theorem dX12_go_203 : decode cX12_go 203 = .ok (.iconst 1, 1) := by decide +kernel
theorem dX12_go_204 : decode cX12_go 204 = .ok (.istore_n 3, 1) := by decide +kernel
theorem dX12_go_205 : decode cX12_go 205 = .ok (.aload_n 0, 1) := by decide +kernel
theorem dX12_go_206 : decode cX12_go 206 = .ok (.lconst 0, 1) := by decide +kernel
theorem dX12_go_207 : decode cX12_go 207 = .ok (.putfield 43, 3) := by decide +kernel
theorem dX12_go_210 : decode cX12_go 210 = .ok (.aload_n 0, 1) := by decide +kernel
theorem dX12_go_211 : decode cX12_go 211 = .ok (.iconst 0, 1) := by decide +kernel
theorem dX12_go_212 : decode cX12_go 212 = .ok (.putfield 47, 3) := by decide +kernel
theorem dX12_go_215 : decode cX12_go 215 = .ok (.aload_n 0, 1) := by decide +kernel
theorem dX12_go_216 : decode cX12_go 216 = .ok (.aload_n 0, 1) := by decide +kernel
theorem dX12_go_217 : decode cX12_go 217 = .ok (.getfield 21, 3) := by decide +kernel
theorem dX12_go_220 : decode cX12_go 220 = .ok (.invokevirtual 50, 3) := by decide +kernel
theorem dX12_go_223 : decode cX12_go 223 = .ok (.invokestatic 33, 3) := by decide +kernel
theorem dX12_go_226 : decode cX12_go 226 = .ok (.ifCond .ne 17, 3) := by decide +kernel
theorem dX12_go_229 : decode cX12_go 229 = .ok (.aload_n 0, 1) := by decide +kernel
theorem dX12_go_230 : decode cX12_go 230 = .ok (.aload_n 0, 1) := by decide +kernel
theorem dX12_go_231 : decode cX12_go 231 = .ok (.getfield 21, 3) := by decide +kernel
theorem dX12_go_234 : decode cX12_go 234 = .ok (.invokevirtual 50, 3) := by decide +kernel
theorem dX12_go_237 : decode cX12_go 237 = .ok (.invokestatic 37, 3) := by decide +kernel
theorem dX12_go_240 : decode cX12_go 240 = .ok (.ifCond .eq 110, 3) := by decide +kernel
theorem dX12_go_243 : decode cX12_go 243 = .ok (.aload_n 0, 1) := by decide +kernel
theorem dX12_go_244 : decode cX12_go 244 = .ok (.getfield 7, 3) := by decide +kernel
theorem dX12_go_247 : decode cX12_go 247 = .ok (.aload_n 0, 1) := by decide +kernel
theorem dX12_go_248 : decode cX12_go 248 = .ok (.getfield 21, 3) := by decide +kernel
theorem dX12_go_251 : decode cX12_go 251 = .ok (.iaload, 1) := by decide +kernel
theorem dX12_go_252 : decode cX12_go 252 = .ok (.istore 4, 2) := by decide +kernel
theorem dX12_go_254 : decode cX12_go 254 = .ok (.iload_n 3, 1) := by decide +kernel
theorem dX12_go_255 : decode cX12_go 255 = .ok (.ifCond .eq 16, 3) := by decide +kernel
theorem dX12_go_258 : decode cX12_go 258 = .ok (.iload 4, 2) := by decide +kernel
theorem dX12_go_260 : decode cX12_go 260 = .ok (.invokestatic 33, 3) := by decide +kernel
theorem dX12_go_263 : decode cX12_go 263 = .ok (.iload_n 2, 1) := by decide +kernel
theorem dX12_go_264 : decode cX12_go 264 = .ok (.if_icmp .ne 7, 3) := by decide +kernel
theorem dX12_go_267 : decode cX12_go 267 = .ok (.iconst 1, 1) := by decide +kernel
theorem dX12_go_268 : decode cX12_go 268 = .ok (.goto 4, 3) := by decide +kernel
theorem dX12_go_271 : decode cX12_go 271 = .ok (.iconst 0, 1) := by decide +kernel
theorem dX12_go_272 : decode cX12_go 272 = .ok (.istore_n 3, 1) := by decide +kernel
theorem dX12_go_273 : decode cX12_go 273 = .ok (.aload_n 0, 1) := by decide +kernel
theorem dX12_go_274 : decode cX12_go 274 = .ok (.getfield 21, 3) := by decide +kernel
theorem dX12_go_277 : decode cX12_go 277 = .ok (.aload_n 0, 1) := by decide +kernel
theorem dX12_go_278 : decode cX12_go 278 = .ok (.getfield 24, 3) := by decide +kernel
theorem dX12_go_281 : decode cX12_go 281 = .ok (.isub, 1) := by decide +kernel
theorem dX12_go_282 : decode cX12_go 282 = .ok (.bipush 7, 2) := by decide +kernel
theorem dX12_go_284 : decode cX12_go 284 = .ok (.if_icmp .ge 23, 3) := by decide +kernel
theorem dX12_go_287 : decode cX12_go 287 = .ok (.aload_n 0, 1) := by decide +kernel
theorem dX12_go_288 : decode cX12_go 288 = .ok (.ldc2_w 54, 3) := by decide +kernel
theorem dX12_go_291 : decode cX12_go 291 = .ok (.aload_n 0, 1) := by decide +kernel
theorem dX12_go_292 : decode cX12_go 292 = .ok (.getfield 43, 3) := by decide +kernel
theorem dX12_go_295 : decode cX12_go 295 = .ok (.lmul, 1) := by decide +kernel
theorem dX12_go_296 : decode cX12_go 296 = .ok (.iload 4, 2) := by decide +kernel
theorem dX12_go_298 : decode cX12_go 298 = .ok (.i2l, 1) := by decide +kernel
theorem dX12_go_299 : decode cX12_go 299 = .ok (.ladd, 1) := by decide +kernel
theorem dX12_go_300 : decode cX12_go 300 = .ok (.ldc2_w 56, 3) := by decide +kernel
theorem dX12_go_303 : decode cX12_go 303 = .ok (.lsub, 1) := by decide +kernel
theorem dX12_go_304 : decode cX12_go 304 = .ok (.putfield 43, 3) := by decide +kernel
theorem dX12_go_307 : decode cX12_go 307 = .ok (.aload_n 0, 1) := by decide +kernel
theorem dX12_go_308 : decode cX12_go 308 = .ok (.getfield 21, 3) := by decide +kernel
theorem dX12_go_311 : decode cX12_go 311 = .ok (.aload_n 0, 1) := by decide +kernel
theorem dX12_go_312 : decode cX12_go 312 = .ok (.getfield 24, 3) := by decide +kernel
theorem dX12_go_315 : decode cX12_go 315 = .ok (.isub, 1) := by decide +kernel
theorem dX12_go_316 : decode cX12_go 316 = .ok (.iconst 3, 1) := by decide +kernel
theorem dX12_go_317 : decode cX12_go 317 = .ok (.if_icmp .ge 20, 3) := by decide +kernel
theorem dX12_go_320 : decode cX12_go 320 = .ok (.aload_n 0, 1) := by decide +kernel
theorem dX12_go_321 : decode cX12_go 321 = .ok (.bipush 10, 2) := by decide +kernel
theorem dX12_go_323 : decode cX12_go 323 = .ok (.aload_n 0, 1) := by decide +kernel
theorem dX12_go_324 : decode cX12_go 324 = .ok (.getfield 47, 3) := by decide +kernel
theorem dX12_go_327 : decode cX12_go 327 = .ok (.imul, 1) := by decide +kernel
theorem dX12_go_328 : decode cX12_go 328 = .ok (.iload 4, 2) := by decide +kernel
theorem dX12_go_330 : decode cX12_go 330 = .ok (.iadd, 1) := by decide +kernel
theorem dX12_go_331 : decode cX12_go 331 = .ok (.bipush 48, 2) := by decide +kernel
theorem dX12_go_333 : decode cX12_go 333 = .ok (.isub, 1) := by decide +kernel
theorem dX12_go_334 : decode cX12_go 334 = .ok (.putfield 47, 3) := by decide +kernel
theorem dX12_go_337 : decode cX12_go 337 = .ok (.aload_n 0, 1) := by decide +kernel
theorem dX12_go_338 : decode cX12_go 338 = .ok (.dup, 1) := by decide +kernel
theorem dX12_go_339 : decode cX12_go 339 = .ok (.getfield 21, 3) := by decide +kernel
theorem dX12_go_342 : decode cX12_go 342 = .ok (.iconst 1, 1) := by decide +kernel
theorem dX12_go_343 : decode cX12_go 343 = .ok (.iadd, 1) := by decide +kernel
theorem dX12_go_344 : decode cX12_go 344 = .ok (.putfield 21, 3) := by decide +kernel
theorem dX12_go_347 : decode cX12_go 347 = .ok (.goto (-132), 3) := by decide +kernel
theorem dX12_go_350 : decode cX12_go 350 = .ok (.aload_n 0, 1) := by decide +kernel
theorem dX12_go_351 : decode cX12_go 351 = .ok (.iload_n 3, 1) := by decide +kernel
theorem dX12_go_352 : decode cX12_go 352 = .ok (.ifCond .eq 25, 3) := by decide +kernel
theorem dX12_go_355 : decode cX12_go 355 = .ok (.aload_n 0, 1) := by decide +kernel
theorem dX12_go_356 : decode cX12_go 356 = .ok (.getfield 21, 3) := by decide +kernel
theorem dX12_go_359 : decode cX12_go 359 = .ok (.aload_n 0, 1) := by decide +kernel
theorem dX12_go_360 : decode cX12_go 360 = .ok (.getfield 24, 3) := by decide +kernel
theorem dX12_go_363 : decode cX12_go 363 = .ok (.isub, 1) := by decide +kernel
theorem dX12_go_364 : decode cX12_go 364 = .ok (.iload_n 2, 1) := by decide +kernel
theorem dX12_go_365 : decode cX12_go 365 = .ok (.ifCond .eq 8, 3) := by decide +kernel
theorem dX12_go_368 : decode cX12_go 368 = .ok (.bipush 7, 2) := by decide +kernel
theorem dX12_go_370 : decode cX12_go 370 = .ok (.goto 4, 3) := by decide +kernel
theorem dX12_go_373 : decode cX12_go 373 = .ok (.iconst 3, 1) := by decide +kernel
theorem dX12_go_374 : decode cX12_go 374 = .ok (.if_icmp .le 7, 3) := by decide +kernel
theorem dX12_go_377 : decode cX12_go 377 = .ok (.iconst 1, 1) := by decide +kernel
theorem dX12_go_378 : decode cX12_go 378 = .ok (.goto 12, 3) := by decide +kernel
theorem dX12_go_381 : decode cX12_go 381 = .ok (.iload_n 2, 1) := by decide +kernel
theorem dX12_go_382 : decode cX12_go 382 = .ok (.ifCond .eq 7, 3) := by decide +kernel
theorem dX12_go_385 : decode cX12_go 385 = .ok (.iconst 2, 1) := by decide +kernel
theorem dX12_go_386 : decode cX12_go 386 = .ok (.goto 4, 3) := by decide +kernel
theorem dX12_go_389 : decode cX12_go 389 = .ok (.iconst 3, 1) := by decide +kernel
theorem dX12_go_390 : decode cX12_go 390 = .ok (.putfield 30, 3) := by decide +kernel
theorem dX12_go_393 : decode cX12_go 393 = .ok (.return_, 1) := by decide +kernel
-- X11_undo
abbrev rmX11_undo : Room := { frames := 3, cells := 0, slots := 0, locals := 91 }
def fX11_undo (S : zSt) : Option (Int32 × zSt) :=
  zBp (fX7_takeBack S 14) (fun r3 S2 => some (r3, S2))
set_option maxHeartbeats 4000000 in
set_option maxRecDepth 100000 in
theorem mX11_undo {l : Launch} {D : va_G} {cy : Nat → ClassId} {q : Nat → Nat} {A : Nat → Prop} {S : zSt} (hq : zQ A q zNC) {z : (Int32 × zSt)} (h : fX11_undo S = some z) : zMq l yX11_undo cX11_undo 1 (some .int) rmX11_undo [.ref (q 0)] zsh zNC D cy q A S z := by
  refine Met.ofW (cc := cX11_undo) (maxL := 1) (ret := (some .int)) (by decide) rfl ?_
  intro p e s m args below meth c s₁ B hml hv
  obtain ⟨rfl, hP, hK⟩ := hv
  have cx : zX RX11 cX11_undo 1 p s m ([.ref (q 0)]).toArray c D cy := ⟨B.exec, B.bytes, hml, findClass_of_methodNamed B.named, fun w hw => atoms_spec (ws := Cond.code yX11_undo cX11_undo 1 (some .int) :: zTB) B.pre w (List.mem_cons_of_mem _ hw), hK⟩
  have hx := cx.1
  have hb := cx.2.1
  have hr := B.returns
  have hlk := B.notSynchronized
  have hS : va_S A s.heap s.heap [] := va_S.rf
  have hl := lv_entry ([.ref (q 0)]) (n := 1) (Nat.le_of_ble_eq_true rfl)
  rw [lg_entry_eq]
  generalize (lg_sl ([.ref (q 0)]) ++ List.replicate (1 - (lg_sl ([.ref (q 0)])).length) Slot.unset).toArray = ls at hl ⊢
  have hl : lv_has ls 1 [(0, .ref (q 0))] := hl
  unfold fX11_undo at h
  refine lv_aload_n (pc := 0) hx hb dX11_undo_0 rfl (lv_at hl 0 rfl) ?_
  refine zr_getR (pc := 1) (t := 44) cx lk_X11_38 hP nC_0 sC_0 rfl dX11_undo_1 ?_
  refine lv_aload_n (pc := 4) hx hb dX11_undo_4 rfl (lv_at hl 0 rfl) ?_
  refine zr_getR (pc := 5) (t := 14) cx lk_X11_28 hP nC_0 sC_0 rfl dX11_undo_5 ?_
  obtain ⟨r3, S2, k1, h⟩ := zBp_e h
  refine zr_VQ (pc := 8) (rest := []) cx cv_X11_271 (mX7_takeBack hq zLife_14 k1) ⟨⟨rfl, rfl⟩, Nat.le_of_ble_eq_true rfl, Nat.le_of_ble_eq_true rfl⟩ ⟨Nat.le_of_ble_eq_true rfl, Nat.le_of_ble_eq_true rfl⟩ hP hS nC_44 sC_44 rfl hl.1 rfl rfl (Nat.le_of_ble_eq_true rfl) dX11_undo_8 (fun H locs hP hS => ?_)
  have hz := Option.some.inj h
  exact zr_rqI (pc := 11) cx hr hlk hP hS hz dX11_undo_11
-- X3_addName
abbrev rmX3_addName : Room := { frames := 0, cells := 0, slots := 0, locals := 0 }
def fX3_addName_62 (S : zSt) (a0 : Nat) (v3 : Int32) : Option zSt :=
  zGd (zIx v3 4) (zGd (zIx v3 4) (zLt (zI S (a0 + 1) v3.toNatClampNeg ((S.1 (a0 + 1) v3.toNatClampNeg) + (1 : Int32))) (fun S12 => some S12)))
set_option maxHeartbeats 4000000 in
set_option maxRecDepth 100000 in
theorem kX3_addName_62 {p : Program} {l : Launch} {e : Env} {s : State} {m : MethodId} {args : Array Value} {below : List Frame} {meth : Method} {c : Code} {D : va_G} {cy : Nat → ClassId} {q : Nat → Nat} {A : Nat → Prop} (cx : zX RX3 cX3_addName 4 p s m args c D cy) (hr : meth.sig.returnType = none) (hlk : meth.locks = false) (hq : zQ A q zNC) {a0 : Nat} (ha0 : zHouse a0) {z : zSt} {S : zSt} {v3 : Int32} (h : fX3_addName_62 S a0 v3 = some z) {H : Heap} {locs : List Loc} (hP : va_P D vwCl (zW zsh zNC cy q S) H) (hS : va_S A s.heap H locs) {ls : Array Slot} (hl : lv_has ls 4 [(0, .ref (q a0)), (3, .int v3)]) : W p l e rmX3_addName s m args below meth c H locs 0 0 (MQ below (va_Qv (fun (u : zSt) => u = z) (fun u t => va_P D vwCl (zW zsh zNC cy q u) t.heap) A) args s 0 0 A) (F0 m 62 ls []) := by
  have hx := cx.1
  have hb := cx.2.1
  unfold fX3_addName_62 at h
  refine lv_aload_n (pc := 62) hx hb dX3_addName_62 rfl (lv_at hl 0 rfl) ?_
  refine zr_getR (pc := 63) (t := (a0 + 1)) cx lk_X3_9 hP (nX3_0 ha0) (sX3_0 ha0) rfl dX3_addName_63 ?_
  refine lv_iload_n (pc := 66) hx hb dX3_addName_66 rfl (lv_at hl 1 rfl) ?_
  refine lv_dup2_11 (pc := 67) hx hb dX3_addName_67 rfl rfl ?_
  obtain ⟨g10, h⟩ := zGd_e h
  refine zr_iald (pc := 68) cx hP (nX3_1 ha0) (sX3_1 ha0) g10 dX3_addName_68 ?_
  refine lv_iconst (pc := 69) hx hb dX3_addName_69 zc_1 ?_
  refine lv_iadd (pc := 70) hx hb dX3_addName_70 ?_
  obtain ⟨g11, h⟩ := zGd_e h
  obtain ⟨S12, eS12, h⟩ := zLt_e h
  refine zr_iast (pc := 71) cx hq hP hS (nX3_1 ha0) (sX3_1 ha0) g11 dX3_addName_71 (fun H locs hP hS => ?_)
  rw [← eS12] at hP
  have hz := Option.some.inj h
  exact zr_rqV (pc := 72) cx hr hlk hP hS hz dX3_addName_72
def fX3_addName (S : zSt) (a0 : Nat) (v1 : Int64) (v3 : Int32) : Option zSt :=
  zGd (zIx (S.1 a0 9) 20) (zLt (zJ S (a0 + 7) (S.1 a0 9).toNatClampNeg v1) (fun S2 => zGd (zIx (S2.1 a0 9) 20) (zLt (zI S2 (a0 + 8) (S2.1 a0 9).toNatClampNeg v3) (fun S4 => zGd (zIx v3 4) (zGd (zIx (S4.1 a0 9) 20) (zLt (zI S4 (a0 + 9) (S4.1 a0 9).toNatClampNeg (S4.1 (a0 + 1) v3.toNatClampNeg)) (fun S7 => zLt (zI S7 a0 9 ((S7.1 a0 9) + (1 : Int32))) (fun S8 => zBr (v3 = (1 : Int32)) (zGd (zIx v3 4) (zGd (zIx (S8.1 (a0 + 1) v3.toNatClampNeg) 6) (zLt (zJ S8 (a0 + 6) (S8.1 (a0 + 1) v3.toNatClampNeg).toNatClampNeg v1) (fun S15 => fX3_addName_62 S15 a0 v3)))) (fX3_addName_62 S8 a0 v3)))))))))
set_option maxHeartbeats 4000000 in
set_option maxRecDepth 100000 in
theorem mX3_addName {l : Launch} {D : va_G} {cy : Nat → ClassId} {q : Nat → Nat} {A : Nat → Prop} {S : zSt} {a0 : Nat} {v1 : Int64} {v3 : Int32} (hq : zQ A q zNC) (ha0 : zHouse a0) {z : zSt} (h : fX3_addName S a0 v1 v3 = some z) : zMv l yX3_addName cX3_addName 4 none rmX3_addName [.ref (q a0), .long v1, .int v3] zsh zNC D cy q A S z := by
  refine Met.ofW (cc := cX3_addName) (maxL := 4) (ret := none) (by decide) rfl ?_
  intro p e s m args below meth c s₁ B hml hv
  obtain ⟨rfl, hP, hK⟩ := hv
  have cx : zX RX3 cX3_addName 4 p s m ([.ref (q a0), .long v1, .int v3]).toArray c D cy := ⟨B.exec, B.bytes, hml, findClass_of_methodNamed B.named, fun w hw => atoms_spec (ws := Cond.code yX3_addName cX3_addName 4 none :: zTB) B.pre w (List.mem_cons_of_mem _ hw), hK⟩
  have hx := cx.1
  have hb := cx.2.1
  have hr := B.returns
  have hlk := B.notSynchronized
  have hS : va_S A s.heap s.heap [] := va_S.rf
  have hl := lv_entry ([.ref (q a0), .long v1, .int v3]) (n := 4) (Nat.le_of_ble_eq_true rfl)
  rw [lg_entry_eq]
  generalize (lg_sl ([.ref (q a0), .long v1, .int v3]) ++ List.replicate (4 - (lg_sl ([.ref (q a0), .long v1, .int v3])).length) Slot.unset).toArray = ls at hl ⊢
  have hl : lv_has ls 4 [(0, .ref (q a0)), (1, .long v1), (3, .int v3)] := hl
  unfold fX3_addName at h
  refine lv_aload_n (pc := 0) hx hb dX3_addName_0 rfl (lv_at hl 0 rfl) ?_
  refine zr_getR (pc := 1) (t := (a0 + 7)) cx lk_X3_31 hP (nX3_0 ha0) (sX3_0 ha0) rfl dX3_addName_1 ?_
  refine lv_aload_n (pc := 4) hx hb dX3_addName_4 rfl (lv_at hl 0 rfl) ?_
  refine zr_getI (pc := 5) cx lk_X3_47 hP (nX3_0 ha0) (sX3_0 ha0) rfl dX3_addName_5 ?_
  refine lv_lload_n (pc := 8) hx hb dX3_addName_8 rfl (lv_at hl 1 rfl) ?_
  obtain ⟨g1, h⟩ := zGd_e h
  obtain ⟨S2, eS2, h⟩ := zLt_e h
  refine zr_last (pc := 9) cx hq hP hS (nX3_7 ha0) (sX3_7 ha0) g1 dX3_addName_9 (fun H locs hP hS => ?_)
  rw [← eS2] at hP
  refine lv_aload_n (pc := 10) hx hb dX3_addName_10 rfl (lv_at hl 0 rfl) ?_
  refine zr_getR (pc := 11) (t := (a0 + 8)) cx lk_X3_34 hP (nX3_0 ha0) (sX3_0 ha0) rfl dX3_addName_11 ?_
  refine lv_aload_n (pc := 14) hx hb dX3_addName_14 rfl (lv_at hl 0 rfl) ?_
  refine zr_getI (pc := 15) cx lk_X3_47 hP (nX3_0 ha0) (sX3_0 ha0) rfl dX3_addName_15 ?_
  refine lv_iload_n (pc := 18) hx hb dX3_addName_18 rfl (lv_at hl 2 rfl) ?_
  obtain ⟨g3, h⟩ := zGd_e h
  obtain ⟨S4, eS4, h⟩ := zLt_e h
  refine zr_iast (pc := 19) cx hq hP hS (nX3_8 ha0) (sX3_8 ha0) g3 dX3_addName_19 (fun H locs hP hS => ?_)
  rw [← eS4] at hP
  refine lv_aload_n (pc := 20) hx hb dX3_addName_20 rfl (lv_at hl 0 rfl) ?_
  refine zr_getR (pc := 21) (t := (a0 + 9)) cx lk_X3_37 hP (nX3_0 ha0) (sX3_0 ha0) rfl dX3_addName_21 ?_
  refine lv_aload_n (pc := 24) hx hb dX3_addName_24 rfl (lv_at hl 0 rfl) ?_
  refine zr_getI (pc := 25) cx lk_X3_47 hP (nX3_0 ha0) (sX3_0 ha0) rfl dX3_addName_25 ?_
  refine lv_aload_n (pc := 28) hx hb dX3_addName_28 rfl (lv_at hl 0 rfl) ?_
  refine zr_getR (pc := 29) (t := (a0 + 1)) cx lk_X3_9 hP (nX3_0 ha0) (sX3_0 ha0) rfl dX3_addName_29 ?_
  refine lv_iload_n (pc := 32) hx hb dX3_addName_32 rfl (lv_at hl 2 rfl) ?_
  obtain ⟨g5, h⟩ := zGd_e h
  refine zr_iald (pc := 33) cx hP (nX3_1 ha0) (sX3_1 ha0) g5 dX3_addName_33 ?_
  obtain ⟨g6, h⟩ := zGd_e h
  obtain ⟨S7, eS7, h⟩ := zLt_e h
  refine zr_iast (pc := 34) cx hq hP hS (nX3_9 ha0) (sX3_9 ha0) g6 dX3_addName_34 (fun H locs hP hS => ?_)
  rw [← eS7] at hP
  refine lv_aload_n (pc := 35) hx hb dX3_addName_35 rfl (lv_at hl 0 rfl) ?_
  refine lv_dup (pc := 36) hx hb dX3_addName_36 rfl ?_
  refine zr_getI (pc := 37) cx lk_X3_47 hP (nX3_0 ha0) (sX3_0 ha0) rfl dX3_addName_37 ?_
  refine lv_iconst (pc := 40) hx hb dX3_addName_40 zc_1 ?_
  refine lv_iadd (pc := 41) hx hb dX3_addName_41 ?_
  obtain ⟨S8, eS8, h⟩ := zLt_e h
  refine zr_putI (pc := 42) cx lq_X3_47 hq hP hS (nX3_0 ha0) (sX3_0 ha0) rfl rfl rfl dX3_addName_42 (fun H locs hP hS => ?_)
  rw [← eS8] at hP
  refine lv_iload_n (pc := 45) hx hb dX3_addName_45 rfl (lv_at hl 2 rfl) ?_
  refine lv_iconst (pc := 46) hx hb dX3_addName_46 zc_1 ?_
  refine lv_icmp_ne (pc := 47) (tgt := 62) hx hb dX3_addName_47 (by decide) (fun c9 => ?_) (fun c9 => ?_)
  · replace h := zBr_f c9 h
    exact kX3_addName_62 cx hr hlk hq ha0 h hP hS (lv_sub hl [0, 2] rfl)
  · replace h := zBr_t c9 h
    refine lv_aload_n (pc := 50) hx hb dX3_addName_50 rfl (lv_at hl 0 rfl) ?_
    refine zr_getR (pc := 51) (t := (a0 + 6)) cx lk_X3_27 hP (nX3_0 ha0) (sX3_0 ha0) rfl dX3_addName_51 ?_
    refine lv_aload_n (pc := 54) hx hb dX3_addName_54 rfl (lv_at hl 0 rfl) ?_
    refine zr_getR (pc := 55) (t := (a0 + 1)) cx lk_X3_9 hP (nX3_0 ha0) (sX3_0 ha0) rfl dX3_addName_55 ?_
    refine lv_iload_n (pc := 58) hx hb dX3_addName_58 rfl (lv_at hl 2 rfl) ?_
    obtain ⟨g13, h⟩ := zGd_e h
    refine zr_iald (pc := 59) cx hP (nX3_1 ha0) (sX3_1 ha0) g13 dX3_addName_59 ?_
    refine lv_lload_n (pc := 60) hx hb dX3_addName_60 rfl (lv_at hl 1 rfl) ?_
    obtain ⟨g14, h⟩ := zGd_e h
    obtain ⟨S15, eS15, h⟩ := zLt_e h
    refine zr_last (pc := 61) cx hq hP hS (nX3_6 ha0) (sX3_6 ha0) g14 dX3_addName_61 (fun H locs hP hS => ?_)
    rw [← eS15] at hP
    exact kX3_addName_62 cx hr hlk hq ha0 h hP hS (lv_sub hl [0, 2] rfl)
-- X3_addSight
abbrev rmX3_addSight : Room := { frames := 0, cells := 0, slots := 0, locals := 0 }
def fX3_addSight (S : zSt) (a0 : Nat) (v1 : Int32) (v2 : Int32) : Option zSt :=
  zGd (zIx v1 5) (zGd (zIx v1 5) (zLt (zI S (a0 + 2) v1.toNatClampNeg ((S.1 (a0 + 2) v1.toNatClampNeg) ||| ((1 : Int32) <<< (v2 &&& 31)))) (fun S3 => zGd (zIx v2 5) (zGd (zIx v2 5) (zLt (zI S3 (a0 + 2) v2.toNatClampNeg ((S3.1 (a0 + 2) v2.toNatClampNeg) ||| ((1 : Int32) <<< (v1 &&& 31)))) (fun S6 => some S6))))))
set_option maxHeartbeats 4000000 in
set_option maxRecDepth 100000 in
theorem mX3_addSight {l : Launch} {D : va_G} {cy : Nat → ClassId} {q : Nat → Nat} {A : Nat → Prop} {S : zSt} {a0 : Nat} {v1 : Int32} {v2 : Int32} (hq : zQ A q zNC) (ha0 : zHouse a0) {z : zSt} (h : fX3_addSight S a0 v1 v2 = some z) : zMv l yX3_addSight cX3_addSight 3 none rmX3_addSight [.ref (q a0), .int v1, .int v2] zsh zNC D cy q A S z := by
  refine Met.ofW (cc := cX3_addSight) (maxL := 3) (ret := none) (by decide) rfl ?_
  intro p e s m args below meth c s₁ B hml hv
  obtain ⟨rfl, hP, hK⟩ := hv
  have cx : zX RX3 cX3_addSight 3 p s m ([.ref (q a0), .int v1, .int v2]).toArray c D cy := ⟨B.exec, B.bytes, hml, findClass_of_methodNamed B.named, fun w hw => atoms_spec (ws := Cond.code yX3_addSight cX3_addSight 3 none :: zTB) B.pre w (List.mem_cons_of_mem _ hw), hK⟩
  have hx := cx.1
  have hb := cx.2.1
  have hr := B.returns
  have hlk := B.notSynchronized
  have hS : va_S A s.heap s.heap [] := va_S.rf
  have hl := lv_entry ([.ref (q a0), .int v1, .int v2]) (n := 3) (Nat.le_of_ble_eq_true rfl)
  rw [lg_entry_eq]
  generalize (lg_sl ([.ref (q a0), .int v1, .int v2]) ++ List.replicate (3 - (lg_sl ([.ref (q a0), .int v1, .int v2])).length) Slot.unset).toArray = ls at hl ⊢
  have hl : lv_has ls 3 [(0, .ref (q a0)), (1, .int v1), (2, .int v2)] := hl
  unfold fX3_addSight at h
  refine lv_aload_n (pc := 0) hx hb dX3_addSight_0 rfl (lv_at hl 0 rfl) ?_
  refine zr_getR (pc := 1) (t := (a0 + 2)) cx lk_X3_15 hP (nX3_0 ha0) (sX3_0 ha0) rfl dX3_addSight_1 ?_
  refine lv_iload_n (pc := 4) hx hb dX3_addSight_4 rfl (lv_at hl 1 rfl) ?_
  refine lv_dup2_11 (pc := 5) hx hb dX3_addSight_5 rfl rfl ?_
  obtain ⟨g1, h⟩ := zGd_e h
  refine zr_iald (pc := 6) cx hP (nX3_2 ha0) (sX3_2 ha0) g1 dX3_addSight_6 ?_
  refine lv_iconst (pc := 7) hx hb dX3_addSight_7 zc_1 ?_
  refine lv_iload_n (pc := 8) hx hb dX3_addSight_8 rfl (lv_at hl 2 rfl) ?_
  refine lv_ishl (pc := 9) hx hb dX3_addSight_9 ?_
  refine lv_ior (pc := 10) hx hb dX3_addSight_10 ?_
  obtain ⟨g2, h⟩ := zGd_e h
  obtain ⟨S3, eS3, h⟩ := zLt_e h
  refine zr_iast (pc := 11) cx hq hP hS (nX3_2 ha0) (sX3_2 ha0) g2 dX3_addSight_11 (fun H locs hP hS => ?_)
  rw [← eS3] at hP
  refine lv_aload_n (pc := 12) hx hb dX3_addSight_12 rfl (lv_at hl 0 rfl) ?_
  refine zr_getR (pc := 13) (t := (a0 + 2)) cx lk_X3_15 hP (nX3_0 ha0) (sX3_0 ha0) rfl dX3_addSight_13 ?_
  refine lv_iload_n (pc := 16) hx hb dX3_addSight_16 rfl (lv_at hl 2 rfl) ?_
  refine lv_dup2_11 (pc := 17) hx hb dX3_addSight_17 rfl rfl ?_
  obtain ⟨g4, h⟩ := zGd_e h
  refine zr_iald (pc := 18) cx hP (nX3_2 ha0) (sX3_2 ha0) g4 dX3_addSight_18 ?_
  refine lv_iconst (pc := 19) hx hb dX3_addSight_19 zc_1 ?_
  refine lv_iload_n (pc := 20) hx hb dX3_addSight_20 rfl (lv_at hl 1 rfl) ?_
  refine lv_ishl (pc := 21) hx hb dX3_addSight_21 ?_
  refine lv_ior (pc := 22) hx hb dX3_addSight_22 ?_
  obtain ⟨g5, h⟩ := zGd_e h
  obtain ⟨S6, eS6, h⟩ := zLt_e h
  refine zr_iast (pc := 23) cx hq hP hS (nX3_2 ha0) (sX3_2 ha0) g5 dX3_addSight_23 (fun H locs hP hS => ?_)
  rw [← eS6] at hP
  have hz := Option.some.inj h
  exact zr_rqV (pc := 24) cx hr hlk hP hS hz dX3_addSight_24
-- X3_clear
abbrev rmX3_clear : Room := { frames := 0, cells := 0, slots := 0, locals := 0 }
def fX3_clear_22 (a0 : Nat) (t : (zSt × Int32)) : Option ((zSt × Int32) ⊕ zSt) :=
  match t with
  | (S, v1) => zBr ((5 : Int32) ≤ v1) (zXr (zLt (zI S a0 9 (0 : Int32)) (fun S5 => zLt (zI S5 a0 10 (6 : Int32)) (fun S6 => zLt (zI S6 a0 11 (2 : Int32)) (fun S7 => some S7))))) (zGd (zIx v1 5) (zLt (zI S (a0 + 2) v1.toNatClampNeg (0 : Int32)) (fun S9 => zLt (v1 + (1 : Int32)) (fun x10 => some (.inl (S9, x10))))))
set_option maxHeartbeats 4000000 in
set_option maxRecDepth 100000 in
theorem kX3_clear_22B {p : Program} {l : Launch} {e : Env} {s : State} {m : MethodId} {args : Array Value} {below : List Frame} {meth : Method} {c : Code} {D : va_G} {cy : Nat → ClassId} {q : Nat → Nat} {A : Nat → Prop} (cx : zX RX3 cX3_clear 2 p s m args c D cy) (hr : meth.sig.returnType = none) (hlk : meth.locks = false) (hq : zQ A q zNC) {a0 : Nat} (ha0 : zHouse a0) {z : zSt} {S : zSt} {v1 : Int32} {C1 : ((zSt × Int32) ⊕ zSt) → Prop} (hb1 : ∀ (S : zSt) (v1 : Int32), C1 (.inl (S, v1)) → ∀ (H : Heap) (locs : List Loc), va_P D vwCl (zW zsh zNC cy q S) H → va_S A s.heap H locs → ∀ (ls : Array Slot), lv_has ls 2 [(0, .ref (q a0)), (1, .int v1)] → W p l e rmX3_clear s m args below meth c H locs 0 0 (MQ below (va_Qv (fun (u : zSt) => u = z) (fun u t => va_P D vwCl (zW zsh zNC cy q u) t.heap) A) args s 0 0 A) (F0 m 22 ls [])) (hx1 : ∀ a, C1 (.inr a) → a = z) {x : ((zSt × Int32) ⊕ zSt)} (h : fX3_clear_22 a0 (S, v1) = some x) (hc : C1 x) {H : Heap} {locs : List Loc} (hP : va_P D vwCl (zW zsh zNC cy q S) H) (hS : va_S A s.heap H locs) {ls : Array Slot} (hl : lv_has ls 2 [(0, .ref (q a0)), (1, .int v1)]) : W p l e rmX3_clear s m args below meth c H locs 0 0 (MQ below (va_Qv (fun (u : zSt) => u = z) (fun u t => va_P D vwCl (zW zsh zNC cy q u) t.heap) A) args s 0 0 A) (F0 m 22 ls []) := by
  have hx := cx.1
  have hb := cx.2.1
  unfold fX3_clear_22 at h
  dsimp only at h
  refine lv_iload_n (pc := 22) hx hb dX3_clear_22 rfl (lv_at hl 1 rfl) ?_
  refine lv_iconst (pc := 23) hx hb dX3_clear_23 zc_5 ?_
  refine lv_icmp_ge (pc := 24) (tgt := 40) hx hb dX3_clear_24 (by decide) (fun c3 => ?_) (fun c3 => ?_)
  · replace h := zBr_t c3 h
    obtain ⟨y4, h, ex⟩ := zXr_e h
    have hc := hx1 y4 (by rw [ex] at hc; exact hc)
    rw [hc] at h
    refine lv_aload_n (pc := 40) hx hb dX3_clear_40 rfl (lv_at hl 0 rfl) ?_
    refine lv_iconst (pc := 41) hx hb dX3_clear_41 zc_0 ?_
    obtain ⟨S5, eS5, h⟩ := zLt_e h
    refine zr_putI (pc := 42) cx lq_X3_47 hq hP hS (nX3_0 ha0) (sX3_0 ha0) rfl rfl rfl dX3_clear_42 (fun H locs hP hS => ?_)
    rw [← eS5] at hP
    refine lv_aload_n (pc := 45) hx hb dX3_clear_45 rfl (lv_at hl 0 rfl) ?_
    refine lv_bipush (pc := 46) hx hb dX3_clear_46 zb_6 ?_
    obtain ⟨S6, eS6, h⟩ := zLt_e h
    refine zr_putI (pc := 48) cx lq_X3_40 hq hP hS (nX3_0 ha0) (sX3_0 ha0) rfl rfl rfl dX3_clear_48 (fun H locs hP hS => ?_)
    rw [← eS6] at hP
    refine lv_aload_n (pc := 51) hx hb dX3_clear_51 rfl (lv_at hl 0 rfl) ?_
    refine lv_iconst (pc := 52) hx hb dX3_clear_52 zc_2 ?_
    obtain ⟨S7, eS7, h⟩ := zLt_e h
    refine zr_putI (pc := 53) cx lq_X3_44 hq hP hS (nX3_0 ha0) (sX3_0 ha0) rfl rfl rfl dX3_clear_53 (fun H locs hP hS => ?_)
    rw [← eS7] at hP
    have hz := Option.some.inj h
    exact zr_rqV (pc := 56) cx hr hlk hP hS hz dX3_clear_56
  · replace h := zBr_f c3 h
    refine lv_aload_n (pc := 27) hx hb dX3_clear_27 rfl (lv_at hl 0 rfl) ?_
    refine zr_getR (pc := 28) (t := (a0 + 2)) cx lk_X3_15 hP (nX3_0 ha0) (sX3_0 ha0) rfl dX3_clear_28 ?_
    refine lv_iload_n (pc := 31) hx hb dX3_clear_31 rfl (lv_at hl 1 rfl) ?_
    refine lv_iconst (pc := 32) hx hb dX3_clear_32 zc_0 ?_
    obtain ⟨g8, h⟩ := zGd_e h
    obtain ⟨S9, eS9, h⟩ := zLt_e h
    refine zr_iast (pc := 33) cx hq hP hS (nX3_2 ha0) (sX3_2 ha0) g8 dX3_clear_33 (fun H locs hP hS => ?_)
    rw [← eS9] at hP
    obtain ⟨x10, ex10, h⟩ := zLt_e h
    refine lv_iinc (v := x10) (lv' := [(1, .int x10), (0, .ref (q a0))]) (pc := 34) hx hb dX3_clear_34 hl (k := 1) rfl (by rw [zc_1]; exact ex10.symm) (by decide) rfl (fun ls hl => ?_)
    refine lv_goto (pc := 37) (tgt := 22) hx hb dX3_clear_37 (by decide) ?_
    cases h
    exact hb1 _ _ hc _ _ hP hS _ (lv_sub hl [1, 0] rfl)
set_option maxHeartbeats 4000000 in
set_option maxRecDepth 100000 in
theorem kX3_clear_22 {p : Program} {l : Launch} {e : Env} {s : State} {m : MethodId} {args : Array Value} {below : List Frame} {meth : Method} {c : Code} {D : va_G} {cy : Nat → ClassId} {q : Nat → Nat} {A : Nat → Prop} (cx : zX RX3 cX3_clear 2 p s m args c D cy) (hr : meth.sig.returnType = none) (hlk : meth.locks = false) (hq : zQ A q zNC) {a0 : Nat} (ha0 : zHouse a0) {z : zSt} : ∀ (n : Nat) (S : zSt) (v1 : Int32), zLp (fX3_clear_22 a0) n (S, v1) = some z → ∀ (H : Heap) (locs : List Loc), va_P D vwCl (zW zsh zNC cy q S) H → va_S A s.heap H locs → ∀ (ls : Array Slot), lv_has ls 2 [(0, .ref (q a0)), (1, .int v1)] → W p l e rmX3_clear s m args below meth c H locs 0 0 (MQ below (va_Qv (fun (u : zSt) => u = z) (fun u t => va_P D vwCl (zW zsh zNC cy q u) t.heap) A) args s 0 0 A) (F0 m 22 ls []) := by
  intro n
  induction n with
  | zero =>
    intro S v1 h
    cases h
  | succ n ih =>
    intro S v1 h H locs hP hS ls hl
    obtain ⟨x, h, hk⟩ := zLp_e h
    exact kX3_clear_22B cx hr hlk hq ha0  (C1 := zKt (fun t => zLp (fX3_clear_22 a0) n t = some z) (fun a => a = z)) (fun S v1 ht H locs hP hS ls hl => ih S v1 ht H locs hP hS ls hl) (fun a ha => ha) h hk hP hS hl
def fX3_clear_2 (a0 : Nat) (t : (zSt × Int32)) : Option ((zSt × Int32) ⊕ zSt) :=
  match t with
  | (S, v1) => zBr ((4 : Int32) ≤ v1) (zXr (zLp (fX3_clear_22 a0) 2000 (S, (0 : Int32)))) (zGd (zIx v1 4) (zLt (zI S (a0 + 1) v1.toNatClampNeg (0 : Int32)) (fun S12 => zLt (v1 + (1 : Int32)) (fun x13 => some (.inl (S12, x13))))))
set_option maxHeartbeats 4000000 in
set_option maxRecDepth 100000 in
theorem kX3_clear_2B {p : Program} {l : Launch} {e : Env} {s : State} {m : MethodId} {args : Array Value} {below : List Frame} {meth : Method} {c : Code} {D : va_G} {cy : Nat → ClassId} {q : Nat → Nat} {A : Nat → Prop} (cx : zX RX3 cX3_clear 2 p s m args c D cy) (hr : meth.sig.returnType = none) (hlk : meth.locks = false) (hq : zQ A q zNC) {a0 : Nat} (ha0 : zHouse a0) {z : zSt} {S : zSt} {v1 : Int32} {C1 : ((zSt × Int32) ⊕ zSt) → Prop} (hb1 : ∀ (S : zSt) (v1 : Int32), C1 (.inl (S, v1)) → ∀ (H : Heap) (locs : List Loc), va_P D vwCl (zW zsh zNC cy q S) H → va_S A s.heap H locs → ∀ (ls : Array Slot), lv_has ls 2 [(0, .ref (q a0)), (1, .int v1)] → W p l e rmX3_clear s m args below meth c H locs 0 0 (MQ below (va_Qv (fun (u : zSt) => u = z) (fun u t => va_P D vwCl (zW zsh zNC cy q u) t.heap) A) args s 0 0 A) (F0 m 2 ls [])) (hx1 : ∀ a, C1 (.inr a) → a = z) {x : ((zSt × Int32) ⊕ zSt)} (h : fX3_clear_2 a0 (S, v1) = some x) (hc : C1 x) {H : Heap} {locs : List Loc} (hP : va_P D vwCl (zW zsh zNC cy q S) H) (hS : va_S A s.heap H locs) {ls : Array Slot} (hl : lv_has ls 2 [(0, .ref (q a0)), (1, .int v1)]) : W p l e rmX3_clear s m args below meth c H locs 0 0 (MQ below (va_Qv (fun (u : zSt) => u = z) (fun u t => va_P D vwCl (zW zsh zNC cy q u) t.heap) A) args s 0 0 A) (F0 m 2 ls []) := by
  have hx := cx.1
  have hb := cx.2.1
  unfold fX3_clear_2 at h
  dsimp only at h
  refine lv_iload_n (pc := 2) hx hb dX3_clear_2 rfl (lv_at hl 1 rfl) ?_
  refine lv_iconst (pc := 3) hx hb dX3_clear_3 zc_4 ?_
  refine lv_icmp_ge (pc := 4) (tgt := 20) hx hb dX3_clear_4 (by decide) (fun c1 => ?_) (fun c1 => ?_)
  · replace h := zBr_t c1 h
    obtain ⟨y2, h, ex⟩ := zXr_e h
    have hc := hx1 y2 (by rw [ex] at hc; exact hc)
    rw [hc] at h
    refine lv_iconst (pc := 20) hx hb dX3_clear_20 zc_0 ?_
    refine lv_istore_n (lv' := [(1, .int (0 : Int32)), (0, .ref (q a0))]) (pc := 21) hx hb dX3_clear_21 rfl hl (by decide) rfl (fun ls hl => ?_)
    exact kX3_clear_22 cx hr hlk hq ha0 2000 _ _ h _ _ hP hS _ (lv_sub hl [1, 0] rfl)
  · replace h := zBr_f c1 h
    refine lv_aload_n (pc := 7) hx hb dX3_clear_7 rfl (lv_at hl 0 rfl) ?_
    refine zr_getR (pc := 8) (t := (a0 + 1)) cx lk_X3_9 hP (nX3_0 ha0) (sX3_0 ha0) rfl dX3_clear_8 ?_
    refine lv_iload_n (pc := 11) hx hb dX3_clear_11 rfl (lv_at hl 1 rfl) ?_
    refine lv_iconst (pc := 12) hx hb dX3_clear_12 zc_0 ?_
    obtain ⟨g11, h⟩ := zGd_e h
    obtain ⟨S12, eS12, h⟩ := zLt_e h
    refine zr_iast (pc := 13) cx hq hP hS (nX3_1 ha0) (sX3_1 ha0) g11 dX3_clear_13 (fun H locs hP hS => ?_)
    rw [← eS12] at hP
    obtain ⟨x13, ex13, h⟩ := zLt_e h
    refine lv_iinc (v := x13) (lv' := [(1, .int x13), (0, .ref (q a0))]) (pc := 14) hx hb dX3_clear_14 hl (k := 1) rfl (by rw [zc_1]; exact ex13.symm) (by decide) rfl (fun ls hl => ?_)
    refine lv_goto (pc := 17) (tgt := 2) hx hb dX3_clear_17 (by decide) ?_
    cases h
    exact hb1 _ _ hc _ _ hP hS _ (lv_sub hl [1, 0] rfl)
set_option maxHeartbeats 4000000 in
set_option maxRecDepth 100000 in
theorem kX3_clear_2 {p : Program} {l : Launch} {e : Env} {s : State} {m : MethodId} {args : Array Value} {below : List Frame} {meth : Method} {c : Code} {D : va_G} {cy : Nat → ClassId} {q : Nat → Nat} {A : Nat → Prop} (cx : zX RX3 cX3_clear 2 p s m args c D cy) (hr : meth.sig.returnType = none) (hlk : meth.locks = false) (hq : zQ A q zNC) {a0 : Nat} (ha0 : zHouse a0) {z : zSt} : ∀ (n : Nat) (S : zSt) (v1 : Int32), zLp (fX3_clear_2 a0) n (S, v1) = some z → ∀ (H : Heap) (locs : List Loc), va_P D vwCl (zW zsh zNC cy q S) H → va_S A s.heap H locs → ∀ (ls : Array Slot), lv_has ls 2 [(0, .ref (q a0)), (1, .int v1)] → W p l e rmX3_clear s m args below meth c H locs 0 0 (MQ below (va_Qv (fun (u : zSt) => u = z) (fun u t => va_P D vwCl (zW zsh zNC cy q u) t.heap) A) args s 0 0 A) (F0 m 2 ls []) := by
  intro n
  induction n with
  | zero =>
    intro S v1 h
    cases h
  | succ n ih =>
    intro S v1 h H locs hP hS ls hl
    obtain ⟨x, h, hk⟩ := zLp_e h
    exact kX3_clear_2B cx hr hlk hq ha0  (C1 := zKt (fun t => zLp (fX3_clear_2 a0) n t = some z) (fun a => a = z)) (fun S v1 ht H locs hP hS ls hl => ih S v1 ht H locs hP hS ls hl) (fun a ha => ha) h hk hP hS hl
def fX3_clear (S : zSt) (a0 : Nat) : Option zSt :=
  zLp (fX3_clear_2 a0) 2000 (S, (0 : Int32))
set_option maxHeartbeats 4000000 in
set_option maxRecDepth 100000 in
theorem mX3_clear {l : Launch} {D : va_G} {cy : Nat → ClassId} {q : Nat → Nat} {A : Nat → Prop} {S : zSt} {a0 : Nat} (hq : zQ A q zNC) (ha0 : zHouse a0) {z : zSt} (h : fX3_clear S a0 = some z) : zMv l yX3_clear cX3_clear 2 none rmX3_clear [.ref (q a0)] zsh zNC D cy q A S z := by
  refine Met.ofW (cc := cX3_clear) (maxL := 2) (ret := none) (by decide) rfl ?_
  intro p e s m args below meth c s₁ B hml hv
  obtain ⟨rfl, hP, hK⟩ := hv
  have cx : zX RX3 cX3_clear 2 p s m ([.ref (q a0)]).toArray c D cy := ⟨B.exec, B.bytes, hml, findClass_of_methodNamed B.named, fun w hw => atoms_spec (ws := Cond.code yX3_clear cX3_clear 2 none :: zTB) B.pre w (List.mem_cons_of_mem _ hw), hK⟩
  have hx := cx.1
  have hb := cx.2.1
  have hr := B.returns
  have hlk := B.notSynchronized
  have hS : va_S A s.heap s.heap [] := va_S.rf
  have hl := lv_entry ([.ref (q a0)]) (n := 2) (Nat.le_of_ble_eq_true rfl)
  rw [lg_entry_eq]
  generalize (lg_sl ([.ref (q a0)]) ++ List.replicate (2 - (lg_sl ([.ref (q a0)])).length) Slot.unset).toArray = ls at hl ⊢
  have hl : lv_has ls 2 [(0, .ref (q a0))] := hl
  unfold fX3_clear at h
  refine lv_iconst (pc := 0) hx hb dX3_clear_0 zc_0 ?_
  refine lv_istore_n (lv' := [(1, .int (0 : Int32)), (0, .ref (q a0))]) (pc := 1) hx hb dX3_clear_1 rfl hl (by decide) rfl (fun ls hl => ?_)
  exact kX3_clear_2 cx hr hlk hq ha0 2000 _ _ h _ _ hP hS _ (lv_sub hl [1, 0] rfl)
-- X4_readDusty
abbrev rmX4_readDusty : Room := { frames := 3, cells := 0, slots := 0, locals := 69 }
def fX4_readDusty (S : zSt) : Option (Int32 × zSt) :=
  zBr ((S.1 229 2) = 0) (zGd (zBo (1 : Int32)) (zLt (zI S 229 2 (1 : Int32)) (fun S2 => zBd (fX9_read S2) (fun S5 => zBp (fX9_takeNumber S5 (1 : Int32) (60 : Int32)) (fun r8 S7 => zLt (zI S7 230 10 r8) (fun S9 => zBr ((S9.1 230 10) = (-1 : Int32)) (some ((0 : Int32), S9)) (some ((1 : Int32), S9)))))))) (zBp (fX9_fail S (3 : Int32)) (fun r13 S12 => zGd (zBo r13) (some (r13, S12))))
set_option maxHeartbeats 4000000 in
set_option maxRecDepth 100000 in
theorem mX4_readDusty {l : Launch} {D : va_G} {cy : Nat → ClassId} {q : Nat → Nat} {A : Nat → Prop} {S : zSt} (hq : zQ A q zNC) {z : (Int32 × zSt)} (h : fX4_readDusty S = some z) : zMq l yX4_readDusty cX4_readDusty 1 (some .boolean) rmX4_readDusty [.ref (q 229)] zsh zNC D cy q A S z := by
  refine Met.ofW (cc := cX4_readDusty) (maxL := 1) (ret := (some .boolean)) (by decide) rfl ?_
  intro p e s m args below meth c s₁ B hml hv
  obtain ⟨rfl, hP, hK⟩ := hv
  have cx : zX RX4 cX4_readDusty 1 p s m ([.ref (q 229)]).toArray c D cy := ⟨B.exec, B.bytes, hml, findClass_of_methodNamed B.named, fun w hw => atoms_spec (ws := Cond.code yX4_readDusty cX4_readDusty 1 (some .boolean) :: zTB) B.pre w (List.mem_cons_of_mem _ hw), hK⟩
  have hx := cx.1
  have hb := cx.2.1
  have hr := B.returns
  have hlk := B.notSynchronized
  have hS : va_S A s.heap s.heap [] := va_S.rf
  have hl := lv_entry ([.ref (q 229)]) (n := 1) (Nat.le_of_ble_eq_true rfl)
  rw [lg_entry_eq]
  generalize (lg_sl ([.ref (q 229)]) ++ List.replicate (1 - (lg_sl ([.ref (q 229)])).length) Slot.unset).toArray = ls at hl ⊢
  have hl : lv_has ls 1 [(0, .ref (q 229))] := hl
  unfold fX4_readDusty at h
  refine lv_aload_n (pc := 0) hx hb dX4_readDusty_0 rfl (lv_at hl 0 rfl) ?_
  refine zr_getI (pc := 1) cx lk_X4_25 hP nC_229 sC_229 rfl dX4_readDusty_1 ?_
  refine lv_if_eq (pc := 4) (tgt := 16) hx hb dX4_readDusty_4 (by decide) (fun c1 => ?_) (fun c1 => ?_)
  · replace h := zBr_t c1 h
    refine lv_aload_n (pc := 16) hx hb dX4_readDusty_16 rfl (lv_at hl 0 rfl) ?_
    refine lv_iconst (pc := 17) hx hb dX4_readDusty_17 zc_1 ?_
    obtain ⟨g3, h⟩ := zGd_e h
    obtain ⟨S2, eS2, h⟩ := zLt_e h
    refine zr_putI (pc := 18) cx lq_X4_25 hq hP hS nC_229 sC_229 rfl (zBo_n g3) (zBo_f g3) dX4_readDusty_18 (fun H locs hP hS => ?_)
    rw [← eS2] at hP
    refine lv_aload_n (pc := 21) hx hb dX4_readDusty_21 rfl (lv_at hl 0 rfl) ?_
    refine zr_getR (pc := 22) (t := 1) cx lk_X4_18 hP nC_229 sC_229 rfl dX4_readDusty_22 ?_
    obtain ⟨S5, k4, h⟩ := zBd_e h
    refine zr_VV (pc := 25) (rest := []) cx cv_X4_71 (mX9_read hq k4) ⟨⟨rfl, rfl⟩, Nat.le_of_ble_eq_true rfl, Nat.le_of_ble_eq_true rfl⟩ ⟨Nat.le_of_ble_eq_true rfl, Nat.le_of_ble_eq_true rfl⟩ hP hS nC_1 sC_1 rfl hl.1 rfl rfl (Nat.le_of_ble_eq_true rfl) dX4_readDusty_25 (fun H locs hP hS => ?_)
    refine lv_aload_n (pc := 28) hx hb dX4_readDusty_28 rfl (lv_at hl 0 rfl) ?_
    refine zr_getR (pc := 29) (t := 230) cx lk_X4_12 hP nC_229 sC_229 rfl dX4_readDusty_29 ?_
    refine lv_aload_n (pc := 32) hx hb dX4_readDusty_32 rfl (lv_at hl 0 rfl) ?_
    refine zr_getR (pc := 33) (t := 1) cx lk_X4_18 hP nC_229 sC_229 rfl dX4_readDusty_33 ?_
    refine lv_iconst (pc := 36) hx hb dX4_readDusty_36 zc_1 ?_
    refine lv_bipush (pc := 37) hx hb dX4_readDusty_37 zb_60 ?_
    obtain ⟨r8, S7, k6, h⟩ := zBp_e h
    refine zr_VQ (pc := 39) (rest := [.ref (q 230)]) cx cv_X4_94 (mX9_takeNumber hq k6) ⟨⟨rfl, rfl⟩, Nat.le_of_ble_eq_true rfl, Nat.le_of_ble_eq_true rfl⟩ ⟨Nat.le_of_ble_eq_true rfl, Nat.le_of_ble_eq_true rfl⟩ hP hS nC_1 sC_1 rfl hl.1 rfl rfl (Nat.le_of_ble_eq_true rfl) dX4_readDusty_39 (fun H locs hP hS => ?_)
    obtain ⟨S9, eS9, h⟩ := zLt_e h
    refine zr_putI (pc := 42) cx lq_X4_124 hq hP hS (nX3_0 zHouse_230) (sX3_0 zHouse_230) rfl rfl rfl dX4_readDusty_42 (fun H locs hP hS => ?_)
    rw [← eS9] at hP
    refine lv_aload_n (pc := 45) hx hb dX4_readDusty_45 rfl (lv_at hl 0 rfl) ?_
    refine zr_getR (pc := 46) (t := 230) cx lk_X4_12 hP nC_229 sC_229 rfl dX4_readDusty_46 ?_
    refine zr_getI (pc := 49) cx lk_X4_124 hP (nX3_0 zHouse_230) (sX3_0 zHouse_230) rfl dX4_readDusty_49 ?_
    refine lv_iconst (pc := 52) hx hb dX4_readDusty_52 zc_m1 ?_
    refine lv_icmp_eq (pc := 53) (tgt := 60) hx hb dX4_readDusty_53 (by decide) (fun c10 => ?_) (fun c10 => ?_)
    · replace h := zBr_t c10 h
      refine lv_iconst (pc := 60) hx hb dX4_readDusty_60 zc_0 ?_
      have hz := Option.some.inj h
      exact zr_rqZ (pc := 61) cx hr hlk hP hS hz (by decide) dX4_readDusty_61
    · replace h := zBr_f c10 h
      refine lv_iconst (pc := 56) hx hb dX4_readDusty_56 zc_1 ?_
      refine lv_goto (pc := 57) (tgt := 61) hx hb dX4_readDusty_57 (by decide) ?_
      have hz := Option.some.inj h
      exact zr_rqZ (pc := 61) cx hr hlk hP hS hz (by decide) dX4_readDusty_61
  · replace h := zBr_f c1 h
    refine lv_aload_n (pc := 7) hx hb dX4_readDusty_7 rfl (lv_at hl 0 rfl) ?_
    refine zr_getR (pc := 8) (t := 1) cx lk_X4_18 hP nC_229 sC_229 rfl dX4_readDusty_8 ?_
    refine lv_iconst (pc := 11) hx hb dX4_readDusty_11 zc_3 ?_
    obtain ⟨r13, S12, k11, h⟩ := zBp_e h
    refine zr_VQ (pc := 12) (rest := []) cx cv_X4_65 (mX9_fail hq k11) ⟨⟨rfl, rfl⟩, Nat.le_of_ble_eq_true rfl, Nat.le_of_ble_eq_true rfl⟩ ⟨Nat.le_of_ble_eq_true rfl, Nat.le_of_ble_eq_true rfl⟩ hP hS nC_1 sC_1 rfl hl.1 rfl rfl (Nat.le_of_ble_eq_true rfl) dX4_readDusty_12 (fun H locs hP hS => ?_)
    obtain ⟨g14, h⟩ := zGd_e h
    have hz := Option.some.inj h
    exact zr_rqZ (pc := 15) cx hr hlk hP hS hz g14 dX4_readDusty_15
-- X4_readProof
abbrev rmX4_readProof : Room := { frames := 3, cells := 0, slots := 0, locals := 69 }
def fX4_readProof (S : zSt) : Option (Int32 × zSt) :=
  zBr ((S.1 229 3) = 0) (zGd (zBo (1 : Int32)) (zLt (zI S 229 3 (1 : Int32)) (fun S2 => zBd (fX9_read S2) (fun S5 => zBp (fX9_takeNumber S5 (1 : Int32) (6 : Int32)) (fun r8 S7 => zLt (zI S7 230 11 r8) (fun S9 => zBr ((S9.1 230 11) = (-1 : Int32)) (some ((0 : Int32), S9)) (some ((1 : Int32), S9)))))))) (zBp (fX9_fail S (3 : Int32)) (fun r13 S12 => zGd (zBo r13) (some (r13, S12))))
set_option maxHeartbeats 4000000 in
set_option maxRecDepth 100000 in
theorem mX4_readProof {l : Launch} {D : va_G} {cy : Nat → ClassId} {q : Nat → Nat} {A : Nat → Prop} {S : zSt} (hq : zQ A q zNC) {z : (Int32 × zSt)} (h : fX4_readProof S = some z) : zMq l yX4_readProof cX4_readProof 1 (some .boolean) rmX4_readProof [.ref (q 229)] zsh zNC D cy q A S z := by
  refine Met.ofW (cc := cX4_readProof) (maxL := 1) (ret := (some .boolean)) (by decide) rfl ?_
  intro p e s m args below meth c s₁ B hml hv
  obtain ⟨rfl, hP, hK⟩ := hv
  have cx : zX RX4 cX4_readProof 1 p s m ([.ref (q 229)]).toArray c D cy := ⟨B.exec, B.bytes, hml, findClass_of_methodNamed B.named, fun w hw => atoms_spec (ws := Cond.code yX4_readProof cX4_readProof 1 (some .boolean) :: zTB) B.pre w (List.mem_cons_of_mem _ hw), hK⟩
  have hx := cx.1
  have hb := cx.2.1
  have hr := B.returns
  have hlk := B.notSynchronized
  have hS : va_S A s.heap s.heap [] := va_S.rf
  have hl := lv_entry ([.ref (q 229)]) (n := 1) (Nat.le_of_ble_eq_true rfl)
  rw [lg_entry_eq]
  generalize (lg_sl ([.ref (q 229)]) ++ List.replicate (1 - (lg_sl ([.ref (q 229)])).length) Slot.unset).toArray = ls at hl ⊢
  have hl : lv_has ls 1 [(0, .ref (q 229))] := hl
  unfold fX4_readProof at h
  refine lv_aload_n (pc := 0) hx hb dX4_readProof_0 rfl (lv_at hl 0 rfl) ?_
  refine zr_getI (pc := 1) cx lk_X4_29 hP nC_229 sC_229 rfl dX4_readProof_1 ?_
  refine lv_if_eq (pc := 4) (tgt := 16) hx hb dX4_readProof_4 (by decide) (fun c1 => ?_) (fun c1 => ?_)
  · replace h := zBr_t c1 h
    refine lv_aload_n (pc := 16) hx hb dX4_readProof_16 rfl (lv_at hl 0 rfl) ?_
    refine lv_iconst (pc := 17) hx hb dX4_readProof_17 zc_1 ?_
    obtain ⟨g3, h⟩ := zGd_e h
    obtain ⟨S2, eS2, h⟩ := zLt_e h
    refine zr_putI (pc := 18) cx lq_X4_29 hq hP hS nC_229 sC_229 rfl (zBo_n g3) (zBo_f g3) dX4_readProof_18 (fun H locs hP hS => ?_)
    rw [← eS2] at hP
    refine lv_aload_n (pc := 21) hx hb dX4_readProof_21 rfl (lv_at hl 0 rfl) ?_
    refine zr_getR (pc := 22) (t := 1) cx lk_X4_18 hP nC_229 sC_229 rfl dX4_readProof_22 ?_
    obtain ⟨S5, k4, h⟩ := zBd_e h
    refine zr_VV (pc := 25) (rest := []) cx cv_X4_71 (mX9_read hq k4) ⟨⟨rfl, rfl⟩, Nat.le_of_ble_eq_true rfl, Nat.le_of_ble_eq_true rfl⟩ ⟨Nat.le_of_ble_eq_true rfl, Nat.le_of_ble_eq_true rfl⟩ hP hS nC_1 sC_1 rfl hl.1 rfl rfl (Nat.le_of_ble_eq_true rfl) dX4_readProof_25 (fun H locs hP hS => ?_)
    refine lv_aload_n (pc := 28) hx hb dX4_readProof_28 rfl (lv_at hl 0 rfl) ?_
    refine zr_getR (pc := 29) (t := 230) cx lk_X4_12 hP nC_229 sC_229 rfl dX4_readProof_29 ?_
    refine lv_aload_n (pc := 32) hx hb dX4_readProof_32 rfl (lv_at hl 0 rfl) ?_
    refine zr_getR (pc := 33) (t := 1) cx lk_X4_18 hP nC_229 sC_229 rfl dX4_readProof_33 ?_
    refine lv_iconst (pc := 36) hx hb dX4_readProof_36 zc_1 ?_
    refine lv_bipush (pc := 37) hx hb dX4_readProof_37 zb_6 ?_
    obtain ⟨r8, S7, k6, h⟩ := zBp_e h
    refine zr_VQ (pc := 39) (rest := [.ref (q 230)]) cx cv_X4_94 (mX9_takeNumber hq k6) ⟨⟨rfl, rfl⟩, Nat.le_of_ble_eq_true rfl, Nat.le_of_ble_eq_true rfl⟩ ⟨Nat.le_of_ble_eq_true rfl, Nat.le_of_ble_eq_true rfl⟩ hP hS nC_1 sC_1 rfl hl.1 rfl rfl (Nat.le_of_ble_eq_true rfl) dX4_readProof_39 (fun H locs hP hS => ?_)
    obtain ⟨S9, eS9, h⟩ := zLt_e h
    refine zr_putI (pc := 42) cx lq_X4_127 hq hP hS (nX3_0 zHouse_230) (sX3_0 zHouse_230) rfl rfl rfl dX4_readProof_42 (fun H locs hP hS => ?_)
    rw [← eS9] at hP
    refine lv_aload_n (pc := 45) hx hb dX4_readProof_45 rfl (lv_at hl 0 rfl) ?_
    refine zr_getR (pc := 46) (t := 230) cx lk_X4_12 hP nC_229 sC_229 rfl dX4_readProof_46 ?_
    refine zr_getI (pc := 49) cx lk_X4_127 hP (nX3_0 zHouse_230) (sX3_0 zHouse_230) rfl dX4_readProof_49 ?_
    refine lv_iconst (pc := 52) hx hb dX4_readProof_52 zc_m1 ?_
    refine lv_icmp_eq (pc := 53) (tgt := 60) hx hb dX4_readProof_53 (by decide) (fun c10 => ?_) (fun c10 => ?_)
    · replace h := zBr_t c10 h
      refine lv_iconst (pc := 60) hx hb dX4_readProof_60 zc_0 ?_
      have hz := Option.some.inj h
      exact zr_rqZ (pc := 61) cx hr hlk hP hS hz (by decide) dX4_readProof_61
    · replace h := zBr_f c10 h
      refine lv_iconst (pc := 56) hx hb dX4_readProof_56 zc_1 ?_
      refine lv_goto (pc := 57) (tgt := 61) hx hb dX4_readProof_57 (by decide) ?_
      have hz := Option.some.inj h
      exact zr_rqZ (pc := 61) cx hr hlk hP hS hz (by decide) dX4_readProof_61
  · replace h := zBr_f c1 h
    refine lv_aload_n (pc := 7) hx hb dX4_readProof_7 rfl (lv_at hl 0 rfl) ?_
    refine zr_getR (pc := 8) (t := 1) cx lk_X4_18 hP nC_229 sC_229 rfl dX4_readProof_8 ?_
    refine lv_iconst (pc := 11) hx hb dX4_readProof_11 zc_3 ?_
    obtain ⟨r13, S12, k11, h⟩ := zBp_e h
    refine zr_VQ (pc := 12) (rest := []) cx cv_X4_65 (mX9_fail hq k11) ⟨⟨rfl, rfl⟩, Nat.le_of_ble_eq_true rfl, Nat.le_of_ble_eq_true rfl⟩ ⟨Nat.le_of_ble_eq_true rfl, Nat.le_of_ble_eq_true rfl⟩ hP hS nC_1 sC_1 rfl hl.1 rfl rfl (Nat.le_of_ble_eq_true rfl) dX4_readProof_12 (fun H locs hP hS => ?_)
    obtain ⟨g14, h⟩ := zGd_e h
    have hz := Option.some.inj h
    exact zr_rqZ (pc := 15) cx hr hlk hP hS hz g14 dX4_readProof_15
-- X4_readSight
abbrev rmX4_readSight : Room := { frames := 3, cells := 0, slots := 0, locals := 69 }
def fX4_readSight_76 (S : zSt)  (v2 : Int32) : Option (Int32 × zSt) :=
  zBp (fX9_failAt S (3 : Int32) v2) (fun r15 S14 => zGd (zBo r15) (some (r15, S14)))
set_option maxHeartbeats 4000000 in
set_option maxRecDepth 100000 in
theorem kX4_readSight_76 {p : Program} {l : Launch} {e : Env} {s : State} {m : MethodId} {args : Array Value} {below : List Frame} {meth : Method} {c : Code} {D : va_G} {cy : Nat → ClassId} {q : Nat → Nat} {A : Nat → Prop} (cx : zX RX4 cX4_readSight 4 p s m args c D cy) (hr : meth.sig.returnType = (some .boolean)) (hlk : meth.locks = false) (hq : zQ A q zNC) {z : (Int32 × zSt)} {S : zSt} {v2 : Int32} (h : fX4_readSight_76 S v2 = some z) {H : Heap} {locs : List Loc} (hP : va_P D vwCl (zW zsh zNC cy q S) H) (hS : va_S A s.heap H locs) {ls : Array Slot} (hl : lv_has ls 4 [(0, .ref (q 229)), (2, .int v2)]) : W p l e rmX4_readSight s m args below meth c H locs 0 0 (MQ below (va_Qi (fun (r : Int32) (u : zSt) => (r, u) = z) (fun u t => va_P D vwCl (zW zsh zNC cy q u) t.heap) A) args s 0 0 A) (F0 m 76 ls []) := by
  have hx := cx.1
  have hb := cx.2.1
  unfold fX4_readSight_76 at h
  refine lv_aload_n (pc := 76) hx hb dX4_readSight_76 rfl (lv_at hl 0 rfl) ?_
  refine zr_getR (pc := 77) (t := 1) cx lk_X4_18 hP nC_229 sC_229 rfl dX4_readSight_77 ?_
  refine lv_iconst (pc := 80) hx hb dX4_readSight_80 zc_3 ?_
  refine lv_iload_n (pc := 81) hx hb dX4_readSight_81 rfl (lv_at hl 1 rfl) ?_
  obtain ⟨r15, S14, k13, h⟩ := zBp_e h
  refine zr_VQ (pc := 82) (rest := []) cx cv_X4_117 (mX9_failAt hq k13) ⟨⟨rfl, rfl⟩, Nat.le_of_ble_eq_true rfl, Nat.le_of_ble_eq_true rfl⟩ ⟨Nat.le_of_ble_eq_true rfl, Nat.le_of_ble_eq_true rfl⟩ hP hS nC_1 sC_1 rfl hl.1 rfl rfl (Nat.le_of_ble_eq_true rfl) dX4_readSight_82 (fun H locs hP hS => ?_)
  obtain ⟨g16, h⟩ := zGd_e h
  have hz := Option.some.inj h
  exact zr_rqZ (pc := 85) cx hr hlk hP hS hz g16 dX4_readSight_85
def fX4_readSight (S : zSt) : Option (Int32 × zSt) :=
  zBd (fX9_read S) (fun S2 => zBp (fX9_takeKnown S2 230 (0 : Int32)) (fun r5 S4 => zBr (r5 = (-1 : Int32)) (some ((0 : Int32), S4)) (zLt (S4.1 1 6) (fun x7 => zBp (fX9_takeKnown S4 230 (0 : Int32)) (fun r10 S9 => zBr (r10 = (-1 : Int32)) (some ((0 : Int32), S9)) (zBr (r5 = r10) (fX4_readSight_76 S9 x7) (zGd (zIx r5 5) (zBd (fX11_hasBit (S9.1 (230 + 2) r5.toNatClampNeg) r10) (fun r19 => zBr (r19 = 0) (zBd (fX3_addSight S9 230 r5 r10) (fun S22 => some ((1 : Int32), S22))) (fX4_readSight_76 S9 x7))))))))))
set_option maxHeartbeats 4000000 in
set_option maxRecDepth 100000 in
theorem mX4_readSight {l : Launch} {D : va_G} {cy : Nat → ClassId} {q : Nat → Nat} {A : Nat → Prop} {S : zSt} (hq : zQ A q zNC) {z : (Int32 × zSt)} (h : fX4_readSight S = some z) : zMq l yX4_readSight cX4_readSight 4 (some .boolean) rmX4_readSight [.ref (q 229)] zsh zNC D cy q A S z := by
  refine Met.ofW (cc := cX4_readSight) (maxL := 4) (ret := (some .boolean)) (by decide) rfl ?_
  intro p e s m args below meth c s₁ B hml hv
  obtain ⟨rfl, hP, hK⟩ := hv
  have cx : zX RX4 cX4_readSight 4 p s m ([.ref (q 229)]).toArray c D cy := ⟨B.exec, B.bytes, hml, findClass_of_methodNamed B.named, fun w hw => atoms_spec (ws := Cond.code yX4_readSight cX4_readSight 4 (some .boolean) :: zTB) B.pre w (List.mem_cons_of_mem _ hw), hK⟩
  have hx := cx.1
  have hb := cx.2.1
  have hr := B.returns
  have hlk := B.notSynchronized
  have hS : va_S A s.heap s.heap [] := va_S.rf
  have hl := lv_entry ([.ref (q 229)]) (n := 4) (Nat.le_of_ble_eq_true rfl)
  rw [lg_entry_eq]
  generalize (lg_sl ([.ref (q 229)]) ++ List.replicate (4 - (lg_sl ([.ref (q 229)])).length) Slot.unset).toArray = ls at hl ⊢
  have hl : lv_has ls 4 [(0, .ref (q 229))] := hl
  unfold fX4_readSight at h
  refine lv_aload_n (pc := 0) hx hb dX4_readSight_0 rfl (lv_at hl 0 rfl) ?_
  refine zr_getR (pc := 1) (t := 1) cx lk_X4_18 hP nC_229 sC_229 rfl dX4_readSight_1 ?_
  obtain ⟨S2, k1, h⟩ := zBd_e h
  refine zr_VV (pc := 4) (rest := []) cx cv_X4_71 (mX9_read hq k1) ⟨⟨rfl, rfl⟩, Nat.le_of_ble_eq_true rfl, Nat.le_of_ble_eq_true rfl⟩ ⟨Nat.le_of_ble_eq_true rfl, Nat.le_of_ble_eq_true rfl⟩ hP hS nC_1 sC_1 rfl hl.1 rfl rfl (Nat.le_of_ble_eq_true rfl) dX4_readSight_4 (fun H locs hP hS => ?_)
  refine lv_aload_n (pc := 7) hx hb dX4_readSight_7 rfl (lv_at hl 0 rfl) ?_
  refine zr_getR (pc := 8) (t := 1) cx lk_X4_18 hP nC_229 sC_229 rfl dX4_readSight_8 ?_
  refine lv_aload_n (pc := 11) hx hb dX4_readSight_11 rfl (lv_at hl 0 rfl) ?_
  refine zr_getR (pc := 12) (t := 230) cx lk_X4_12 hP nC_229 sC_229 rfl dX4_readSight_12 ?_
  refine lv_iconst (pc := 15) hx hb dX4_readSight_15 zc_0 ?_
  obtain ⟨r5, S4, k3, h⟩ := zBp_e h
  refine zr_VQ (pc := 16) (rest := []) cx cv_X4_90 (mX9_takeKnown hq zHouse_230 k3) ⟨⟨rfl, rfl⟩, Nat.le_of_ble_eq_true rfl, Nat.le_of_ble_eq_true rfl⟩ ⟨Nat.le_of_ble_eq_true rfl, Nat.le_of_ble_eq_true rfl⟩ hP hS nC_1 sC_1 rfl hl.1 rfl rfl (Nat.le_of_ble_eq_true rfl) dX4_readSight_16 (fun H locs hP hS => ?_)
  refine lv_istore_n (lv' := [(1, .int r5), (0, .ref (q 229))]) (pc := 19) hx hb dX4_readSight_19 rfl hl (by decide) rfl (fun ls hl => ?_)
  refine lv_iload_n (pc := 20) hx hb dX4_readSight_20 rfl (lv_at hl 0 rfl) ?_
  refine lv_iconst (pc := 21) hx hb dX4_readSight_21 zc_m1 ?_
  refine lv_icmp_ne (pc := 22) (tgt := 27) hx hb dX4_readSight_22 (by decide) (fun c6 => ?_) (fun c6 => ?_)
  · replace h := zBr_f c6 h
    refine lv_aload_n (pc := 27) hx hb dX4_readSight_27 rfl (lv_at hl 1 rfl) ?_
    refine zr_getR (pc := 28) (t := 1) cx lk_X4_18 hP nC_229 sC_229 rfl dX4_readSight_28 ?_
    refine zr_getI (pc := 31) cx lk_X4_107 hP nC_1 sC_1 rfl dX4_readSight_31 ?_
    obtain ⟨x7, ex7, h⟩ := zLt_e h
    refine zr_nmI ex7 ?_
    refine lv_istore_n (lv' := [(2, .int x7), (1, .int r5), (0, .ref (q 229))]) (pc := 34) hx hb dX4_readSight_34 rfl hl (by decide) rfl (fun ls hl => ?_)
    refine lv_aload_n (pc := 35) hx hb dX4_readSight_35 rfl (lv_at hl 2 rfl) ?_
    refine zr_getR (pc := 36) (t := 1) cx lk_X4_18 hP nC_229 sC_229 rfl dX4_readSight_36 ?_
    refine lv_aload_n (pc := 39) hx hb dX4_readSight_39 rfl (lv_at hl 2 rfl) ?_
    refine zr_getR (pc := 40) (t := 230) cx lk_X4_12 hP nC_229 sC_229 rfl dX4_readSight_40 ?_
    refine lv_iconst (pc := 43) hx hb dX4_readSight_43 zc_0 ?_
    obtain ⟨r10, S9, k8, h⟩ := zBp_e h
    refine zr_VQ (pc := 44) (rest := []) cx cv_X4_90 (mX9_takeKnown hq zHouse_230 k8) ⟨⟨rfl, rfl⟩, Nat.le_of_ble_eq_true rfl, Nat.le_of_ble_eq_true rfl⟩ ⟨Nat.le_of_ble_eq_true rfl, Nat.le_of_ble_eq_true rfl⟩ hP hS nC_1 sC_1 rfl hl.1 rfl rfl (Nat.le_of_ble_eq_true rfl) dX4_readSight_44 (fun H locs hP hS => ?_)
    refine lv_istore_n (lv' := [(3, .int r10), (2, .int x7), (1, .int r5), (0, .ref (q 229))]) (pc := 47) hx hb dX4_readSight_47 rfl hl (by decide) rfl (fun ls hl => ?_)
    refine lv_iload_n (pc := 48) hx hb dX4_readSight_48 rfl (lv_at hl 0 rfl) ?_
    refine lv_iconst (pc := 49) hx hb dX4_readSight_49 zc_m1 ?_
    refine lv_icmp_ne (pc := 50) (tgt := 55) hx hb dX4_readSight_50 (by decide) (fun c11 => ?_) (fun c11 => ?_)
    · replace h := zBr_f c11 h
      refine lv_iload_n (pc := 55) hx hb dX4_readSight_55 rfl (lv_at hl 2 rfl) ?_
      refine lv_iload_n (pc := 56) hx hb dX4_readSight_56 rfl (lv_at hl 0 rfl) ?_
      refine lv_icmp_eq (pc := 57) (tgt := 76) hx hb dX4_readSight_57 (by decide) (fun c12 => ?_) (fun c12 => ?_)
      · replace h := zBr_t c12 h
        exact kX4_readSight_76 cx hr hlk hq h hP hS (lv_sub hl [3, 1] rfl)
      · replace h := zBr_f c12 h
        refine lv_aload_n (pc := 60) hx hb dX4_readSight_60 rfl (lv_at hl 3 rfl) ?_
        refine zr_getR (pc := 61) (t := 230) cx lk_X4_12 hP nC_229 sC_229 rfl dX4_readSight_61 ?_
        refine zr_getR (pc := 64) (t := (230 + 2)) cx lk_X4_110 hP (nX3_0 zHouse_230) (sX3_0 zHouse_230) rfl dX4_readSight_64 ?_
        refine lv_iload_n (pc := 67) hx hb dX4_readSight_67 rfl (lv_at hl 2 rfl) ?_
        obtain ⟨g17, h⟩ := zGd_e h
        refine zr_iald (pc := 68) cx hP (nX3_2 zHouse_230) (sX3_2 zHouse_230) g17 dX4_readSight_68 ?_
        refine lv_iload_n (pc := 69) hx hb dX4_readSight_69 rfl (lv_at hl 0 rfl) ?_
        obtain ⟨r19, k18, h⟩ := zBd_e h
        refine zr_NI (pc := 70) (rest := []) cx cv_X4_113 (mX11_hasBit k18) ⟨⟨rfl, rfl⟩, Nat.le_of_ble_eq_true rfl, Nat.le_of_ble_eq_true rfl⟩ ⟨Nat.le_of_ble_eq_true rfl, Nat.le_of_ble_eq_true rfl⟩ (zr_preK cx) hl.1 rfl rfl (Nat.le_of_ble_eq_true rfl) dX4_readSight_70 ?_
        refine lv_if_eq (pc := 73) (tgt := 86) hx hb dX4_readSight_73 (by decide) (fun c20 => ?_) (fun c20 => ?_)
        · replace h := zBr_t c20 h
          refine lv_aload_n (pc := 86) hx hb dX4_readSight_86 rfl (lv_at hl 3 rfl) ?_
          refine zr_getR (pc := 87) (t := 230) cx lk_X4_12 hP nC_229 sC_229 rfl dX4_readSight_87 ?_
          refine lv_iload_n (pc := 90) hx hb dX4_readSight_90 rfl (lv_at hl 2 rfl) ?_
          refine lv_iload_n (pc := 91) hx hb dX4_readSight_91 rfl (lv_at hl 0 rfl) ?_
          obtain ⟨S22, k21, h⟩ := zBd_e h
          refine zr_VV (pc := 92) (rest := []) cx cv_X4_120 (mX3_addSight hq zHouse_230 k21) ⟨⟨rfl, rfl⟩, Nat.le_of_ble_eq_true rfl, Nat.le_of_ble_eq_true rfl⟩ ⟨Nat.le_of_ble_eq_true rfl, Nat.le_of_ble_eq_true rfl⟩ hP hS (nX3_0 zHouse_230) (sX3_0 zHouse_230) rfl hl.1 rfl rfl (Nat.le_of_ble_eq_true rfl) dX4_readSight_92 (fun H locs hP hS => ?_)
          refine lv_iconst (pc := 95) hx hb dX4_readSight_95 zc_1 ?_
          have hz := Option.some.inj h
          exact zr_rqZ (pc := 96) cx hr hlk hP hS hz (by decide) dX4_readSight_96
        · replace h := zBr_f c20 h
          exact kX4_readSight_76 cx hr hlk hq h hP hS (lv_sub hl [3, 1] rfl)
    · replace h := zBr_t c11 h
      refine lv_iconst (pc := 53) hx hb dX4_readSight_53 zc_0 ?_
      have hz := Option.some.inj h
      exact zr_rqZ (pc := 54) cx hr hlk hP hS hz (by decide) dX4_readSight_54
  · replace h := zBr_t c6 h
    refine lv_iconst (pc := 25) hx hb dX4_readSight_25 zc_0 ?_
    have hz := Option.some.inj h
    exact zr_rqZ (pc := 26) cx hr hlk hP hS hz (by decide) dX4_readSight_26
-- X6_begin
abbrev rmX6_begin : Room := { frames := 0, cells := 0, slots := 0, locals := 0 }
def fX6_begin_12 (a0 : Nat) (t : (zSt × Int32)) : Option ((zSt × Int32) ⊕ zSt) :=
  match t with
  | (S, v1) => zBr ((6 : Int32) ≤ v1) (zXr (some S)) (zGd (zIx v1 6) (zLt (zI S (a0 + 12) v1.toNatClampNeg (0 : Int32)) (fun S6 => zGd (zIx v1 6) (zLt (zI S6 (a0 + 14) v1.toNatClampNeg (0 : Int32)) (fun S8 => zGd (zIx v1 6) (zGd (zIx v1 6) (zLt (zI S8 (a0 + 13) v1.toNatClampNeg (S8.1 ((zHs a0) + 3) v1.toNatClampNeg)) (fun S11 => zLt (v1 + (1 : Int32)) (fun x12 => some (.inl (S11, x12)))))))))))
set_option maxHeartbeats 4000000 in
set_option maxRecDepth 100000 in
theorem kX6_begin_12B {p : Program} {l : Launch} {e : Env} {s : State} {m : MethodId} {args : Array Value} {below : List Frame} {meth : Method} {c : Code} {D : va_G} {cy : Nat → ClassId} {q : Nat → Nat} {A : Nat → Prop} (cx : zX RX6 cX6_begin 2 p s m args c D cy) (hr : meth.sig.returnType = none) (hlk : meth.locks = false) (hq : zQ A q zNC) {a0 : Nat} (ha0 : zLife a0) {z : zSt} {S : zSt} {v1 : Int32} {C1 : ((zSt × Int32) ⊕ zSt) → Prop} (hb1 : ∀ (S : zSt) (v1 : Int32), C1 (.inl (S, v1)) → ∀ (H : Heap) (locs : List Loc), va_P D vwCl (zW zsh zNC cy q S) H → va_S A s.heap H locs → ∀ (ls : Array Slot), lv_has ls 2 [(0, .ref (q a0)), (1, .int v1)] → W p l e rmX6_begin s m args below meth c H locs 0 0 (MQ below (va_Qv (fun (u : zSt) => u = z) (fun u t => va_P D vwCl (zW zsh zNC cy q u) t.heap) A) args s 0 0 A) (F0 m 12 ls [])) (hx1 : ∀ a, C1 (.inr a) → a = z) {x : ((zSt × Int32) ⊕ zSt)} (h : fX6_begin_12 a0 (S, v1) = some x) (hc : C1 x) {H : Heap} {locs : List Loc} (hP : va_P D vwCl (zW zsh zNC cy q S) H) (hS : va_S A s.heap H locs) {ls : Array Slot} (hl : lv_has ls 2 [(0, .ref (q a0)), (1, .int v1)]) : W p l e rmX6_begin s m args below meth c H locs 0 0 (MQ below (va_Qv (fun (u : zSt) => u = z) (fun u t => va_P D vwCl (zW zsh zNC cy q u) t.heap) A) args s 0 0 A) (F0 m 12 ls []) := by
  have hx := cx.1
  have hb := cx.2.1
  unfold fX6_begin_12 at h
  dsimp only at h
  refine lv_iload_n (pc := 12) hx hb dX6_begin_12 rfl (lv_at hl 1 rfl) ?_
  refine lv_bipush (pc := 13) hx hb dX6_begin_13 zb_6 ?_
  refine lv_icmp_ge (pc := 15) (tgt := 53) hx hb dX6_begin_15 (by decide) (fun c3 => ?_) (fun c3 => ?_)
  · replace h := zBr_t c3 h
    obtain ⟨y4, h, ex⟩ := zXr_e h
    have hc := hx1 y4 (by rw [ex] at hc; exact hc)
    rw [hc] at h
    have hz := Option.some.inj h
    exact zr_rqV (pc := 53) cx hr hlk hP hS hz dX6_begin_53
  · replace h := zBr_f c3 h
    refine lv_aload_n (pc := 18) hx hb dX6_begin_18 rfl (lv_at hl 0 rfl) ?_
    refine zr_getR (pc := 19) (t := (a0 + 12)) cx lk_X6_29 hP (nX6_0 ha0) (sX6_0 ha0) rfl dX6_begin_19 ?_
    refine lv_iload_n (pc := 22) hx hb dX6_begin_22 rfl (lv_at hl 1 rfl) ?_
    refine lv_iconst (pc := 23) hx hb dX6_begin_23 zc_0 ?_
    obtain ⟨g5, h⟩ := zGd_e h
    obtain ⟨S6, eS6, h⟩ := zLt_e h
    refine zr_iast (pc := 24) cx hq hP hS (nX6_12 ha0) (sX6_12 ha0) g5 dX6_begin_24 (fun H locs hP hS => ?_)
    rw [← eS6] at hP
    refine lv_aload_n (pc := 25) hx hb dX6_begin_25 rfl (lv_at hl 0 rfl) ?_
    refine zr_getR (pc := 26) (t := (a0 + 14)) cx lk_X6_35 hP (nX6_0 ha0) (sX6_0 ha0) rfl dX6_begin_26 ?_
    refine lv_iload_n (pc := 29) hx hb dX6_begin_29 rfl (lv_at hl 1 rfl) ?_
    refine lv_iconst (pc := 30) hx hb dX6_begin_30 zc_0 ?_
    obtain ⟨g7, h⟩ := zGd_e h
    obtain ⟨S8, eS8, h⟩ := zLt_e h
    refine zr_iast (pc := 31) cx hq hP hS (nX6_14 ha0) (sX6_14 ha0) g7 dX6_begin_31 (fun H locs hP hS => ?_)
    rw [← eS8] at hP
    refine lv_aload_n (pc := 32) hx hb dX6_begin_32 rfl (lv_at hl 0 rfl) ?_
    refine zr_getR (pc := 33) (t := (a0 + 13)) cx lk_X6_32 hP (nX6_0 ha0) (sX6_0 ha0) rfl dX6_begin_33 ?_
    refine lv_iload_n (pc := 36) hx hb dX6_begin_36 rfl (lv_at hl 1 rfl) ?_
    refine lv_aload_n (pc := 37) hx hb dX6_begin_37 rfl (lv_at hl 0 rfl) ?_
    refine zr_getR (pc := 38) (t := (zHs a0)) cx lk_X6_38 hP (nX6_0 ha0) (sX6_0 ha0) rfl dX6_begin_38 ?_
    refine zr_getR (pc := 41) (t := ((zHs a0) + 3)) cx lk_X6_49 hP (nX3_0 (zHs_ok ha0)) (sX3_0 (zHs_ok ha0)) rfl dX6_begin_41 ?_
    refine lv_iload_n (pc := 44) hx hb dX6_begin_44 rfl (lv_at hl 1 rfl) ?_
    obtain ⟨g9, h⟩ := zGd_e h
    refine zr_iald (pc := 45) cx hP (nX3_3 (zHs_ok ha0)) (sX3_3 (zHs_ok ha0)) g9 dX6_begin_45 ?_
    obtain ⟨g10, h⟩ := zGd_e h
    obtain ⟨S11, eS11, h⟩ := zLt_e h
    refine zr_iast (pc := 46) cx hq hP hS (nX6_13 ha0) (sX6_13 ha0) g10 dX6_begin_46 (fun H locs hP hS => ?_)
    rw [← eS11] at hP
    obtain ⟨x12, ex12, h⟩ := zLt_e h
    refine lv_iinc (v := x12) (lv' := [(1, .int x12), (0, .ref (q a0))]) (pc := 47) hx hb dX6_begin_47 hl (k := 1) rfl (by rw [zc_1]; exact ex12.symm) (by decide) rfl (fun ls hl => ?_)
    refine lv_goto (pc := 50) (tgt := 12) hx hb dX6_begin_50 (by decide) ?_
    cases h
    exact hb1 _ _ hc _ _ hP hS _ (lv_sub hl [1, 0] rfl)
set_option maxHeartbeats 4000000 in
set_option maxRecDepth 100000 in
theorem kX6_begin_12 {p : Program} {l : Launch} {e : Env} {s : State} {m : MethodId} {args : Array Value} {below : List Frame} {meth : Method} {c : Code} {D : va_G} {cy : Nat → ClassId} {q : Nat → Nat} {A : Nat → Prop} (cx : zX RX6 cX6_begin 2 p s m args c D cy) (hr : meth.sig.returnType = none) (hlk : meth.locks = false) (hq : zQ A q zNC) {a0 : Nat} (ha0 : zLife a0) {z : zSt} : ∀ (n : Nat) (S : zSt) (v1 : Int32), zLp (fX6_begin_12 a0) n (S, v1) = some z → ∀ (H : Heap) (locs : List Loc), va_P D vwCl (zW zsh zNC cy q S) H → va_S A s.heap H locs → ∀ (ls : Array Slot), lv_has ls 2 [(0, .ref (q a0)), (1, .int v1)] → W p l e rmX6_begin s m args below meth c H locs 0 0 (MQ below (va_Qv (fun (u : zSt) => u = z) (fun u t => va_P D vwCl (zW zsh zNC cy q u) t.heap) A) args s 0 0 A) (F0 m 12 ls []) := by
  intro n
  induction n with
  | zero =>
    intro S v1 h
    cases h
  | succ n ih =>
    intro S v1 h H locs hP hS ls hl
    obtain ⟨x, h, hk⟩ := zLp_e h
    exact kX6_begin_12B cx hr hlk hq ha0  (C1 := zKt (fun t => zLp (fX6_begin_12 a0) n t = some z) (fun a => a = z)) (fun S v1 ht H locs hP hS ls hl => ih S v1 ht H locs hP hS ls hl) (fun a ha => ha) h hk hP hS hl
def fX6_begin (S : zSt) (a0 : Nat) : Option zSt :=
  zLt (zI S a0 1 (0 : Int32)) (fun S1 => zLt (zI S1 a0 2 (0 : Int32)) (fun S2 => zLp (fX6_begin_12 a0) 2000 (S2, (0 : Int32))))
set_option maxHeartbeats 4000000 in
set_option maxRecDepth 100000 in
theorem mX6_begin {l : Launch} {D : va_G} {cy : Nat → ClassId} {q : Nat → Nat} {A : Nat → Prop} {S : zSt} {a0 : Nat} (hq : zQ A q zNC) (ha0 : zLife a0) {z : zSt} (h : fX6_begin S a0 = some z) : zMv l yX6_begin cX6_begin 2 none rmX6_begin [.ref (q a0)] zsh zNC D cy q A S z := by
  refine Met.ofW (cc := cX6_begin) (maxL := 2) (ret := none) (by decide) rfl ?_
  intro p e s m args below meth c s₁ B hml hv
  obtain ⟨rfl, hP, hK⟩ := hv
  have cx : zX RX6 cX6_begin 2 p s m ([.ref (q a0)]).toArray c D cy := ⟨B.exec, B.bytes, hml, findClass_of_methodNamed B.named, fun w hw => atoms_spec (ws := Cond.code yX6_begin cX6_begin 2 none :: zTB) B.pre w (List.mem_cons_of_mem _ hw), hK⟩
  have hx := cx.1
  have hb := cx.2.1
  have hr := B.returns
  have hlk := B.notSynchronized
  have hS : va_S A s.heap s.heap [] := va_S.rf
  have hl := lv_entry ([.ref (q a0)]) (n := 2) (Nat.le_of_ble_eq_true rfl)
  rw [lg_entry_eq]
  generalize (lg_sl ([.ref (q a0)]) ++ List.replicate (2 - (lg_sl ([.ref (q a0)])).length) Slot.unset).toArray = ls at hl ⊢
  have hl : lv_has ls 2 [(0, .ref (q a0))] := hl
  unfold fX6_begin at h
  refine lv_aload_n (pc := 0) hx hb dX6_begin_0 rfl (lv_at hl 0 rfl) ?_
  refine lv_iconst (pc := 1) hx hb dX6_begin_1 zc_0 ?_
  obtain ⟨S1, eS1, h⟩ := zLt_e h
  refine zr_putI (pc := 2) cx lq_X6_42 hq hP hS (nX6_0 ha0) (sX6_0 ha0) rfl rfl rfl dX6_begin_2 (fun H locs hP hS => ?_)
  rw [← eS1] at hP
  refine lv_aload_n (pc := 5) hx hb dX6_begin_5 rfl (lv_at hl 0 rfl) ?_
  refine lv_iconst (pc := 6) hx hb dX6_begin_6 zc_0 ?_
  obtain ⟨S2, eS2, h⟩ := zLt_e h
  refine zr_putI (pc := 7) cx lq_X6_46 hq hP hS (nX6_0 ha0) (sX6_0 ha0) rfl rfl rfl dX6_begin_7 (fun H locs hP hS => ?_)
  rw [← eS2] at hP
  refine lv_iconst (pc := 10) hx hb dX6_begin_10 zc_0 ?_
  refine lv_istore_n (lv' := [(1, .int (0 : Int32)), (0, .ref (q a0))]) (pc := 11) hx hb dX6_begin_11 rfl hl (by decide) rfl (fun ls hl => ?_)
  exact kX6_begin_12 cx hr hlk hq ha0 2000 _ _ h _ _ hP hS _ (lv_sub hl [1, 0] rfl)
-- X6_witnessesDue
abbrev rmX6_witnessesDue : Room := { frames := 1, cells := 0, slots := 0, locals := 20 }
def fX6_witnessesDue_33 (S : zSt) (a0 : Nat) (v1 : Int32) (v2 : Int32) (v3 : Int32) : Option ((Int32 × Int32) ⊕ Int32) :=
  zLt (v3 + (1 : Int32)) (fun x8 => some (.inl (v2, x8)))
set_option maxHeartbeats 4000000 in
set_option maxRecDepth 100000 in
theorem kX6_witnessesDue_33 {p : Program} {l : Launch} {e : Env} {s : State} {m : MethodId} {args : Array Value} {below : List Frame} {meth : Method} {c : Code} {D : va_G} {cy : Nat → ClassId} {q : Nat → Nat} (cx : zX RX6 cX6_witnessesDue 4 p s m args c D cy) (hr : meth.sig.returnType = (some .int)) (hlk : meth.locks = false) {a0 : Nat} (ha0 : zLife a0) {z : Int32} {S : zSt} {v1 : Int32} {v2 : Int32} {v3 : Int32} {C1 : ((Int32 × Int32) ⊕ Int32) → Prop} (hb1 : ∀ (v2 : Int32) (v3 : Int32), C1 (.inl (v2, v3)) → ∀ (ls : Array Slot), lv_has ls 4 [(0, .ref (q a0)), (1, .int v1), (2, .int v2), (3, .int v3)] → W p l e rmX6_witnessesDue s m args below meth c s.heap [] 0 0 (MQ below (vp_Si (fun x => x = z)) args s 0 0 (fun _ => False)) (F0 m 4 ls [])) (hx1 : ∀ a, C1 (.inr a) → a = z) (hP : va_P D vwCl (zW zsh zNC cy q S) s.heap) {x : ((Int32 × Int32) ⊕ Int32)} (h : fX6_witnessesDue_33 S a0 v1 v2 v3 = some x) (hc : C1 x) {ls : Array Slot} (hl : lv_has ls 4 [(0, .ref (q a0)), (1, .int v1), (2, .int v2), (3, .int v3)]) : W p l e rmX6_witnessesDue s m args below meth c s.heap [] 0 0 (MQ below (vp_Si (fun x => x = z)) args s 0 0 (fun _ => False)) (F0 m 33 ls []) := by
  have hx := cx.1
  have hb := cx.2.1
  unfold fX6_witnessesDue_33 at h
  obtain ⟨x8, ex8, h⟩ := zLt_e h
  refine lv_iinc (v := x8) (lv' := [(3, .int x8), (0, .ref (q a0)), (1, .int v1), (2, .int v2)]) (pc := 33) hx hb dX6_witnessesDue_33 hl (k := 3) rfl (by rw [zc_1]; exact ex8.symm) (by decide) rfl (fun ls hl => ?_)
  refine lv_goto (pc := 36) (tgt := 4) hx hb dX6_witnessesDue_36 (by decide) ?_
  cases h
  exact hb1 _ _ hc _ (lv_sub hl [1, 2, 3, 0] rfl)
def fX6_witnessesDue_4 (S : zSt) (a0 : Nat) (v1 : Int32) (t : (Int32 × Int32)) : Option ((Int32 × Int32) ⊕ Int32) :=
  match t with
  | (v2, v3) => zBd (fX6_plants S a0) (fun r2 => zBr (r2 ≤ v3) (zXr (some v2)) (zGd (zIx v3 6) (zGd (zIx v1 12) (zBr ((S.1 (a0 + 6 + v3.toNatClampNeg) v1.toNatClampNeg) ≤ (S.1 a0 1)) (fX6_witnessesDue_33 S a0 v1 v2 v3) (zLt (v2 ||| ((1 : Int32) <<< (v3 &&& 31))) (fun x9 => fX6_witnessesDue_33 S a0 v1 x9 v3))))))
set_option maxHeartbeats 4000000 in
set_option maxRecDepth 100000 in
theorem kX6_witnessesDue_4B {p : Program} {l : Launch} {e : Env} {s : State} {m : MethodId} {args : Array Value} {below : List Frame} {meth : Method} {c : Code} {D : va_G} {cy : Nat → ClassId} {q : Nat → Nat} (cx : zX RX6 cX6_witnessesDue 4 p s m args c D cy) (hr : meth.sig.returnType = (some .int)) (hlk : meth.locks = false) {a0 : Nat} (ha0 : zLife a0) {z : Int32} {S : zSt} {v1 : Int32} {v2 : Int32} {v3 : Int32} {C1 : ((Int32 × Int32) ⊕ Int32) → Prop} (hb1 : ∀ (v2 : Int32) (v3 : Int32), C1 (.inl (v2, v3)) → ∀ (ls : Array Slot), lv_has ls 4 [(0, .ref (q a0)), (1, .int v1), (2, .int v2), (3, .int v3)] → W p l e rmX6_witnessesDue s m args below meth c s.heap [] 0 0 (MQ below (vp_Si (fun x => x = z)) args s 0 0 (fun _ => False)) (F0 m 4 ls [])) (hx1 : ∀ a, C1 (.inr a) → a = z) (hP : va_P D vwCl (zW zsh zNC cy q S) s.heap) {x : ((Int32 × Int32) ⊕ Int32)} (h : fX6_witnessesDue_4 S a0 v1 (v2, v3) = some x) (hc : C1 x) {ls : Array Slot} (hl : lv_has ls 4 [(0, .ref (q a0)), (1, .int v1), (2, .int v2), (3, .int v3)]) : W p l e rmX6_witnessesDue s m args below meth c s.heap [] 0 0 (MQ below (vp_Si (fun x => x = z)) args s 0 0 (fun _ => False)) (F0 m 4 ls []) := by
  have hx := cx.1
  have hb := cx.2.1
  unfold fX6_witnessesDue_4 at h
  dsimp only at h
  refine lv_iload_n (pc := 4) hx hb dX6_witnessesDue_4 rfl (lv_at hl 3 rfl) ?_
  refine lv_aload_n (pc := 5) hx hb dX6_witnessesDue_5 rfl (lv_at hl 0 rfl) ?_
  obtain ⟨r2, k1, h⟩ := zBd_e h
  refine zr_VI (pc := 6) (rest := [.int v3]) cx cv_X6_86 (mX6_plants ha0 k1) ⟨⟨rfl, rfl⟩, Nat.le_of_ble_eq_true rfl, Nat.le_of_ble_eq_true rfl⟩ ⟨Nat.le_of_ble_eq_true rfl, Nat.le_of_ble_eq_true rfl⟩ hP (nX6_0 ha0) (sX6_0 ha0) rfl hl.1 rfl rfl (Nat.le_of_ble_eq_true rfl) dX6_witnessesDue_6 ?_
  refine lv_icmp_ge (pc := 9) (tgt := 39) hx hb dX6_witnessesDue_9 (by decide) (fun c3 => ?_) (fun c3 => ?_)
  · replace h := zBr_t c3 h
    obtain ⟨y4, h, ex⟩ := zXr_e h
    have hc := hx1 y4 (by rw [ex] at hc; exact hc)
    rw [hc] at h
    refine lv_iload_n (pc := 39) hx hb dX6_witnessesDue_39 rfl (lv_at hl 2 rfl) ?_
    have hz := Option.some.inj h
    exact zr_reI (pc := 40) cx hr hlk hz dX6_witnessesDue_40
  · replace h := zBr_f c3 h
    refine lv_aload_n (pc := 12) hx hb dX6_witnessesDue_12 rfl (lv_at hl 0 rfl) ?_
    refine zr_getR (pc := 13) (t := (a0 + 5)) cx lk_X6_26 hP (nX6_0 ha0) (sX6_0 ha0) rfl dX6_witnessesDue_13 ?_
    refine lv_iload_n (pc := 16) hx hb dX6_witnessesDue_16 rfl (lv_at hl 3 rfl) ?_
    obtain ⟨g5, h⟩ := zGd_e h
    refine zr_aald (pc := 17) (g := (a0 + 6 + v3.toNatClampNeg)) cx hP (nX6_5 ha0) (sX6_5 ha0) (Or.inr (Or.inr rfl)) g5 rfl dX6_witnessesDue_17 ?_
    refine lv_iload_n (pc := 18) hx hb dX6_witnessesDue_18 rfl (lv_at hl 1 rfl) ?_
    obtain ⟨g6, h⟩ := zGd_e h
    refine zr_iald (pc := 19) cx hP (nX6_r ha0 g5) (sX6_r ha0 g5) g6 dX6_witnessesDue_19 ?_
    refine lv_aload_n (pc := 20) hx hb dX6_witnessesDue_20 rfl (lv_at hl 0 rfl) ?_
    refine zr_getI (pc := 21) cx lk_X6_42 hP (nX6_0 ha0) (sX6_0 ha0) rfl dX6_witnessesDue_21 ?_
    refine lv_icmp_le (pc := 24) (tgt := 33) hx hb dX6_witnessesDue_24 (by decide) (fun c7 => ?_) (fun c7 => ?_)
    · replace h := zBr_t c7 h
      exact kX6_witnessesDue_33 cx hr hlk ha0 hb1 hx1 hP h hc (lv_sub hl [0, 1, 2, 3] rfl)
    · replace h := zBr_f c7 h
      refine lv_iload_n (pc := 27) hx hb dX6_witnessesDue_27 rfl (lv_at hl 2 rfl) ?_
      refine lv_iconst (pc := 28) hx hb dX6_witnessesDue_28 zc_1 ?_
      refine lv_iload_n (pc := 29) hx hb dX6_witnessesDue_29 rfl (lv_at hl 3 rfl) ?_
      refine lv_ishl (pc := 30) hx hb dX6_witnessesDue_30 ?_
      refine lv_ior (pc := 31) hx hb dX6_witnessesDue_31 ?_
      obtain ⟨x9, ex9, h⟩ := zLt_e h
      refine zr_nmI ex9 ?_
      refine lv_istore_n (lv' := [(2, .int x9), (0, .ref (q a0)), (1, .int v1), (3, .int v3)]) (pc := 32) hx hb dX6_witnessesDue_32 rfl hl (by decide) rfl (fun ls hl => ?_)
      exact kX6_witnessesDue_33 cx hr hlk ha0 hb1 hx1 hP h hc (lv_sub hl [1, 2, 0, 3] rfl)
set_option maxHeartbeats 4000000 in
set_option maxRecDepth 100000 in
theorem kX6_witnessesDue_4 {p : Program} {l : Launch} {e : Env} {s : State} {m : MethodId} {args : Array Value} {below : List Frame} {meth : Method} {c : Code} {D : va_G} {cy : Nat → ClassId} {q : Nat → Nat} (cx : zX RX6 cX6_witnessesDue 4 p s m args c D cy) (hr : meth.sig.returnType = (some .int)) (hlk : meth.locks = false) {a0 : Nat} (ha0 : zLife a0) {z : Int32} {S : zSt} {v1 : Int32} (hP : va_P D vwCl (zW zsh zNC cy q S) s.heap) : ∀ (n : Nat) (v2 : Int32) (v3 : Int32), zLp (fX6_witnessesDue_4 S a0 v1) n (v2, v3) = some z → ∀ (ls : Array Slot), lv_has ls 4 [(0, .ref (q a0)), (1, .int v1), (2, .int v2), (3, .int v3)] → W p l e rmX6_witnessesDue s m args below meth c s.heap [] 0 0 (MQ below (vp_Si (fun x => x = z)) args s 0 0 (fun _ => False)) (F0 m 4 ls []) := by
  intro n
  induction n with
  | zero =>
    intro v2 v3 h
    cases h
  | succ n ih =>
    intro v2 v3 h ls hl
    obtain ⟨x, h, hk⟩ := zLp_e h
    exact kX6_witnessesDue_4B cx hr hlk ha0  (C1 := zKt (fun t => zLp (fX6_witnessesDue_4 S a0 v1) n t = some z) (fun a => a = z)) (fun v2 v3 ht ls hl => ih v2 v3 ht ls hl) (fun a ha => ha) hP h hk hl
def fX6_witnessesDue (S : zSt) (a0 : Nat) (v1 : Int32) : Option Int32 :=
  zLp (fX6_witnessesDue_4 S a0 v1) 2000 ((0 : Int32), (0 : Int32))
set_option maxHeartbeats 4000000 in
set_option maxRecDepth 100000 in
theorem mX6_witnessesDue {l : Launch} {D : va_G} {cy : Nat → ClassId} {q : Nat → Nat} {S : zSt} {a0 : Nat} {v1 : Int32} (ha0 : zLife a0) {z : Int32} (h : fX6_witnessesDue S a0 v1 = some z) : zMi l yX6_witnessesDue cX6_witnessesDue 4 (some .int) rmX6_witnessesDue [.ref (q a0), .int v1] (zPr zsh zNC D cy q S) z := by
  refine Met.ofW (cc := cX6_witnessesDue) (maxL := 4) (ret := (some .int)) (by decide) rfl ?_
  intro p e s m args below meth c s₁ B hml hv
  obtain ⟨rfl, hP, hK⟩ := hv
  have cx : zX RX6 cX6_witnessesDue 4 p s m ([.ref (q a0), .int v1]).toArray c D cy := ⟨B.exec, B.bytes, hml, findClass_of_methodNamed B.named, fun w hw => atoms_spec (ws := Cond.code yX6_witnessesDue cX6_witnessesDue 4 (some .int) :: zTB) B.pre w (List.mem_cons_of_mem _ hw), hK⟩
  have hx := cx.1
  have hb := cx.2.1
  have hr := B.returns
  have hlk := B.notSynchronized
  have hl := lv_entry ([.ref (q a0), .int v1]) (n := 4) (Nat.le_of_ble_eq_true rfl)
  rw [lg_entry_eq]
  generalize (lg_sl ([.ref (q a0), .int v1]) ++ List.replicate (4 - (lg_sl ([.ref (q a0), .int v1])).length) Slot.unset).toArray = ls at hl ⊢
  have hl : lv_has ls 4 [(0, .ref (q a0)), (1, .int v1)] := hl
  unfold fX6_witnessesDue at h
  refine lv_iconst (pc := 0) hx hb dX6_witnessesDue_0 zc_0 ?_
  refine lv_istore_n (lv' := [(2, .int (0 : Int32)), (0, .ref (q a0)), (1, .int v1)]) (pc := 1) hx hb dX6_witnessesDue_1 rfl hl (by decide) rfl (fun ls hl => ?_)
  refine lv_iconst (pc := 2) hx hb dX6_witnessesDue_2 zc_0 ?_
  refine lv_istore_n (lv' := [(3, .int (0 : Int32)), (2, .int (0 : Int32)), (0, .ref (q a0)), (1, .int v1)]) (pc := 3) hx hb dX6_witnessesDue_3 rfl hl (by decide) rfl (fun ls hl => ?_)
  exact kX6_witnessesDue_4 cx hr hlk ha0 hP 2000 _ _ h _ (lv_sub hl [2, 3, 1, 0] rfl)
-- X8_add
abbrev rmX8_add : Room := { frames := 0, cells := 0, slots := 0, locals := 0 }
def fX8_add (S : zSt) (a0 : Nat) (v1 : Int32) (v2 : Int32) (v3 : Int32) : Option (Int32 × zSt) :=
  zBr (v2 = (-1 : Int32)) (some ((0 : Int32), S)) (zBr (v3 = (-1 : Int32)) (some ((0 : Int32), S)) (zBr ((S.1 a0 4) < (40 : Int32)) (zGd (zIx (S.1 a0 4) 40) (zLt (zI S (a0 + 1) (S.1 a0 4).toNatClampNeg v1) (fun S5 => zGd (zIx (S5.1 a0 4) 40) (zLt (zI S5 (a0 + 2) (S5.1 a0 4).toNatClampNeg v2) (fun S7 => zGd (zIx (S7.1 a0 4) 40) (zLt (zI S7 (a0 + 3) (S7.1 a0 4).toNatClampNeg v3) (fun S9 => zLt (zI S9 a0 4 ((S9.1 a0 4) + (1 : Int32))) (fun S10 => some ((1 : Int32), S10))))))))) (some ((0 : Int32), S))))
set_option maxHeartbeats 4000000 in
set_option maxRecDepth 100000 in
theorem mX8_add {l : Launch} {D : va_G} {cy : Nat → ClassId} {q : Nat → Nat} {A : Nat → Prop} {S : zSt} {a0 : Nat} {v1 : Int32} {v2 : Int32} {v3 : Int32} (hq : zQ A q zNC) (ha0 : zSent a0) {z : (Int32 × zSt)} (h : fX8_add S a0 v1 v2 v3 = some z) : zMq l yX8_add cX8_add 4 (some .boolean) rmX8_add [.ref (q a0), .int v1, .int v2, .int v3] zsh zNC D cy q A S z := by
  refine Met.ofW (cc := cX8_add) (maxL := 4) (ret := (some .boolean)) (by decide) rfl ?_
  intro p e s m args below meth c s₁ B hml hv
  obtain ⟨rfl, hP, hK⟩ := hv
  have cx : zX RX8 cX8_add 4 p s m ([.ref (q a0), .int v1, .int v2, .int v3]).toArray c D cy := ⟨B.exec, B.bytes, hml, findClass_of_methodNamed B.named, fun w hw => atoms_spec (ws := Cond.code yX8_add cX8_add 4 (some .boolean) :: zTB) B.pre w (List.mem_cons_of_mem _ hw), hK⟩
  have hx := cx.1
  have hb := cx.2.1
  have hr := B.returns
  have hlk := B.notSynchronized
  have hS : va_S A s.heap s.heap [] := va_S.rf
  have hl := lv_entry ([.ref (q a0), .int v1, .int v2, .int v3]) (n := 4) (Nat.le_of_ble_eq_true rfl)
  rw [lg_entry_eq]
  generalize (lg_sl ([.ref (q a0), .int v1, .int v2, .int v3]) ++ List.replicate (4 - (lg_sl ([.ref (q a0), .int v1, .int v2, .int v3])).length) Slot.unset).toArray = ls at hl ⊢
  have hl : lv_has ls 4 [(0, .ref (q a0)), (1, .int v1), (2, .int v2), (3, .int v3)] := hl
  unfold fX8_add at h
  refine lv_iload_n (pc := 0) hx hb dX8_add_0 rfl (lv_at hl 2 rfl) ?_
  refine lv_iconst (pc := 1) hx hb dX8_add_1 zc_m1 ?_
  refine lv_icmp_eq (pc := 2) (tgt := 19) hx hb dX8_add_2 (by decide) (fun c1 => ?_) (fun c1 => ?_)
  · replace h := zBr_t c1 h
    refine lv_iconst (pc := 19) hx hb dX8_add_19 zc_0 ?_
    have hz := Option.some.inj h
    exact zr_rqZ (pc := 20) cx hr hlk hP hS hz (by decide) dX8_add_20
  · replace h := zBr_f c1 h
    refine lv_iload_n (pc := 5) hx hb dX8_add_5 rfl (lv_at hl 3 rfl) ?_
    refine lv_iconst (pc := 6) hx hb dX8_add_6 zc_m1 ?_
    refine lv_icmp_eq (pc := 7) (tgt := 19) hx hb dX8_add_7 (by decide) (fun c2 => ?_) (fun c2 => ?_)
    · replace h := zBr_t c2 h
      refine lv_iconst (pc := 19) hx hb dX8_add_19 zc_0 ?_
      have hz := Option.some.inj h
      exact zr_rqZ (pc := 20) cx hr hlk hP hS hz (by decide) dX8_add_20
    · replace h := zBr_f c2 h
      refine lv_aload_n (pc := 10) hx hb dX8_add_10 rfl (lv_at hl 0 rfl) ?_
      refine zr_getI (pc := 11) cx lk_X8_24 hP (nX8_0 ha0) (sX8_0 ha0) rfl dX8_add_11 ?_
      refine lv_bipush (pc := 14) hx hb dX8_add_14 zb_40 ?_
      refine lv_icmp_lt (pc := 16) (tgt := 21) hx hb dX8_add_16 (by decide) (fun c3 => ?_) (fun c3 => ?_)
      · replace h := zBr_t c3 h
        refine lv_aload_n (pc := 21) hx hb dX8_add_21 rfl (lv_at hl 0 rfl) ?_
        refine zr_getR (pc := 22) (t := (a0 + 1)) cx lk_X8_11 hP (nX8_0 ha0) (sX8_0 ha0) rfl dX8_add_22 ?_
        refine lv_aload_n (pc := 25) hx hb dX8_add_25 rfl (lv_at hl 0 rfl) ?_
        refine zr_getI (pc := 26) cx lk_X8_24 hP (nX8_0 ha0) (sX8_0 ha0) rfl dX8_add_26 ?_
        refine lv_iload_n (pc := 29) hx hb dX8_add_29 rfl (lv_at hl 1 rfl) ?_
        obtain ⟨g4, h⟩ := zGd_e h
        obtain ⟨S5, eS5, h⟩ := zLt_e h
        refine zr_iast (pc := 30) cx hq hP hS (nX8_1 ha0) (sX8_1 ha0) g4 dX8_add_30 (fun H locs hP hS => ?_)
        rw [← eS5] at hP
        refine lv_aload_n (pc := 31) hx hb dX8_add_31 rfl (lv_at hl 0 rfl) ?_
        refine zr_getR (pc := 32) (t := (a0 + 2)) cx lk_X8_15 hP (nX8_0 ha0) (sX8_0 ha0) rfl dX8_add_32 ?_
        refine lv_aload_n (pc := 35) hx hb dX8_add_35 rfl (lv_at hl 0 rfl) ?_
        refine zr_getI (pc := 36) cx lk_X8_24 hP (nX8_0 ha0) (sX8_0 ha0) rfl dX8_add_36 ?_
        refine lv_iload_n (pc := 39) hx hb dX8_add_39 rfl (lv_at hl 2 rfl) ?_
        obtain ⟨g6, h⟩ := zGd_e h
        obtain ⟨S7, eS7, h⟩ := zLt_e h
        refine zr_iast (pc := 40) cx hq hP hS (nX8_2 ha0) (sX8_2 ha0) g6 dX8_add_40 (fun H locs hP hS => ?_)
        rw [← eS7] at hP
        refine lv_aload_n (pc := 41) hx hb dX8_add_41 rfl (lv_at hl 0 rfl) ?_
        refine zr_getR (pc := 42) (t := (a0 + 3)) cx lk_X8_18 hP (nX8_0 ha0) (sX8_0 ha0) rfl dX8_add_42 ?_
        refine lv_aload_n (pc := 45) hx hb dX8_add_45 rfl (lv_at hl 0 rfl) ?_
        refine zr_getI (pc := 46) cx lk_X8_24 hP (nX8_0 ha0) (sX8_0 ha0) rfl dX8_add_46 ?_
        refine lv_iload_n (pc := 49) hx hb dX8_add_49 rfl (lv_at hl 3 rfl) ?_
        obtain ⟨g8, h⟩ := zGd_e h
        obtain ⟨S9, eS9, h⟩ := zLt_e h
        refine zr_iast (pc := 50) cx hq hP hS (nX8_3 ha0) (sX8_3 ha0) g8 dX8_add_50 (fun H locs hP hS => ?_)
        rw [← eS9] at hP
        refine lv_aload_n (pc := 51) hx hb dX8_add_51 rfl (lv_at hl 0 rfl) ?_
        refine lv_dup (pc := 52) hx hb dX8_add_52 rfl ?_
        refine zr_getI (pc := 53) cx lk_X8_24 hP (nX8_0 ha0) (sX8_0 ha0) rfl dX8_add_53 ?_
        refine lv_iconst (pc := 56) hx hb dX8_add_56 zc_1 ?_
        refine lv_iadd (pc := 57) hx hb dX8_add_57 ?_
        obtain ⟨S10, eS10, h⟩ := zLt_e h
        refine zr_putI (pc := 58) cx lq_X8_24 hq hP hS (nX8_0 ha0) (sX8_0 ha0) rfl rfl rfl dX8_add_58 (fun H locs hP hS => ?_)
        rw [← eS10] at hP
        refine lv_iconst (pc := 61) hx hb dX8_add_61 zc_1 ?_
        have hz := Option.some.inj h
        exact zr_rqZ (pc := 62) cx hr hlk hP hS hz (by decide) dX8_add_62
      · replace h := zBr_f c3 h
        refine lv_iconst (pc := 19) hx hb dX8_add_19 zc_0 ?_
        have hz := Option.some.inj h
        exact zr_rqZ (pc := 20) cx hr hlk hP hS hz (by decide) dX8_add_20
-- X8_canBeginOne
abbrev rmX8_canBeginOne : Room := { frames := 0, cells := 0, slots := 0, locals := 0 }
def fX8_canBeginOne (v0 : Int32) : Option Int32 :=
  zBr (v0 = (40 : Int32)) (some (1 : Int32)) (zBr (v0 = (3 : Int32)) (some (1 : Int32)) (zBr (v0 = (14 : Int32)) (some (1 : Int32)) (zBr (v0 = (15 : Int32)) (some (1 : Int32)) (zBr (v0 < (16 : Int32)) (some (0 : Int32)) (zBr ((21 : Int32) < v0) (some (0 : Int32)) (some (1 : Int32)))))))
set_option maxHeartbeats 4000000 in
set_option maxRecDepth 100000 in
theorem mX8_canBeginOne {l : Launch} {D : va_G} {cy : Nat → ClassId} {v0 : Int32} {z : Int32} (h : fX8_canBeginOne v0 = some z) : zMi l yX8_canBeginOne cX8_canBeginOne 1 (some .boolean) rmX8_canBeginOne [.int v0] (zPk D cy) z := by
  refine Met.ofW (cc := cX8_canBeginOne) (maxL := 1) (ret := (some .boolean)) (by decide) rfl ?_
  intro p e s m args below meth c s₁ B hml hv
  obtain ⟨rfl, hK⟩ := hv
  have cx : zX RX8 cX8_canBeginOne 1 p s m ([.int v0]).toArray c D cy := ⟨B.exec, B.bytes, hml, findClass_of_methodNamed B.named, fun w hw => atoms_spec (ws := Cond.code yX8_canBeginOne cX8_canBeginOne 1 (some .boolean) :: zTB) B.pre w (List.mem_cons_of_mem _ hw), hK⟩
  have hx := cx.1
  have hb := cx.2.1
  have hr := B.returns
  have hlk := B.notSynchronized
  have hl := lv_entry ([.int v0]) (n := 1) (Nat.le_of_ble_eq_true rfl)
  rw [lg_entry_eq]
  generalize (lg_sl ([.int v0]) ++ List.replicate (1 - (lg_sl ([.int v0])).length) Slot.unset).toArray = ls at hl ⊢
  have hl : lv_has ls 1 [(0, .int v0)] := hl
  unfold fX8_canBeginOne at h
  refine lv_iload_n (pc := 0) hx hb dX8_canBeginOne_0 rfl (lv_at hl 0 rfl) ?_
  refine lv_bipush (pc := 1) hx hb dX8_canBeginOne_1 zb_40 ?_
  refine lv_icmp_eq (pc := 3) (tgt := 35) hx hb dX8_canBeginOne_3 (by decide) (fun c1 => ?_) (fun c1 => ?_)
  · replace h := zBr_t c1 h
    refine lv_iconst (pc := 35) hx hb dX8_canBeginOne_35 zc_1 ?_
    refine lv_goto (pc := 36) (tgt := 40) hx hb dX8_canBeginOne_36 (by decide) ?_
    have hz := Option.some.inj h
    exact zr_reZ (pc := 40) cx hr hlk hz (by decide) dX8_canBeginOne_40
  · replace h := zBr_f c1 h
    refine lv_iload_n (pc := 6) hx hb dX8_canBeginOne_6 rfl (lv_at hl 0 rfl) ?_
    refine lv_iconst (pc := 7) hx hb dX8_canBeginOne_7 zc_3 ?_
    refine lv_icmp_eq (pc := 8) (tgt := 35) hx hb dX8_canBeginOne_8 (by decide) (fun c2 => ?_) (fun c2 => ?_)
    · replace h := zBr_t c2 h
      refine lv_iconst (pc := 35) hx hb dX8_canBeginOne_35 zc_1 ?_
      refine lv_goto (pc := 36) (tgt := 40) hx hb dX8_canBeginOne_36 (by decide) ?_
      have hz := Option.some.inj h
      exact zr_reZ (pc := 40) cx hr hlk hz (by decide) dX8_canBeginOne_40
    · replace h := zBr_f c2 h
      refine lv_iload_n (pc := 11) hx hb dX8_canBeginOne_11 rfl (lv_at hl 0 rfl) ?_
      refine lv_bipush (pc := 12) hx hb dX8_canBeginOne_12 zb_14 ?_
      refine lv_icmp_eq (pc := 14) (tgt := 35) hx hb dX8_canBeginOne_14 (by decide) (fun c3 => ?_) (fun c3 => ?_)
      · replace h := zBr_t c3 h
        refine lv_iconst (pc := 35) hx hb dX8_canBeginOne_35 zc_1 ?_
        refine lv_goto (pc := 36) (tgt := 40) hx hb dX8_canBeginOne_36 (by decide) ?_
        have hz := Option.some.inj h
        exact zr_reZ (pc := 40) cx hr hlk hz (by decide) dX8_canBeginOne_40
      · replace h := zBr_f c3 h
        refine lv_iload_n (pc := 17) hx hb dX8_canBeginOne_17 rfl (lv_at hl 0 rfl) ?_
        refine lv_bipush (pc := 18) hx hb dX8_canBeginOne_18 zb_15 ?_
        refine lv_icmp_eq (pc := 20) (tgt := 35) hx hb dX8_canBeginOne_20 (by decide) (fun c4 => ?_) (fun c4 => ?_)
        · replace h := zBr_t c4 h
          refine lv_iconst (pc := 35) hx hb dX8_canBeginOne_35 zc_1 ?_
          refine lv_goto (pc := 36) (tgt := 40) hx hb dX8_canBeginOne_36 (by decide) ?_
          have hz := Option.some.inj h
          exact zr_reZ (pc := 40) cx hr hlk hz (by decide) dX8_canBeginOne_40
        · replace h := zBr_f c4 h
          refine lv_iload_n (pc := 23) hx hb dX8_canBeginOne_23 rfl (lv_at hl 0 rfl) ?_
          refine lv_bipush (pc := 24) hx hb dX8_canBeginOne_24 zb_16 ?_
          refine lv_icmp_lt (pc := 26) (tgt := 39) hx hb dX8_canBeginOne_26 (by decide) (fun c5 => ?_) (fun c5 => ?_)
          · replace h := zBr_t c5 h
            refine lv_iconst (pc := 39) hx hb dX8_canBeginOne_39 zc_0 ?_
            have hz := Option.some.inj h
            exact zr_reZ (pc := 40) cx hr hlk hz (by decide) dX8_canBeginOne_40
          · replace h := zBr_f c5 h
            refine lv_iload_n (pc := 29) hx hb dX8_canBeginOne_29 rfl (lv_at hl 0 rfl) ?_
            refine lv_bipush (pc := 30) hx hb dX8_canBeginOne_30 zb_21 ?_
            refine lv_icmp_gt (pc := 32) (tgt := 39) hx hb dX8_canBeginOne_32 (by decide) (fun c6 => ?_) (fun c6 => ?_)
            · replace h := zBr_t c6 h
              refine lv_iconst (pc := 39) hx hb dX8_canBeginOne_39 zc_0 ?_
              have hz := Option.some.inj h
              exact zr_reZ (pc := 40) cx hr hlk hz (by decide) dX8_canBeginOne_40
            · replace h := zBr_f c6 h
              refine lv_iconst (pc := 35) hx hb dX8_canBeginOne_35 zc_1 ?_
              refine lv_goto (pc := 36) (tgt := 40) hx hb dX8_canBeginOne_36 (by decide) ?_
              have hz := Option.some.inj h
              exact zr_reZ (pc := 40) cx hr hlk hz (by decide) dX8_canBeginOne_40
-- X8_clear
abbrev rmX8_clear : Room := { frames := 0, cells := 0, slots := 0, locals := 0 }
def fX8_clear (S : zSt) (a0 : Nat) : Option zSt :=
  zLt (zI S a0 4 (0 : Int32)) (fun S1 => zLt (zI S1 a0 5 (0 : Int32)) (fun S2 => some S2))
set_option maxHeartbeats 4000000 in
set_option maxRecDepth 100000 in
theorem mX8_clear {l : Launch} {D : va_G} {cy : Nat → ClassId} {q : Nat → Nat} {A : Nat → Prop} {S : zSt} {a0 : Nat} (hq : zQ A q zNC) (ha0 : zSent a0) {z : zSt} (h : fX8_clear S a0 = some z) : zMv l yX8_clear cX8_clear 1 none rmX8_clear [.ref (q a0)] zsh zNC D cy q A S z := by
  refine Met.ofW (cc := cX8_clear) (maxL := 1) (ret := none) (by decide) rfl ?_
  intro p e s m args below meth c s₁ B hml hv
  obtain ⟨rfl, hP, hK⟩ := hv
  have cx : zX RX8 cX8_clear 1 p s m ([.ref (q a0)]).toArray c D cy := ⟨B.exec, B.bytes, hml, findClass_of_methodNamed B.named, fun w hw => atoms_spec (ws := Cond.code yX8_clear cX8_clear 1 none :: zTB) B.pre w (List.mem_cons_of_mem _ hw), hK⟩
  have hx := cx.1
  have hb := cx.2.1
  have hr := B.returns
  have hlk := B.notSynchronized
  have hS : va_S A s.heap s.heap [] := va_S.rf
  have hl := lv_entry ([.ref (q a0)]) (n := 1) (Nat.le_of_ble_eq_true rfl)
  rw [lg_entry_eq]
  generalize (lg_sl ([.ref (q a0)]) ++ List.replicate (1 - (lg_sl ([.ref (q a0)])).length) Slot.unset).toArray = ls at hl ⊢
  have hl : lv_has ls 1 [(0, .ref (q a0))] := hl
  unfold fX8_clear at h
  refine lv_aload_n (pc := 0) hx hb dX8_clear_0 rfl (lv_at hl 0 rfl) ?_
  refine lv_iconst (pc := 1) hx hb dX8_clear_1 zc_0 ?_
  obtain ⟨S1, eS1, h⟩ := zLt_e h
  refine zr_putI (pc := 2) cx lq_X8_24 hq hP hS (nX8_0 ha0) (sX8_0 ha0) rfl rfl rfl dX8_clear_2 (fun H locs hP hS => ?_)
  rw [← eS1] at hP
  refine lv_aload_n (pc := 5) hx hb dX8_clear_5 rfl (lv_at hl 0 rfl) ?_
  refine lv_iconst (pc := 6) hx hb dX8_clear_6 zc_0 ?_
  obtain ⟨S2, eS2, h⟩ := zLt_e h
  refine zr_putI (pc := 7) cx lq_X8_28 hq hP hS (nX8_0 ha0) (sX8_0 ha0) rfl rfl rfl dX8_clear_7 (fun H locs hP hS => ?_)
  rw [← eS2] at hP
  have hz := Option.some.inj h
  exact zr_rqV (pc := 10) cx hr hlk hP hS hz dX8_clear_10
-- X9_takeSign
abbrev rmX9_takeSign : Room := { frames := 2, cells := 0, slots := 0, locals := 46 }
def fX9_takeSign_31 (S : zSt)  (v1 : Int32) : Option (Int32 × zSt) :=
  zBd (fX9_read S) (fun S4 => some (v1, S4))
set_option maxHeartbeats 4000000 in
set_option maxRecDepth 100000 in
theorem kX9_takeSign_31 {p : Program} {l : Launch} {e : Env} {s : State} {m : MethodId} {args : Array Value} {below : List Frame} {meth : Method} {c : Code} {D : va_G} {cy : Nat → ClassId} {q : Nat → Nat} {A : Nat → Prop} (cx : zX RX9 cX9_takeSign 2 p s m args c D cy) (hr : meth.sig.returnType = (some .int)) (hlk : meth.locks = false) (hq : zQ A q zNC) {z : (Int32 × zSt)} {S : zSt} {v1 : Int32} (h : fX9_takeSign_31 S v1 = some z) {H : Heap} {locs : List Loc} (hP : va_P D vwCl (zW zsh zNC cy q S) H) (hS : va_S A s.heap H locs) {ls : Array Slot} (hl : lv_has ls 2 [(0, .ref (q 1)), (1, .int v1)]) : W p l e rmX9_takeSign s m args below meth c H locs 0 0 (MQ below (va_Qi (fun (r : Int32) (u : zSt) => (r, u) = z) (fun u t => va_P D vwCl (zW zsh zNC cy q u) t.heap) A) args s 0 0 A) (F0 m 31 ls []) := by
  have hx := cx.1
  have hb := cx.2.1
  unfold fX9_takeSign_31 at h
  refine lv_aload_n (pc := 31) hx hb dX9_takeSign_31 rfl (lv_at hl 0 rfl) ?_
  obtain ⟨S4, k3, h⟩ := zBd_e h
  refine zr_VV (pc := 32) (rest := []) cx cv_X9_46 (mX9_read hq k3) ⟨⟨rfl, rfl⟩, Nat.le_of_ble_eq_true rfl, Nat.le_of_ble_eq_true rfl⟩ ⟨Nat.le_of_ble_eq_true rfl, Nat.le_of_ble_eq_true rfl⟩ hP hS nC_1 sC_1 rfl hl.1 rfl rfl (Nat.le_of_ble_eq_true rfl) dX9_takeSign_32 (fun H locs hP hS => ?_)
  refine lv_iload_n (pc := 35) hx hb dX9_takeSign_35 rfl (lv_at hl 1 rfl) ?_
  have hz := Option.some.inj h
  exact zr_rqI (pc := 36) cx hr hlk hP hS hz dX9_takeSign_36
def fX9_takeSign (S : zSt) : Option (Int32 × zSt) :=
  zLt (S.1 1 5) (fun x1 => zBr (x1 = (60 : Int32)) (fX9_takeSign_31 S x1) (zBr (x1 = (61 : Int32)) (fX9_takeSign_31 S x1) (zBr (x1 = (62 : Int32)) (fX9_takeSign_31 S x1) (zBp (fX9_fail S (1 : Int32)) (fun r9 S8 => some ((-1 : Int32), S8))))))
set_option maxHeartbeats 4000000 in
set_option maxRecDepth 100000 in
theorem mX9_takeSign {l : Launch} {D : va_G} {cy : Nat → ClassId} {q : Nat → Nat} {A : Nat → Prop} {S : zSt} (hq : zQ A q zNC) {z : (Int32 × zSt)} (h : fX9_takeSign S = some z) : zMq l yX9_takeSign cX9_takeSign 2 (some .int) rmX9_takeSign [.ref (q 1)] zsh zNC D cy q A S z := by
  refine Met.ofW (cc := cX9_takeSign) (maxL := 2) (ret := (some .int)) (by decide) rfl ?_
  intro p e s m args below meth c s₁ B hml hv
  obtain ⟨rfl, hP, hK⟩ := hv
  have cx : zX RX9 cX9_takeSign 2 p s m ([.ref (q 1)]).toArray c D cy := ⟨B.exec, B.bytes, hml, findClass_of_methodNamed B.named, fun w hw => atoms_spec (ws := Cond.code yX9_takeSign cX9_takeSign 2 (some .int) :: zTB) B.pre w (List.mem_cons_of_mem _ hw), hK⟩
  have hx := cx.1
  have hb := cx.2.1
  have hr := B.returns
  have hlk := B.notSynchronized
  have hS : va_S A s.heap s.heap [] := va_S.rf
  have hl := lv_entry ([.ref (q 1)]) (n := 2) (Nat.le_of_ble_eq_true rfl)
  rw [lg_entry_eq]
  generalize (lg_sl ([.ref (q 1)]) ++ List.replicate (2 - (lg_sl ([.ref (q 1)])).length) Slot.unset).toArray = ls at hl ⊢
  have hl : lv_has ls 2 [(0, .ref (q 1))] := hl
  unfold fX9_takeSign at h
  refine lv_aload_n (pc := 0) hx hb dX9_takeSign_0 rfl (lv_at hl 0 rfl) ?_
  refine zr_getI (pc := 1) cx lk_X9_58 hP nC_1 sC_1 rfl dX9_takeSign_1 ?_
  obtain ⟨x1, ex1, h⟩ := zLt_e h
  refine zr_nmI ex1 ?_
  refine lv_istore_n (lv' := [(1, .int x1), (0, .ref (q 1))]) (pc := 4) hx hb dX9_takeSign_4 rfl hl (by decide) rfl (fun ls hl => ?_)
  refine lv_iload_n (pc := 5) hx hb dX9_takeSign_5 rfl (lv_at hl 0 rfl) ?_
  refine lv_bipush (pc := 6) hx hb dX9_takeSign_6 zb_60 ?_
  refine lv_icmp_eq (pc := 8) (tgt := 31) hx hb dX9_takeSign_8 (by decide) (fun c2 => ?_) (fun c2 => ?_)
  · replace h := zBr_t c2 h
    exact kX9_takeSign_31 cx hr hlk hq h hP hS (lv_sub hl [1, 0] rfl)
  · replace h := zBr_f c2 h
    refine lv_iload_n (pc := 11) hx hb dX9_takeSign_11 rfl (lv_at hl 0 rfl) ?_
    refine lv_bipush (pc := 12) hx hb dX9_takeSign_12 zb_61 ?_
    refine lv_icmp_eq (pc := 14) (tgt := 31) hx hb dX9_takeSign_14 (by decide) (fun c5 => ?_) (fun c5 => ?_)
    · replace h := zBr_t c5 h
      exact kX9_takeSign_31 cx hr hlk hq h hP hS (lv_sub hl [1, 0] rfl)
    · replace h := zBr_f c5 h
      refine lv_iload_n (pc := 17) hx hb dX9_takeSign_17 rfl (lv_at hl 0 rfl) ?_
      refine lv_bipush (pc := 18) hx hb dX9_takeSign_18 zb_62 ?_
      refine lv_icmp_eq (pc := 20) (tgt := 31) hx hb dX9_takeSign_20 (by decide) (fun c6 => ?_) (fun c6 => ?_)
      · replace h := zBr_t c6 h
        exact kX9_takeSign_31 cx hr hlk hq h hP hS (lv_sub hl [1, 0] rfl)
      · replace h := zBr_f c6 h
        refine lv_aload_n (pc := 23) hx hb dX9_takeSign_23 rfl (lv_at hl 1 rfl) ?_
        refine lv_iconst (pc := 24) hx hb dX9_takeSign_24 zc_1 ?_
        obtain ⟨r9, S8, k7, h⟩ := zBp_e h
        refine zr_VQ (pc := 25) (rest := []) cx cv_X9_75 (mX9_fail hq k7) ⟨⟨rfl, rfl⟩, Nat.le_of_ble_eq_true rfl, Nat.le_of_ble_eq_true rfl⟩ ⟨Nat.le_of_ble_eq_true rfl, Nat.le_of_ble_eq_true rfl⟩ hP hS nC_1 sC_1 rfl hl.1 rfl rfl (Nat.le_of_ble_eq_true rfl) dX9_takeSign_25 (fun H locs hP hS => ?_)
        refine lv_pop (pc := 28) hx hb dX9_takeSign_28 rfl ?_
        refine lv_iconst (pc := 29) hx hb dX9_takeSign_29 zc_m1 ?_
        have hz := Option.some.inj h
        exact zr_rqI (pc := 30) cx hr hlk hP hS hz dX9_takeSign_30
-- X12_isIn
abbrev rmX12_isIn : Room := { frames := 0, cells := 0, slots := 0, locals := 0 }
def fX12_isIn (v0 : Int32) (v1 : Int32) (v2 : Int32) : Option Int32 :=
  zBr (v0 < v1) (some (0 : Int32)) (zBr (v2 < v0) (some (0 : Int32)) (some (1 : Int32)))
set_option maxHeartbeats 4000000 in
set_option maxRecDepth 100000 in
theorem mX12_isIn {l : Launch} {D : va_G} {cy : Nat → ClassId} {v0 : Int32} {v1 : Int32} {v2 : Int32} {z : Int32} (h : fX12_isIn v0 v1 v2 = some z) : zMi l yX12_isIn cX12_isIn 3 (some .boolean) rmX12_isIn [.int v0, .int v1, .int v2] (zPk D cy) z := by
  refine Met.ofW (cc := cX12_isIn) (maxL := 3) (ret := (some .boolean)) (by decide) rfl ?_
  intro p e s m args below meth c s₁ B hml hv
  obtain ⟨rfl, hK⟩ := hv
  have cx : zX RX12 cX12_isIn 3 p s m ([.int v0, .int v1, .int v2]).toArray c D cy := ⟨B.exec, B.bytes, hml, findClass_of_methodNamed B.named, fun w hw => atoms_spec (ws := Cond.code yX12_isIn cX12_isIn 3 (some .boolean) :: zTB) B.pre w (List.mem_cons_of_mem _ hw), hK⟩
  have hx := cx.1
  have hb := cx.2.1
  have hr := B.returns
  have hlk := B.notSynchronized
  have hl := lv_entry ([.int v0, .int v1, .int v2]) (n := 3) (Nat.le_of_ble_eq_true rfl)
  rw [lg_entry_eq]
  generalize (lg_sl ([.int v0, .int v1, .int v2]) ++ List.replicate (3 - (lg_sl ([.int v0, .int v1, .int v2])).length) Slot.unset).toArray = ls at hl ⊢
  have hl : lv_has ls 3 [(0, .int v0), (1, .int v1), (2, .int v2)] := hl
  unfold fX12_isIn at h
  refine lv_iload_n (pc := 0) hx hb dX12_isIn_0 rfl (lv_at hl 0 rfl) ?_
  refine lv_iload_n (pc := 1) hx hb dX12_isIn_1 rfl (lv_at hl 1 rfl) ?_
  refine lv_icmp_lt (pc := 2) (tgt := 14) hx hb dX12_isIn_2 (by decide) (fun c1 => ?_) (fun c1 => ?_)
  · replace h := zBr_t c1 h
    refine lv_iconst (pc := 14) hx hb dX12_isIn_14 zc_0 ?_
    have hz := Option.some.inj h
    exact zr_reZ (pc := 15) cx hr hlk hz (by decide) dX12_isIn_15
  · replace h := zBr_f c1 h
    refine lv_iload_n (pc := 5) hx hb dX12_isIn_5 rfl (lv_at hl 0 rfl) ?_
    refine lv_iload_n (pc := 6) hx hb dX12_isIn_6 rfl (lv_at hl 2 rfl) ?_
    refine lv_icmp_gt (pc := 7) (tgt := 14) hx hb dX12_isIn_7 (by decide) (fun c2 => ?_) (fun c2 => ?_)
    · replace h := zBr_t c2 h
      refine lv_iconst (pc := 14) hx hb dX12_isIn_14 zc_0 ?_
      have hz := Option.some.inj h
      exact zr_reZ (pc := 15) cx hr hlk hz (by decide) dX12_isIn_15
    · replace h := zBr_f c2 h
      refine lv_iconst (pc := 10) hx hb dX12_isIn_10 zc_1 ?_
      refine lv_goto (pc := 11) (tgt := 15) hx hb dX12_isIn_11 (by decide) ?_
      have hz := Option.some.inj h
      exact zr_reZ (pc := 15) cx hr hlk hz (by decide) dX12_isIn_15
-- X12_isAct
abbrev rmX12_isAct : Room := { frames := 1, cells := 0, slots := 0, locals := 22 }
def fX12_isAct (S : zSt) (v1 : Int32) : Option Int32 :=
  zGd (zIx (25 : Int32) 406) (zBd (fX12_isIn v1 (0 : Int32) ((S.1 2 (25 : Int32).toNatClampNeg) - (1 : Int32))) (fun r3 => zGd (zBo r3) (some r3)))
set_option maxHeartbeats 4000000 in
set_option maxRecDepth 100000 in
theorem mX12_isAct {l : Launch} {D : va_G} {cy : Nat → ClassId} {q : Nat → Nat} {S : zSt} {v1 : Int32} {z : Int32} (h : fX12_isAct S v1 = some z) : zMi l yX12_isAct cX12_isAct 2 (some .boolean) rmX12_isAct [.ref (q 0), .int v1] (zPr zshM zNM D cy q S) z := by
  refine Met.ofW (cc := cX12_isAct) (maxL := 2) (ret := (some .boolean)) (by decide) rfl ?_
  intro p e s m args below meth c s₁ B hml hv
  obtain ⟨rfl, hP, hK⟩ := hv
  have cx : zX RX12 cX12_isAct 2 p s m ([.ref (q 0), .int v1]).toArray c D cy := ⟨B.exec, B.bytes, hml, findClass_of_methodNamed B.named, fun w hw => atoms_spec (ws := Cond.code yX12_isAct cX12_isAct 2 (some .boolean) :: zTB) B.pre w (List.mem_cons_of_mem _ hw), hK⟩
  have hx := cx.1
  have hb := cx.2.1
  have hr := B.returns
  have hlk := B.notSynchronized
  have hl := lv_entry ([.ref (q 0), .int v1]) (n := 2) (Nat.le_of_ble_eq_true rfl)
  rw [lg_entry_eq]
  generalize (lg_sl ([.ref (q 0), .int v1]) ++ List.replicate (2 - (lg_sl ([.ref (q 0), .int v1])).length) Slot.unset).toArray = ls at hl ⊢
  have hl : lv_has ls 2 [(0, .ref (q 0)), (1, .int v1)] := hl
  unfold fX12_isAct at h
  refine lv_iload_n (pc := 0) hx hb dX12_isAct_0 rfl (lv_at hl 1 rfl) ?_
  refine lv_iconst (pc := 1) hx hb dX12_isAct_1 zc_0 ?_
  refine lv_aload_n (pc := 2) hx hb dX12_isAct_2 rfl (lv_at hl 0 rfl) ?_
  refine zr_getR (pc := 3) (t := 2) cx lk_X12_98 hP nM_0 sM_0 rfl dX12_isAct_3 ?_
  refine lv_bipush (pc := 6) hx hb dX12_isAct_6 zb_25 ?_
  obtain ⟨g1, h⟩ := zGd_e h
  refine zr_iald (pc := 8) cx hP nM_2 sM_2 g1 dX12_isAct_8 ?_
  refine lv_iconst (pc := 9) hx hb dX12_isAct_9 zc_1 ?_
  refine lv_isub (pc := 10) hx hb dX12_isAct_10 ?_
  obtain ⟨r3, k2, h⟩ := zBd_e h
  refine zr_SI (pc := 11) (rest := []) cx cv_X12_75 (mX12_isIn k2) ⟨⟨rfl, rfl⟩, Nat.le_of_ble_eq_true rfl, Nat.le_of_ble_eq_true rfl⟩ ⟨Nat.le_of_ble_eq_true rfl, Nat.le_of_ble_eq_true rfl⟩ (zr_preK cx) hl.1 rfl rfl (Nat.le_of_ble_eq_true rfl) dX12_isAct_11 ?_
  obtain ⟨g4, h⟩ := zGd_e h
  have hz := Option.some.inj h
  exact zr_reZ (pc := 14) cx hr hlk hz g4 dX12_isAct_14
-- X12_bits
abbrev rmX12_bits : Room := { frames := 0, cells := 0, slots := 0, locals := 0 }
def fX12_bits_4  (t : (Int32 × Int32)) : Option ((Int32 × Int32) ⊕ Int32) :=
  match t with
  | (v1, v2) => zBr (v2 = 0) (zXr (some v1)) (zLt (v1 + (1 : Int32)) (fun x3 => zLt (v2 &&& (v2 - (1 : Int32))) (fun x4 => some (.inl (x3, x4)))))
set_option maxHeartbeats 4000000 in
set_option maxRecDepth 100000 in
theorem kX12_bits_4B {p : Program} {l : Launch} {e : Env} {s : State} {m : MethodId} {args : Array Value} {below : List Frame} {meth : Method} {c : Code} {D : va_G} {cy : Nat → ClassId} (cx : zX RX12 cX12_bits 3 p s m args c D cy) (hr : meth.sig.returnType = (some .int)) (hlk : meth.locks = false) {z : Int32} {v1 : Int32} {v2 : Int32} {C1 : ((Int32 × Int32) ⊕ Int32) → Prop} (hb1 : ∀ (v1 : Int32) (v2 : Int32), C1 (.inl (v1, v2)) → ∀ (ls : Array Slot), lv_has ls 3 [(1, .int v1), (2, .int v2)] → W p l e rmX12_bits s m args below meth c s.heap [] 0 0 (MQ below (vp_Si (fun x => x = z)) args s 0 0 (fun _ => False)) (F0 m 4 ls [])) (hx1 : ∀ a, C1 (.inr a) → a = z) {x : ((Int32 × Int32) ⊕ Int32)} (h : fX12_bits_4 (v1, v2) = some x) (hc : C1 x) {ls : Array Slot} (hl : lv_has ls 3 [(1, .int v1), (2, .int v2)]) : W p l e rmX12_bits s m args below meth c s.heap [] 0 0 (MQ below (vp_Si (fun x => x = z)) args s 0 0 (fun _ => False)) (F0 m 4 ls []) := by
  have hx := cx.1
  have hb := cx.2.1
  unfold fX12_bits_4 at h
  dsimp only at h
  refine lv_iload_n (pc := 4) hx hb dX12_bits_4 rfl (lv_at hl 1 rfl) ?_
  refine lv_if_eq (pc := 5) (tgt := 20) hx hb dX12_bits_5 (by decide) (fun c1 => ?_) (fun c1 => ?_)
  · replace h := zBr_t c1 h
    obtain ⟨y2, h, ex⟩ := zXr_e h
    have hc := hx1 y2 (by rw [ex] at hc; exact hc)
    rw [hc] at h
    refine lv_iload_n (pc := 20) hx hb dX12_bits_20 rfl (lv_at hl 0 rfl) ?_
    have hz := Option.some.inj h
    exact zr_reI (pc := 21) cx hr hlk hz dX12_bits_21
  · replace h := zBr_f c1 h
    obtain ⟨x3, ex3, h⟩ := zLt_e h
    refine lv_iinc (v := x3) (lv' := [(1, .int x3), (2, .int v2)]) (pc := 8) hx hb dX12_bits_8 hl (k := 0) rfl (by rw [zc_1]; exact ex3.symm) (by decide) rfl (fun ls hl => ?_)
    refine lv_iload_n (pc := 11) hx hb dX12_bits_11 rfl (lv_at hl 1 rfl) ?_
    refine lv_iload_n (pc := 12) hx hb dX12_bits_12 rfl (lv_at hl 1 rfl) ?_
    refine lv_iconst (pc := 13) hx hb dX12_bits_13 zc_1 ?_
    refine lv_isub (pc := 14) hx hb dX12_bits_14 ?_
    refine lv_iand (pc := 15) hx hb dX12_bits_15 ?_
    obtain ⟨x4, ex4, h⟩ := zLt_e h
    refine zr_nmI ex4 ?_
    refine lv_istore_n (lv' := [(2, .int x4), (1, .int x3)]) (pc := 16) hx hb dX12_bits_16 rfl hl (by decide) rfl (fun ls hl => ?_)
    refine lv_goto (pc := 17) (tgt := 4) hx hb dX12_bits_17 (by decide) ?_
    cases h
    exact hb1 _ _ hc _ (lv_sub hl [1, 0] rfl)
set_option maxHeartbeats 4000000 in
set_option maxRecDepth 100000 in
theorem kX12_bits_4 {p : Program} {l : Launch} {e : Env} {s : State} {m : MethodId} {args : Array Value} {below : List Frame} {meth : Method} {c : Code} {D : va_G} {cy : Nat → ClassId} (cx : zX RX12 cX12_bits 3 p s m args c D cy) (hr : meth.sig.returnType = (some .int)) (hlk : meth.locks = false) {z : Int32} : ∀ (n : Nat) (v1 : Int32) (v2 : Int32), zLp (fX12_bits_4) n (v1, v2) = some z → ∀ (ls : Array Slot), lv_has ls 3 [(1, .int v1), (2, .int v2)] → W p l e rmX12_bits s m args below meth c s.heap [] 0 0 (MQ below (vp_Si (fun x => x = z)) args s 0 0 (fun _ => False)) (F0 m 4 ls []) := by
  intro n
  induction n with
  | zero =>
    intro v1 v2 h
    cases h
  | succ n ih =>
    intro v1 v2 h ls hl
    obtain ⟨x, h, hk⟩ := zLp_e h
    exact kX12_bits_4B cx hr hlk  (C1 := zKt (fun t => zLp (fX12_bits_4) n t = some z) (fun a => a = z)) (fun v1 v2 ht ls hl => ih v1 v2 ht ls hl) (fun a ha => ha) h hk hl
def fX12_bits (v0 : Int32) : Option Int32 :=
  zLp (fX12_bits_4) 2000 ((0 : Int32), v0)
set_option maxHeartbeats 4000000 in
set_option maxRecDepth 100000 in
theorem mX12_bits {l : Launch} {D : va_G} {cy : Nat → ClassId} {v0 : Int32} {z : Int32} (h : fX12_bits v0 = some z) : zMi l yX12_bits cX12_bits 3 (some .int) rmX12_bits [.int v0] (zPk D cy) z := by
  refine Met.ofW (cc := cX12_bits) (maxL := 3) (ret := (some .int)) (by decide) rfl ?_
  intro p e s m args below meth c s₁ B hml hv
  obtain ⟨rfl, hK⟩ := hv
  have cx : zX RX12 cX12_bits 3 p s m ([.int v0]).toArray c D cy := ⟨B.exec, B.bytes, hml, findClass_of_methodNamed B.named, fun w hw => atoms_spec (ws := Cond.code yX12_bits cX12_bits 3 (some .int) :: zTB) B.pre w (List.mem_cons_of_mem _ hw), hK⟩
  have hx := cx.1
  have hb := cx.2.1
  have hr := B.returns
  have hlk := B.notSynchronized
  have hl := lv_entry ([.int v0]) (n := 3) (Nat.le_of_ble_eq_true rfl)
  rw [lg_entry_eq]
  generalize (lg_sl ([.int v0]) ++ List.replicate (3 - (lg_sl ([.int v0])).length) Slot.unset).toArray = ls at hl ⊢
  have hl : lv_has ls 3 [(0, .int v0)] := hl
  unfold fX12_bits at h
  refine lv_iconst (pc := 0) hx hb dX12_bits_0 zc_0 ?_
  refine lv_istore_n (lv' := [(1, .int (0 : Int32)), (0, .int v0)]) (pc := 1) hx hb dX12_bits_1 rfl hl (by decide) rfl (fun ls hl => ?_)
  refine lv_iload_n (pc := 2) hx hb dX12_bits_2 rfl (lv_at hl 1 rfl) ?_
  refine lv_istore_n (lv' := [(2, .int v0), (1, .int (0 : Int32)), (0, .int v0)]) (pc := 3) hx hb dX12_bits_3 rfl hl (by decide) rfl (fun ls hl => ?_)
  exact kX12_bits_4 cx hr hlk 2000 _ _ h _ (lv_sub hl [1, 0] rfl)
-- X12_leafOf
abbrev rmX12_leafOf : Room := { frames := 0, cells := 0, slots := 0, locals := 0 }
def fX12_leafOf (S : zSt) (v1 : Int32) (v2 : Int32) : Option Int32 :=
  zGd (zIx (((86 : Int32) + ((12 : Int32) * v1)) + v2) 406) (some (S.1 2 (((86 : Int32) + ((12 : Int32) * v1)) + v2).toNatClampNeg))
set_option maxHeartbeats 4000000 in
set_option maxRecDepth 100000 in
theorem mX12_leafOf {l : Launch} {D : va_G} {cy : Nat → ClassId} {q : Nat → Nat} {S : zSt} {v1 : Int32} {v2 : Int32} {z : Int32} (h : fX12_leafOf S v1 v2 = some z) : zMi l yX12_leafOf cX12_leafOf 3 (some .int) rmX12_leafOf [.ref (q 0), .int v1, .int v2] (zPr zshM zNM D cy q S) z := by
  refine Met.ofW (cc := cX12_leafOf) (maxL := 3) (ret := (some .int)) (by decide) rfl ?_
  intro p e s m args below meth c s₁ B hml hv
  obtain ⟨rfl, hP, hK⟩ := hv
  have cx : zX RX12 cX12_leafOf 3 p s m ([.ref (q 0), .int v1, .int v2]).toArray c D cy := ⟨B.exec, B.bytes, hml, findClass_of_methodNamed B.named, fun w hw => atoms_spec (ws := Cond.code yX12_leafOf cX12_leafOf 3 (some .int) :: zTB) B.pre w (List.mem_cons_of_mem _ hw), hK⟩
  have hx := cx.1
  have hb := cx.2.1
  have hr := B.returns
  have hlk := B.notSynchronized
  have hl := lv_entry ([.ref (q 0), .int v1, .int v2]) (n := 3) (Nat.le_of_ble_eq_true rfl)
  rw [lg_entry_eq]
  generalize (lg_sl ([.ref (q 0), .int v1, .int v2]) ++ List.replicate (3 - (lg_sl ([.ref (q 0), .int v1, .int v2])).length) Slot.unset).toArray = ls at hl ⊢
  have hl : lv_has ls 3 [(0, .ref (q 0)), (1, .int v1), (2, .int v2)] := hl
  unfold fX12_leafOf at h
  refine lv_aload_n (pc := 0) hx hb dX12_leafOf_0 rfl (lv_at hl 0 rfl) ?_
  refine zr_getR (pc := 1) (t := 2) cx lk_X12_98 hP nM_0 sM_0 rfl dX12_leafOf_1 ?_
  refine lv_bipush (pc := 4) hx hb dX12_leafOf_4 zb_86 ?_
  refine lv_bipush (pc := 6) hx hb dX12_leafOf_6 zb_12 ?_
  refine lv_iload_n (pc := 8) hx hb dX12_leafOf_8 rfl (lv_at hl 1 rfl) ?_
  refine lv_imul (pc := 9) hx hb dX12_leafOf_9 ?_
  refine lv_iadd (pc := 10) hx hb dX12_leafOf_10 ?_
  refine lv_iload_n (pc := 11) hx hb dX12_leafOf_11 rfl (lv_at hl 2 rfl) ?_
  refine lv_iadd (pc := 12) hx hb dX12_leafOf_12 ?_
  obtain ⟨g1, h⟩ := zGd_e h
  refine zr_iald (pc := 13) cx hP nM_2 sM_2 g1 dX12_leafOf_13 ?_
  have hz := Option.some.inj h
  exact zr_reI (pc := 14) cx hr hlk hz dX12_leafOf_14
-- X12_hasCome
abbrev rmX12_hasCome : Room := { frames := 1, cells := 0, slots := 0, locals := 22 }
def fX12_hasCome (S : zSt) (v1 : Int32) (v2 : Int32) : Option Int32 :=
  zBd (fX12_leafOf S v1 v2) (fun r2 => zBr (r2 = (-1 : Int32)) (some (0 : Int32)) (zBd (fX12_leafOf S v1 v2) (fun r5 => zGd (zIx (24 : Int32) 406) (zBr ((S.1 2 (24 : Int32).toNatClampNeg) < r5) (some (0 : Int32)) (some (1 : Int32))))))
set_option maxHeartbeats 4000000 in
set_option maxRecDepth 100000 in
theorem mX12_hasCome {l : Launch} {D : va_G} {cy : Nat → ClassId} {q : Nat → Nat} {S : zSt} {v1 : Int32} {v2 : Int32} {z : Int32} (h : fX12_hasCome S v1 v2 = some z) : zMi l yX12_hasCome cX12_hasCome 3 (some .boolean) rmX12_hasCome [.ref (q 0), .int v1, .int v2] (zPr zshM zNM D cy q S) z := by
  refine Met.ofW (cc := cX12_hasCome) (maxL := 3) (ret := (some .boolean)) (by decide) rfl ?_
  intro p e s m args below meth c s₁ B hml hv
  obtain ⟨rfl, hP, hK⟩ := hv
  have cx : zX RX12 cX12_hasCome 3 p s m ([.ref (q 0), .int v1, .int v2]).toArray c D cy := ⟨B.exec, B.bytes, hml, findClass_of_methodNamed B.named, fun w hw => atoms_spec (ws := Cond.code yX12_hasCome cX12_hasCome 3 (some .boolean) :: zTB) B.pre w (List.mem_cons_of_mem _ hw), hK⟩
  have hx := cx.1
  have hb := cx.2.1
  have hr := B.returns
  have hlk := B.notSynchronized
  have hl := lv_entry ([.ref (q 0), .int v1, .int v2]) (n := 3) (Nat.le_of_ble_eq_true rfl)
  rw [lg_entry_eq]
  generalize (lg_sl ([.ref (q 0), .int v1, .int v2]) ++ List.replicate (3 - (lg_sl ([.ref (q 0), .int v1, .int v2])).length) Slot.unset).toArray = ls at hl ⊢
  have hl : lv_has ls 3 [(0, .ref (q 0)), (1, .int v1), (2, .int v2)] := hl
  unfold fX12_hasCome at h
  refine lv_aload_n (pc := 0) hx hb dX12_hasCome_0 rfl (lv_at hl 0 rfl) ?_
  refine lv_iload_n (pc := 1) hx hb dX12_hasCome_1 rfl (lv_at hl 1 rfl) ?_
  refine lv_iload_n (pc := 2) hx hb dX12_hasCome_2 rfl (lv_at hl 2 rfl) ?_
  obtain ⟨r2, k1, h⟩ := zBd_e h
  refine zr_VI (pc := 3) (rest := []) cx cv_X12_224 (mX12_leafOf k1) ⟨⟨rfl, rfl⟩, Nat.le_of_ble_eq_true rfl, Nat.le_of_ble_eq_true rfl⟩ ⟨Nat.le_of_ble_eq_true rfl, Nat.le_of_ble_eq_true rfl⟩ hP nM_0 sM_0 rfl hl.1 rfl rfl (Nat.le_of_ble_eq_true rfl) dX12_hasCome_3 ?_
  refine lv_iconst (pc := 6) hx hb dX12_hasCome_6 zc_m1 ?_
  refine lv_icmp_eq (pc := 7) (tgt := 30) hx hb dX12_hasCome_7 (by decide) (fun c3 => ?_) (fun c3 => ?_)
  · replace h := zBr_t c3 h
    refine lv_iconst (pc := 30) hx hb dX12_hasCome_30 zc_0 ?_
    have hz := Option.some.inj h
    exact zr_reZ (pc := 31) cx hr hlk hz (by decide) dX12_hasCome_31
  · replace h := zBr_f c3 h
    refine lv_aload_n (pc := 10) hx hb dX12_hasCome_10 rfl (lv_at hl 0 rfl) ?_
    refine lv_iload_n (pc := 11) hx hb dX12_hasCome_11 rfl (lv_at hl 1 rfl) ?_
    refine lv_iload_n (pc := 12) hx hb dX12_hasCome_12 rfl (lv_at hl 2 rfl) ?_
    obtain ⟨r5, k4, h⟩ := zBd_e h
    refine zr_VI (pc := 13) (rest := []) cx cv_X12_224 (mX12_leafOf k4) ⟨⟨rfl, rfl⟩, Nat.le_of_ble_eq_true rfl, Nat.le_of_ble_eq_true rfl⟩ ⟨Nat.le_of_ble_eq_true rfl, Nat.le_of_ble_eq_true rfl⟩ hP nM_0 sM_0 rfl hl.1 rfl rfl (Nat.le_of_ble_eq_true rfl) dX12_hasCome_13 ?_
    refine lv_aload_n (pc := 16) hx hb dX12_hasCome_16 rfl (lv_at hl 0 rfl) ?_
    refine zr_getR (pc := 17) (t := 2) cx lk_X12_98 hP nM_0 sM_0 rfl dX12_hasCome_17 ?_
    refine lv_bipush (pc := 20) hx hb dX12_hasCome_20 zb_24 ?_
    obtain ⟨g6, h⟩ := zGd_e h
    refine zr_iald (pc := 22) cx hP nM_2 sM_2 g6 dX12_hasCome_22 ?_
    refine lv_icmp_gt (pc := 23) (tgt := 30) hx hb dX12_hasCome_23 (by decide) (fun c7 => ?_) (fun c7 => ?_)
    · replace h := zBr_t c7 h
      refine lv_iconst (pc := 30) hx hb dX12_hasCome_30 zc_0 ?_
      have hz := Option.some.inj h
      exact zr_reZ (pc := 31) cx hr hlk hz (by decide) dX12_hasCome_31
    · replace h := zBr_f c7 h
      refine lv_iconst (pc := 26) hx hb dX12_hasCome_26 zc_1 ?_
      refine lv_goto (pc := 27) (tgt := 31) hx hb dX12_hasCome_27 (by decide) ?_
      have hz := Option.some.inj h
      exact zr_reZ (pc := 31) cx hr hlk hz (by decide) dX12_hasCome_31
-- X12_willCome
abbrev rmX12_willCome : Room := { frames := 1, cells := 0, slots := 0, locals := 22 }
def fX12_willCome (S : zSt) (v1 : Int32) (v2 : Int32) : Option Int32 :=
  zBd (fX12_leafOf S v1 v2) (fun r2 => zGd (zIx (24 : Int32) 406) (zBr (r2 ≤ (S.1 2 (24 : Int32).toNatClampNeg)) (some (0 : Int32)) (some (1 : Int32))))
set_option maxHeartbeats 4000000 in
set_option maxRecDepth 100000 in
theorem mX12_willCome {l : Launch} {D : va_G} {cy : Nat → ClassId} {q : Nat → Nat} {S : zSt} {v1 : Int32} {v2 : Int32} {z : Int32} (h : fX12_willCome S v1 v2 = some z) : zMi l yX12_willCome cX12_willCome 3 (some .boolean) rmX12_willCome [.ref (q 0), .int v1, .int v2] (zPr zshM zNM D cy q S) z := by
  refine Met.ofW (cc := cX12_willCome) (maxL := 3) (ret := (some .boolean)) (by decide) rfl ?_
  intro p e s m args below meth c s₁ B hml hv
  obtain ⟨rfl, hP, hK⟩ := hv
  have cx : zX RX12 cX12_willCome 3 p s m ([.ref (q 0), .int v1, .int v2]).toArray c D cy := ⟨B.exec, B.bytes, hml, findClass_of_methodNamed B.named, fun w hw => atoms_spec (ws := Cond.code yX12_willCome cX12_willCome 3 (some .boolean) :: zTB) B.pre w (List.mem_cons_of_mem _ hw), hK⟩
  have hx := cx.1
  have hb := cx.2.1
  have hr := B.returns
  have hlk := B.notSynchronized
  have hl := lv_entry ([.ref (q 0), .int v1, .int v2]) (n := 3) (Nat.le_of_ble_eq_true rfl)
  rw [lg_entry_eq]
  generalize (lg_sl ([.ref (q 0), .int v1, .int v2]) ++ List.replicate (3 - (lg_sl ([.ref (q 0), .int v1, .int v2])).length) Slot.unset).toArray = ls at hl ⊢
  have hl : lv_has ls 3 [(0, .ref (q 0)), (1, .int v1), (2, .int v2)] := hl
  unfold fX12_willCome at h
  refine lv_aload_n (pc := 0) hx hb dX12_willCome_0 rfl (lv_at hl 0 rfl) ?_
  refine lv_iload_n (pc := 1) hx hb dX12_willCome_1 rfl (lv_at hl 1 rfl) ?_
  refine lv_iload_n (pc := 2) hx hb dX12_willCome_2 rfl (lv_at hl 2 rfl) ?_
  obtain ⟨r2, k1, h⟩ := zBd_e h
  refine zr_VI (pc := 3) (rest := []) cx cv_X12_224 (mX12_leafOf k1) ⟨⟨rfl, rfl⟩, Nat.le_of_ble_eq_true rfl, Nat.le_of_ble_eq_true rfl⟩ ⟨Nat.le_of_ble_eq_true rfl, Nat.le_of_ble_eq_true rfl⟩ hP nM_0 sM_0 rfl hl.1 rfl rfl (Nat.le_of_ble_eq_true rfl) dX12_willCome_3 ?_
  refine lv_aload_n (pc := 6) hx hb dX12_willCome_6 rfl (lv_at hl 0 rfl) ?_
  refine zr_getR (pc := 7) (t := 2) cx lk_X12_98 hP nM_0 sM_0 rfl dX12_willCome_7 ?_
  refine lv_bipush (pc := 10) hx hb dX12_willCome_10 zb_24 ?_
  obtain ⟨g3, h⟩ := zGd_e h
  refine zr_iald (pc := 12) cx hP nM_2 sM_2 g3 dX12_willCome_12 ?_
  refine lv_icmp_le (pc := 13) (tgt := 20) hx hb dX12_willCome_13 (by decide) (fun c4 => ?_) (fun c4 => ?_)
  · replace h := zBr_t c4 h
    refine lv_iconst (pc := 20) hx hb dX12_willCome_20 zc_0 ?_
    have hz := Option.some.inj h
    exact zr_reZ (pc := 21) cx hr hlk hz (by decide) dX12_willCome_21
  · replace h := zBr_f c4 h
    refine lv_iconst (pc := 16) hx hb dX12_willCome_16 zc_1 ?_
    refine lv_goto (pc := 17) (tgt := 21) hx hb dX12_willCome_17 (by decide) ?_
    have hz := Option.some.inj h
    exact zr_reZ (pc := 21) cx hr hlk hz (by decide) dX12_willCome_21
-- X12_plantsFor
abbrev rmX12_plantsFor : Room := { frames := 2, cells := 0, slots := 0, locals := 44 }
def fX12_plantsFor_50 (S : zSt)  (v1 : Int32) (v2 : Int32) (v3 : Int32) (v4 : Int32) : Option ((Int32 × Int32) ⊕ Int32) :=
  zLt (v4 + (1 : Int32)) (fun x8 => some (.inl (v3, x8)))
set_option maxHeartbeats 4000000 in
set_option maxRecDepth 100000 in
theorem kX12_plantsFor_50 {p : Program} {l : Launch} {e : Env} {s : State} {m : MethodId} {args : Array Value} {below : List Frame} {meth : Method} {c : Code} {D : va_G} {cy : Nat → ClassId} {q : Nat → Nat} (cx : zX RX12 cX12_plantsFor 5 p s m args c D cy) (hr : meth.sig.returnType = (some .int)) (hlk : meth.locks = false) {z : Int32} {S : zSt} {v1 : Int32} {v2 : Int32} {v3 : Int32} {v4 : Int32} {C1 : ((Int32 × Int32) ⊕ Int32) → Prop} (hb1 : ∀ (v3 : Int32) (v4 : Int32), C1 (.inl (v3, v4)) → ∀ (ls : Array Slot), lv_has ls 5 [(0, .ref (q 0)), (1, .int v1), (2, .int v2), (3, .int v3), (4, .int v4)] → W p l e rmX12_plantsFor s m args below meth c s.heap [] 0 0 (MQ below (vp_Si (fun x => x = z)) args s 0 0 (fun _ => False)) (F0 m 5 ls [])) (hx1 : ∀ a, C1 (.inr a) → a = z) (hP : va_P D vwCl (zW zshM zNM cy q S) s.heap) {x : ((Int32 × Int32) ⊕ Int32)} (h : fX12_plantsFor_50 S v1 v2 v3 v4 = some x) (hc : C1 x) {ls : Array Slot} (hl : lv_has ls 5 [(0, .ref (q 0)), (1, .int v1), (2, .int v2), (3, .int v3), (4, .int v4)]) : W p l e rmX12_plantsFor s m args below meth c s.heap [] 0 0 (MQ below (vp_Si (fun x => x = z)) args s 0 0 (fun _ => False)) (F0 m 50 ls []) := by
  have hx := cx.1
  have hb := cx.2.1
  unfold fX12_plantsFor_50 at h
  obtain ⟨x8, ex8, h⟩ := zLt_e h
  refine lv_iinc (v := x8) (lv' := [(4, .int x8), (0, .ref (q 0)), (1, .int v1), (2, .int v2), (3, .int v3)]) (pc := 50) hx hb dX12_plantsFor_50 hl (k := 4) rfl (by rw [zc_1]; exact ex8.symm) (by decide) rfl (fun ls hl => ?_)
  refine lv_goto (pc := 53) (tgt := 5) hx hb dX12_plantsFor_53 (by decide) ?_
  cases h
  exact hb1 _ _ hc _ (lv_sub hl [1, 2, 3, 4, 0] rfl)
def fX12_plantsFor_43 (S : zSt)  (v1 : Int32) (v2 : Int32) (v3 : Int32) (v4 : Int32) : Option ((Int32 × Int32) ⊕ Int32) :=
  zLt (v3 ||| ((1 : Int32) <<< (v4 &&& 31))) (fun x9 => fX12_plantsFor_50 S v1 v2 x9 v4)
set_option maxHeartbeats 4000000 in
set_option maxRecDepth 100000 in
theorem kX12_plantsFor_43 {p : Program} {l : Launch} {e : Env} {s : State} {m : MethodId} {args : Array Value} {below : List Frame} {meth : Method} {c : Code} {D : va_G} {cy : Nat → ClassId} {q : Nat → Nat} (cx : zX RX12 cX12_plantsFor 5 p s m args c D cy) (hr : meth.sig.returnType = (some .int)) (hlk : meth.locks = false) {z : Int32} {S : zSt} {v1 : Int32} {v2 : Int32} {v3 : Int32} {v4 : Int32} {C1 : ((Int32 × Int32) ⊕ Int32) → Prop} (hb1 : ∀ (v3 : Int32) (v4 : Int32), C1 (.inl (v3, v4)) → ∀ (ls : Array Slot), lv_has ls 5 [(0, .ref (q 0)), (1, .int v1), (2, .int v2), (3, .int v3), (4, .int v4)] → W p l e rmX12_plantsFor s m args below meth c s.heap [] 0 0 (MQ below (vp_Si (fun x => x = z)) args s 0 0 (fun _ => False)) (F0 m 5 ls [])) (hx1 : ∀ a, C1 (.inr a) → a = z) (hP : va_P D vwCl (zW zshM zNM cy q S) s.heap) {x : ((Int32 × Int32) ⊕ Int32)} (h : fX12_plantsFor_43 S v1 v2 v3 v4 = some x) (hc : C1 x) {ls : Array Slot} (hl : lv_has ls 5 [(0, .ref (q 0)), (1, .int v1), (2, .int v2), (3, .int v3), (4, .int v4)]) : W p l e rmX12_plantsFor s m args below meth c s.heap [] 0 0 (MQ below (vp_Si (fun x => x = z)) args s 0 0 (fun _ => False)) (F0 m 43 ls []) := by
  have hx := cx.1
  have hb := cx.2.1
  unfold fX12_plantsFor_43 at h
  refine lv_iload_n (pc := 43) hx hb dX12_plantsFor_43 rfl (lv_at hl 3 rfl) ?_
  refine lv_iconst (pc := 44) hx hb dX12_plantsFor_44 zc_1 ?_
  refine lv_iload (pc := 45) hx hb dX12_plantsFor_45 (lv_at hl 4 rfl) ?_
  refine lv_ishl (pc := 47) hx hb dX12_plantsFor_47 ?_
  refine lv_ior (pc := 48) hx hb dX12_plantsFor_48 ?_
  obtain ⟨x9, ex9, h⟩ := zLt_e h
  refine zr_nmI ex9 ?_
  refine lv_istore_n (lv' := [(3, .int x9), (0, .ref (q 0)), (1, .int v1), (2, .int v2), (4, .int v4)]) (pc := 49) hx hb dX12_plantsFor_49 rfl hl (by decide) rfl (fun ls hl => ?_)
  exact kX12_plantsFor_50 cx hr hlk hb1 hx1 hP h hc (lv_sub hl [1, 2, 3, 0, 4] rfl)
def fX12_plantsFor_5 (S : zSt)  (v1 : Int32) (v2 : Int32) (t : (Int32 × Int32)) : Option ((Int32 × Int32) ⊕ Int32) :=
  match t with
  | (v3, v4) => zGd (zIx (1 : Int32) 406) (zBr ((S.1 2 (1 : Int32).toNatClampNeg) ≤ v4) (zXr (some v3)) (zBr (v2 = 0) (zBd (fX12_willCome S v4 v1) (fun r6 => zBr (r6 = 0) (fX12_plantsFor_50 S v1 v2 v3 v4) (fX12_plantsFor_43 S v1 v2 v3 v4))) (zBd (fX12_hasCome S v4 v1) (fun r11 => zBr (r11 = 0) (fX12_plantsFor_50 S v1 v2 v3 v4) (fX12_plantsFor_43 S v1 v2 v3 v4)))))
set_option maxHeartbeats 4000000 in
set_option maxRecDepth 100000 in
theorem kX12_plantsFor_5B {p : Program} {l : Launch} {e : Env} {s : State} {m : MethodId} {args : Array Value} {below : List Frame} {meth : Method} {c : Code} {D : va_G} {cy : Nat → ClassId} {q : Nat → Nat} (cx : zX RX12 cX12_plantsFor 5 p s m args c D cy) (hr : meth.sig.returnType = (some .int)) (hlk : meth.locks = false) {z : Int32} {S : zSt} {v1 : Int32} {v2 : Int32} {v3 : Int32} {v4 : Int32} {C1 : ((Int32 × Int32) ⊕ Int32) → Prop} (hb1 : ∀ (v3 : Int32) (v4 : Int32), C1 (.inl (v3, v4)) → ∀ (ls : Array Slot), lv_has ls 5 [(0, .ref (q 0)), (1, .int v1), (2, .int v2), (3, .int v3), (4, .int v4)] → W p l e rmX12_plantsFor s m args below meth c s.heap [] 0 0 (MQ below (vp_Si (fun x => x = z)) args s 0 0 (fun _ => False)) (F0 m 5 ls [])) (hx1 : ∀ a, C1 (.inr a) → a = z) (hP : va_P D vwCl (zW zshM zNM cy q S) s.heap) {x : ((Int32 × Int32) ⊕ Int32)} (h : fX12_plantsFor_5 S v1 v2 (v3, v4) = some x) (hc : C1 x) {ls : Array Slot} (hl : lv_has ls 5 [(0, .ref (q 0)), (1, .int v1), (2, .int v2), (3, .int v3), (4, .int v4)]) : W p l e rmX12_plantsFor s m args below meth c s.heap [] 0 0 (MQ below (vp_Si (fun x => x = z)) args s 0 0 (fun _ => False)) (F0 m 5 ls []) := by
  have hx := cx.1
  have hb := cx.2.1
  unfold fX12_plantsFor_5 at h
  dsimp only at h
  refine lv_iload (pc := 5) hx hb dX12_plantsFor_5 (lv_at hl 4 rfl) ?_
  refine lv_aload_n (pc := 7) hx hb dX12_plantsFor_7 rfl (lv_at hl 0 rfl) ?_
  refine zr_getR (pc := 8) (t := 2) cx lk_X12_98 hP nM_0 sM_0 rfl dX12_plantsFor_8 ?_
  refine lv_iconst (pc := 11) hx hb dX12_plantsFor_11 zc_1 ?_
  obtain ⟨g1, h⟩ := zGd_e h
  refine zr_iald (pc := 12) cx hP nM_2 sM_2 g1 dX12_plantsFor_12 ?_
  refine lv_icmp_ge (pc := 13) (tgt := 56) hx hb dX12_plantsFor_13 (by decide) (fun c2 => ?_) (fun c2 => ?_)
  · replace h := zBr_t c2 h
    obtain ⟨y3, h, ex⟩ := zXr_e h
    have hc := hx1 y3 (by rw [ex] at hc; exact hc)
    rw [hc] at h
    refine lv_iload_n (pc := 56) hx hb dX12_plantsFor_56 rfl (lv_at hl 3 rfl) ?_
    have hz := Option.some.inj h
    exact zr_reI (pc := 57) cx hr hlk hz dX12_plantsFor_57
  · replace h := zBr_f c2 h
    refine lv_iload_n (pc := 16) hx hb dX12_plantsFor_16 rfl (lv_at hl 2 rfl) ?_
    refine lv_if_eq (pc := 17) (tgt := 33) hx hb dX12_plantsFor_17 (by decide) (fun c4 => ?_) (fun c4 => ?_)
    · replace h := zBr_t c4 h
      refine lv_aload_n (pc := 33) hx hb dX12_plantsFor_33 rfl (lv_at hl 0 rfl) ?_
      refine lv_iload (pc := 34) hx hb dX12_plantsFor_34 (lv_at hl 4 rfl) ?_
      refine lv_iload_n (pc := 36) hx hb dX12_plantsFor_36 rfl (lv_at hl 1 rfl) ?_
      obtain ⟨r6, k5, h⟩ := zBd_e h
      refine zr_VI (pc := 37) (rest := []) cx cv_X12_231 (mX12_willCome k5) ⟨⟨rfl, rfl⟩, Nat.le_of_ble_eq_true rfl, Nat.le_of_ble_eq_true rfl⟩ ⟨Nat.le_of_ble_eq_true rfl, Nat.le_of_ble_eq_true rfl⟩ hP nM_0 sM_0 rfl hl.1 rfl rfl (Nat.le_of_ble_eq_true rfl) dX12_plantsFor_37 ?_
      refine lv_if_eq (pc := 40) (tgt := 50) hx hb dX12_plantsFor_40 (by decide) (fun c7 => ?_) (fun c7 => ?_)
      · replace h := zBr_t c7 h
        exact kX12_plantsFor_50 cx hr hlk hb1 hx1 hP h hc (lv_sub hl [0, 1, 2, 3, 4] rfl)
      · replace h := zBr_f c7 h
        exact kX12_plantsFor_43 cx hr hlk hb1 hx1 hP h hc (lv_sub hl [0, 1, 2, 3, 4] rfl)
    · replace h := zBr_f c4 h
      refine lv_aload_n (pc := 20) hx hb dX12_plantsFor_20 rfl (lv_at hl 0 rfl) ?_
      refine lv_iload (pc := 21) hx hb dX12_plantsFor_21 (lv_at hl 4 rfl) ?_
      refine lv_iload_n (pc := 23) hx hb dX12_plantsFor_23 rfl (lv_at hl 1 rfl) ?_
      obtain ⟨r11, k10, h⟩ := zBd_e h
      refine zr_VI (pc := 24) (rest := []) cx cv_X12_228 (mX12_hasCome k10) ⟨⟨rfl, rfl⟩, Nat.le_of_ble_eq_true rfl, Nat.le_of_ble_eq_true rfl⟩ ⟨Nat.le_of_ble_eq_true rfl, Nat.le_of_ble_eq_true rfl⟩ hP nM_0 sM_0 rfl hl.1 rfl rfl (Nat.le_of_ble_eq_true rfl) dX12_plantsFor_24 ?_
      refine lv_if_eq (pc := 27) (tgt := 50) hx hb dX12_plantsFor_27 (by decide) (fun c12 => ?_) (fun c12 => ?_)
      · replace h := zBr_t c12 h
        exact kX12_plantsFor_50 cx hr hlk hb1 hx1 hP h hc (lv_sub hl [0, 1, 2, 3, 4] rfl)
      · replace h := zBr_f c12 h
        refine lv_goto (pc := 30) (tgt := 43) hx hb dX12_plantsFor_30 (by decide) ?_
        exact kX12_plantsFor_43 cx hr hlk hb1 hx1 hP h hc (lv_sub hl [0, 1, 2, 3, 4] rfl)
set_option maxHeartbeats 4000000 in
set_option maxRecDepth 100000 in
theorem kX12_plantsFor_5 {p : Program} {l : Launch} {e : Env} {s : State} {m : MethodId} {args : Array Value} {below : List Frame} {meth : Method} {c : Code} {D : va_G} {cy : Nat → ClassId} {q : Nat → Nat} (cx : zX RX12 cX12_plantsFor 5 p s m args c D cy) (hr : meth.sig.returnType = (some .int)) (hlk : meth.locks = false) {z : Int32} {S : zSt} {v1 : Int32} {v2 : Int32} (hP : va_P D vwCl (zW zshM zNM cy q S) s.heap) : ∀ (n : Nat) (v3 : Int32) (v4 : Int32), zLp (fX12_plantsFor_5 S v1 v2) n (v3, v4) = some z → ∀ (ls : Array Slot), lv_has ls 5 [(0, .ref (q 0)), (1, .int v1), (2, .int v2), (3, .int v3), (4, .int v4)] → W p l e rmX12_plantsFor s m args below meth c s.heap [] 0 0 (MQ below (vp_Si (fun x => x = z)) args s 0 0 (fun _ => False)) (F0 m 5 ls []) := by
  intro n
  induction n with
  | zero =>
    intro v3 v4 h
    cases h
  | succ n ih =>
    intro v3 v4 h ls hl
    obtain ⟨x, h, hk⟩ := zLp_e h
    exact kX12_plantsFor_5B cx hr hlk  (C1 := zKt (fun t => zLp (fX12_plantsFor_5 S v1 v2) n t = some z) (fun a => a = z)) (fun v3 v4 ht ls hl => ih v3 v4 ht ls hl) (fun a ha => ha) hP h hk hl
def fX12_plantsFor (S : zSt) (v1 : Int32) (v2 : Int32) : Option Int32 :=
  zLp (fX12_plantsFor_5 S v1 v2) 2000 ((0 : Int32), (0 : Int32))
set_option maxHeartbeats 4000000 in
set_option maxRecDepth 100000 in
theorem mX12_plantsFor {l : Launch} {D : va_G} {cy : Nat → ClassId} {q : Nat → Nat} {S : zSt} {v1 : Int32} {v2 : Int32} {z : Int32} (h : fX12_plantsFor S v1 v2 = some z) : zMi l yX12_plantsFor cX12_plantsFor 5 (some .int) rmX12_plantsFor [.ref (q 0), .int v1, .int v2] (zPr zshM zNM D cy q S) z := by
  refine Met.ofW (cc := cX12_plantsFor) (maxL := 5) (ret := (some .int)) (by decide) rfl ?_
  intro p e s m args below meth c s₁ B hml hv
  obtain ⟨rfl, hP, hK⟩ := hv
  have cx : zX RX12 cX12_plantsFor 5 p s m ([.ref (q 0), .int v1, .int v2]).toArray c D cy := ⟨B.exec, B.bytes, hml, findClass_of_methodNamed B.named, fun w hw => atoms_spec (ws := Cond.code yX12_plantsFor cX12_plantsFor 5 (some .int) :: zTB) B.pre w (List.mem_cons_of_mem _ hw), hK⟩
  have hx := cx.1
  have hb := cx.2.1
  have hr := B.returns
  have hlk := B.notSynchronized
  have hl := lv_entry ([.ref (q 0), .int v1, .int v2]) (n := 5) (Nat.le_of_ble_eq_true rfl)
  rw [lg_entry_eq]
  generalize (lg_sl ([.ref (q 0), .int v1, .int v2]) ++ List.replicate (5 - (lg_sl ([.ref (q 0), .int v1, .int v2])).length) Slot.unset).toArray = ls at hl ⊢
  have hl : lv_has ls 5 [(0, .ref (q 0)), (1, .int v1), (2, .int v2)] := hl
  unfold fX12_plantsFor at h
  refine lv_iconst (pc := 0) hx hb dX12_plantsFor_0 zc_0 ?_
  refine lv_istore_n (lv' := [(3, .int (0 : Int32)), (0, .ref (q 0)), (1, .int v1), (2, .int v2)]) (pc := 1) hx hb dX12_plantsFor_1 rfl hl (by decide) rfl (fun ls hl => ?_)
  refine lv_iconst (pc := 2) hx hb dX12_plantsFor_2 zc_0 ?_
  refine lv_istore (lv' := [(4, .int (0 : Int32)), (3, .int (0 : Int32)), (0, .ref (q 0)), (1, .int v1), (2, .int v2)]) (pc := 3) hx hb dX12_plantsFor_3 hl (by decide) rfl (fun ls hl => ?_)
  exact kX12_plantsFor_5 cx hr hlk hP 2000 _ _ h _ (lv_sub hl [2, 3, 4, 1, 0] rfl)
-- X12_isProved
abbrev rmX12_isProved : Room := { frames := 3, cells := 0, slots := 0, locals := 68 }
def fX12_isProved (S : zSt) (v1 : Int32) : Option Int32 :=
  zBd (fX12_plantsFor S v1 (1 : Int32)) (fun r2 => zBd (fX12_bits r2) (fun r4 => zGd (zIx (5 : Int32) 406) (zBr (r4 < (S.1 2 (5 : Int32).toNatClampNeg)) (some (0 : Int32)) (some (1 : Int32)))))
set_option maxHeartbeats 4000000 in
set_option maxRecDepth 100000 in
theorem mX12_isProved {l : Launch} {D : va_G} {cy : Nat → ClassId} {q : Nat → Nat} {S : zSt} {v1 : Int32} {z : Int32} (h : fX12_isProved S v1 = some z) : zMi l yX12_isProved cX12_isProved 2 (some .boolean) rmX12_isProved [.ref (q 0), .int v1] (zPr zshM zNM D cy q S) z := by
  refine Met.ofW (cc := cX12_isProved) (maxL := 2) (ret := (some .boolean)) (by decide) rfl ?_
  intro p e s m args below meth c s₁ B hml hv
  obtain ⟨rfl, hP, hK⟩ := hv
  have cx : zX RX12 cX12_isProved 2 p s m ([.ref (q 0), .int v1]).toArray c D cy := ⟨B.exec, B.bytes, hml, findClass_of_methodNamed B.named, fun w hw => atoms_spec (ws := Cond.code yX12_isProved cX12_isProved 2 (some .boolean) :: zTB) B.pre w (List.mem_cons_of_mem _ hw), hK⟩
  have hx := cx.1
  have hb := cx.2.1
  have hr := B.returns
  have hlk := B.notSynchronized
  have hl := lv_entry ([.ref (q 0), .int v1]) (n := 2) (Nat.le_of_ble_eq_true rfl)
  rw [lg_entry_eq]
  generalize (lg_sl ([.ref (q 0), .int v1]) ++ List.replicate (2 - (lg_sl ([.ref (q 0), .int v1])).length) Slot.unset).toArray = ls at hl ⊢
  have hl : lv_has ls 2 [(0, .ref (q 0)), (1, .int v1)] := hl
  unfold fX12_isProved at h
  refine lv_aload_n (pc := 0) hx hb dX12_isProved_0 rfl (lv_at hl 0 rfl) ?_
  refine lv_iload_n (pc := 1) hx hb dX12_isProved_1 rfl (lv_at hl 1 rfl) ?_
  refine lv_iconst (pc := 2) hx hb dX12_isProved_2 zc_1 ?_
  obtain ⟨r2, k1, h⟩ := zBd_e h
  refine zr_VI (pc := 3) (rest := []) cx cv_X12_234 (mX12_plantsFor k1) ⟨⟨rfl, rfl⟩, Nat.le_of_ble_eq_true rfl, Nat.le_of_ble_eq_true rfl⟩ ⟨Nat.le_of_ble_eq_true rfl, Nat.le_of_ble_eq_true rfl⟩ hP nM_0 sM_0 rfl hl.1 rfl rfl (Nat.le_of_ble_eq_true rfl) dX12_isProved_3 ?_
  obtain ⟨r4, k3, h⟩ := zBd_e h
  refine zr_SI (pc := 6) (rest := []) cx cv_X12_238 (mX12_bits k3) ⟨⟨rfl, rfl⟩, Nat.le_of_ble_eq_true rfl, Nat.le_of_ble_eq_true rfl⟩ ⟨Nat.le_of_ble_eq_true rfl, Nat.le_of_ble_eq_true rfl⟩ (zr_preK cx) hl.1 rfl rfl (Nat.le_of_ble_eq_true rfl) dX12_isProved_6 ?_
  refine lv_aload_n (pc := 9) hx hb dX12_isProved_9 rfl (lv_at hl 0 rfl) ?_
  refine zr_getR (pc := 10) (t := 2) cx lk_X12_98 hP nM_0 sM_0 rfl dX12_isProved_10 ?_
  refine lv_iconst (pc := 13) hx hb dX12_isProved_13 zc_5 ?_
  obtain ⟨g5, h⟩ := zGd_e h
  refine zr_iald (pc := 14) cx hP nM_2 sM_2 g5 dX12_isProved_14 ?_
  refine lv_icmp_lt (pc := 15) (tgt := 22) hx hb dX12_isProved_15 (by decide) (fun c6 => ?_) (fun c6 => ?_)
  · replace h := zBr_t c6 h
    refine lv_iconst (pc := 22) hx hb dX12_isProved_22 zc_0 ?_
    have hz := Option.some.inj h
    exact zr_reZ (pc := 23) cx hr hlk hz (by decide) dX12_isProved_23
  · replace h := zBr_f c6 h
    refine lv_iconst (pc := 18) hx hb dX12_isProved_18 zc_1 ?_
    refine lv_goto (pc := 19) (tgt := 23) hx hb dX12_isProved_19 (by decide) ?_
    have hz := Option.some.inj h
    exact zr_reZ (pc := 23) cx hr hlk hz (by decide) dX12_isProved_23
-- X12_refuse
abbrev rmX12_refuse : Room := { frames := 0, cells := 0, slots := 0, locals := 0 }
def fX12_refuse (S : zSt) : Option (Int32 × zSt) :=
  zLt (zI S 0 0 (1 : Int32)) (fun S1 => some ((0 : Int32), S1))
set_option maxHeartbeats 4000000 in
set_option maxRecDepth 100000 in
theorem mX12_refuse {l : Launch} {D : va_G} {cy : Nat → ClassId} {q : Nat → Nat} {A : Nat → Prop} {S : zSt} (hq : zQ A q zNM) {z : (Int32 × zSt)} (h : fX12_refuse S = some z) : zMq l yX12_refuse cX12_refuse 1 (some .int) rmX12_refuse [.ref (q 0)] zshM zNM D cy q A S z := by
  refine Met.ofW (cc := cX12_refuse) (maxL := 1) (ret := (some .int)) (by decide) rfl ?_
  intro p e s m args below meth c s₁ B hml hv
  obtain ⟨rfl, hP, hK⟩ := hv
  have cx : zX RX12 cX12_refuse 1 p s m ([.ref (q 0)]).toArray c D cy := ⟨B.exec, B.bytes, hml, findClass_of_methodNamed B.named, fun w hw => atoms_spec (ws := Cond.code yX12_refuse cX12_refuse 1 (some .int) :: zTB) B.pre w (List.mem_cons_of_mem _ hw), hK⟩
  have hx := cx.1
  have hb := cx.2.1
  have hr := B.returns
  have hlk := B.notSynchronized
  have hS : va_S A s.heap s.heap [] := va_S.rf
  have hl := lv_entry ([.ref (q 0)]) (n := 1) (Nat.le_of_ble_eq_true rfl)
  rw [lg_entry_eq]
  generalize (lg_sl ([.ref (q 0)]) ++ List.replicate (1 - (lg_sl ([.ref (q 0)])).length) Slot.unset).toArray = ls at hl ⊢
  have hl : lv_has ls 1 [(0, .ref (q 0))] := hl
  unfold fX12_refuse at h
  refine lv_aload_n (pc := 0) hx hb dX12_refuse_0 rfl (lv_at hl 0 rfl) ?_
  refine lv_iconst (pc := 1) hx hb dX12_refuse_1 zc_1 ?_
  obtain ⟨S1, eS1, h⟩ := zLt_e h
  refine zr_putI (pc := 2) cx lq_X12_1 hq hP hS nM_0 sM_0 rfl rfl rfl dX12_refuse_2 (fun H locs hP hS => ?_)
  rw [← eS1] at hP
  refine lv_iconst (pc := 5) hx hb dX12_refuse_5 zc_0 ?_
  have hz := Option.some.inj h
  exact zr_rqI (pc := 6) cx hr hlk hP hS hz dX12_refuse_6
-- X12_act
abbrev rmX12_act : Room := { frames := 4, cells := 0, slots := 0, locals := 89 }
def fX12_act (S : zSt) (v1 : Int32) (v2 : Int32) : Option (Int32 × zSt) :=
  zLt (zI S 0 0 (0 : Int32)) (fun S1 => zBd (fX12_isAct S1 v1) (fun r3 => zBr (r3 = 0) (zBp (fX12_refuse S1) (fun r28 S27 => some (r28, S27))) (zBr (v2 = 0) (zGd (zIx ((38 : Int32) + v1) 406) (some ((S1.1 2 ((38 : Int32) + v1).toNatClampNeg), S1))) (zBr (v2 = 1) (zGd (zIx ((50 : Int32) + v1) 406) (some ((S1.1 2 ((50 : Int32) + v1).toNatClampNeg), S1))) (zBr (v2 = 2) (zGd (zIx ((62 : Int32) + v1) 406) (some ((S1.1 2 ((62 : Int32) + v1).toNatClampNeg), S1))) (zBr (v2 = 3) (zGd (zIx ((74 : Int32) + v1) 406) (some ((S1.1 2 ((74 : Int32) + v1).toNatClampNeg), S1))) (zBr (v2 = 4) (zBd (fX12_plantsFor S1 v1 (1 : Int32)) (fun r17 => some (r17, S1))) (zBr (v2 = 5) (zBd (fX12_plantsFor S1 v1 (0 : Int32)) (fun r19 => some (r19, S1))) (zBr (v2 = 6) (zBd (fX12_isProved S1 v1) (fun r21 => zBr (r21 = 0) (some ((0 : Int32), S1)) (some ((1 : Int32), S1)))) (zBp (fX12_refuse S1) (fun r25 S24 => some (r25, S24))))))))))))
set_option maxHeartbeats 4000000 in
set_option maxRecDepth 100000 in
theorem mX12_act {l : Launch} {D : va_G} {cy : Nat → ClassId} {q : Nat → Nat} {A : Nat → Prop} {S : zSt} {v1 : Int32} {v2 : Int32} (hq : zQ A q zNM) {z : (Int32 × zSt)} (h : fX12_act S v1 v2 = some z) : zMq l yX12_act cX12_act 3 (some .int) rmX12_act [.ref (q 0), .int v1, .int v2] zshM zNM D cy q A S z := by
  refine Met.ofW (cc := cX12_act) (maxL := 3) (ret := (some .int)) (by decide) rfl ?_
  intro p e s m args below meth c s₁ B hml hv
  obtain ⟨rfl, hP, hK⟩ := hv
  have cx : zX RX12 cX12_act 3 p s m ([.ref (q 0), .int v1, .int v2]).toArray c D cy := ⟨B.exec, B.bytes, hml, findClass_of_methodNamed B.named, fun w hw => atoms_spec (ws := Cond.code yX12_act cX12_act 3 (some .int) :: zTB) B.pre w (List.mem_cons_of_mem _ hw), hK⟩
  have hx := cx.1
  have hb := cx.2.1
  have hr := B.returns
  have hlk := B.notSynchronized
  have hS : va_S A s.heap s.heap [] := va_S.rf
  have hl := lv_entry ([.ref (q 0), .int v1, .int v2]) (n := 3) (Nat.le_of_ble_eq_true rfl)
  rw [lg_entry_eq]
  generalize (lg_sl ([.ref (q 0), .int v1, .int v2]) ++ List.replicate (3 - (lg_sl ([.ref (q 0), .int v1, .int v2])).length) Slot.unset).toArray = ls at hl ⊢
  have hl : lv_has ls 3 [(0, .ref (q 0)), (1, .int v1), (2, .int v2)] := hl
  unfold fX12_act at h
  refine lv_aload_n (pc := 0) hx hb dX12_act_0 rfl (lv_at hl 0 rfl) ?_
  refine lv_iconst (pc := 1) hx hb dX12_act_1 zc_0 ?_
  obtain ⟨S1, eS1, h⟩ := zLt_e h
  refine zr_putI (pc := 2) cx lq_X12_1 hq hP hS nM_0 sM_0 rfl rfl rfl dX12_act_2 (fun H locs hP hS => ?_)
  rw [← eS1] at hP
  refine lv_aload_n (pc := 5) hx hb dX12_act_5 rfl (lv_at hl 0 rfl) ?_
  refine lv_iload_n (pc := 6) hx hb dX12_act_6 rfl (lv_at hl 1 rfl) ?_
  obtain ⟨r3, k2, h⟩ := zBd_e h
  refine zr_VI (pc := 7) (rest := []) cx cv_X12_256 (mX12_isAct k2) ⟨⟨rfl, rfl⟩, Nat.le_of_ble_eq_true rfl, Nat.le_of_ble_eq_true rfl⟩ ⟨Nat.le_of_ble_eq_true rfl, Nat.le_of_ble_eq_true rfl⟩ hP nM_0 sM_0 rfl hl.1 rfl rfl (Nat.le_of_ble_eq_true rfl) dX12_act_7 ?_
  refine lv_if_ne (pc := 10) (tgt := 18) hx hb dX12_act_10 (by decide) (fun c4 => ?_) (fun c4 => ?_)
  · replace h := zBr_f c4 h
    refine lv_iload_n (pc := 18) hx hb dX12_act_18 rfl (lv_at hl 2 rfl) ?_
    by_cases c5 : v2 = 0
    · replace h := zBr_t c5 h
      refine lv_tableIn (pc := 19) (off := 41) (tgt := 60) hx hb dX12_act_19 (by rw [c5]; decide) (by rw [c5]; decide) (by rw [c5]; rfl) (by decide) ?_
      refine lv_aload_n (pc := 60) hx hb dX12_act_60 rfl (lv_at hl 0 rfl) ?_
      refine zr_getR (pc := 61) (t := 2) cx lk_X12_98 hP nM_0 sM_0 rfl dX12_act_61 ?_
      refine lv_bipush (pc := 64) hx hb dX12_act_64 zb_38 ?_
      refine lv_iload_n (pc := 66) hx hb dX12_act_66 rfl (lv_at hl 1 rfl) ?_
      refine lv_iadd (pc := 67) hx hb dX12_act_67 ?_
      obtain ⟨g12, h⟩ := zGd_e h
      refine zr_iald (pc := 68) cx hP nM_2 sM_2 g12 dX12_act_68 ?_
      have hz := Option.some.inj h
      exact zr_rqI (pc := 69) cx hr hlk hP hS hz dX12_act_69
    · replace h := zBr_f c5 h
      by_cases c6 : v2 = 1
      · replace h := zBr_t c6 h
        refine lv_tableIn (pc := 19) (off := 51) (tgt := 70) hx hb dX12_act_19 (by rw [c6]; decide) (by rw [c6]; decide) (by rw [c6]; rfl) (by decide) ?_
        refine lv_aload_n (pc := 70) hx hb dX12_act_70 rfl (lv_at hl 0 rfl) ?_
        refine zr_getR (pc := 71) (t := 2) cx lk_X12_98 hP nM_0 sM_0 rfl dX12_act_71 ?_
        refine lv_bipush (pc := 74) hx hb dX12_act_74 zb_50 ?_
        refine lv_iload_n (pc := 76) hx hb dX12_act_76 rfl (lv_at hl 1 rfl) ?_
        refine lv_iadd (pc := 77) hx hb dX12_act_77 ?_
        obtain ⟨g13, h⟩ := zGd_e h
        refine zr_iald (pc := 78) cx hP nM_2 sM_2 g13 dX12_act_78 ?_
        have hz := Option.some.inj h
        exact zr_rqI (pc := 79) cx hr hlk hP hS hz dX12_act_79
      · replace h := zBr_f c6 h
        by_cases c7 : v2 = 2
        · replace h := zBr_t c7 h
          refine lv_tableIn (pc := 19) (off := 61) (tgt := 80) hx hb dX12_act_19 (by rw [c7]; decide) (by rw [c7]; decide) (by rw [c7]; rfl) (by decide) ?_
          refine lv_aload_n (pc := 80) hx hb dX12_act_80 rfl (lv_at hl 0 rfl) ?_
          refine zr_getR (pc := 81) (t := 2) cx lk_X12_98 hP nM_0 sM_0 rfl dX12_act_81 ?_
          refine lv_bipush (pc := 84) hx hb dX12_act_84 zb_62 ?_
          refine lv_iload_n (pc := 86) hx hb dX12_act_86 rfl (lv_at hl 1 rfl) ?_
          refine lv_iadd (pc := 87) hx hb dX12_act_87 ?_
          obtain ⟨g14, h⟩ := zGd_e h
          refine zr_iald (pc := 88) cx hP nM_2 sM_2 g14 dX12_act_88 ?_
          have hz := Option.some.inj h
          exact zr_rqI (pc := 89) cx hr hlk hP hS hz dX12_act_89
        · replace h := zBr_f c7 h
          by_cases c8 : v2 = 3
          · replace h := zBr_t c8 h
            refine lv_tableIn (pc := 19) (off := 71) (tgt := 90) hx hb dX12_act_19 (by rw [c8]; decide) (by rw [c8]; decide) (by rw [c8]; rfl) (by decide) ?_
            refine lv_aload_n (pc := 90) hx hb dX12_act_90 rfl (lv_at hl 0 rfl) ?_
            refine zr_getR (pc := 91) (t := 2) cx lk_X12_98 hP nM_0 sM_0 rfl dX12_act_91 ?_
            refine lv_bipush (pc := 94) hx hb dX12_act_94 zb_74 ?_
            refine lv_iload_n (pc := 96) hx hb dX12_act_96 rfl (lv_at hl 1 rfl) ?_
            refine lv_iadd (pc := 97) hx hb dX12_act_97 ?_
            obtain ⟨g15, h⟩ := zGd_e h
            refine zr_iald (pc := 98) cx hP nM_2 sM_2 g15 dX12_act_98 ?_
            have hz := Option.some.inj h
            exact zr_rqI (pc := 99) cx hr hlk hP hS hz dX12_act_99
          · replace h := zBr_f c8 h
            by_cases c9 : v2 = 4
            · replace h := zBr_t c9 h
              refine lv_tableIn (pc := 19) (off := 81) (tgt := 100) hx hb dX12_act_19 (by rw [c9]; decide) (by rw [c9]; decide) (by rw [c9]; rfl) (by decide) ?_
              refine lv_aload_n (pc := 100) hx hb dX12_act_100 rfl (lv_at hl 0 rfl) ?_
              refine lv_iload_n (pc := 101) hx hb dX12_act_101 rfl (lv_at hl 1 rfl) ?_
              refine lv_iconst (pc := 102) hx hb dX12_act_102 zc_1 ?_
              obtain ⟨r17, k16, h⟩ := zBd_e h
              refine zr_VI (pc := 103) (rest := []) cx cv_X12_234 (mX12_plantsFor k16) ⟨⟨rfl, rfl⟩, Nat.le_of_ble_eq_true rfl, Nat.le_of_ble_eq_true rfl⟩ ⟨Nat.le_of_ble_eq_true rfl, Nat.le_of_ble_eq_true rfl⟩ hP nM_0 sM_0 rfl hl.1 rfl rfl (Nat.le_of_ble_eq_true rfl) dX12_act_103 ?_
              have hz := Option.some.inj h
              exact zr_rqI (pc := 106) cx hr hlk hP hS hz dX12_act_106
            · replace h := zBr_f c9 h
              by_cases c10 : v2 = 5
              · replace h := zBr_t c10 h
                refine lv_tableIn (pc := 19) (off := 88) (tgt := 107) hx hb dX12_act_19 (by rw [c10]; decide) (by rw [c10]; decide) (by rw [c10]; rfl) (by decide) ?_
                refine lv_aload_n (pc := 107) hx hb dX12_act_107 rfl (lv_at hl 0 rfl) ?_
                refine lv_iload_n (pc := 108) hx hb dX12_act_108 rfl (lv_at hl 1 rfl) ?_
                refine lv_iconst (pc := 109) hx hb dX12_act_109 zc_0 ?_
                obtain ⟨r19, k18, h⟩ := zBd_e h
                refine zr_VI (pc := 110) (rest := []) cx cv_X12_234 (mX12_plantsFor k18) ⟨⟨rfl, rfl⟩, Nat.le_of_ble_eq_true rfl, Nat.le_of_ble_eq_true rfl⟩ ⟨Nat.le_of_ble_eq_true rfl, Nat.le_of_ble_eq_true rfl⟩ hP nM_0 sM_0 rfl hl.1 rfl rfl (Nat.le_of_ble_eq_true rfl) dX12_act_110 ?_
                have hz := Option.some.inj h
                exact zr_rqI (pc := 113) cx hr hlk hP hS hz dX12_act_113
              · replace h := zBr_f c10 h
                by_cases c11 : v2 = 6
                · replace h := zBr_t c11 h
                  refine lv_tableIn (pc := 19) (off := 95) (tgt := 114) hx hb dX12_act_19 (by rw [c11]; decide) (by rw [c11]; decide) (by rw [c11]; rfl) (by decide) ?_
                  refine lv_aload_n (pc := 114) hx hb dX12_act_114 rfl (lv_at hl 0 rfl) ?_
                  refine lv_iload_n (pc := 115) hx hb dX12_act_115 rfl (lv_at hl 1 rfl) ?_
                  obtain ⟨r21, k20, h⟩ := zBd_e h
                  refine zr_VI (pc := 116) (rest := []) cx cv_X12_241 (mX12_isProved k20) ⟨⟨rfl, rfl⟩, Nat.le_of_ble_eq_true rfl, Nat.le_of_ble_eq_true rfl⟩ ⟨Nat.le_of_ble_eq_true rfl, Nat.le_of_ble_eq_true rfl⟩ hP nM_0 sM_0 rfl hl.1 rfl rfl (Nat.le_of_ble_eq_true rfl) dX12_act_116 ?_
                  refine lv_if_eq (pc := 119) (tgt := 126) hx hb dX12_act_119 (by decide) (fun c22 => ?_) (fun c22 => ?_)
                  · replace h := zBr_t c22 h
                    refine lv_iconst (pc := 126) hx hb dX12_act_126 zc_0 ?_
                    have hz := Option.some.inj h
                    exact zr_rqI (pc := 127) cx hr hlk hP hS hz dX12_act_127
                  · replace h := zBr_f c22 h
                    refine lv_iconst (pc := 122) hx hb dX12_act_122 zc_1 ?_
                    refine lv_goto (pc := 123) (tgt := 127) hx hb dX12_act_123 (by decide) ?_
                    have hz := Option.some.inj h
                    exact zr_rqI (pc := 127) cx hr hlk hP hS hz dX12_act_127
                · replace h := zBr_f c11 h
                  refine zr_tsD (pc := 19) (tgt := 128) hx hb dX12_act_19 (fun h1 h2 => ?_) (by decide) ?_
                  · rcases (show (v2).toInt = 0 ∨ (v2).toInt = 1 ∨ (v2).toInt = 2 ∨ (v2).toInt = 3 ∨ (v2).toInt = 4 ∨ (v2).toInt = 5 ∨ (v2).toInt = 6 by omega) with e9 | e9 | e9 | e9 | e9 | e9 | e9
                    · exact absurd (Int32.toInt_inj.mp (e9.trans (by decide))) c5
                    · exact absurd (Int32.toInt_inj.mp (e9.trans (by decide))) c6
                    · exact absurd (Int32.toInt_inj.mp (e9.trans (by decide))) c7
                    · exact absurd (Int32.toInt_inj.mp (e9.trans (by decide))) c8
                    · exact absurd (Int32.toInt_inj.mp (e9.trans (by decide))) c9
                    · exact absurd (Int32.toInt_inj.mp (e9.trans (by decide))) c10
                    · exact absurd (Int32.toInt_inj.mp (e9.trans (by decide))) c11
                  · skip
                    refine lv_aload_n (pc := 128) hx hb dX12_act_128 rfl (lv_at hl 0 rfl) ?_
                    obtain ⟨r25, S24, k23, h⟩ := zBp_e h
                    refine zr_VQ (pc := 129) (rest := []) cx cv_X12_247 (mX12_refuse hq k23) ⟨⟨rfl, rfl⟩, Nat.le_of_ble_eq_true rfl, Nat.le_of_ble_eq_true rfl⟩ ⟨Nat.le_of_ble_eq_true rfl, Nat.le_of_ble_eq_true rfl⟩ hP hS nM_0 sM_0 rfl hl.1 rfl rfl (Nat.le_of_ble_eq_true rfl) dX12_act_129 (fun H locs hP hS => ?_)
                    have hz := Option.some.inj h
                    exact zr_rqI (pc := 132) cx hr hlk hP hS hz dX12_act_132
  · replace h := zBr_t c4 h
    refine lv_aload_n (pc := 13) hx hb dX12_act_13 rfl (lv_at hl 0 rfl) ?_
    obtain ⟨r28, S27, k26, h⟩ := zBp_e h
    refine zr_VQ (pc := 14) (rest := []) cx cv_X12_247 (mX12_refuse hq k26) ⟨⟨rfl, rfl⟩, Nat.le_of_ble_eq_true rfl, Nat.le_of_ble_eq_true rfl⟩ ⟨Nat.le_of_ble_eq_true rfl, Nat.le_of_ble_eq_true rfl⟩ hP hS nM_0 sM_0 rfl hl.1 rfl rfl (Nat.le_of_ble_eq_true rfl) dX12_act_14 (fun H locs hP hS => ?_)
    have hz := Option.some.inj h
    exact zr_rqI (pc := 17) cx hr hlk hP hS hz dX12_act_17
-- X12_around
abbrev rmX12_around : Room := { frames := 0, cells := 0, slots := 0, locals := 0 }
def fX12_around (S : zSt) (v1 : Int32) : Option Int32 :=
  zGd (zIx ((6 : Int32) + v1) 406) (some ((S.1 2 ((6 : Int32) + v1).toNatClampNeg) ||| ((1 : Int32) <<< (v1 &&& 31))))
set_option maxHeartbeats 4000000 in
set_option maxRecDepth 100000 in
theorem mX12_around {l : Launch} {D : va_G} {cy : Nat → ClassId} {q : Nat → Nat} {S : zSt} {v1 : Int32} {z : Int32} (h : fX12_around S v1 = some z) : zMi l yX12_around cX12_around 2 (some .int) rmX12_around [.ref (q 0), .int v1] (zPr zshM zNM D cy q S) z := by
  refine Met.ofW (cc := cX12_around) (maxL := 2) (ret := (some .int)) (by decide) rfl ?_
  intro p e s m args below meth c s₁ B hml hv
  obtain ⟨rfl, hP, hK⟩ := hv
  have cx : zX RX12 cX12_around 2 p s m ([.ref (q 0), .int v1]).toArray c D cy := ⟨B.exec, B.bytes, hml, findClass_of_methodNamed B.named, fun w hw => atoms_spec (ws := Cond.code yX12_around cX12_around 2 (some .int) :: zTB) B.pre w (List.mem_cons_of_mem _ hw), hK⟩
  have hx := cx.1
  have hb := cx.2.1
  have hr := B.returns
  have hlk := B.notSynchronized
  have hl := lv_entry ([.ref (q 0), .int v1]) (n := 2) (Nat.le_of_ble_eq_true rfl)
  rw [lg_entry_eq]
  generalize (lg_sl ([.ref (q 0), .int v1]) ++ List.replicate (2 - (lg_sl ([.ref (q 0), .int v1])).length) Slot.unset).toArray = ls at hl ⊢
  have hl : lv_has ls 2 [(0, .ref (q 0)), (1, .int v1)] := hl
  unfold fX12_around at h
  refine lv_aload_n (pc := 0) hx hb dX12_around_0 rfl (lv_at hl 0 rfl) ?_
  refine zr_getR (pc := 1) (t := 2) cx lk_X12_98 hP nM_0 sM_0 rfl dX12_around_1 ?_
  refine lv_bipush (pc := 4) hx hb dX12_around_4 zb_6 ?_
  refine lv_iload_n (pc := 6) hx hb dX12_around_6 rfl (lv_at hl 1 rfl) ?_
  refine lv_iadd (pc := 7) hx hb dX12_around_7 ?_
  obtain ⟨g1, h⟩ := zGd_e h
  refine zr_iald (pc := 8) cx hP nM_2 sM_2 g1 dX12_around_8 ?_
  refine lv_iconst (pc := 9) hx hb dX12_around_9 zc_1 ?_
  refine lv_iload_n (pc := 10) hx hb dX12_around_10 rfl (lv_at hl 1 rfl) ?_
  refine lv_ishl (pc := 11) hx hb dX12_around_11 ?_
  refine lv_ior (pc := 12) hx hb dX12_around_12 ?_
  have hz := Option.some.inj h
  exact zr_reI (pc := 13) cx hr hlk hz dX12_around_13
-- X12_ask
abbrev rmX12_ask : Room := { frames := 0, cells := 0, slots := 0, locals := 0 }
def fX12_ask (S : zSt) : Option (Int32 × zSt) :=
  zLt (zI S 0 0 (0 : Int32)) (fun S1 => some ((S1.1 0 25), S1))
set_option maxHeartbeats 4000000 in
set_option maxRecDepth 100000 in
theorem mX12_ask {l : Launch} {D : va_G} {cy : Nat → ClassId} {q : Nat → Nat} {A : Nat → Prop} {S : zSt} (hq : zQ A q zNM) {z : (Int32 × zSt)} (h : fX12_ask S = some z) : zMq l yX12_ask cX12_ask 1 (some .int) rmX12_ask [.ref (q 0)] zshM zNM D cy q A S z := by
  refine Met.ofW (cc := cX12_ask) (maxL := 1) (ret := (some .int)) (by decide) rfl ?_
  intro p e s m args below meth c s₁ B hml hv
  obtain ⟨rfl, hP, hK⟩ := hv
  have cx : zX RX12 cX12_ask 1 p s m ([.ref (q 0)]).toArray c D cy := ⟨B.exec, B.bytes, hml, findClass_of_methodNamed B.named, fun w hw => atoms_spec (ws := Cond.code yX12_ask cX12_ask 1 (some .int) :: zTB) B.pre w (List.mem_cons_of_mem _ hw), hK⟩
  have hx := cx.1
  have hb := cx.2.1
  have hr := B.returns
  have hlk := B.notSynchronized
  have hS : va_S A s.heap s.heap [] := va_S.rf
  have hl := lv_entry ([.ref (q 0)]) (n := 1) (Nat.le_of_ble_eq_true rfl)
  rw [lg_entry_eq]
  generalize (lg_sl ([.ref (q 0)]) ++ List.replicate (1 - (lg_sl ([.ref (q 0)])).length) Slot.unset).toArray = ls at hl ⊢
  have hl : lv_has ls 1 [(0, .ref (q 0))] := hl
  unfold fX12_ask at h
  refine lv_aload_n (pc := 0) hx hb dX12_ask_0 rfl (lv_at hl 0 rfl) ?_
  refine lv_iconst (pc := 1) hx hb dX12_ask_1 zc_0 ?_
  obtain ⟨S1, eS1, h⟩ := zLt_e h
  refine zr_putI (pc := 2) cx lq_X12_1 hq hP hS nM_0 sM_0 rfl rfl rfl dX12_ask_2 (fun H locs hP hS => ?_)
  rw [← eS1] at hP
  refine lv_aload_n (pc := 5) hx hb dX12_ask_5 rfl (lv_at hl 0 rfl) ?_
  refine zr_getI (pc := 6) cx lk_X12_130 hP nM_0 sM_0 rfl dX12_ask_6 ?_
  have hz := Option.some.inj h
  exact zr_rqI (pc := 9) cx hr hlk hP hS hz dX12_ask_9
-- X12_bad
abbrev rmX12_bad : Room := { frames := 0, cells := 0, slots := 0, locals := 0 }
def fX12_bad_14 (S : zSt)  (t0 : Int32) : Option (Int32 × zSt) :=
  zLt (zI S 0 10 t0) (fun S2 => zLt (zI S2 0 11 (S2.1 0 6)) (fun S3 => some ((0 : Int32), S3)))
set_option maxHeartbeats 4000000 in
set_option maxRecDepth 100000 in
theorem kX12_bad_14 {p : Program} {l : Launch} {e : Env} {s : State} {m : MethodId} {args : Array Value} {below : List Frame} {meth : Method} {c : Code} {D : va_G} {cy : Nat → ClassId} {q : Nat → Nat} {A : Nat → Prop} (cx : zX RX12 cX12_bad 2 p s m args c D cy) (hr : meth.sig.returnType = (some .boolean)) (hlk : meth.locks = false) (hq : zQ A q zNM) {z : (Int32 × zSt)} {S : zSt} {t0 : Int32} (h : fX12_bad_14 S t0 = some z) {H : Heap} {locs : List Loc} (hP : va_P D vwCl (zW zshM zNM cy q S) H) (hS : va_S A s.heap H locs) {ls : Array Slot} (hl : lv_has ls 2 [(0, .ref (q 0))]) : W p l e rmX12_bad s m args below meth c H locs 0 0 (MQ below (va_Qi (fun (r : Int32) (u : zSt) => (r, u) = z) (fun u t => va_P D vwCl (zW zshM zNM cy q u) t.heap) A) args s 0 0 A) (F0 m 14 ls [.int t0, .ref (q 0)]) := by
  have hx := cx.1
  have hb := cx.2.1
  unfold fX12_bad_14 at h
  obtain ⟨S2, eS2, h⟩ := zLt_e h
  refine zr_putI (pc := 14) cx lq_X12_66 hq hP hS nM_0 sM_0 rfl rfl rfl dX12_bad_14 (fun H locs hP hS => ?_)
  rw [← eS2] at hP
  refine lv_aload_n (pc := 17) hx hb dX12_bad_17 rfl (lv_at hl 0 rfl) ?_
  refine lv_aload_n (pc := 18) hx hb dX12_bad_18 rfl (lv_at hl 0 rfl) ?_
  refine zr_getI (pc := 19) cx lk_X12_24 hP nM_0 sM_0 rfl dX12_bad_19 ?_
  obtain ⟨S3, eS3, h⟩ := zLt_e h
  refine zr_putI (pc := 22) cx lq_X12_69 hq hP hS nM_0 sM_0 rfl rfl rfl dX12_bad_22 (fun H locs hP hS => ?_)
  rw [← eS3] at hP
  refine lv_iconst (pc := 25) hx hb dX12_bad_25 zc_0 ?_
  have hz := Option.some.inj h
  exact zr_rqZ (pc := 26) cx hr hlk hP hS hz (by decide) dX12_bad_26
def fX12_bad (S : zSt) (v1 : Int32) : Option (Int32 × zSt) :=
  zBr ((S.1 0 7) = (1 : Int32)) (fX12_bad_14 S (1 : Int32)) (fX12_bad_14 S v1)
set_option maxHeartbeats 4000000 in
set_option maxRecDepth 100000 in
theorem mX12_bad {l : Launch} {D : va_G} {cy : Nat → ClassId} {q : Nat → Nat} {A : Nat → Prop} {S : zSt} {v1 : Int32} (hq : zQ A q zNM) {z : (Int32 × zSt)} (h : fX12_bad S v1 = some z) : zMq l yX12_bad cX12_bad 2 (some .boolean) rmX12_bad [.ref (q 0), .int v1] zshM zNM D cy q A S z := by
  refine Met.ofW (cc := cX12_bad) (maxL := 2) (ret := (some .boolean)) (by decide) rfl ?_
  intro p e s m args below meth c s₁ B hml hv
  obtain ⟨rfl, hP, hK⟩ := hv
  have cx : zX RX12 cX12_bad 2 p s m ([.ref (q 0), .int v1]).toArray c D cy := ⟨B.exec, B.bytes, hml, findClass_of_methodNamed B.named, fun w hw => atoms_spec (ws := Cond.code yX12_bad cX12_bad 2 (some .boolean) :: zTB) B.pre w (List.mem_cons_of_mem _ hw), hK⟩
  have hx := cx.1
  have hb := cx.2.1
  have hr := B.returns
  have hlk := B.notSynchronized
  have hS : va_S A s.heap s.heap [] := va_S.rf
  have hl := lv_entry ([.ref (q 0), .int v1]) (n := 2) (Nat.le_of_ble_eq_true rfl)
  rw [lg_entry_eq]
  generalize (lg_sl ([.ref (q 0), .int v1]) ++ List.replicate (2 - (lg_sl ([.ref (q 0), .int v1])).length) Slot.unset).toArray = ls at hl ⊢
  have hl : lv_has ls 2 [(0, .ref (q 0)), (1, .int v1)] := hl
  unfold fX12_bad at h
  refine lv_aload_n (pc := 0) hx hb dX12_bad_0 rfl (lv_at hl 0 rfl) ?_
  refine lv_aload_n (pc := 1) hx hb dX12_bad_1 rfl (lv_at hl 0 rfl) ?_
  refine zr_getI (pc := 2) cx lk_X12_30 hP nM_0 sM_0 rfl dX12_bad_2 ?_
  refine lv_iconst (pc := 5) hx hb dX12_bad_5 zc_1 ?_
  refine lv_icmp_ne (pc := 6) (tgt := 13) hx hb dX12_bad_6 (by decide) (fun c1 => ?_) (fun c1 => ?_)
  · replace h := zBr_f c1 h
    refine lv_iload_n (pc := 13) hx hb dX12_bad_13 rfl (lv_at hl 1 rfl) ?_
    exact kX12_bad_14 cx hr hlk hq h hP hS (lv_sub hl [0] rfl)
  · replace h := zBr_t c1 h
    refine lv_iconst (pc := 9) hx hb dX12_bad_9 zc_1 ?_
    refine lv_goto (pc := 10) (tgt := 14) hx hb dX12_bad_10 (by decide) ?_
    exact kX12_bad_14 cx hr hlk hq h hP hS (lv_sub hl [0] rfl)
-- X12_isDigit
abbrev rmX12_isDigit : Room := { frames := 0, cells := 0, slots := 0, locals := 0 }
def fX12_isDigit (v0 : Int32) : Option Int32 :=
  zBr (v0 < (48 : Int32)) (some (0 : Int32)) (zBr ((57 : Int32) < v0) (some (0 : Int32)) (some (1 : Int32)))
set_option maxHeartbeats 4000000 in
set_option maxRecDepth 100000 in
theorem mX12_isDigit {l : Launch} {D : va_G} {cy : Nat → ClassId} {v0 : Int32} {z : Int32} (h : fX12_isDigit v0 = some z) : zMi l yX12_isDigit cX12_isDigit 1 (some .boolean) rmX12_isDigit [.int v0] (zPk D cy) z := by
  refine Met.ofW (cc := cX12_isDigit) (maxL := 1) (ret := (some .boolean)) (by decide) rfl ?_
  intro p e s m args below meth c s₁ B hml hv
  obtain ⟨rfl, hK⟩ := hv
  have cx : zX RX12 cX12_isDigit 1 p s m ([.int v0]).toArray c D cy := ⟨B.exec, B.bytes, hml, findClass_of_methodNamed B.named, fun w hw => atoms_spec (ws := Cond.code yX12_isDigit cX12_isDigit 1 (some .boolean) :: zTB) B.pre w (List.mem_cons_of_mem _ hw), hK⟩
  have hx := cx.1
  have hb := cx.2.1
  have hr := B.returns
  have hlk := B.notSynchronized
  have hl := lv_entry ([.int v0]) (n := 1) (Nat.le_of_ble_eq_true rfl)
  rw [lg_entry_eq]
  generalize (lg_sl ([.int v0]) ++ List.replicate (1 - (lg_sl ([.int v0])).length) Slot.unset).toArray = ls at hl ⊢
  have hl : lv_has ls 1 [(0, .int v0)] := hl
  unfold fX12_isDigit at h
  refine lv_iload_n (pc := 0) hx hb dX12_isDigit_0 rfl (lv_at hl 0 rfl) ?_
  refine lv_bipush (pc := 1) hx hb dX12_isDigit_1 zb_48 ?_
  refine lv_icmp_lt (pc := 3) (tgt := 16) hx hb dX12_isDigit_3 (by decide) (fun c1 => ?_) (fun c1 => ?_)
  · replace h := zBr_t c1 h
    refine lv_iconst (pc := 16) hx hb dX12_isDigit_16 zc_0 ?_
    have hz := Option.some.inj h
    exact zr_reZ (pc := 17) cx hr hlk hz (by decide) dX12_isDigit_17
  · replace h := zBr_f c1 h
    refine lv_iload_n (pc := 6) hx hb dX12_isDigit_6 rfl (lv_at hl 0 rfl) ?_
    refine lv_bipush (pc := 7) hx hb dX12_isDigit_7 zb_57 ?_
    refine lv_icmp_gt (pc := 9) (tgt := 16) hx hb dX12_isDigit_9 (by decide) (fun c2 => ?_) (fun c2 => ?_)
    · replace h := zBr_t c2 h
      refine lv_iconst (pc := 16) hx hb dX12_isDigit_16 zc_0 ?_
      have hz := Option.some.inj h
      exact zr_reZ (pc := 17) cx hr hlk hz (by decide) dX12_isDigit_17
    · replace h := zBr_f c2 h
      refine lv_iconst (pc := 12) hx hb dX12_isDigit_12 zc_1 ?_
      refine lv_goto (pc := 13) (tgt := 17) hx hb dX12_isDigit_13 (by decide) ?_
      have hz := Option.some.inj h
      exact zr_reZ (pc := 17) cx hr hlk hz (by decide) dX12_isDigit_17
-- X12_isLetter
abbrev rmX12_isLetter : Room := { frames := 0, cells := 0, slots := 0, locals := 0 }
def fX12_isLetter (v0 : Int32) : Option Int32 :=
  zBr (v0 < (97 : Int32)) (some (0 : Int32)) (zBr ((122 : Int32) < v0) (some (0 : Int32)) (some (1 : Int32)))
set_option maxHeartbeats 4000000 in
set_option maxRecDepth 100000 in
theorem mX12_isLetter {l : Launch} {D : va_G} {cy : Nat → ClassId} {v0 : Int32} {z : Int32} (h : fX12_isLetter v0 = some z) : zMi l yX12_isLetter cX12_isLetter 1 (some .boolean) rmX12_isLetter [.int v0] (zPk D cy) z := by
  refine Met.ofW (cc := cX12_isLetter) (maxL := 1) (ret := (some .boolean)) (by decide) rfl ?_
  intro p e s m args below meth c s₁ B hml hv
  obtain ⟨rfl, hK⟩ := hv
  have cx : zX RX12 cX12_isLetter 1 p s m ([.int v0]).toArray c D cy := ⟨B.exec, B.bytes, hml, findClass_of_methodNamed B.named, fun w hw => atoms_spec (ws := Cond.code yX12_isLetter cX12_isLetter 1 (some .boolean) :: zTB) B.pre w (List.mem_cons_of_mem _ hw), hK⟩
  have hx := cx.1
  have hb := cx.2.1
  have hr := B.returns
  have hlk := B.notSynchronized
  have hl := lv_entry ([.int v0]) (n := 1) (Nat.le_of_ble_eq_true rfl)
  rw [lg_entry_eq]
  generalize (lg_sl ([.int v0]) ++ List.replicate (1 - (lg_sl ([.int v0])).length) Slot.unset).toArray = ls at hl ⊢
  have hl : lv_has ls 1 [(0, .int v0)] := hl
  unfold fX12_isLetter at h
  refine lv_iload_n (pc := 0) hx hb dX12_isLetter_0 rfl (lv_at hl 0 rfl) ?_
  refine lv_bipush (pc := 1) hx hb dX12_isLetter_1 zb_97 ?_
  refine lv_icmp_lt (pc := 3) (tgt := 16) hx hb dX12_isLetter_3 (by decide) (fun c1 => ?_) (fun c1 => ?_)
  · replace h := zBr_t c1 h
    refine lv_iconst (pc := 16) hx hb dX12_isLetter_16 zc_0 ?_
    have hz := Option.some.inj h
    exact zr_reZ (pc := 17) cx hr hlk hz (by decide) dX12_isLetter_17
  · replace h := zBr_f c1 h
    refine lv_iload_n (pc := 6) hx hb dX12_isLetter_6 rfl (lv_at hl 0 rfl) ?_
    refine lv_bipush (pc := 7) hx hb dX12_isLetter_7 zb_122 ?_
    refine lv_icmp_gt (pc := 9) (tgt := 16) hx hb dX12_isLetter_9 (by decide) (fun c2 => ?_) (fun c2 => ?_)
    · replace h := zBr_t c2 h
      refine lv_iconst (pc := 16) hx hb dX12_isLetter_16 zc_0 ?_
      have hz := Option.some.inj h
      exact zr_reZ (pc := 17) cx hr hlk hz (by decide) dX12_isLetter_17
    · replace h := zBr_f c2 h
      refine lv_iconst (pc := 12) hx hb dX12_isLetter_12 zc_1 ?_
      refine lv_goto (pc := 13) (tgt := 17) hx hb dX12_isLetter_13 (by decide) ?_
      have hz := Option.some.inj h
      exact zr_reZ (pc := 17) cx hr hlk hz (by decide) dX12_isLetter_17
-- X12_tapeAt
abbrev rmX12_tapeAt : Room := { frames := 0, cells := 0, slots := 0, locals := 0 }
def fX12_tapeAt (S : zSt) (v1 : Int32) : Option Int32 :=
  zBr ((S.1 0 3) ≤ v1) (some (0 : Int32)) (zGd (zIx v1 940) (some (S.1 1 v1.toNatClampNeg)))
set_option maxHeartbeats 4000000 in
set_option maxRecDepth 100000 in
theorem mX12_tapeAt {l : Launch} {D : va_G} {cy : Nat → ClassId} {q : Nat → Nat} {S : zSt} {v1 : Int32} {z : Int32} (h : fX12_tapeAt S v1 = some z) : zMi l yX12_tapeAt cX12_tapeAt 2 (some .int) rmX12_tapeAt [.ref (q 0), .int v1] (zPr zshM zNM D cy q S) z := by
  refine Met.ofW (cc := cX12_tapeAt) (maxL := 2) (ret := (some .int)) (by decide) rfl ?_
  intro p e s m args below meth c s₁ B hml hv
  obtain ⟨rfl, hP, hK⟩ := hv
  have cx : zX RX12 cX12_tapeAt 2 p s m ([.ref (q 0), .int v1]).toArray c D cy := ⟨B.exec, B.bytes, hml, findClass_of_methodNamed B.named, fun w hw => atoms_spec (ws := Cond.code yX12_tapeAt cX12_tapeAt 2 (some .int) :: zTB) B.pre w (List.mem_cons_of_mem _ hw), hK⟩
  have hx := cx.1
  have hb := cx.2.1
  have hr := B.returns
  have hlk := B.notSynchronized
  have hl := lv_entry ([.ref (q 0), .int v1]) (n := 2) (Nat.le_of_ble_eq_true rfl)
  rw [lg_entry_eq]
  generalize (lg_sl ([.ref (q 0), .int v1]) ++ List.replicate (2 - (lg_sl ([.ref (q 0), .int v1])).length) Slot.unset).toArray = ls at hl ⊢
  have hl : lv_has ls 2 [(0, .ref (q 0)), (1, .int v1)] := hl
  unfold fX12_tapeAt at h
  refine lv_iload_n (pc := 0) hx hb dX12_tapeAt_0 rfl (lv_at hl 1 rfl) ?_
  refine lv_aload_n (pc := 1) hx hb dX12_tapeAt_1 rfl (lv_at hl 0 rfl) ?_
  refine zr_getI (pc := 2) cx lk_X12_18 hP nM_0 sM_0 rfl dX12_tapeAt_2 ?_
  refine lv_icmp_ge (pc := 5) (tgt := 17) hx hb dX12_tapeAt_5 (by decide) (fun c1 => ?_) (fun c1 => ?_)
  · replace h := zBr_t c1 h
    refine lv_iconst (pc := 17) hx hb dX12_tapeAt_17 zc_0 ?_
    have hz := Option.some.inj h
    exact zr_reI (pc := 18) cx hr hlk hz dX12_tapeAt_18
  · replace h := zBr_f c1 h
    refine lv_aload_n (pc := 8) hx hb dX12_tapeAt_8 rfl (lv_at hl 0 rfl) ?_
    refine zr_getR (pc := 9) (t := 1) cx lk_X12_7 hP nM_0 sM_0 rfl dX12_tapeAt_9 ?_
    refine lv_iload_n (pc := 12) hx hb dX12_tapeAt_12 rfl (lv_at hl 1 rfl) ?_
    obtain ⟨g2, h⟩ := zGd_e h
    refine zr_iald (pc := 13) cx hP nM_1 sM_1 g2 dX12_tapeAt_13 ?_
    refine lv_goto (pc := 14) (tgt := 18) hx hb dX12_tapeAt_14 (by decide) ?_
    have hz := Option.some.inj h
    exact zr_reI (pc := 18) cx hr hlk hz dX12_tapeAt_18
-- X12_go
abbrev rmX12_go : Room := { frames := 1, cells := 0, slots := 0, locals := 21 }
def fX12_go_337 (S : zSt)  (v2 : Int32) (v3 : Int32) : Option ((zSt × Int32) ⊕ zSt) :=
  zLt (zI S 0 5 ((S.1 0 5) + (1 : Int32))) (fun S25 => some (.inl (S25, v3)))
set_option maxHeartbeats 4000000 in
set_option maxRecDepth 100000 in
theorem kX12_go_337 {p : Program} {l : Launch} {e : Env} {s : State} {m : MethodId} {args : Array Value} {below : List Frame} {meth : Method} {c : Code} {D : va_G} {cy : Nat → ClassId} {q : Nat → Nat} {A : Nat → Prop} (cx : zX RX12 cX12_go 5 p s m args c D cy) (hr : meth.sig.returnType = none) (hlk : meth.locks = false) (hq : zQ A q zNM) {z : zSt} {S : zSt} {v2 : Int32} {v3 : Int32} {C1 : ((zSt × Int32) ⊕ zSt) → Prop} (hb1 : ∀ (S : zSt) (v3 : Int32), C1 (.inl (S, v3)) → ∀ (H : Heap) (locs : List Loc), va_P D vwCl (zW zshM zNM cy q S) H → va_S A s.heap H locs → ∀ (ls : Array Slot), lv_has ls 5 [(0, .ref (q 0)), (2, .int v2), (3, .int v3)] → W p l e rmX12_go s m args below meth c H locs 0 0 (MQ below (va_Qv (fun (u : zSt) => u = z) (fun u t => va_P D vwCl (zW zshM zNM cy q u) t.heap) A) args s 0 0 A) (F0 m 215 ls [])) (hx1 : ∀ a, C1 (.inr a) → a = z) {x : ((zSt × Int32) ⊕ zSt)} (h : fX12_go_337 S v2 v3 = some x) (hc : C1 x) {H : Heap} {locs : List Loc} (hP : va_P D vwCl (zW zshM zNM cy q S) H) (hS : va_S A s.heap H locs) {ls : Array Slot} (hl : lv_has ls 5 [(0, .ref (q 0)), (2, .int v2), (3, .int v3)]) : W p l e rmX12_go s m args below meth c H locs 0 0 (MQ below (va_Qv (fun (u : zSt) => u = z) (fun u t => va_P D vwCl (zW zshM zNM cy q u) t.heap) A) args s 0 0 A) (F0 m 337 ls []) := by
  have hx := cx.1
  have hb := cx.2.1
  unfold fX12_go_337 at h
  refine lv_aload_n (pc := 337) hx hb dX12_go_337 rfl (lv_at hl 0 rfl) ?_
  refine lv_dup (pc := 338) hx hb dX12_go_338 rfl ?_
  refine zr_getI (pc := 339) cx lk_X12_21 hP nM_0 sM_0 rfl dX12_go_339 ?_
  refine lv_iconst (pc := 342) hx hb dX12_go_342 zc_1 ?_
  refine lv_iadd (pc := 343) hx hb dX12_go_343 ?_
  obtain ⟨S25, eS25, h⟩ := zLt_e h
  refine zr_putI (pc := 344) cx lq_X12_21 hq hP hS nM_0 sM_0 rfl rfl rfl dX12_go_344 (fun H locs hP hS => ?_)
  rw [← eS25] at hP
  refine lv_goto (pc := 347) (tgt := 215) hx hb dX12_go_347 (by decide) ?_
  cases h
  exact hb1 _ _ hc _ _ hP hS _ (lv_sub hl [0, 1, 2] rfl)
def fX12_go_307 (S : zSt)  (v2 : Int32) (v3 : Int32) (v4 : Int32) : Option ((zSt × Int32) ⊕ zSt) :=
  zBr ((3 : Int32) ≤ ((S.1 0 5) - (S.1 0 6))) (fX12_go_337 S v2 v3) (zLt (zI S 0 8 ((((10 : Int32) * (S.1 0 8)) + v4) - (48 : Int32))) (fun S26 => fX12_go_337 S26 v2 v3))
set_option maxHeartbeats 4000000 in
set_option maxRecDepth 100000 in
theorem kX12_go_307 {p : Program} {l : Launch} {e : Env} {s : State} {m : MethodId} {args : Array Value} {below : List Frame} {meth : Method} {c : Code} {D : va_G} {cy : Nat → ClassId} {q : Nat → Nat} {A : Nat → Prop} (cx : zX RX12 cX12_go 5 p s m args c D cy) (hr : meth.sig.returnType = none) (hlk : meth.locks = false) (hq : zQ A q zNM) {z : zSt} {S : zSt} {v2 : Int32} {v3 : Int32} {v4 : Int32} {C1 : ((zSt × Int32) ⊕ zSt) → Prop} (hb1 : ∀ (S : zSt) (v3 : Int32), C1 (.inl (S, v3)) → ∀ (H : Heap) (locs : List Loc), va_P D vwCl (zW zshM zNM cy q S) H → va_S A s.heap H locs → ∀ (ls : Array Slot), lv_has ls 5 [(0, .ref (q 0)), (2, .int v2), (3, .int v3)] → W p l e rmX12_go s m args below meth c H locs 0 0 (MQ below (va_Qv (fun (u : zSt) => u = z) (fun u t => va_P D vwCl (zW zshM zNM cy q u) t.heap) A) args s 0 0 A) (F0 m 215 ls [])) (hx1 : ∀ a, C1 (.inr a) → a = z) {x : ((zSt × Int32) ⊕ zSt)} (h : fX12_go_307 S v2 v3 v4 = some x) (hc : C1 x) {H : Heap} {locs : List Loc} (hP : va_P D vwCl (zW zshM zNM cy q S) H) (hS : va_S A s.heap H locs) {ls : Array Slot} (hl : lv_has ls 5 [(0, .ref (q 0)), (2, .int v2), (3, .int v3), (4, .int v4)]) : W p l e rmX12_go s m args below meth c H locs 0 0 (MQ below (va_Qv (fun (u : zSt) => u = z) (fun u t => va_P D vwCl (zW zshM zNM cy q u) t.heap) A) args s 0 0 A) (F0 m 307 ls []) := by
  have hx := cx.1
  have hb := cx.2.1
  unfold fX12_go_307 at h
  refine lv_aload_n (pc := 307) hx hb dX12_go_307 rfl (lv_at hl 0 rfl) ?_
  refine zr_getI (pc := 308) cx lk_X12_21 hP nM_0 sM_0 rfl dX12_go_308 ?_
  refine lv_aload_n (pc := 311) hx hb dX12_go_311 rfl (lv_at hl 0 rfl) ?_
  refine zr_getI (pc := 312) cx lk_X12_24 hP nM_0 sM_0 rfl dX12_go_312 ?_
  refine lv_isub (pc := 315) hx hb dX12_go_315 ?_
  refine lv_iconst (pc := 316) hx hb dX12_go_316 zc_3 ?_
  refine lv_icmp_ge (pc := 317) (tgt := 337) hx hb dX12_go_317 (by decide) (fun c24 => ?_) (fun c24 => ?_)
  · replace h := zBr_t c24 h
    exact kX12_go_337 cx hr hlk hq hb1 hx1 h hc hP hS (lv_sub hl [0, 1, 2] rfl)
  · replace h := zBr_f c24 h
    refine lv_aload_n (pc := 320) hx hb dX12_go_320 rfl (lv_at hl 0 rfl) ?_
    refine lv_bipush (pc := 321) hx hb dX12_go_321 zb_10 ?_
    refine lv_aload_n (pc := 323) hx hb dX12_go_323 rfl (lv_at hl 0 rfl) ?_
    refine zr_getI (pc := 324) cx lk_X12_47 hP nM_0 sM_0 rfl dX12_go_324 ?_
    refine lv_imul (pc := 327) hx hb dX12_go_327 ?_
    refine lv_iload (pc := 328) hx hb dX12_go_328 (lv_at hl 3 rfl) ?_
    refine lv_iadd (pc := 330) hx hb dX12_go_330 ?_
    refine lv_bipush (pc := 331) hx hb dX12_go_331 zb_48 ?_
    refine lv_isub (pc := 333) hx hb dX12_go_333 ?_
    obtain ⟨S26, eS26, h⟩ := zLt_e h
    refine zr_putI (pc := 334) cx lq_X12_47 hq hP hS nM_0 sM_0 rfl rfl rfl dX12_go_334 (fun H locs hP hS => ?_)
    rw [← eS26] at hP
    exact kX12_go_337 cx hr hlk hq hb1 hx1 h hc hP hS (lv_sub hl [0, 1, 2] rfl)
def fX12_go_272 (S : zSt)  (v2 : Int32) (v4 : Int32) (t0 : Int32) : Option ((zSt × Int32) ⊕ zSt) :=
  zBr ((7 : Int32) ≤ ((S.1 0 5) - (S.1 0 6))) (fX12_go_307 S v2 t0 v4) (zLt (zJ S 0 12 ((((27 : Int64) * (S.2 0 12)) + ((v4).toInt64)) - (96 : Int64))) (fun S27 => fX12_go_307 S27 v2 t0 v4))
set_option maxHeartbeats 4000000 in
set_option maxRecDepth 100000 in
theorem kX12_go_272 {p : Program} {l : Launch} {e : Env} {s : State} {m : MethodId} {args : Array Value} {below : List Frame} {meth : Method} {c : Code} {D : va_G} {cy : Nat → ClassId} {q : Nat → Nat} {A : Nat → Prop} (cx : zX RX12 cX12_go 5 p s m args c D cy) (hr : meth.sig.returnType = none) (hlk : meth.locks = false) (hq : zQ A q zNM) {z : zSt} {S : zSt} {v2 : Int32} {v4 : Int32} {t0 : Int32} {C1 : ((zSt × Int32) ⊕ zSt) → Prop} (hb1 : ∀ (S : zSt) (v3 : Int32), C1 (.inl (S, v3)) → ∀ (H : Heap) (locs : List Loc), va_P D vwCl (zW zshM zNM cy q S) H → va_S A s.heap H locs → ∀ (ls : Array Slot), lv_has ls 5 [(0, .ref (q 0)), (2, .int v2), (3, .int v3)] → W p l e rmX12_go s m args below meth c H locs 0 0 (MQ below (va_Qv (fun (u : zSt) => u = z) (fun u t => va_P D vwCl (zW zshM zNM cy q u) t.heap) A) args s 0 0 A) (F0 m 215 ls [])) (hx1 : ∀ a, C1 (.inr a) → a = z) {x : ((zSt × Int32) ⊕ zSt)} (h : fX12_go_272 S v2 v4 t0 = some x) (hc : C1 x) {H : Heap} {locs : List Loc} (hP : va_P D vwCl (zW zshM zNM cy q S) H) (hS : va_S A s.heap H locs) {ls : Array Slot} (hl : lv_has ls 5 [(0, .ref (q 0)), (2, .int v2), (4, .int v4)]) : W p l e rmX12_go s m args below meth c H locs 0 0 (MQ below (va_Qv (fun (u : zSt) => u = z) (fun u t => va_P D vwCl (zW zshM zNM cy q u) t.heap) A) args s 0 0 A) (F0 m 272 ls [.int t0]) := by
  have hx := cx.1
  have hb := cx.2.1
  unfold fX12_go_272 at h
  refine lv_istore_n (lv' := [(3, .int t0), (0, .ref (q 0)), (2, .int v2), (4, .int v4)]) (pc := 272) hx hb dX12_go_272 rfl hl (by decide) rfl (fun ls hl => ?_)
  refine lv_aload_n (pc := 273) hx hb dX12_go_273 rfl (lv_at hl 1 rfl) ?_
  refine zr_getI (pc := 274) cx lk_X12_21 hP nM_0 sM_0 rfl dX12_go_274 ?_
  refine lv_aload_n (pc := 277) hx hb dX12_go_277 rfl (lv_at hl 1 rfl) ?_
  refine zr_getI (pc := 278) cx lk_X12_24 hP nM_0 sM_0 rfl dX12_go_278 ?_
  refine lv_isub (pc := 281) hx hb dX12_go_281 ?_
  refine lv_bipush (pc := 282) hx hb dX12_go_282 zb_7 ?_
  refine lv_icmp_ge (pc := 284) (tgt := 307) hx hb dX12_go_284 (by decide) (fun c23 => ?_) (fun c23 => ?_)
  · replace h := zBr_t c23 h
    exact kX12_go_307 cx hr hlk hq hb1 hx1 h hc hP hS (lv_sub hl [1, 2, 0, 3] rfl)
  · replace h := zBr_f c23 h
    refine lv_aload_n (pc := 287) hx hb dX12_go_287 rfl (lv_at hl 1 rfl) ?_
    refine lv_ldc2 (pc := 288) hx hb cx.2.2.2.1 (cx.2.2.2.2.1 _ wd_1647) dX12_go_288 ?_
    refine lv_aload_n (pc := 291) hx hb dX12_go_291 rfl (lv_at hl 1 rfl) ?_
    refine zr_getJ (pc := 292) cx lk_X12_43 hP nM_0 sM_0 rfl dX12_go_292 ?_
    refine lv_lmul (pc := 295) hx hb dX12_go_295 ?_
    refine lv_iload (pc := 296) hx hb dX12_go_296 (lv_at hl 3 rfl) ?_
    refine lv_i2l (v := ((v4).toInt64)) (pc := 298) hx hb dX12_go_298 rfl ?_
    refine lv_ladd (pc := 299) hx hb dX12_go_299 ?_
    refine lv_ldc2 (pc := 300) hx hb cx.2.2.2.1 (cx.2.2.2.2.1 _ wd_1648) dX12_go_300 ?_
    refine lv_lsub (pc := 303) hx hb dX12_go_303 ?_
    obtain ⟨S27, eS27, h⟩ := zLt_e h
    refine zr_putJ (pc := 304) cx lq_X12_43 hq hP hS nM_0 sM_0 rfl dX12_go_304 (fun H locs hP hS => ?_)
    rw [← eS27] at hP
    exact kX12_go_307 cx hr hlk hq hb1 hx1 h hc hP hS (lv_sub hl [1, 2, 0, 3] rfl)
def fX12_go_271 (S : zSt)  (v2 : Int32) (v4 : Int32) : Option ((zSt × Int32) ⊕ zSt) :=
  fX12_go_272 S v2 v4 (0 : Int32)
set_option maxHeartbeats 4000000 in
set_option maxRecDepth 100000 in
theorem kX12_go_271 {p : Program} {l : Launch} {e : Env} {s : State} {m : MethodId} {args : Array Value} {below : List Frame} {meth : Method} {c : Code} {D : va_G} {cy : Nat → ClassId} {q : Nat → Nat} {A : Nat → Prop} (cx : zX RX12 cX12_go 5 p s m args c D cy) (hr : meth.sig.returnType = none) (hlk : meth.locks = false) (hq : zQ A q zNM) {z : zSt} {S : zSt} {v2 : Int32} {v4 : Int32} {C1 : ((zSt × Int32) ⊕ zSt) → Prop} (hb1 : ∀ (S : zSt) (v3 : Int32), C1 (.inl (S, v3)) → ∀ (H : Heap) (locs : List Loc), va_P D vwCl (zW zshM zNM cy q S) H → va_S A s.heap H locs → ∀ (ls : Array Slot), lv_has ls 5 [(0, .ref (q 0)), (2, .int v2), (3, .int v3)] → W p l e rmX12_go s m args below meth c H locs 0 0 (MQ below (va_Qv (fun (u : zSt) => u = z) (fun u t => va_P D vwCl (zW zshM zNM cy q u) t.heap) A) args s 0 0 A) (F0 m 215 ls [])) (hx1 : ∀ a, C1 (.inr a) → a = z) {x : ((zSt × Int32) ⊕ zSt)} (h : fX12_go_271 S v2 v4 = some x) (hc : C1 x) {H : Heap} {locs : List Loc} (hP : va_P D vwCl (zW zshM zNM cy q S) H) (hS : va_S A s.heap H locs) {ls : Array Slot} (hl : lv_has ls 5 [(0, .ref (q 0)), (2, .int v2), (4, .int v4)]) : W p l e rmX12_go s m args below meth c H locs 0 0 (MQ below (va_Qv (fun (u : zSt) => u = z) (fun u t => va_P D vwCl (zW zshM zNM cy q u) t.heap) A) args s 0 0 A) (F0 m 271 ls []) := by
  have hx := cx.1
  have hb := cx.2.1
  unfold fX12_go_271 at h
  refine lv_iconst (pc := 271) hx hb dX12_go_271 zc_0 ?_
  exact kX12_go_272 cx hr hlk hq hb1 hx1 h hc hP hS (lv_sub hl [0, 1, 2] rfl)
def fX12_go_243 (S : zSt)  (v2 : Int32) (v3 : Int32) : Option ((zSt × Int32) ⊕ zSt) :=
  zGd (zIx (S.1 0 5) 940) (zLt (S.1 1 (S.1 0 5).toNatClampNeg) (fun x21 => zBr (v3 = 0) (fX12_go_271 S v2 x21) (zBd (fX12_isLetter x21) (fun r29 => zBr (r29 = v2) (fX12_go_272 S v2 x21 (1 : Int32)) (fX12_go_271 S v2 x21)))))
set_option maxHeartbeats 4000000 in
set_option maxRecDepth 100000 in
theorem kX12_go_243 {p : Program} {l : Launch} {e : Env} {s : State} {m : MethodId} {args : Array Value} {below : List Frame} {meth : Method} {c : Code} {D : va_G} {cy : Nat → ClassId} {q : Nat → Nat} {A : Nat → Prop} (cx : zX RX12 cX12_go 5 p s m args c D cy) (hr : meth.sig.returnType = none) (hlk : meth.locks = false) (hq : zQ A q zNM) {z : zSt} {S : zSt} {v2 : Int32} {v3 : Int32} {C1 : ((zSt × Int32) ⊕ zSt) → Prop} (hb1 : ∀ (S : zSt) (v3 : Int32), C1 (.inl (S, v3)) → ∀ (H : Heap) (locs : List Loc), va_P D vwCl (zW zshM zNM cy q S) H → va_S A s.heap H locs → ∀ (ls : Array Slot), lv_has ls 5 [(0, .ref (q 0)), (2, .int v2), (3, .int v3)] → W p l e rmX12_go s m args below meth c H locs 0 0 (MQ below (va_Qv (fun (u : zSt) => u = z) (fun u t => va_P D vwCl (zW zshM zNM cy q u) t.heap) A) args s 0 0 A) (F0 m 215 ls [])) (hx1 : ∀ a, C1 (.inr a) → a = z) {x : ((zSt × Int32) ⊕ zSt)} (h : fX12_go_243 S v2 v3 = some x) (hc : C1 x) {H : Heap} {locs : List Loc} (hP : va_P D vwCl (zW zshM zNM cy q S) H) (hS : va_S A s.heap H locs) {ls : Array Slot} (hl : lv_has ls 5 [(0, .ref (q 0)), (2, .int v2), (3, .int v3)]) : W p l e rmX12_go s m args below meth c H locs 0 0 (MQ below (va_Qv (fun (u : zSt) => u = z) (fun u t => va_P D vwCl (zW zshM zNM cy q u) t.heap) A) args s 0 0 A) (F0 m 243 ls []) := by
  have hx := cx.1
  have hb := cx.2.1
  unfold fX12_go_243 at h
  refine lv_aload_n (pc := 243) hx hb dX12_go_243 rfl (lv_at hl 0 rfl) ?_
  refine zr_getR (pc := 244) (t := 1) cx lk_X12_7 hP nM_0 sM_0 rfl dX12_go_244 ?_
  refine lv_aload_n (pc := 247) hx hb dX12_go_247 rfl (lv_at hl 0 rfl) ?_
  refine zr_getI (pc := 248) cx lk_X12_21 hP nM_0 sM_0 rfl dX12_go_248 ?_
  obtain ⟨g20, h⟩ := zGd_e h
  refine zr_iald (pc := 251) cx hP nM_1 sM_1 g20 dX12_go_251 ?_
  obtain ⟨x21, ex21, h⟩ := zLt_e h
  refine zr_nmI ex21 ?_
  refine lv_istore (lv' := [(4, .int x21), (0, .ref (q 0)), (2, .int v2), (3, .int v3)]) (pc := 252) hx hb dX12_go_252 hl (by decide) rfl (fun ls hl => ?_)
  refine lv_iload_n (pc := 254) hx hb dX12_go_254 rfl (lv_at hl 3 rfl) ?_
  refine lv_if_eq (pc := 255) (tgt := 271) hx hb dX12_go_255 (by decide) (fun c22 => ?_) (fun c22 => ?_)
  · replace h := zBr_t c22 h
    exact kX12_go_271 cx hr hlk hq hb1 hx1 h hc hP hS (lv_sub hl [1, 2, 0] rfl)
  · replace h := zBr_f c22 h
    refine lv_iload (pc := 258) hx hb dX12_go_258 (lv_at hl 0 rfl) ?_
    obtain ⟨r29, k28, h⟩ := zBd_e h
    refine zr_SI (pc := 260) (rest := []) cx cv_X12_33 (mX12_isLetter k28) ⟨⟨rfl, rfl⟩, Nat.le_of_ble_eq_true rfl, Nat.le_of_ble_eq_true rfl⟩ ⟨Nat.le_of_ble_eq_true rfl, Nat.le_of_ble_eq_true rfl⟩ (zr_preK cx) hl.1 rfl rfl (Nat.le_of_ble_eq_true rfl) dX12_go_260 ?_
    refine lv_iload_n (pc := 263) hx hb dX12_go_263 rfl (lv_at hl 2 rfl) ?_
    refine lv_icmp_ne (pc := 264) (tgt := 271) hx hb dX12_go_264 (by decide) (fun c30 => ?_) (fun c30 => ?_)
    · replace h := zBr_f c30 h
      exact kX12_go_271 cx hr hlk hq hb1 hx1 h hc hP hS (lv_sub hl [1, 2, 0] rfl)
    · replace h := zBr_t c30 h
      refine lv_iconst (pc := 267) hx hb dX12_go_267 zc_1 ?_
      refine lv_goto (pc := 268) (tgt := 272) hx hb dX12_go_268 (by decide) ?_
      exact kX12_go_272 cx hr hlk hq hb1 hx1 h hc hP hS (lv_sub hl [1, 2, 0] rfl)
def fX12_go_374 (S : zSt)  (v2 : Int32) (t0 : Int32) (t1 : Int32) : Option zSt :=
  zBr (t1 ≤ t0) (zBr (v2 = 0) (zLt (zI S 0 7 (3 : Int32)) (fun S42 => some S42)) (zLt (zI S 0 7 (2 : Int32)) (fun S43 => some S43))) (zLt (zI S 0 7 (1 : Int32)) (fun S44 => some S44))
set_option maxHeartbeats 4000000 in
set_option maxRecDepth 100000 in
theorem kX12_go_374 {p : Program} {l : Launch} {e : Env} {s : State} {m : MethodId} {args : Array Value} {below : List Frame} {meth : Method} {c : Code} {D : va_G} {cy : Nat → ClassId} {q : Nat → Nat} {A : Nat → Prop} (cx : zX RX12 cX12_go 5 p s m args c D cy) (hr : meth.sig.returnType = none) (hlk : meth.locks = false) (hq : zQ A q zNM) {z : zSt} {S : zSt} {v2 : Int32} {t0 : Int32} {t1 : Int32} (h : fX12_go_374 S v2 t0 t1 = some z) {H : Heap} {locs : List Loc} (hP : va_P D vwCl (zW zshM zNM cy q S) H) (hS : va_S A s.heap H locs) {ls : Array Slot} (hl : lv_has ls 5 [(2, .int v2)]) : W p l e rmX12_go s m args below meth c H locs 0 0 (MQ below (va_Qv (fun (u : zSt) => u = z) (fun u t => va_P D vwCl (zW zshM zNM cy q u) t.heap) A) args s 0 0 A) (F0 m 374 ls [.int t0, .int t1, .ref (q 0)]) := by
  have hx := cx.1
  have hb := cx.2.1
  unfold fX12_go_374 at h
  refine lv_icmp_le (pc := 374) (tgt := 381) hx hb dX12_go_374 (by decide) (fun c40 => ?_) (fun c40 => ?_)
  · replace h := zBr_t c40 h
    refine lv_iload_n (pc := 381) hx hb dX12_go_381 rfl (lv_at hl 0 rfl) ?_
    refine lv_if_eq (pc := 382) (tgt := 389) hx hb dX12_go_382 (by decide) (fun c41 => ?_) (fun c41 => ?_)
    · replace h := zBr_t c41 h
      refine lv_iconst (pc := 389) hx hb dX12_go_389 zc_3 ?_
      obtain ⟨S42, eS42, h⟩ := zLt_e h
      refine zr_putI (pc := 390) cx lq_X12_30 hq hP hS nM_0 sM_0 rfl rfl rfl dX12_go_390 (fun H locs hP hS => ?_)
      rw [← eS42] at hP
      have hz := Option.some.inj h
      exact zr_rqV (pc := 393) cx hr hlk hP hS hz dX12_go_393
    · replace h := zBr_f c41 h
      refine lv_iconst (pc := 385) hx hb dX12_go_385 zc_2 ?_
      refine lv_goto (pc := 386) (tgt := 390) hx hb dX12_go_386 (by decide) ?_
      obtain ⟨S43, eS43, h⟩ := zLt_e h
      refine zr_putI (pc := 390) cx lq_X12_30 hq hP hS nM_0 sM_0 rfl rfl rfl dX12_go_390 (fun H locs hP hS => ?_)
      rw [← eS43] at hP
      have hz := Option.some.inj h
      exact zr_rqV (pc := 393) cx hr hlk hP hS hz dX12_go_393
  · replace h := zBr_f c40 h
    refine lv_iconst (pc := 377) hx hb dX12_go_377 zc_1 ?_
    refine lv_goto (pc := 378) (tgt := 390) hx hb dX12_go_378 (by decide) ?_
    obtain ⟨S44, eS44, h⟩ := zLt_e h
    refine zr_putI (pc := 390) cx lq_X12_30 hq hP hS nM_0 sM_0 rfl rfl rfl dX12_go_390 (fun H locs hP hS => ?_)
    rw [← eS44] at hP
    have hz := Option.some.inj h
    exact zr_rqV (pc := 393) cx hr hlk hP hS hz dX12_go_393
def fX12_go_215  (v2 : Int32) (t : (zSt × Int32)) : Option ((zSt × Int32) ⊕ zSt) :=
  match t with
  | (S, v3) => zBd (fX12_tapeAt S (S.1 0 5)) (fun r16 => zBd (fX12_isLetter r16) (fun r18 => zBr (r18 = 0) (zBd (fX12_tapeAt S (S.1 0 5)) (fun r32 => zBd (fX12_isDigit r32) (fun r34 => zBr (r34 = 0) (zXr (zBr (v3 = 0) (zLt (zI S 0 7 (1 : Int32)) (fun S38 => some S38)) (zBr (v2 = 0) (fX12_go_374 S v2 (3 : Int32) ((S.1 0 5) - (S.1 0 6))) (fX12_go_374 S v2 (7 : Int32) ((S.1 0 5) - (S.1 0 6)))))) (fX12_go_243 S v2 v3)))) (fX12_go_243 S v2 v3)))
set_option maxHeartbeats 4000000 in
set_option maxRecDepth 100000 in
theorem kX12_go_215B {p : Program} {l : Launch} {e : Env} {s : State} {m : MethodId} {args : Array Value} {below : List Frame} {meth : Method} {c : Code} {D : va_G} {cy : Nat → ClassId} {q : Nat → Nat} {A : Nat → Prop} (cx : zX RX12 cX12_go 5 p s m args c D cy) (hr : meth.sig.returnType = none) (hlk : meth.locks = false) (hq : zQ A q zNM) {z : zSt} {S : zSt} {v2 : Int32} {v3 : Int32} {C1 : ((zSt × Int32) ⊕ zSt) → Prop} (hb1 : ∀ (S : zSt) (v3 : Int32), C1 (.inl (S, v3)) → ∀ (H : Heap) (locs : List Loc), va_P D vwCl (zW zshM zNM cy q S) H → va_S A s.heap H locs → ∀ (ls : Array Slot), lv_has ls 5 [(0, .ref (q 0)), (2, .int v2), (3, .int v3)] → W p l e rmX12_go s m args below meth c H locs 0 0 (MQ below (va_Qv (fun (u : zSt) => u = z) (fun u t => va_P D vwCl (zW zshM zNM cy q u) t.heap) A) args s 0 0 A) (F0 m 215 ls [])) (hx1 : ∀ a, C1 (.inr a) → a = z) {x : ((zSt × Int32) ⊕ zSt)} (h : fX12_go_215 v2 (S, v3) = some x) (hc : C1 x) {H : Heap} {locs : List Loc} (hP : va_P D vwCl (zW zshM zNM cy q S) H) (hS : va_S A s.heap H locs) {ls : Array Slot} (hl : lv_has ls 5 [(0, .ref (q 0)), (2, .int v2), (3, .int v3)]) : W p l e rmX12_go s m args below meth c H locs 0 0 (MQ below (va_Qv (fun (u : zSt) => u = z) (fun u t => va_P D vwCl (zW zshM zNM cy q u) t.heap) A) args s 0 0 A) (F0 m 215 ls []) := by
  have hx := cx.1
  have hb := cx.2.1
  unfold fX12_go_215 at h
  dsimp only at h
  refine lv_aload_n (pc := 215) hx hb dX12_go_215 rfl (lv_at hl 0 rfl) ?_
  refine lv_aload_n (pc := 216) hx hb dX12_go_216 rfl (lv_at hl 0 rfl) ?_
  refine zr_getI (pc := 217) cx lk_X12_21 hP nM_0 sM_0 rfl dX12_go_217 ?_
  obtain ⟨r16, k15, h⟩ := zBd_e h
  refine zr_VI (pc := 220) (rest := []) cx cv_X12_50 (mX12_tapeAt k15) ⟨⟨rfl, rfl⟩, Nat.le_of_ble_eq_true rfl, Nat.le_of_ble_eq_true rfl⟩ ⟨Nat.le_of_ble_eq_true rfl, Nat.le_of_ble_eq_true rfl⟩ hP nM_0 sM_0 rfl hl.1 rfl rfl (Nat.le_of_ble_eq_true rfl) dX12_go_220 ?_
  obtain ⟨r18, k17, h⟩ := zBd_e h
  refine zr_SI (pc := 223) (rest := []) cx cv_X12_33 (mX12_isLetter k17) ⟨⟨rfl, rfl⟩, Nat.le_of_ble_eq_true rfl, Nat.le_of_ble_eq_true rfl⟩ ⟨Nat.le_of_ble_eq_true rfl, Nat.le_of_ble_eq_true rfl⟩ (zr_preK cx) hl.1 rfl rfl (Nat.le_of_ble_eq_true rfl) dX12_go_223 ?_
  refine lv_if_ne (pc := 226) (tgt := 243) hx hb dX12_go_226 (by decide) (fun c19 => ?_) (fun c19 => ?_)
  · replace h := zBr_f c19 h
    exact kX12_go_243 cx hr hlk hq hb1 hx1 h hc hP hS (lv_sub hl [0, 1, 2] rfl)
  · replace h := zBr_t c19 h
    refine lv_aload_n (pc := 229) hx hb dX12_go_229 rfl (lv_at hl 0 rfl) ?_
    refine lv_aload_n (pc := 230) hx hb dX12_go_230 rfl (lv_at hl 0 rfl) ?_
    refine zr_getI (pc := 231) cx lk_X12_21 hP nM_0 sM_0 rfl dX12_go_231 ?_
    obtain ⟨r32, k31, h⟩ := zBd_e h
    refine zr_VI (pc := 234) (rest := []) cx cv_X12_50 (mX12_tapeAt k31) ⟨⟨rfl, rfl⟩, Nat.le_of_ble_eq_true rfl, Nat.le_of_ble_eq_true rfl⟩ ⟨Nat.le_of_ble_eq_true rfl, Nat.le_of_ble_eq_true rfl⟩ hP nM_0 sM_0 rfl hl.1 rfl rfl (Nat.le_of_ble_eq_true rfl) dX12_go_234 ?_
    obtain ⟨r34, k33, h⟩ := zBd_e h
    refine zr_SI (pc := 237) (rest := []) cx cv_X12_37 (mX12_isDigit k33) ⟨⟨rfl, rfl⟩, Nat.le_of_ble_eq_true rfl, Nat.le_of_ble_eq_true rfl⟩ ⟨Nat.le_of_ble_eq_true rfl, Nat.le_of_ble_eq_true rfl⟩ (zr_preK cx) hl.1 rfl rfl (Nat.le_of_ble_eq_true rfl) dX12_go_237 ?_
    refine lv_if_eq (pc := 240) (tgt := 350) hx hb dX12_go_240 (by decide) (fun c35 => ?_) (fun c35 => ?_)
    · replace h := zBr_t c35 h
      obtain ⟨y36, h, ex⟩ := zXr_e h
      have hc := hx1 y36 (by rw [ex] at hc; exact hc)
      rw [hc] at h
      refine lv_aload_n (pc := 350) hx hb dX12_go_350 rfl (lv_at hl 0 rfl) ?_
      refine lv_iload_n (pc := 351) hx hb dX12_go_351 rfl (lv_at hl 2 rfl) ?_
      refine lv_if_eq (pc := 352) (tgt := 377) hx hb dX12_go_352 (by decide) (fun c37 => ?_) (fun c37 => ?_)
      · replace h := zBr_t c37 h
        refine lv_iconst (pc := 377) hx hb dX12_go_377 zc_1 ?_
        refine lv_goto (pc := 378) (tgt := 390) hx hb dX12_go_378 (by decide) ?_
        obtain ⟨S38, eS38, h⟩ := zLt_e h
        refine zr_putI (pc := 390) cx lq_X12_30 hq hP hS nM_0 sM_0 rfl rfl rfl dX12_go_390 (fun H locs hP hS => ?_)
        rw [← eS38] at hP
        have hz := Option.some.inj h
        exact zr_rqV (pc := 393) cx hr hlk hP hS hz dX12_go_393
      · replace h := zBr_f c37 h
        refine lv_aload_n (pc := 355) hx hb dX12_go_355 rfl (lv_at hl 0 rfl) ?_
        refine zr_getI (pc := 356) cx lk_X12_21 hP nM_0 sM_0 rfl dX12_go_356 ?_
        refine lv_aload_n (pc := 359) hx hb dX12_go_359 rfl (lv_at hl 0 rfl) ?_
        refine zr_getI (pc := 360) cx lk_X12_24 hP nM_0 sM_0 rfl dX12_go_360 ?_
        refine lv_isub (pc := 363) hx hb dX12_go_363 ?_
        refine lv_iload_n (pc := 364) hx hb dX12_go_364 rfl (lv_at hl 1 rfl) ?_
        refine lv_if_eq (pc := 365) (tgt := 373) hx hb dX12_go_365 (by decide) (fun c39 => ?_) (fun c39 => ?_)
        · replace h := zBr_t c39 h
          refine lv_iconst (pc := 373) hx hb dX12_go_373 zc_3 ?_
          exact kX12_go_374 cx hr hlk hq h hP hS (lv_sub hl [1] rfl)
        · replace h := zBr_f c39 h
          refine lv_bipush (pc := 368) hx hb dX12_go_368 zb_7 ?_
          refine lv_goto (pc := 370) (tgt := 374) hx hb dX12_go_370 (by decide) ?_
          exact kX12_go_374 cx hr hlk hq h hP hS (lv_sub hl [1] rfl)
    · replace h := zBr_f c35 h
      exact kX12_go_243 cx hr hlk hq hb1 hx1 h hc hP hS (lv_sub hl [0, 1, 2] rfl)
set_option maxHeartbeats 4000000 in
set_option maxRecDepth 100000 in
theorem kX12_go_215 {p : Program} {l : Launch} {e : Env} {s : State} {m : MethodId} {args : Array Value} {below : List Frame} {meth : Method} {c : Code} {D : va_G} {cy : Nat → ClassId} {q : Nat → Nat} {A : Nat → Prop} (cx : zX RX12 cX12_go 5 p s m args c D cy) (hr : meth.sig.returnType = none) (hlk : meth.locks = false) (hq : zQ A q zNM) {z : zSt} {v2 : Int32} : ∀ (n : Nat) (S : zSt) (v3 : Int32), zLp (fX12_go_215 v2) n (S, v3) = some z → ∀ (H : Heap) (locs : List Loc), va_P D vwCl (zW zshM zNM cy q S) H → va_S A s.heap H locs → ∀ (ls : Array Slot), lv_has ls 5 [(0, .ref (q 0)), (2, .int v2), (3, .int v3)] → W p l e rmX12_go s m args below meth c H locs 0 0 (MQ below (va_Qv (fun (u : zSt) => u = z) (fun u t => va_P D vwCl (zW zshM zNM cy q u) t.heap) A) args s 0 0 A) (F0 m 215 ls []) := by
  intro n
  induction n with
  | zero =>
    intro S v3 h
    cases h
  | succ n ih =>
    intro S v3 h H locs hP hS ls hl
    obtain ⟨x, h, hk⟩ := zLp_e h
    exact kX12_go_215B cx hr hlk hq  (C1 := zKt (fun t => zLp (fX12_go_215 v2) n t = some z) (fun a => a = z)) (fun S v3 ht H locs hP hS ls hl => ih S v3 ht H locs hP hS ls hl) (fun a ha => ha) h hk hP hS hl
def fX12_go_198 (S : zSt)  (v1 : Int32) : Option zSt :=
  zBd (fX12_isLetter v1) (fun r12 => zLt (zJ S 0 12 (0 : Int64)) (fun S13 => zLt (zI S13 0 8 (0 : Int32)) (fun S14 => zLp (fX12_go_215 r12) 2000 (S14, (1 : Int32)))))
set_option maxHeartbeats 4000000 in
set_option maxRecDepth 100000 in
theorem kX12_go_198 {p : Program} {l : Launch} {e : Env} {s : State} {m : MethodId} {args : Array Value} {below : List Frame} {meth : Method} {c : Code} {D : va_G} {cy : Nat → ClassId} {q : Nat → Nat} {A : Nat → Prop} (cx : zX RX12 cX12_go 5 p s m args c D cy) (hr : meth.sig.returnType = none) (hlk : meth.locks = false) (hq : zQ A q zNM) {z : zSt} {S : zSt} {v1 : Int32} (h : fX12_go_198 S v1 = some z) {H : Heap} {locs : List Loc} (hP : va_P D vwCl (zW zshM zNM cy q S) H) (hS : va_S A s.heap H locs) {ls : Array Slot} (hl : lv_has ls 5 [(0, .ref (q 0)), (1, .int v1)]) : W p l e rmX12_go s m args below meth c H locs 0 0 (MQ below (va_Qv (fun (u : zSt) => u = z) (fun u t => va_P D vwCl (zW zshM zNM cy q u) t.heap) A) args s 0 0 A) (F0 m 198 ls []) := by
  have hx := cx.1
  have hb := cx.2.1
  unfold fX12_go_198 at h
  refine lv_iload_n (pc := 198) hx hb dX12_go_198 rfl (lv_at hl 1 rfl) ?_
  obtain ⟨r12, k11, h⟩ := zBd_e h
  refine zr_SI (pc := 199) (rest := []) cx cv_X12_33 (mX12_isLetter k11) ⟨⟨rfl, rfl⟩, Nat.le_of_ble_eq_true rfl, Nat.le_of_ble_eq_true rfl⟩ ⟨Nat.le_of_ble_eq_true rfl, Nat.le_of_ble_eq_true rfl⟩ (zr_preK cx) hl.1 rfl rfl (Nat.le_of_ble_eq_true rfl) dX12_go_199 ?_
  refine lv_istore_n (lv' := [(2, .int r12), (0, .ref (q 0)), (1, .int v1)]) (pc := 202) hx hb dX12_go_202 rfl hl (by decide) rfl (fun ls hl => ?_)
  refine lv_iconst (pc := 203) hx hb dX12_go_203 zc_1 ?_
  refine lv_istore_n (lv' := [(3, .int (1 : Int32)), (2, .int r12), (0, .ref (q 0)), (1, .int v1)]) (pc := 204) hx hb dX12_go_204 rfl hl (by decide) rfl (fun ls hl => ?_)
  refine lv_aload_n (pc := 205) hx hb dX12_go_205 rfl (lv_at hl 2 rfl) ?_
  refine lv_lconst (v := 0) (pc := 206) hx hb dX12_go_206 rfl ?_
  obtain ⟨S13, eS13, h⟩ := zLt_e h
  refine zr_putJ (pc := 207) cx lq_X12_43 hq hP hS nM_0 sM_0 rfl dX12_go_207 (fun H locs hP hS => ?_)
  rw [← eS13] at hP
  refine lv_aload_n (pc := 210) hx hb dX12_go_210 rfl (lv_at hl 2 rfl) ?_
  refine lv_iconst (pc := 211) hx hb dX12_go_211 zc_0 ?_
  obtain ⟨S14, eS14, h⟩ := zLt_e h
  refine zr_putI (pc := 212) cx lq_X12_47 hq hP hS nM_0 sM_0 rfl rfl rfl dX12_go_212 (fun H locs hP hS => ?_)
  rw [← eS14] at hP
  exact kX12_go_215 cx hr hlk hq 2000 _ _ h _ _ hP hS _ (lv_sub hl [2, 1, 0] rfl)
def fX12_go_179 (S : zSt)  (v1 : Int32) (t0 : Int32) : Option zSt :=
  zLt (zI S 0 7 t0) (fun S49 => zLt (zI S49 0 9 v1) (fun S50 => zLt (zI S50 0 5 ((S50.1 0 5) + (1 : Int32))) (fun S51 => some S51)))
set_option maxHeartbeats 4000000 in
set_option maxRecDepth 100000 in
theorem kX12_go_179 {p : Program} {l : Launch} {e : Env} {s : State} {m : MethodId} {args : Array Value} {below : List Frame} {meth : Method} {c : Code} {D : va_G} {cy : Nat → ClassId} {q : Nat → Nat} {A : Nat → Prop} (cx : zX RX12 cX12_go 5 p s m args c D cy) (hr : meth.sig.returnType = none) (hlk : meth.locks = false) (hq : zQ A q zNM) {z : zSt} {S : zSt} {v1 : Int32} {t0 : Int32} (h : fX12_go_179 S v1 t0 = some z) {H : Heap} {locs : List Loc} (hP : va_P D vwCl (zW zshM zNM cy q S) H) (hS : va_S A s.heap H locs) {ls : Array Slot} (hl : lv_has ls 5 [(0, .ref (q 0)), (1, .int v1)]) : W p l e rmX12_go s m args below meth c H locs 0 0 (MQ below (va_Qv (fun (u : zSt) => u = z) (fun u t => va_P D vwCl (zW zshM zNM cy q u) t.heap) A) args s 0 0 A) (F0 m 179 ls [.int t0, .ref (q 0)]) := by
  have hx := cx.1
  have hb := cx.2.1
  unfold fX12_go_179 at h
  obtain ⟨S49, eS49, h⟩ := zLt_e h
  refine zr_putI (pc := 179) cx lq_X12_30 hq hP hS nM_0 sM_0 rfl rfl rfl dX12_go_179 (fun H locs hP hS => ?_)
  rw [← eS49] at hP
  refine lv_aload_n (pc := 182) hx hb dX12_go_182 rfl (lv_at hl 0 rfl) ?_
  refine lv_iload_n (pc := 183) hx hb dX12_go_183 rfl (lv_at hl 1 rfl) ?_
  obtain ⟨S50, eS50, h⟩ := zLt_e h
  refine zr_putI (pc := 184) cx lq_X12_40 hq hP hS nM_0 sM_0 rfl rfl rfl dX12_go_184 (fun H locs hP hS => ?_)
  rw [← eS50] at hP
  refine lv_aload_n (pc := 187) hx hb dX12_go_187 rfl (lv_at hl 0 rfl) ?_
  refine lv_dup (pc := 188) hx hb dX12_go_188 rfl ?_
  refine zr_getI (pc := 189) cx lk_X12_21 hP nM_0 sM_0 rfl dX12_go_189 ?_
  refine lv_iconst (pc := 192) hx hb dX12_go_192 zc_1 ?_
  refine lv_iadd (pc := 193) hx hb dX12_go_193 ?_
  obtain ⟨S51, eS51, h⟩ := zLt_e h
  refine zr_putI (pc := 194) cx lq_X12_21 hq hP hS nM_0 sM_0 rfl rfl rfl dX12_go_194 (fun H locs hP hS => ?_)
  rw [← eS51] at hP
  have hz := Option.some.inj h
  exact zr_rqV (pc := 197) cx hr hlk hP hS hz dX12_go_197
def fX12_go_174 (S : zSt)  (v1 : Int32) : Option zSt :=
  fX12_go_179 S v1 (4 : Int32)
set_option maxHeartbeats 4000000 in
set_option maxRecDepth 100000 in
theorem kX12_go_174 {p : Program} {l : Launch} {e : Env} {s : State} {m : MethodId} {args : Array Value} {below : List Frame} {meth : Method} {c : Code} {D : va_G} {cy : Nat → ClassId} {q : Nat → Nat} {A : Nat → Prop} (cx : zX RX12 cX12_go 5 p s m args c D cy) (hr : meth.sig.returnType = none) (hlk : meth.locks = false) (hq : zQ A q zNM) {z : zSt} {S : zSt} {v1 : Int32} (h : fX12_go_174 S v1 = some z) {H : Heap} {locs : List Loc} (hP : va_P D vwCl (zW zshM zNM cy q S) H) (hS : va_S A s.heap H locs) {ls : Array Slot} (hl : lv_has ls 5 [(0, .ref (q 0)), (1, .int v1)]) : W p l e rmX12_go s m args below meth c H locs 0 0 (MQ below (va_Qv (fun (u : zSt) => u = z) (fun u t => va_P D vwCl (zW zshM zNM cy q u) t.heap) A) args s 0 0 A) (F0 m 174 ls [.ref (q 0)]) := by
  have hx := cx.1
  have hb := cx.2.1
  unfold fX12_go_174 at h
  refine lv_iconst (pc := 174) hx hb dX12_go_174 zc_4 ?_
  refine lv_goto (pc := 175) (tgt := 179) hx hb dX12_go_175 (by decide) ?_
  exact kX12_go_179 cx hr hlk hq h hP hS (lv_sub hl [0, 1] rfl)
def fX12_go_96 (S : zSt)  : Option zSt :=
  zBr ((S.1 0 5) < (S.1 0 3)) (zGd (zIx (S.1 0 5) 940) (zLt (S.1 1 (S.1 0 5).toNatClampNeg) (fun x7 => zBd (fX12_isLetter x7) (fun r9 => zBr (r9 = 0) (zBd (fX12_isDigit x7) (fun r46 => zBr (r46 = 0) (zBr (x7 = (59 : Int32)) (fX12_go_174 S x7) (zBr (x7 = (60 : Int32)) (fX12_go_174 S x7) (zBr (x7 = (61 : Int32)) (fX12_go_174 S x7) (zBr (x7 = (62 : Int32)) (fX12_go_174 S x7) (zBr (x7 = (40 : Int32)) (fX12_go_174 S x7) (zBr (x7 = (41 : Int32)) (fX12_go_174 S x7) (fX12_go_179 S x7 (1 : Int32)))))))) (fX12_go_198 S x7))) (fX12_go_198 S x7))))) (zLt (zI S 0 7 (0 : Int32)) (fun S57 => some S57))
set_option maxHeartbeats 4000000 in
set_option maxRecDepth 100000 in
theorem kX12_go_96 {p : Program} {l : Launch} {e : Env} {s : State} {m : MethodId} {args : Array Value} {below : List Frame} {meth : Method} {c : Code} {D : va_G} {cy : Nat → ClassId} {q : Nat → Nat} {A : Nat → Prop} (cx : zX RX12 cX12_go 5 p s m args c D cy) (hr : meth.sig.returnType = none) (hlk : meth.locks = false) (hq : zQ A q zNM) {z : zSt} {S : zSt} (h : fX12_go_96 S = some z) {H : Heap} {locs : List Loc} (hP : va_P D vwCl (zW zshM zNM cy q S) H) (hS : va_S A s.heap H locs) {ls : Array Slot} (hl : lv_has ls 5 [(0, .ref (q 0))]) : W p l e rmX12_go s m args below meth c H locs 0 0 (MQ below (va_Qv (fun (u : zSt) => u = z) (fun u t => va_P D vwCl (zW zshM zNM cy q u) t.heap) A) args s 0 0 A) (F0 m 96 ls []) := by
  have hx := cx.1
  have hb := cx.2.1
  unfold fX12_go_96 at h
  refine lv_aload_n (pc := 96) hx hb dX12_go_96 rfl (lv_at hl 0 rfl) ?_
  refine zr_getI (pc := 97) cx lk_X12_21 hP nM_0 sM_0 rfl dX12_go_97 ?_
  refine lv_aload_n (pc := 100) hx hb dX12_go_100 rfl (lv_at hl 0 rfl) ?_
  refine zr_getI (pc := 101) cx lk_X12_18 hP nM_0 sM_0 rfl dX12_go_101 ?_
  refine lv_icmp_lt (pc := 104) (tgt := 113) hx hb dX12_go_104 (by decide) (fun c5 => ?_) (fun c5 => ?_)
  · replace h := zBr_t c5 h
    refine lv_aload_n (pc := 113) hx hb dX12_go_113 rfl (lv_at hl 0 rfl) ?_
    refine zr_getR (pc := 114) (t := 1) cx lk_X12_7 hP nM_0 sM_0 rfl dX12_go_114 ?_
    refine lv_aload_n (pc := 117) hx hb dX12_go_117 rfl (lv_at hl 0 rfl) ?_
    refine zr_getI (pc := 118) cx lk_X12_21 hP nM_0 sM_0 rfl dX12_go_118 ?_
    obtain ⟨g6, h⟩ := zGd_e h
    refine zr_iald (pc := 121) cx hP nM_1 sM_1 g6 dX12_go_121 ?_
    obtain ⟨x7, ex7, h⟩ := zLt_e h
    refine zr_nmI ex7 ?_
    refine lv_istore_n (lv' := [(1, .int x7), (0, .ref (q 0))]) (pc := 122) hx hb dX12_go_122 rfl hl (by decide) rfl (fun ls hl => ?_)
    refine lv_iload_n (pc := 123) hx hb dX12_go_123 rfl (lv_at hl 0 rfl) ?_
    obtain ⟨r9, k8, h⟩ := zBd_e h
    refine zr_SI (pc := 124) (rest := []) cx cv_X12_33 (mX12_isLetter k8) ⟨⟨rfl, rfl⟩, Nat.le_of_ble_eq_true rfl, Nat.le_of_ble_eq_true rfl⟩ ⟨Nat.le_of_ble_eq_true rfl, Nat.le_of_ble_eq_true rfl⟩ (zr_preK cx) hl.1 rfl rfl (Nat.le_of_ble_eq_true rfl) dX12_go_124 ?_
    refine lv_if_ne (pc := 127) (tgt := 198) hx hb dX12_go_127 (by decide) (fun c10 => ?_) (fun c10 => ?_)
    · replace h := zBr_f c10 h
      exact kX12_go_198 cx hr hlk hq h hP hS (lv_sub hl [1, 0] rfl)
    · replace h := zBr_t c10 h
      refine lv_iload_n (pc := 130) hx hb dX12_go_130 rfl (lv_at hl 0 rfl) ?_
      obtain ⟨r46, k45, h⟩ := zBd_e h
      refine zr_SI (pc := 131) (rest := []) cx cv_X12_37 (mX12_isDigit k45) ⟨⟨rfl, rfl⟩, Nat.le_of_ble_eq_true rfl, Nat.le_of_ble_eq_true rfl⟩ ⟨Nat.le_of_ble_eq_true rfl, Nat.le_of_ble_eq_true rfl⟩ (zr_preK cx) hl.1 rfl rfl (Nat.le_of_ble_eq_true rfl) dX12_go_131 ?_
      refine lv_if_ne (pc := 134) (tgt := 198) hx hb dX12_go_134 (by decide) (fun c47 => ?_) (fun c47 => ?_)
      · replace h := zBr_f c47 h
        exact kX12_go_198 cx hr hlk hq h hP hS (lv_sub hl [1, 0] rfl)
      · replace h := zBr_t c47 h
        refine lv_aload_n (pc := 137) hx hb dX12_go_137 rfl (lv_at hl 1 rfl) ?_
        refine lv_iload_n (pc := 138) hx hb dX12_go_138 rfl (lv_at hl 0 rfl) ?_
        refine lv_bipush (pc := 139) hx hb dX12_go_139 zb_59 ?_
        refine lv_icmp_eq (pc := 141) (tgt := 174) hx hb dX12_go_141 (by decide) (fun c48 => ?_) (fun c48 => ?_)
        · replace h := zBr_t c48 h
          exact kX12_go_174 cx hr hlk hq h hP hS (lv_sub hl [1, 0] rfl)
        · replace h := zBr_f c48 h
          refine lv_iload_n (pc := 144) hx hb dX12_go_144 rfl (lv_at hl 0 rfl) ?_
          refine lv_bipush (pc := 145) hx hb dX12_go_145 zb_60 ?_
          refine lv_icmp_eq (pc := 147) (tgt := 174) hx hb dX12_go_147 (by decide) (fun c52 => ?_) (fun c52 => ?_)
          · replace h := zBr_t c52 h
            exact kX12_go_174 cx hr hlk hq h hP hS (lv_sub hl [1, 0] rfl)
          · replace h := zBr_f c52 h
            refine lv_iload_n (pc := 150) hx hb dX12_go_150 rfl (lv_at hl 0 rfl) ?_
            refine lv_bipush (pc := 151) hx hb dX12_go_151 zb_61 ?_
            refine lv_icmp_eq (pc := 153) (tgt := 174) hx hb dX12_go_153 (by decide) (fun c53 => ?_) (fun c53 => ?_)
            · replace h := zBr_t c53 h
              exact kX12_go_174 cx hr hlk hq h hP hS (lv_sub hl [1, 0] rfl)
            · replace h := zBr_f c53 h
              refine lv_iload_n (pc := 156) hx hb dX12_go_156 rfl (lv_at hl 0 rfl) ?_
              refine lv_bipush (pc := 157) hx hb dX12_go_157 zb_62 ?_
              refine lv_icmp_eq (pc := 159) (tgt := 174) hx hb dX12_go_159 (by decide) (fun c54 => ?_) (fun c54 => ?_)
              · replace h := zBr_t c54 h
                exact kX12_go_174 cx hr hlk hq h hP hS (lv_sub hl [1, 0] rfl)
              · replace h := zBr_f c54 h
                refine lv_iload_n (pc := 162) hx hb dX12_go_162 rfl (lv_at hl 0 rfl) ?_
                refine lv_bipush (pc := 163) hx hb dX12_go_163 zb_40 ?_
                refine lv_icmp_eq (pc := 165) (tgt := 174) hx hb dX12_go_165 (by decide) (fun c55 => ?_) (fun c55 => ?_)
                · replace h := zBr_t c55 h
                  exact kX12_go_174 cx hr hlk hq h hP hS (lv_sub hl [1, 0] rfl)
                · replace h := zBr_f c55 h
                  refine lv_iload_n (pc := 168) hx hb dX12_go_168 rfl (lv_at hl 0 rfl) ?_
                  refine lv_bipush (pc := 169) hx hb dX12_go_169 zb_41 ?_
                  refine lv_icmp_ne (pc := 171) (tgt := 178) hx hb dX12_go_171 (by decide) (fun c56 => ?_) (fun c56 => ?_)
                  · replace h := zBr_f c56 h
                    refine lv_iconst (pc := 178) hx hb dX12_go_178 zc_1 ?_
                    exact kX12_go_179 cx hr hlk hq h hP hS (lv_sub hl [1, 0] rfl)
                  · replace h := zBr_t c56 h
                    exact kX12_go_174 cx hr hlk hq h hP hS (lv_sub hl [1, 0] rfl)
  · replace h := zBr_f c5 h
    refine lv_aload_n (pc := 107) hx hb dX12_go_107 rfl (lv_at hl 0 rfl) ?_
    refine lv_iconst (pc := 108) hx hb dX12_go_108 zc_0 ?_
    obtain ⟨S57, eS57, h⟩ := zLt_e h
    refine zr_putI (pc := 109) cx lq_X12_30 hq hP hS nM_0 sM_0 rfl rfl rfl dX12_go_109 (fun H locs hP hS => ?_)
    rw [← eS57] at hP
    have hz := Option.some.inj h
    exact zr_rqV (pc := 112) cx hr hlk hP hS hz dX12_go_112
def fX12_go_52 (S : zSt)  : Option zSt :=
  zLt (zI S 0 6 (S.1 0 5)) (fun S3 => zBr ((S3.1 0 3) ≤ (S3.1 0 4)) (fX12_go_96 S3) (zBr ((S3.1 0 6) < (S3.1 0 4)) (fX12_go_96 S3) (zLt (zI S3 0 6 (S3.1 0 4)) (fun S59 => zLt (zI S59 0 7 (1 : Int32)) (fun S60 => some S60)))))
set_option maxHeartbeats 4000000 in
set_option maxRecDepth 100000 in
theorem kX12_go_52 {p : Program} {l : Launch} {e : Env} {s : State} {m : MethodId} {args : Array Value} {below : List Frame} {meth : Method} {c : Code} {D : va_G} {cy : Nat → ClassId} {q : Nat → Nat} {A : Nat → Prop} (cx : zX RX12 cX12_go 5 p s m args c D cy) (hr : meth.sig.returnType = none) (hlk : meth.locks = false) (hq : zQ A q zNM) {z : zSt} {S : zSt} (h : fX12_go_52 S = some z) {H : Heap} {locs : List Loc} (hP : va_P D vwCl (zW zshM zNM cy q S) H) (hS : va_S A s.heap H locs) {ls : Array Slot} (hl : lv_has ls 5 [(0, .ref (q 0))]) : W p l e rmX12_go s m args below meth c H locs 0 0 (MQ below (va_Qv (fun (u : zSt) => u = z) (fun u t => va_P D vwCl (zW zshM zNM cy q u) t.heap) A) args s 0 0 A) (F0 m 52 ls []) := by
  have hx := cx.1
  have hb := cx.2.1
  unfold fX12_go_52 at h
  refine lv_aload_n (pc := 52) hx hb dX12_go_52 rfl (lv_at hl 0 rfl) ?_
  refine lv_aload_n (pc := 53) hx hb dX12_go_53 rfl (lv_at hl 0 rfl) ?_
  refine zr_getI (pc := 54) cx lk_X12_21 hP nM_0 sM_0 rfl dX12_go_54 ?_
  obtain ⟨S3, eS3, h⟩ := zLt_e h
  refine zr_putI (pc := 57) cx lq_X12_24 hq hP hS nM_0 sM_0 rfl rfl rfl dX12_go_57 (fun H locs hP hS => ?_)
  rw [← eS3] at hP
  refine lv_aload_n (pc := 60) hx hb dX12_go_60 rfl (lv_at hl 0 rfl) ?_
  refine zr_getI (pc := 61) cx lk_X12_18 hP nM_0 sM_0 rfl dX12_go_61 ?_
  refine lv_aload_n (pc := 64) hx hb dX12_go_64 rfl (lv_at hl 0 rfl) ?_
  refine zr_getI (pc := 65) cx lk_X12_27 hP nM_0 sM_0 rfl dX12_go_65 ?_
  refine lv_icmp_le (pc := 68) (tgt := 96) hx hb dX12_go_68 (by decide) (fun c4 => ?_) (fun c4 => ?_)
  · replace h := zBr_t c4 h
    exact kX12_go_96 cx hr hlk hq h hP hS (lv_sub hl [0] rfl)
  · replace h := zBr_f c4 h
    refine lv_aload_n (pc := 71) hx hb dX12_go_71 rfl (lv_at hl 0 rfl) ?_
    refine zr_getI (pc := 72) cx lk_X12_24 hP nM_0 sM_0 rfl dX12_go_72 ?_
    refine lv_aload_n (pc := 75) hx hb dX12_go_75 rfl (lv_at hl 0 rfl) ?_
    refine zr_getI (pc := 76) cx lk_X12_27 hP nM_0 sM_0 rfl dX12_go_76 ?_
    refine lv_icmp_lt (pc := 79) (tgt := 96) hx hb dX12_go_79 (by decide) (fun c58 => ?_) (fun c58 => ?_)
    · replace h := zBr_t c58 h
      exact kX12_go_96 cx hr hlk hq h hP hS (lv_sub hl [0] rfl)
    · replace h := zBr_f c58 h
      refine lv_aload_n (pc := 82) hx hb dX12_go_82 rfl (lv_at hl 0 rfl) ?_
      refine lv_aload_n (pc := 83) hx hb dX12_go_83 rfl (lv_at hl 0 rfl) ?_
      refine zr_getI (pc := 84) cx lk_X12_27 hP nM_0 sM_0 rfl dX12_go_84 ?_
      obtain ⟨S59, eS59, h⟩ := zLt_e h
      refine zr_putI (pc := 87) cx lq_X12_24 hq hP hS nM_0 sM_0 rfl rfl rfl dX12_go_87 (fun H locs hP hS => ?_)
      rw [← eS59] at hP
      refine lv_aload_n (pc := 90) hx hb dX12_go_90 rfl (lv_at hl 0 rfl) ?_
      refine lv_iconst (pc := 91) hx hb dX12_go_91 zc_1 ?_
      obtain ⟨S60, eS60, h⟩ := zLt_e h
      refine zr_putI (pc := 92) cx lq_X12_30 hq hP hS nM_0 sM_0 rfl rfl rfl dX12_go_92 (fun H locs hP hS => ?_)
      rw [← eS60] at hP
      have hz := Option.some.inj h
      exact zr_rqV (pc := 95) cx hr hlk hP hS hz dX12_go_95
def fX12_go_39 (S : zSt)  : Option (zSt ⊕ zSt) :=
  zLt (zI S 0 5 ((S.1 0 5) + (1 : Int32))) (fun S63 => some (.inl (S63)))
set_option maxHeartbeats 4000000 in
set_option maxRecDepth 100000 in
theorem kX12_go_39 {p : Program} {l : Launch} {e : Env} {s : State} {m : MethodId} {args : Array Value} {below : List Frame} {meth : Method} {c : Code} {D : va_G} {cy : Nat → ClassId} {q : Nat → Nat} {A : Nat → Prop} (cx : zX RX12 cX12_go 5 p s m args c D cy) (hr : meth.sig.returnType = none) (hlk : meth.locks = false) (hq : zQ A q zNM) {z : zSt} {S : zSt} {C1 : (zSt ⊕ zSt) → Prop} (hb1 : ∀ (S : zSt), C1 (.inl (S)) → ∀ (H : Heap) (locs : List Loc), va_P D vwCl (zW zshM zNM cy q S) H → va_S A s.heap H locs → ∀ (ls : Array Slot), lv_has ls 5 [(0, .ref (q 0))] → W p l e rmX12_go s m args below meth c H locs 0 0 (MQ below (va_Qv (fun (u : zSt) => u = z) (fun u t => va_P D vwCl (zW zshM zNM cy q u) t.heap) A) args s 0 0 A) (F0 m 0 ls [])) (hx1 : ∀ a, C1 (.inr a) → a = z) {x : (zSt ⊕ zSt)} (h : fX12_go_39 S = some x) (hc : C1 x) {H : Heap} {locs : List Loc} (hP : va_P D vwCl (zW zshM zNM cy q S) H) (hS : va_S A s.heap H locs) {ls : Array Slot} (hl : lv_has ls 5 [(0, .ref (q 0))]) : W p l e rmX12_go s m args below meth c H locs 0 0 (MQ below (va_Qv (fun (u : zSt) => u = z) (fun u t => va_P D vwCl (zW zshM zNM cy q u) t.heap) A) args s 0 0 A) (F0 m 39 ls []) := by
  have hx := cx.1
  have hb := cx.2.1
  unfold fX12_go_39 at h
  refine lv_aload_n (pc := 39) hx hb dX12_go_39 rfl (lv_at hl 0 rfl) ?_
  refine lv_dup (pc := 40) hx hb dX12_go_40 rfl ?_
  refine zr_getI (pc := 41) cx lk_X12_21 hP nM_0 sM_0 rfl dX12_go_41 ?_
  refine lv_iconst (pc := 44) hx hb dX12_go_44 zc_1 ?_
  refine lv_iadd (pc := 45) hx hb dX12_go_45 ?_
  obtain ⟨S63, eS63, h⟩ := zLt_e h
  refine zr_putI (pc := 46) cx lq_X12_21 hq hP hS nM_0 sM_0 rfl rfl rfl dX12_go_46 (fun H locs hP hS => ?_)
  rw [← eS63] at hP
  refine lv_goto (pc := 49) (tgt := 0) hx hb dX12_go_49 (by decide) ?_
  cases h
  exact hb1 _ hc _ _ hP hS _ (lv_sub hl [0] rfl)
def fX12_go_0  (t : zSt) : Option (zSt ⊕ zSt) :=
  match t with
  | S => zBr ((S.1 0 3) ≤ (S.1 0 5)) (zXr (fX12_go_52 S)) (zGd (zIx (S.1 0 5) 940) (zBr ((S.1 1 (S.1 0 5).toNatClampNeg) = (32 : Int32)) (fX12_go_39 S) (zGd (zIx (S.1 0 5) 940) (zBr ((S.1 1 (S.1 0 5).toNatClampNeg) = (10 : Int32)) (fX12_go_39 S) (zXr (fX12_go_52 S))))))
set_option maxHeartbeats 4000000 in
set_option maxRecDepth 100000 in
theorem kX12_go_0B {p : Program} {l : Launch} {e : Env} {s : State} {m : MethodId} {args : Array Value} {below : List Frame} {meth : Method} {c : Code} {D : va_G} {cy : Nat → ClassId} {q : Nat → Nat} {A : Nat → Prop} (cx : zX RX12 cX12_go 5 p s m args c D cy) (hr : meth.sig.returnType = none) (hlk : meth.locks = false) (hq : zQ A q zNM) {z : zSt} {S : zSt} {C1 : (zSt ⊕ zSt) → Prop} (hb1 : ∀ (S : zSt), C1 (.inl (S)) → ∀ (H : Heap) (locs : List Loc), va_P D vwCl (zW zshM zNM cy q S) H → va_S A s.heap H locs → ∀ (ls : Array Slot), lv_has ls 5 [(0, .ref (q 0))] → W p l e rmX12_go s m args below meth c H locs 0 0 (MQ below (va_Qv (fun (u : zSt) => u = z) (fun u t => va_P D vwCl (zW zshM zNM cy q u) t.heap) A) args s 0 0 A) (F0 m 0 ls [])) (hx1 : ∀ a, C1 (.inr a) → a = z) {x : (zSt ⊕ zSt)} (h : fX12_go_0 (S) = some x) (hc : C1 x) {H : Heap} {locs : List Loc} (hP : va_P D vwCl (zW zshM zNM cy q S) H) (hS : va_S A s.heap H locs) {ls : Array Slot} (hl : lv_has ls 5 [(0, .ref (q 0))]) : W p l e rmX12_go s m args below meth c H locs 0 0 (MQ below (va_Qv (fun (u : zSt) => u = z) (fun u t => va_P D vwCl (zW zshM zNM cy q u) t.heap) A) args s 0 0 A) (F0 m 0 ls []) := by
  have hx := cx.1
  have hb := cx.2.1
  unfold fX12_go_0 at h
  dsimp only at h
  refine lv_aload_n (pc := 0) hx hb dX12_go_0 rfl (lv_at hl 0 rfl) ?_
  refine zr_getI (pc := 1) cx lk_X12_21 hP nM_0 sM_0 rfl dX12_go_1 ?_
  refine lv_aload_n (pc := 4) hx hb dX12_go_4 rfl (lv_at hl 0 rfl) ?_
  refine zr_getI (pc := 5) cx lk_X12_18 hP nM_0 sM_0 rfl dX12_go_5 ?_
  refine lv_icmp_ge (pc := 8) (tgt := 52) hx hb dX12_go_8 (by decide) (fun c1 => ?_) (fun c1 => ?_)
  · replace h := zBr_t c1 h
    obtain ⟨y2, h, ex⟩ := zXr_e h
    have hc := hx1 y2 (by rw [ex] at hc; exact hc)
    rw [hc] at h
    exact kX12_go_52 cx hr hlk hq h hP hS (lv_sub hl [0] rfl)
  · replace h := zBr_f c1 h
    refine lv_aload_n (pc := 11) hx hb dX12_go_11 rfl (lv_at hl 0 rfl) ?_
    refine zr_getR (pc := 12) (t := 1) cx lk_X12_7 hP nM_0 sM_0 rfl dX12_go_12 ?_
    refine lv_aload_n (pc := 15) hx hb dX12_go_15 rfl (lv_at hl 0 rfl) ?_
    refine zr_getI (pc := 16) cx lk_X12_21 hP nM_0 sM_0 rfl dX12_go_16 ?_
    obtain ⟨g61, h⟩ := zGd_e h
    refine zr_iald (pc := 19) cx hP nM_1 sM_1 g61 dX12_go_19 ?_
    refine lv_bipush (pc := 20) hx hb dX12_go_20 zb_32 ?_
    refine lv_icmp_eq (pc := 22) (tgt := 39) hx hb dX12_go_22 (by decide) (fun c62 => ?_) (fun c62 => ?_)
    · replace h := zBr_t c62 h
      exact kX12_go_39 cx hr hlk hq hb1 hx1 h hc hP hS (lv_sub hl [0] rfl)
    · replace h := zBr_f c62 h
      refine lv_aload_n (pc := 25) hx hb dX12_go_25 rfl (lv_at hl 0 rfl) ?_
      refine zr_getR (pc := 26) (t := 1) cx lk_X12_7 hP nM_0 sM_0 rfl dX12_go_26 ?_
      refine lv_aload_n (pc := 29) hx hb dX12_go_29 rfl (lv_at hl 0 rfl) ?_
      refine zr_getI (pc := 30) cx lk_X12_21 hP nM_0 sM_0 rfl dX12_go_30 ?_
      obtain ⟨g64, h⟩ := zGd_e h
      refine zr_iald (pc := 33) cx hP nM_1 sM_1 g64 dX12_go_33 ?_
      refine lv_bipush (pc := 34) hx hb dX12_go_34 zb_10 ?_
      refine lv_icmp_ne (pc := 36) (tgt := 52) hx hb dX12_go_36 (by decide) (fun c65 => ?_) (fun c65 => ?_)
      · replace h := zBr_f c65 h
        obtain ⟨y66, h, ex⟩ := zXr_e h
        have hc := hx1 y66 (by rw [ex] at hc; exact hc)
        rw [hc] at h
        exact kX12_go_52 cx hr hlk hq h hP hS (lv_sub hl [0] rfl)
      · replace h := zBr_t c65 h
        exact kX12_go_39 cx hr hlk hq hb1 hx1 h hc hP hS (lv_sub hl [0] rfl)
set_option maxHeartbeats 4000000 in
set_option maxRecDepth 100000 in
theorem kX12_go_0 {p : Program} {l : Launch} {e : Env} {s : State} {m : MethodId} {args : Array Value} {below : List Frame} {meth : Method} {c : Code} {D : va_G} {cy : Nat → ClassId} {q : Nat → Nat} {A : Nat → Prop} (cx : zX RX12 cX12_go 5 p s m args c D cy) (hr : meth.sig.returnType = none) (hlk : meth.locks = false) (hq : zQ A q zNM) {z : zSt} : ∀ (n : Nat) (S : zSt), zLp (fX12_go_0) n (S) = some z → ∀ (H : Heap) (locs : List Loc), va_P D vwCl (zW zshM zNM cy q S) H → va_S A s.heap H locs → ∀ (ls : Array Slot), lv_has ls 5 [(0, .ref (q 0))] → W p l e rmX12_go s m args below meth c H locs 0 0 (MQ below (va_Qv (fun (u : zSt) => u = z) (fun u t => va_P D vwCl (zW zshM zNM cy q u) t.heap) A) args s 0 0 A) (F0 m 0 ls []) := by
  intro n
  induction n with
  | zero =>
    intro S h
    cases h
  | succ n ih =>
    intro S h H locs hP hS ls hl
    obtain ⟨x, h, hk⟩ := zLp_e h
    exact kX12_go_0B cx hr hlk hq  (C1 := zKt (fun t => zLp (fX12_go_0) n t = some z) (fun a => a = z)) (fun S ht H locs hP hS ls hl => ih S ht H locs hP hS ls hl) (fun a ha => ha) h hk hP hS hl
def fX12_go (S : zSt) : Option zSt :=
  zLp (fX12_go_0) 2000 (S)
set_option maxHeartbeats 4000000 in
set_option maxRecDepth 100000 in
theorem mX12_go {l : Launch} {D : va_G} {cy : Nat → ClassId} {q : Nat → Nat} {A : Nat → Prop} {S : zSt} (hq : zQ A q zNM) {z : zSt} (h : fX12_go S = some z) : zMv l yX12_go cX12_go 5 none rmX12_go [.ref (q 0)] zshM zNM D cy q A S z := by
  refine Met.ofW (cc := cX12_go) (maxL := 5) (ret := none) (by decide) rfl ?_
  intro p e s m args below meth c s₁ B hml hv
  obtain ⟨rfl, hP, hK⟩ := hv
  have cx : zX RX12 cX12_go 5 p s m ([.ref (q 0)]).toArray c D cy := ⟨B.exec, B.bytes, hml, findClass_of_methodNamed B.named, fun w hw => atoms_spec (ws := Cond.code yX12_go cX12_go 5 none :: zTB) B.pre w (List.mem_cons_of_mem _ hw), hK⟩
  have hx := cx.1
  have hb := cx.2.1
  have hr := B.returns
  have hlk := B.notSynchronized
  have hS : va_S A s.heap s.heap [] := va_S.rf
  have hl := lv_entry ([.ref (q 0)]) (n := 5) (Nat.le_of_ble_eq_true rfl)
  rw [lg_entry_eq]
  generalize (lg_sl ([.ref (q 0)]) ++ List.replicate (5 - (lg_sl ([.ref (q 0)])).length) Slot.unset).toArray = ls at hl ⊢
  have hl : lv_has ls 5 [(0, .ref (q 0))] := hl
  unfold fX12_go at h
  exact kX12_go_0 cx hr hlk hq 2000 _ h _ _ hP hS _ (lv_sub hl [0] rfl)
