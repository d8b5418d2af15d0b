theorem wd_103 : (Jvm.Cond.fieldLink "ParlourLeaves$Sentence" (50 : Nat) "ParlourLeaves$Tape" "token" "I") ∈ zTB := List.mem_filter.mpr ⟨List.mem_append_right _ (List.mem_append_left _ (List.mem_of_getElem? (i := 103) rfl)), rfl⟩
theorem wd_513 : (Jvm.Cond.fieldLink "ParlourLeaves" (74 : Nat) "ParlourLeaves" "draftSentence" "LParlourLeaves$Sentence;") ∈ zTB := List.mem_filter.mpr ⟨List.mem_append_right _ (List.mem_append_right _ (List.mem_append_right _ (List.mem_append_left _ (List.mem_of_getElem? (i := 33) rfl)))), rfl⟩
theorem wd_688 : (Jvm.Cond.instanceMethod ({ cls := "ParlourLeaves$Sentence", name := "clear", desc := "()V" } : Jvm.MethodName)) ∈ zTB := List.mem_filter.mpr ⟨List.mem_append_right _ (List.mem_append_right _ (List.mem_append_right _ (List.mem_append_left _ (List.mem_of_getElem? (i := 208) rfl)))), rfl⟩
theorem wd_689 : (Jvm.Cond.selects "ParlourLeaves$Sentence" ({ cls := "ParlourLeaves$Sentence", name := "clear", desc := "()V" } : Jvm.MethodName) ({ cls := "ParlourLeaves$Sentence", name := "clear", desc := "()V" } : Jvm.MethodName)) ∈ zTB := List.mem_filter.mpr ⟨List.mem_append_right _ (List.mem_append_right _ (List.mem_append_right _ (List.mem_append_left _ (List.mem_of_getElem? (i := 209) rfl)))), rfl⟩
theorem wd_690 : (Jvm.Cond.code ({ cls := "ParlourLeaves$Sentence", name := "clear", desc := "()V" } : Jvm.MethodName) prog_10_method_2_code (1 : Nat) (Option.none : Option Jvm.ClassFile.FieldType)) ∈ zTB := List.mem_filter.mpr ⟨List.mem_append_right _ (List.mem_append_right _ (List.mem_append_right _ (List.mem_append_left _ (List.mem_of_getElem? (i := 210) rfl)))), rfl⟩
theorem wd_1286 : (Jvm.Cond.methodLink "ParlourLeaves" (377 : Nat) ({ cls := "ParlourLeaves$Sentence", name := "readFrom", desc := "(LParlourLeaves$Tape;LParlourLeaves$House;)Z" } : Jvm.MethodName)) ∈ zTB := List.mem_filter.mpr ⟨List.mem_append_right _ (List.mem_append_right _ (List.mem_append_right _ (List.mem_append_right _ (List.mem_append_right _ (List.mem_append_right _ (List.mem_append_left _ (List.mem_of_getElem? (i := 86) rfl))))))), rfl⟩
theorem wd_1287 : (Jvm.Cond.instanceMethod ({ cls := "ParlourLeaves$Sentence", name := "readFrom", desc := "(LParlourLeaves$Tape;LParlourLeaves$House;)Z" } : Jvm.MethodName)) ∈ zTB := List.mem_filter.mpr ⟨List.mem_append_right _ (List.mem_append_right _ (List.mem_append_right _ (List.mem_append_right _ (List.mem_append_right _ (List.mem_append_right _ (List.mem_append_left _ (List.mem_of_getElem? (i := 87) rfl))))))), rfl⟩
theorem wd_1288 : (Jvm.Cond.selects "ParlourLeaves$Sentence" ({ cls := "ParlourLeaves$Sentence", name := "readFrom", desc := "(LParlourLeaves$Tape;LParlourLeaves$House;)Z" } : Jvm.MethodName) ({ cls := "ParlourLeaves$Sentence", name := "readFrom", desc := "(LParlourLeaves$Tape;LParlourLeaves$House;)Z" } : Jvm.MethodName)) ∈ zTB := List.mem_filter.mpr ⟨List.mem_append_right _ (List.mem_append_right _ (List.mem_append_right _ (List.mem_append_right _ (List.mem_append_right _ (List.mem_append_right _ (List.mem_append_left _ (List.mem_of_getElem? (i := 88) rfl))))))), rfl⟩
theorem wd_1289 : (Jvm.Cond.code ({ cls := "ParlourLeaves$Sentence", name := "readFrom", desc := "(LParlourLeaves$Tape;LParlourLeaves$House;)Z" } : Jvm.MethodName) prog_10_method_5_code (3 : Nat) (Option.some Jvm.ClassFile.FieldType.boolean)) ∈ zTB := List.mem_filter.mpr ⟨List.mem_append_right _ (List.mem_append_right _ (List.mem_append_right _ (List.mem_append_right _ (List.mem_append_right _ (List.mem_append_right _ (List.mem_append_left _ (List.mem_of_getElem? (i := 89) rfl))))))), rfl⟩
theorem wd_1290 : (Jvm.Cond.methodLink "ParlourLeaves$Sentence" (37 : Nat) ({ cls := "ParlourLeaves$Sentence", name := "clear", desc := "()V" } : Jvm.MethodName)) ∈ zTB := List.mem_filter.mpr ⟨List.mem_append_right _ (List.mem_append_right _ (List.mem_append_right _ (List.mem_append_right _ (List.mem_append_right _ (List.mem_append_right _ (List.mem_append_left _ (List.mem_of_getElem? (i := 90) rfl))))))), rfl⟩
theorem wd_1291 : (Jvm.Cond.methodLink "ParlourLeaves$Sentence" (40 : Nat) ({ cls := "ParlourLeaves$Tape", name := "beginReading", desc := "(I)V" } : Jvm.MethodName)) ∈ zTB := List.mem_filter.mpr ⟨List.mem_append_right _ (List.mem_append_right _ (List.mem_append_right _ (List.mem_append_right _ (List.mem_append_right _ (List.mem_append_right _ (List.mem_append_left _ (List.mem_of_getElem? (i := 91) rfl))))))), rfl⟩
theorem wd_1292 : (Jvm.Cond.methodLink "ParlourLeaves$Sentence" (46 : Nat) ({ cls := "ParlourLeaves$Sentence", name := "readCond", desc := "(LParlourLeaves$Tape;LParlourLeaves$House;I)Z" } : Jvm.MethodName)) ∈ zTB := List.mem_filter.mpr ⟨List.mem_append_right _ (List.mem_append_right _ (List.mem_append_right _ (List.mem_append_right _ (List.mem_append_right _ (List.mem_append_right _ (List.mem_append_left _ (List.mem_of_getElem? (i := 92) rfl))))))), rfl⟩
theorem wd_1294 : (Jvm.Cond.instanceMethod ({ cls := "ParlourLeaves$Sentence", name := "readCond", desc := "(LParlourLeaves$Tape;LParlourLeaves$House;I)Z" } : Jvm.MethodName)) ∈ zTB := List.mem_filter.mpr ⟨List.mem_append_right _ (List.mem_append_right _ (List.mem_append_right _ (List.mem_append_right _ (List.mem_append_right _ (List.mem_append_right _ (List.mem_append_left _ (List.mem_of_getElem? (i := 94) rfl))))))), rfl⟩
theorem wd_1295 : (Jvm.Cond.code ({ cls := "ParlourLeaves$Sentence", name := "readCond", desc := "(LParlourLeaves$Tape;LParlourLeaves$House;I)Z" } : Jvm.MethodName) prog_10_method_6_code (5 : Nat) (Option.some Jvm.ClassFile.FieldType.boolean)) ∈ zTB := List.mem_filter.mpr ⟨List.mem_append_right _ (List.mem_append_right _ (List.mem_append_right _ (List.mem_append_right _ (List.mem_append_right _ (List.mem_append_right _ (List.mem_append_left _ (List.mem_of_getElem? (i := 95) rfl))))))), rfl⟩
theorem wd_1296 : (Jvm.Cond.methodLink "ParlourLeaves$Sentence" (57 : Nat) ({ cls := "ParlourLeaves$Sentence", name := "readJoined", desc := "(LParlourLeaves$Tape;LParlourLeaves$House;I)Z" } : Jvm.MethodName)) ∈ zTB := List.mem_filter.mpr ⟨List.mem_append_right _ (List.mem_append_right _ (List.mem_append_right _ (List.mem_append_right _ (List.mem_append_right _ (List.mem_append_right _ (List.mem_append_left _ (List.mem_of_getElem? (i := 96) rfl))))))), rfl⟩
theorem wd_1298 : (Jvm.Cond.instanceMethod ({ cls := "ParlourLeaves$Sentence", name := "readJoined", desc := "(LParlourLeaves$Tape;LParlourLeaves$House;I)Z" } : Jvm.MethodName)) ∈ zTB := List.mem_filter.mpr ⟨List.mem_append_right _ (List.mem_append_right _ (List.mem_append_right _ (List.mem_append_right _ (List.mem_append_right _ (List.mem_append_right _ (List.mem_append_left _ (List.mem_of_getElem? (i := 98) rfl))))))), rfl⟩
theorem wd_1299 : (Jvm.Cond.code ({ cls := "ParlourLeaves$Sentence", name := "readJoined", desc := "(LParlourLeaves$Tape;LParlourLeaves$House;I)Z" } : Jvm.MethodName) prog_10_method_7_code (5 : Nat) (Option.some Jvm.ClassFile.FieldType.boolean)) ∈ zTB := List.mem_filter.mpr ⟨List.mem_append_right _ (List.mem_append_right _ (List.mem_append_right _ (List.mem_append_right _ (List.mem_append_right _ (List.mem_append_right _ (List.mem_append_left _ (List.mem_of_getElem? (i := 99) rfl))))))), rfl⟩
theorem wd_1300 : (Jvm.Cond.methodLink "ParlourLeaves$Sentence" (67 : Nat) ({ cls := "ParlourLeaves$Sentence", name := "readOne", desc := "(LParlourLeaves$Tape;LParlourLeaves$House;I)Z" } : Jvm.MethodName)) ∈ zTB := List.mem_filter.mpr ⟨List.mem_append_right _ (List.mem_append_right _ (List.mem_append_right _ (List.mem_append_right _ (List.mem_append_right _ (List.mem_append_right _ (List.mem_append_left _ (List.mem_of_getElem? (i := 100) rfl))))))), rfl⟩
theorem wd_1302 : (Jvm.Cond.instanceMethod ({ cls := "ParlourLeaves$Sentence", name := "readOne", desc := "(LParlourLeaves$Tape;LParlourLeaves$House;I)Z" } : Jvm.MethodName)) ∈ zTB := List.mem_filter.mpr ⟨List.mem_append_right _ (List.mem_append_right _ (List.mem_append_right _ (List.mem_append_right _ (List.mem_append_right _ (List.mem_append_right _ (List.mem_append_left _ (List.mem_of_getElem? (i := 102) rfl))))))), rfl⟩
theorem wd_1303 : (Jvm.Cond.code ({ cls := "ParlourLeaves$Sentence", name := "readOne", desc := "(LParlourLeaves$Tape;LParlourLeaves$House;I)Z" } : Jvm.MethodName) prog_10_method_8_code (6 : Nat) (Option.some Jvm.ClassFile.FieldType.boolean)) ∈ zTB := List.mem_filter.mpr ⟨List.mem_append_right _ (List.mem_append_right _ (List.mem_append_right _ (List.mem_append_right _ (List.mem_append_right _ (List.mem_append_right _ (List.mem_append_left _ (List.mem_of_getElem? (i := 103) rfl))))))), rfl⟩
theorem wd_1304 : (Jvm.Cond.methodLink "ParlourLeaves$Sentence" (70 : Nat) ({ cls := "ParlourLeaves$Sentence", name := "canBeginOne", desc := "(I)Z" } : Jvm.MethodName)) ∈ zTB := List.mem_filter.mpr ⟨List.mem_append_right _ (List.mem_append_right _ (List.mem_append_right _ (List.mem_append_right _ (List.mem_append_right _ (List.mem_append_right _ (List.mem_append_left _ (List.mem_of_getElem? (i := 104) rfl))))))), rfl⟩
theorem wd_1305 : (Jvm.Cond.static ({ cls := "ParlourLeaves$Sentence", name := "canBeginOne", desc := "(I)Z" } : Jvm.MethodName)) ∈ zTB := List.mem_filter.mpr ⟨List.mem_append_right _ (List.mem_append_right _ (List.mem_append_right _ (List.mem_append_right _ (List.mem_append_right _ (List.mem_append_right _ (List.mem_append_left _ (List.mem_of_getElem? (i := 105) rfl))))))), rfl⟩
theorem wd_1306 : (Jvm.Cond.code ({ cls := "ParlourLeaves$Sentence", name := "canBeginOne", desc := "(I)Z" } : Jvm.MethodName) prog_10_method_9_code (1 : Nat) (Option.some Jvm.ClassFile.FieldType.boolean)) ∈ zTB := List.mem_filter.mpr ⟨List.mem_append_right _ (List.mem_append_right _ (List.mem_append_right _ (List.mem_append_right _ (List.mem_append_right _ (List.mem_append_right _ (List.mem_append_left _ (List.mem_of_getElem? (i := 106) rfl))))))), rfl⟩
theorem wd_1307 : (Jvm.Cond.methodLink "ParlourLeaves$Sentence" (53 : Nat) ({ cls := "ParlourLeaves$Tape", name := "fail", desc := "(I)Z" } : Jvm.MethodName)) ∈ zTB := List.mem_filter.mpr ⟨List.mem_append_right _ (List.mem_append_right _ (List.mem_append_right _ (List.mem_append_right _ (List.mem_append_right _ (List.mem_append_right _ (List.mem_append_left _ (List.mem_of_getElem? (i := 107) rfl))))))), rfl⟩
theorem wd_1308 : (Jvm.Cond.methodLink "ParlourLeaves$Sentence" (60 : Nat) ({ cls := "ParlourLeaves$Tape", name := "read", desc := "()V" } : Jvm.MethodName)) ∈ zTB := List.mem_filter.mpr ⟨List.mem_append_right _ (List.mem_append_right _ (List.mem_append_right _ (List.mem_append_right _ (List.mem_append_right _ (List.mem_append_right _ (List.mem_append_left _ (List.mem_of_getElem? (i := 108) rfl))))))), rfl⟩
theorem wd_1309 : (Jvm.Cond.methodLink "ParlourLeaves$Sentence" (63 : Nat) ({ cls := "ParlourLeaves$Sentence", name := "add", desc := "(III)Z" } : Jvm.MethodName)) ∈ zTB := List.mem_filter.mpr ⟨List.mem_append_right _ (List.mem_append_right _ (List.mem_append_right _ (List.mem_append_right _ (List.mem_append_right _ (List.mem_append_right _ (List.mem_append_left _ (List.mem_of_getElem? (i := 109) rfl))))))), rfl⟩
theorem wd_1311 : (Jvm.Cond.instanceMethod ({ cls := "ParlourLeaves$Sentence", name := "add", desc := "(III)Z" } : Jvm.MethodName)) ∈ zTB := List.mem_filter.mpr ⟨List.mem_append_right _ (List.mem_append_right _ (List.mem_append_right _ (List.mem_append_right _ (List.mem_append_right _ (List.mem_append_right _ (List.mem_append_left _ (List.mem_of_getElem? (i := 111) rfl))))))), rfl⟩
theorem wd_1312 : (Jvm.Cond.code ({ cls := "ParlourLeaves$Sentence", name := "add", desc := "(III)Z" } : Jvm.MethodName) prog_10_method_4_code (4 : Nat) (Option.some Jvm.ClassFile.FieldType.boolean)) ∈ zTB := List.mem_filter.mpr ⟨List.mem_append_right _ (List.mem_append_right _ (List.mem_append_right _ (List.mem_append_right _ (List.mem_append_right _ (List.mem_append_right _ (List.mem_append_left _ (List.mem_of_getElem? (i := 112) rfl))))))), rfl⟩
theorem wd_1313 : (Jvm.Cond.methodLink "ParlourLeaves$Sentence" (73 : Nat) ({ cls := "ParlourLeaves$Tape", name := "take", desc := "(I)Z" } : Jvm.MethodName)) ∈ zTB := List.mem_filter.mpr ⟨List.mem_append_right _ (List.mem_append_right _ (List.mem_append_right _ (List.mem_append_right _ (List.mem_append_right _ (List.mem_append_right _ (List.mem_append_left _ (List.mem_of_getElem? (i := 113) rfl))))))), rfl⟩
theorem wd_1314 : (Jvm.Cond.methodLink "ParlourLeaves$Sentence" (76 : Nat) ({ cls := "ParlourLeaves$Tape", name := "takeKnown", desc := "(LParlourLeaves$House;I)I" } : Jvm.MethodName)) ∈ zTB := List.mem_filter.mpr ⟨List.mem_append_right _ (List.mem_append_right _ (List.mem_append_right _ (List.mem_append_right _ (List.mem_append_right _ (List.mem_append_right _ (List.mem_append_left _ (List.mem_of_getElem? (i := 114) rfl))))))), rfl⟩
theorem wd_1315 : (Jvm.Cond.methodLink "ParlourLeaves$Sentence" (80 : Nat) ({ cls := "ParlourLeaves$Tape", name := "takeSign", desc := "()I" } : Jvm.MethodName)) ∈ zTB := List.mem_filter.mpr ⟨List.mem_append_right _ (List.mem_append_right _ (List.mem_append_right _ (List.mem_append_right _ (List.mem_append_right _ (List.mem_append_right _ (List.mem_append_left _ (List.mem_of_getElem? (i := 115) rfl))))))), rfl⟩
theorem wd_1316 : (Jvm.Cond.instanceMethod ({ cls := "ParlourLeaves$Tape", name := "takeSign", desc := "()I" } : Jvm.MethodName)) ∈ zTB := List.mem_filter.mpr ⟨List.mem_append_right _ (List.mem_append_right _ (List.mem_append_right _ (List.mem_append_right _ (List.mem_append_right _ (List.mem_append_right _ (List.mem_append_left _ (List.mem_of_getElem? (i := 116) rfl))))))), rfl⟩
theorem wd_1317 : (Jvm.Cond.selects "ParlourLeaves$Tape" ({ cls := "ParlourLeaves$Tape", name := "takeSign", desc := "()I" } : Jvm.MethodName) ({ cls := "ParlourLeaves$Tape", name := "takeSign", desc := "()I" } : Jvm.MethodName)) ∈ zTB := List.mem_filter.mpr ⟨List.mem_append_right _ (List.mem_append_right _ (List.mem_append_right _ (List.mem_append_right _ (List.mem_append_right _ (List.mem_append_right _ (List.mem_append_left _ (List.mem_of_getElem? (i := 117) rfl))))))), rfl⟩
theorem wd_1318 : (Jvm.Cond.code ({ cls := "ParlourLeaves$Tape", name := "takeSign", desc := "()I" } : Jvm.MethodName) prog_11_method_11_code (2 : Nat) (Option.some Jvm.ClassFile.FieldType.int)) ∈ zTB := List.mem_filter.mpr ⟨List.mem_append_right _ (List.mem_append_right _ (List.mem_append_right _ (List.mem_append_right _ (List.mem_append_right _ (List.mem_append_right _ (List.mem_append_left _ (List.mem_of_getElem? (i := 118) rfl))))))), rfl⟩
theorem wd_1319 : (Jvm.Cond.methodLink "ParlourLeaves$Sentence" (84 : Nat) ({ cls := "ParlourLeaves$Tape", name := "takeNumber", desc := "(II)I" } : Jvm.MethodName)) ∈ zTB := List.mem_filter.mpr ⟨List.mem_append_right _ (List.mem_append_right _ (List.mem_append_right _ (List.mem_append_right _ (List.mem_append_right _ (List.mem_append_right _ (List.mem_append_left _ (List.mem_of_getElem? (i := 119) rfl))))))), rfl⟩
theorem wd_1527 : (Jvm.Cond.fieldLink "ParlourLeavesModel" (419 : Nat) "ParlourLeavesModel" "onesMany" "I") ∈ zTB := List.mem_filter.mpr ⟨List.mem_append_right _ (List.mem_append_right _ (List.mem_append_right _ (List.mem_append_right _ (List.mem_append_right _ (List.mem_append_right _ (List.mem_append_right _ (List.mem_append_left _ (List.mem_of_getElem? (i := 87) rfl)))))))), rfl⟩
theorem wd_1528 : (Jvm.Cond.fieldLink "ParlourLeavesModel" (422 : Nat) "ParlourLeavesModel" "within" "I") ∈ zTB := List.mem_filter.mpr ⟨List.mem_append_right _ (List.mem_append_right _ (List.mem_append_right _ (List.mem_append_right _ (List.mem_append_right _ (List.mem_append_right _ (List.mem_append_right _ (List.mem_append_left _ (List.mem_of_getElem? (i := 88) rfl)))))))), rfl⟩
theorem wd_1957 : (Jvm.Cond.methodLink "ParlourLeavesModel" (337 : Nat) ({ cls := "ParlourLeavesModel", name := "writeWord", desc := "(J)V" } : Jvm.MethodName)) ∈ zTB := List.mem_filter.mpr ⟨List.mem_append_right _ (List.mem_append_right _ (List.mem_append_right _ (List.mem_append_right _ (List.mem_append_right _ (List.mem_append_right _ (List.mem_append_right _ (List.mem_append_right _ (List.mem_append_right _ (List.mem_of_getElem? (i := 37) rfl))))))))), rfl⟩
theorem wd_1959 : (Jvm.Cond.instanceMethod ({ cls := "ParlourLeavesModel", name := "writeWord", desc := "(J)V" } : Jvm.MethodName)) ∈ zTB := List.mem_filter.mpr ⟨List.mem_append_right _ (List.mem_append_right _ (List.mem_append_right _ (List.mem_append_right _ (List.mem_append_right _ (List.mem_append_right _ (List.mem_append_right _ (List.mem_append_right _ (List.mem_append_right _ (List.mem_of_getElem? (i := 39) rfl))))))))), rfl⟩
theorem wd_1960 : (Jvm.Cond.code ({ cls := "ParlourLeavesModel", name := "writeWord", desc := "(J)V" } : Jvm.MethodName) prog_14_method_94_code (3 : Nat) (Option.none : Option Jvm.ClassFile.FieldType)) ∈ zTB := List.mem_filter.mpr ⟨List.mem_append_right _ (List.mem_append_right _ (List.mem_append_right _ (List.mem_append_right _ (List.mem_append_right _ (List.mem_append_right _ (List.mem_append_right _ (List.mem_append_right _ (List.mem_append_right _ (List.mem_of_getElem? (i := 40) rfl))))))))), rfl⟩
theorem wd_1961 : (Jvm.Cond.methodLink "ParlourLeavesModel" (341 : Nat) ({ cls := "ParlourLeavesModel", name := "write", desc := "(I)V" } : Jvm.MethodName)) ∈ zTB := List.mem_filter.mpr ⟨List.mem_append_right _ (List.mem_append_right _ (List.mem_append_right _ (List.mem_append_right _ (List.mem_append_right _ (List.mem_append_right _ (List.mem_append_right _ (List.mem_append_right _ (List.mem_append_right _ (List.mem_of_getElem? (i := 41) rfl))))))))), rfl⟩
theorem wd_1963 : (Jvm.Cond.instanceMethod ({ cls := "ParlourLeavesModel", name := "write", desc := "(I)V" } : Jvm.MethodName)) ∈ zTB := List.mem_filter.mpr ⟨List.mem_append_right _ (List.mem_append_right _ (List.mem_append_right _ (List.mem_append_right _ (List.mem_append_right _ (List.mem_append_right _ (List.mem_append_right _ (List.mem_append_right _ (List.mem_append_right _ (List.mem_of_getElem? (i := 43) rfl))))))))), rfl⟩
theorem wd_1964 : (Jvm.Cond.code ({ cls := "ParlourLeavesModel", name := "write", desc := "(I)V" } : Jvm.MethodName) prog_14_method_93_code (2 : Nat) (Option.none : Option Jvm.ClassFile.FieldType)) ∈ zTB := List.mem_filter.mpr ⟨List.mem_append_right _ (List.mem_append_right _ (List.mem_append_right _ (List.mem_append_right _ (List.mem_append_right _ (List.mem_append_right _ (List.mem_append_right _ (List.mem_append_right _ (List.mem_append_right _ (List.mem_of_getElem? (i := 44) rfl))))))))), rfl⟩
theorem wd_1965 : (Jvm.Cond.methodLink "ParlourLeavesModel" (347 : Nat) ({ cls := "ParlourLeavesModel", name := "writeNext", desc := "(J)V" } : Jvm.MethodName)) ∈ zTB := List.mem_filter.mpr ⟨List.mem_append_right _ (List.mem_append_right _ (List.mem_append_right _ (List.mem_append_right _ (List.mem_append_right _ (List.mem_append_right _ (List.mem_append_right _ (List.mem_append_right _ (List.mem_append_right _ (List.mem_of_getElem? (i := 45) rfl))))))))), rfl⟩
theorem wd_1967 : (Jvm.Cond.instanceMethod ({ cls := "ParlourLeavesModel", name := "writeNext", desc := "(J)V" } : Jvm.MethodName)) ∈ zTB := List.mem_filter.mpr ⟨List.mem_append_right _ (List.mem_append_right _ (List.mem_append_right _ (List.mem_append_right _ (List.mem_append_right _ (List.mem_append_right _ (List.mem_append_right _ (List.mem_append_right _ (List.mem_append_right _ (List.mem_of_getElem? (i := 47) rfl))))))))), rfl⟩
theorem wd_1968 : (Jvm.Cond.code ({ cls := "ParlourLeavesModel", name := "writeNext", desc := "(J)V" } : Jvm.MethodName) prog_14_method_96_code (3 : Nat) (Option.none : Option Jvm.ClassFile.FieldType)) ∈ zTB := List.mem_filter.mpr ⟨List.mem_append_right _ (List.mem_append_right _ (List.mem_append_right _ (List.mem_append_right _ (List.mem_append_right _ (List.mem_append_right _ (List.mem_append_right _ (List.mem_append_right _ (List.mem_append_right _ (List.mem_of_getElem? (i := 48) rfl))))))))), rfl⟩
theorem wd_1969 : (Jvm.Cond.methodLink "ParlourLeavesModel" (344 : Nat) ({ cls := "ParlourLeavesModel", name := "writeNumber", desc := "(I)V" } : Jvm.MethodName)) ∈ zTB := List.mem_filter.mpr ⟨List.mem_append_right _ (List.mem_append_right _ (List.mem_append_right _ (List.mem_append_right _ (List.mem_append_right _ (List.mem_append_right _ (List.mem_append_right _ (List.mem_append_right _ (List.mem_append_right _ (List.mem_of_getElem? (i := 49) rfl))))))))), rfl⟩
theorem wd_1971 : (Jvm.Cond.instanceMethod ({ cls := "ParlourLeavesModel", name := "writeNumber", desc := "(I)V" } : Jvm.MethodName)) ∈ zTB := List.mem_filter.mpr ⟨List.mem_append_right _ (List.mem_append_right _ (List.mem_append_right _ (List.mem_append_right _ (List.mem_append_right _ (List.mem_append_right _ (List.mem_append_right _ (List.mem_append_right _ (List.mem_append_right _ (List.mem_of_getElem? (i := 51) rfl))))))))), rfl⟩
theorem wd_1972 : (Jvm.Cond.code ({ cls := "ParlourLeavesModel", name := "writeNumber", desc := "(I)V" } : Jvm.MethodName) prog_14_method_95_code (2 : Nat) (Option.none : Option Jvm.ClassFile.FieldType)) ∈ zTB := List.mem_filter.mpr ⟨List.mem_append_right _ (List.mem_append_right _ (List.mem_append_right _ (List.mem_append_right _ (List.mem_append_right _ (List.mem_append_right _ (List.mem_append_right _ (List.mem_append_right _ (List.mem_append_right _ (List.mem_of_getElem? (i := 52) rfl))))))))), rfl⟩
theorem wd_2054 : (Jvm.Cond.methodLink "ParlourLeavesModel" (437 : Nat) ({ cls := "ParlourLeavesModel", name := "readOr", desc := "()Z" } : Jvm.MethodName)) ∈ zTB := List.mem_filter.mpr ⟨List.mem_append_right _ (List.mem_append_right _ (List.mem_append_right _ (List.mem_append_right _ (List.mem_append_right _ (List.mem_append_right _ (List.mem_append_right _ (List.mem_append_right _ (List.mem_append_right _ (List.mem_of_getElem? (i := 134) rfl))))))))), rfl⟩
theorem wd_2056 : (Jvm.Cond.instanceMethod ({ cls := "ParlourLeavesModel", name := "readOr", desc := "()Z" } : Jvm.MethodName)) ∈ zTB := List.mem_filter.mpr ⟨List.mem_append_right _ (List.mem_append_right _ (List.mem_append_right _ (List.mem_append_right _ (List.mem_append_right _ (List.mem_append_right _ (List.mem_append_right _ (List.mem_append_right _ (List.mem_append_right _ (List.mem_of_getElem? (i := 136) rfl))))))))), rfl⟩
theorem wd_2057 : (Jvm.Cond.code ({ cls := "ParlourLeavesModel", name := "readOr", desc := "()Z" } : Jvm.MethodName) prog_14_method_119_code (2 : Nat) (Option.some Jvm.ClassFile.FieldType.boolean)) ∈ zTB := List.mem_filter.mpr ⟨List.mem_append_right _ (List.mem_append_right _ (List.mem_append_right _ (List.mem_append_right _ (List.mem_append_right _ (List.mem_append_right _ (List.mem_append_right _ (List.mem_append_right _ (List.mem_append_right _ (List.mem_of_getElem? (i := 137) rfl))))))))), rfl⟩
theorem wd_2058 : (Jvm.Cond.methodLink "ParlourLeavesModel" (406 : Nat) ({ cls := "ParlourLeavesModel", name := "readAnd", desc := "()Z" } : Jvm.MethodName)) ∈ zTB := List.mem_filter.mpr ⟨List.mem_append_right _ (List.mem_append_right _ (List.mem_append_right _ (List.mem_append_right _ (List.mem_append_right _ (List.mem_append_right _ (List.mem_append_right _ (List.mem_append_right _ (List.mem_append_right _ (List.mem_of_getElem? (i := 138) rfl))))))))), rfl⟩
theorem wd_2060 : (Jvm.Cond.instanceMethod ({ cls := "ParlourLeavesModel", name := "readAnd", desc := "()Z" } : Jvm.MethodName)) ∈ zTB := List.mem_filter.mpr ⟨List.mem_append_right _ (List.mem_append_right _ (List.mem_append_right _ (List.mem_append_right _ (List.mem_append_right _ (List.mem_append_right _ (List.mem_append_right _ (List.mem_append_right _ (List.mem_append_right _ (List.mem_of_getElem? (i := 140) rfl))))))))), rfl⟩
theorem wd_2061 : (Jvm.Cond.code ({ cls := "ParlourLeavesModel", name := "readAnd", desc := "()Z" } : Jvm.MethodName) prog_14_method_120_code (2 : Nat) (Option.some Jvm.ClassFile.FieldType.boolean)) ∈ zTB := List.mem_filter.mpr ⟨List.mem_append_right _ (List.mem_append_right _ (List.mem_append_right _ (List.mem_append_right _ (List.mem_append_right _ (List.mem_append_right _ (List.mem_append_right _ (List.mem_append_right _ (List.mem_append_right _ (List.mem_of_getElem? (i := 141) rfl))))))))), rfl⟩
theorem wd_2062 : (Jvm.Cond.methodLink "ParlourLeavesModel" (416 : Nat) ({ cls := "ParlourLeavesModel", name := "readSaid", desc := "()Z" } : Jvm.MethodName)) ∈ zTB := List.mem_filter.mpr ⟨List.mem_append_right _ (List.mem_append_right _ (List.mem_append_right _ (List.mem_append_right _ (List.mem_append_right _ (List.mem_append_right _ (List.mem_append_right _ (List.mem_append_right _ (List.mem_append_right _ (List.mem_of_getElem? (i := 142) rfl))))))))), rfl⟩
theorem wd_2064 : (Jvm.Cond.instanceMethod ({ cls := "ParlourLeavesModel", name := "readSaid", desc := "()Z" } : Jvm.MethodName)) ∈ zTB := List.mem_filter.mpr ⟨List.mem_append_right _ (List.mem_append_right _ (List.mem_append_right _ (List.mem_append_right _ (List.mem_append_right _ (List.mem_append_right _ (List.mem_append_right _ (List.mem_append_right _ (List.mem_append_right _ (List.mem_of_getElem? (i := 144) rfl))))))))), rfl⟩
theorem wd_2065 : (Jvm.Cond.code ({ cls := "ParlourLeavesModel", name := "readSaid", desc := "()Z" } : Jvm.MethodName) prog_14_method_121_code (4 : Nat) (Option.some Jvm.ClassFile.FieldType.boolean)) ∈ zTB := List.mem_filter.mpr ⟨List.mem_append_right _ (List.mem_append_right _ (List.mem_append_right _ (List.mem_append_right _ (List.mem_append_right _ (List.mem_append_right _ (List.mem_append_right _ (List.mem_append_right _ (List.mem_append_right _ (List.mem_of_getElem? (i := 145) rfl))))))))), rfl⟩
theorem wd_2066 : (Jvm.Cond.methodLink "ParlourLeavesModel" (425 : Nat) ({ cls := "ParlourLeavesModel", name := "readBracket", desc := "()Z" } : Jvm.MethodName)) ∈ zTB := List.mem_filter.mpr ⟨List.mem_append_right _ (List.mem_append_right _ (List.mem_append_right _ (List.mem_append_right _ (List.mem_append_right _ (List.mem_append_right _ (List.mem_append_right _ (List.mem_append_right _ (List.mem_append_right _ (List.mem_of_getElem? (i := 146) rfl))))))))), rfl⟩
theorem wd_2068 : (Jvm.Cond.instanceMethod ({ cls := "ParlourLeavesModel", name := "readBracket", desc := "()Z" } : Jvm.MethodName)) ∈ zTB := List.mem_filter.mpr ⟨List.mem_append_right _ (List.mem_append_right _ (List.mem_append_right _ (List.mem_append_right _ (List.mem_append_right _ (List.mem_append_right _ (List.mem_append_right _ (List.mem_append_right _ (List.mem_append_right _ (List.mem_of_getElem? (i := 148) rfl))))))))), rfl⟩
theorem wd_2069 : (Jvm.Cond.code ({ cls := "ParlourLeavesModel", name := "readBracket", desc := "()Z" } : Jvm.MethodName) prog_14_method_123_code (1 : Nat) (Option.some Jvm.ClassFile.FieldType.boolean)) ∈ zTB := List.mem_filter.mpr ⟨List.mem_append_right _ (List.mem_append_right _ (List.mem_append_right _ (List.mem_append_right _ (List.mem_append_right _ (List.mem_append_right _ (List.mem_append_right _ (List.mem_append_right _ (List.mem_append_right _ (List.mem_of_getElem? (i := 149) rfl))))))))), rfl⟩
theorem wd_2070 : (Jvm.Cond.methodLink "ParlourLeavesModel" (428 : Nat) ({ cls := "ParlourLeavesModel", name := "readNot", desc := "()Z" } : Jvm.MethodName)) ∈ zTB := List.mem_filter.mpr ⟨List.mem_append_right _ (List.mem_append_right _ (List.mem_append_right _ (List.mem_append_right _ (List.mem_append_right _ (List.mem_append_right _ (List.mem_append_right _ (List.mem_append_right _ (List.mem_append_right _ (List.mem_of_getElem? (i := 150) rfl))))))))), rfl⟩
theorem wd_2072 : (Jvm.Cond.instanceMethod ({ cls := "ParlourLeavesModel", name := "readNot", desc := "()Z" } : Jvm.MethodName)) ∈ zTB := List.mem_filter.mpr ⟨List.mem_append_right _ (List.mem_append_right _ (List.mem_append_right _ (List.mem_append_right _ (List.mem_append_right _ (List.mem_append_right _ (List.mem_append_right _ (List.mem_append_right _ (List.mem_append_right _ (List.mem_of_getElem? (i := 152) rfl))))))))), rfl⟩
theorem wd_2073 : (Jvm.Cond.code ({ cls := "ParlourLeavesModel", name := "readNot", desc := "()Z" } : Jvm.MethodName) prog_14_method_122_code (1 : Nat) (Option.some Jvm.ClassFile.FieldType.boolean)) ∈ zTB := List.mem_filter.mpr ⟨List.mem_append_right _ (List.mem_append_right _ (List.mem_append_right _ (List.mem_append_right _ (List.mem_append_right _ (List.mem_append_right _ (List.mem_append_right _ (List.mem_append_right _ (List.mem_append_right _ (List.mem_of_getElem? (i := 153) rfl))))))))), rfl⟩
theorem wd_2078 : (Jvm.Cond.methodLink "ParlourLeavesModel" (431 : Nat) ({ cls := "ParlourLeavesModel", name := "readOf", desc := "(I)Z" } : Jvm.MethodName)) ∈ zTB := List.mem_filter.mpr ⟨List.mem_append_right _ (List.mem_append_right _ (List.mem_append_right _ (List.mem_append_right _ (List.mem_append_right _ (List.mem_append_right _ (List.mem_append_right _ (List.mem_append_right _ (List.mem_append_right _ (List.mem_of_getElem? (i := 158) rfl))))))))), rfl⟩
theorem wd_2080 : (Jvm.Cond.instanceMethod ({ cls := "ParlourLeavesModel", name := "readOf", desc := "(I)Z" } : Jvm.MethodName)) ∈ zTB := List.mem_filter.mpr ⟨List.mem_append_right _ (List.mem_append_right _ (List.mem_append_right _ (List.mem_append_right _ (List.mem_append_right _ (List.mem_append_right _ (List.mem_append_right _ (List.mem_append_right _ (List.mem_append_right _ (List.mem_of_getElem? (i := 160) rfl))))))))), rfl⟩
theorem wd_2081 : (Jvm.Cond.code ({ cls := "ParlourLeavesModel", name := "readOf", desc := "(I)Z" } : Jvm.MethodName) prog_14_method_124_code (2 : Nat) (Option.some Jvm.ClassFile.FieldType.boolean)) ∈ zTB := List.mem_filter.mpr ⟨List.mem_append_right _ (List.mem_append_right _ (List.mem_append_right _ (List.mem_append_right _ (List.mem_append_right _ (List.mem_append_right _ (List.mem_append_right _ (List.mem_append_right _ (List.mem_append_right _ (List.mem_of_getElem? (i := 161) rfl))))))))), rfl⟩
theorem wd_2082 : (Jvm.Cond.methodLink "ParlourLeavesModel" (434 : Nat) ({ cls := "ParlourLeavesModel", name := "readCompare", desc := "(I)Z" } : Jvm.MethodName)) ∈ zTB := List.mem_filter.mpr ⟨List.mem_append_right _ (List.mem_append_right _ (List.mem_append_right _ (List.mem_append_right _ (List.mem_append_right _ (List.mem_append_right _ (List.mem_append_right _ (List.mem_append_right _ (List.mem_append_right _ (List.mem_of_getElem? (i := 162) rfl))))))))), rfl⟩
theorem wd_2084 : (Jvm.Cond.instanceMethod ({ cls := "ParlourLeavesModel", name := "readCompare", desc := "(I)Z" } : Jvm.MethodName)) ∈ zTB := List.mem_filter.mpr ⟨List.mem_append_right _ (List.mem_append_right _ (List.mem_append_right _ (List.mem_append_right _ (List.mem_append_right _ (List.mem_append_right _ (List.mem_append_right _ (List.mem_append_right _ (List.mem_append_right _ (List.mem_of_getElem? (i := 164) rfl))))))))), rfl⟩
theorem wd_2085 : (Jvm.Cond.code ({ cls := "ParlourLeavesModel", name := "readCompare", desc := "(I)Z" } : Jvm.MethodName) prog_14_method_125_code (3 : Nat) (Option.some Jvm.ClassFile.FieldType.boolean)) ∈ zTB := List.mem_filter.mpr ⟨List.mem_append_right _ (List.mem_append_right _ (List.mem_append_right _ (List.mem_append_right _ (List.mem_append_right _ (List.mem_append_right _ (List.mem_append_right _ (List.mem_append_right _ (List.mem_append_right _ (List.mem_of_getElem? (i := 165) rfl))))))))), rfl⟩
theorem wd_2090 : (Jvm.Cond.methodLink "ParlourLeavesModel" (440 : Nat) ({ cls := "ParlourLeavesModel", name := "holds", desc := "(II)Z" } : Jvm.MethodName)) ∈ zTB := List.mem_filter.mpr ⟨List.mem_append_right _ (List.mem_append_right _ (List.mem_append_right _ (List.mem_append_right _ (List.mem_append_right _ (List.mem_append_right _ (List.mem_append_right _ (List.mem_append_right _ (List.mem_append_right _ (List.mem_of_getElem? (i := 170) rfl))))))))), rfl⟩
theorem wd_2092 : (Jvm.Cond.instanceMethod ({ cls := "ParlourLeavesModel", name := "holds", desc := "(II)Z" } : Jvm.MethodName)) ∈ zTB := List.mem_filter.mpr ⟨List.mem_append_right _ (List.mem_append_right _ (List.mem_append_right _ (List.mem_append_right _ (List.mem_append_right _ (List.mem_append_right _ (List.mem_append_right _ (List.mem_append_right _ (List.mem_append_right _ (List.mem_of_getElem? (i := 172) rfl))))))))), rfl⟩
theorem wd_2093 : (Jvm.Cond.code ({ cls := "ParlourLeavesModel", name := "holds", desc := "(II)Z" } : Jvm.MethodName) prog_14_method_127_code (8 : Nat) (Option.some Jvm.ClassFile.FieldType.boolean)) ∈ zTB := List.mem_filter.mpr ⟨List.mem_append_right _ (List.mem_append_right _ (List.mem_append_right _ (List.mem_append_right _ (List.mem_append_right _ (List.mem_append_right _ (List.mem_append_right _ (List.mem_append_right _ (List.mem_append_right _ (List.mem_of_getElem? (i := 173) rfl))))))))), rfl⟩
theorem wd_2094 : (Jvm.Cond.methodLink "ParlourLeavesModel" (443 : Nat) ({ cls := "ParlourLeavesModel", name := "tellsOf", desc := "(II)Z" } : Jvm.MethodName)) ∈ zTB := List.mem_filter.mpr ⟨List.mem_append_right _ (List.mem_append_right _ (List.mem_append_right _ (List.mem_append_right _ (List.mem_append_right _ (List.mem_append_right _ (List.mem_append_right _ (List.mem_append_right _ (List.mem_append_right _ (List.mem_of_getElem? (i := 174) rfl))))))))), rfl⟩
theorem wd_2096 : (Jvm.Cond.instanceMethod ({ cls := "ParlourLeavesModel", name := "tellsOf", desc := "(II)Z" } : Jvm.MethodName)) ∈ zTB := List.mem_filter.mpr ⟨List.mem_append_right _ (List.mem_append_right _ (List.mem_append_right _ (List.mem_append_right _ (List.mem_append_right _ (List.mem_append_right _ (List.mem_append_right _ (List.mem_append_right _ (List.mem_append_right _ (List.mem_of_getElem? (i := 176) rfl))))))))), rfl⟩
theorem wd_2097 : (Jvm.Cond.code ({ cls := "ParlourLeavesModel", name := "tellsOf", desc := "(II)Z" } : Jvm.MethodName) prog_14_method_117_code (4 : Nat) (Option.some Jvm.ClassFile.FieldType.boolean)) ∈ zTB := List.mem_filter.mpr ⟨List.mem_append_right _ (List.mem_append_right _ (List.mem_append_right _ (List.mem_append_right _ (List.mem_append_right _ (List.mem_append_right _ (List.mem_append_right _ (List.mem_append_right _ (List.mem_append_right _ (List.mem_of_getElem? (i := 177) rfl))))))))), rfl⟩
theorem wp_2_9 : Cond.selects "ParlourLeaves$Sentence" (⟨"ParlourLeaves$Sentence", "add", "(III)Z"⟩ : MethodName) (⟨"ParlourLeaves$Sentence", "add", "(III)Z"⟩ : MethodName) ∈ zTB := List.mem_filter.mpr ⟨List.mem_append_left _ (List.mem_map.mpr ⟨((⟨"ParlourLeaves$Sentence", "add", "(III)Z"⟩ : MethodName), 6), (List.mem_append_right _ (List.mem_append_left _ (List.mem_of_getElem? (i := 9) rfl))), rfl⟩), rfl⟩
theorem wp_2_6 : Cond.selects "ParlourLeaves$Sentence" (⟨"ParlourLeaves$Sentence", "readCond", "(LParlourLeaves$Tape;LParlourLeaves$House;I)Z"⟩ : MethodName) (⟨"ParlourLeaves$Sentence", "readCond", "(LParlourLeaves$Tape;LParlourLeaves$House;I)Z"⟩ : MethodName) ∈ zTB := List.mem_filter.mpr ⟨List.mem_append_left _ (List.mem_map.mpr ⟨((⟨"ParlourLeaves$Sentence", "readCond", "(LParlourLeaves$Tape;LParlourLeaves$House;I)Z"⟩ : MethodName), 6), (List.mem_append_right _ (List.mem_append_left _ (List.mem_of_getElem? (i := 6) rfl))), rfl⟩), rfl⟩
theorem wp_2_7 : Cond.selects "ParlourLeaves$Sentence" (⟨"ParlourLeaves$Sentence", "readJoined", "(LParlourLeaves$Tape;LParlourLeaves$House;I)Z"⟩ : MethodName) (⟨"ParlourLeaves$Sentence", "readJoined", "(LParlourLeaves$Tape;LParlourLeaves$House;I)Z"⟩ : MethodName) ∈ zTB := List.mem_filter.mpr ⟨List.mem_append_left _ (List.mem_map.mpr ⟨((⟨"ParlourLeaves$Sentence", "readJoined", "(LParlourLeaves$Tape;LParlourLeaves$House;I)Z"⟩ : MethodName), 6), (List.mem_append_right _ (List.mem_append_left _ (List.mem_of_getElem? (i := 7) rfl))), rfl⟩), rfl⟩
theorem wp_2_8 : Cond.selects "ParlourLeaves$Sentence" (⟨"ParlourLeaves$Sentence", "readOne", "(LParlourLeaves$Tape;LParlourLeaves$House;I)Z"⟩ : MethodName) (⟨"ParlourLeaves$Sentence", "readOne", "(LParlourLeaves$Tape;LParlourLeaves$House;I)Z"⟩ : MethodName) ∈ zTB := List.mem_filter.mpr ⟨List.mem_append_left _ (List.mem_map.mpr ⟨((⟨"ParlourLeaves$Sentence", "readOne", "(LParlourLeaves$Tape;LParlourLeaves$House;I)Z"⟩ : MethodName), 6), (List.mem_append_right _ (List.mem_append_left _ (List.mem_of_getElem? (i := 8) rfl))), rfl⟩), rfl⟩
theorem wp_7_11 : Cond.selects "ParlourLeavesModel" (⟨"ParlourLeavesModel", "holds", "(II)Z"⟩ : MethodName) (⟨"ParlourLeavesModel", "holds", "(II)Z"⟩ : MethodName) ∈ zTB := List.mem_filter.mpr ⟨List.mem_append_left _ (List.mem_map.mpr ⟨((⟨"ParlourLeavesModel", "holds", "(II)Z"⟩ : MethodName), 45), (List.mem_append_right _ (List.mem_append_right _ (List.mem_append_right _ (List.mem_append_right _ (List.mem_append_right _ (List.mem_append_right _ (List.mem_of_getElem? (i := 11) rfl))))))), rfl⟩), rfl⟩
theorem wp_7_4 : Cond.selects "ParlourLeavesModel" (⟨"ParlourLeavesModel", "readAnd", "()Z"⟩ : MethodName) (⟨"ParlourLeavesModel", "readAnd", "()Z"⟩ : MethodName) ∈ zTB := List.mem_filter.mpr ⟨List.mem_append_left _ (List.mem_map.mpr ⟨((⟨"ParlourLeavesModel", "readAnd", "()Z"⟩ : MethodName), 45), (List.mem_append_right _ (List.mem_append_right _ (List.mem_append_right _ (List.mem_append_right _ (List.mem_append_right _ (List.mem_append_right _ (List.mem_of_getElem? (i := 4) rfl))))))), rfl⟩), rfl⟩
theorem wp_7_6 : Cond.selects "ParlourLeavesModel" (⟨"ParlourLeavesModel", "readBracket", "()Z"⟩ : MethodName) (⟨"ParlourLeavesModel", "readBracket", "()Z"⟩ : MethodName) ∈ zTB := List.mem_filter.mpr ⟨List.mem_append_left _ (List.mem_map.mpr ⟨((⟨"ParlourLeavesModel", "readBracket", "()Z"⟩ : MethodName), 45), (List.mem_append_right _ (List.mem_append_right _ (List.mem_append_right _ (List.mem_append_right _ (List.mem_append_right _ (List.mem_append_right _ (List.mem_of_getElem? (i := 6) rfl))))))), rfl⟩), rfl⟩
theorem wp_7_10 : Cond.selects "ParlourLeavesModel" (⟨"ParlourLeavesModel", "readCompare", "(I)Z"⟩ : MethodName) (⟨"ParlourLeavesModel", "readCompare", "(I)Z"⟩ : MethodName) ∈ zTB := List.mem_filter.mpr ⟨List.mem_append_left _ (List.mem_map.mpr ⟨((⟨"ParlourLeavesModel", "readCompare", "(I)Z"⟩ : MethodName), 45), (List.mem_append_right _ (List.mem_append_right _ (List.mem_append_right _ (List.mem_append_right _ (List.mem_append_right _ (List.mem_append_right _ (List.mem_of_getElem? (i := 10) rfl))))))), rfl⟩), rfl⟩
theorem wp_7_7 : Cond.selects "ParlourLeavesModel" (⟨"ParlourLeavesModel", "readNot", "()Z"⟩ : MethodName) (⟨"ParlourLeavesModel", "readNot", "()Z"⟩ : MethodName) ∈ zTB := List.mem_filter.mpr ⟨List.mem_append_left _ (List.mem_map.mpr ⟨((⟨"ParlourLeavesModel", "readNot", "()Z"⟩ : MethodName), 45), (List.mem_append_right _ (List.mem_append_right _ (List.mem_append_right _ (List.mem_append_right _ (List.mem_append_right _ (List.mem_append_right _ (List.mem_of_getElem? (i := 7) rfl))))))), rfl⟩), rfl⟩
theorem wp_7_9 : Cond.selects "ParlourLeavesModel" (⟨"ParlourLeavesModel", "readOf", "(I)Z"⟩ : MethodName) (⟨"ParlourLeavesModel", "readOf", "(I)Z"⟩ : MethodName) ∈ zTB := List.mem_filter.mpr ⟨List.mem_append_left _ (List.mem_map.mpr ⟨((⟨"ParlourLeavesModel", "readOf", "(I)Z"⟩ : MethodName), 45), (List.mem_append_right _ (List.mem_append_right _ (List.mem_append_right _ (List.mem_append_right _ (List.mem_append_right _ (List.mem_append_right _ (List.mem_of_getElem? (i := 9) rfl))))))), rfl⟩), rfl⟩
theorem wp_7_3 : Cond.selects "ParlourLeavesModel" (⟨"ParlourLeavesModel", "readOr", "()Z"⟩ : MethodName) (⟨"ParlourLeavesModel", "readOr", "()Z"⟩ : MethodName) ∈ zTB := List.mem_filter.mpr ⟨List.mem_append_left _ (List.mem_map.mpr ⟨((⟨"ParlourLeavesModel", "readOr", "()Z"⟩ : MethodName), 45), (List.mem_append_right _ (List.mem_append_right _ (List.mem_append_right _ (List.mem_append_right _ (List.mem_append_right _ (List.mem_append_right _ (List.mem_of_getElem? (i := 3) rfl))))))), rfl⟩), rfl⟩
theorem wp_7_5 : Cond.selects "ParlourLeavesModel" (⟨"ParlourLeavesModel", "readSaid", "()Z"⟩ : MethodName) (⟨"ParlourLeavesModel", "readSaid", "()Z"⟩ : MethodName) ∈ zTB := List.mem_filter.mpr ⟨List.mem_append_left _ (List.mem_map.mpr ⟨((⟨"ParlourLeavesModel", "readSaid", "()Z"⟩ : MethodName), 45), (List.mem_append_right _ (List.mem_append_right _ (List.mem_append_right _ (List.mem_append_right _ (List.mem_append_right _ (List.mem_append_right _ (List.mem_of_getElem? (i := 5) rfl))))))), rfl⟩), rfl⟩
theorem wp_7_12 : Cond.selects "ParlourLeavesModel" (⟨"ParlourLeavesModel", "tellsOf", "(II)Z"⟩ : MethodName) (⟨"ParlourLeavesModel", "tellsOf", "(II)Z"⟩ : MethodName) ∈ zTB := List.mem_filter.mpr ⟨List.mem_append_left _ (List.mem_map.mpr ⟨((⟨"ParlourLeavesModel", "tellsOf", "(II)Z"⟩ : MethodName), 45), (List.mem_append_right _ (List.mem_append_right _ (List.mem_append_right _ (List.mem_append_right _ (List.mem_append_right _ (List.mem_append_right _ (List.mem_of_getElem? (i := 12) rfl))))))), rfl⟩), rfl⟩
theorem wp_6_2 : Cond.selects "ParlourLeavesModel" (⟨"ParlourLeavesModel", "write", "(I)V"⟩ : MethodName) (⟨"ParlourLeavesModel", "write", "(I)V"⟩ : MethodName) ∈ zTB := List.mem_filter.mpr ⟨List.mem_append_left _ (List.mem_map.mpr ⟨((⟨"ParlourLeavesModel", "write", "(I)V"⟩ : MethodName), 45), (List.mem_append_right _ (List.mem_append_right _ (List.mem_append_right _ (List.mem_append_right _ (List.mem_append_right _ (List.mem_append_left _ (List.mem_of_getElem? (i := 2) rfl))))))), rfl⟩), rfl⟩
theorem wp_6_3 : Cond.selects "ParlourLeavesModel" (⟨"ParlourLeavesModel", "writeNext", "(J)V"⟩ : MethodName) (⟨"ParlourLeavesModel", "writeNext", "(J)V"⟩ : MethodName) ∈ zTB := List.mem_filter.mpr ⟨List.mem_append_left _ (List.mem_map.mpr ⟨((⟨"ParlourLeavesModel", "writeNext", "(J)V"⟩ : MethodName), 45), (List.mem_append_right _ (List.mem_append_right _ (List.mem_append_right _ (List.mem_append_right _ (List.mem_append_right _ (List.mem_append_left _ (List.mem_of_getElem? (i := 3) rfl))))))), rfl⟩), rfl⟩
theorem wp_6_4 : Cond.selects "ParlourLeavesModel" (⟨"ParlourLeavesModel", "writeNumber", "(I)V"⟩ : MethodName) (⟨"ParlourLeavesModel", "writeNumber", "(I)V"⟩ : MethodName) ∈ zTB := List.mem_filter.mpr ⟨List.mem_append_left _ (List.mem_map.mpr ⟨((⟨"ParlourLeavesModel", "writeNumber", "(I)V"⟩ : MethodName), 45), (List.mem_append_right _ (List.mem_append_right _ (List.mem_append_right _ (List.mem_append_right _ (List.mem_append_right _ (List.mem_append_left _ (List.mem_of_getElem? (i := 4) rfl))))))), rfl⟩), rfl⟩
theorem wp_6_1 : Cond.selects "ParlourLeavesModel" (⟨"ParlourLeavesModel", "writeWord", "(J)V"⟩ : MethodName) (⟨"ParlourLeavesModel", "writeWord", "(J)V"⟩ : MethodName) ∈ zTB := List.mem_filter.mpr ⟨List.mem_append_left _ (List.mem_map.mpr ⟨((⟨"ParlourLeavesModel", "writeWord", "(J)V"⟩ : MethodName), 45), (List.mem_append_right _ (List.mem_append_right _ (List.mem_append_right _ (List.mem_append_right _ (List.mem_append_right _ (List.mem_append_left _ (List.mem_of_getElem? (i := 1) rfl))))))), rfl⟩), rfl⟩
theorem dn_X8_readJoined : zDn yX8_readJoined 3 := ⟨by decide, by decide, by decide +kernel⟩
theorem dn_X8_add : zDn yX8_add 3 := ⟨by decide, by decide, by decide +kernel⟩
theorem dn_X8_readOne : zDn yX8_readOne 3 := ⟨by decide, by decide, by decide +kernel⟩
theorem dn_X8_canBeginOne : zDn yX8_canBeginOne 1 := ⟨by decide, by decide, by decide +kernel⟩
theorem dn_X8_readCond : zDn yX8_readCond 3 := ⟨by decide, by decide, by decide +kernel⟩
theorem dn_X9_takeSign : zDn yX9_takeSign 0 := ⟨by decide, by decide, by decide +kernel⟩
theorem dn_X8_clear : zDn yX8_clear 0 := ⟨by decide, by decide, by decide +kernel⟩
theorem zs_200 : (Int16.ofInt (200)).toInt32 = (200 : Int32) := by decide
theorem dn_X8_readFrom : zDn yX8_readFrom 2 := ⟨by decide, by decide, by decide +kernel⟩
theorem zb_96 : (Int8.ofInt (96)).toInt32 = (96 : Int32) := by decide
theorem dn_X12_write : zDn yX12_write 1 := ⟨by decide, by decide, by decide +kernel⟩
theorem dn_X12_writeWord : zDn yX12_writeWord 1 := ⟨by decide, by decide, by decide +kernel⟩
theorem dn_X12_writeNumber : zDn yX12_writeNumber 1 := ⟨by decide, by decide, by decide +kernel⟩
theorem dn_X12_writeNext : zDn yX12_writeNext 1 := ⟨by decide, by decide, by decide +kernel⟩
theorem zs_166 : (Int16.ofInt (166)).toInt32 = (166 : Int32) := by decide
theorem dn_X12_holds : zDn yX12_holds 2 := ⟨by decide, by decide, by decide +kernel⟩
theorem dn_X12_tellsOf : zDn yX12_tellsOf 2 := ⟨by decide, by decide, by decide +kernel⟩
theorem zb_19 : (Int8.ofInt (19)).toInt32 = (19 : Int32) := by decide
theorem dn_X12_readAnd : zDn yX12_readAnd 0 := ⟨by decide, by decide, by decide +kernel⟩
theorem dn_X12_readSaid : zDn yX12_readSaid 0 := ⟨by decide, by decide, by decide +kernel⟩
theorem dn_X12_readCompare : zDn yX12_readCompare 1 := ⟨by decide, by decide, by decide +kernel⟩
theorem dn_X12_readOf : zDn yX12_readOf 1 := ⟨by decide, by decide, by decide +kernel⟩
theorem dn_X12_readNot : zDn yX12_readNot 0 := ⟨by decide, by decide, by decide +kernel⟩
theorem dn_X12_readBracket : zDn yX12_readBracket 0 := ⟨by decide, by decide, by decide +kernel⟩
theorem dn_X12_readOr : zDn yX12_readOr 0 := ⟨by decide, by decide, by decide +kernel⟩
theorem cv_X8_57 : zCV RX8 RX8 57 yX8_readJoined cX8_readJoined 5 (some .boolean) 3 := ⟨rfl, dn_X8_readJoined, wd_1296, wd_1298, wp_2_7, wd_11, wd_1299⟩
theorem lk_X8_50 : zLk RX8 50 10 5 := ⟨"ParlourLeaves$Tape", RX9, TX9, 11, rfl, by decide, wsin_X9, wd_103, rfl⟩
theorem cv_X8_60 : zCV RX8 RX9 60 yX9_read cX9_read 4 none 0 := ⟨rfl, dn_X9_read, wd_1308, wd_585, wd_586, wd_2, wd_587⟩
theorem cv_X8_63 : zCV RX8 RX8 63 yX8_add cX8_add 4 (some .boolean) 3 := ⟨rfl, dn_X8_add, wd_1309, wd_1311, wp_2_9, wd_11, wd_1312⟩
theorem cv_X8_67 : zCV RX8 RX8 67 yX8_readOne cX8_readOne 6 (some .boolean) 3 := ⟨rfl, dn_X8_readOne, wd_1300, wd_1302, wp_2_8, wd_11, wd_1303⟩
theorem cv_X8_70 : zCS RX8 70 yX8_canBeginOne cX8_canBeginOne 1 (some .boolean) 1 := ⟨dn_X8_canBeginOne, wd_1304, wd_1305, wd_11, wd_1306⟩
theorem cv_X8_53 : zCV RX8 RX9 53 yX9_fail cX9_fail 2 (some .boolean) 1 := ⟨rfl, dn_X9_fail, wd_1307, wd_610, wd_611, wd_2, wd_612⟩
theorem cv_X8_76 : zCV RX8 RX9 76 yX9_takeKnown cX9_takeKnown 4 (some .int) 2 := ⟨rfl, dn_X9_takeKnown, wd_1314, wd_631, wd_632, wd_2, wd_633⟩
theorem cv_X8_46 : zCV RX8 RX8 46 yX8_readCond cX8_readCond 5 (some .boolean) 3 := ⟨rfl, dn_X8_readCond, wd_1292, wd_1294, wp_2_6, wd_11, wd_1295⟩
theorem cv_X8_73 : zCV RX8 RX9 73 yX9_take cX9_take 2 (some .boolean) 1 := ⟨rfl, dn_X9_take, wd_1313, wd_661, wd_662, wd_2, wd_663⟩
theorem cv_X8_80 : zCV RX8 RX9 80 yX9_takeSign cX9_takeSign 2 (some .int) 0 := ⟨rfl, dn_X9_takeSign, wd_1315, wd_1316, wd_1317, wd_2, wd_1318⟩
theorem cv_X8_84 : zCV RX8 RX9 84 yX9_takeNumber cX9_takeNumber 4 (some .int) 2 := ⟨rfl, dn_X9_takeNumber, wd_1319, wd_637, wd_638, wd_2, wd_639⟩
theorem cv_X8_37 : zCV RX8 RX8 37 yX8_clear cX8_clear 1 none 0 := ⟨rfl, dn_X8_clear, wd_1290, wd_688, wd_689, wd_11, wd_690⟩
theorem cv_X8_40 : zCV RX8 RX9 40 yX9_beginReading cX9_beginReading 2 none 1 := ⟨rfl, dn_X9_beginReading, wd_1291, wd_581, wd_582, wd_2, wd_583⟩
theorem lk_X11_74 : zLk RX11 74 12 9 := ⟨"ParlourLeaves", RX11, TX11, 17, rfl, by decide, wsin_X11, wd_513, rfl⟩
theorem cv_X11_377 : zCV RX11 RX8 377 yX8_readFrom cX8_readFrom 3 (some .boolean) 2 := ⟨rfl, dn_X8_readFrom, wd_1286, wd_1287, wd_1288, wd_11, wd_1289⟩
theorem cv_X12_341 : zCV RX12 RX12 341 yX12_write cX12_write 2 none 1 := ⟨rfl, dn_X12_write, wd_1961, wd_1963, wp_6_2, wd_19, wd_1964⟩
theorem cv_X12_337 : zCV RX12 RX12 337 yX12_writeWord cX12_writeWord 3 none 1 := ⟨rfl, dn_X12_writeWord, wd_1957, wd_1959, wp_6_1, wd_19, wd_1960⟩
theorem cv_X12_344 : zCV RX12 RX12 344 yX12_writeNumber cX12_writeNumber 2 none 1 := ⟨rfl, dn_X12_writeNumber, wd_1969, wd_1971, wp_6_4, wd_19, wd_1972⟩
theorem cv_X12_347 : zCV RX12 RX12 347 yX12_writeNext cX12_writeNext 3 none 1 := ⟨rfl, dn_X12_writeNext, wd_1965, wd_1967, wp_6_3, wd_19, wd_1968⟩
theorem cv_X12_440 : zCV RX12 RX12 440 yX12_holds cX12_holds 8 (some .boolean) 2 := ⟨rfl, dn_X12_holds, wd_2090, wd_2092, wp_7_11, wd_19, wd_2093⟩
theorem cv_X12_443 : zCV RX12 RX12 443 yX12_tellsOf cX12_tellsOf 4 (some .boolean) 2 := ⟨rfl, dn_X12_tellsOf, wd_2094, wd_2096, wp_7_12, wd_19, wd_2097⟩
theorem cv_X12_406 : zCV RX12 RX12 406 yX12_readAnd cX12_readAnd 2 (some .boolean) 0 := ⟨rfl, dn_X12_readAnd, wd_2058, wd_2060, wp_7_4, wd_19, wd_2061⟩
theorem lk_X12_409 : zLk RX12 409 13 44 := ⟨"ParlourLeavesModel", RX12, TX12, 45, rfl, by decide, wsin_X12, wd_1529, rfl⟩
theorem cv_X12_416 : zCV RX12 RX12 416 yX12_readSaid cX12_readSaid 4 (some .boolean) 0 := ⟨rfl, dn_X12_readSaid, wd_2062, wd_2064, wp_7_5, wd_19, wd_2065⟩
theorem lk_X12_419 : zLk RX12 419 13 42 := ⟨"ParlourLeavesModel", RX12, TX12, 45, rfl, by decide, wsin_X12, wd_1527, rfl⟩
theorem lk_X12_422 : zLk RX12 422 13 43 := ⟨"ParlourLeavesModel", RX12, TX12, 45, rfl, by decide, wsin_X12, wd_1528, rfl⟩
theorem lq_X12_419 : zLq RX12 419 13 42 .int := ⟨"ParlourLeavesModel", RX12, TX12, 45, tyX12, rfl, by decide, wsin_X12, wd_1527, rfl, rfl, by decide +kernel, tyX12_ok, nmX12⟩
theorem lq_X12_422 : zLq RX12 422 13 43 .int := ⟨"ParlourLeavesModel", RX12, TX12, 45, tyX12, rfl, by decide, wsin_X12, wd_1528, rfl, rfl, by decide +kernel, tyX12_ok, nmX12⟩
theorem cv_X12_434 : zCV RX12 RX12 434 yX12_readCompare cX12_readCompare 3 (some .boolean) 1 := ⟨rfl, dn_X12_readCompare, wd_2082, wd_2084, wp_7_10, wd_19, wd_2085⟩
theorem cv_X12_431 : zCV RX12 RX12 431 yX12_readOf cX12_readOf 2 (some .boolean) 1 := ⟨rfl, dn_X12_readOf, wd_2078, wd_2080, wp_7_9, wd_19, wd_2081⟩
theorem cv_X12_428 : zCV RX12 RX12 428 yX12_readNot cX12_readNot 1 (some .boolean) 0 := ⟨rfl, dn_X12_readNot, wd_2070, wd_2072, wp_7_7, wd_19, wd_2073⟩
theorem cv_X12_425 : zCV RX12 RX12 425 yX12_readBracket cX12_readBracket 1 (some .boolean) 0 := ⟨rfl, dn_X12_readBracket, wd_2066, wd_2068, wp_7_6, wd_19, wd_2069⟩
theorem cv_X12_437 : zCV RX12 RX12 437 yX12_readOr cX12_readOr 2 (some .boolean) 0 := ⟨rfl, dn_X12_readOr, wd_2054, wd_2056, wp_7_3, wd_19, wd_2057⟩
theorem dX8_readCond_0 : decode cX8_readCond 0 = .ok (.aload_n 0, 1) := by decide +kernel
theorem dX8_readCond_1 : decode cX8_readCond 1 = .ok (.aload_n 1, 1) := by decide +kernel
theorem dX8_readCond_2 : decode cX8_readCond 2 = .ok (.aload_n 2, 1) := by decide +kernel
theorem dX8_readCond_3 : decode cX8_readCond 3 = .ok (.iload_n 3, 1) := by decide +kernel
theorem dX8_readCond_4 : decode cX8_readCond 4 = .ok (.invokevirtual 57, 3) := by decide +kernel
theorem dX8_readCond_7 : decode cX8_readCond 7 = .ok (.ifCond .ne 5, 3) := by decide +kernel
theorem dX8_readCond_10 : decode cX8_readCond 10 = .ok (.iconst 0, 1) := by decide +kernel
theorem dX8_readCond_11 : decode cX8_readCond 11 = .ok (.ireturn, 1) := by decide +kernel
theorem dX8_readCond_12 : decode cX8_readCond 12 = .ok (.iconst 0, 1) := by decide +kernel
theorem dX8_readCond_13 : decode cX8_readCond 13 = .ok (.istore 4, 2) := by decide +kernel
theorem dX8_readCond_15 : decode cX8_readCond 15 = .ok (.iload 4, 2) := by decide +kernel
theorem dX8_readCond_17 : decode cX8_readCond 17 = .ok (.bipush 20, 2) := by decide +kernel
theorem dX8_readCond_19 : decode cX8_readCond 19 = .ok (.if_icmp .ge 43, 3) := by decide +kernel
theorem dX8_readCond_22 : decode cX8_readCond 22 = .ok (.aload_n 1, 1) := by decide +kernel
theorem dX8_readCond_23 : decode cX8_readCond 23 = .ok (.getfield 50, 3) := by decide +kernel
theorem dX8_readCond_26 : decode cX8_readCond 26 = .ok (.bipush 12, 2) := by decide +kernel
theorem dX8_readCond_28 : decode cX8_readCond 28 = .ok (.if_icmp .ne 34, 3) := by decide +kernel
theorem dX8_readCond_31 : decode cX8_readCond 31 = .ok (.aload_n 1, 1) := by decide +kernel
theorem dX8_readCond_32 : decode cX8_readCond 32 = .ok (.invokevirtual 60, 3) := by decide +kernel
theorem dX8_readCond_35 : decode cX8_readCond 35 = .ok (.aload_n 0, 1) := by decide +kernel
theorem dX8_readCond_36 : decode cX8_readCond 36 = .ok (.aload_n 1, 1) := by decide +kernel
theorem dX8_readCond_37 : decode cX8_readCond 37 = .ok (.aload_n 2, 1) := by decide +kernel
theorem dX8_readCond_38 : decode cX8_readCond 38 = .ok (.iload_n 3, 1) := by decide +kernel
theorem dX8_readCond_39 : decode cX8_readCond 39 = .ok (.invokevirtual 57, 3) := by decide +kernel
theorem dX8_readCond_42 : decode cX8_readCond 42 = .ok (.ifCond .ne 5, 3) := by decide +kernel
theorem dX8_readCond_45 : decode cX8_readCond 45 = .ok (.iconst 0, 1) := by decide +kernel
theorem dX8_readCond_46 : decode cX8_readCond 46 = .ok (.ireturn, 1) := by decide +kernel
theorem dX8_readCond_47 : decode cX8_readCond 47 = .ok (.aload_n 0, 1) := by decide +kernel
theorem dX8_readCond_48 : decode cX8_readCond 48 = .ok (.bipush 12, 2) := by decide +kernel
theorem dX8_readCond_50 : decode cX8_readCond 50 = .ok (.iconst 0, 1) := by decide +kernel
theorem dX8_readCond_51 : decode cX8_readCond 51 = .ok (.iconst 0, 1) := by decide +kernel
theorem dX8_readCond_52 : decode cX8_readCond 52 = .ok (.invokevirtual 63, 3) := by decide +kernel
theorem dX8_readCond_55 : decode cX8_readCond 55 = .ok (.pop, 1) := by decide +kernel
theorem dX8_readCond_56 : decode cX8_readCond 56 = .ok (.iinc 4 1, 3) := by decide +kernel
theorem dX8_readCond_59 : decode cX8_readCond 59 = .ok (.goto (-44), 3) := by decide +kernel
theorem dX8_readCond_62 : decode cX8_readCond 62 = .ok (.iconst 1, 1) := by decide +kernel
theorem dX8_readCond_63 : decode cX8_readCond 63 = .ok (.ireturn, 1) := by decide +kernel
theorem dX8_readJoined_0 : decode cX8_readJoined 0 = .ok (.aload_n 0, 1) := by decide +kernel
theorem dX8_readJoined_1 : decode cX8_readJoined 1 = .ok (.aload_n 1, 1) := by decide +kernel
theorem dX8_readJoined_2 : decode cX8_readJoined 2 = .ok (.aload_n 2, 1) := by decide +kernel
theorem dX8_readJoined_3 : decode cX8_readJoined 3 = .ok (.iload_n 3, 1) := by decide +kernel
theorem dX8_readJoined_4 : decode cX8_readJoined 4 = .ok (.invokevirtual 67, 3) := by decide +kernel
theorem dX8_readJoined_7 : decode cX8_readJoined 7 = .ok (.ifCond .ne 5, 3) := by decide +kernel
theorem dX8_readJoined_10 : decode cX8_readJoined 10 = .ok (.iconst 0, 1) := by decide +kernel
theorem dX8_readJoined_11 : decode cX8_readJoined 11 = .ok (.ireturn, 1) := by decide +kernel
theorem dX8_readJoined_12 : decode cX8_readJoined 12 = .ok (.iconst 0, 1) := by decide +kernel
theorem dX8_readJoined_13 : decode cX8_readJoined 13 = .ok (.istore 4, 2) := by decide +kernel
theorem dX8_readJoined_15 : decode cX8_readJoined 15 = .ok (.iload 4, 2) := by decide +kernel
theorem dX8_readJoined_17 : decode cX8_readJoined 17 = .ok (.bipush 20, 2) := by decide +kernel
theorem dX8_readJoined_19 : decode cX8_readJoined 19 = .ok (.if_icmp .ge 43, 3) := by decide +kernel
theorem dX8_readJoined_22 : decode cX8_readJoined 22 = .ok (.aload_n 1, 1) := by decide +kernel
theorem dX8_readJoined_23 : decode cX8_readJoined 23 = .ok (.getfield 50, 3) := by decide +kernel
theorem dX8_readJoined_26 : decode cX8_readJoined 26 = .ok (.bipush 13, 2) := by decide +kernel
theorem dX8_readJoined_28 : decode cX8_readJoined 28 = .ok (.if_icmp .ne 34, 3) := by decide +kernel
theorem dX8_readJoined_31 : decode cX8_readJoined 31 = .ok (.aload_n 1, 1) := by decide +kernel
theorem dX8_readJoined_32 : decode cX8_readJoined 32 = .ok (.invokevirtual 60, 3) := by decide +kernel
theorem dX8_readJoined_35 : decode cX8_readJoined 35 = .ok (.aload_n 0, 1) := by decide +kernel
theorem dX8_readJoined_36 : decode cX8_readJoined 36 = .ok (.aload_n 1, 1) := by decide +kernel
theorem dX8_readJoined_37 : decode cX8_readJoined 37 = .ok (.aload_n 2, 1) := by decide +kernel
theorem dX8_readJoined_38 : decode cX8_readJoined 38 = .ok (.iload_n 3, 1) := by decide +kernel
theorem dX8_readJoined_39 : decode cX8_readJoined 39 = .ok (.invokevirtual 67, 3) := by decide +kernel
theorem dX8_readJoined_42 : decode cX8_readJoined 42 = .ok (.ifCond .ne 5, 3) := by decide +kernel
theorem dX8_readJoined_45 : decode cX8_readJoined 45 = .ok (.iconst 0, 1) := by decide +kernel
theorem dX8_readJoined_46 : decode cX8_readJoined 46 = .ok (.ireturn, 1) := by decide +kernel
theorem dX8_readJoined_47 : decode cX8_readJoined 47 = .ok (.aload_n 0, 1) := by decide +kernel
theorem dX8_readJoined_48 : decode cX8_readJoined 48 = .ok (.bipush 13, 2) := by decide +kernel
theorem dX8_readJoined_50 : decode cX8_readJoined 50 = .ok (.iconst 0, 1) := by decide +kernel
theorem dX8_readJoined_51 : decode cX8_readJoined 51 = .ok (.iconst 0, 1) := by decide +kernel
theorem dX8_readJoined_52 : decode cX8_readJoined 52 = .ok (.invokevirtual 63, 3) := by decide +kernel
theorem dX8_readJoined_55 : decode cX8_readJoined 55 = .ok (.pop, 1) := by decide +kernel
theorem dX8_readJoined_56 : decode cX8_readJoined 56 = .ok (.iinc 4 1, 3) := by decide +kernel
theorem dX8_readJoined_59 : decode cX8_readJoined 59 = .ok (.goto (-44), 3) := by decide +kernel
theorem dX8_readJoined_62 : decode cX8_readJoined 62 = .ok (.iconst 1, 1) := by decide +kernel
theorem dX8_readJoined_63 : decode cX8_readJoined 63 = .ok (.ireturn, 1) := by decide +kernel
theorem dX8_readOne_0 : decode cX8_readOne 0 = .ok (.aload_n 1, 1) := by decide +kernel
theorem dX8_readOne_1 : decode cX8_readOne 1 = .ok (.getfield 50, 3) := by decide +kernel
theorem dX8_readOne_4 : decode cX8_readOne 4 = .ok (.istore 4, 2) := by decide +kernel
theorem dX8_readOne_6 : decode cX8_readOne 6 = .ok (.iload 4, 2) := by decide +kernel
theorem dX8_readOne_8 : decode cX8_readOne 8 = .ok (.invokestatic 70, 3) := by decide +kernel
theorem dX8_readOne_11 : decode cX8_readOne 11 = .ok (.ifCond .ne 9, 3) := by decide +kernel
theorem dX8_readOne_14 : decode cX8_readOne 14 = .ok (.aload_n 1, 1) := by decide +kernel
theorem dX8_readOne_15 : decode cX8_readOne 15 = .ok (.iconst 1, 1) := by decide +kernel
theorem dX8_readOne_16 : decode cX8_readOne 16 = .ok (.invokevirtual 53, 3) := by decide +kernel
theorem dX8_readOne_19 : decode cX8_readOne 19 = .ok (.ireturn, 1) := by decide +kernel
theorem dX8_readOne_20 : decode cX8_readOne 20 = .ok (.aload_n 0, 1) := by decide +kernel
theorem dX8_readOne_21 : decode cX8_readOne 21 = .ok (.getfield 28, 3) := by decide +kernel
theorem dX8_readOne_24 : decode cX8_readOne 24 = .ok (.bipush 20, 2) := by decide +kernel
theorem dX8_readOne_26 : decode cX8_readOne 26 = .ok (.if_icmp .ge 9, 3) := by decide +kernel
theorem dX8_readOne_29 : decode cX8_readOne 29 = .ok (.iload_n 3, 1) := by decide +kernel
theorem dX8_readOne_30 : decode cX8_readOne 30 = .ok (.bipush 8, 2) := by decide +kernel
theorem dX8_readOne_32 : decode cX8_readOne 32 = .ok (.if_icmp .le 9, 3) := by decide +kernel
theorem dX8_readOne_35 : decode cX8_readOne 35 = .ok (.aload_n 1, 1) := by decide +kernel
theorem dX8_readOne_36 : decode cX8_readOne 36 = .ok (.iconst 4, 1) := by decide +kernel
theorem dX8_readOne_37 : decode cX8_readOne 37 = .ok (.invokevirtual 53, 3) := by decide +kernel
theorem dX8_readOne_40 : decode cX8_readOne 40 = .ok (.ireturn, 1) := by decide +kernel
theorem dX8_readOne_41 : decode cX8_readOne 41 = .ok (.aload_n 0, 1) := by decide +kernel
theorem dX8_readOne_42 : decode cX8_readOne 42 = .ok (.dup, 1) := by decide +kernel
theorem dX8_readOne_43 : decode cX8_readOne 43 = .ok (.getfield 28, 3) := by decide +kernel
theorem dX8_readOne_46 : decode cX8_readOne 46 = .ok (.iconst 1, 1) := by decide +kernel
theorem dX8_readOne_47 : decode cX8_readOne 47 = .ok (.iadd, 1) := by decide +kernel
theorem dX8_readOne_48 : decode cX8_readOne 48 = .ok (.putfield 28, 3) := by decide +kernel
theorem dX8_readOne_51 : decode cX8_readOne 51 = .ok (.aload_n 1, 1) := by decide +kernel
theorem dX8_readOne_52 : decode cX8_readOne 52 = .ok (.invokevirtual 60, 3) := by decide +kernel
theorem dX8_readOne_55 : decode cX8_readOne 55 = .ok (.iload 4, 2) := by decide +kernel
theorem dX8_readOne_57 : decode cX8_readOne 57 = .ok (.lookupswitch 160 #[(3, 151), (14, 67), (15, 151), (16, 123), (17, 123), (18, 137), (40, 96)], 67) := by decide +kernel
theorem dX8_readOne_124 : decode cX8_readOne 124 = .ok (.aload_n 0, 1) := by decide +kernel
theorem dX8_readOne_125 : decode cX8_readOne 125 = .ok (.aload_n 1, 1) := by decide +kernel
theorem dX8_readOne_126 : decode cX8_readOne 126 = .ok (.aload_n 2, 1) := by decide +kernel
theorem dX8_readOne_127 : decode cX8_readOne 127 = .ok (.iload_n 3, 1) := by decide +kernel
theorem dX8_readOne_128 : decode cX8_readOne 128 = .ok (.iconst 1, 1) := by decide +kernel
theorem dX8_readOne_129 : decode cX8_readOne 129 = .ok (.iadd, 1) := by decide +kernel
theorem dX8_readOne_130 : decode cX8_readOne 130 = .ok (.invokevirtual 67, 3) := by decide +kernel
theorem dX8_readOne_133 : decode cX8_readOne 133 = .ok (.ifCond .eq 18, 3) := by decide +kernel
theorem dX8_readOne_136 : decode cX8_readOne 136 = .ok (.aload_n 0, 1) := by decide +kernel
theorem dX8_readOne_137 : decode cX8_readOne 137 = .ok (.bipush 14, 2) := by decide +kernel
theorem dX8_readOne_139 : decode cX8_readOne 139 = .ok (.iconst 0, 1) := by decide +kernel
theorem dX8_readOne_140 : decode cX8_readOne 140 = .ok (.iconst 0, 1) := by decide +kernel
theorem dX8_readOne_141 : decode cX8_readOne 141 = .ok (.invokevirtual 63, 3) := by decide +kernel
theorem dX8_readOne_144 : decode cX8_readOne 144 = .ok (.ifCond .eq 7, 3) := by decide +kernel
theorem dX8_readOne_147 : decode cX8_readOne 147 = .ok (.iconst 1, 1) := by decide +kernel
theorem dX8_readOne_148 : decode cX8_readOne 148 = .ok (.goto 4, 3) := by decide +kernel
theorem dX8_readOne_151 : decode cX8_readOne 151 = .ok (.iconst 0, 1) := by decide +kernel
theorem dX8_readOne_152 : decode cX8_readOne 152 = .ok (.ireturn, 1) := by decide +kernel
theorem dX8_readOne_153 : decode cX8_readOne 153 = .ok (.aload_n 0, 1) := by decide +kernel
theorem dX8_readOne_154 : decode cX8_readOne 154 = .ok (.aload_n 1, 1) := by decide +kernel
theorem dX8_readOne_155 : decode cX8_readOne 155 = .ok (.aload_n 2, 1) := by decide +kernel
theorem dX8_readOne_156 : decode cX8_readOne 156 = .ok (.iload_n 3, 1) := by decide +kernel
theorem dX8_readOne_157 : decode cX8_readOne 157 = .ok (.iconst 1, 1) := by decide +kernel
theorem dX8_readOne_158 : decode cX8_readOne 158 = .ok (.iadd, 1) := by decide +kernel
theorem dX8_readOne_159 : decode cX8_readOne 159 = .ok (.invokevirtual 46, 3) := by decide +kernel
theorem dX8_readOne_162 : decode cX8_readOne 162 = .ok (.ifCond .eq 16, 3) := by decide +kernel
theorem dX8_readOne_165 : decode cX8_readOne 165 = .ok (.aload_n 1, 1) := by decide +kernel
theorem dX8_readOne_166 : decode cX8_readOne 166 = .ok (.bipush 41, 2) := by decide +kernel
theorem dX8_readOne_168 : decode cX8_readOne 168 = .ok (.invokevirtual 73, 3) := by decide +kernel
theorem dX8_readOne_171 : decode cX8_readOne 171 = .ok (.ifCond .eq 7, 3) := by decide +kernel
theorem dX8_readOne_174 : decode cX8_readOne 174 = .ok (.iconst 1, 1) := by decide +kernel
theorem dX8_readOne_175 : decode cX8_readOne 175 = .ok (.goto 4, 3) := by decide +kernel
theorem dX8_readOne_178 : decode cX8_readOne 178 = .ok (.iconst 0, 1) := by decide +kernel
theorem dX8_readOne_179 : decode cX8_readOne 179 = .ok (.ireturn, 1) := by decide +kernel
theorem dX8_readOne_180 : decode cX8_readOne 180 = .ok (.aload_n 0, 1) := by decide +kernel
theorem dX8_readOne_181 : decode cX8_readOne 181 = .ok (.iload 4, 2) := by decide +kernel
theorem dX8_readOne_183 : decode cX8_readOne 183 = .ok (.aload_n 1, 1) := by decide +kernel
theorem dX8_readOne_184 : decode cX8_readOne 184 = .ok (.aload_n 2, 1) := by decide +kernel
theorem dX8_readOne_185 : decode cX8_readOne 185 = .ok (.iconst 0, 1) := by decide +kernel
theorem dX8_readOne_186 : decode cX8_readOne 186 = .ok (.invokevirtual 76, 3) := by decide +kernel
theorem dX8_readOne_189 : decode cX8_readOne 189 = .ok (.iconst 0, 1) := by decide +kernel
theorem dX8_readOne_190 : decode cX8_readOne 190 = .ok (.invokevirtual 63, 3) := by decide +kernel
theorem dX8_readOne_193 : decode cX8_readOne 193 = .ok (.ireturn, 1) := by decide +kernel
theorem dX8_readOne_194 : decode cX8_readOne 194 = .ok (.aload_n 0, 1) := by decide +kernel
theorem dX8_readOne_195 : decode cX8_readOne 195 = .ok (.iload 4, 2) := by decide +kernel
theorem dX8_readOne_197 : decode cX8_readOne 197 = .ok (.aload_n 1, 1) := by decide +kernel
theorem dX8_readOne_198 : decode cX8_readOne 198 = .ok (.aload_n 2, 1) := by decide +kernel
theorem dX8_readOne_199 : decode cX8_readOne 199 = .ok (.iconst 2, 1) := by decide +kernel
theorem dX8_readOne_200 : decode cX8_readOne 200 = .ok (.invokevirtual 76, 3) := by decide +kernel
theorem dX8_readOne_203 : decode cX8_readOne 203 = .ok (.iconst 0, 1) := by decide +kernel
theorem dX8_readOne_204 : decode cX8_readOne 204 = .ok (.invokevirtual 63, 3) := by decide +kernel
theorem dX8_readOne_207 : decode cX8_readOne 207 = .ok (.ireturn, 1) := by decide +kernel
theorem dX8_readOne_208 : decode cX8_readOne 208 = .ok (.aload_n 0, 1) := by decide +kernel
theorem dX8_readOne_209 : decode cX8_readOne 209 = .ok (.iload 4, 2) := by decide +kernel
theorem dX8_readOne_211 : decode cX8_readOne 211 = .ok (.iconst 0, 1) := by decide +kernel
theorem dX8_readOne_212 : decode cX8_readOne 212 = .ok (.iconst 0, 1) := by decide +kernel
theorem dX8_readOne_213 : decode cX8_readOne 213 = .ok (.invokevirtual 63, 3) := by decide +kernel
theorem dX8_readOne_216 : decode cX8_readOne 216 = .ok (.ireturn, 1) := by decide +kernel
theorem dX8_readOne_217 : decode cX8_readOne 217 = .ok (.aload_n 1, 1) := by decide +kernel
theorem dX8_readOne_218 : decode cX8_readOne 218 = .ok (.invokevirtual 80, 3) := by decide +kernel
theorem dX8_readOne_221 : decode cX8_readOne 221 = .ok (.istore 5, 2) := by decide +kernel
theorem dX8_readOne_223 : decode cX8_readOne 223 = .ok (.iload 5, 2) := by decide +kernel
theorem dX8_readOne_225 : decode cX8_readOne 225 = .ok (.iconst (-1), 1) := by decide +kernel
theorem dX8_readOne_226 : decode cX8_readOne 226 = .ok (.if_icmp .eq 26, 3) := by decide +kernel
theorem dX8_readOne_229 : decode cX8_readOne 229 = .ok (.aload_n 0, 1) := by decide +kernel
theorem dX8_readOne_230 : decode cX8_readOne 230 = .ok (.iload 4, 2) := by decide +kernel
theorem dX8_readOne_232 : decode cX8_readOne 232 = .ok (.iload 5, 2) := by decide +kernel
theorem dX8_readOne_234 : decode cX8_readOne 234 = .ok (.aload_n 1, 1) := by decide +kernel
theorem dX8_readOne_235 : decode cX8_readOne 235 = .ok (.iconst 0, 1) := by decide +kernel
theorem dX8_readOne_236 : decode cX8_readOne 236 = .ok (.sipush 999, 3) := by decide +kernel
theorem dX8_readOne_239 : decode cX8_readOne 239 = .ok (.invokevirtual 84, 3) := by decide +kernel
theorem dX8_readOne_242 : decode cX8_readOne 242 = .ok (.invokevirtual 63, 3) := by decide +kernel
theorem dX8_readOne_245 : decode cX8_readOne 245 = .ok (.ifCond .eq 7, 3) := by decide +kernel
theorem dX8_readOne_248 : decode cX8_readOne 248 = .ok (.iconst 1, 1) := by decide +kernel
theorem dX8_readOne_249 : decode cX8_readOne 249 = .ok (.goto 4, 3) := by decide +kernel
theorem dX8_readOne_252 : decode cX8_readOne 252 = .ok (.iconst 0, 1) := by decide +kernel
theorem dX8_readOne_253 : decode cX8_readOne 253 = .ok (.ireturn, 1) := by decide +kernel
theorem dX8_readFrom_0 : decode cX8_readFrom 0 = .ok (.aload_n 0, 1) := by decide +kernel
theorem dX8_readFrom_1 : decode cX8_readFrom 1 = .ok (.invokevirtual 37, 3) := by decide +kernel
theorem dX8_readFrom_4 : decode cX8_readFrom 4 = .ok (.aload_n 1, 1) := by decide +kernel
theorem dX8_readFrom_5 : decode cX8_readFrom 5 = .ok (.sipush 200, 3) := by decide +kernel
theorem dX8_readFrom_8 : decode cX8_readFrom 8 = .ok (.invokevirtual 40, 3) := by decide +kernel
theorem dX8_readFrom_11 : decode cX8_readFrom 11 = .ok (.aload_n 0, 1) := by decide +kernel
theorem dX8_readFrom_12 : decode cX8_readFrom 12 = .ok (.aload_n 1, 1) := by decide +kernel
theorem dX8_readFrom_13 : decode cX8_readFrom 13 = .ok (.aload_n 2, 1) := by decide +kernel
theorem dX8_readFrom_14 : decode cX8_readFrom 14 = .ok (.iconst 1, 1) := by decide +kernel
theorem dX8_readFrom_15 : decode cX8_readFrom 15 = .ok (.invokevirtual 46, 3) := by decide +kernel
theorem dX8_readFrom_18 : decode cX8_readFrom 18 = .ok (.ifCond .ne 5, 3) := by decide +kernel
theorem dX8_readFrom_21 : decode cX8_readFrom 21 = .ok (.iconst 0, 1) := by decide +kernel
theorem dX8_readFrom_22 : decode cX8_readFrom 22 = .ok (.ireturn, 1) := by decide +kernel
theorem dX8_readFrom_23 : decode cX8_readFrom 23 = .ok (.aload_n 1, 1) := by decide +kernel
theorem dX8_readFrom_24 : decode cX8_readFrom 24 = .ok (.getfield 50, 3) := by decide +kernel
theorem dX8_readFrom_27 : decode cX8_readFrom 27 = .ok (.bipush 102, 2) := by decide +kernel
theorem dX8_readFrom_29 : decode cX8_readFrom 29 = .ok (.if_icmp .eq 11, 3) := by decide +kernel
theorem dX8_readFrom_32 : decode cX8_readFrom 32 = .ok (.aload_n 1, 1) := by decide +kernel
theorem dX8_readFrom_33 : decode cX8_readFrom 33 = .ok (.iconst 1, 1) := by decide +kernel
theorem dX8_readFrom_34 : decode cX8_readFrom 34 = .ok (.invokevirtual 53, 3) := by decide +kernel
theorem dX8_readFrom_37 : decode cX8_readFrom 37 = .ok (.ifCond .eq 7, 3) := by decide +kernel
theorem dX8_readFrom_40 : decode cX8_readFrom 40 = .ok (.iconst 1, 1) := by decide +kernel
theorem dX8_readFrom_41 : decode cX8_readFrom 41 = .ok (.goto 4, 3) := by decide +kernel
theorem dX8_readFrom_44 : decode cX8_readFrom 44 = .ok (.iconst 0, 1) := by decide +kernel
theorem dX8_readFrom_45 : decode cX8_readFrom 45 = .ok (.ireturn, 1) := by decide +kernel
theorem dX11_sentence_0 : decode cX11_sentence 0 = .ok (.aload_n 0, 1) := by decide +kernel
theorem dX11_sentence_1 : decode cX11_sentence 1 = .ok (.getfield 74, 3) := by decide +kernel
theorem dX11_sentence_4 : decode cX11_sentence 4 = .ok (.aload_n 0, 1) := by decide +kernel
theorem dX11_sentence_5 : decode cX11_sentence 5 = .ok (.getfield 10, 3) := by decide +kernel
theorem dX11_sentence_8 : decode cX11_sentence 8 = .ok (.aload_n 0, 1) := by decide +kernel
theorem dX11_sentence_9 : decode cX11_sentence 9 = .ok (.getfield 19, 3) := by decide +kernel
theorem dX11_sentence_12 : decode cX11_sentence 12 = .ok (.invokevirtual 377, 3) := by decide +kernel
theorem dX11_sentence_15 : decode cX11_sentence 15 = .ok (.istore_n 1, 1) := by decide +kernel
theorem dX11_sentence_16 : decode cX11_sentence 16 = .ok (.aload_n 0, 1) := by decide +kernel
theorem dX11_sentence_17 : decode cX11_sentence 17 = .ok (.invokevirtual 125, 3) := by decide +kernel
theorem dX11_sentence_20 : decode cX11_sentence 20 = .ok (.iload_n 1, 1) := by decide +kernel
theorem dX11_sentence_21 : decode cX11_sentence 21 = .ok (.ifCond .ne 13, 3) := by decide +kernel
theorem dX11_sentence_24 : decode cX11_sentence 24 = .ok (.iconst (-1), 1) := by decide +kernel
theorem dX11_sentence_25 : decode cX11_sentence 25 = .ok (.aload_n 0, 1) := by decide +kernel
theorem dX11_sentence_26 : decode cX11_sentence 26 = .ok (.getfield 10, 3) := by decide +kernel
theorem dX11_sentence_29 : decode cX11_sentence 29 = .ok (.getfield 128, 3) := by decide +kernel
theorem dX11_sentence_32 : decode cX11_sentence 32 = .ok (.isub, 1) := by decide +kernel
theorem dX11_sentence_33 : decode cX11_sentence 33 = .ok (.ireturn, 1) := by decide +kernel
theorem dX11_sentence_34 : decode cX11_sentence 34 = .ok (.aload_n 0, 1) := by decide +kernel
theorem dX11_sentence_35 : decode cX11_sentence 35 = .ok (.getfield 70, 3) := by decide +kernel
theorem dX11_sentence_38 : decode cX11_sentence 38 = .ok (.aload_n 0, 1) := by decide +kernel
theorem dX11_sentence_39 : decode cX11_sentence 39 = .ok (.getfield 74, 3) := by decide +kernel
theorem dX11_sentence_42 : decode cX11_sentence 42 = .ok (.invokevirtual 381, 3) := by decide +kernel
theorem dX11_sentence_45 : decode cX11_sentence 45 = .ok (.aload_n 0, 1) := by decide +kernel
theorem dX11_sentence_46 : decode cX11_sentence 46 = .ok (.getfield 70, 3) := by decide +kernel
theorem dX11_sentence_49 : decode cX11_sentence 49 = .ok (.getfield 384, 3) := by decide +kernel
theorem dX11_sentence_52 : decode cX11_sentence 52 = .ok (.ireturn, 1) := by decide +kernel
theorem dX12_writeWord_0 : decode cX12_writeWord 0 = .ok (.lload_n 1, 1) := by decide +kernel
theorem dX12_writeWord_1 : decode cX12_writeWord 1 = .ok (.ldc2_w 54, 3) := by decide +kernel
theorem dX12_writeWord_4 : decode cX12_writeWord 4 = .ok (.lcmp, 1) := by decide +kernel
theorem dX12_writeWord_5 : decode cX12_writeWord 5 = .ok (.ifCond .lt 12, 3) := by decide +kernel
theorem dX12_writeWord_8 : decode cX12_writeWord 8 = .ok (.aload_n 0, 1) := by decide +kernel
theorem dX12_writeWord_9 : decode cX12_writeWord 9 = .ok (.lload_n 1, 1) := by decide +kernel
theorem dX12_writeWord_10 : decode cX12_writeWord 10 = .ok (.ldc2_w 54, 3) := by decide +kernel
theorem dX12_writeWord_13 : decode cX12_writeWord 13 = .ok (.ldiv, 1) := by decide +kernel
theorem dX12_writeWord_14 : decode cX12_writeWord 14 = .ok (.invokevirtual 337, 3) := by decide +kernel
theorem dX12_writeWord_17 : decode cX12_writeWord 17 = .ok (.aload_n 0, 1) := by decide +kernel
theorem dX12_writeWord_18 : decode cX12_writeWord 18 = .ok (.bipush 96, 2) := by decide +kernel
theorem dX12_writeWord_20 : decode cX12_writeWord 20 = .ok (.lload_n 1, 1) := by decide +kernel
theorem dX12_writeWord_21 : decode cX12_writeWord 21 = .ok (.ldc2_w 54, 3) := by decide +kernel
theorem dX12_writeWord_24 : decode cX12_writeWord 24 = .ok (.lrem, 1) := by decide +kernel
theorem dX12_writeWord_25 : decode cX12_writeWord 25 = .ok (.l2i, 1) := by decide +kernel
theorem dX12_writeWord_26 : decode cX12_writeWord 26 = .ok (.iadd, 1) := by decide +kernel
theorem dX12_writeWord_27 : decode cX12_writeWord 27 = .ok (.invokevirtual 341, 3) := by decide +kernel
theorem dX12_writeWord_30 : decode cX12_writeWord 30 = .ok (.return_, 1) := by decide +kernel
theorem dX12_writeNext_0 : decode cX12_writeNext 0 = .ok (.aload_n 0, 1) := by decide +kernel
theorem dX12_writeNext_1 : decode cX12_writeNext 1 = .ok (.bipush 32, 2) := by decide +kernel
theorem dX12_writeNext_3 : decode cX12_writeNext 3 = .ok (.invokevirtual 341, 3) := by decide +kernel
theorem dX12_writeNext_6 : decode cX12_writeNext 6 = .ok (.aload_n 0, 1) := by decide +kernel
theorem dX12_writeNext_7 : decode cX12_writeNext 7 = .ok (.lload_n 1, 1) := by decide +kernel
theorem dX12_writeNext_8 : decode cX12_writeNext 8 = .ok (.invokevirtual 337, 3) := by decide +kernel
theorem dX12_writeNext_11 : decode cX12_writeNext 11 = .ok (.return_, 1) := by decide +kernel
theorem dX12_writeNumber_0 : decode cX12_writeNumber 0 = .ok (.iload_n 1, 1) := by decide +kernel
theorem dX12_writeNumber_1 : decode cX12_writeNumber 1 = .ok (.bipush 9, 2) := by decide +kernel
theorem dX12_writeNumber_3 : decode cX12_writeNumber 3 = .ok (.if_icmp .le 11, 3) := by decide +kernel
theorem dX12_writeNumber_6 : decode cX12_writeNumber 6 = .ok (.aload_n 0, 1) := by decide +kernel
theorem dX12_writeNumber_7 : decode cX12_writeNumber 7 = .ok (.iload_n 1, 1) := by decide +kernel
theorem dX12_writeNumber_8 : decode cX12_writeNumber 8 = .ok (.bipush 10, 2) := by decide +kernel
theorem dX12_writeNumber_10 : decode cX12_writeNumber 10 = .ok (.idiv, 1) := by decide +kernel
theorem dX12_writeNumber_11 : decode cX12_writeNumber 11 = .ok (.invokevirtual 344, 3) := by decide +kernel
theorem dX12_writeNumber_14 : decode cX12_writeNumber 14 = .ok (.aload_n 0, 1) := by decide +kernel
theorem dX12_writeNumber_15 : decode cX12_writeNumber 15 = .ok (.bipush 48, 2) := by decide +kernel
theorem dX12_writeNumber_17 : decode cX12_writeNumber 17 = .ok (.iload_n 1, 1) := by decide +kernel
theorem dX12_writeNumber_18 : decode cX12_writeNumber 18 = .ok (.bipush 10, 2) := by decide +kernel
theorem dX12_writeNumber_20 : decode cX12_writeNumber 20 = .ok (.irem, 1) := by decide +kernel
theorem dX12_writeNumber_21 : decode cX12_writeNumber 21 = .ok (.iadd, 1) := by decide +kernel
theorem dX12_writeNumber_22 : decode cX12_writeNumber 22 = .ok (.invokevirtual 341, 3) := by decide +kernel
theorem dX12_writeNumber_25 : decode cX12_writeNumber 25 = .ok (.return_, 1) := by decide +kernel
theorem dX12_card_0 : decode cX12_card 0 = .ok (.aload_n 0, 1) := by decide +kernel
theorem dX12_card_1 : decode cX12_card 1 = .ok (.iconst 0, 1) := by decide +kernel
theorem dX12_card_2 : decode cX12_card 2 = .ok (.putfield 1, 3) := by decide +kernel
theorem dX12_card_5 : decode cX12_card 5 = .ok (.aload_n 0, 1) := by decide +kernel
theorem dX12_card_6 : decode cX12_card 6 = .ok (.iload_n 1, 1) := by decide +kernel
theorem dX12_card_7 : decode cX12_card 7 = .ok (.invokevirtual 244, 3) := by decide +kernel
theorem dX12_card_10 : decode cX12_card 10 = .ok (.ifCond .ne 5, 3) := by decide +kernel
theorem dX12_card_13 : decode cX12_card 13 = .ok (.iconst (-1), 1) := by decide +kernel
theorem dX12_card_14 : decode cX12_card 14 = .ok (.ireturn, 1) := by decide +kernel
theorem dX12_card_15 : decode cX12_card 15 = .ok (.aload_n 0, 1) := by decide +kernel
theorem dX12_card_16 : decode cX12_card 16 = .ok (.iconst 0, 1) := by decide +kernel
theorem dX12_card_17 : decode cX12_card 17 = .ok (.putfield 334, 3) := by decide +kernel
theorem dX12_card_20 : decode cX12_card 20 = .ok (.aload_n 0, 1) := by decide +kernel
theorem dX12_card_21 : decode cX12_card 21 = .ok (.aload_n 0, 1) := by decide +kernel
theorem dX12_card_22 : decode cX12_card 22 = .ok (.getfield 113, 3) := by decide +kernel
theorem dX12_card_25 : decode cX12_card 25 = .ok (.iconst 5, 1) := by decide +kernel
theorem dX12_card_26 : decode cX12_card 26 = .ok (.iload_n 1, 1) := by decide +kernel
theorem dX12_card_27 : decode cX12_card 27 = .ok (.iadd, 1) := by decide +kernel
theorem dX12_card_28 : decode cX12_card 28 = .ok (.laload, 1) := by decide +kernel
theorem dX12_card_29 : decode cX12_card 29 = .ok (.invokevirtual 337, 3) := by decide +kernel
theorem dX12_card_32 : decode cX12_card 32 = .ok (.aload_n 0, 1) := by decide +kernel
theorem dX12_card_33 : decode cX12_card 33 = .ok (.iload_n 1, 1) := by decide +kernel
theorem dX12_card_34 : decode cX12_card 34 = .ok (.invokevirtual 218, 3) := by decide +kernel
theorem dX12_card_37 : decode cX12_card 37 = .ok (.ifCond .eq 48, 3) := by decide +kernel
theorem dX12_card_40 : decode cX12_card 40 = .ok (.aload_n 0, 1) := by decide +kernel
theorem dX12_card_41 : decode cX12_card 41 = .ok (.bipush 105, 2) := by decide +kernel
theorem dX12_card_43 : decode cX12_card 43 = .ok (.bipush 115, 2) := by decide +kernel
theorem dX12_card_45 : decode cX12_card 45 = .ok (.iconst 0, 1) := by decide +kernel
theorem dX12_card_46 : decode cX12_card 46 = .ok (.iconst 0, 1) := by decide +kernel
theorem dX12_card_47 : decode cX12_card 47 = .ok (.iconst 0, 1) := by decide +kernel
theorem dX12_card_48 : decode cX12_card 48 = .ok (.iconst 0, 1) := by decide +kernel
theorem dX12_card_49 : decode cX12_card 49 = .ok (.iconst 0, 1) := by decide +kernel
theorem dX12_card_50 : decode cX12_card 50 = .ok (.invokestatic 58, 3) := by decide +kernel
theorem dX12_card_53 : decode cX12_card 53 = .ok (.invokevirtual 347, 3) := by decide +kernel
theorem dX12_card_56 : decode cX12_card 56 = .ok (.aload_n 0, 1) := by decide +kernel
theorem dX12_card_57 : decode cX12_card 57 = .ok (.bipush 97, 2) := by decide +kernel
theorem dX12_card_59 : decode cX12_card 59 = .ok (.iconst 0, 1) := by decide +kernel
theorem dX12_card_60 : decode cX12_card 60 = .ok (.iconst 0, 1) := by decide +kernel
theorem dX12_card_61 : decode cX12_card 61 = .ok (.iconst 0, 1) := by decide +kernel
theorem dX12_card_62 : decode cX12_card 62 = .ok (.iconst 0, 1) := by decide +kernel
theorem dX12_card_63 : decode cX12_card 63 = .ok (.iconst 0, 1) := by decide +kernel
theorem dX12_card_64 : decode cX12_card 64 = .ok (.iconst 0, 1) := by decide +kernel
theorem dX12_card_65 : decode cX12_card 65 = .ok (.invokestatic 58, 3) := by decide +kernel
theorem dX12_card_68 : decode cX12_card 68 = .ok (.invokevirtual 347, 3) := by decide +kernel
theorem dX12_card_71 : decode cX12_card 71 = .ok (.aload_n 0, 1) := by decide +kernel
theorem dX12_card_72 : decode cX12_card 72 = .ok (.bipush 15, 2) := by decide +kernel
theorem dX12_card_74 : decode cX12_card 74 = .ok (.invokestatic 62, 3) := by decide +kernel
theorem dX12_card_77 : decode cX12_card 77 = .ok (.invokevirtual 347, 3) := by decide +kernel
theorem dX12_card_80 : decode cX12_card 80 = .ok (.aload_n 0, 1) := by decide +kernel
theorem dX12_card_81 : decode cX12_card 81 = .ok (.getfield 334, 3) := by decide +kernel
theorem dX12_card_84 : decode cX12_card 84 = .ok (.ireturn, 1) := by decide +kernel
theorem dX12_card_85 : decode cX12_card 85 = .ok (.aload_n 0, 1) := by decide +kernel
theorem dX12_card_86 : decode cX12_card 86 = .ok (.bipush 104, 2) := by decide +kernel
theorem dX12_card_88 : decode cX12_card 88 = .ok (.bipush 97, 2) := by decide +kernel
theorem dX12_card_90 : decode cX12_card 90 = .ok (.bipush 115, 2) := by decide +kernel
theorem dX12_card_92 : decode cX12_card 92 = .ok (.iconst 0, 1) := by decide +kernel
theorem dX12_card_93 : decode cX12_card 93 = .ok (.iconst 0, 1) := by decide +kernel
theorem dX12_card_94 : decode cX12_card 94 = .ok (.iconst 0, 1) := by decide +kernel
theorem dX12_card_95 : decode cX12_card 95 = .ok (.iconst 0, 1) := by decide +kernel
theorem dX12_card_96 : decode cX12_card 96 = .ok (.invokestatic 58, 3) := by decide +kernel
theorem dX12_card_99 : decode cX12_card 99 = .ok (.invokevirtual 347, 3) := by decide +kernel
theorem dX12_card_102 : decode cX12_card 102 = .ok (.aload_n 0, 1) := by decide +kernel
theorem dX12_card_103 : decode cX12_card 103 = .ok (.bipush 32, 2) := by decide +kernel
theorem dX12_card_105 : decode cX12_card 105 = .ok (.invokevirtual 341, 3) := by decide +kernel
theorem dX12_card_108 : decode cX12_card 108 = .ok (.aload_n 0, 1) := by decide +kernel
theorem dX12_card_109 : decode cX12_card 109 = .ok (.aload_n 0, 1) := by decide +kernel
theorem dX12_card_110 : decode cX12_card 110 = .ok (.iload_n 1, 1) := by decide +kernel
theorem dX12_card_111 : decode cX12_card 111 = .ok (.iconst 1, 1) := by decide +kernel
theorem dX12_card_112 : decode cX12_card 112 = .ok (.invokevirtual 253, 3) := by decide +kernel
theorem dX12_card_115 : decode cX12_card 115 = .ok (.invokestatic 238, 3) := by decide +kernel
theorem dX12_card_118 : decode cX12_card 118 = .ok (.invokevirtual 344, 3) := by decide +kernel
theorem dX12_card_121 : decode cX12_card 121 = .ok (.aload_n 0, 1) := by decide +kernel
theorem dX12_card_122 : decode cX12_card 122 = .ok (.iload_n 1, 1) := by decide +kernel
theorem dX12_card_123 : decode cX12_card 123 = .ok (.iconst 0, 1) := by decide +kernel
theorem dX12_card_124 : decode cX12_card 124 = .ok (.invokevirtual 250, 3) := by decide +kernel
theorem dX12_card_127 : decode cX12_card 127 = .ok (.ifCond .ne 12, 3) := by decide +kernel
theorem dX12_card_130 : decode cX12_card 130 = .ok (.aload_n 0, 1) := by decide +kernel
theorem dX12_card_131 : decode cX12_card 131 = .ok (.bipush 14, 2) := by decide +kernel
theorem dX12_card_133 : decode cX12_card 133 = .ok (.invokestatic 62, 3) := by decide +kernel
theorem dX12_card_136 : decode cX12_card 136 = .ok (.invokevirtual 347, 3) := by decide +kernel
theorem dX12_card_139 : decode cX12_card 139 = .ok (.aload_n 0, 1) := by decide +kernel
theorem dX12_card_140 : decode cX12_card 140 = .ok (.getfield 334, 3) := by decide +kernel
theorem dX12_card_143 : decode cX12_card 143 = .ok (.ireturn, 1) := by decide +kernel
theorem dX12_holds_0 : decode cX12_holds 0 = .ok (.sipush 166, 3) := by decide +kernel
theorem dX12_holds_3 : decode cX12_holds 3 = .ok (.iconst 4, 1) := by decide +kernel
theorem dX12_holds_4 : decode cX12_holds 4 = .ok (.iload_n 1, 1) := by decide +kernel
theorem dX12_holds_5 : decode cX12_holds 5 = .ok (.imul, 1) := by decide +kernel
theorem dX12_holds_6 : decode cX12_holds 6 = .ok (.iadd, 1) := by decide +kernel
theorem dX12_holds_7 : decode cX12_holds 7 = .ok (.istore_n 3, 1) := by decide +kernel
theorem dX12_holds_8 : decode cX12_holds 8 = .ok (.aload_n 0, 1) := by decide +kernel
theorem dX12_holds_9 : decode cX12_holds 9 = .ok (.getfield 98, 3) := by decide +kernel
theorem dX12_holds_12 : decode cX12_holds 12 = .ok (.iload_n 3, 1) := by decide +kernel
theorem dX12_holds_13 : decode cX12_holds 13 = .ok (.iconst 1, 1) := by decide +kernel
theorem dX12_holds_14 : decode cX12_holds 14 = .ok (.iadd, 1) := by decide +kernel
theorem dX12_holds_15 : decode cX12_holds 15 = .ok (.iaload, 1) := by decide +kernel
theorem dX12_holds_16 : decode cX12_holds 16 = .ok (.istore 4, 2) := by decide +kernel
theorem dX12_holds_18 : decode cX12_holds 18 = .ok (.aload_n 0, 1) := by decide +kernel
theorem dX12_holds_19 : decode cX12_holds 19 = .ok (.getfield 98, 3) := by decide +kernel
theorem dX12_holds_22 : decode cX12_holds 22 = .ok (.iload_n 3, 1) := by decide +kernel
theorem dX12_holds_23 : decode cX12_holds 23 = .ok (.iconst 2, 1) := by decide +kernel
theorem dX12_holds_24 : decode cX12_holds 24 = .ok (.iadd, 1) := by decide +kernel
theorem dX12_holds_25 : decode cX12_holds 25 = .ok (.iaload, 1) := by decide +kernel
theorem dX12_holds_26 : decode cX12_holds 26 = .ok (.istore 5, 2) := by decide +kernel
theorem dX12_holds_28 : decode cX12_holds 28 = .ok (.aload_n 0, 1) := by decide +kernel
theorem dX12_holds_29 : decode cX12_holds 29 = .ok (.getfield 98, 3) := by decide +kernel
theorem dX12_holds_32 : decode cX12_holds 32 = .ok (.iload_n 3, 1) := by decide +kernel
theorem dX12_holds_33 : decode cX12_holds 33 = .ok (.iaload, 1) := by decide +kernel
theorem dX12_holds_34 : decode cX12_holds 34 = .ok (.lookupswitch 203 #[(1, 74), (2, 90), (3, 116), (64, 142), (65, 157), (66, 163), (67, 183), (68, 195)], 74) := by decide +kernel
theorem dX12_holds_108 : decode cX12_holds 108 = .ok (.aload_n 0, 1) := by decide +kernel
theorem dX12_holds_109 : decode cX12_holds 109 = .ok (.iload 4, 2) := by decide +kernel
theorem dX12_holds_111 : decode cX12_holds 111 = .ok (.iload_n 2, 1) := by decide +kernel
theorem dX12_holds_112 : decode cX12_holds 112 = .ok (.invokevirtual 440, 3) := by decide +kernel
theorem dX12_holds_115 : decode cX12_holds 115 = .ok (.ifCond .ne 7, 3) := by decide +kernel
theorem dX12_holds_118 : decode cX12_holds 118 = .ok (.iconst 1, 1) := by decide +kernel
theorem dX12_holds_119 : decode cX12_holds 119 = .ok (.goto 4, 3) := by decide +kernel
theorem dX12_holds_122 : decode cX12_holds 122 = .ok (.iconst 0, 1) := by decide +kernel
theorem dX12_holds_123 : decode cX12_holds 123 = .ok (.ireturn, 1) := by decide +kernel
theorem dX12_holds_124 : decode cX12_holds 124 = .ok (.aload_n 0, 1) := by decide +kernel
theorem dX12_holds_125 : decode cX12_holds 125 = .ok (.iload 4, 2) := by decide +kernel
theorem dX12_holds_127 : decode cX12_holds 127 = .ok (.iload_n 2, 1) := by decide +kernel
theorem dX12_holds_128 : decode cX12_holds 128 = .ok (.invokevirtual 440, 3) := by decide +kernel
theorem dX12_holds_131 : decode cX12_holds 131 = .ok (.ifCond .eq 17, 3) := by decide +kernel
theorem dX12_holds_134 : decode cX12_holds 134 = .ok (.aload_n 0, 1) := by decide +kernel
theorem dX12_holds_135 : decode cX12_holds 135 = .ok (.iload 5, 2) := by decide +kernel
theorem dX12_holds_137 : decode cX12_holds 137 = .ok (.iload_n 2, 1) := by decide +kernel
theorem dX12_holds_138 : decode cX12_holds 138 = .ok (.invokevirtual 440, 3) := by decide +kernel
theorem dX12_holds_141 : decode cX12_holds 141 = .ok (.ifCond .eq 7, 3) := by decide +kernel
theorem dX12_holds_144 : decode cX12_holds 144 = .ok (.iconst 1, 1) := by decide +kernel
theorem dX12_holds_145 : decode cX12_holds 145 = .ok (.goto 4, 3) := by decide +kernel
theorem dX12_holds_148 : decode cX12_holds 148 = .ok (.iconst 0, 1) := by decide +kernel
theorem dX12_holds_149 : decode cX12_holds 149 = .ok (.ireturn, 1) := by decide +kernel
theorem dX12_holds_150 : decode cX12_holds 150 = .ok (.aload_n 0, 1) := by decide +kernel
theorem dX12_holds_151 : decode cX12_holds 151 = .ok (.iload 4, 2) := by decide +kernel
theorem dX12_holds_153 : decode cX12_holds 153 = .ok (.iload_n 2, 1) := by decide +kernel
theorem dX12_holds_154 : decode cX12_holds 154 = .ok (.invokevirtual 440, 3) := by decide +kernel
theorem dX12_holds_157 : decode cX12_holds 157 = .ok (.ifCond .ne 13, 3) := by decide +kernel
theorem dX12_holds_160 : decode cX12_holds 160 = .ok (.aload_n 0, 1) := by decide +kernel
theorem dX12_holds_161 : decode cX12_holds 161 = .ok (.iload 5, 2) := by decide +kernel
theorem dX12_holds_163 : decode cX12_holds 163 = .ok (.iload_n 2, 1) := by decide +kernel
theorem dX12_holds_164 : decode cX12_holds 164 = .ok (.invokevirtual 440, 3) := by decide +kernel
theorem dX12_holds_167 : decode cX12_holds 167 = .ok (.ifCond .eq 7, 3) := by decide +kernel
theorem dX12_holds_170 : decode cX12_holds 170 = .ok (.iconst 1, 1) := by decide +kernel
theorem dX12_holds_171 : decode cX12_holds 171 = .ok (.goto 4, 3) := by decide +kernel
theorem dX12_holds_174 : decode cX12_holds 174 = .ok (.iconst 0, 1) := by decide +kernel
theorem dX12_holds_175 : decode cX12_holds 175 = .ok (.ireturn, 1) := by decide +kernel
theorem dX12_holds_176 : decode cX12_holds 176 = .ok (.aload_n 0, 1) := by decide +kernel
theorem dX12_holds_177 : decode cX12_holds 177 = .ok (.iload_n 2, 1) := by decide +kernel
theorem dX12_holds_178 : decode cX12_holds 178 = .ok (.iconst 0, 1) := by decide +kernel
theorem dX12_holds_179 : decode cX12_holds 179 = .ok (.invokevirtual 250, 3) := by decide +kernel
theorem dX12_holds_182 : decode cX12_holds 182 = .ok (.ifCond .ne 7, 3) := by decide +kernel
theorem dX12_holds_185 : decode cX12_holds 185 = .ok (.iconst 1, 1) := by decide +kernel
theorem dX12_holds_186 : decode cX12_holds 186 = .ok (.goto 4, 3) := by decide +kernel
theorem dX12_holds_189 : decode cX12_holds 189 = .ok (.iconst 0, 1) := by decide +kernel
theorem dX12_holds_190 : decode cX12_holds 190 = .ok (.ireturn, 1) := by decide +kernel
theorem dX12_holds_191 : decode cX12_holds 191 = .ok (.aload_n 0, 1) := by decide +kernel
theorem dX12_holds_192 : decode cX12_holds 192 = .ok (.iload_n 2, 1) := by decide +kernel
theorem dX12_holds_193 : decode cX12_holds 193 = .ok (.invokevirtual 218, 3) := by decide +kernel
theorem dX12_holds_196 : decode cX12_holds 196 = .ok (.ireturn, 1) := by decide +kernel
theorem dX12_holds_197 : decode cX12_holds 197 = .ok (.aload_n 0, 1) := by decide +kernel
theorem dX12_holds_198 : decode cX12_holds 198 = .ok (.getfield 98, 3) := by decide +kernel
theorem dX12_holds_201 : decode cX12_holds 201 = .ok (.bipush 26, 2) := by decide +kernel
theorem dX12_holds_203 : decode cX12_holds 203 = .ok (.iload_n 2, 1) := by decide +kernel
theorem dX12_holds_204 : decode cX12_holds 204 = .ok (.iadd, 1) := by decide +kernel
theorem dX12_holds_205 : decode cX12_holds 205 = .ok (.iaload, 1) := by decide +kernel
theorem dX12_holds_206 : decode cX12_holds 206 = .ok (.iload 4, 2) := by decide +kernel
theorem dX12_holds_208 : decode cX12_holds 208 = .ok (.if_icmp .ne 7, 3) := by decide +kernel
theorem dX12_holds_211 : decode cX12_holds 211 = .ok (.iconst 1, 1) := by decide +kernel
theorem dX12_holds_212 : decode cX12_holds 212 = .ok (.goto 4, 3) := by decide +kernel
theorem dX12_holds_215 : decode cX12_holds 215 = .ok (.iconst 0, 1) := by decide +kernel
theorem dX12_holds_216 : decode cX12_holds 216 = .ok (.ireturn, 1) := by decide +kernel
theorem dX12_holds_217 : decode cX12_holds 217 = .ok (.aload_n 0, 1) := by decide +kernel
theorem dX12_holds_218 : decode cX12_holds 218 = .ok (.iload_n 2, 1) := by decide +kernel
theorem dX12_holds_219 : decode cX12_holds 219 = .ok (.iconst 0, 1) := by decide +kernel
theorem dX12_holds_220 : decode cX12_holds 220 = .ok (.invokevirtual 250, 3) := by decide +kernel
theorem dX12_holds_223 : decode cX12_holds 223 = .ok (.iload 4, 2) := by decide +kernel
theorem dX12_holds_225 : decode cX12_holds 225 = .ok (.invokestatic 181, 3) := by decide +kernel
theorem dX12_holds_228 : decode cX12_holds 228 = .ok (.ireturn, 1) := by decide +kernel
theorem dX12_holds_229 : decode cX12_holds 229 = .ok (.aload_n 0, 1) := by decide +kernel
theorem dX12_holds_230 : decode cX12_holds 230 = .ok (.iload_n 2, 1) := by decide +kernel
theorem dX12_holds_231 : decode cX12_holds 231 = .ok (.iload 4, 2) := by decide +kernel
theorem dX12_holds_233 : decode cX12_holds 233 = .ok (.invokevirtual 443, 3) := by decide +kernel
theorem dX12_holds_236 : decode cX12_holds 236 = .ok (.ireturn, 1) := by decide +kernel
theorem dX12_holds_237 : decode cX12_holds 237 = .ok (.aload_n 0, 1) := by decide +kernel
theorem dX12_holds_238 : decode cX12_holds 238 = .ok (.getfield 98, 3) := by decide +kernel
theorem dX12_holds_241 : decode cX12_holds 241 = .ok (.iload_n 3, 1) := by decide +kernel
theorem dX12_holds_242 : decode cX12_holds 242 = .ok (.iaload, 1) := by decide +kernel
theorem dX12_holds_243 : decode cX12_holds 243 = .ok (.bipush 50, 2) := by decide +kernel
theorem dX12_holds_245 : decode cX12_holds 245 = .ok (.isub, 1) := by decide +kernel
theorem dX12_holds_246 : decode cX12_holds 246 = .ok (.istore 6, 2) := by decide +kernel
theorem dX12_holds_248 : decode cX12_holds 248 = .ok (.iload 6, 2) := by decide +kernel
theorem dX12_holds_250 : decode cX12_holds 250 = .ok (.bipush 19, 2) := by decide +kernel
theorem dX12_holds_252 : decode cX12_holds 252 = .ok (.if_icmp .ne 15, 3) := by decide +kernel
theorem dX12_holds_255 : decode cX12_holds 255 = .ok (.aload_n 0, 1) := by decide +kernel
theorem dX12_holds_256 : decode cX12_holds 256 = .ok (.iload_n 2, 1) := by decide +kernel
theorem dX12_holds_257 : decode cX12_holds 257 = .ok (.iconst 1, 1) := by decide +kernel
theorem dX12_holds_258 : decode cX12_holds 258 = .ok (.invokevirtual 253, 3) := by decide +kernel
theorem dX12_holds_261 : decode cX12_holds 261 = .ok (.invokestatic 238, 3) := by decide +kernel
theorem dX12_holds_264 : decode cX12_holds 264 = .ok (.goto 23, 3) := by decide +kernel
theorem dX12_holds_267 : decode cX12_holds 267 = .ok (.iload 6, 2) := by decide +kernel
theorem dX12_holds_269 : decode cX12_holds 269 = .ok (.bipush 20, 2) := by decide +kernel
theorem dX12_holds_271 : decode cX12_holds 271 = .ok (.if_icmp .ne 15, 3) := by decide +kernel
theorem dX12_holds_274 : decode cX12_holds 274 = .ok (.aload_n 0, 1) := by decide +kernel
theorem dX12_holds_275 : decode cX12_holds 275 = .ok (.getfield 98, 3) := by decide +kernel
theorem dX12_holds_278 : decode cX12_holds 278 = .ok (.bipush 32, 2) := by decide +kernel
theorem dX12_holds_280 : decode cX12_holds 280 = .ok (.iload_n 2, 1) := by decide +kernel
theorem dX12_holds_281 : decode cX12_holds 281 = .ok (.iadd, 1) := by decide +kernel
theorem dX12_holds_282 : decode cX12_holds 282 = .ok (.iaload, 1) := by decide +kernel
theorem dX12_holds_283 : decode cX12_holds 283 = .ok (.goto 4, 3) := by decide +kernel
theorem dX12_holds_286 : decode cX12_holds 286 = .ok (.iload_n 2, 1) := by decide +kernel
theorem dX12_holds_287 : decode cX12_holds 287 = .ok (.istore 7, 2) := by decide +kernel
theorem dX12_holds_289 : decode cX12_holds 289 = .ok (.aload_n 0, 1) := by decide +kernel
theorem dX12_holds_290 : decode cX12_holds 290 = .ok (.getfield 98, 3) := by decide +kernel
theorem dX12_holds_293 : decode cX12_holds 293 = .ok (.iload_n 3, 1) := by decide +kernel
theorem dX12_holds_294 : decode cX12_holds 294 = .ok (.iconst 3, 1) := by decide +kernel
theorem dX12_holds_295 : decode cX12_holds 295 = .ok (.iadd, 1) := by decide +kernel
theorem dX12_holds_296 : decode cX12_holds 296 = .ok (.iaload, 1) := by decide +kernel
theorem dX12_holds_297 : decode cX12_holds 297 = .ok (.bipush 60, 2) := by decide +kernel
theorem dX12_holds_299 : decode cX12_holds 299 = .ok (.if_icmp .ne 18, 3) := by decide +kernel
theorem dX12_holds_302 : decode cX12_holds 302 = .ok (.iload 7, 2) := by decide +kernel
theorem dX12_holds_304 : decode cX12_holds 304 = .ok (.iload 5, 2) := by decide +kernel
theorem dX12_holds_306 : decode cX12_holds 306 = .ok (.if_icmp .ge 7, 3) := by decide +kernel
theorem dX12_holds_309 : decode cX12_holds 309 = .ok (.iconst 1, 1) := by decide +kernel
theorem dX12_holds_310 : decode cX12_holds 310 = .ok (.goto 47, 3) := by decide +kernel
theorem dX12_holds_313 : decode cX12_holds 313 = .ok (.iconst 0, 1) := by decide +kernel
theorem dX12_holds_314 : decode cX12_holds 314 = .ok (.goto 43, 3) := by decide +kernel
theorem dX12_holds_317 : decode cX12_holds 317 = .ok (.aload_n 0, 1) := by decide +kernel
theorem dX12_holds_318 : decode cX12_holds 318 = .ok (.getfield 98, 3) := by decide +kernel
theorem dX12_holds_321 : decode cX12_holds 321 = .ok (.iload_n 3, 1) := by decide +kernel
theorem dX12_holds_322 : decode cX12_holds 322 = .ok (.iconst 3, 1) := by decide +kernel
theorem dX12_holds_323 : decode cX12_holds 323 = .ok (.iadd, 1) := by decide +kernel
theorem dX12_holds_324 : decode cX12_holds 324 = .ok (.iaload, 1) := by decide +kernel
theorem dX12_holds_325 : decode cX12_holds 325 = .ok (.bipush 61, 2) := by decide +kernel
theorem dX12_holds_327 : decode cX12_holds 327 = .ok (.if_icmp .ne 18, 3) := by decide +kernel
theorem dX12_holds_330 : decode cX12_holds 330 = .ok (.iload 7, 2) := by decide +kernel
theorem dX12_holds_332 : decode cX12_holds 332 = .ok (.iload 5, 2) := by decide +kernel
theorem dX12_holds_334 : decode cX12_holds 334 = .ok (.if_icmp .ne 7, 3) := by decide +kernel
theorem dX12_holds_337 : decode cX12_holds 337 = .ok (.iconst 1, 1) := by decide +kernel
theorem dX12_holds_338 : decode cX12_holds 338 = .ok (.goto 19, 3) := by decide +kernel
theorem dX12_holds_341 : decode cX12_holds 341 = .ok (.iconst 0, 1) := by decide +kernel
theorem dX12_holds_342 : decode cX12_holds 342 = .ok (.goto 15, 3) := by decide +kernel
theorem dX12_holds_345 : decode cX12_holds 345 = .ok (.iload 7, 2) := by decide +kernel
theorem dX12_holds_347 : decode cX12_holds 347 = .ok (.iload 5, 2) := by decide +kernel
theorem dX12_holds_349 : decode cX12_holds 349 = .ok (.if_icmp .le 7, 3) := by decide +kernel
theorem dX12_holds_352 : decode cX12_holds 352 = .ok (.iconst 1, 1) := by decide +kernel
theorem dX12_holds_353 : decode cX12_holds 353 = .ok (.goto 4, 3) := by decide +kernel
theorem dX12_holds_356 : decode cX12_holds 356 = .ok (.iconst 0, 1) := by decide +kernel
theorem dX12_holds_357 : decode cX12_holds 357 = .ok (.ireturn, 1) := by decide +kernel
theorem dX12_readOr_0 : decode cX12_readOr 0 = .ok (.aload_n 0, 1) := by decide +kernel
theorem dX12_readOr_1 : decode cX12_readOr 1 = .ok (.invokevirtual 406, 3) := by decide +kernel
theorem dX12_readOr_4 : decode cX12_readOr 4 = .ok (.ifCond .ne 5, 3) := by decide +kernel
theorem dX12_readOr_7 : decode cX12_readOr 7 = .ok (.iconst 0, 1) := by decide +kernel
theorem dX12_readOr_8 : decode cX12_readOr 8 = .ok (.ireturn, 1) := by decide +kernel
theorem dX12_readOr_9 : decode cX12_readOr 9 = .ok (.aload_n 0, 1) := by decide +kernel
theorem dX12_readOr_10 : decode cX12_readOr 10 = .ok (.getfield 409, 3) := by decide +kernel
theorem dX12_readOr_13 : decode cX12_readOr 13 = .ok (.istore_n 1, 1) := by decide +kernel
theorem dX12_readOr_14 : decode cX12_readOr 14 = .ok (.aload_n 0, 1) := by decide +kernel
theorem dX12_readOr_15 : decode cX12_readOr 15 = .ok (.bipush 11, 2) := by decide +kernel
theorem dX12_readOr_17 : decode cX12_readOr 17 = .ok (.invokevirtual 191, 3) := by decide +kernel
theorem dX12_readOr_20 : decode cX12_readOr 20 = .ok (.ifCond .eq 31, 3) := by decide +kernel
theorem dX12_readOr_23 : decode cX12_readOr 23 = .ok (.aload_n 0, 1) := by decide +kernel
theorem dX12_readOr_24 : decode cX12_readOr 24 = .ok (.invokevirtual 82, 3) := by decide +kernel
theorem dX12_readOr_27 : decode cX12_readOr 27 = .ok (.aload_n 0, 1) := by decide +kernel
theorem dX12_readOr_28 : decode cX12_readOr 28 = .ok (.invokevirtual 406, 3) := by decide +kernel
theorem dX12_readOr_31 : decode cX12_readOr 31 = .ok (.ifCond .ne 5, 3) := by decide +kernel
theorem dX12_readOr_34 : decode cX12_readOr 34 = .ok (.iconst 0, 1) := by decide +kernel
theorem dX12_readOr_35 : decode cX12_readOr 35 = .ok (.ireturn, 1) := by decide +kernel
theorem dX12_readOr_36 : decode cX12_readOr 36 = .ok (.aload_n 0, 1) := by decide +kernel
theorem dX12_readOr_37 : decode cX12_readOr 37 = .ok (.iconst 3, 1) := by decide +kernel
theorem dX12_readOr_38 : decode cX12_readOr 38 = .ok (.iload_n 1, 1) := by decide +kernel
theorem dX12_readOr_39 : decode cX12_readOr 39 = .ok (.aload_n 0, 1) := by decide +kernel
theorem dX12_readOr_40 : decode cX12_readOr 40 = .ok (.getfield 409, 3) := by decide +kernel
theorem dX12_readOr_43 : decode cX12_readOr 43 = .ok (.iconst 0, 1) := by decide +kernel
theorem dX12_readOr_44 : decode cX12_readOr 44 = .ok (.invokevirtual 412, 3) := by decide +kernel
theorem dX12_readOr_47 : decode cX12_readOr 47 = .ok (.istore_n 1, 1) := by decide +kernel
theorem dX12_readOr_48 : decode cX12_readOr 48 = .ok (.goto (-34), 3) := by decide +kernel
theorem dX12_readOr_51 : decode cX12_readOr 51 = .ok (.aload_n 0, 1) := by decide +kernel
theorem dX12_readOr_52 : decode cX12_readOr 52 = .ok (.iload_n 1, 1) := by decide +kernel
theorem dX12_readOr_53 : decode cX12_readOr 53 = .ok (.putfield 409, 3) := by decide +kernel
theorem dX12_readOr_56 : decode cX12_readOr 56 = .ok (.iconst 1, 1) := by decide +kernel
theorem dX12_readOr_57 : decode cX12_readOr 57 = .ok (.ireturn, 1) := by decide +kernel
theorem dX12_readAnd_0 : decode cX12_readAnd 0 = .ok (.aload_n 0, 1) := by decide +kernel
theorem dX12_readAnd_1 : decode cX12_readAnd 1 = .ok (.invokevirtual 416, 3) := by decide +kernel
theorem dX12_readAnd_4 : decode cX12_readAnd 4 = .ok (.ifCond .ne 5, 3) := by decide +kernel
theorem dX12_readAnd_7 : decode cX12_readAnd 7 = .ok (.iconst 0, 1) := by decide +kernel
theorem dX12_readAnd_8 : decode cX12_readAnd 8 = .ok (.ireturn, 1) := by decide +kernel
theorem dX12_readAnd_9 : decode cX12_readAnd 9 = .ok (.aload_n 0, 1) := by decide +kernel
theorem dX12_readAnd_10 : decode cX12_readAnd 10 = .ok (.getfield 409, 3) := by decide +kernel
theorem dX12_readAnd_13 : decode cX12_readAnd 13 = .ok (.istore_n 1, 1) := by decide +kernel
theorem dX12_readAnd_14 : decode cX12_readAnd 14 = .ok (.aload_n 0, 1) := by decide +kernel
theorem dX12_readAnd_15 : decode cX12_readAnd 15 = .ok (.bipush 12, 2) := by decide +kernel
theorem dX12_readAnd_17 : decode cX12_readAnd 17 = .ok (.invokevirtual 191, 3) := by decide +kernel
theorem dX12_readAnd_20 : decode cX12_readAnd 20 = .ok (.ifCond .eq 31, 3) := by decide +kernel
theorem dX12_readAnd_23 : decode cX12_readAnd 23 = .ok (.aload_n 0, 1) := by decide +kernel
theorem dX12_readAnd_24 : decode cX12_readAnd 24 = .ok (.invokevirtual 82, 3) := by decide +kernel
theorem dX12_readAnd_27 : decode cX12_readAnd 27 = .ok (.aload_n 0, 1) := by decide +kernel
theorem dX12_readAnd_28 : decode cX12_readAnd 28 = .ok (.invokevirtual 416, 3) := by decide +kernel
theorem dX12_readAnd_31 : decode cX12_readAnd 31 = .ok (.ifCond .ne 5, 3) := by decide +kernel
theorem dX12_readAnd_34 : decode cX12_readAnd 34 = .ok (.iconst 0, 1) := by decide +kernel
theorem dX12_readAnd_35 : decode cX12_readAnd 35 = .ok (.ireturn, 1) := by decide +kernel
theorem dX12_readAnd_36 : decode cX12_readAnd 36 = .ok (.aload_n 0, 1) := by decide +kernel
theorem dX12_readAnd_37 : decode cX12_readAnd 37 = .ok (.iconst 2, 1) := by decide +kernel
theorem dX12_readAnd_38 : decode cX12_readAnd 38 = .ok (.iload_n 1, 1) := by decide +kernel
theorem dX12_readAnd_39 : decode cX12_readAnd 39 = .ok (.aload_n 0, 1) := by decide +kernel
theorem dX12_readAnd_40 : decode cX12_readAnd 40 = .ok (.getfield 409, 3) := by decide +kernel
theorem dX12_readAnd_43 : decode cX12_readAnd 43 = .ok (.iconst 0, 1) := by decide +kernel
theorem dX12_readAnd_44 : decode cX12_readAnd 44 = .ok (.invokevirtual 412, 3) := by decide +kernel
theorem dX12_readAnd_47 : decode cX12_readAnd 47 = .ok (.istore_n 1, 1) := by decide +kernel
theorem dX12_readAnd_48 : decode cX12_readAnd 48 = .ok (.goto (-34), 3) := by decide +kernel
theorem dX12_readAnd_51 : decode cX12_readAnd 51 = .ok (.aload_n 0, 1) := by decide +kernel
theorem dX12_readAnd_52 : decode cX12_readAnd 52 = .ok (.iload_n 1, 1) := by decide +kernel
theorem dX12_readAnd_53 : decode cX12_readAnd 53 = .ok (.putfield 409, 3) := by decide +kernel
theorem dX12_readAnd_56 : decode cX12_readAnd 56 = .ok (.iconst 1, 1) := by decide +kernel
theorem dX12_readAnd_57 : decode cX12_readAnd 57 = .ok (.ireturn, 1) := by decide +kernel
theorem dX12_readSaid_0 : decode cX12_readSaid 0 = .ok (.aload_n 0, 1) := by decide +kernel
theorem dX12_readSaid_1 : decode cX12_readSaid 1 = .ok (.bipush 40, 2) := by decide +kernel
theorem dX12_readSaid_3 : decode cX12_readSaid 3 = .ok (.invokevirtual 86, 3) := by decide +kernel
theorem dX12_readSaid_6 : decode cX12_readSaid 6 = .ok (.istore_n 1, 1) := by decide +kernel
theorem dX12_readSaid_7 : decode cX12_readSaid 7 = .ok (.bipush 13, 2) := by decide +kernel
theorem dX12_readSaid_9 : decode cX12_readSaid 9 = .ok (.istore_n 2, 1) := by decide +kernel
theorem dX12_readSaid_10 : decode cX12_readSaid 10 = .ok (.iload_n 2, 1) := by decide +kernel
theorem dX12_readSaid_11 : decode cX12_readSaid 11 = .ok (.bipush 21, 2) := by decide +kernel
theorem dX12_readSaid_13 : decode cX12_readSaid 13 = .ok (.if_icmp .gt 17, 3) := by decide +kernel
theorem dX12_readSaid_16 : decode cX12_readSaid 16 = .ok (.aload_n 0, 1) := by decide +kernel
theorem dX12_readSaid_17 : decode cX12_readSaid 17 = .ok (.iload_n 2, 1) := by decide +kernel
theorem dX12_readSaid_18 : decode cX12_readSaid 18 = .ok (.invokevirtual 191, 3) := by decide +kernel
theorem dX12_readSaid_21 : decode cX12_readSaid 21 = .ok (.ifCond .ne 9, 3) := by decide +kernel
theorem dX12_readSaid_24 : decode cX12_readSaid 24 = .ok (.iinc 2 1, 3) := by decide +kernel
theorem dX12_readSaid_27 : decode cX12_readSaid 27 = .ok (.goto (-17), 3) := by decide +kernel
theorem dX12_readSaid_30 : decode cX12_readSaid 30 = .ok (.iload_n 1, 1) := by decide +kernel
theorem dX12_readSaid_31 : decode cX12_readSaid 31 = .ok (.ifCond .ne 15, 3) := by decide +kernel
theorem dX12_readSaid_34 : decode cX12_readSaid 34 = .ok (.iload_n 2, 1) := by decide +kernel
theorem dX12_readSaid_35 : decode cX12_readSaid 35 = .ok (.bipush 21, 2) := by decide +kernel
theorem dX12_readSaid_37 : decode cX12_readSaid 37 = .ok (.if_icmp .le 9, 3) := by decide +kernel
theorem dX12_readSaid_40 : decode cX12_readSaid 40 = .ok (.aload_n 0, 1) := by decide +kernel
theorem dX12_readSaid_41 : decode cX12_readSaid 41 = .ok (.iconst 1, 1) := by decide +kernel
theorem dX12_readSaid_42 : decode cX12_readSaid 42 = .ok (.invokevirtual 72, 3) := by decide +kernel
theorem dX12_readSaid_45 : decode cX12_readSaid 45 = .ok (.ireturn, 1) := by decide +kernel
theorem dX12_readSaid_46 : decode cX12_readSaid 46 = .ok (.aload_n 0, 1) := by decide +kernel
theorem dX12_readSaid_47 : decode cX12_readSaid 47 = .ok (.getfield 419, 3) := by decide +kernel
theorem dX12_readSaid_50 : decode cX12_readSaid 50 = .ok (.bipush 20, 2) := by decide +kernel
theorem dX12_readSaid_52 : decode cX12_readSaid 52 = .ok (.if_icmp .eq 12, 3) := by decide +kernel
theorem dX12_readSaid_55 : decode cX12_readSaid 55 = .ok (.aload_n 0, 1) := by decide +kernel
theorem dX12_readSaid_56 : decode cX12_readSaid 56 = .ok (.getfield 422, 3) := by decide +kernel
theorem dX12_readSaid_59 : decode cX12_readSaid 59 = .ok (.bipush 8, 2) := by decide +kernel
theorem dX12_readSaid_61 : decode cX12_readSaid 61 = .ok (.if_icmp .ne 9, 3) := by decide +kernel
theorem dX12_readSaid_64 : decode cX12_readSaid 64 = .ok (.aload_n 0, 1) := by decide +kernel
theorem dX12_readSaid_65 : decode cX12_readSaid 65 = .ok (.iconst 4, 1) := by decide +kernel
theorem dX12_readSaid_66 : decode cX12_readSaid 66 = .ok (.invokevirtual 72, 3) := by decide +kernel
theorem dX12_readSaid_69 : decode cX12_readSaid 69 = .ok (.ireturn, 1) := by decide +kernel
theorem dX12_readSaid_70 : decode cX12_readSaid 70 = .ok (.aload_n 0, 1) := by decide +kernel
theorem dX12_readSaid_71 : decode cX12_readSaid 71 = .ok (.dup, 1) := by decide +kernel
theorem dX12_readSaid_72 : decode cX12_readSaid 72 = .ok (.getfield 419, 3) := by decide +kernel
theorem dX12_readSaid_75 : decode cX12_readSaid 75 = .ok (.iconst 1, 1) := by decide +kernel
theorem dX12_readSaid_76 : decode cX12_readSaid 76 = .ok (.iadd, 1) := by decide +kernel
theorem dX12_readSaid_77 : decode cX12_readSaid 77 = .ok (.putfield 419, 3) := by decide +kernel
theorem dX12_readSaid_80 : decode cX12_readSaid 80 = .ok (.aload_n 0, 1) := by decide +kernel
theorem dX12_readSaid_81 : decode cX12_readSaid 81 = .ok (.dup, 1) := by decide +kernel
theorem dX12_readSaid_82 : decode cX12_readSaid 82 = .ok (.getfield 422, 3) := by decide +kernel
theorem dX12_readSaid_85 : decode cX12_readSaid 85 = .ok (.iconst 1, 1) := by decide +kernel
theorem dX12_readSaid_86 : decode cX12_readSaid 86 = .ok (.iadd, 1) := by decide +kernel
theorem dX12_readSaid_87 : decode cX12_readSaid 87 = .ok (.putfield 422, 3) := by decide +kernel
theorem dX12_readSaid_90 : decode cX12_readSaid 90 = .ok (.aload_n 0, 1) := by decide +kernel
theorem dX12_readSaid_91 : decode cX12_readSaid 91 = .ok (.invokevirtual 82, 3) := by decide +kernel
theorem dX12_readSaid_94 : decode cX12_readSaid 94 = .ok (.iconst 1, 1) := by decide +kernel
theorem dX12_readSaid_95 : decode cX12_readSaid 95 = .ok (.istore_n 3, 1) := by decide +kernel
theorem dX12_readSaid_96 : decode cX12_readSaid 96 = .ok (.iload_n 1, 1) := by decide +kernel
theorem dX12_readSaid_97 : decode cX12_readSaid 97 = .ok (.ifCond .eq 11, 3) := by decide +kernel
theorem dX12_readSaid_100 : decode cX12_readSaid 100 = .ok (.aload_n 0, 1) := by decide +kernel
theorem dX12_readSaid_101 : decode cX12_readSaid 101 = .ok (.invokevirtual 425, 3) := by decide +kernel
theorem dX12_readSaid_104 : decode cX12_readSaid 104 = .ok (.istore_n 3, 1) := by decide +kernel
theorem dX12_readSaid_105 : decode cX12_readSaid 105 = .ok (.goto 61, 3) := by decide +kernel
theorem dX12_readSaid_108 : decode cX12_readSaid 108 = .ok (.iload_n 2, 1) := by decide +kernel
theorem dX12_readSaid_109 : decode cX12_readSaid 109 = .ok (.bipush 13, 2) := by decide +kernel
theorem dX12_readSaid_111 : decode cX12_readSaid 111 = .ok (.if_icmp .ne 11, 3) := by decide +kernel
theorem dX12_readSaid_114 : decode cX12_readSaid 114 = .ok (.aload_n 0, 1) := by decide +kernel
theorem dX12_readSaid_115 : decode cX12_readSaid 115 = .ok (.invokevirtual 428, 3) := by decide +kernel
theorem dX12_readSaid_118 : decode cX12_readSaid 118 = .ok (.istore_n 3, 1) := by decide +kernel
theorem dX12_readSaid_119 : decode cX12_readSaid 119 = .ok (.goto 47, 3) := by decide +kernel
theorem dX12_readSaid_122 : decode cX12_readSaid 122 = .ok (.iload_n 2, 1) := by decide +kernel
theorem dX12_readSaid_123 : decode cX12_readSaid 123 = .ok (.bipush 16, 2) := by decide +kernel
theorem dX12_readSaid_125 : decode cX12_readSaid 125 = .ok (.if_icmp .ge 21, 3) := by decide +kernel
theorem dX12_readSaid_128 : decode cX12_readSaid 128 = .ok (.aload_n 0, 1) := by decide +kernel
theorem dX12_readSaid_129 : decode cX12_readSaid 129 = .ok (.aload_n 0, 1) := by decide +kernel
theorem dX12_readSaid_130 : decode cX12_readSaid 130 = .ok (.bipush 50, 2) := by decide +kernel
theorem dX12_readSaid_132 : decode cX12_readSaid 132 = .ok (.iload_n 2, 1) := by decide +kernel
theorem dX12_readSaid_133 : decode cX12_readSaid 133 = .ok (.iadd, 1) := by decide +kernel
theorem dX12_readSaid_134 : decode cX12_readSaid 134 = .ok (.iconst 0, 1) := by decide +kernel
theorem dX12_readSaid_135 : decode cX12_readSaid 135 = .ok (.iconst 0, 1) := by decide +kernel
theorem dX12_readSaid_136 : decode cX12_readSaid 136 = .ok (.iconst 0, 1) := by decide +kernel
theorem dX12_readSaid_137 : decode cX12_readSaid 137 = .ok (.invokevirtual 412, 3) := by decide +kernel
theorem dX12_readSaid_140 : decode cX12_readSaid 140 = .ok (.putfield 409, 3) := by decide +kernel
theorem dX12_readSaid_143 : decode cX12_readSaid 143 = .ok (.goto 23, 3) := by decide +kernel
theorem dX12_readSaid_146 : decode cX12_readSaid 146 = .ok (.iload_n 2, 1) := by decide +kernel
theorem dX12_readSaid_147 : decode cX12_readSaid 147 = .ok (.bipush 19, 2) := by decide +kernel
theorem dX12_readSaid_149 : decode cX12_readSaid 149 = .ok (.if_icmp .ge 11, 3) := by decide +kernel
theorem dX12_readSaid_152 : decode cX12_readSaid 152 = .ok (.aload_n 0, 1) := by decide +kernel
theorem dX12_readSaid_153 : decode cX12_readSaid 153 = .ok (.iload_n 2, 1) := by decide +kernel
theorem dX12_readSaid_154 : decode cX12_readSaid 154 = .ok (.invokevirtual 431, 3) := by decide +kernel
theorem dX12_readSaid_157 : decode cX12_readSaid 157 = .ok (.goto 8, 3) := by decide +kernel
theorem dX12_readSaid_160 : decode cX12_readSaid 160 = .ok (.aload_n 0, 1) := by decide +kernel
theorem dX12_readSaid_161 : decode cX12_readSaid 161 = .ok (.iload_n 2, 1) := by decide +kernel
theorem dX12_readSaid_162 : decode cX12_readSaid 162 = .ok (.invokevirtual 434, 3) := by decide +kernel
theorem dX12_readSaid_165 : decode cX12_readSaid 165 = .ok (.istore_n 3, 1) := by decide +kernel
theorem dX12_readSaid_166 : decode cX12_readSaid 166 = .ok (.aload_n 0, 1) := by decide +kernel
theorem dX12_readSaid_167 : decode cX12_readSaid 167 = .ok (.dup, 1) := by decide +kernel
theorem dX12_readSaid_168 : decode cX12_readSaid 168 = .ok (.getfield 422, 3) := by decide +kernel
theorem dX12_readSaid_171 : decode cX12_readSaid 171 = .ok (.iconst 1, 1) := by decide +kernel
theorem dX12_readSaid_172 : decode cX12_readSaid 172 = .ok (.isub, 1) := by decide +kernel
theorem dX12_readSaid_173 : decode cX12_readSaid 173 = .ok (.putfield 422, 3) := by decide +kernel
theorem dX12_readSaid_176 : decode cX12_readSaid 176 = .ok (.iload_n 3, 1) := by decide +kernel
theorem dX12_readSaid_177 : decode cX12_readSaid 177 = .ok (.ireturn, 1) := by decide +kernel
theorem dX12_readNot_0 : decode cX12_readNot 0 = .ok (.aload_n 0, 1) := by decide +kernel
theorem dX12_readNot_1 : decode cX12_readNot 1 = .ok (.invokevirtual 416, 3) := by decide +kernel
theorem dX12_readNot_4 : decode cX12_readNot 4 = .ok (.ifCond .ne 5, 3) := by decide +kernel
theorem dX12_readNot_7 : decode cX12_readNot 7 = .ok (.iconst 0, 1) := by decide +kernel
theorem dX12_readNot_8 : decode cX12_readNot 8 = .ok (.ireturn, 1) := by decide +kernel
theorem dX12_readNot_9 : decode cX12_readNot 9 = .ok (.aload_n 0, 1) := by decide +kernel
theorem dX12_readNot_10 : decode cX12_readNot 10 = .ok (.aload_n 0, 1) := by decide +kernel
theorem dX12_readNot_11 : decode cX12_readNot 11 = .ok (.iconst 1, 1) := by decide +kernel
theorem dX12_readNot_12 : decode cX12_readNot 12 = .ok (.aload_n 0, 1) := by decide +kernel
theorem dX12_readNot_13 : decode cX12_readNot 13 = .ok (.getfield 409, 3) := by decide +kernel
theorem dX12_readNot_16 : decode cX12_readNot 16 = .ok (.iconst 0, 1) := by decide +kernel
theorem dX12_readNot_17 : decode cX12_readNot 17 = .ok (.iconst 0, 1) := by decide +kernel
theorem dX12_readNot_18 : decode cX12_readNot 18 = .ok (.invokevirtual 412, 3) := by decide +kernel
theorem dX12_readNot_21 : decode cX12_readNot 21 = .ok (.putfield 409, 3) := by decide +kernel
theorem dX12_readNot_24 : decode cX12_readNot 24 = .ok (.iconst 1, 1) := by decide +kernel
theorem dX12_readNot_25 : decode cX12_readNot 25 = .ok (.ireturn, 1) := by decide +kernel
theorem dX12_readBracket_0 : decode cX12_readBracket 0 = .ok (.aload_n 0, 1) := by decide +kernel
theorem dX12_readBracket_1 : decode cX12_readBracket 1 = .ok (.invokevirtual 437, 3) := by decide +kernel
theorem dX12_readBracket_4 : decode cX12_readBracket 4 = .ok (.ifCond .ne 5, 3) := by decide +kernel
theorem dX12_readBracket_7 : decode cX12_readBracket 7 = .ok (.iconst 0, 1) := by decide +kernel
theorem dX12_readBracket_8 : decode cX12_readBracket 8 = .ok (.ireturn, 1) := by decide +kernel
theorem dX12_readBracket_9 : decode cX12_readBracket 9 = .ok (.aload_n 0, 1) := by decide +kernel
theorem dX12_readBracket_10 : decode cX12_readBracket 10 = .ok (.bipush 41, 2) := by decide +kernel
theorem dX12_readBracket_12 : decode cX12_readBracket 12 = .ok (.invokevirtual 86, 3) := by decide +kernel
theorem dX12_readBracket_15 : decode cX12_readBracket 15 = .ok (.ifCond .ne 9, 3) := by decide +kernel
theorem dX12_readBracket_18 : decode cX12_readBracket 18 = .ok (.aload_n 0, 1) := by decide +kernel
theorem dX12_readBracket_19 : decode cX12_readBracket 19 = .ok (.iconst 1, 1) := by decide +kernel
theorem dX12_readBracket_20 : decode cX12_readBracket 20 = .ok (.invokevirtual 72, 3) := by decide +kernel
theorem dX12_readBracket_23 : decode cX12_readBracket 23 = .ok (.ireturn, 1) := by decide +kernel
theorem dX12_readBracket_24 : decode cX12_readBracket 24 = .ok (.aload_n 0, 1) := by decide +kernel
theorem dX12_readBracket_25 : decode cX12_readBracket 25 = .ok (.invokevirtual 82, 3) := by decide +kernel
theorem dX12_readBracket_28 : decode cX12_readBracket 28 = .ok (.iconst 1, 1) := by decide +kernel
theorem dX12_readBracket_29 : decode cX12_readBracket 29 = .ok (.ireturn, 1) := by decide +kernel
abbrev rmGSE (d : Nat) : Room := { frames := 3 + d, cells := 0, slots := 0, locals := 69 + 25 * d }
def zRCSE (l : Launch) (D : va_G) (cy : Nat → ClassId) (q : Nat → Nat) (A : Nat → Prop) (d : Nat) (rc : Nat → zSt → Nat → Nat → Int32 → Option (Int32 × zSt)) : Prop := (∀ (S : zSt) (a0 : Nat) (a2 : Nat) (v3 : Int32) (z : (Int32 × zSt)), zSent a0 → zHouse a2 → rc 0 S a0 a2 v3 = some z → zMq l yX8_readCond cX8_readCond 5 (some .boolean) (rmGSE d) [.ref (q a0), .ref (q 1), .ref (q a2), .int v3] zsh zNC D cy q A S z) ∧ (∀ (S : zSt) (a0 : Nat) (a2 : Nat) (v3 : Int32) (z : (Int32 × zSt)), zSent a0 → zHouse a2 → rc 1 S a0 a2 v3 = some z → zMq l yX8_readJoined cX8_readJoined 5 (some .boolean) (rmGSE d) [.ref (q a0), .ref (q 1), .ref (q a2), .int v3] zsh zNC D cy q A S z) ∧ (∀ (S : zSt) (a0 : Nat) (a2 : Nat) (v3 : Int32) (z : (Int32 × zSt)), zSent a0 → zHouse a2 → rc 2 S a0 a2 v3 = some z → zMq l yX8_readOne cX8_readOne 6 (some .boolean) (rmGSE d) [.ref (q a0), .ref (q 1), .ref (q a2), .int v3] zsh zNC D cy q A S z)
-- X8_readCond
def fX8_readCond_15 (rc : Nat → zSt → Nat → Nat → Int32 → Option (Int32 × zSt)) (a0 : Nat) (a2 : Nat) (v3 : Int32) (t : (zSt × Int32)) : Option ((zSt × Int32) ⊕ (Int32 × zSt)) :=
  match t with
  | (S, v4) => zBr ((20 : Int32) ≤ v4) (zXr (some ((1 : Int32), S))) (zBr ((S.1 1 5) = (12 : Int32)) (zBd (fX9_read S) (fun S10 => zBp (rc 1 S10 a0 a2 v3) (fun r13 S12 => zBr (r13 = 0) (zXr (some ((0 : Int32), S12))) (zBp (fX8_add S12 a0 (12 : Int32) (0 : Int32) (0 : Int32)) (fun r17 S16 => zLt (v4 + (1 : Int32)) (fun x18 => some (.inl (S16, x18)))))))) (zXr (some ((1 : Int32), S))))
set_option maxHeartbeats 4000000 in
set_option maxRecDepth 100000 in
theorem kX8_readCond_15B {p : Program} {l : Launch} {e : Env} {s : State} {m : MethodId} {args : Array Value} {below : List Frame} {meth : Method} {c : Code} {D : va_G} {cy : Nat → ClassId} {q : Nat → Nat} {A : Nat → Prop} {d : Nat} {rc : Nat → zSt → Nat → Nat → Int32 → Option (Int32 × zSt)} (hrc : zRCSE l D cy q A d rc) (cx : zX RX8 cX8_readCond 5 p s m args c D cy) (hr : meth.sig.returnType = (some .boolean)) (hlk : meth.locks = false) (hq : zQ A q zNC) {a0 : Nat} {a2 : Nat} (ha0 : zSent a0) (ha2 : zHouse a2) {z : (Int32 × zSt)} {S : zSt} {v3 : Int32} {v4 : Int32} {C1 : ((zSt × Int32) ⊕ (Int32 × zSt)) → Prop} (hb1 : ∀ (S : zSt) (v4 : Int32), C1 (.inl (S, v4)) → ∀ (H : Heap) (locs : List Loc), va_P D vwCl (zW zsh zNC cy q S) H → va_S A s.heap H locs → ∀ (ls : Array Slot), lv_has ls 5 [(0, .ref (q a0)), (1, .ref (q 1)), (2, .ref (q a2)), (3, .int v3), (4, .int v4)] → W p l e (rmGSE (d + 1)) s m args below meth c H locs 0 0 (MQ below (va_Qi (fun (r : Int32) (u : zSt) => (r, u) = z) (fun u t => va_P D vwCl (zW zsh zNC cy q u) t.heap) A) args s 0 0 A) (F0 m 15 ls [])) (hx1 : ∀ a, C1 (.inr a) → a = z) {x : ((zSt × Int32) ⊕ (Int32 × zSt))} (h : fX8_readCond_15 rc a0 a2 v3 (S, v4) = some x) (hc : C1 x) {H : Heap} {locs : List Loc} (hP : va_P D vwCl (zW zsh zNC cy q S) H) (hS : va_S A s.heap H locs) {ls : Array Slot} (hl : lv_has ls 5 [(0, .ref (q a0)), (1, .ref (q 1)), (2, .ref (q a2)), (3, .int v3), (4, .int v4)]) : W p l e (rmGSE (d + 1)) s m args below meth c H locs 0 0 (MQ below (va_Qi (fun (r : Int32) (u : zSt) => (r, u) = z) (fun u t => va_P D vwCl (zW zsh zNC cy q u) t.heap) A) args s 0 0 A) (F0 m 15 ls []) := by
  have hx := cx.1
  have hb := cx.2.1
  unfold fX8_readCond_15 at h
  dsimp only at h
  refine lv_iload (pc := 15) hx hb dX8_readCond_15 (lv_at hl 4 rfl) ?_
  refine lv_bipush (pc := 17) hx hb dX8_readCond_17 zb_20 ?_
  refine lv_icmp_ge (pc := 19) (tgt := 62) hx hb dX8_readCond_19 (by decide) (fun c5 => ?_) (fun c5 => ?_)
  · replace h := zBr_t c5 h
    obtain ⟨y6, h, ex⟩ := zXr_e h
    have hc := hx1 y6 (by rw [ex] at hc; exact hc)
    rw [hc] at h
    refine lv_iconst (pc := 62) hx hb dX8_readCond_62 zc_1 ?_
    have hz := Option.some.inj h
    exact zr_rqZ (pc := 63) cx hr hlk hP hS hz (by decide) dX8_readCond_63
  · replace h := zBr_f c5 h
    refine lv_aload_n (pc := 22) hx hb dX8_readCond_22 rfl (lv_at hl 1 rfl) ?_
    refine zr_getI (pc := 23) cx lk_X8_50 hP nC_1 sC_1 rfl dX8_readCond_23 ?_
    refine lv_bipush (pc := 26) hx hb dX8_readCond_26 zb_12 ?_
    refine lv_icmp_ne (pc := 28) (tgt := 62) hx hb dX8_readCond_28 (by decide) (fun c7 => ?_) (fun c7 => ?_)
    · replace h := zBr_f c7 h
      obtain ⟨y8, h, ex⟩ := zXr_e h
      have hc := hx1 y8 (by rw [ex] at hc; exact hc)
      rw [hc] at h
      refine lv_iconst (pc := 62) hx hb dX8_readCond_62 zc_1 ?_
      have hz := Option.some.inj h
      exact zr_rqZ (pc := 63) cx hr hlk hP hS hz (by decide) dX8_readCond_63
    · replace h := zBr_t c7 h
      refine lv_aload_n (pc := 31) hx hb dX8_readCond_31 rfl (lv_at hl 1 rfl) ?_
      obtain ⟨S10, k9, h⟩ := zBd_e h
      refine zr_VV (pc := 32) (rest := []) cx cv_X8_60 (mX9_read hq k9) ⟨⟨rfl, rfl⟩, by show 1 + 1 ≤ 3 + (d + 1); omega, by show 8 + (4 + 11) + 23 ≤ 69 + 25 * (d + 1); omega⟩ ⟨Nat.le_of_ble_eq_true rfl, Nat.le_of_ble_eq_true rfl⟩ hP hS nC_1 sC_1 rfl hl.1 rfl rfl (Nat.le_of_ble_eq_true rfl) dX8_readCond_32 (fun H locs hP hS => ?_)
      refine lv_aload_n (pc := 35) hx hb dX8_readCond_35 rfl (lv_at hl 0 rfl) ?_
      refine lv_aload_n (pc := 36) hx hb dX8_readCond_36 rfl (lv_at hl 1 rfl) ?_
      refine lv_aload_n (pc := 37) hx hb dX8_readCond_37 rfl (lv_at hl 2 rfl) ?_
      refine lv_iload_n (pc := 38) hx hb dX8_readCond_38 rfl (lv_at hl 3 rfl) ?_
      obtain ⟨r13, S12, k11, h⟩ := zBp_e h
      refine zr_VQ (pc := 39) (rest := []) cx cv_X8_57 (hrc.2.1 _ _ _ _ _ ha0 ha2 k11) ⟨⟨rfl, rfl⟩, by show (3 + d) + 1 ≤ 3 + (d + 1); omega, by show 8 + (5 + 11) + (69 + 25 * d) ≤ 69 + 25 * (d + 1); omega⟩ ⟨Nat.le_of_ble_eq_true rfl, Nat.le_of_ble_eq_true rfl⟩ hP hS (nX8_0 ha0) (sX8_0 ha0) rfl hl.1 rfl rfl (Nat.le_of_ble_eq_true rfl) dX8_readCond_39 (fun H locs hP hS => ?_)
      refine lv_if_ne (pc := 42) (tgt := 47) hx hb dX8_readCond_42 (by decide) (fun c14 => ?_) (fun c14 => ?_)
      · replace h := zBr_f c14 h
        refine lv_aload_n (pc := 47) hx hb dX8_readCond_47 rfl (lv_at hl 0 rfl) ?_
        refine lv_bipush (pc := 48) hx hb dX8_readCond_48 zb_12 ?_
        refine lv_iconst (pc := 50) hx hb dX8_readCond_50 zc_0 ?_
        refine lv_iconst (pc := 51) hx hb dX8_readCond_51 zc_0 ?_
        obtain ⟨r17, S16, k15, h⟩ := zBp_e h
        refine zr_VQ (pc := 52) (rest := []) cx cv_X8_63 (mX8_add hq ha0 k15) ⟨⟨rfl, rfl⟩, by show 0 + 1 ≤ 3 + (d + 1); omega, by show 8 + (4 + 11) + 0 ≤ 69 + 25 * (d + 1); omega⟩ ⟨Nat.le_of_ble_eq_true rfl, Nat.le_of_ble_eq_true rfl⟩ hP hS (nX8_0 ha0) (sX8_0 ha0) rfl hl.1 rfl rfl (Nat.le_of_ble_eq_true rfl) dX8_readCond_52 (fun H locs hP hS => ?_)
        refine lv_pop (pc := 55) hx hb dX8_readCond_55 rfl ?_
        obtain ⟨x18, ex18, h⟩ := zLt_e h
        refine lv_iinc (v := x18) (lv' := [(4, .int x18), (0, .ref (q a0)), (1, .ref (q 1)), (2, .ref (q a2)), (3, .int v3)]) (pc := 56) hx hb dX8_readCond_56 hl (k := 4) rfl (by rw [zc_1]; exact ex18.symm) (by decide) rfl (fun ls hl => ?_)
        refine lv_goto (pc := 59) (tgt := 15) hx hb dX8_readCond_59 (by decide) ?_
        cases h
        exact hb1 _ _ hc _ _ hP hS _ (lv_sub hl [1, 2, 3, 4, 0] rfl)
      · replace h := zBr_t c14 h
        obtain ⟨y19, h, ex⟩ := zXr_e h
        have hc := hx1 y19 (by rw [ex] at hc; exact hc)
        rw [hc] at h
        refine lv_iconst (pc := 45) hx hb dX8_readCond_45 zc_0 ?_
        have hz := Option.some.inj h
        exact zr_rqZ (pc := 46) cx hr hlk hP hS hz (by decide) dX8_readCond_46
set_option maxHeartbeats 4000000 in
set_option maxRecDepth 100000 in
theorem kX8_readCond_15 {p : Program} {l : Launch} {e : Env} {s : State} {m : MethodId} {args : Array Value} {below : List Frame} {meth : Method} {c : Code} {D : va_G} {cy : Nat → ClassId} {q : Nat → Nat} {A : Nat → Prop} {d : Nat} {rc : Nat → zSt → Nat → Nat → Int32 → Option (Int32 × zSt)} (hrc : zRCSE l D cy q A d rc) (cx : zX RX8 cX8_readCond 5 p s m args c D cy) (hr : meth.sig.returnType = (some .boolean)) (hlk : meth.locks = false) (hq : zQ A q zNC) {a0 : Nat} {a2 : Nat} (ha0 : zSent a0) (ha2 : zHouse a2) {z : (Int32 × zSt)} {v3 : Int32} : ∀ (n : Nat) (S : zSt) (v4 : Int32), zLp (fX8_readCond_15 rc a0 a2 v3) n (S, v4) = some z → ∀ (H : Heap) (locs : List Loc), va_P D vwCl (zW zsh zNC cy q S) H → va_S A s.heap H locs → ∀ (ls : Array Slot), lv_has ls 5 [(0, .ref (q a0)), (1, .ref (q 1)), (2, .ref (q a2)), (3, .int v3), (4, .int v4)] → W p l e (rmGSE (d + 1)) s m args below meth c H locs 0 0 (MQ below (va_Qi (fun (r : Int32) (u : zSt) => (r, u) = z) (fun u t => va_P D vwCl (zW zsh zNC cy q u) t.heap) A) args s 0 0 A) (F0 m 15 ls []) := by
  intro n
  induction n with
  | zero =>
    intro S v4 h
    cases h
  | succ n ih =>
    intro S v4 h H locs hP hS ls hl
    obtain ⟨x, h, hk⟩ := zLp_e h
    exact kX8_readCond_15B hrc cx hr hlk hq ha0 ha2  (C1 := zKt (fun t => zLp (fX8_readCond_15 rc a0 a2 v3) n t = some z) (fun a => a = z)) (fun S v4 ht H locs hP hS ls hl => ih S v4 ht H locs hP hS ls hl) (fun a ha => ha) h hk hP hS hl
def fX8_readCond (rc : Nat → zSt → Nat → Nat → Int32 → Option (Int32 × zSt)) (S : zSt) (a0 : Nat) (a2 : Nat) (v3 : Int32) : Option (Int32 × zSt) :=
  zBp (rc 1 S a0 a2 v3) (fun r3 S2 => zBr (r3 = 0) (some ((0 : Int32), S2)) (zLp (fX8_readCond_15 rc a0 a2 v3) 2000 (S2, (0 : Int32))))
set_option maxHeartbeats 4000000 in
set_option maxRecDepth 100000 in
theorem mX8_readCond {l : Launch} {D : va_G} {cy : Nat → ClassId} {q : Nat → Nat} {A : Nat → Prop} {S : zSt} {a0 : Nat} {a2 : Nat} {v3 : Int32} {d : Nat} {rc : Nat → zSt → Nat → Nat → Int32 → Option (Int32 × zSt)} (hrc : zRCSE l D cy q A d rc) (hq : zQ A q zNC) (ha0 : zSent a0) (ha2 : zHouse a2) {z : (Int32 × zSt)} (h : fX8_readCond rc S a0 a2 v3 = some z) : zMq l yX8_readCond cX8_readCond 5 (some .boolean) (rmGSE (d + 1)) [.ref (q a0), .ref (q 1), .ref (q a2), .int v3] zsh zNC D cy q A S z := by
  refine Met.ofW (cc := cX8_readCond) (maxL := 5) (ret := (some .boolean)) (by decide) rfl ?_
  intro p e s m args below meth c s₁ B hml hv
  obtain ⟨rfl, hP, hK⟩ := hv
  have cx : zX RX8 cX8_readCond 5 p s m ([.ref (q a0), .ref (q 1), .ref (q a2), .int v3]).toArray c D cy := ⟨B.exec, B.bytes, hml, findClass_of_methodNamed B.named, fun w hw => atoms_spec (ws := Cond.code yX8_readCond cX8_readCond 5 (some .boolean) :: zTB) B.pre w (List.mem_cons_of_mem _ hw), hK⟩
  have hx := cx.1
  have hb := cx.2.1
  have hr := B.returns
  have hlk := B.notSynchronized
  have hS : va_S A s.heap s.heap [] := va_S.rf
  have hl := lv_entry ([.ref (q a0), .ref (q 1), .ref (q a2), .int v3]) (n := 5) (Nat.le_of_ble_eq_true rfl)
  rw [lg_entry_eq]
  generalize (lg_sl ([.ref (q a0), .ref (q 1), .ref (q a2), .int v3]) ++ List.replicate (5 - (lg_sl ([.ref (q a0), .ref (q 1), .ref (q a2), .int v3])).length) Slot.unset).toArray = ls at hl ⊢
  have hl : lv_has ls 5 [(0, .ref (q a0)), (1, .ref (q 1)), (2, .ref (q a2)), (3, .int v3)] := hl
  unfold fX8_readCond at h
  refine lv_aload_n (pc := 0) hx hb dX8_readCond_0 rfl (lv_at hl 0 rfl) ?_
  refine lv_aload_n (pc := 1) hx hb dX8_readCond_1 rfl (lv_at hl 1 rfl) ?_
  refine lv_aload_n (pc := 2) hx hb dX8_readCond_2 rfl (lv_at hl 2 rfl) ?_
  refine lv_iload_n (pc := 3) hx hb dX8_readCond_3 rfl (lv_at hl 3 rfl) ?_
  obtain ⟨r3, S2, k1, h⟩ := zBp_e h
  refine zr_VQ (pc := 4) (rest := []) cx cv_X8_57 (hrc.2.1 _ _ _ _ _ ha0 ha2 k1) ⟨⟨rfl, rfl⟩, by show (3 + d) + 1 ≤ 3 + (d + 1); omega, by show 8 + (5 + 11) + (69 + 25 * d) ≤ 69 + 25 * (d + 1); omega⟩ ⟨Nat.le_of_ble_eq_true rfl, Nat.le_of_ble_eq_true rfl⟩ hP hS (nX8_0 ha0) (sX8_0 ha0) rfl hl.1 rfl rfl (Nat.le_of_ble_eq_true rfl) dX8_readCond_4 (fun H locs hP hS => ?_)
  refine lv_if_ne (pc := 7) (tgt := 12) hx hb dX8_readCond_7 (by decide) (fun c4 => ?_) (fun c4 => ?_)
  · replace h := zBr_f c4 h
    refine lv_iconst (pc := 12) hx hb dX8_readCond_12 zc_0 ?_
    refine lv_istore (lv' := [(4, .int (0 : Int32)), (0, .ref (q a0)), (1, .ref (q 1)), (2, .ref (q a2)), (3, .int v3)]) (pc := 13) hx hb dX8_readCond_13 hl (by decide) rfl (fun ls hl => ?_)
    exact kX8_readCond_15 hrc cx hr hlk hq ha0 ha2 2000 _ _ h _ _ hP hS _ (lv_sub hl [1, 2, 3, 4, 0] rfl)
  · replace h := zBr_t c4 h
    refine lv_iconst (pc := 10) hx hb dX8_readCond_10 zc_0 ?_
    have hz := Option.some.inj h
    exact zr_rqZ (pc := 11) cx hr hlk hP hS hz (by decide) dX8_readCond_11
-- X8_readJoined
def fX8_readJoined_15 (rc : Nat → zSt → Nat → Nat → Int32 → Option (Int32 × zSt)) (a0 : Nat) (a2 : Nat) (v3 : Int32) (t : (zSt × Int32)) : Option ((zSt × Int32) ⊕ (Int32 × zSt)) :=
  match t with
  | (S, v4) => zBr ((20 : Int32) ≤ v4) (zXr (some ((1 : Int32), S))) (zBr ((S.1 1 5) = (13 : Int32)) (zBd (fX9_read S) (fun S10 => zBp (rc 2 S10 a0 a2 v3) (fun r13 S12 => zBr (r13 = 0) (zXr (some ((0 : Int32), S12))) (zBp (fX8_add S12 a0 (13 : Int32) (0 : Int32) (0 : Int32)) (fun r17 S16 => zLt (v4 + (1 : Int32)) (fun x18 => some (.inl (S16, x18)))))))) (zXr (some ((1 : Int32), S))))
set_option maxHeartbeats 4000000 in
set_option maxRecDepth 100000 in
theorem kX8_readJoined_15B {p : Program} {l : Launch} {e : Env} {s : State} {m : MethodId} {args : Array Value} {below : List Frame} {meth : Method} {c : Code} {D : va_G} {cy : Nat → ClassId} {q : Nat → Nat} {A : Nat → Prop} {d : Nat} {rc : Nat → zSt → Nat → Nat → Int32 → Option (Int32 × zSt)} (hrc : zRCSE l D cy q A d rc) (cx : zX RX8 cX8_readJoined 5 p s m args c D cy) (hr : meth.sig.returnType = (some .boolean)) (hlk : meth.locks = false) (hq : zQ A q zNC) {a0 : Nat} {a2 : Nat} (ha0 : zSent a0) (ha2 : zHouse a2) {z : (Int32 × zSt)} {S : zSt} {v3 : Int32} {v4 : Int32} {C1 : ((zSt × Int32) ⊕ (Int32 × zSt)) → Prop} (hb1 : ∀ (S : zSt) (v4 : Int32), C1 (.inl (S, v4)) → ∀ (H : Heap) (locs : List Loc), va_P D vwCl (zW zsh zNC cy q S) H → va_S A s.heap H locs → ∀ (ls : Array Slot), lv_has ls 5 [(0, .ref (q a0)), (1, .ref (q 1)), (2, .ref (q a2)), (3, .int v3), (4, .int v4)] → W p l e (rmGSE (d + 1)) s m args below meth c H locs 0 0 (MQ below (va_Qi (fun (r : Int32) (u : zSt) => (r, u) = z) (fun u t => va_P D vwCl (zW zsh zNC cy q u) t.heap) A) args s 0 0 A) (F0 m 15 ls [])) (hx1 : ∀ a, C1 (.inr a) → a = z) {x : ((zSt × Int32) ⊕ (Int32 × zSt))} (h : fX8_readJoined_15 rc a0 a2 v3 (S, v4) = some x) (hc : C1 x) {H : Heap} {locs : List Loc} (hP : va_P D vwCl (zW zsh zNC cy q S) H) (hS : va_S A s.heap H locs) {ls : Array Slot} (hl : lv_has ls 5 [(0, .ref (q a0)), (1, .ref (q 1)), (2, .ref (q a2)), (3, .int v3), (4, .int v4)]) : W p l e (rmGSE (d + 1)) s m args below meth c H locs 0 0 (MQ below (va_Qi (fun (r : Int32) (u : zSt) => (r, u) = z) (fun u t => va_P D vwCl (zW zsh zNC cy q u) t.heap) A) args s 0 0 A) (F0 m 15 ls []) := by
  have hx := cx.1
  have hb := cx.2.1
  unfold fX8_readJoined_15 at h
  dsimp only at h
  refine lv_iload (pc := 15) hx hb dX8_readJoined_15 (lv_at hl 4 rfl) ?_
  refine lv_bipush (pc := 17) hx hb dX8_readJoined_17 zb_20 ?_
  refine lv_icmp_ge (pc := 19) (tgt := 62) hx hb dX8_readJoined_19 (by decide) (fun c5 => ?_) (fun c5 => ?_)
  · replace h := zBr_t c5 h
    obtain ⟨y6, h, ex⟩ := zXr_e h
    have hc := hx1 y6 (by rw [ex] at hc; exact hc)
    rw [hc] at h
    refine lv_iconst (pc := 62) hx hb dX8_readJoined_62 zc_1 ?_
    have hz := Option.some.inj h
    exact zr_rqZ (pc := 63) cx hr hlk hP hS hz (by decide) dX8_readJoined_63
  · replace h := zBr_f c5 h
    refine lv_aload_n (pc := 22) hx hb dX8_readJoined_22 rfl (lv_at hl 1 rfl) ?_
    refine zr_getI (pc := 23) cx lk_X8_50 hP nC_1 sC_1 rfl dX8_readJoined_23 ?_
    refine lv_bipush (pc := 26) hx hb dX8_readJoined_26 zb_13 ?_
    refine lv_icmp_ne (pc := 28) (tgt := 62) hx hb dX8_readJoined_28 (by decide) (fun c7 => ?_) (fun c7 => ?_)
    · replace h := zBr_f c7 h
      obtain ⟨y8, h, ex⟩ := zXr_e h
      have hc := hx1 y8 (by rw [ex] at hc; exact hc)
      rw [hc] at h
      refine lv_iconst (pc := 62) hx hb dX8_readJoined_62 zc_1 ?_
      have hz := Option.some.inj h
      exact zr_rqZ (pc := 63) cx hr hlk hP hS hz (by decide) dX8_readJoined_63
    · replace h := zBr_t c7 h
      refine lv_aload_n (pc := 31) hx hb dX8_readJoined_31 rfl (lv_at hl 1 rfl) ?_
      obtain ⟨S10, k9, h⟩ := zBd_e h
      refine zr_VV (pc := 32) (rest := []) cx cv_X8_60 (mX9_read hq k9) ⟨⟨rfl, rfl⟩, by show 1 + 1 ≤ 3 + (d + 1); omega, by show 8 + (4 + 11) + 23 ≤ 69 + 25 * (d + 1); omega⟩ ⟨Nat.le_of_ble_eq_true rfl, Nat.le_of_ble_eq_true rfl⟩ hP hS nC_1 sC_1 rfl hl.1 rfl rfl (Nat.le_of_ble_eq_true rfl) dX8_readJoined_32 (fun H locs hP hS => ?_)
      refine lv_aload_n (pc := 35) hx hb dX8_readJoined_35 rfl (lv_at hl 0 rfl) ?_
      refine lv_aload_n (pc := 36) hx hb dX8_readJoined_36 rfl (lv_at hl 1 rfl) ?_
      refine lv_aload_n (pc := 37) hx hb dX8_readJoined_37 rfl (lv_at hl 2 rfl) ?_
      refine lv_iload_n (pc := 38) hx hb dX8_readJoined_38 rfl (lv_at hl 3 rfl) ?_
      obtain ⟨r13, S12, k11, h⟩ := zBp_e h
      refine zr_VQ (pc := 39) (rest := []) cx cv_X8_67 (hrc.2.2 _ _ _ _ _ ha0 ha2 k11) ⟨⟨rfl, rfl⟩, by show (3 + d) + 1 ≤ 3 + (d + 1); omega, by show 8 + (6 + 11) + (69 + 25 * d) ≤ 69 + 25 * (d + 1); omega⟩ ⟨Nat.le_of_ble_eq_true rfl, Nat.le_of_ble_eq_true rfl⟩ hP hS (nX8_0 ha0) (sX8_0 ha0) rfl hl.1 rfl rfl (Nat.le_of_ble_eq_true rfl) dX8_readJoined_39 (fun H locs hP hS => ?_)
      refine lv_if_ne (pc := 42) (tgt := 47) hx hb dX8_readJoined_42 (by decide) (fun c14 => ?_) (fun c14 => ?_)
      · replace h := zBr_f c14 h
        refine lv_aload_n (pc := 47) hx hb dX8_readJoined_47 rfl (lv_at hl 0 rfl) ?_
        refine lv_bipush (pc := 48) hx hb dX8_readJoined_48 zb_13 ?_
        refine lv_iconst (pc := 50) hx hb dX8_readJoined_50 zc_0 ?_
        refine lv_iconst (pc := 51) hx hb dX8_readJoined_51 zc_0 ?_
        obtain ⟨r17, S16, k15, h⟩ := zBp_e h
        refine zr_VQ (pc := 52) (rest := []) cx cv_X8_63 (mX8_add hq ha0 k15) ⟨⟨rfl, rfl⟩, by show 0 + 1 ≤ 3 + (d + 1); omega, by show 8 + (4 + 11) + 0 ≤ 69 + 25 * (d + 1); omega⟩ ⟨Nat.le_of_ble_eq_true rfl, Nat.le_of_ble_eq_true rfl⟩ hP hS (nX8_0 ha0) (sX8_0 ha0) rfl hl.1 rfl rfl (Nat.le_of_ble_eq_true rfl) dX8_readJoined_52 (fun H locs hP hS => ?_)
        refine lv_pop (pc := 55) hx hb dX8_readJoined_55 rfl ?_
        obtain ⟨x18, ex18, h⟩ := zLt_e h
        refine lv_iinc (v := x18) (lv' := [(4, .int x18), (0, .ref (q a0)), (1, .ref (q 1)), (2, .ref (q a2)), (3, .int v3)]) (pc := 56) hx hb dX8_readJoined_56 hl (k := 4) rfl (by rw [zc_1]; exact ex18.symm) (by decide) rfl (fun ls hl => ?_)
        refine lv_goto (pc := 59) (tgt := 15) hx hb dX8_readJoined_59 (by decide) ?_
        cases h
        exact hb1 _ _ hc _ _ hP hS _ (lv_sub hl [1, 2, 3, 4, 0] rfl)
      · replace h := zBr_t c14 h
        obtain ⟨y19, h, ex⟩ := zXr_e h
        have hc := hx1 y19 (by rw [ex] at hc; exact hc)
        rw [hc] at h
        refine lv_iconst (pc := 45) hx hb dX8_readJoined_45 zc_0 ?_
        have hz := Option.some.inj h
        exact zr_rqZ (pc := 46) cx hr hlk hP hS hz (by decide) dX8_readJoined_46
set_option maxHeartbeats 4000000 in
set_option maxRecDepth 100000 in
theorem kX8_readJoined_15 {p : Program} {l : Launch} {e : Env} {s : State} {m : MethodId} {args : Array Value} {below : List Frame} {meth : Method} {c : Code} {D : va_G} {cy : Nat → ClassId} {q : Nat → Nat} {A : Nat → Prop} {d : Nat} {rc : Nat → zSt → Nat → Nat → Int32 → Option (Int32 × zSt)} (hrc : zRCSE l D cy q A d rc) (cx : zX RX8 cX8_readJoined 5 p s m args c D cy) (hr : meth.sig.returnType = (some .boolean)) (hlk : meth.locks = false) (hq : zQ A q zNC) {a0 : Nat} {a2 : Nat} (ha0 : zSent a0) (ha2 : zHouse a2) {z : (Int32 × zSt)} {v3 : Int32} : ∀ (n : Nat) (S : zSt) (v4 : Int32), zLp (fX8_readJoined_15 rc a0 a2 v3) n (S, v4) = some z → ∀ (H : Heap) (locs : List Loc), va_P D vwCl (zW zsh zNC cy q S) H → va_S A s.heap H locs → ∀ (ls : Array Slot), lv_has ls 5 [(0, .ref (q a0)), (1, .ref (q 1)), (2, .ref (q a2)), (3, .int v3), (4, .int v4)] → W p l e (rmGSE (d + 1)) s m args below meth c H locs 0 0 (MQ below (va_Qi (fun (r : Int32) (u : zSt) => (r, u) = z) (fun u t => va_P D vwCl (zW zsh zNC cy q u) t.heap) A) args s 0 0 A) (F0 m 15 ls []) := by
  intro n
  induction n with
  | zero =>
    intro S v4 h
    cases h
  | succ n ih =>
    intro S v4 h H locs hP hS ls hl
    obtain ⟨x, h, hk⟩ := zLp_e h
    exact kX8_readJoined_15B hrc cx hr hlk hq ha0 ha2  (C1 := zKt (fun t => zLp (fX8_readJoined_15 rc a0 a2 v3) n t = some z) (fun a => a = z)) (fun S v4 ht H locs hP hS ls hl => ih S v4 ht H locs hP hS ls hl) (fun a ha => ha) h hk hP hS hl
def fX8_readJoined (rc : Nat → zSt → Nat → Nat → Int32 → Option (Int32 × zSt)) (S : zSt) (a0 : Nat) (a2 : Nat) (v3 : Int32) : Option (Int32 × zSt) :=
  zBp (rc 2 S a0 a2 v3) (fun r3 S2 => zBr (r3 = 0) (some ((0 : Int32), S2)) (zLp (fX8_readJoined_15 rc a0 a2 v3) 2000 (S2, (0 : Int32))))
set_option maxHeartbeats 4000000 in
set_option maxRecDepth 100000 in
theorem mX8_readJoined {l : Launch} {D : va_G} {cy : Nat → ClassId} {q : Nat → Nat} {A : Nat → Prop} {S : zSt} {a0 : Nat} {a2 : Nat} {v3 : Int32} {d : Nat} {rc : Nat → zSt → Nat → Nat → Int32 → Option (Int32 × zSt)} (hrc : zRCSE l D cy q A d rc) (hq : zQ A q zNC) (ha0 : zSent a0) (ha2 : zHouse a2) {z : (Int32 × zSt)} (h : fX8_readJoined rc S a0 a2 v3 = some z) : zMq l yX8_readJoined cX8_readJoined 5 (some .boolean) (rmGSE (d + 1)) [.ref (q a0), .ref (q 1), .ref (q a2), .int v3] zsh zNC D cy q A S z := by
  refine Met.ofW (cc := cX8_readJoined) (maxL := 5) (ret := (some .boolean)) (by decide) rfl ?_
  intro p e s m args below meth c s₁ B hml hv
  obtain ⟨rfl, hP, hK⟩ := hv
  have cx : zX RX8 cX8_readJoined 5 p s m ([.ref (q a0), .ref (q 1), .ref (q a2), .int v3]).toArray c D cy := ⟨B.exec, B.bytes, hml, findClass_of_methodNamed B.named, fun w hw => atoms_spec (ws := Cond.code yX8_readJoined cX8_readJoined 5 (some .boolean) :: zTB) B.pre w (List.mem_cons_of_mem _ hw), hK⟩
  have hx := cx.1
  have hb := cx.2.1
  have hr := B.returns
  have hlk := B.notSynchronized
  have hS : va_S A s.heap s.heap [] := va_S.rf
  have hl := lv_entry ([.ref (q a0), .ref (q 1), .ref (q a2), .int v3]) (n := 5) (Nat.le_of_ble_eq_true rfl)
  rw [lg_entry_eq]
  generalize (lg_sl ([.ref (q a0), .ref (q 1), .ref (q a2), .int v3]) ++ List.replicate (5 - (lg_sl ([.ref (q a0), .ref (q 1), .ref (q a2), .int v3])).length) Slot.unset).toArray = ls at hl ⊢
  have hl : lv_has ls 5 [(0, .ref (q a0)), (1, .ref (q 1)), (2, .ref (q a2)), (3, .int v3)] := hl
  unfold fX8_readJoined at h
  refine lv_aload_n (pc := 0) hx hb dX8_readJoined_0 rfl (lv_at hl 0 rfl) ?_
  refine lv_aload_n (pc := 1) hx hb dX8_readJoined_1 rfl (lv_at hl 1 rfl) ?_
  refine lv_aload_n (pc := 2) hx hb dX8_readJoined_2 rfl (lv_at hl 2 rfl) ?_
  refine lv_iload_n (pc := 3) hx hb dX8_readJoined_3 rfl (lv_at hl 3 rfl) ?_
  obtain ⟨r3, S2, k1, h⟩ := zBp_e h
  refine zr_VQ (pc := 4) (rest := []) cx cv_X8_67 (hrc.2.2 _ _ _ _ _ ha0 ha2 k1) ⟨⟨rfl, rfl⟩, by show (3 + d) + 1 ≤ 3 + (d + 1); omega, by show 8 + (6 + 11) + (69 + 25 * d) ≤ 69 + 25 * (d + 1); omega⟩ ⟨Nat.le_of_ble_eq_true rfl, Nat.le_of_ble_eq_true rfl⟩ hP hS (nX8_0 ha0) (sX8_0 ha0) rfl hl.1 rfl rfl (Nat.le_of_ble_eq_true rfl) dX8_readJoined_4 (fun H locs hP hS => ?_)
  refine lv_if_ne (pc := 7) (tgt := 12) hx hb dX8_readJoined_7 (by decide) (fun c4 => ?_) (fun c4 => ?_)
  · replace h := zBr_f c4 h
    refine lv_iconst (pc := 12) hx hb dX8_readJoined_12 zc_0 ?_
    refine lv_istore (lv' := [(4, .int (0 : Int32)), (0, .ref (q a0)), (1, .ref (q 1)), (2, .ref (q a2)), (3, .int v3)]) (pc := 13) hx hb dX8_readJoined_13 hl (by decide) rfl (fun ls hl => ?_)
    exact kX8_readJoined_15 hrc cx hr hlk hq ha0 ha2 2000 _ _ h _ _ hP hS _ (lv_sub hl [1, 2, 3, 4, 0] rfl)
  · replace h := zBr_t c4 h
    refine lv_iconst (pc := 10) hx hb dX8_readJoined_10 zc_0 ?_
    have hz := Option.some.inj h
    exact zr_rqZ (pc := 11) cx hr hlk hP hS hz (by decide) dX8_readJoined_11
-- X8_readOne
def fX8_readOne_35 (rc : Nat → zSt → Nat → Nat → Int32 → Option (Int32 × zSt)) (S : zSt) (a0 : Nat) (a2 : Nat) : Option (Int32 × zSt) :=
  zBp (fX9_fail S (4 : Int32)) (fun r8 S7 => zGd (zBo r8) (some (r8, S7)))
set_option maxHeartbeats 4000000 in
set_option maxRecDepth 100000 in
theorem kX8_readOne_35 {p : Program} {l : Launch} {e : Env} {s : State} {m : MethodId} {args : Array Value} {below : List Frame} {meth : Method} {c : Code} {D : va_G} {cy : Nat → ClassId} {q : Nat → Nat} {A : Nat → Prop} {d : Nat} {rc : Nat → zSt → Nat → Nat → Int32 → Option (Int32 × zSt)} (hrc : zRCSE l D cy q A d rc) (cx : zX RX8 cX8_readOne 6 p s m args c D cy) (hr : meth.sig.returnType = (some .boolean)) (hlk : meth.locks = false) (hq : zQ A q zNC) {a0 : Nat} {a2 : Nat} (ha0 : zSent a0) (ha2 : zHouse a2) {z : (Int32 × zSt)} {S : zSt} (h : fX8_readOne_35 rc S a0 a2 = some z) {H : Heap} {locs : List Loc} (hP : va_P D vwCl (zW zsh zNC cy q S) H) (hS : va_S A s.heap H locs) {ls : Array Slot} (hl : lv_has ls 6 [(1, .ref (q 1))]) : W p l e (rmGSE (d + 1)) s m args below meth c H locs 0 0 (MQ below (va_Qi (fun (r : Int32) (u : zSt) => (r, u) = z) (fun u t => va_P D vwCl (zW zsh zNC cy q u) t.heap) A) args s 0 0 A) (F0 m 35 ls []) := by
  have hx := cx.1
  have hb := cx.2.1
  unfold fX8_readOne_35 at h
  refine lv_aload_n (pc := 35) hx hb dX8_readOne_35 rfl (lv_at hl 0 rfl) ?_
  refine lv_iconst (pc := 36) hx hb dX8_readOne_36 zc_4 ?_
  obtain ⟨r8, S7, k6, h⟩ := zBp_e h
  refine zr_VQ (pc := 37) (rest := []) cx cv_X8_53 (mX9_fail hq k6) ⟨⟨rfl, rfl⟩, by show 1 + 1 ≤ 3 + (d + 1); omega, by show 8 + (2 + 11) + 22 ≤ 69 + 25 * (d + 1); omega⟩ ⟨Nat.le_of_ble_eq_true rfl, Nat.le_of_ble_eq_true rfl⟩ hP hS nC_1 sC_1 rfl hl.1 rfl rfl (Nat.le_of_ble_eq_true rfl) dX8_readOne_37 (fun H locs hP hS => ?_)
  obtain ⟨g9, h⟩ := zGd_e h
  have hz := Option.some.inj h
  exact zr_rqZ (pc := 40) cx hr hlk hP hS hz g9 dX8_readOne_40
def fX8_readOne (rc : Nat → zSt → Nat → Nat → Int32 → Option (Int32 × zSt)) (S : zSt) (a0 : Nat) (a2 : Nat) (v3 : Int32) : Option (Int32 × zSt) :=
  zLt (S.1 1 5) (fun x1 => zBd (fX8_canBeginOne x1) (fun r3 => zBr (r3 = 0) (zBp (fX9_fail S (1 : Int32)) (fun r79 S78 => zGd (zBo r79) (some (r79, S78)))) (zBr ((20 : Int32) ≤ (S.1 a0 5)) (fX8_readOne_35 rc S a0 a2) (zBr (v3 ≤ (8 : Int32)) (zLt (zI S a0 5 ((S.1 a0 5) + (1 : Int32))) (fun S11 => zBd (fX9_read S11) (fun S13 => zBr (x1 = 3) (zBp (fX8_add S13 a0 x1 (0 : Int32) (0 : Int32)) (fun r23 S22 => zGd (zBo r23) (some (r23, S22)))) (zBr (x1 = 14) (zBp (rc 2 S13 a0 a2 (v3 + (1 : Int32))) (fun r27 S26 => zBr (r27 = 0) (some ((0 : Int32), S26)) (zBp (fX8_add S26 a0 (14 : Int32) (0 : Int32) (0 : Int32)) (fun r31 S30 => zBr (r31 = 0) (some ((0 : Int32), S30)) (some ((1 : Int32), S30)))))) (zBr (x1 = 15) (zBp (fX8_add S13 a0 x1 (0 : Int32) (0 : Int32)) (fun r35 S34 => zGd (zBo r35) (some (r35, S34)))) (zBr (x1 = 16) (zBp (fX9_takeKnown S13 a2 (0 : Int32)) (fun r39 S38 => zBp (fX8_add S38 a0 x1 r39 (0 : Int32)) (fun r42 S41 => zGd (zBo r42) (some (r42, S41))))) (zBr (x1 = 17) (zBp (fX9_takeKnown S13 a2 (0 : Int32)) (fun r46 S45 => zBp (fX8_add S45 a0 x1 r46 (0 : Int32)) (fun r49 S48 => zGd (zBo r49) (some (r49, S48))))) (zBr (x1 = 18) (zBp (fX9_takeKnown S13 a2 (2 : Int32)) (fun r53 S52 => zBp (fX8_add S52 a0 x1 r53 (0 : Int32)) (fun r56 S55 => zGd (zBo r56) (some (r56, S55))))) (zBr (x1 = 40) (zBp (rc 0 S13 a0 a2 (v3 + (1 : Int32))) (fun r60 S59 => zBr (r60 = 0) (some ((0 : Int32), S59)) (zBp (fX9_take S59 (41 : Int32)) (fun r64 S63 => zBr (r64 = 0) (some ((0 : Int32), S63)) (some ((1 : Int32), S63)))))) (zBp (fX9_takeSign S13) (fun r68 S67 => zBr (r68 = (-1 : Int32)) (some ((0 : Int32), S67)) (zBp (fX9_takeNumber S67 (0 : Int32) (999 : Int32)) (fun r72 S71 => zBp (fX8_add S71 a0 x1 r68 r72) (fun r75 S74 => zBr (r75 = 0) (some ((0 : Int32), S74)) (some ((1 : Int32), S74)))))))))))))))) (fX8_readOne_35 rc S a0 a2)))))
set_option maxHeartbeats 4000000 in
set_option maxRecDepth 100000 in
theorem mX8_readOne {l : Launch} {D : va_G} {cy : Nat → ClassId} {q : Nat → Nat} {A : Nat → Prop} {S : zSt} {a0 : Nat} {a2 : Nat} {v3 : Int32} {d : Nat} {rc : Nat → zSt → Nat → Nat → Int32 → Option (Int32 × zSt)} (hrc : zRCSE l D cy q A d rc) (hq : zQ A q zNC) (ha0 : zSent a0) (ha2 : zHouse a2) {z : (Int32 × zSt)} (h : fX8_readOne rc S a0 a2 v3 = some z) : zMq l yX8_readOne cX8_readOne 6 (some .boolean) (rmGSE (d + 1)) [.ref (q a0), .ref (q 1), .ref (q a2), .int v3] zsh zNC D cy q A S z := by
  refine Met.ofW (cc := cX8_readOne) (maxL := 6) (ret := (some .boolean)) (by decide) rfl ?_
  intro p e s m args below meth c s₁ B hml hv
  obtain ⟨rfl, hP, hK⟩ := hv
  have cx : zX RX8 cX8_readOne 6 p s m ([.ref (q a0), .ref (q 1), .ref (q a2), .int v3]).toArray c D cy := ⟨B.exec, B.bytes, hml, findClass_of_methodNamed B.named, fun w hw => atoms_spec (ws := Cond.code yX8_readOne cX8_readOne 6 (some .boolean) :: zTB) B.pre w (List.mem_cons_of_mem _ hw), hK⟩
  have hx := cx.1
  have hb := cx.2.1
  have hr := B.returns
  have hlk := B.notSynchronized
  have hS : va_S A s.heap s.heap [] := va_S.rf
  have hl := lv_entry ([.ref (q a0), .ref (q 1), .ref (q a2), .int v3]) (n := 6) (Nat.le_of_ble_eq_true rfl)
  rw [lg_entry_eq]
  generalize (lg_sl ([.ref (q a0), .ref (q 1), .ref (q a2), .int v3]) ++ List.replicate (6 - (lg_sl ([.ref (q a0), .ref (q 1), .ref (q a2), .int v3])).length) Slot.unset).toArray = ls at hl ⊢
  have hl : lv_has ls 6 [(0, .ref (q a0)), (1, .ref (q 1)), (2, .ref (q a2)), (3, .int v3)] := hl
  unfold fX8_readOne at h
  refine lv_aload_n (pc := 0) hx hb dX8_readOne_0 rfl (lv_at hl 1 rfl) ?_
  refine zr_getI (pc := 1) cx lk_X8_50 hP nC_1 sC_1 rfl dX8_readOne_1 ?_
  obtain ⟨x1, ex1, h⟩ := zLt_e h
  refine zr_nmI ex1 ?_
  refine lv_istore (lv' := [(4, .int x1), (0, .ref (q a0)), (1, .ref (q 1)), (2, .ref (q a2)), (3, .int v3)]) (pc := 4) hx hb dX8_readOne_4 hl (by decide) rfl (fun ls hl => ?_)
  refine lv_iload (pc := 6) hx hb dX8_readOne_6 (lv_at hl 0 rfl) ?_
  obtain ⟨r3, k2, h⟩ := zBd_e h
  refine zr_SI (pc := 8) (rest := []) cx cv_X8_70 (mX8_canBeginOne k2) ⟨⟨rfl, rfl⟩, by show 0 + 1 ≤ 3 + (d + 1); omega, by show 8 + (1 + 11) + 0 ≤ 69 + 25 * (d + 1); omega⟩ ⟨Nat.le_of_ble_eq_true rfl, Nat.le_of_ble_eq_true rfl⟩ (zr_preK cx) hl.1 rfl rfl (Nat.le_of_ble_eq_true rfl) dX8_readOne_8 ?_
  refine lv_if_ne (pc := 11) (tgt := 20) hx hb dX8_readOne_11 (by decide) (fun c4 => ?_) (fun c4 => ?_)
  · replace h := zBr_f c4 h
    refine lv_aload_n (pc := 20) hx hb dX8_readOne_20 rfl (lv_at hl 1 rfl) ?_
    refine zr_getI (pc := 21) cx lk_X8_28 hP (nX8_0 ha0) (sX8_0 ha0) rfl dX8_readOne_21 ?_
    refine lv_bipush (pc := 24) hx hb dX8_readOne_24 zb_20 ?_
    refine lv_icmp_ge (pc := 26) (tgt := 35) hx hb dX8_readOne_26 (by decide) (fun c5 => ?_) (fun c5 => ?_)
    · replace h := zBr_t c5 h
      exact kX8_readOne_35 hrc cx hr hlk hq ha0 ha2 h hP hS (lv_sub hl [2] rfl)
    · replace h := zBr_f c5 h
      refine lv_iload_n (pc := 29) hx hb dX8_readOne_29 rfl (lv_at hl 4 rfl) ?_
      refine lv_bipush (pc := 30) hx hb dX8_readOne_30 zb_8 ?_
      refine lv_icmp_le (pc := 32) (tgt := 41) hx hb dX8_readOne_32 (by decide) (fun c10 => ?_) (fun c10 => ?_)
      · replace h := zBr_t c10 h
        refine lv_aload_n (pc := 41) hx hb dX8_readOne_41 rfl (lv_at hl 1 rfl) ?_
        refine lv_dup (pc := 42) hx hb dX8_readOne_42 rfl ?_
        refine zr_getI (pc := 43) cx lk_X8_28 hP (nX8_0 ha0) (sX8_0 ha0) rfl dX8_readOne_43 ?_
        refine lv_iconst (pc := 46) hx hb dX8_readOne_46 zc_1 ?_
        refine lv_iadd (pc := 47) hx hb dX8_readOne_47 ?_
        obtain ⟨S11, eS11, h⟩ := zLt_e h
        refine zr_putI (pc := 48) cx lq_X8_28 hq hP hS (nX8_0 ha0) (sX8_0 ha0) rfl rfl rfl dX8_readOne_48 (fun H locs hP hS => ?_)
        rw [← eS11] at hP
        refine lv_aload_n (pc := 51) hx hb dX8_readOne_51 rfl (lv_at hl 2 rfl) ?_
        obtain ⟨S13, k12, h⟩ := zBd_e h
        refine zr_VV (pc := 52) (rest := []) cx cv_X8_60 (mX9_read hq k12) ⟨⟨rfl, rfl⟩, by show 1 + 1 ≤ 3 + (d + 1); omega, by show 8 + (4 + 11) + 23 ≤ 69 + 25 * (d + 1); omega⟩ ⟨Nat.le_of_ble_eq_true rfl, Nat.le_of_ble_eq_true rfl⟩ hP hS nC_1 sC_1 rfl hl.1 rfl rfl (Nat.le_of_ble_eq_true rfl) dX8_readOne_52 (fun H locs hP hS => ?_)
        refine lv_iload (pc := 55) hx hb dX8_readOne_55 (lv_at hl 0 rfl) ?_
        by_cases c14 : x1 = 3
        · replace h := zBr_t c14 h
          refine lv_lookup (pc := 57) (off := 151) (tgt := 208) hx hb dX8_readOne_57 rfl (by rw [c14]; rfl) (by decide) ?_
          refine lv_aload_n (pc := 208) hx hb dX8_readOne_208 rfl (lv_at hl 1 rfl) ?_
          refine lv_iload (pc := 209) hx hb dX8_readOne_209 (lv_at hl 0 rfl) ?_
          refine lv_iconst (pc := 211) hx hb dX8_readOne_211 zc_0 ?_
          refine lv_iconst (pc := 212) hx hb dX8_readOne_212 zc_0 ?_
          obtain ⟨r23, S22, k21, h⟩ := zBp_e h
          refine zr_VQ (pc := 213) (rest := []) cx cv_X8_63 (mX8_add hq ha0 k21) ⟨⟨rfl, rfl⟩, by show 0 + 1 ≤ 3 + (d + 1); omega, by show 8 + (4 + 11) + 0 ≤ 69 + 25 * (d + 1); omega⟩ ⟨Nat.le_of_ble_eq_true rfl, Nat.le_of_ble_eq_true rfl⟩ hP hS (nX8_0 ha0) (sX8_0 ha0) rfl hl.1 rfl rfl (Nat.le_of_ble_eq_true rfl) dX8_readOne_213 (fun H locs hP hS => ?_)
          obtain ⟨g24, h⟩ := zGd_e h
          have hz := Option.some.inj h
          exact zr_rqZ (pc := 216) cx hr hlk hP hS hz g24 dX8_readOne_216
        · replace h := zBr_f c14 h
          by_cases c15 : x1 = 14
          · replace h := zBr_t c15 h
            refine lv_lookup (pc := 57) (off := 67) (tgt := 124) hx hb dX8_readOne_57 rfl (by rw [c15]; rfl) (by decide) ?_
            refine lv_aload_n (pc := 124) hx hb dX8_readOne_124 rfl (lv_at hl 1 rfl) ?_
            refine lv_aload_n (pc := 125) hx hb dX8_readOne_125 rfl (lv_at hl 2 rfl) ?_
            refine lv_aload_n (pc := 126) hx hb dX8_readOne_126 rfl (lv_at hl 3 rfl) ?_
            refine lv_iload_n (pc := 127) hx hb dX8_readOne_127 rfl (lv_at hl 4 rfl) ?_
            refine lv_iconst (pc := 128) hx hb dX8_readOne_128 zc_1 ?_
            refine lv_iadd (pc := 129) hx hb dX8_readOne_129 ?_
            obtain ⟨r27, S26, k25, h⟩ := zBp_e h
            refine zr_VQ (pc := 130) (rest := []) cx cv_X8_67 (hrc.2.2 _ _ _ _ _ ha0 ha2 k25) ⟨⟨rfl, rfl⟩, by show (3 + d) + 1 ≤ 3 + (d + 1); omega, by show 8 + (6 + 11) + (69 + 25 * d) ≤ 69 + 25 * (d + 1); omega⟩ ⟨Nat.le_of_ble_eq_true rfl, Nat.le_of_ble_eq_true rfl⟩ hP hS (nX8_0 ha0) (sX8_0 ha0) rfl hl.1 rfl rfl (Nat.le_of_ble_eq_true rfl) dX8_readOne_130 (fun H locs hP hS => ?_)
            refine lv_if_eq (pc := 133) (tgt := 151) hx hb dX8_readOne_133 (by decide) (fun c28 => ?_) (fun c28 => ?_)
            · replace h := zBr_t c28 h
              refine lv_iconst (pc := 151) hx hb dX8_readOne_151 zc_0 ?_
              have hz := Option.some.inj h
              exact zr_rqZ (pc := 152) cx hr hlk hP hS hz (by decide) dX8_readOne_152
            · replace h := zBr_f c28 h
              refine lv_aload_n (pc := 136) hx hb dX8_readOne_136 rfl (lv_at hl 1 rfl) ?_
              refine lv_bipush (pc := 137) hx hb dX8_readOne_137 zb_14 ?_
              refine lv_iconst (pc := 139) hx hb dX8_readOne_139 zc_0 ?_
              refine lv_iconst (pc := 140) hx hb dX8_readOne_140 zc_0 ?_
              obtain ⟨r31, S30, k29, h⟩ := zBp_e h
              refine zr_VQ (pc := 141) (rest := []) cx cv_X8_63 (mX8_add hq ha0 k29) ⟨⟨rfl, rfl⟩, by show 0 + 1 ≤ 3 + (d + 1); omega, by show 8 + (4 + 11) + 0 ≤ 69 + 25 * (d + 1); omega⟩ ⟨Nat.le_of_ble_eq_true rfl, Nat.le_of_ble_eq_true rfl⟩ hP hS (nX8_0 ha0) (sX8_0 ha0) rfl hl.1 rfl rfl (Nat.le_of_ble_eq_true rfl) dX8_readOne_141 (fun H locs hP hS => ?_)
              refine lv_if_eq (pc := 144) (tgt := 151) hx hb dX8_readOne_144 (by decide) (fun c32 => ?_) (fun c32 => ?_)
              · replace h := zBr_t c32 h
                refine lv_iconst (pc := 151) hx hb dX8_readOne_151 zc_0 ?_
                have hz := Option.some.inj h
                exact zr_rqZ (pc := 152) cx hr hlk hP hS hz (by decide) dX8_readOne_152
              · replace h := zBr_f c32 h
                refine lv_iconst (pc := 147) hx hb dX8_readOne_147 zc_1 ?_
                refine lv_goto (pc := 148) (tgt := 152) hx hb dX8_readOne_148 (by decide) ?_
                have hz := Option.some.inj h
                exact zr_rqZ (pc := 152) cx hr hlk hP hS hz (by decide) dX8_readOne_152
          · replace h := zBr_f c15 h
            by_cases c16 : x1 = 15
            · replace h := zBr_t c16 h
              refine lv_lookup (pc := 57) (off := 151) (tgt := 208) hx hb dX8_readOne_57 rfl (by rw [c16]; rfl) (by decide) ?_
              refine lv_aload_n (pc := 208) hx hb dX8_readOne_208 rfl (lv_at hl 1 rfl) ?_
              refine lv_iload (pc := 209) hx hb dX8_readOne_209 (lv_at hl 0 rfl) ?_
              refine lv_iconst (pc := 211) hx hb dX8_readOne_211 zc_0 ?_
              refine lv_iconst (pc := 212) hx hb dX8_readOne_212 zc_0 ?_
              obtain ⟨r35, S34, k33, h⟩ := zBp_e h
              refine zr_VQ (pc := 213) (rest := []) cx cv_X8_63 (mX8_add hq ha0 k33) ⟨⟨rfl, rfl⟩, by show 0 + 1 ≤ 3 + (d + 1); omega, by show 8 + (4 + 11) + 0 ≤ 69 + 25 * (d + 1); omega⟩ ⟨Nat.le_of_ble_eq_true rfl, Nat.le_of_ble_eq_true rfl⟩ hP hS (nX8_0 ha0) (sX8_0 ha0) rfl hl.1 rfl rfl (Nat.le_of_ble_eq_true rfl) dX8_readOne_213 (fun H locs hP hS => ?_)
              obtain ⟨g36, h⟩ := zGd_e h
              have hz := Option.some.inj h
              exact zr_rqZ (pc := 216) cx hr hlk hP hS hz g36 dX8_readOne_216
            · replace h := zBr_f c16 h
              by_cases c17 : x1 = 16
              · replace h := zBr_t c17 h
                refine lv_lookup (pc := 57) (off := 123) (tgt := 180) hx hb dX8_readOne_57 rfl (by rw [c17]; rfl) (by decide) ?_
                refine lv_aload_n (pc := 180) hx hb dX8_readOne_180 rfl (lv_at hl 1 rfl) ?_
                refine lv_iload (pc := 181) hx hb dX8_readOne_181 (lv_at hl 0 rfl) ?_
                refine lv_aload_n (pc := 183) hx hb dX8_readOne_183 rfl (lv_at hl 2 rfl) ?_
                refine lv_aload_n (pc := 184) hx hb dX8_readOne_184 rfl (lv_at hl 3 rfl) ?_
                refine lv_iconst (pc := 185) hx hb dX8_readOne_185 zc_0 ?_
                obtain ⟨r39, S38, k37, h⟩ := zBp_e h
                refine zr_VQ (pc := 186) (rest := [.int x1, .ref (q a0)]) cx cv_X8_76 (mX9_takeKnown hq ha2 k37) ⟨⟨rfl, rfl⟩, by show 2 + 1 ≤ 3 + (d + 1); omega, by show 8 + (4 + 11) + 46 ≤ 69 + 25 * (d + 1); omega⟩ ⟨Nat.le_of_ble_eq_true rfl, Nat.le_of_ble_eq_true rfl⟩ hP hS nC_1 sC_1 rfl hl.1 rfl rfl (Nat.le_of_ble_eq_true rfl) dX8_readOne_186 (fun H locs hP hS => ?_)
                refine lv_iconst (pc := 189) hx hb dX8_readOne_189 zc_0 ?_
                obtain ⟨r42, S41, k40, h⟩ := zBp_e h
                refine zr_VQ (pc := 190) (rest := []) cx cv_X8_63 (mX8_add hq ha0 k40) ⟨⟨rfl, rfl⟩, by show 0 + 1 ≤ 3 + (d + 1); omega, by show 8 + (4 + 11) + 0 ≤ 69 + 25 * (d + 1); omega⟩ ⟨Nat.le_of_ble_eq_true rfl, Nat.le_of_ble_eq_true rfl⟩ hP hS (nX8_0 ha0) (sX8_0 ha0) rfl hl.1 rfl rfl (Nat.le_of_ble_eq_true rfl) dX8_readOne_190 (fun H locs hP hS => ?_)
                obtain ⟨g43, h⟩ := zGd_e h
                have hz := Option.some.inj h
                exact zr_rqZ (pc := 193) cx hr hlk hP hS hz g43 dX8_readOne_193
              · replace h := zBr_f c17 h
                by_cases c18 : x1 = 17
                · replace h := zBr_t c18 h
                  refine lv_lookup (pc := 57) (off := 123) (tgt := 180) hx hb dX8_readOne_57 rfl (by rw [c18]; rfl) (by decide) ?_
                  refine lv_aload_n (pc := 180) hx hb dX8_readOne_180 rfl (lv_at hl 1 rfl) ?_
                  refine lv_iload (pc := 181) hx hb dX8_readOne_181 (lv_at hl 0 rfl) ?_
                  refine lv_aload_n (pc := 183) hx hb dX8_readOne_183 rfl (lv_at hl 2 rfl) ?_
                  refine lv_aload_n (pc := 184) hx hb dX8_readOne_184 rfl (lv_at hl 3 rfl) ?_
                  refine lv_iconst (pc := 185) hx hb dX8_readOne_185 zc_0 ?_
                  obtain ⟨r46, S45, k44, h⟩ := zBp_e h
                  refine zr_VQ (pc := 186) (rest := [.int x1, .ref (q a0)]) cx cv_X8_76 (mX9_takeKnown hq ha2 k44) ⟨⟨rfl, rfl⟩, by show 2 + 1 ≤ 3 + (d + 1); omega, by show 8 + (4 + 11) + 46 ≤ 69 + 25 * (d + 1); omega⟩ ⟨Nat.le_of_ble_eq_true rfl, Nat.le_of_ble_eq_true rfl⟩ hP hS nC_1 sC_1 rfl hl.1 rfl rfl (Nat.le_of_ble_eq_true rfl) dX8_readOne_186 (fun H locs hP hS => ?_)
                  refine lv_iconst (pc := 189) hx hb dX8_readOne_189 zc_0 ?_
                  obtain ⟨r49, S48, k47, h⟩ := zBp_e h
                  refine zr_VQ (pc := 190) (rest := []) cx cv_X8_63 (mX8_add hq ha0 k47) ⟨⟨rfl, rfl⟩, by show 0 + 1 ≤ 3 + (d + 1); omega, by show 8 + (4 + 11) + 0 ≤ 69 + 25 * (d + 1); omega⟩ ⟨Nat.le_of_ble_eq_true rfl, Nat.le_of_ble_eq_true rfl⟩ hP hS (nX8_0 ha0) (sX8_0 ha0) rfl hl.1 rfl rfl (Nat.le_of_ble_eq_true rfl) dX8_readOne_190 (fun H locs hP hS => ?_)
                  obtain ⟨g50, h⟩ := zGd_e h
                  have hz := Option.some.inj h
                  exact zr_rqZ (pc := 193) cx hr hlk hP hS hz g50 dX8_readOne_193
                · replace h := zBr_f c18 h
                  by_cases c19 : x1 = 18
                  · replace h := zBr_t c19 h
                    refine lv_lookup (pc := 57) (off := 137) (tgt := 194) hx hb dX8_readOne_57 rfl (by rw [c19]; rfl) (by decide) ?_
                    refine lv_aload_n (pc := 194) hx hb dX8_readOne_194 rfl (lv_at hl 1 rfl) ?_
                    refine lv_iload (pc := 195) hx hb dX8_readOne_195 (lv_at hl 0 rfl) ?_
                    refine lv_aload_n (pc := 197) hx hb dX8_readOne_197 rfl (lv_at hl 2 rfl) ?_
                    refine lv_aload_n (pc := 198) hx hb dX8_readOne_198 rfl (lv_at hl 3 rfl) ?_
                    refine lv_iconst (pc := 199) hx hb dX8_readOne_199 zc_2 ?_
                    obtain ⟨r53, S52, k51, h⟩ := zBp_e h
                    refine zr_VQ (pc := 200) (rest := [.int x1, .ref (q a0)]) cx cv_X8_76 (mX9_takeKnown hq ha2 k51) ⟨⟨rfl, rfl⟩, by show 2 + 1 ≤ 3 + (d + 1); omega, by show 8 + (4 + 11) + 46 ≤ 69 + 25 * (d + 1); omega⟩ ⟨Nat.le_of_ble_eq_true rfl, Nat.le_of_ble_eq_true rfl⟩ hP hS nC_1 sC_1 rfl hl.1 rfl rfl (Nat.le_of_ble_eq_true rfl) dX8_readOne_200 (fun H locs hP hS => ?_)
                    refine lv_iconst (pc := 203) hx hb dX8_readOne_203 zc_0 ?_
                    obtain ⟨r56, S55, k54, h⟩ := zBp_e h
                    refine zr_VQ (pc := 204) (rest := []) cx cv_X8_63 (mX8_add hq ha0 k54) ⟨⟨rfl, rfl⟩, by show 0 + 1 ≤ 3 + (d + 1); omega, by show 8 + (4 + 11) + 0 ≤ 69 + 25 * (d + 1); omega⟩ ⟨Nat.le_of_ble_eq_true rfl, Nat.le_of_ble_eq_true rfl⟩ hP hS (nX8_0 ha0) (sX8_0 ha0) rfl hl.1 rfl rfl (Nat.le_of_ble_eq_true rfl) dX8_readOne_204 (fun H locs hP hS => ?_)
                    obtain ⟨g57, h⟩ := zGd_e h
                    have hz := Option.some.inj h
                    exact zr_rqZ (pc := 207) cx hr hlk hP hS hz g57 dX8_readOne_207
                  · replace h := zBr_f c19 h
                    by_cases c20 : x1 = 40
                    · replace h := zBr_t c20 h
                      refine lv_lookup (pc := 57) (off := 96) (tgt := 153) hx hb dX8_readOne_57 rfl (by rw [c20]; rfl) (by decide) ?_
                      refine lv_aload_n (pc := 153) hx hb dX8_readOne_153 rfl (lv_at hl 1 rfl) ?_
                      refine lv_aload_n (pc := 154) hx hb dX8_readOne_154 rfl (lv_at hl 2 rfl) ?_
                      refine lv_aload_n (pc := 155) hx hb dX8_readOne_155 rfl (lv_at hl 3 rfl) ?_
                      refine lv_iload_n (pc := 156) hx hb dX8_readOne_156 rfl (lv_at hl 4 rfl) ?_
                      refine lv_iconst (pc := 157) hx hb dX8_readOne_157 zc_1 ?_
                      refine lv_iadd (pc := 158) hx hb dX8_readOne_158 ?_
                      obtain ⟨r60, S59, k58, h⟩ := zBp_e h
                      refine zr_VQ (pc := 159) (rest := []) cx cv_X8_46 (hrc.1 _ _ _ _ _ ha0 ha2 k58) ⟨⟨rfl, rfl⟩, by show (3 + d) + 1 ≤ 3 + (d + 1); omega, by show 8 + (5 + 11) + (69 + 25 * d) ≤ 69 + 25 * (d + 1); omega⟩ ⟨Nat.le_of_ble_eq_true rfl, Nat.le_of_ble_eq_true rfl⟩ hP hS (nX8_0 ha0) (sX8_0 ha0) rfl hl.1 rfl rfl (Nat.le_of_ble_eq_true rfl) dX8_readOne_159 (fun H locs hP hS => ?_)
                      refine lv_if_eq (pc := 162) (tgt := 178) hx hb dX8_readOne_162 (by decide) (fun c61 => ?_) (fun c61 => ?_)
                      · replace h := zBr_t c61 h
                        refine lv_iconst (pc := 178) hx hb dX8_readOne_178 zc_0 ?_
                        have hz := Option.some.inj h
                        exact zr_rqZ (pc := 179) cx hr hlk hP hS hz (by decide) dX8_readOne_179
                      · replace h := zBr_f c61 h
                        refine lv_aload_n (pc := 165) hx hb dX8_readOne_165 rfl (lv_at hl 2 rfl) ?_
                        refine lv_bipush (pc := 166) hx hb dX8_readOne_166 zb_41 ?_
                        obtain ⟨r64, S63, k62, h⟩ := zBp_e h
                        refine zr_VQ (pc := 168) (rest := []) cx cv_X8_73 (mX9_take hq k62) ⟨⟨rfl, rfl⟩, by show 2 + 1 ≤ 3 + (d + 1); omega, by show 8 + (2 + 11) + 46 ≤ 69 + 25 * (d + 1); omega⟩ ⟨Nat.le_of_ble_eq_true rfl, Nat.le_of_ble_eq_true rfl⟩ hP hS nC_1 sC_1 rfl hl.1 rfl rfl (Nat.le_of_ble_eq_true rfl) dX8_readOne_168 (fun H locs hP hS => ?_)
                        refine lv_if_eq (pc := 171) (tgt := 178) hx hb dX8_readOne_171 (by decide) (fun c65 => ?_) (fun c65 => ?_)
                        · replace h := zBr_t c65 h
                          refine lv_iconst (pc := 178) hx hb dX8_readOne_178 zc_0 ?_
                          have hz := Option.some.inj h
                          exact zr_rqZ (pc := 179) cx hr hlk hP hS hz (by decide) dX8_readOne_179
                        · replace h := zBr_f c65 h
                          refine lv_iconst (pc := 174) hx hb dX8_readOne_174 zc_1 ?_
                          refine lv_goto (pc := 175) (tgt := 179) hx hb dX8_readOne_175 (by decide) ?_
                          have hz := Option.some.inj h
                          exact zr_rqZ (pc := 179) cx hr hlk hP hS hz (by decide) dX8_readOne_179
                    · replace h := zBr_f c20 h
                      refine lv_lookup (pc := 57) (off := 160) (tgt := 217) hx hb dX8_readOne_57 rfl (by show Op.lookupswitch.offset [(3, 151), (14, 67), (15, 151), (16, 123), (17, 123), (18, 137), (40, 96)] 160 _ = _; rw [lv_osw c14 (by decide), lv_osw c15 (by decide), lv_osw c16 (by decide), lv_osw c17 (by decide), lv_osw c18 (by decide), lv_osw c19 (by decide), lv_osw c20 (by decide)]; rfl) (by decide) ?_
                      refine lv_aload_n (pc := 217) hx hb dX8_readOne_217 rfl (lv_at hl 2 rfl) ?_
                      obtain ⟨r68, S67, k66, h⟩ := zBp_e h
                      refine zr_VQ (pc := 218) (rest := []) cx cv_X8_80 (mX9_takeSign hq k66) ⟨⟨rfl, rfl⟩, by show 2 + 1 ≤ 3 + (d + 1); omega, by show 8 + (2 + 11) + 46 ≤ 69 + 25 * (d + 1); omega⟩ ⟨Nat.le_of_ble_eq_true rfl, Nat.le_of_ble_eq_true rfl⟩ hP hS nC_1 sC_1 rfl hl.1 rfl rfl (Nat.le_of_ble_eq_true rfl) dX8_readOne_218 (fun H locs hP hS => ?_)
                      refine lv_istore (lv' := [(5, .int r68), (4, .int x1), (0, .ref (q a0)), (1, .ref (q 1)), (2, .ref (q a2)), (3, .int v3)]) (pc := 221) hx hb dX8_readOne_221 hl (by decide) rfl (fun ls hl => ?_)
                      refine lv_iload (pc := 223) hx hb dX8_readOne_223 (lv_at hl 0 rfl) ?_
                      refine lv_iconst (pc := 225) hx hb dX8_readOne_225 zc_m1 ?_
                      refine lv_icmp_eq (pc := 226) (tgt := 252) hx hb dX8_readOne_226 (by decide) (fun c69 => ?_) (fun c69 => ?_)
                      · replace h := zBr_t c69 h
                        refine lv_iconst (pc := 252) hx hb dX8_readOne_252 zc_0 ?_
                        have hz := Option.some.inj h
                        exact zr_rqZ (pc := 253) cx hr hlk hP hS hz (by decide) dX8_readOne_253
                      · replace h := zBr_f c69 h
                        refine lv_aload_n (pc := 229) hx hb dX8_readOne_229 rfl (lv_at hl 2 rfl) ?_
                        refine lv_iload (pc := 230) hx hb dX8_readOne_230 (lv_at hl 1 rfl) ?_
                        refine lv_iload (pc := 232) hx hb dX8_readOne_232 (lv_at hl 0 rfl) ?_
                        refine lv_aload_n (pc := 234) hx hb dX8_readOne_234 rfl (lv_at hl 3 rfl) ?_
                        refine lv_iconst (pc := 235) hx hb dX8_readOne_235 zc_0 ?_
                        refine lv_sipush (pc := 236) hx hb dX8_readOne_236 zs_999 ?_
                        obtain ⟨r72, S71, k70, h⟩ := zBp_e h
                        refine zr_VQ (pc := 239) (rest := [.int r68, .int x1, .ref (q a0)]) cx cv_X8_84 (mX9_takeNumber hq k70) ⟨⟨rfl, rfl⟩, by show 2 + 1 ≤ 3 + (d + 1); omega, by show 8 + (4 + 11) + 46 ≤ 69 + 25 * (d + 1); omega⟩ ⟨Nat.le_of_ble_eq_true rfl, Nat.le_of_ble_eq_true rfl⟩ hP hS nC_1 sC_1 rfl hl.1 rfl rfl (Nat.le_of_ble_eq_true rfl) dX8_readOne_239 (fun H locs hP hS => ?_)
                        obtain ⟨r75, S74, k73, h⟩ := zBp_e h
                        refine zr_VQ (pc := 242) (rest := []) cx cv_X8_63 (mX8_add hq ha0 k73) ⟨⟨rfl, rfl⟩, by show 0 + 1 ≤ 3 + (d + 1); omega, by show 8 + (4 + 11) + 0 ≤ 69 + 25 * (d + 1); omega⟩ ⟨Nat.le_of_ble_eq_true rfl, Nat.le_of_ble_eq_true rfl⟩ hP hS (nX8_0 ha0) (sX8_0 ha0) rfl hl.1 rfl rfl (Nat.le_of_ble_eq_true rfl) dX8_readOne_242 (fun H locs hP hS => ?_)
                        refine lv_if_eq (pc := 245) (tgt := 252) hx hb dX8_readOne_245 (by decide) (fun c76 => ?_) (fun c76 => ?_)
                        · replace h := zBr_t c76 h
                          refine lv_iconst (pc := 252) hx hb dX8_readOne_252 zc_0 ?_
                          have hz := Option.some.inj h
                          exact zr_rqZ (pc := 253) cx hr hlk hP hS hz (by decide) dX8_readOne_253
                        · replace h := zBr_f c76 h
                          refine lv_iconst (pc := 248) hx hb dX8_readOne_248 zc_1 ?_
                          refine lv_goto (pc := 249) (tgt := 253) hx hb dX8_readOne_249 (by decide) ?_
                          have hz := Option.some.inj h
                          exact zr_rqZ (pc := 253) cx hr hlk hP hS hz (by decide) dX8_readOne_253
      · replace h := zBr_f c10 h
        exact kX8_readOne_35 hrc cx hr hlk hq ha0 ha2 h hP hS (lv_sub hl [2] rfl)
  · replace h := zBr_t c4 h
    refine lv_aload_n (pc := 14) hx hb dX8_readOne_14 rfl (lv_at hl 2 rfl) ?_
    refine lv_iconst (pc := 15) hx hb dX8_readOne_15 zc_1 ?_
    obtain ⟨r79, S78, k77, h⟩ := zBp_e h
    refine zr_VQ (pc := 16) (rest := []) cx cv_X8_53 (mX9_fail hq k77) ⟨⟨rfl, rfl⟩, by show 1 + 1 ≤ 3 + (d + 1); omega, by show 8 + (2 + 11) + 22 ≤ 69 + 25 * (d + 1); omega⟩ ⟨Nat.le_of_ble_eq_true rfl, Nat.le_of_ble_eq_true rfl⟩ hP hS nC_1 sC_1 rfl hl.1 rfl rfl (Nat.le_of_ble_eq_true rfl) dX8_readOne_16 (fun H locs hP hS => ?_)
    obtain ⟨g80, h⟩ := zGd_e h
    have hz := Option.some.inj h
    exact zr_rqZ (pc := 19) cx hr hlk hP hS hz g80 dX8_readOne_19
def gSE : Nat → Nat → zSt → Nat → Nat → Int32 → Option (Int32 × zSt)
  | 0 => fun _ _ _ _ _ => none
  | d + 1 => fun w S a0 a2 v3 => match w with
    | 0 => fX8_readCond (gSE d) S a0 a2 v3
    | 1 => fX8_readJoined (gSE d) S a0 a2 v3
    | _ => fX8_readOne (gSE d) S a0 a2 v3
theorem gSE_ok {l : Launch} {D : va_G} {cy : Nat → ClassId} {q : Nat → Nat} {A : Nat → Prop} (hq : zQ A q zNC) : ∀ d, zRCSE l D cy q A d (gSE d) := by
  intro d
  induction d with
  | zero => exact ⟨fun S a0 a2 v3 z ha0 ha2 h => (by cases h), fun S a0 a2 v3 z ha0 ha2 h => (by cases h), fun S a0 a2 v3 z ha0 ha2 h => (by cases h)⟩
  | succ d ih => exact ⟨fun S a0 a2 v3 z ha0 ha2 h => mX8_readCond ih hq ha0 ha2 h, fun S a0 a2 v3 z ha0 ha2 h => mX8_readJoined ih hq ha0 ha2 h, fun S a0 a2 v3 z ha0 ha2 h => mX8_readOne ih hq ha0 ha2 h⟩
-- X8_readFrom
abbrev rmX8_readFrom : Room := { frames := 44, cells := 0, slots := 0, locals := 1093 }
def fX8_readFrom (S : zSt) (a0 : Nat) (a2 : Nat) : Option (Int32 × zSt) :=
  zBd (fX8_clear S a0) (fun S2 => zBd (fX9_beginReading S2 (200 : Int32)) (fun S4 => zBp (gSE 40 0 S4 a0 a2 (1 : Int32)) (fun r7 S6 => zBr (r7 = 0) (some ((0 : Int32), S6)) (zBr ((S6.1 1 5) = (102 : Int32)) (some ((1 : Int32), S6)) (zBp (fX9_fail S6 (1 : Int32)) (fun r12 S11 => zBr (r12 = 0) (some ((0 : Int32), S11)) (some ((1 : Int32), S11))))))))
set_option maxHeartbeats 4000000 in
set_option maxRecDepth 100000 in
theorem mX8_readFrom {l : Launch} {D : va_G} {cy : Nat → ClassId} {q : Nat → Nat} {A : Nat → Prop} {S : zSt} {a0 : Nat} {a2 : Nat} (hq : zQ A q zNC) (ha0 : zSent a0) (ha2 : zHouse a2) {z : (Int32 × zSt)} (h : fX8_readFrom S a0 a2 = some z) : zMq l yX8_readFrom cX8_readFrom 3 (some .boolean) rmX8_readFrom [.ref (q a0), .ref (q 1), .ref (q a2)] zsh zNC D cy q A S z := by
  refine Met.ofW (cc := cX8_readFrom) (maxL := 3) (ret := (some .boolean)) (by decide) rfl ?_
  intro p e s m args below meth c s₁ B hml hv
  obtain ⟨rfl, hP, hK⟩ := hv
  have cx : zX RX8 cX8_readFrom 3 p s m ([.ref (q a0), .ref (q 1), .ref (q a2)]).toArray c D cy := ⟨B.exec, B.bytes, hml, findClass_of_methodNamed B.named, fun w hw => atoms_spec (ws := Cond.code yX8_readFrom cX8_readFrom 3 (some .boolean) :: zTB) B.pre w (List.mem_cons_of_mem _ hw), hK⟩
  have hx := cx.1
  have hb := cx.2.1
  have hr := B.returns
  have hlk := B.notSynchronized
  have hS : va_S A s.heap s.heap [] := va_S.rf
  have hl := lv_entry ([.ref (q a0), .ref (q 1), .ref (q a2)]) (n := 3) (Nat.le_of_ble_eq_true rfl)
  rw [lg_entry_eq]
  generalize (lg_sl ([.ref (q a0), .ref (q 1), .ref (q a2)]) ++ List.replicate (3 - (lg_sl ([.ref (q a0), .ref (q 1), .ref (q a2)])).length) Slot.unset).toArray = ls at hl ⊢
  have hl : lv_has ls 3 [(0, .ref (q a0)), (1, .ref (q 1)), (2, .ref (q a2))] := hl
  unfold fX8_readFrom at h
  refine lv_aload_n (pc := 0) hx hb dX8_readFrom_0 rfl (lv_at hl 0 rfl) ?_
  obtain ⟨S2, k1, h⟩ := zBd_e h
  refine zr_VV (pc := 1) (rest := []) cx cv_X8_37 (mX8_clear hq ha0 k1) ⟨⟨rfl, rfl⟩, Nat.le_of_ble_eq_true rfl, Nat.le_of_ble_eq_true rfl⟩ ⟨Nat.le_of_ble_eq_true rfl, Nat.le_of_ble_eq_true rfl⟩ hP hS (nX8_0 ha0) (sX8_0 ha0) rfl hl.1 rfl rfl (Nat.le_of_ble_eq_true rfl) dX8_readFrom_1 (fun H locs hP hS => ?_)
  refine lv_aload_n (pc := 4) hx hb dX8_readFrom_4 rfl (lv_at hl 1 rfl) ?_
  refine lv_sipush (pc := 5) hx hb dX8_readFrom_5 zs_200 ?_
  obtain ⟨S4, k3, h⟩ := zBd_e h
  refine zr_VV (pc := 8) (rest := []) cx cv_X8_40 (mX9_beginReading hq k3) ⟨⟨rfl, rfl⟩, Nat.le_of_ble_eq_true rfl, Nat.le_of_ble_eq_true rfl⟩ ⟨Nat.le_of_ble_eq_true rfl, Nat.le_of_ble_eq_true rfl⟩ hP hS nC_1 sC_1 rfl hl.1 rfl rfl (Nat.le_of_ble_eq_true rfl) dX8_readFrom_8 (fun H locs hP hS => ?_)
  refine lv_aload_n (pc := 11) hx hb dX8_readFrom_11 rfl (lv_at hl 0 rfl) ?_
  refine lv_aload_n (pc := 12) hx hb dX8_readFrom_12 rfl (lv_at hl 1 rfl) ?_
  refine lv_aload_n (pc := 13) hx hb dX8_readFrom_13 rfl (lv_at hl 2 rfl) ?_
  refine lv_iconst (pc := 14) hx hb dX8_readFrom_14 zc_1 ?_
  obtain ⟨r7, S6, k5, h⟩ := zBp_e h
  refine zr_VQ (pc := 15) (rest := []) cx cv_X8_46 ((gSE_ok hq 40).1 _ _ _ _ _ ha0 ha2 k5) ⟨⟨rfl, rfl⟩, Nat.le_of_ble_eq_true rfl, Nat.le_of_ble_eq_true rfl⟩ ⟨Nat.le_of_ble_eq_true rfl, Nat.le_of_ble_eq_true rfl⟩ hP hS (nX8_0 ha0) (sX8_0 ha0) rfl hl.1 rfl rfl (Nat.le_of_ble_eq_true rfl) dX8_readFrom_15 (fun H locs hP hS => ?_)
  refine lv_if_ne (pc := 18) (tgt := 23) hx hb dX8_readFrom_18 (by decide) (fun c8 => ?_) (fun c8 => ?_)
  · replace h := zBr_f c8 h
    refine lv_aload_n (pc := 23) hx hb dX8_readFrom_23 rfl (lv_at hl 1 rfl) ?_
    refine zr_getI (pc := 24) cx lk_X8_50 hP nC_1 sC_1 rfl dX8_readFrom_24 ?_
    refine lv_bipush (pc := 27) hx hb dX8_readFrom_27 zb_102 ?_
    refine lv_icmp_eq (pc := 29) (tgt := 40) hx hb dX8_readFrom_29 (by decide) (fun c9 => ?_) (fun c9 => ?_)
    · replace h := zBr_t c9 h
      refine lv_iconst (pc := 40) hx hb dX8_readFrom_40 zc_1 ?_
      refine lv_goto (pc := 41) (tgt := 45) hx hb dX8_readFrom_41 (by decide) ?_
      have hz := Option.some.inj h
      exact zr_rqZ (pc := 45) cx hr hlk hP hS hz (by decide) dX8_readFrom_45
    · replace h := zBr_f c9 h
      refine lv_aload_n (pc := 32) hx hb dX8_readFrom_32 rfl (lv_at hl 1 rfl) ?_
      refine lv_iconst (pc := 33) hx hb dX8_readFrom_33 zc_1 ?_
      obtain ⟨r12, S11, k10, h⟩ := zBp_e h
      refine zr_VQ (pc := 34) (rest := []) cx cv_X8_53 (mX9_fail hq k10) ⟨⟨rfl, rfl⟩, Nat.le_of_ble_eq_true rfl, Nat.le_of_ble_eq_true rfl⟩ ⟨Nat.le_of_ble_eq_true rfl, Nat.le_of_ble_eq_true rfl⟩ hP hS nC_1 sC_1 rfl hl.1 rfl rfl (Nat.le_of_ble_eq_true rfl) dX8_readFrom_34 (fun H locs hP hS => ?_)
      refine lv_if_eq (pc := 37) (tgt := 44) hx hb dX8_readFrom_37 (by decide) (fun c13 => ?_) (fun c13 => ?_)
      · replace h := zBr_t c13 h
        refine lv_iconst (pc := 44) hx hb dX8_readFrom_44 zc_0 ?_
        have hz := Option.some.inj h
        exact zr_rqZ (pc := 45) cx hr hlk hP hS hz (by decide) dX8_readFrom_45
      · replace h := zBr_f c13 h
        refine lv_iconst (pc := 40) hx hb dX8_readFrom_40 zc_1 ?_
        refine lv_goto (pc := 41) (tgt := 45) hx hb dX8_readFrom_41 (by decide) ?_
        have hz := Option.some.inj h
        exact zr_rqZ (pc := 45) cx hr hlk hP hS hz (by decide) dX8_readFrom_45
  · replace h := zBr_t c8 h
    refine lv_iconst (pc := 21) hx hb dX8_readFrom_21 zc_0 ?_
    have hz := Option.some.inj h
    exact zr_rqZ (pc := 22) cx hr hlk hP hS hz (by decide) dX8_readFrom_22
-- X11_sentence
abbrev rmX11_sentence : Room := { frames := 45, cells := 0, slots := 0, locals := 1115 }
def fX11_sentence (S : zSt) : Option (Int32 × zSt) :=
  zBp (fX8_readFrom S 250 4) (fun r3 S2 => zBd (fX11_endReading S2) (fun S5 => zBr (r3 = 0) (some (((-1 : Int32) - (S5.1 1 10)), S5)) (zBd (fX8_copyFrom S5 245 250) (fun S8 => some ((S8.1 245 5), S8)))))
set_option maxHeartbeats 4000000 in
set_option maxRecDepth 100000 in
theorem mX11_sentence {l : Launch} {D : va_G} {cy : Nat → ClassId} {q : Nat → Nat} {A : Nat → Prop} {S : zSt} (hq : zQ A q zNC) {z : (Int32 × zSt)} (h : fX11_sentence S = some z) : zMq l yX11_sentence cX11_sentence 2 (some .int) rmX11_sentence [.ref (q 0)] zsh zNC D cy q A S z := by
  refine Met.ofW (cc := cX11_sentence) (maxL := 2) (ret := (some .int)) (by decide) rfl ?_
  intro p e s m args below meth c s₁ B hml hv
  obtain ⟨rfl, hP, hK⟩ := hv
  have cx : zX RX11 cX11_sentence 2 p s m ([.ref (q 0)]).toArray c D cy := ⟨B.exec, B.bytes, hml, findClass_of_methodNamed B.named, fun w hw => atoms_spec (ws := Cond.code yX11_sentence cX11_sentence 2 (some .int) :: zTB) B.pre w (List.mem_cons_of_mem _ hw), hK⟩
  have hx := cx.1
  have hb := cx.2.1
  have hr := B.returns
  have hlk := B.notSynchronized
  have hS : va_S A s.heap s.heap [] := va_S.rf
  have hl := lv_entry ([.ref (q 0)]) (n := 2) (Nat.le_of_ble_eq_true rfl)
  rw [lg_entry_eq]
  generalize (lg_sl ([.ref (q 0)]) ++ List.replicate (2 - (lg_sl ([.ref (q 0)])).length) Slot.unset).toArray = ls at hl ⊢
  have hl : lv_has ls 2 [(0, .ref (q 0))] := hl
  unfold fX11_sentence at h
  refine lv_aload_n (pc := 0) hx hb dX11_sentence_0 rfl (lv_at hl 0 rfl) ?_
  refine zr_getR (pc := 1) (t := 250) cx lk_X11_74 hP nC_0 sC_0 rfl dX11_sentence_1 ?_
  refine lv_aload_n (pc := 4) hx hb dX11_sentence_4 rfl (lv_at hl 0 rfl) ?_
  refine zr_getR (pc := 5) (t := 1) cx lk_X11_10 hP nC_0 sC_0 rfl dX11_sentence_5 ?_
  refine lv_aload_n (pc := 8) hx hb dX11_sentence_8 rfl (lv_at hl 0 rfl) ?_
  refine zr_getR (pc := 9) (t := 4) cx lk_X11_19 hP nC_0 sC_0 rfl dX11_sentence_9 ?_
  obtain ⟨r3, S2, k1, h⟩ := zBp_e h
  refine zr_VQ (pc := 12) (rest := []) cx cv_X11_377 (mX8_readFrom hq zSent_250 zHouse_4 k1) ⟨⟨rfl, rfl⟩, Nat.le_of_ble_eq_true rfl, Nat.le_of_ble_eq_true rfl⟩ ⟨Nat.le_of_ble_eq_true rfl, Nat.le_of_ble_eq_true rfl⟩ hP hS (nX8_0 zSent_250) (sX8_0 zSent_250) rfl hl.1 rfl rfl (Nat.le_of_ble_eq_true rfl) dX11_sentence_12 (fun H locs hP hS => ?_)
  refine lv_istore_n (lv' := [(1, .int r3), (0, .ref (q 0))]) (pc := 15) hx hb dX11_sentence_15 rfl hl (by decide) rfl (fun ls hl => ?_)
  refine lv_aload_n (pc := 16) hx hb dX11_sentence_16 rfl (lv_at hl 1 rfl) ?_
  obtain ⟨S5, k4, h⟩ := zBd_e h
  refine zr_VV (pc := 17) (rest := []) cx cv_X11_125 (mX11_endReading hq k4) ⟨⟨rfl, rfl⟩, Nat.le_of_ble_eq_true rfl, Nat.le_of_ble_eq_true rfl⟩ ⟨Nat.le_of_ble_eq_true rfl, Nat.le_of_ble_eq_true rfl⟩ hP hS nC_0 sC_0 rfl hl.1 rfl rfl (Nat.le_of_ble_eq_true rfl) dX11_sentence_17 (fun H locs hP hS => ?_)
  refine lv_iload_n (pc := 20) hx hb dX11_sentence_20 rfl (lv_at hl 0 rfl) ?_
  refine lv_if_ne (pc := 21) (tgt := 34) hx hb dX11_sentence_21 (by decide) (fun c6 => ?_) (fun c6 => ?_)
  · replace h := zBr_f c6 h
    refine lv_aload_n (pc := 34) hx hb dX11_sentence_34 rfl (lv_at hl 1 rfl) ?_
    refine zr_getR (pc := 35) (t := 245) cx lk_X11_70 hP nC_0 sC_0 rfl dX11_sentence_35 ?_
    refine lv_aload_n (pc := 38) hx hb dX11_sentence_38 rfl (lv_at hl 1 rfl) ?_
    refine zr_getR (pc := 39) (t := 250) cx lk_X11_74 hP nC_0 sC_0 rfl dX11_sentence_39 ?_
    obtain ⟨S8, k7, h⟩ := zBd_e h
    refine zr_VV (pc := 42) (rest := []) cx cv_X11_381 (mX8_copyFrom hq zSent_245 zSent_250 k7) ⟨⟨rfl, rfl⟩, Nat.le_of_ble_eq_true rfl, Nat.le_of_ble_eq_true rfl⟩ ⟨Nat.le_of_ble_eq_true rfl, Nat.le_of_ble_eq_true rfl⟩ hP hS (nX8_0 zSent_245) (sX8_0 zSent_245) rfl hl.1 rfl rfl (Nat.le_of_ble_eq_true rfl) dX11_sentence_42 (fun H locs hP hS => ?_)
    refine lv_aload_n (pc := 45) hx hb dX11_sentence_45 rfl (lv_at hl 1 rfl) ?_
    refine zr_getR (pc := 46) (t := 245) cx lk_X11_70 hP nC_0 sC_0 rfl dX11_sentence_46 ?_
    refine zr_getI (pc := 49) cx lk_X11_384 hP (nX8_0 zSent_245) (sX8_0 zSent_245) rfl dX11_sentence_49 ?_
    have hz := Option.some.inj h
    exact zr_rqI (pc := 52) cx hr hlk hP hS hz dX11_sentence_52
  · replace h := zBr_t c6 h
    refine lv_iconst (pc := 24) hx hb dX11_sentence_24 zc_m1 ?_
    refine lv_aload_n (pc := 25) hx hb dX11_sentence_25 rfl (lv_at hl 1 rfl) ?_
    refine zr_getR (pc := 26) (t := 1) cx lk_X11_10 hP nC_0 sC_0 rfl dX11_sentence_26 ?_
    refine zr_getI (pc := 29) cx lk_X11_128 hP nC_1 sC_1 rfl dX11_sentence_29 ?_
    refine lv_isub (pc := 32) hx hb dX11_sentence_32 ?_
    have hz := Option.some.inj h
    exact zr_rqI (pc := 33) cx hr hlk hP hS hz dX11_sentence_33
abbrev rmGWW (d : Nat) : Room := { frames := 1 + d, cells := 0, slots := 0, locals := 21 + 22 * d }
def zRCWW (l : Launch) (D : va_G) (cy : Nat → ClassId) (q : Nat → Nat) (A : Nat → Prop) (d : Nat) (rc : Nat → zSt → Int64 → Option zSt) : Prop := (∀ (S : zSt) (v1 : Int64) (z : zSt), rc 0 S v1 = some z → zMv l yX12_writeWord cX12_writeWord 3 none (rmGWW d) [.ref (q 0), .long v1] zshM zNM D cy q A S z)
-- X12_writeWord
def fX12_writeWord_17 (rc : Nat → zSt → Int64 → Option zSt) (S : zSt)  (v1 : Int64) : Option zSt :=
  zGd (decide (¬ (27 : Int64) = 0)) (zBd (fX12_write S ((96 : Int32) + (((v1 - v1 / (27 : Int64) * (27 : Int64))).toInt32))) (fun S4 => some S4))
set_option maxHeartbeats 4000000 in
set_option maxRecDepth 100000 in
theorem kX12_writeWord_17 {p : Program} {l : Launch} {e : Env} {s : State} {m : MethodId} {args : Array Value} {below : List Frame} {meth : Method} {c : Code} {D : va_G} {cy : Nat → ClassId} {q : Nat → Nat} {A : Nat → Prop} {d : Nat} {rc : Nat → zSt → Int64 → Option zSt} (hrc : zRCWW l D cy q A d rc) (cx : zX RX12 cX12_writeWord 3 p s m args c D cy) (hr : meth.sig.returnType = none) (hlk : meth.locks = false) (hq : zQ A q zNM) {z : zSt} {S : zSt} {v1 : Int64} (h : fX12_writeWord_17 rc S v1 = some z) {H : Heap} {locs : List Loc} (hP : va_P D vwCl (zW zshM zNM cy q S) H) (hS : va_S A s.heap H locs) {ls : Array Slot} (hl : lv_has ls 3 [(0, .ref (q 0)), (1, .long v1)]) : W p l e (rmGWW (d + 1)) s m args below meth c H locs 0 0 (MQ below (va_Qv (fun (u : zSt) => u = z) (fun u t => va_P D vwCl (zW zshM zNM cy q u) t.heap) A) args s 0 0 A) (F0 m 17 ls []) := by
  have hx := cx.1
  have hb := cx.2.1
  unfold fX12_writeWord_17 at h
  refine lv_aload_n (pc := 17) hx hb dX12_writeWord_17 rfl (lv_at hl 0 rfl) ?_
  refine lv_bipush (pc := 18) hx hb dX12_writeWord_18 zb_96 ?_
  refine lv_lload_n (pc := 20) hx hb dX12_writeWord_20 rfl (lv_at hl 1 rfl) ?_
  refine lv_ldc2 (pc := 21) hx hb cx.2.2.2.1 (cx.2.2.2.2.1 _ wd_1647) dX12_writeWord_21 ?_
  obtain ⟨g2, h⟩ := zGd_e h
  refine lv_lrem (pc := 24) hx hb dX12_writeWord_24 (by simpa using g2) ?_
  refine lv_l2i (v := (((v1 - v1 / (27 : Int64) * (27 : Int64))).toInt32)) (pc := 25) hx hb dX12_writeWord_25 rfl ?_
  refine lv_iadd (pc := 26) hx hb dX12_writeWord_26 ?_
  obtain ⟨S4, k3, h⟩ := zBd_e h
  refine zr_VV (pc := 27) (rest := []) cx cv_X12_341 (mX12_write hq k3) ⟨⟨rfl, rfl⟩, by show 0 + 1 ≤ 1 + (d + 1); omega, by show 8 + (2 + 11) + 0 ≤ 21 + 22 * (d + 1); omega⟩ ⟨Nat.le_of_ble_eq_true rfl, Nat.le_of_ble_eq_true rfl⟩ hP hS nM_0 sM_0 rfl hl.1 rfl rfl (Nat.le_of_ble_eq_true rfl) dX12_writeWord_27 (fun H locs hP hS => ?_)
  have hz := Option.some.inj h
  exact zr_rqV (pc := 30) cx hr hlk hP hS hz dX12_writeWord_30
def fX12_writeWord (rc : Nat → zSt → Int64 → Option zSt) (S : zSt) (v1 : Int64) : Option zSt :=
  zBr ((lg_cmp v1 (27 : Int64)) < 0) (fX12_writeWord_17 rc S v1) (zGd (decide (¬ (27 : Int64) = 0)) (zBd (rc 0 S (v1 / (27 : Int64))) (fun S7 => fX12_writeWord_17 rc S7 v1)))
set_option maxHeartbeats 4000000 in
set_option maxRecDepth 100000 in
theorem mX12_writeWord {l : Launch} {D : va_G} {cy : Nat → ClassId} {q : Nat → Nat} {A : Nat → Prop} {S : zSt} {v1 : Int64} {d : Nat} {rc : Nat → zSt → Int64 → Option zSt} (hrc : zRCWW l D cy q A d rc) (hq : zQ A q zNM) {z : zSt} (h : fX12_writeWord rc S v1 = some z) : zMv l yX12_writeWord cX12_writeWord 3 none (rmGWW (d + 1)) [.ref (q 0), .long v1] zshM zNM D cy q A S z := by
  refine Met.ofW (cc := cX12_writeWord) (maxL := 3) (ret := none) (by decide) rfl ?_
  intro p e s m args below meth c s₁ B hml hv
  obtain ⟨rfl, hP, hK⟩ := hv
  have cx : zX RX12 cX12_writeWord 3 p s m ([.ref (q 0), .long v1]).toArray c D cy := ⟨B.exec, B.bytes, hml, findClass_of_methodNamed B.named, fun w hw => atoms_spec (ws := Cond.code yX12_writeWord cX12_writeWord 3 none :: zTB) B.pre w (List.mem_cons_of_mem _ hw), hK⟩
  have hx := cx.1
  have hb := cx.2.1
  have hr := B.returns
  have hlk := B.notSynchronized
  have hS : va_S A s.heap s.heap [] := va_S.rf
  have hl := lv_entry ([.ref (q 0), .long v1]) (n := 3) (Nat.le_of_ble_eq_true rfl)
  rw [lg_entry_eq]
  generalize (lg_sl ([.ref (q 0), .long v1]) ++ List.replicate (3 - (lg_sl ([.ref (q 0), .long v1])).length) Slot.unset).toArray = ls at hl ⊢
  have hl : lv_has ls 3 [(0, .ref (q 0)), (1, .long v1)] := hl
  unfold fX12_writeWord at h
  refine lv_lload_n (pc := 0) hx hb dX12_writeWord_0 rfl (lv_at hl 1 rfl) ?_
  refine lv_ldc2 (pc := 1) hx hb cx.2.2.2.1 (cx.2.2.2.2.1 _ wd_1647) dX12_writeWord_1 ?_
  refine W.lcmp (pc := 4) hx hb dX12_writeWord_4 ?_
  refine lv_if_lt (pc := 5) (tgt := 17) hx hb dX12_writeWord_5 (by decide) (fun c1 => ?_) (fun c1 => ?_)
  · replace h := zBr_t c1 h
    exact kX12_writeWord_17 hrc cx hr hlk hq h hP hS (lv_sub hl [0, 1] rfl)
  · replace h := zBr_f c1 h
    refine lv_aload_n (pc := 8) hx hb dX12_writeWord_8 rfl (lv_at hl 0 rfl) ?_
    refine lv_lload_n (pc := 9) hx hb dX12_writeWord_9 rfl (lv_at hl 1 rfl) ?_
    refine lv_ldc2 (pc := 10) hx hb cx.2.2.2.1 (cx.2.2.2.2.1 _ wd_1647) dX12_writeWord_10 ?_
    obtain ⟨g5, h⟩ := zGd_e h
    refine lv_ldiv (pc := 13) hx hb dX12_writeWord_13 (by simpa using g5) ?_
    obtain ⟨S7, k6, h⟩ := zBd_e h
    refine zr_VV (pc := 14) (rest := []) cx cv_X12_337 (hrc _ _ _ k6) ⟨⟨rfl, rfl⟩, by show (1 + d) + 1 ≤ 1 + (d + 1); omega, by show 8 + (3 + 11) + (21 + 22 * d) ≤ 21 + 22 * (d + 1); omega⟩ ⟨Nat.le_of_ble_eq_true rfl, Nat.le_of_ble_eq_true rfl⟩ hP hS nM_0 sM_0 rfl hl.1 rfl rfl (Nat.le_of_ble_eq_true rfl) dX12_writeWord_14 (fun H locs hP hS => ?_)
    exact kX12_writeWord_17 hrc cx hr hlk hq h hP hS (lv_sub hl [0, 1] rfl)
def gWW : Nat → Nat → zSt → Int64 → Option zSt
  | 0 => fun _ _ _ => none
  | d + 1 => fun w S v1 => match w with
    | _ => fX12_writeWord (gWW d) S v1
theorem gWW_ok {l : Launch} {D : va_G} {cy : Nat → ClassId} {q : Nat → Nat} {A : Nat → Prop} (hq : zQ A q zNM) : ∀ d, zRCWW l D cy q A d (gWW d) := by
  intro d
  induction d with
  | zero => exact fun S v1 z h => (by cases h)
  | succ d ih => exact fun S v1 z h => mX12_writeWord ih hq h
-- X12_writeNext
abbrev rmX12_writeNext : Room := { frames := 18, cells := 0, slots := 0, locals := 395 }
def fX12_writeNext (S : zSt) (v1 : Int64) : Option zSt :=
  zBd (fX12_write S (32 : Int32)) (fun S2 => zBd (gWW 16 0 S2 v1) (fun S4 => some S4))
set_option maxHeartbeats 4000000 in
set_option maxRecDepth 100000 in
theorem mX12_writeNext {l : Launch} {D : va_G} {cy : Nat → ClassId} {q : Nat → Nat} {A : Nat → Prop} {S : zSt} {v1 : Int64} (hq : zQ A q zNM) {z : zSt} (h : fX12_writeNext S v1 = some z) : zMv l yX12_writeNext cX12_writeNext 3 none rmX12_writeNext [.ref (q 0), .long v1] zshM zNM D cy q A S z := by
  refine Met.ofW (cc := cX12_writeNext) (maxL := 3) (ret := none) (by decide) rfl ?_
  intro p e s m args below meth c s₁ B hml hv
  obtain ⟨rfl, hP, hK⟩ := hv
  have cx : zX RX12 cX12_writeNext 3 p s m ([.ref (q 0), .long v1]).toArray c D cy := ⟨B.exec, B.bytes, hml, findClass_of_methodNamed B.named, fun w hw => atoms_spec (ws := Cond.code yX12_writeNext cX12_writeNext 3 none :: zTB) B.pre w (List.mem_cons_of_mem _ hw), hK⟩
  have hx := cx.1
  have hb := cx.2.1
  have hr := B.returns
  have hlk := B.notSynchronized
  have hS : va_S A s.heap s.heap [] := va_S.rf
  have hl := lv_entry ([.ref (q 0), .long v1]) (n := 3) (Nat.le_of_ble_eq_true rfl)
  rw [lg_entry_eq]
  generalize (lg_sl ([.ref (q 0), .long v1]) ++ List.replicate (3 - (lg_sl ([.ref (q 0), .long v1])).length) Slot.unset).toArray = ls at hl ⊢
  have hl : lv_has ls 3 [(0, .ref (q 0)), (1, .long v1)] := hl
  unfold fX12_writeNext at h
  refine lv_aload_n (pc := 0) hx hb dX12_writeNext_0 rfl (lv_at hl 0 rfl) ?_
  refine lv_bipush (pc := 1) hx hb dX12_writeNext_1 zb_32 ?_
  obtain ⟨S2, k1, h⟩ := zBd_e h
  refine zr_VV (pc := 3) (rest := []) cx cv_X12_341 (mX12_write hq k1) ⟨⟨rfl, rfl⟩, Nat.le_of_ble_eq_true rfl, Nat.le_of_ble_eq_true rfl⟩ ⟨Nat.le_of_ble_eq_true rfl, Nat.le_of_ble_eq_true rfl⟩ hP hS nM_0 sM_0 rfl hl.1 rfl rfl (Nat.le_of_ble_eq_true rfl) dX12_writeNext_3 (fun H locs hP hS => ?_)
  refine lv_aload_n (pc := 6) hx hb dX12_writeNext_6 rfl (lv_at hl 0 rfl) ?_
  refine lv_lload_n (pc := 7) hx hb dX12_writeNext_7 rfl (lv_at hl 1 rfl) ?_
  obtain ⟨S4, k3, h⟩ := zBd_e h
  refine zr_VV (pc := 8) (rest := []) cx cv_X12_337 ((gWW_ok hq 16) _ _ _ k3) ⟨⟨rfl, rfl⟩, Nat.le_of_ble_eq_true rfl, Nat.le_of_ble_eq_true rfl⟩ ⟨Nat.le_of_ble_eq_true rfl, Nat.le_of_ble_eq_true rfl⟩ hP hS nM_0 sM_0 rfl hl.1 rfl rfl (Nat.le_of_ble_eq_true rfl) dX12_writeNext_8 (fun H locs hP hS => ?_)
  have hz := Option.some.inj h
  exact zr_rqV (pc := 11) cx hr hlk hP hS hz dX12_writeNext_11
abbrev rmGWN (d : Nat) : Room := { frames := 1 + d, cells := 0, slots := 0, locals := 21 + 21 * d }
def zRCWN (l : Launch) (D : va_G) (cy : Nat → ClassId) (q : Nat → Nat) (A : Nat → Prop) (d : Nat) (rc : Nat → zSt → Int32 → Option zSt) : Prop := (∀ (S : zSt) (v1 : Int32) (z : zSt), rc 0 S v1 = some z → zMv l yX12_writeNumber cX12_writeNumber 2 none (rmGWN d) [.ref (q 0), .int v1] zshM zNM D cy q A S z)
-- X12_writeNumber
def fX12_writeNumber_14 (rc : Nat → zSt → Int32 → Option zSt) (S : zSt)  (v1 : Int32) : Option zSt :=
  zGd (decide (¬ (10 : Int32) = 0)) (zBd (fX12_write S ((48 : Int32) + (v1 - v1 / (10 : Int32) * (10 : Int32)))) (fun S4 => some S4))
set_option maxHeartbeats 4000000 in
set_option maxRecDepth 100000 in
theorem kX12_writeNumber_14 {p : Program} {l : Launch} {e : Env} {s : State} {m : MethodId} {args : Array Value} {below : List Frame} {meth : Method} {c : Code} {D : va_G} {cy : Nat → ClassId} {q : Nat → Nat} {A : Nat → Prop} {d : Nat} {rc : Nat → zSt → Int32 → Option zSt} (hrc : zRCWN l D cy q A d rc) (cx : zX RX12 cX12_writeNumber 2 p s m args c D cy) (hr : meth.sig.returnType = none) (hlk : meth.locks = false) (hq : zQ A q zNM) {z : zSt} {S : zSt} {v1 : Int32} (h : fX12_writeNumber_14 rc S v1 = some z) {H : Heap} {locs : List Loc} (hP : va_P D vwCl (zW zshM zNM cy q S) H) (hS : va_S A s.heap H locs) {ls : Array Slot} (hl : lv_has ls 2 [(0, .ref (q 0)), (1, .int v1)]) : W p l e (rmGWN (d + 1)) s m args below meth c H locs 0 0 (MQ below (va_Qv (fun (u : zSt) => u = z) (fun u t => va_P D vwCl (zW zshM zNM cy q u) t.heap) A) args s 0 0 A) (F0 m 14 ls []) := by
  have hx := cx.1
  have hb := cx.2.1
  unfold fX12_writeNumber_14 at h
  refine lv_aload_n (pc := 14) hx hb dX12_writeNumber_14 rfl (lv_at hl 0 rfl) ?_
  refine lv_bipush (pc := 15) hx hb dX12_writeNumber_15 zb_48 ?_
  refine lv_iload_n (pc := 17) hx hb dX12_writeNumber_17 rfl (lv_at hl 1 rfl) ?_
  refine lv_bipush (pc := 18) hx hb dX12_writeNumber_18 zb_10 ?_
  obtain ⟨g2, h⟩ := zGd_e h
  refine lv_irem (pc := 20) hx hb dX12_writeNumber_20 (by simpa using g2) ?_
  refine lv_iadd (pc := 21) hx hb dX12_writeNumber_21 ?_
  obtain ⟨S4, k3, h⟩ := zBd_e h
  refine zr_VV (pc := 22) (rest := []) cx cv_X12_341 (mX12_write hq k3) ⟨⟨rfl, rfl⟩, by show 0 + 1 ≤ 1 + (d + 1); omega, by show 8 + (2 + 11) + 0 ≤ 21 + 21 * (d + 1); omega⟩ ⟨Nat.le_of_ble_eq_true rfl, Nat.le_of_ble_eq_true rfl⟩ hP hS nM_0 sM_0 rfl hl.1 rfl rfl (Nat.le_of_ble_eq_true rfl) dX12_writeNumber_22 (fun H locs hP hS => ?_)
  have hz := Option.some.inj h
  exact zr_rqV (pc := 25) cx hr hlk hP hS hz dX12_writeNumber_25
def fX12_writeNumber (rc : Nat → zSt → Int32 → Option zSt) (S : zSt) (v1 : Int32) : Option zSt :=
  zBr (v1 ≤ (9 : Int32)) (fX12_writeNumber_14 rc S v1) (zGd (decide (¬ (10 : Int32) = 0)) (zBd (rc 0 S (v1 / (10 : Int32))) (fun S7 => fX12_writeNumber_14 rc S7 v1)))
set_option maxHeartbeats 4000000 in
set_option maxRecDepth 100000 in
theorem mX12_writeNumber {l : Launch} {D : va_G} {cy : Nat → ClassId} {q : Nat → Nat} {A : Nat → Prop} {S : zSt} {v1 : Int32} {d : Nat} {rc : Nat → zSt → Int32 → Option zSt} (hrc : zRCWN l D cy q A d rc) (hq : zQ A q zNM) {z : zSt} (h : fX12_writeNumber rc S v1 = some z) : zMv l yX12_writeNumber cX12_writeNumber 2 none (rmGWN (d + 1)) [.ref (q 0), .int v1] zshM zNM D cy q A S z := by
  refine Met.ofW (cc := cX12_writeNumber) (maxL := 2) (ret := none) (by decide) rfl ?_
  intro p e s m args below meth c s₁ B hml hv
  obtain ⟨rfl, hP, hK⟩ := hv
  have cx : zX RX12 cX12_writeNumber 2 p s m ([.ref (q 0), .int v1]).toArray c D cy := ⟨B.exec, B.bytes, hml, findClass_of_methodNamed B.named, fun w hw => atoms_spec (ws := Cond.code yX12_writeNumber cX12_writeNumber 2 none :: zTB) B.pre w (List.mem_cons_of_mem _ hw), hK⟩
  have hx := cx.1
  have hb := cx.2.1
  have hr := B.returns
  have hlk := B.notSynchronized
  have hS : va_S A s.heap s.heap [] := va_S.rf
  have hl := lv_entry ([.ref (q 0), .int v1]) (n := 2) (Nat.le_of_ble_eq_true rfl)
  rw [lg_entry_eq]
  generalize (lg_sl ([.ref (q 0), .int v1]) ++ List.replicate (2 - (lg_sl ([.ref (q 0), .int v1])).length) Slot.unset).toArray = ls at hl ⊢
  have hl : lv_has ls 2 [(0, .ref (q 0)), (1, .int v1)] := hl
  unfold fX12_writeNumber at h
  refine lv_iload_n (pc := 0) hx hb dX12_writeNumber_0 rfl (lv_at hl 1 rfl) ?_
  refine lv_bipush (pc := 1) hx hb dX12_writeNumber_1 zb_9 ?_
  refine lv_icmp_le (pc := 3) (tgt := 14) hx hb dX12_writeNumber_3 (by decide) (fun c1 => ?_) (fun c1 => ?_)
  · replace h := zBr_t c1 h
    exact kX12_writeNumber_14 hrc cx hr hlk hq h hP hS (lv_sub hl [0, 1] rfl)
  · replace h := zBr_f c1 h
    refine lv_aload_n (pc := 6) hx hb dX12_writeNumber_6 rfl (lv_at hl 0 rfl) ?_
    refine lv_iload_n (pc := 7) hx hb dX12_writeNumber_7 rfl (lv_at hl 1 rfl) ?_
    refine lv_bipush (pc := 8) hx hb dX12_writeNumber_8 zb_10 ?_
    obtain ⟨g5, h⟩ := zGd_e h
    refine lv_idiv (pc := 10) hx hb dX12_writeNumber_10 (by simpa using g5) ?_
    obtain ⟨S7, k6, h⟩ := zBd_e h
    refine zr_VV (pc := 11) (rest := []) cx cv_X12_344 (hrc _ _ _ k6) ⟨⟨rfl, rfl⟩, by show (1 + d) + 1 ≤ 1 + (d + 1); omega, by show 8 + (2 + 11) + (21 + 21 * d) ≤ 21 + 21 * (d + 1); omega⟩ ⟨Nat.le_of_ble_eq_true rfl, Nat.le_of_ble_eq_true rfl⟩ hP hS nM_0 sM_0 rfl hl.1 rfl rfl (Nat.le_of_ble_eq_true rfl) dX12_writeNumber_11 (fun H locs hP hS => ?_)
    exact kX12_writeNumber_14 hrc cx hr hlk hq h hP hS (lv_sub hl [0, 1] rfl)
def gWN : Nat → Nat → zSt → Int32 → Option zSt
  | 0 => fun _ _ _ => none
  | d + 1 => fun w S v1 => match w with
    | _ => fX12_writeNumber (gWN d) S v1
theorem gWN_ok {l : Launch} {D : va_G} {cy : Nat → ClassId} {q : Nat → Nat} {A : Nat → Prop} (hq : zQ A q zNM) : ∀ d, zRCWN l D cy q A d (gWN d) := by
  intro d
  induction d with
  | zero => exact fun S v1 z h => (by cases h)
  | succ d ih => exact fun S v1 z h => mX12_writeNumber ih hq h
-- X12_card
abbrev rmX12_card : Room := { frames := 19, cells := 0, slots := 0, locals := 417 }
def fX12_card (S : zSt) (v1 : Int32) : Option (Int32 × zSt) :=
  zLt (zI S 0 0 (0 : Int32)) (fun S1 => zBd (fX12_isPlant S1 v1) (fun r3 => zBr (r3 = 0) (some ((-1 : Int32), S1)) (zLt (zI S1 0 34 (0 : Int32)) (fun S5 => zGd (zIx ((5 : Int32) + v1) 20) (zBd (gWW 16 0 S5 (S5.2 7 ((5 : Int32) + v1).toNatClampNeg)) (fun S8 => zBd (fX12_isFern S8 v1) (fun r10 => zBr (r10 = 0) (zBd (fX12_spelt (104 : Int32) (97 : Int32) (115 : Int32) (0 : Int32) (0 : Int32) (0 : Int32) (0 : Int32)) (fun r13 => zBd (fX12_writeNext S8 r13) (fun S15 => zBd (fX12_write S15 (32 : Int32)) (fun S17 => zBd (fX12_shownBy S17 v1 (1 : Int32)) (fun r19 => zBd (fX12_bits r19) (fun r21 => zBd (gWN 16 0 S17 r21) (fun S23 => zBd (fX12_seesOf S23 v1 (0 : Int32)) (fun r25 => zBr (r25 = 0) (zBd (fX12_wordOf (14 : Int32)) (fun r28 => zBd (fX12_writeNext S23 r28) (fun S30 => some ((S30.1 0 34), S30)))) (some ((S23.1 0 34), S23)))))))))) (zBd (fX12_spelt (105 : Int32) (115 : Int32) (0 : Int32) (0 : Int32) (0 : Int32) (0 : Int32) (0 : Int32)) (fun r32 => zBd (fX12_writeNext S8 r32) (fun S34 => zBd (fX12_spelt (97 : Int32) (0 : Int32) (0 : Int32) (0 : Int32) (0 : Int32) (0 : Int32) (0 : Int32)) (fun r36 => zBd (fX12_writeNext S34 r36) (fun S38 => zBd (fX12_wordOf (15 : Int32)) (fun r40 => zBd (fX12_writeNext S38 r40) (fun S42 => some ((S42.1 0 34), S42)))))))))))))))
set_option maxHeartbeats 4000000 in
set_option maxRecDepth 100000 in
theorem mX12_card {l : Launch} {D : va_G} {cy : Nat → ClassId} {q : Nat → Nat} {A : Nat → Prop} {S : zSt} {v1 : Int32} (hq : zQ A q zNM) {z : (Int32 × zSt)} (h : fX12_card S v1 = some z) : zMq l yX12_card cX12_card 2 (some .int) rmX12_card [.ref (q 0), .int v1] zshM zNM D cy q A S z := by
  refine Met.ofW (cc := cX12_card) (maxL := 2) (ret := (some .int)) (by decide) rfl ?_
  intro p e s m args below meth c s₁ B hml hv
  obtain ⟨rfl, hP, hK⟩ := hv
  have cx : zX RX12 cX12_card 2 p s m ([.ref (q 0), .int v1]).toArray c D cy := ⟨B.exec, B.bytes, hml, findClass_of_methodNamed B.named, fun w hw => atoms_spec (ws := Cond.code yX12_card cX12_card 2 (some .int) :: zTB) B.pre w (List.mem_cons_of_mem _ hw), hK⟩
  have hx := cx.1
  have hb := cx.2.1
  have hr := B.returns
  have hlk := B.notSynchronized
  have hS : va_S A s.heap s.heap [] := va_S.rf
  have hl := lv_entry ([.ref (q 0), .int v1]) (n := 2) (Nat.le_of_ble_eq_true rfl)
  rw [lg_entry_eq]
  generalize (lg_sl ([.ref (q 0), .int v1]) ++ List.replicate (2 - (lg_sl ([.ref (q 0), .int v1])).length) Slot.unset).toArray = ls at hl ⊢
  have hl : lv_has ls 2 [(0, .ref (q 0)), (1, .int v1)] := hl
  unfold fX12_card at h
  refine lv_aload_n (pc := 0) hx hb dX12_card_0 rfl (lv_at hl 0 rfl) ?_
  refine lv_iconst (pc := 1) hx hb dX12_card_1 zc_0 ?_
  obtain ⟨S1, eS1, h⟩ := zLt_e h
  refine zr_putI (pc := 2) cx lq_X12_1 hq hP hS nM_0 sM_0 rfl rfl rfl dX12_card_2 (fun H locs hP hS => ?_)
  rw [← eS1] at hP
  refine lv_aload_n (pc := 5) hx hb dX12_card_5 rfl (lv_at hl 0 rfl) ?_
  refine lv_iload_n (pc := 6) hx hb dX12_card_6 rfl (lv_at hl 1 rfl) ?_
  obtain ⟨r3, k2, h⟩ := zBd_e h
  refine zr_VI (pc := 7) (rest := []) cx cv_X12_244 (mX12_isPlant k2) ⟨⟨rfl, rfl⟩, Nat.le_of_ble_eq_true rfl, Nat.le_of_ble_eq_true rfl⟩ ⟨Nat.le_of_ble_eq_true rfl, Nat.le_of_ble_eq_true rfl⟩ hP nM_0 sM_0 rfl hl.1 rfl rfl (Nat.le_of_ble_eq_true rfl) dX12_card_7 ?_
  refine lv_if_ne (pc := 10) (tgt := 15) hx hb dX12_card_10 (by decide) (fun c4 => ?_) (fun c4 => ?_)
  · replace h := zBr_f c4 h
    refine lv_aload_n (pc := 15) hx hb dX12_card_15 rfl (lv_at hl 0 rfl) ?_
    refine lv_iconst (pc := 16) hx hb dX12_card_16 zc_0 ?_
    obtain ⟨S5, eS5, h⟩ := zLt_e h
    refine zr_putI (pc := 17) cx lq_X12_334 hq hP hS nM_0 sM_0 rfl rfl rfl dX12_card_17 (fun H locs hP hS => ?_)
    rw [← eS5] at hP
    refine lv_aload_n (pc := 20) hx hb dX12_card_20 rfl (lv_at hl 0 rfl) ?_
    refine lv_aload_n (pc := 21) hx hb dX12_card_21 rfl (lv_at hl 0 rfl) ?_
    refine zr_getR (pc := 22) (t := 7) cx lk_X12_113 hP nM_0 sM_0 rfl dX12_card_22 ?_
    refine lv_iconst (pc := 25) hx hb dX12_card_25 zc_5 ?_
    refine lv_iload_n (pc := 26) hx hb dX12_card_26 rfl (lv_at hl 1 rfl) ?_
    refine lv_iadd (pc := 27) hx hb dX12_card_27 ?_
    obtain ⟨g6, h⟩ := zGd_e h
    refine zr_lald (pc := 28) cx hP nM_7 sM_7 g6 dX12_card_28 ?_
    obtain ⟨S8, k7, h⟩ := zBd_e h
    refine zr_VV (pc := 29) (rest := []) cx cv_X12_337 ((gWW_ok hq 16) _ _ _ k7) ⟨⟨rfl, rfl⟩, Nat.le_of_ble_eq_true rfl, Nat.le_of_ble_eq_true rfl⟩ ⟨Nat.le_of_ble_eq_true rfl, Nat.le_of_ble_eq_true rfl⟩ hP hS nM_0 sM_0 rfl hl.1 rfl rfl (Nat.le_of_ble_eq_true rfl) dX12_card_29 (fun H locs hP hS => ?_)
    refine lv_aload_n (pc := 32) hx hb dX12_card_32 rfl (lv_at hl 0 rfl) ?_
    refine lv_iload_n (pc := 33) hx hb dX12_card_33 rfl (lv_at hl 1 rfl) ?_
    obtain ⟨r10, k9, h⟩ := zBd_e h
    refine zr_VI (pc := 34) (rest := []) cx cv_X12_218 (mX12_isFern k9) ⟨⟨rfl, rfl⟩, Nat.le_of_ble_eq_true rfl, Nat.le_of_ble_eq_true rfl⟩ ⟨Nat.le_of_ble_eq_true rfl, Nat.le_of_ble_eq_true rfl⟩ hP nM_0 sM_0 rfl hl.1 rfl rfl (Nat.le_of_ble_eq_true rfl) dX12_card_34 ?_
    refine lv_if_eq (pc := 37) (tgt := 85) hx hb dX12_card_37 (by decide) (fun c11 => ?_) (fun c11 => ?_)
    · replace h := zBr_t c11 h
      refine lv_aload_n (pc := 85) hx hb dX12_card_85 rfl (lv_at hl 0 rfl) ?_
      refine lv_bipush (pc := 86) hx hb dX12_card_86 zb_104 ?_
      refine lv_bipush (pc := 88) hx hb dX12_card_88 zb_97 ?_
      refine lv_bipush (pc := 90) hx hb dX12_card_90 zb_115 ?_
      refine lv_iconst (pc := 92) hx hb dX12_card_92 zc_0 ?_
      refine lv_iconst (pc := 93) hx hb dX12_card_93 zc_0 ?_
      refine lv_iconst (pc := 94) hx hb dX12_card_94 zc_0 ?_
      refine lv_iconst (pc := 95) hx hb dX12_card_95 zc_0 ?_
      obtain ⟨r13, k12, h⟩ := zBd_e h
      refine zr_SJ (pc := 96) (rest := [.ref (q 0)]) cx cv_X12_58 (mX12_spelt k12) ⟨⟨rfl, rfl⟩, Nat.le_of_ble_eq_true rfl, Nat.le_of_ble_eq_true rfl⟩ ⟨Nat.le_of_ble_eq_true rfl, Nat.le_of_ble_eq_true rfl⟩ (zr_preK cx) hl.1 rfl rfl (Nat.le_of_ble_eq_true rfl) dX12_card_96 ?_
      obtain ⟨S15, k14, h⟩ := zBd_e h
      refine zr_VV (pc := 99) (rest := []) cx cv_X12_347 (mX12_writeNext hq k14) ⟨⟨rfl, rfl⟩, Nat.le_of_ble_eq_true rfl, Nat.le_of_ble_eq_true rfl⟩ ⟨Nat.le_of_ble_eq_true rfl, Nat.le_of_ble_eq_true rfl⟩ hP hS nM_0 sM_0 rfl hl.1 rfl rfl (Nat.le_of_ble_eq_true rfl) dX12_card_99 (fun H locs hP hS => ?_)
      refine lv_aload_n (pc := 102) hx hb dX12_card_102 rfl (lv_at hl 0 rfl) ?_
      refine lv_bipush (pc := 103) hx hb dX12_card_103 zb_32 ?_
      obtain ⟨S17, k16, h⟩ := zBd_e h
      refine zr_VV (pc := 105) (rest := []) cx cv_X12_341 (mX12_write hq k16) ⟨⟨rfl, rfl⟩, Nat.le_of_ble_eq_true rfl, Nat.le_of_ble_eq_true rfl⟩ ⟨Nat.le_of_ble_eq_true rfl, Nat.le_of_ble_eq_true rfl⟩ hP hS nM_0 sM_0 rfl hl.1 rfl rfl (Nat.le_of_ble_eq_true rfl) dX12_card_105 (fun H locs hP hS => ?_)
      refine lv_aload_n (pc := 108) hx hb dX12_card_108 rfl (lv_at hl 0 rfl) ?_
      refine lv_aload_n (pc := 109) hx hb dX12_card_109 rfl (lv_at hl 0 rfl) ?_
      refine lv_iload_n (pc := 110) hx hb dX12_card_110 rfl (lv_at hl 1 rfl) ?_
      refine lv_iconst (pc := 111) hx hb dX12_card_111 zc_1 ?_
      obtain ⟨r19, k18, h⟩ := zBd_e h
      refine zr_VI (pc := 112) (rest := [.ref (q 0)]) cx cv_X12_253 (mX12_shownBy k18) ⟨⟨rfl, rfl⟩, Nat.le_of_ble_eq_true rfl, Nat.le_of_ble_eq_true rfl⟩ ⟨Nat.le_of_ble_eq_true rfl, Nat.le_of_ble_eq_true rfl⟩ hP nM_0 sM_0 rfl hl.1 rfl rfl (Nat.le_of_ble_eq_true rfl) dX12_card_112 ?_
      obtain ⟨r21, k20, h⟩ := zBd_e h
      refine zr_SI (pc := 115) (rest := [.ref (q 0)]) cx cv_X12_238 (mX12_bits k20) ⟨⟨rfl, rfl⟩, Nat.le_of_ble_eq_true rfl, Nat.le_of_ble_eq_true rfl⟩ ⟨Nat.le_of_ble_eq_true rfl, Nat.le_of_ble_eq_true rfl⟩ (zr_preK cx) hl.1 rfl rfl (Nat.le_of_ble_eq_true rfl) dX12_card_115 ?_
      obtain ⟨S23, k22, h⟩ := zBd_e h
      refine zr_VV (pc := 118) (rest := []) cx cv_X12_344 ((gWN_ok hq 16) _ _ _ k22) ⟨⟨rfl, rfl⟩, Nat.le_of_ble_eq_true rfl, Nat.le_of_ble_eq_true rfl⟩ ⟨Nat.le_of_ble_eq_true rfl, Nat.le_of_ble_eq_true rfl⟩ hP hS nM_0 sM_0 rfl hl.1 rfl rfl (Nat.le_of_ble_eq_true rfl) dX12_card_118 (fun H locs hP hS => ?_)
      refine lv_aload_n (pc := 121) hx hb dX12_card_121 rfl (lv_at hl 0 rfl) ?_
      refine lv_iload_n (pc := 122) hx hb dX12_card_122 rfl (lv_at hl 1 rfl) ?_
      refine lv_iconst (pc := 123) hx hb dX12_card_123 zc_0 ?_
      obtain ⟨r25, k24, h⟩ := zBd_e h
      refine zr_VI (pc := 124) (rest := []) cx cv_X12_250 (mX12_seesOf k24) ⟨⟨rfl, rfl⟩, Nat.le_of_ble_eq_true rfl, Nat.le_of_ble_eq_true rfl⟩ ⟨Nat.le_of_ble_eq_true rfl, Nat.le_of_ble_eq_true rfl⟩ hP nM_0 sM_0 rfl hl.1 rfl rfl (Nat.le_of_ble_eq_true rfl) dX12_card_124 ?_
      refine lv_if_ne (pc := 127) (tgt := 139) hx hb dX12_card_127 (by decide) (fun c26 => ?_) (fun c26 => ?_)
      · replace h := zBr_f c26 h
        refine lv_aload_n (pc := 139) hx hb dX12_card_139 rfl (lv_at hl 0 rfl) ?_
        refine zr_getI (pc := 140) cx lk_X12_334 hP nM_0 sM_0 rfl dX12_card_140 ?_
        have hz := Option.some.inj h
        exact zr_rqI (pc := 143) cx hr hlk hP hS hz dX12_card_143
      · replace h := zBr_t c26 h
        refine lv_aload_n (pc := 130) hx hb dX12_card_130 rfl (lv_at hl 0 rfl) ?_
        refine lv_bipush (pc := 131) hx hb dX12_card_131 zb_14 ?_
        obtain ⟨r28, k27, h⟩ := zBd_e h
        refine zr_SJ (pc := 133) (rest := [.ref (q 0)]) cx cv_X12_62 (mX12_wordOf k27) ⟨⟨rfl, rfl⟩, Nat.le_of_ble_eq_true rfl, Nat.le_of_ble_eq_true rfl⟩ ⟨Nat.le_of_ble_eq_true rfl, Nat.le_of_ble_eq_true rfl⟩ (zr_preK cx) hl.1 rfl rfl (Nat.le_of_ble_eq_true rfl) dX12_card_133 ?_
        obtain ⟨S30, k29, h⟩ := zBd_e h
        refine zr_VV (pc := 136) (rest := []) cx cv_X12_347 (mX12_writeNext hq k29) ⟨⟨rfl, rfl⟩, Nat.le_of_ble_eq_true rfl, Nat.le_of_ble_eq_true rfl⟩ ⟨Nat.le_of_ble_eq_true rfl, Nat.le_of_ble_eq_true rfl⟩ hP hS nM_0 sM_0 rfl hl.1 rfl rfl (Nat.le_of_ble_eq_true rfl) dX12_card_136 (fun H locs hP hS => ?_)
        refine lv_aload_n (pc := 139) hx hb dX12_card_139 rfl (lv_at hl 0 rfl) ?_
        refine zr_getI (pc := 140) cx lk_X12_334 hP nM_0 sM_0 rfl dX12_card_140 ?_
        have hz := Option.some.inj h
        exact zr_rqI (pc := 143) cx hr hlk hP hS hz dX12_card_143
    · replace h := zBr_f c11 h
      refine lv_aload_n (pc := 40) hx hb dX12_card_40 rfl (lv_at hl 0 rfl) ?_
      refine lv_bipush (pc := 41) hx hb dX12_card_41 zb_105 ?_
      refine lv_bipush (pc := 43) hx hb dX12_card_43 zb_115 ?_
      refine lv_iconst (pc := 45) hx hb dX12_card_45 zc_0 ?_
      refine lv_iconst (pc := 46) hx hb dX12_card_46 zc_0 ?_
      refine lv_iconst (pc := 47) hx hb dX12_card_47 zc_0 ?_
      refine lv_iconst (pc := 48) hx hb dX12_card_48 zc_0 ?_
      refine lv_iconst (pc := 49) hx hb dX12_card_49 zc_0 ?_
      obtain ⟨r32, k31, h⟩ := zBd_e h
      refine zr_SJ (pc := 50) (rest := [.ref (q 0)]) cx cv_X12_58 (mX12_spelt k31) ⟨⟨rfl, rfl⟩, Nat.le_of_ble_eq_true rfl, Nat.le_of_ble_eq_true rfl⟩ ⟨Nat.le_of_ble_eq_true rfl, Nat.le_of_ble_eq_true rfl⟩ (zr_preK cx) hl.1 rfl rfl (Nat.le_of_ble_eq_true rfl) dX12_card_50 ?_
      obtain ⟨S34, k33, h⟩ := zBd_e h
      refine zr_VV (pc := 53) (rest := []) cx cv_X12_347 (mX12_writeNext hq k33) ⟨⟨rfl, rfl⟩, Nat.le_of_ble_eq_true rfl, Nat.le_of_ble_eq_true rfl⟩ ⟨Nat.le_of_ble_eq_true rfl, Nat.le_of_ble_eq_true rfl⟩ hP hS nM_0 sM_0 rfl hl.1 rfl rfl (Nat.le_of_ble_eq_true rfl) dX12_card_53 (fun H locs hP hS => ?_)
      refine lv_aload_n (pc := 56) hx hb dX12_card_56 rfl (lv_at hl 0 rfl) ?_
      refine lv_bipush (pc := 57) hx hb dX12_card_57 zb_97 ?_
      refine lv_iconst (pc := 59) hx hb dX12_card_59 zc_0 ?_
      refine lv_iconst (pc := 60) hx hb dX12_card_60 zc_0 ?_
      refine lv_iconst (pc := 61) hx hb dX12_card_61 zc_0 ?_
      refine lv_iconst (pc := 62) hx hb dX12_card_62 zc_0 ?_
      refine lv_iconst (pc := 63) hx hb dX12_card_63 zc_0 ?_
      refine lv_iconst (pc := 64) hx hb dX12_card_64 zc_0 ?_
      obtain ⟨r36, k35, h⟩ := zBd_e h
      refine zr_SJ (pc := 65) (rest := [.ref (q 0)]) cx cv_X12_58 (mX12_spelt k35) ⟨⟨rfl, rfl⟩, Nat.le_of_ble_eq_true rfl, Nat.le_of_ble_eq_true rfl⟩ ⟨Nat.le_of_ble_eq_true rfl, Nat.le_of_ble_eq_true rfl⟩ (zr_preK cx) hl.1 rfl rfl (Nat.le_of_ble_eq_true rfl) dX12_card_65 ?_
      obtain ⟨S38, k37, h⟩ := zBd_e h
      refine zr_VV (pc := 68) (rest := []) cx cv_X12_347 (mX12_writeNext hq k37) ⟨⟨rfl, rfl⟩, Nat.le_of_ble_eq_true rfl, Nat.le_of_ble_eq_true rfl⟩ ⟨Nat.le_of_ble_eq_true rfl, Nat.le_of_ble_eq_true rfl⟩ hP hS nM_0 sM_0 rfl hl.1 rfl rfl (Nat.le_of_ble_eq_true rfl) dX12_card_68 (fun H locs hP hS => ?_)
      refine lv_aload_n (pc := 71) hx hb dX12_card_71 rfl (lv_at hl 0 rfl) ?_
      refine lv_bipush (pc := 72) hx hb dX12_card_72 zb_15 ?_
      obtain ⟨r40, k39, h⟩ := zBd_e h
      refine zr_SJ (pc := 74) (rest := [.ref (q 0)]) cx cv_X12_62 (mX12_wordOf k39) ⟨⟨rfl, rfl⟩, Nat.le_of_ble_eq_true rfl, Nat.le_of_ble_eq_true rfl⟩ ⟨Nat.le_of_ble_eq_true rfl, Nat.le_of_ble_eq_true rfl⟩ (zr_preK cx) hl.1 rfl rfl (Nat.le_of_ble_eq_true rfl) dX12_card_74 ?_
      obtain ⟨S42, k41, h⟩ := zBd_e h
      refine zr_VV (pc := 77) (rest := []) cx cv_X12_347 (mX12_writeNext hq k41) ⟨⟨rfl, rfl⟩, Nat.le_of_ble_eq_true rfl, Nat.le_of_ble_eq_true rfl⟩ ⟨Nat.le_of_ble_eq_true rfl, Nat.le_of_ble_eq_true rfl⟩ hP hS nM_0 sM_0 rfl hl.1 rfl rfl (Nat.le_of_ble_eq_true rfl) dX12_card_77 (fun H locs hP hS => ?_)
      refine lv_aload_n (pc := 80) hx hb dX12_card_80 rfl (lv_at hl 0 rfl) ?_
      refine zr_getI (pc := 81) cx lk_X12_334 hP nM_0 sM_0 rfl dX12_card_81 ?_
      have hz := Option.some.inj h
      exact zr_rqI (pc := 84) cx hr hlk hP hS hz dX12_card_84
  · replace h := zBr_t c4 h
    refine lv_iconst (pc := 13) hx hb dX12_card_13 zc_m1 ?_
    have hz := Option.some.inj h
    exact zr_rqI (pc := 14) cx hr hlk hP hS hz dX12_card_14
abbrev rmGHO (d : Nat) : Room := { frames := 3 + d, cells := 0, slots := 0, locals := 68 + 27 * d }
def zRCHO (l : Launch) (D : va_G) (cy : Nat → ClassId) (q : Nat → Nat) (d : Nat) (rc : Nat → zSt → Int32 → Int32 → Option Int32) : Prop := (∀ (S : zSt) (v1 : Int32) (v2 : Int32) (z : Int32), rc 0 S v1 v2 = some z → zMi l yX12_holds cX12_holds 8 (some .boolean) (rmGHO d) [.ref (q 0), .int v1, .int v2] (zPr zshM zNM D cy q S) z)
-- X12_holds
def fX12_holds_287 (rc : Nat → zSt → Int32 → Int32 → Option Int32) (S : zSt)  (v3 : Int32) (v5 : Int32) (t0 : Int32) : Option Int32 :=
  zGd (zIx (v3 + (3 : Int32)) 406) (zBr ((S.1 2 (v3 + (3 : Int32)).toNatClampNeg) = (60 : Int32)) (zBr (v5 ≤ t0) (some (0 : Int32)) (some (1 : Int32))) (zGd (zIx (v3 + (3 : Int32)) 406) (zBr ((S.1 2 (v3 + (3 : Int32)).toNatClampNeg) = (61 : Int32)) (zBr (t0 = v5) (some (1 : Int32)) (some (0 : Int32))) (zBr (t0 ≤ v5) (some (0 : Int32)) (some (1 : Int32))))))
set_option maxHeartbeats 4000000 in
set_option maxRecDepth 100000 in
theorem kX12_holds_287 {p : Program} {l : Launch} {e : Env} {s : State} {m : MethodId} {args : Array Value} {below : List Frame} {meth : Method} {c : Code} {D : va_G} {cy : Nat → ClassId} {q : Nat → Nat} {d : Nat} {rc : Nat → zSt → Int32 → Int32 → Option Int32} (hrc : zRCHO l D cy q d rc) (cx : zX RX12 cX12_holds 8 p s m args c D cy) (hr : meth.sig.returnType = (some .boolean)) (hlk : meth.locks = false) {z : Int32} {S : zSt} {v3 : Int32} {v5 : Int32} {t0 : Int32} (hP : va_P D vwCl (zW zshM zNM cy q S) s.heap) (h : fX12_holds_287 rc S v3 v5 t0 = some z) {ls : Array Slot} (hl : lv_has ls 8 [(0, .ref (q 0)), (3, .int v3), (5, .int v5)]) : W p l e (rmGHO (d + 1)) s m args below meth c s.heap [] 0 0 (MQ below (vp_Si (fun x => x = z)) args s 0 0 (fun _ => False)) (F0 m 287 ls [.int t0]) := by
  have hx := cx.1
  have hb := cx.2.1
  unfold fX12_holds_287 at h
  refine lv_istore (lv' := [(7, .int t0), (0, .ref (q 0)), (3, .int v3), (5, .int v5)]) (pc := 287) hx hb dX12_holds_287 hl (by decide) rfl (fun ls hl => ?_)
  refine lv_aload_n (pc := 289) hx hb dX12_holds_289 rfl (lv_at hl 1 rfl) ?_
  refine zr_getR (pc := 290) (t := 2) cx lk_X12_98 hP nM_0 sM_0 rfl dX12_holds_290 ?_
  refine lv_iload_n (pc := 293) hx hb dX12_holds_293 rfl (lv_at hl 2 rfl) ?_
  refine lv_iconst (pc := 294) hx hb dX12_holds_294 zc_3 ?_
  refine lv_iadd (pc := 295) hx hb dX12_holds_295 ?_
  obtain ⟨g50, h⟩ := zGd_e h
  refine zr_iald (pc := 296) cx hP nM_2 sM_2 g50 dX12_holds_296 ?_
  refine lv_bipush (pc := 297) hx hb dX12_holds_297 zb_60 ?_
  refine lv_icmp_ne (pc := 299) (tgt := 317) hx hb dX12_holds_299 (by decide) (fun c51 => ?_) (fun c51 => ?_)
  · replace h := zBr_f c51 h
    refine lv_aload_n (pc := 317) hx hb dX12_holds_317 rfl (lv_at hl 1 rfl) ?_
    refine zr_getR (pc := 318) (t := 2) cx lk_X12_98 hP nM_0 sM_0 rfl dX12_holds_318 ?_
    refine lv_iload_n (pc := 321) hx hb dX12_holds_321 rfl (lv_at hl 2 rfl) ?_
    refine lv_iconst (pc := 322) hx hb dX12_holds_322 zc_3 ?_
    refine lv_iadd (pc := 323) hx hb dX12_holds_323 ?_
    obtain ⟨g52, h⟩ := zGd_e h
    refine zr_iald (pc := 324) cx hP nM_2 sM_2 g52 dX12_holds_324 ?_
    refine lv_bipush (pc := 325) hx hb dX12_holds_325 zb_61 ?_
    refine lv_icmp_ne (pc := 327) (tgt := 345) hx hb dX12_holds_327 (by decide) (fun c53 => ?_) (fun c53 => ?_)
    · replace h := zBr_f c53 h
      refine lv_iload (pc := 345) hx hb dX12_holds_345 (lv_at hl 0 rfl) ?_
      refine lv_iload (pc := 347) hx hb dX12_holds_347 (lv_at hl 3 rfl) ?_
      refine lv_icmp_le (pc := 349) (tgt := 356) hx hb dX12_holds_349 (by decide) (fun c54 => ?_) (fun c54 => ?_)
      · replace h := zBr_t c54 h
        refine lv_iconst (pc := 356) hx hb dX12_holds_356 zc_0 ?_
        have hz := Option.some.inj h
        exact zr_reZ (pc := 357) cx hr hlk hz (by decide) dX12_holds_357
      · replace h := zBr_f c54 h
        refine lv_iconst (pc := 352) hx hb dX12_holds_352 zc_1 ?_
        refine lv_goto (pc := 353) (tgt := 357) hx hb dX12_holds_353 (by decide) ?_
        have hz := Option.some.inj h
        exact zr_reZ (pc := 357) cx hr hlk hz (by decide) dX12_holds_357
    · replace h := zBr_t c53 h
      refine lv_iload (pc := 330) hx hb dX12_holds_330 (lv_at hl 0 rfl) ?_
      refine lv_iload (pc := 332) hx hb dX12_holds_332 (lv_at hl 3 rfl) ?_
      refine lv_icmp_ne (pc := 334) (tgt := 341) hx hb dX12_holds_334 (by decide) (fun c55 => ?_) (fun c55 => ?_)
      · replace h := zBr_f c55 h
        refine lv_iconst (pc := 341) hx hb dX12_holds_341 zc_0 ?_
        refine lv_goto (pc := 342) (tgt := 357) hx hb dX12_holds_342 (by decide) ?_
        have hz := Option.some.inj h
        exact zr_reZ (pc := 357) cx hr hlk hz (by decide) dX12_holds_357
      · replace h := zBr_t c55 h
        refine lv_iconst (pc := 337) hx hb dX12_holds_337 zc_1 ?_
        refine lv_goto (pc := 338) (tgt := 357) hx hb dX12_holds_338 (by decide) ?_
        have hz := Option.some.inj h
        exact zr_reZ (pc := 357) cx hr hlk hz (by decide) dX12_holds_357
  · replace h := zBr_t c51 h
    refine lv_iload (pc := 302) hx hb dX12_holds_302 (lv_at hl 0 rfl) ?_
    refine lv_iload (pc := 304) hx hb dX12_holds_304 (lv_at hl 3 rfl) ?_
    refine lv_icmp_ge (pc := 306) (tgt := 313) hx hb dX12_holds_306 (by decide) (fun c56 => ?_) (fun c56 => ?_)
    · replace h := zBr_t c56 h
      refine lv_iconst (pc := 313) hx hb dX12_holds_313 zc_0 ?_
      refine lv_goto (pc := 314) (tgt := 357) hx hb dX12_holds_314 (by decide) ?_
      have hz := Option.some.inj h
      exact zr_reZ (pc := 357) cx hr hlk hz (by decide) dX12_holds_357
    · replace h := zBr_f c56 h
      refine lv_iconst (pc := 309) hx hb dX12_holds_309 zc_1 ?_
      refine lv_goto (pc := 310) (tgt := 357) hx hb dX12_holds_310 (by decide) ?_
      have hz := Option.some.inj h
      exact zr_reZ (pc := 357) cx hr hlk hz (by decide) dX12_holds_357
def fX12_holds (rc : Nat → zSt → Int32 → Int32 → Option Int32) (S : zSt) (v1 : Int32) (v2 : Int32) : Option Int32 :=
  zLt ((166 : Int32) + ((4 : Int32) * v1)) (fun x1 => zGd (zIx (x1 + (1 : Int32)) 406) (zLt (S.1 2 (x1 + (1 : Int32)).toNatClampNeg) (fun x3 => zGd (zIx (x1 + (2 : Int32)) 406) (zLt (S.1 2 (x1 + (2 : Int32)).toNatClampNeg) (fun x5 => zGd (zIx x1 406) (zBr ((S.1 2 x1.toNatClampNeg) = 1) (zBd (rc 0 S x3 v2) (fun r16 => zBr (r16 = 0) (some (1 : Int32)) (some (0 : Int32)))) (zBr ((S.1 2 x1.toNatClampNeg) = 2) (zBd (rc 0 S x3 v2) (fun r19 => zBr (r19 = 0) (some (0 : Int32)) (zBd (rc 0 S x5 v2) (fun r22 => zBr (r22 = 0) (some (0 : Int32)) (some (1 : Int32)))))) (zBr ((S.1 2 x1.toNatClampNeg) = 3) (zBd (rc 0 S x3 v2) (fun r25 => zBr (r25 = 0) (zBd (rc 0 S x5 v2) (fun r28 => zBr (r28 = 0) (some (0 : Int32)) (some (1 : Int32)))) (some (1 : Int32)))) (zBr ((S.1 2 x1.toNatClampNeg) = 64) (zBd (fX12_seesOf S v2 (0 : Int32)) (fun r31 => zBr (r31 = 0) (some (1 : Int32)) (some (0 : Int32)))) (zBr ((S.1 2 x1.toNatClampNeg) = 65) (zBd (fX12_isFern S v2) (fun r34 => zGd (zBo r34) (some r34))) (zBr ((S.1 2 x1.toNatClampNeg) = 66) (zGd (zIx ((26 : Int32) + v2) 406) (zBr ((S.1 2 ((26 : Int32) + v2).toNatClampNeg) = x3) (some (1 : Int32)) (some (0 : Int32)))) (zBr ((S.1 2 x1.toNatClampNeg) = 67) (zBd (fX12_seesOf S v2 (0 : Int32)) (fun r39 => zBd (fX12_has r39 x3) (fun r41 => zGd (zBo r41) (some r41)))) (zBr ((S.1 2 x1.toNatClampNeg) = 68) (zBd (fX12_tellsOf S v2 x3) (fun r44 => zGd (zBo r44) (some r44))) (zGd (zIx x1 406) (zLt ((S.1 2 x1.toNatClampNeg) - (50 : Int32)) (fun x47 => zBr (x47 = (19 : Int32)) (zBd (fX12_shownBy S v2 (1 : Int32)) (fun r59 => zBd (fX12_bits r59) (fun r61 => fX12_holds_287 rc S x1 x5 r61))) (zBr (x47 = (20 : Int32)) (zGd (zIx ((32 : Int32) + v2) 406) (fX12_holds_287 rc S x1 x5 (S.1 2 ((32 : Int32) + v2).toNatClampNeg))) (fX12_holds_287 rc S x1 x5 v2))))))))))))))))))
set_option maxHeartbeats 4000000 in
set_option maxRecDepth 100000 in
theorem mX12_holds {l : Launch} {D : va_G} {cy : Nat → ClassId} {q : Nat → Nat} {S : zSt} {v1 : Int32} {v2 : Int32} {d : Nat} {rc : Nat → zSt → Int32 → Int32 → Option Int32} (hrc : zRCHO l D cy q d rc) {z : Int32} (h : fX12_holds rc S v1 v2 = some z) : zMi l yX12_holds cX12_holds 8 (some .boolean) (rmGHO (d + 1)) [.ref (q 0), .int v1, .int v2] (zPr zshM zNM D cy q S) z := by
  refine Met.ofW (cc := cX12_holds) (maxL := 8) (ret := (some .boolean)) (by decide) rfl ?_
  intro p e s m args below meth c s₁ B hml hv
  obtain ⟨rfl, hP, hK⟩ := hv
  have cx : zX RX12 cX12_holds 8 p s m ([.ref (q 0), .int v1, .int v2]).toArray c D cy := ⟨B.exec, B.bytes, hml, findClass_of_methodNamed B.named, fun w hw => atoms_spec (ws := Cond.code yX12_holds cX12_holds 8 (some .boolean) :: zTB) B.pre w (List.mem_cons_of_mem _ hw), hK⟩
  have hx := cx.1
  have hb := cx.2.1
  have hr := B.returns
  have hlk := B.notSynchronized
  have hl := lv_entry ([.ref (q 0), .int v1, .int v2]) (n := 8) (Nat.le_of_ble_eq_true rfl)
  rw [lg_entry_eq]
  generalize (lg_sl ([.ref (q 0), .int v1, .int v2]) ++ List.replicate (8 - (lg_sl ([.ref (q 0), .int v1, .int v2])).length) Slot.unset).toArray = ls at hl ⊢
  have hl : lv_has ls 8 [(0, .ref (q 0)), (1, .int v1), (2, .int v2)] := hl
  unfold fX12_holds at h
  refine lv_sipush (pc := 0) hx hb dX12_holds_0 zs_166 ?_
  refine lv_iconst (pc := 3) hx hb dX12_holds_3 zc_4 ?_
  refine lv_iload_n (pc := 4) hx hb dX12_holds_4 rfl (lv_at hl 1 rfl) ?_
  refine lv_imul (pc := 5) hx hb dX12_holds_5 ?_
  refine lv_iadd (pc := 6) hx hb dX12_holds_6 ?_
  obtain ⟨x1, ex1, h⟩ := zLt_e h
  refine zr_nmI ex1 ?_
  refine lv_istore_n (lv' := [(3, .int x1), (0, .ref (q 0)), (1, .int v1), (2, .int v2)]) (pc := 7) hx hb dX12_holds_7 rfl hl (by decide) rfl (fun ls hl => ?_)
  refine lv_aload_n (pc := 8) hx hb dX12_holds_8 rfl (lv_at hl 1 rfl) ?_
  refine zr_getR (pc := 9) (t := 2) cx lk_X12_98 hP nM_0 sM_0 rfl dX12_holds_9 ?_
  refine lv_iload_n (pc := 12) hx hb dX12_holds_12 rfl (lv_at hl 0 rfl) ?_
  refine lv_iconst (pc := 13) hx hb dX12_holds_13 zc_1 ?_
  refine lv_iadd (pc := 14) hx hb dX12_holds_14 ?_
  obtain ⟨g2, h⟩ := zGd_e h
  refine zr_iald (pc := 15) cx hP nM_2 sM_2 g2 dX12_holds_15 ?_
  obtain ⟨x3, ex3, h⟩ := zLt_e h
  refine zr_nmI ex3 ?_
  refine lv_istore (lv' := [(4, .int x3), (3, .int x1), (0, .ref (q 0)), (1, .int v1), (2, .int v2)]) (pc := 16) hx hb dX12_holds_16 hl (by decide) rfl (fun ls hl => ?_)
  refine lv_aload_n (pc := 18) hx hb dX12_holds_18 rfl (lv_at hl 2 rfl) ?_
  refine zr_getR (pc := 19) (t := 2) cx lk_X12_98 hP nM_0 sM_0 rfl dX12_holds_19 ?_
  refine lv_iload_n (pc := 22) hx hb dX12_holds_22 rfl (lv_at hl 1 rfl) ?_
  refine lv_iconst (pc := 23) hx hb dX12_holds_23 zc_2 ?_
  refine lv_iadd (pc := 24) hx hb dX12_holds_24 ?_
  obtain ⟨g4, h⟩ := zGd_e h
  refine zr_iald (pc := 25) cx hP nM_2 sM_2 g4 dX12_holds_25 ?_
  obtain ⟨x5, ex5, h⟩ := zLt_e h
  refine zr_nmI ex5 ?_
  refine lv_istore (lv' := [(5, .int x5), (4, .int x3), (3, .int x1), (0, .ref (q 0)), (1, .int v1), (2, .int v2)]) (pc := 26) hx hb dX12_holds_26 hl (by decide) rfl (fun ls hl => ?_)
  refine lv_aload_n (pc := 28) hx hb dX12_holds_28 rfl (lv_at hl 3 rfl) ?_
  refine zr_getR (pc := 29) (t := 2) cx lk_X12_98 hP nM_0 sM_0 rfl dX12_holds_29 ?_
  refine lv_iload_n (pc := 32) hx hb dX12_holds_32 rfl (lv_at hl 2 rfl) ?_
  obtain ⟨g6, h⟩ := zGd_e h
  refine zr_iald (pc := 33) cx hP nM_2 sM_2 g6 dX12_holds_33 ?_
  by_cases c7 : (S.1 2 x1.toNatClampNeg) = 1
  · replace h := zBr_t c7 h
    refine lv_lookup (pc := 34) (off := 74) (tgt := 108) hx hb dX12_holds_34 rfl (by rw [c7]; rfl) (by decide) ?_
    refine lv_aload_n (pc := 108) hx hb dX12_holds_108 rfl (lv_at hl 3 rfl) ?_
    refine lv_iload (pc := 109) hx hb dX12_holds_109 (lv_at hl 1 rfl) ?_
    refine lv_iload_n (pc := 111) hx hb dX12_holds_111 rfl (lv_at hl 5 rfl) ?_
    obtain ⟨r16, k15, h⟩ := zBd_e h
    refine zr_VI (pc := 112) (rest := []) cx cv_X12_440 (hrc _ _ _ _ k15) ⟨⟨rfl, rfl⟩, by show (3 + d) + 1 ≤ 3 + (d + 1); omega, by show 8 + (8 + 11) + (68 + 27 * d) ≤ 68 + 27 * (d + 1); omega⟩ ⟨Nat.le_of_ble_eq_true rfl, Nat.le_of_ble_eq_true rfl⟩ hP nM_0 sM_0 rfl hl.1 rfl rfl (Nat.le_of_ble_eq_true rfl) dX12_holds_112 ?_
    refine lv_if_ne (pc := 115) (tgt := 122) hx hb dX12_holds_115 (by decide) (fun c17 => ?_) (fun c17 => ?_)
    · replace h := zBr_f c17 h
      refine lv_iconst (pc := 122) hx hb dX12_holds_122 zc_0 ?_
      have hz := Option.some.inj h
      exact zr_reZ (pc := 123) cx hr hlk hz (by decide) dX12_holds_123
    · replace h := zBr_t c17 h
      refine lv_iconst (pc := 118) hx hb dX12_holds_118 zc_1 ?_
      refine lv_goto (pc := 119) (tgt := 123) hx hb dX12_holds_119 (by decide) ?_
      have hz := Option.some.inj h
      exact zr_reZ (pc := 123) cx hr hlk hz (by decide) dX12_holds_123
  · replace h := zBr_f c7 h
    by_cases c8 : (S.1 2 x1.toNatClampNeg) = 2
    · replace h := zBr_t c8 h
      refine lv_lookup (pc := 34) (off := 90) (tgt := 124) hx hb dX12_holds_34 rfl (by rw [c8]; rfl) (by decide) ?_
      refine lv_aload_n (pc := 124) hx hb dX12_holds_124 rfl (lv_at hl 3 rfl) ?_
      refine lv_iload (pc := 125) hx hb dX12_holds_125 (lv_at hl 1 rfl) ?_
      refine lv_iload_n (pc := 127) hx hb dX12_holds_127 rfl (lv_at hl 5 rfl) ?_
      obtain ⟨r19, k18, h⟩ := zBd_e h
      refine zr_VI (pc := 128) (rest := []) cx cv_X12_440 (hrc _ _ _ _ k18) ⟨⟨rfl, rfl⟩, by show (3 + d) + 1 ≤ 3 + (d + 1); omega, by show 8 + (8 + 11) + (68 + 27 * d) ≤ 68 + 27 * (d + 1); omega⟩ ⟨Nat.le_of_ble_eq_true rfl, Nat.le_of_ble_eq_true rfl⟩ hP nM_0 sM_0 rfl hl.1 rfl rfl (Nat.le_of_ble_eq_true rfl) dX12_holds_128 ?_
      refine lv_if_eq (pc := 131) (tgt := 148) hx hb dX12_holds_131 (by decide) (fun c20 => ?_) (fun c20 => ?_)
      · replace h := zBr_t c20 h
        refine lv_iconst (pc := 148) hx hb dX12_holds_148 zc_0 ?_
        have hz := Option.some.inj h
        exact zr_reZ (pc := 149) cx hr hlk hz (by decide) dX12_holds_149
      · replace h := zBr_f c20 h
        refine lv_aload_n (pc := 134) hx hb dX12_holds_134 rfl (lv_at hl 3 rfl) ?_
        refine lv_iload (pc := 135) hx hb dX12_holds_135 (lv_at hl 0 rfl) ?_
        refine lv_iload_n (pc := 137) hx hb dX12_holds_137 rfl (lv_at hl 5 rfl) ?_
        obtain ⟨r22, k21, h⟩ := zBd_e h
        refine zr_VI (pc := 138) (rest := []) cx cv_X12_440 (hrc _ _ _ _ k21) ⟨⟨rfl, rfl⟩, by show (3 + d) + 1 ≤ 3 + (d + 1); omega, by show 8 + (8 + 11) + (68 + 27 * d) ≤ 68 + 27 * (d + 1); omega⟩ ⟨Nat.le_of_ble_eq_true rfl, Nat.le_of_ble_eq_true rfl⟩ hP nM_0 sM_0 rfl hl.1 rfl rfl (Nat.le_of_ble_eq_true rfl) dX12_holds_138 ?_
        refine lv_if_eq (pc := 141) (tgt := 148) hx hb dX12_holds_141 (by decide) (fun c23 => ?_) (fun c23 => ?_)
        · replace h := zBr_t c23 h
          refine lv_iconst (pc := 148) hx hb dX12_holds_148 zc_0 ?_
          have hz := Option.some.inj h
          exact zr_reZ (pc := 149) cx hr hlk hz (by decide) dX12_holds_149
        · replace h := zBr_f c23 h
          refine lv_iconst (pc := 144) hx hb dX12_holds_144 zc_1 ?_
          refine lv_goto (pc := 145) (tgt := 149) hx hb dX12_holds_145 (by decide) ?_
          have hz := Option.some.inj h
          exact zr_reZ (pc := 149) cx hr hlk hz (by decide) dX12_holds_149
    · replace h := zBr_f c8 h
      by_cases c9 : (S.1 2 x1.toNatClampNeg) = 3
      · replace h := zBr_t c9 h
        refine lv_lookup (pc := 34) (off := 116) (tgt := 150) hx hb dX12_holds_34 rfl (by rw [c9]; rfl) (by decide) ?_
        refine lv_aload_n (pc := 150) hx hb dX12_holds_150 rfl (lv_at hl 3 rfl) ?_
        refine lv_iload (pc := 151) hx hb dX12_holds_151 (lv_at hl 1 rfl) ?_
        refine lv_iload_n (pc := 153) hx hb dX12_holds_153 rfl (lv_at hl 5 rfl) ?_
        obtain ⟨r25, k24, h⟩ := zBd_e h
        refine zr_VI (pc := 154) (rest := []) cx cv_X12_440 (hrc _ _ _ _ k24) ⟨⟨rfl, rfl⟩, by show (3 + d) + 1 ≤ 3 + (d + 1); omega, by show 8 + (8 + 11) + (68 + 27 * d) ≤ 68 + 27 * (d + 1); omega⟩ ⟨Nat.le_of_ble_eq_true rfl, Nat.le_of_ble_eq_true rfl⟩ hP nM_0 sM_0 rfl hl.1 rfl rfl (Nat.le_of_ble_eq_true rfl) dX12_holds_154 ?_
        refine lv_if_ne (pc := 157) (tgt := 170) hx hb dX12_holds_157 (by decide) (fun c26 => ?_) (fun c26 => ?_)
        · replace h := zBr_f c26 h
          refine lv_iconst (pc := 170) hx hb dX12_holds_170 zc_1 ?_
          refine lv_goto (pc := 171) (tgt := 175) hx hb dX12_holds_171 (by decide) ?_
          have hz := Option.some.inj h
          exact zr_reZ (pc := 175) cx hr hlk hz (by decide) dX12_holds_175
        · replace h := zBr_t c26 h
          refine lv_aload_n (pc := 160) hx hb dX12_holds_160 rfl (lv_at hl 3 rfl) ?_
          refine lv_iload (pc := 161) hx hb dX12_holds_161 (lv_at hl 0 rfl) ?_
          refine lv_iload_n (pc := 163) hx hb dX12_holds_163 rfl (lv_at hl 5 rfl) ?_
          obtain ⟨r28, k27, h⟩ := zBd_e h
          refine zr_VI (pc := 164) (rest := []) cx cv_X12_440 (hrc _ _ _ _ k27) ⟨⟨rfl, rfl⟩, by show (3 + d) + 1 ≤ 3 + (d + 1); omega, by show 8 + (8 + 11) + (68 + 27 * d) ≤ 68 + 27 * (d + 1); omega⟩ ⟨Nat.le_of_ble_eq_true rfl, Nat.le_of_ble_eq_true rfl⟩ hP nM_0 sM_0 rfl hl.1 rfl rfl (Nat.le_of_ble_eq_true rfl) dX12_holds_164 ?_
          refine lv_if_eq (pc := 167) (tgt := 174) hx hb dX12_holds_167 (by decide) (fun c29 => ?_) (fun c29 => ?_)
          · replace h := zBr_t c29 h
            refine lv_iconst (pc := 174) hx hb dX12_holds_174 zc_0 ?_
            have hz := Option.some.inj h
            exact zr_reZ (pc := 175) cx hr hlk hz (by decide) dX12_holds_175
          · replace h := zBr_f c29 h
            refine lv_iconst (pc := 170) hx hb dX12_holds_170 zc_1 ?_
            refine lv_goto (pc := 171) (tgt := 175) hx hb dX12_holds_171 (by decide) ?_
            have hz := Option.some.inj h
            exact zr_reZ (pc := 175) cx hr hlk hz (by decide) dX12_holds_175
      · replace h := zBr_f c9 h
        by_cases c10 : (S.1 2 x1.toNatClampNeg) = 64
        · replace h := zBr_t c10 h
          refine lv_lookup (pc := 34) (off := 142) (tgt := 176) hx hb dX12_holds_34 rfl (by rw [c10]; rfl) (by decide) ?_
          refine lv_aload_n (pc := 176) hx hb dX12_holds_176 rfl (lv_at hl 3 rfl) ?_
          refine lv_iload_n (pc := 177) hx hb dX12_holds_177 rfl (lv_at hl 5 rfl) ?_
          refine lv_iconst (pc := 178) hx hb dX12_holds_178 zc_0 ?_
          obtain ⟨r31, k30, h⟩ := zBd_e h
          refine zr_VI (pc := 179) (rest := []) cx cv_X12_250 (mX12_seesOf k30) ⟨⟨rfl, rfl⟩, by show 2 + 1 ≤ 3 + (d + 1); omega, by show 8 + (3 + 11) + 42 ≤ 68 + 27 * (d + 1); omega⟩ ⟨Nat.le_of_ble_eq_true rfl, Nat.le_of_ble_eq_true rfl⟩ hP nM_0 sM_0 rfl hl.1 rfl rfl (Nat.le_of_ble_eq_true rfl) dX12_holds_179 ?_
          refine lv_if_ne (pc := 182) (tgt := 189) hx hb dX12_holds_182 (by decide) (fun c32 => ?_) (fun c32 => ?_)
          · replace h := zBr_f c32 h
            refine lv_iconst (pc := 189) hx hb dX12_holds_189 zc_0 ?_
            have hz := Option.some.inj h
            exact zr_reZ (pc := 190) cx hr hlk hz (by decide) dX12_holds_190
          · replace h := zBr_t c32 h
            refine lv_iconst (pc := 185) hx hb dX12_holds_185 zc_1 ?_
            refine lv_goto (pc := 186) (tgt := 190) hx hb dX12_holds_186 (by decide) ?_
            have hz := Option.some.inj h
            exact zr_reZ (pc := 190) cx hr hlk hz (by decide) dX12_holds_190
        · replace h := zBr_f c10 h
          by_cases c11 : (S.1 2 x1.toNatClampNeg) = 65
          · replace h := zBr_t c11 h
            refine lv_lookup (pc := 34) (off := 157) (tgt := 191) hx hb dX12_holds_34 rfl (by rw [c11]; rfl) (by decide) ?_
            refine lv_aload_n (pc := 191) hx hb dX12_holds_191 rfl (lv_at hl 3 rfl) ?_
            refine lv_iload_n (pc := 192) hx hb dX12_holds_192 rfl (lv_at hl 5 rfl) ?_
            obtain ⟨r34, k33, h⟩ := zBd_e h
            refine zr_VI (pc := 193) (rest := []) cx cv_X12_218 (mX12_isFern k33) ⟨⟨rfl, rfl⟩, by show 1 + 1 ≤ 3 + (d + 1); omega, by show 8 + (2 + 11) + 21 ≤ 68 + 27 * (d + 1); omega⟩ ⟨Nat.le_of_ble_eq_true rfl, Nat.le_of_ble_eq_true rfl⟩ hP nM_0 sM_0 rfl hl.1 rfl rfl (Nat.le_of_ble_eq_true rfl) dX12_holds_193 ?_
            obtain ⟨g35, h⟩ := zGd_e h
            have hz := Option.some.inj h
            exact zr_reZ (pc := 196) cx hr hlk hz g35 dX12_holds_196
          · replace h := zBr_f c11 h
            by_cases c12 : (S.1 2 x1.toNatClampNeg) = 66
            · replace h := zBr_t c12 h
              refine lv_lookup (pc := 34) (off := 163) (tgt := 197) hx hb dX12_holds_34 rfl (by rw [c12]; rfl) (by decide) ?_
              refine lv_aload_n (pc := 197) hx hb dX12_holds_197 rfl (lv_at hl 3 rfl) ?_
              refine zr_getR (pc := 198) (t := 2) cx lk_X12_98 hP nM_0 sM_0 rfl dX12_holds_198 ?_
              refine lv_bipush (pc := 201) hx hb dX12_holds_201 zb_26 ?_
              refine lv_iload_n (pc := 203) hx hb dX12_holds_203 rfl (lv_at hl 5 rfl) ?_
              refine lv_iadd (pc := 204) hx hb dX12_holds_204 ?_
              obtain ⟨g36, h⟩ := zGd_e h
              refine zr_iald (pc := 205) cx hP nM_2 sM_2 g36 dX12_holds_205 ?_
              refine lv_iload (pc := 206) hx hb dX12_holds_206 (lv_at hl 1 rfl) ?_
              refine lv_icmp_ne (pc := 208) (tgt := 215) hx hb dX12_holds_208 (by decide) (fun c37 => ?_) (fun c37 => ?_)
              · replace h := zBr_f c37 h
                refine lv_iconst (pc := 215) hx hb dX12_holds_215 zc_0 ?_
                have hz := Option.some.inj h
                exact zr_reZ (pc := 216) cx hr hlk hz (by decide) dX12_holds_216
              · replace h := zBr_t c37 h
                refine lv_iconst (pc := 211) hx hb dX12_holds_211 zc_1 ?_
                refine lv_goto (pc := 212) (tgt := 216) hx hb dX12_holds_212 (by decide) ?_
                have hz := Option.some.inj h
                exact zr_reZ (pc := 216) cx hr hlk hz (by decide) dX12_holds_216
            · replace h := zBr_f c12 h
              by_cases c13 : (S.1 2 x1.toNatClampNeg) = 67
              · replace h := zBr_t c13 h
                refine lv_lookup (pc := 34) (off := 183) (tgt := 217) hx hb dX12_holds_34 rfl (by rw [c13]; rfl) (by decide) ?_
                refine lv_aload_n (pc := 217) hx hb dX12_holds_217 rfl (lv_at hl 3 rfl) ?_
                refine lv_iload_n (pc := 218) hx hb dX12_holds_218 rfl (lv_at hl 5 rfl) ?_
                refine lv_iconst (pc := 219) hx hb dX12_holds_219 zc_0 ?_
                obtain ⟨r39, k38, h⟩ := zBd_e h
                refine zr_VI (pc := 220) (rest := []) cx cv_X12_250 (mX12_seesOf k38) ⟨⟨rfl, rfl⟩, by show 2 + 1 ≤ 3 + (d + 1); omega, by show 8 + (3 + 11) + 42 ≤ 68 + 27 * (d + 1); omega⟩ ⟨Nat.le_of_ble_eq_true rfl, Nat.le_of_ble_eq_true rfl⟩ hP nM_0 sM_0 rfl hl.1 rfl rfl (Nat.le_of_ble_eq_true rfl) dX12_holds_220 ?_
                refine lv_iload (pc := 223) hx hb dX12_holds_223 (lv_at hl 1 rfl) ?_
                obtain ⟨r41, k40, h⟩ := zBd_e h
                refine zr_SI (pc := 225) (rest := []) cx cv_X12_181 (mX12_has k40) ⟨⟨rfl, rfl⟩, by show 0 + 1 ≤ 3 + (d + 1); omega, by show 8 + (2 + 11) + 0 ≤ 68 + 27 * (d + 1); omega⟩ ⟨Nat.le_of_ble_eq_true rfl, Nat.le_of_ble_eq_true rfl⟩ (zr_preK cx) hl.1 rfl rfl (Nat.le_of_ble_eq_true rfl) dX12_holds_225 ?_
                obtain ⟨g42, h⟩ := zGd_e h
                have hz := Option.some.inj h
                exact zr_reZ (pc := 228) cx hr hlk hz g42 dX12_holds_228
              · replace h := zBr_f c13 h
                by_cases c14 : (S.1 2 x1.toNatClampNeg) = 68
                · replace h := zBr_t c14 h
                  refine lv_lookup (pc := 34) (off := 195) (tgt := 229) hx hb dX12_holds_34 rfl (by rw [c14]; rfl) (by decide) ?_
                  refine lv_aload_n (pc := 229) hx hb dX12_holds_229 rfl (lv_at hl 3 rfl) ?_
                  refine lv_iload_n (pc := 230) hx hb dX12_holds_230 rfl (lv_at hl 5 rfl) ?_
                  refine lv_iload (pc := 231) hx hb dX12_holds_231 (lv_at hl 1 rfl) ?_
                  obtain ⟨r44, k43, h⟩ := zBd_e h
                  refine zr_VI (pc := 233) (rest := []) cx cv_X12_443 (mX12_tellsOf k43) ⟨⟨rfl, rfl⟩, by show 2 + 1 ≤ 3 + (d + 1); omega, by show 8 + (4 + 11) + 44 ≤ 68 + 27 * (d + 1); omega⟩ ⟨Nat.le_of_ble_eq_true rfl, Nat.le_of_ble_eq_true rfl⟩ hP nM_0 sM_0 rfl hl.1 rfl rfl (Nat.le_of_ble_eq_true rfl) dX12_holds_233 ?_
                  obtain ⟨g45, h⟩ := zGd_e h
                  have hz := Option.some.inj h
                  exact zr_reZ (pc := 236) cx hr hlk hz g45 dX12_holds_236
                · replace h := zBr_f c14 h
                  refine lv_lookup (pc := 34) (off := 203) (tgt := 237) hx hb dX12_holds_34 rfl (by show Op.lookupswitch.offset [(1, 74), (2, 90), (3, 116), (64, 142), (65, 157), (66, 163), (67, 183), (68, 195)] 203 _ = _; rw [lv_osw c7 (by decide), lv_osw c8 (by decide), lv_osw c9 (by decide), lv_osw c10 (by decide), lv_osw c11 (by decide), lv_osw c12 (by decide), lv_osw c13 (by decide), lv_osw c14 (by decide)]; rfl) (by decide) ?_
                  refine lv_aload_n (pc := 237) hx hb dX12_holds_237 rfl (lv_at hl 3 rfl) ?_
                  refine zr_getR (pc := 238) (t := 2) cx lk_X12_98 hP nM_0 sM_0 rfl dX12_holds_238 ?_
                  refine lv_iload_n (pc := 241) hx hb dX12_holds_241 rfl (lv_at hl 2 rfl) ?_
                  obtain ⟨g46, h⟩ := zGd_e h
                  refine zr_iald (pc := 242) cx hP nM_2 sM_2 g46 dX12_holds_242 ?_
                  refine lv_bipush (pc := 243) hx hb dX12_holds_243 zb_50 ?_
                  refine lv_isub (pc := 245) hx hb dX12_holds_245 ?_
                  obtain ⟨x47, ex47, h⟩ := zLt_e h
                  refine zr_nmI ex47 ?_
                  refine lv_istore (lv' := [(6, .int x47), (5, .int x5), (4, .int x3), (3, .int x1), (0, .ref (q 0)), (1, .int v1), (2, .int v2)]) (pc := 246) hx hb dX12_holds_246 hl (by decide) rfl (fun ls hl => ?_)
                  refine lv_iload (pc := 248) hx hb dX12_holds_248 (lv_at hl 0 rfl) ?_
                  refine lv_bipush (pc := 250) hx hb dX12_holds_250 zb_19 ?_
                  refine lv_icmp_ne (pc := 252) (tgt := 267) hx hb dX12_holds_252 (by decide) (fun c48 => ?_) (fun c48 => ?_)
                  · replace h := zBr_f c48 h
                    refine lv_iload (pc := 267) hx hb dX12_holds_267 (lv_at hl 0 rfl) ?_
                    refine lv_bipush (pc := 269) hx hb dX12_holds_269 zb_20 ?_
                    refine lv_icmp_ne (pc := 271) (tgt := 286) hx hb dX12_holds_271 (by decide) (fun c49 => ?_) (fun c49 => ?_)
                    · replace h := zBr_f c49 h
                      refine lv_iload_n (pc := 286) hx hb dX12_holds_286 rfl (lv_at hl 6 rfl) ?_
                      exact kX12_holds_287 hrc cx hr hlk hP h (lv_sub hl [4, 3, 1] rfl)
                    · replace h := zBr_t c49 h
                      refine lv_aload_n (pc := 274) hx hb dX12_holds_274 rfl (lv_at hl 4 rfl) ?_
                      refine zr_getR (pc := 275) (t := 2) cx lk_X12_98 hP nM_0 sM_0 rfl dX12_holds_275 ?_
                      refine lv_bipush (pc := 278) hx hb dX12_holds_278 zb_32 ?_
                      refine lv_iload_n (pc := 280) hx hb dX12_holds_280 rfl (lv_at hl 6 rfl) ?_
                      refine lv_iadd (pc := 281) hx hb dX12_holds_281 ?_
                      obtain ⟨g57, h⟩ := zGd_e h
                      refine zr_iald (pc := 282) cx hP nM_2 sM_2 g57 dX12_holds_282 ?_
                      refine lv_goto (pc := 283) (tgt := 287) hx hb dX12_holds_283 (by decide) ?_
                      exact kX12_holds_287 hrc cx hr hlk hP h (lv_sub hl [4, 3, 1] rfl)
                  · replace h := zBr_t c48 h
                    refine lv_aload_n (pc := 255) hx hb dX12_holds_255 rfl (lv_at hl 4 rfl) ?_
                    refine lv_iload_n (pc := 256) hx hb dX12_holds_256 rfl (lv_at hl 6 rfl) ?_
                    refine lv_iconst (pc := 257) hx hb dX12_holds_257 zc_1 ?_
                    obtain ⟨r59, k58, h⟩ := zBd_e h
                    refine zr_VI (pc := 258) (rest := []) cx cv_X12_253 (mX12_shownBy k58) ⟨⟨rfl, rfl⟩, by show 2 + 1 ≤ 3 + (d + 1); omega, by show 8 + (5 + 11) + 44 ≤ 68 + 27 * (d + 1); omega⟩ ⟨Nat.le_of_ble_eq_true rfl, Nat.le_of_ble_eq_true rfl⟩ hP nM_0 sM_0 rfl hl.1 rfl rfl (Nat.le_of_ble_eq_true rfl) dX12_holds_258 ?_
                    obtain ⟨r61, k60, h⟩ := zBd_e h
                    refine zr_SI (pc := 261) (rest := []) cx cv_X12_238 (mX12_bits k60) ⟨⟨rfl, rfl⟩, by show 0 + 1 ≤ 3 + (d + 1); omega, by show 8 + (3 + 11) + 0 ≤ 68 + 27 * (d + 1); omega⟩ ⟨Nat.le_of_ble_eq_true rfl, Nat.le_of_ble_eq_true rfl⟩ (zr_preK cx) hl.1 rfl rfl (Nat.le_of_ble_eq_true rfl) dX12_holds_261 ?_
                    refine lv_goto (pc := 264) (tgt := 287) hx hb dX12_holds_264 (by decide) ?_
                    exact kX12_holds_287 hrc cx hr hlk hP h (lv_sub hl [4, 3, 1] rfl)
def gHO : Nat → Nat → zSt → Int32 → Int32 → Option Int32
  | 0 => fun _ _ _ _ => none
  | d + 1 => fun w S v1 v2 => match w with
    | _ => fX12_holds (gHO d) S v1 v2
theorem gHO_ok {l : Launch} {D : va_G} {cy : Nat → ClassId} {q : Nat → Nat} : ∀ d, zRCHO l D cy q d (gHO d) := by
  intro d
  induction d with
  | zero => exact fun S v1 v2 z h => (by cases h)
  | succ d ih => exact fun S v1 v2 z h => mX12_holds ih h
abbrev rmGSR (d : Nat) : Room := { frames := 5 + d, cells := 0, slots := 0, locals := 112 + 23 * d }
def zRCSR (l : Launch) (D : va_G) (cy : Nat → ClassId) (q : Nat → Nat) (A : Nat → Prop) (d : Nat) (rc : Nat → zSt → Option (Int32 × zSt)) : Prop := (∀ (S : zSt)  (z : (Int32 × zSt)), rc 0 S = some z → zMq l yX12_readOr cX12_readOr 2 (some .boolean) (rmGSR d) [.ref (q 0)] zshM zNM D cy q A S z) ∧ (∀ (S : zSt)  (z : (Int32 × zSt)), rc 1 S = some z → zMq l yX12_readAnd cX12_readAnd 2 (some .boolean) (rmGSR d) [.ref (q 0)] zshM zNM D cy q A S z) ∧ (∀ (S : zSt)  (z : (Int32 × zSt)), rc 2 S = some z → zMq l yX12_readSaid cX12_readSaid 4 (some .boolean) (rmGSR d) [.ref (q 0)] zshM zNM D cy q A S z) ∧ (∀ (S : zSt)  (z : (Int32 × zSt)), rc 3 S = some z → zMq l yX12_readNot cX12_readNot 1 (some .boolean) (rmGSR d) [.ref (q 0)] zshM zNM D cy q A S z) ∧ (∀ (S : zSt)  (z : (Int32 × zSt)), rc 4 S = some z → zMq l yX12_readBracket cX12_readBracket 1 (some .boolean) (rmGSR d) [.ref (q 0)] zshM zNM D cy q A S z)
-- X12_readOr
def fX12_readOr_14 (rc : Nat → zSt → Option (Int32 × zSt))  (t : (zSt × Int32)) : Option ((zSt × Int32) ⊕ (Int32 × zSt)) :=
  match t with
  | (S, v1) => zBd (fX12_isWord S (11 : Int32)) (fun r7 => zBr (r7 = 0) (zXr (zLt (zI S 0 44 v1) (fun S10 => some ((1 : Int32), S10)))) (zBd (fX12_go S) (fun S12 => zBp (rc 1 S12) (fun r15 S14 => zBr (r15 = 0) (zXr (some ((0 : Int32), S14))) (zBp (fX12_saysOne S14 (3 : Int32) v1 (S14.1 0 44) (0 : Int32)) (fun r19 S18 => some (.inl (S18, r19))))))))
set_option maxHeartbeats 4000000 in
set_option maxRecDepth 100000 in
theorem kX12_readOr_14B {p : Program} {l : Launch} {e : Env} {s : State} {m : MethodId} {args : Array Value} {below : List Frame} {meth : Method} {c : Code} {D : va_G} {cy : Nat → ClassId} {q : Nat → Nat} {A : Nat → Prop} {d : Nat} {rc : Nat → zSt → Option (Int32 × zSt)} (hrc : zRCSR l D cy q A d rc) (cx : zX RX12 cX12_readOr 2 p s m args c D cy) (hr : meth.sig.returnType = (some .boolean)) (hlk : meth.locks = false) (hq : zQ A q zNM) {z : (Int32 × zSt)} {S : zSt} {v1 : Int32} {C1 : ((zSt × Int32) ⊕ (Int32 × zSt)) → Prop} (hb1 : ∀ (S : zSt) (v1 : Int32), C1 (.inl (S, v1)) → ∀ (H : Heap) (locs : List Loc), va_P D vwCl (zW zshM zNM cy q S) H → va_S A s.heap H locs → ∀ (ls : Array Slot), lv_has ls 2 [(0, .ref (q 0)), (1, .int v1)] → W p l e (rmGSR (d + 1)) s m args below meth c H locs 0 0 (MQ below (va_Qi (fun (r : Int32) (u : zSt) => (r, u) = z) (fun u t => va_P D vwCl (zW zshM zNM cy q u) t.heap) A) args s 0 0 A) (F0 m 14 ls [])) (hx1 : ∀ a, C1 (.inr a) → a = z) {x : ((zSt × Int32) ⊕ (Int32 × zSt))} (h : fX12_readOr_14 rc (S, v1) = some x) (hc : C1 x) {H : Heap} {locs : List Loc} (hP : va_P D vwCl (zW zshM zNM cy q S) H) (hS : va_S A s.heap H locs) {ls : Array Slot} (hl : lv_has ls 2 [(0, .ref (q 0)), (1, .int v1)]) : W p l e (rmGSR (d + 1)) s m args below meth c H locs 0 0 (MQ below (va_Qi (fun (r : Int32) (u : zSt) => (r, u) = z) (fun u t => va_P D vwCl (zW zshM zNM cy q u) t.heap) A) args s 0 0 A) (F0 m 14 ls []) := by
  have hx := cx.1
  have hb := cx.2.1
  unfold fX12_readOr_14 at h
  dsimp only at h
  refine lv_aload_n (pc := 14) hx hb dX12_readOr_14 rfl (lv_at hl 0 rfl) ?_
  refine lv_bipush (pc := 15) hx hb dX12_readOr_15 zb_11 ?_
  obtain ⟨r7, k6, h⟩ := zBd_e h
  refine zr_VI (pc := 17) (rest := []) cx cv_X12_191 (mX12_isWord k6) ⟨⟨rfl, rfl⟩, by show 2 + 1 ≤ 5 + (d + 1); omega, by show 8 + (2 + 11) + 48 ≤ 112 + 23 * (d + 1); omega⟩ ⟨Nat.le_of_ble_eq_true rfl, Nat.le_of_ble_eq_true rfl⟩ hP nM_0 sM_0 rfl hl.1 rfl rfl (Nat.le_of_ble_eq_true rfl) dX12_readOr_17 ?_
  refine lv_if_eq (pc := 20) (tgt := 51) hx hb dX12_readOr_20 (by decide) (fun c8 => ?_) (fun c8 => ?_)
  · replace h := zBr_t c8 h
    obtain ⟨y9, h, ex⟩ := zXr_e h
    have hc := hx1 y9 (by rw [ex] at hc; exact hc)
    rw [hc] at h
    refine lv_aload_n (pc := 51) hx hb dX12_readOr_51 rfl (lv_at hl 0 rfl) ?_
    refine lv_iload_n (pc := 52) hx hb dX12_readOr_52 rfl (lv_at hl 1 rfl) ?_
    obtain ⟨S10, eS10, h⟩ := zLt_e h
    refine zr_putI (pc := 53) cx lq_X12_409 hq hP hS nM_0 sM_0 rfl rfl rfl dX12_readOr_53 (fun H locs hP hS => ?_)
    rw [← eS10] at hP
    refine lv_iconst (pc := 56) hx hb dX12_readOr_56 zc_1 ?_
    have hz := Option.some.inj h
    exact zr_rqZ (pc := 57) cx hr hlk hP hS hz (by decide) dX12_readOr_57
  · replace h := zBr_f c8 h
    refine lv_aload_n (pc := 23) hx hb dX12_readOr_23 rfl (lv_at hl 0 rfl) ?_
    obtain ⟨S12, k11, h⟩ := zBd_e h
    refine zr_VV (pc := 24) (rest := []) cx cv_X12_82 (mX12_go hq k11) ⟨⟨rfl, rfl⟩, by show 1 + 1 ≤ 5 + (d + 1); omega, by show 8 + (5 + 11) + 21 ≤ 112 + 23 * (d + 1); omega⟩ ⟨Nat.le_of_ble_eq_true rfl, Nat.le_of_ble_eq_true rfl⟩ hP hS nM_0 sM_0 rfl hl.1 rfl rfl (Nat.le_of_ble_eq_true rfl) dX12_readOr_24 (fun H locs hP hS => ?_)
    refine lv_aload_n (pc := 27) hx hb dX12_readOr_27 rfl (lv_at hl 0 rfl) ?_
    obtain ⟨r15, S14, k13, h⟩ := zBp_e h
    refine zr_VQ (pc := 28) (rest := []) cx cv_X12_406 (hrc.2.1 _ _ k13) ⟨⟨rfl, rfl⟩, by show (5 + d) + 1 ≤ 5 + (d + 1); omega, by show 8 + (2 + 11) + (112 + 23 * d) ≤ 112 + 23 * (d + 1); omega⟩ ⟨Nat.le_of_ble_eq_true rfl, Nat.le_of_ble_eq_true rfl⟩ hP hS nM_0 sM_0 rfl hl.1 rfl rfl (Nat.le_of_ble_eq_true rfl) dX12_readOr_28 (fun H locs hP hS => ?_)
    refine lv_if_ne (pc := 31) (tgt := 36) hx hb dX12_readOr_31 (by decide) (fun c16 => ?_) (fun c16 => ?_)
    · replace h := zBr_f c16 h
      refine lv_aload_n (pc := 36) hx hb dX12_readOr_36 rfl (lv_at hl 0 rfl) ?_
      refine lv_iconst (pc := 37) hx hb dX12_readOr_37 zc_3 ?_
      refine lv_iload_n (pc := 38) hx hb dX12_readOr_38 rfl (lv_at hl 1 rfl) ?_
      refine lv_aload_n (pc := 39) hx hb dX12_readOr_39 rfl (lv_at hl 0 rfl) ?_
      refine zr_getI (pc := 40) cx lk_X12_409 hP nM_0 sM_0 rfl dX12_readOr_40 ?_
      refine lv_iconst (pc := 43) hx hb dX12_readOr_43 zc_0 ?_
      obtain ⟨r19, S18, k17, h⟩ := zBp_e h
      refine zr_VQ (pc := 44) (rest := []) cx cv_X12_412 (mX12_saysOne hq k17) ⟨⟨rfl, rfl⟩, by show 0 + 1 ≤ 5 + (d + 1); omega, by show 8 + (6 + 11) + 0 ≤ 112 + 23 * (d + 1); omega⟩ ⟨Nat.le_of_ble_eq_true rfl, Nat.le_of_ble_eq_true rfl⟩ hP hS nM_0 sM_0 rfl hl.1 rfl rfl (Nat.le_of_ble_eq_true rfl) dX12_readOr_44 (fun H locs hP hS => ?_)
      refine lv_istore_n (lv' := [(1, .int r19), (0, .ref (q 0))]) (pc := 47) hx hb dX12_readOr_47 rfl hl (by decide) rfl (fun ls hl => ?_)
      refine lv_goto (pc := 48) (tgt := 14) hx hb dX12_readOr_48 (by decide) ?_
      cases h
      exact hb1 _ _ hc _ _ hP hS _ (lv_sub hl [1, 0] rfl)
    · replace h := zBr_t c16 h
      obtain ⟨y20, h, ex⟩ := zXr_e h
      have hc := hx1 y20 (by rw [ex] at hc; exact hc)
      rw [hc] at h
      refine lv_iconst (pc := 34) hx hb dX12_readOr_34 zc_0 ?_
      have hz := Option.some.inj h
      exact zr_rqZ (pc := 35) cx hr hlk hP hS hz (by decide) dX12_readOr_35
set_option maxHeartbeats 4000000 in
set_option maxRecDepth 100000 in
theorem kX12_readOr_14 {p : Program} {l : Launch} {e : Env} {s : State} {m : MethodId} {args : Array Value} {below : List Frame} {meth : Method} {c : Code} {D : va_G} {cy : Nat → ClassId} {q : Nat → Nat} {A : Nat → Prop} {d : Nat} {rc : Nat → zSt → Option (Int32 × zSt)} (hrc : zRCSR l D cy q A d rc) (cx : zX RX12 cX12_readOr 2 p s m args c D cy) (hr : meth.sig.returnType = (some .boolean)) (hlk : meth.locks = false) (hq : zQ A q zNM) {z : (Int32 × zSt)} : ∀ (n : Nat) (S : zSt) (v1 : Int32), zLp (fX12_readOr_14 rc) n (S, v1) = some z → ∀ (H : Heap) (locs : List Loc), va_P D vwCl (zW zshM zNM cy q S) H → va_S A s.heap H locs → ∀ (ls : Array Slot), lv_has ls 2 [(0, .ref (q 0)), (1, .int v1)] → W p l e (rmGSR (d + 1)) s m args below meth c H locs 0 0 (MQ below (va_Qi (fun (r : Int32) (u : zSt) => (r, u) = z) (fun u t => va_P D vwCl (zW zshM zNM cy q u) t.heap) A) args s 0 0 A) (F0 m 14 ls []) := by
  intro n
  induction n with
  | zero =>
    intro S v1 h
    cases h
  | succ n ih =>
    intro S v1 h H locs hP hS ls hl
    obtain ⟨x, h, hk⟩ := zLp_e h
    exact kX12_readOr_14B hrc cx hr hlk hq  (C1 := zKt (fun t => zLp (fX12_readOr_14 rc) n t = some z) (fun a => a = z)) (fun S v1 ht H locs hP hS ls hl => ih S v1 ht H locs hP hS ls hl) (fun a ha => ha) h hk hP hS hl
def fX12_readOr (rc : Nat → zSt → Option (Int32 × zSt)) (S : zSt) : Option (Int32 × zSt) :=
  zBp (rc 1 S) (fun r3 S2 => zBr (r3 = 0) (some ((0 : Int32), S2)) (zLt (S2.1 0 44) (fun x5 => zLp (fX12_readOr_14 rc) 2000 (S2, x5))))
set_option maxHeartbeats 4000000 in
set_option maxRecDepth 100000 in
theorem mX12_readOr {l : Launch} {D : va_G} {cy : Nat → ClassId} {q : Nat → Nat} {A : Nat → Prop} {S : zSt} {d : Nat} {rc : Nat → zSt → Option (Int32 × zSt)} (hrc : zRCSR l D cy q A d rc) (hq : zQ A q zNM) {z : (Int32 × zSt)} (h : fX12_readOr rc S = some z) : zMq l yX12_readOr cX12_readOr 2 (some .boolean) (rmGSR (d + 1)) [.ref (q 0)] zshM zNM D cy q A S z := by
  refine Met.ofW (cc := cX12_readOr) (maxL := 2) (ret := (some .boolean)) (by decide) rfl ?_
  intro p e s m args below meth c s₁ B hml hv
  obtain ⟨rfl, hP, hK⟩ := hv
  have cx : zX RX12 cX12_readOr 2 p s m ([.ref (q 0)]).toArray c D cy := ⟨B.exec, B.bytes, hml, findClass_of_methodNamed B.named, fun w hw => atoms_spec (ws := Cond.code yX12_readOr cX12_readOr 2 (some .boolean) :: zTB) B.pre w (List.mem_cons_of_mem _ hw), hK⟩
  have hx := cx.1
  have hb := cx.2.1
  have hr := B.returns
  have hlk := B.notSynchronized
  have hS : va_S A s.heap s.heap [] := va_S.rf
  have hl := lv_entry ([.ref (q 0)]) (n := 2) (Nat.le_of_ble_eq_true rfl)
  rw [lg_entry_eq]
  generalize (lg_sl ([.ref (q 0)]) ++ List.replicate (2 - (lg_sl ([.ref (q 0)])).length) Slot.unset).toArray = ls at hl ⊢
  have hl : lv_has ls 2 [(0, .ref (q 0))] := hl
  unfold fX12_readOr at h
  refine lv_aload_n (pc := 0) hx hb dX12_readOr_0 rfl (lv_at hl 0 rfl) ?_
  obtain ⟨r3, S2, k1, h⟩ := zBp_e h
  refine zr_VQ (pc := 1) (rest := []) cx cv_X12_406 (hrc.2.1 _ _ k1) ⟨⟨rfl, rfl⟩, by show (5 + d) + 1 ≤ 5 + (d + 1); omega, by show 8 + (2 + 11) + (112 + 23 * d) ≤ 112 + 23 * (d + 1); omega⟩ ⟨Nat.le_of_ble_eq_true rfl, Nat.le_of_ble_eq_true rfl⟩ hP hS nM_0 sM_0 rfl hl.1 rfl rfl (Nat.le_of_ble_eq_true rfl) dX12_readOr_1 (fun H locs hP hS => ?_)
  refine lv_if_ne (pc := 4) (tgt := 9) hx hb dX12_readOr_4 (by decide) (fun c4 => ?_) (fun c4 => ?_)
  · replace h := zBr_f c4 h
    refine lv_aload_n (pc := 9) hx hb dX12_readOr_9 rfl (lv_at hl 0 rfl) ?_
    refine zr_getI (pc := 10) cx lk_X12_409 hP nM_0 sM_0 rfl dX12_readOr_10 ?_
    obtain ⟨x5, ex5, h⟩ := zLt_e h
    refine zr_nmI ex5 ?_
    refine lv_istore_n (lv' := [(1, .int x5), (0, .ref (q 0))]) (pc := 13) hx hb dX12_readOr_13 rfl hl (by decide) rfl (fun ls hl => ?_)
    exact kX12_readOr_14 hrc cx hr hlk hq 2000 _ _ h _ _ hP hS _ (lv_sub hl [1, 0] rfl)
  · replace h := zBr_t c4 h
    refine lv_iconst (pc := 7) hx hb dX12_readOr_7 zc_0 ?_
    have hz := Option.some.inj h
    exact zr_rqZ (pc := 8) cx hr hlk hP hS hz (by decide) dX12_readOr_8
-- X12_readAnd
def fX12_readAnd_14 (rc : Nat → zSt → Option (Int32 × zSt))  (t : (zSt × Int32)) : Option ((zSt × Int32) ⊕ (Int32 × zSt)) :=
  match t with
  | (S, v1) => zBd (fX12_isWord S (12 : Int32)) (fun r7 => zBr (r7 = 0) (zXr (zLt (zI S 0 44 v1) (fun S10 => some ((1 : Int32), S10)))) (zBd (fX12_go S) (fun S12 => zBp (rc 2 S12) (fun r15 S14 => zBr (r15 = 0) (zXr (some ((0 : Int32), S14))) (zBp (fX12_saysOne S14 (2 : Int32) v1 (S14.1 0 44) (0 : Int32)) (fun r19 S18 => some (.inl (S18, r19))))))))
set_option maxHeartbeats 4000000 in
set_option maxRecDepth 100000 in
theorem kX12_readAnd_14B {p : Program} {l : Launch} {e : Env} {s : State} {m : MethodId} {args : Array Value} {below : List Frame} {meth : Method} {c : Code} {D : va_G} {cy : Nat → ClassId} {q : Nat → Nat} {A : Nat → Prop} {d : Nat} {rc : Nat → zSt → Option (Int32 × zSt)} (hrc : zRCSR l D cy q A d rc) (cx : zX RX12 cX12_readAnd 2 p s m args c D cy) (hr : meth.sig.returnType = (some .boolean)) (hlk : meth.locks = false) (hq : zQ A q zNM) {z : (Int32 × zSt)} {S : zSt} {v1 : Int32} {C1 : ((zSt × Int32) ⊕ (Int32 × zSt)) → Prop} (hb1 : ∀ (S : zSt) (v1 : Int32), C1 (.inl (S, v1)) → ∀ (H : Heap) (locs : List Loc), va_P D vwCl (zW zshM zNM cy q S) H → va_S A s.heap H locs → ∀ (ls : Array Slot), lv_has ls 2 [(0, .ref (q 0)), (1, .int v1)] → W p l e (rmGSR (d + 1)) s m args below meth c H locs 0 0 (MQ below (va_Qi (fun (r : Int32) (u : zSt) => (r, u) = z) (fun u t => va_P D vwCl (zW zshM zNM cy q u) t.heap) A) args s 0 0 A) (F0 m 14 ls [])) (hx1 : ∀ a, C1 (.inr a) → a = z) {x : ((zSt × Int32) ⊕ (Int32 × zSt))} (h : fX12_readAnd_14 rc (S, v1) = some x) (hc : C1 x) {H : Heap} {locs : List Loc} (hP : va_P D vwCl (zW zshM zNM cy q S) H) (hS : va_S A s.heap H locs) {ls : Array Slot} (hl : lv_has ls 2 [(0, .ref (q 0)), (1, .int v1)]) : W p l e (rmGSR (d + 1)) s m args below meth c H locs 0 0 (MQ below (va_Qi (fun (r : Int32) (u : zSt) => (r, u) = z) (fun u t => va_P D vwCl (zW zshM zNM cy q u) t.heap) A) args s 0 0 A) (F0 m 14 ls []) := by
  have hx := cx.1
  have hb := cx.2.1
  unfold fX12_readAnd_14 at h
  dsimp only at h
  refine lv_aload_n (pc := 14) hx hb dX12_readAnd_14 rfl (lv_at hl 0 rfl) ?_
  refine lv_bipush (pc := 15) hx hb dX12_readAnd_15 zb_12 ?_
  obtain ⟨r7, k6, h⟩ := zBd_e h
  refine zr_VI (pc := 17) (rest := []) cx cv_X12_191 (mX12_isWord k6) ⟨⟨rfl, rfl⟩, by show 2 + 1 ≤ 5 + (d + 1); omega, by show 8 + (2 + 11) + 48 ≤ 112 + 23 * (d + 1); omega⟩ ⟨Nat.le_of_ble_eq_true rfl, Nat.le_of_ble_eq_true rfl⟩ hP nM_0 sM_0 rfl hl.1 rfl rfl (Nat.le_of_ble_eq_true rfl) dX12_readAnd_17 ?_
  refine lv_if_eq (pc := 20) (tgt := 51) hx hb dX12_readAnd_20 (by decide) (fun c8 => ?_) (fun c8 => ?_)
  · replace h := zBr_t c8 h
    obtain ⟨y9, h, ex⟩ := zXr_e h
    have hc := hx1 y9 (by rw [ex] at hc; exact hc)
    rw [hc] at h
    refine lv_aload_n (pc := 51) hx hb dX12_readAnd_51 rfl (lv_at hl 0 rfl) ?_
    refine lv_iload_n (pc := 52) hx hb dX12_readAnd_52 rfl (lv_at hl 1 rfl) ?_
    obtain ⟨S10, eS10, h⟩ := zLt_e h
    refine zr_putI (pc := 53) cx lq_X12_409 hq hP hS nM_0 sM_0 rfl rfl rfl dX12_readAnd_53 (fun H locs hP hS => ?_)
    rw [← eS10] at hP
    refine lv_iconst (pc := 56) hx hb dX12_readAnd_56 zc_1 ?_
    have hz := Option.some.inj h
    exact zr_rqZ (pc := 57) cx hr hlk hP hS hz (by decide) dX12_readAnd_57
  · replace h := zBr_f c8 h
    refine lv_aload_n (pc := 23) hx hb dX12_readAnd_23 rfl (lv_at hl 0 rfl) ?_
    obtain ⟨S12, k11, h⟩ := zBd_e h
    refine zr_VV (pc := 24) (rest := []) cx cv_X12_82 (mX12_go hq k11) ⟨⟨rfl, rfl⟩, by show 1 + 1 ≤ 5 + (d + 1); omega, by show 8 + (5 + 11) + 21 ≤ 112 + 23 * (d + 1); omega⟩ ⟨Nat.le_of_ble_eq_true rfl, Nat.le_of_ble_eq_true rfl⟩ hP hS nM_0 sM_0 rfl hl.1 rfl rfl (Nat.le_of_ble_eq_true rfl) dX12_readAnd_24 (fun H locs hP hS => ?_)
    refine lv_aload_n (pc := 27) hx hb dX12_readAnd_27 rfl (lv_at hl 0 rfl) ?_
    obtain ⟨r15, S14, k13, h⟩ := zBp_e h
    refine zr_VQ (pc := 28) (rest := []) cx cv_X12_416 (hrc.2.2.1 _ _ k13) ⟨⟨rfl, rfl⟩, by show (5 + d) + 1 ≤ 5 + (d + 1); omega, by show 8 + (4 + 11) + (112 + 23 * d) ≤ 112 + 23 * (d + 1); omega⟩ ⟨Nat.le_of_ble_eq_true rfl, Nat.le_of_ble_eq_true rfl⟩ hP hS nM_0 sM_0 rfl hl.1 rfl rfl (Nat.le_of_ble_eq_true rfl) dX12_readAnd_28 (fun H locs hP hS => ?_)
    refine lv_if_ne (pc := 31) (tgt := 36) hx hb dX12_readAnd_31 (by decide) (fun c16 => ?_) (fun c16 => ?_)
    · replace h := zBr_f c16 h
      refine lv_aload_n (pc := 36) hx hb dX12_readAnd_36 rfl (lv_at hl 0 rfl) ?_
      refine lv_iconst (pc := 37) hx hb dX12_readAnd_37 zc_2 ?_
      refine lv_iload_n (pc := 38) hx hb dX12_readAnd_38 rfl (lv_at hl 1 rfl) ?_
      refine lv_aload_n (pc := 39) hx hb dX12_readAnd_39 rfl (lv_at hl 0 rfl) ?_
      refine zr_getI (pc := 40) cx lk_X12_409 hP nM_0 sM_0 rfl dX12_readAnd_40 ?_
      refine lv_iconst (pc := 43) hx hb dX12_readAnd_43 zc_0 ?_
      obtain ⟨r19, S18, k17, h⟩ := zBp_e h
      refine zr_VQ (pc := 44) (rest := []) cx cv_X12_412 (mX12_saysOne hq k17) ⟨⟨rfl, rfl⟩, by show 0 + 1 ≤ 5 + (d + 1); omega, by show 8 + (6 + 11) + 0 ≤ 112 + 23 * (d + 1); omega⟩ ⟨Nat.le_of_ble_eq_true rfl, Nat.le_of_ble_eq_true rfl⟩ hP hS nM_0 sM_0 rfl hl.1 rfl rfl (Nat.le_of_ble_eq_true rfl) dX12_readAnd_44 (fun H locs hP hS => ?_)
      refine lv_istore_n (lv' := [(1, .int r19), (0, .ref (q 0))]) (pc := 47) hx hb dX12_readAnd_47 rfl hl (by decide) rfl (fun ls hl => ?_)
      refine lv_goto (pc := 48) (tgt := 14) hx hb dX12_readAnd_48 (by decide) ?_
      cases h
      exact hb1 _ _ hc _ _ hP hS _ (lv_sub hl [1, 0] rfl)
    · replace h := zBr_t c16 h
      obtain ⟨y20, h, ex⟩ := zXr_e h
      have hc := hx1 y20 (by rw [ex] at hc; exact hc)
      rw [hc] at h
      refine lv_iconst (pc := 34) hx hb dX12_readAnd_34 zc_0 ?_
      have hz := Option.some.inj h
      exact zr_rqZ (pc := 35) cx hr hlk hP hS hz (by decide) dX12_readAnd_35
set_option maxHeartbeats 4000000 in
set_option maxRecDepth 100000 in
theorem kX12_readAnd_14 {p : Program} {l : Launch} {e : Env} {s : State} {m : MethodId} {args : Array Value} {below : List Frame} {meth : Method} {c : Code} {D : va_G} {cy : Nat → ClassId} {q : Nat → Nat} {A : Nat → Prop} {d : Nat} {rc : Nat → zSt → Option (Int32 × zSt)} (hrc : zRCSR l D cy q A d rc) (cx : zX RX12 cX12_readAnd 2 p s m args c D cy) (hr : meth.sig.returnType = (some .boolean)) (hlk : meth.locks = false) (hq : zQ A q zNM) {z : (Int32 × zSt)} : ∀ (n : Nat) (S : zSt) (v1 : Int32), zLp (fX12_readAnd_14 rc) n (S, v1) = some z → ∀ (H : Heap) (locs : List Loc), va_P D vwCl (zW zshM zNM cy q S) H → va_S A s.heap H locs → ∀ (ls : Array Slot), lv_has ls 2 [(0, .ref (q 0)), (1, .int v1)] → W p l e (rmGSR (d + 1)) s m args below meth c H locs 0 0 (MQ below (va_Qi (fun (r : Int32) (u : zSt) => (r, u) = z) (fun u t => va_P D vwCl (zW zshM zNM cy q u) t.heap) A) args s 0 0 A) (F0 m 14 ls []) := by
  intro n
  induction n with
  | zero =>
    intro S v1 h
    cases h
  | succ n ih =>
    intro S v1 h H locs hP hS ls hl
    obtain ⟨x, h, hk⟩ := zLp_e h
    exact kX12_readAnd_14B hrc cx hr hlk hq  (C1 := zKt (fun t => zLp (fX12_readAnd_14 rc) n t = some z) (fun a => a = z)) (fun S v1 ht H locs hP hS ls hl => ih S v1 ht H locs hP hS ls hl) (fun a ha => ha) h hk hP hS hl
def fX12_readAnd (rc : Nat → zSt → Option (Int32 × zSt)) (S : zSt) : Option (Int32 × zSt) :=
  zBp (rc 2 S) (fun r3 S2 => zBr (r3 = 0) (some ((0 : Int32), S2)) (zLt (S2.1 0 44) (fun x5 => zLp (fX12_readAnd_14 rc) 2000 (S2, x5))))
set_option maxHeartbeats 4000000 in
set_option maxRecDepth 100000 in
theorem mX12_readAnd {l : Launch} {D : va_G} {cy : Nat → ClassId} {q : Nat → Nat} {A : Nat → Prop} {S : zSt} {d : Nat} {rc : Nat → zSt → Option (Int32 × zSt)} (hrc : zRCSR l D cy q A d rc) (hq : zQ A q zNM) {z : (Int32 × zSt)} (h : fX12_readAnd rc S = some z) : zMq l yX12_readAnd cX12_readAnd 2 (some .boolean) (rmGSR (d + 1)) [.ref (q 0)] zshM zNM D cy q A S z := by
  refine Met.ofW (cc := cX12_readAnd) (maxL := 2) (ret := (some .boolean)) (by decide) rfl ?_
  intro p e s m args below meth c s₁ B hml hv
  obtain ⟨rfl, hP, hK⟩ := hv
  have cx : zX RX12 cX12_readAnd 2 p s m ([.ref (q 0)]).toArray c D cy := ⟨B.exec, B.bytes, hml, findClass_of_methodNamed B.named, fun w hw => atoms_spec (ws := Cond.code yX12_readAnd cX12_readAnd 2 (some .boolean) :: zTB) B.pre w (List.mem_cons_of_mem _ hw), hK⟩
  have hx := cx.1
  have hb := cx.2.1
  have hr := B.returns
  have hlk := B.notSynchronized
  have hS : va_S A s.heap s.heap [] := va_S.rf
  have hl := lv_entry ([.ref (q 0)]) (n := 2) (Nat.le_of_ble_eq_true rfl)
  rw [lg_entry_eq]
  generalize (lg_sl ([.ref (q 0)]) ++ List.replicate (2 - (lg_sl ([.ref (q 0)])).length) Slot.unset).toArray = ls at hl ⊢
  have hl : lv_has ls 2 [(0, .ref (q 0))] := hl
  unfold fX12_readAnd at h
  refine lv_aload_n (pc := 0) hx hb dX12_readAnd_0 rfl (lv_at hl 0 rfl) ?_
  obtain ⟨r3, S2, k1, h⟩ := zBp_e h
  refine zr_VQ (pc := 1) (rest := []) cx cv_X12_416 (hrc.2.2.1 _ _ k1) ⟨⟨rfl, rfl⟩, by show (5 + d) + 1 ≤ 5 + (d + 1); omega, by show 8 + (4 + 11) + (112 + 23 * d) ≤ 112 + 23 * (d + 1); omega⟩ ⟨Nat.le_of_ble_eq_true rfl, Nat.le_of_ble_eq_true rfl⟩ hP hS nM_0 sM_0 rfl hl.1 rfl rfl (Nat.le_of_ble_eq_true rfl) dX12_readAnd_1 (fun H locs hP hS => ?_)
  refine lv_if_ne (pc := 4) (tgt := 9) hx hb dX12_readAnd_4 (by decide) (fun c4 => ?_) (fun c4 => ?_)
  · replace h := zBr_f c4 h
    refine lv_aload_n (pc := 9) hx hb dX12_readAnd_9 rfl (lv_at hl 0 rfl) ?_
    refine zr_getI (pc := 10) cx lk_X12_409 hP nM_0 sM_0 rfl dX12_readAnd_10 ?_
    obtain ⟨x5, ex5, h⟩ := zLt_e h
    refine zr_nmI ex5 ?_
    refine lv_istore_n (lv' := [(1, .int x5), (0, .ref (q 0))]) (pc := 13) hx hb dX12_readAnd_13 rfl hl (by decide) rfl (fun ls hl => ?_)
    exact kX12_readAnd_14 hrc cx hr hlk hq 2000 _ _ h _ _ hP hS _ (lv_sub hl [1, 0] rfl)
  · replace h := zBr_t c4 h
    refine lv_iconst (pc := 7) hx hb dX12_readAnd_7 zc_0 ?_
    have hz := Option.some.inj h
    exact zr_rqZ (pc := 8) cx hr hlk hP hS hz (by decide) dX12_readAnd_8
-- X12_readSaid
def fX12_readSaid_64 (rc : Nat → zSt → Option (Int32 × zSt)) (S : zSt)  : Option (Int32 × zSt) :=
  zBp (fX12_bad S (4 : Int32)) (fun r9 S8 => zGd (zBo r9) (some (r9, S8)))
set_option maxHeartbeats 4000000 in
set_option maxRecDepth 100000 in
theorem kX12_readSaid_64 {p : Program} {l : Launch} {e : Env} {s : State} {m : MethodId} {args : Array Value} {below : List Frame} {meth : Method} {c : Code} {D : va_G} {cy : Nat → ClassId} {q : Nat → Nat} {A : Nat → Prop} {d : Nat} {rc : Nat → zSt → Option (Int32 × zSt)} (hrc : zRCSR l D cy q A d rc) (cx : zX RX12 cX12_readSaid 4 p s m args c D cy) (hr : meth.sig.returnType = (some .boolean)) (hlk : meth.locks = false) (hq : zQ A q zNM) {z : (Int32 × zSt)} {S : zSt} (h : fX12_readSaid_64 rc S = some z) {H : Heap} {locs : List Loc} (hP : va_P D vwCl (zW zshM zNM cy q S) H) (hS : va_S A s.heap H locs) {ls : Array Slot} (hl : lv_has ls 4 [(0, .ref (q 0))]) : W p l e (rmGSR (d + 1)) s m args below meth c H locs 0 0 (MQ below (va_Qi (fun (r : Int32) (u : zSt) => (r, u) = z) (fun u t => va_P D vwCl (zW zshM zNM cy q u) t.heap) A) args s 0 0 A) (F0 m 64 ls []) := by
  have hx := cx.1
  have hb := cx.2.1
  unfold fX12_readSaid_64 at h
  refine lv_aload_n (pc := 64) hx hb dX12_readSaid_64 rfl (lv_at hl 0 rfl) ?_
  refine lv_iconst (pc := 65) hx hb dX12_readSaid_65 zc_4 ?_
  obtain ⟨r9, S8, k7, h⟩ := zBp_e h
  refine zr_VQ (pc := 66) (rest := []) cx cv_X12_72 (mX12_bad hq k7) ⟨⟨rfl, rfl⟩, by show 0 + 1 ≤ 5 + (d + 1); omega, by show 8 + (2 + 11) + 0 ≤ 112 + 23 * (d + 1); omega⟩ ⟨Nat.le_of_ble_eq_true rfl, Nat.le_of_ble_eq_true rfl⟩ hP hS nM_0 sM_0 rfl hl.1 rfl rfl (Nat.le_of_ble_eq_true rfl) dX12_readSaid_66 (fun H locs hP hS => ?_)
  obtain ⟨g10, h⟩ := zGd_e h
  have hz := Option.some.inj h
  exact zr_rqZ (pc := 69) cx hr hlk hP hS hz g10 dX12_readSaid_69
def fX12_readSaid_166 (rc : Nat → zSt → Option (Int32 × zSt)) (S : zSt)  (v3 : Int32) : Option (Int32 × zSt) :=
  zLt (zI S 0 43 ((S.1 0 43) - (1 : Int32))) (fun S23 => zGd (zBo v3) (some (v3, S23)))
set_option maxHeartbeats 4000000 in
set_option maxRecDepth 100000 in
theorem kX12_readSaid_166 {p : Program} {l : Launch} {e : Env} {s : State} {m : MethodId} {args : Array Value} {below : List Frame} {meth : Method} {c : Code} {D : va_G} {cy : Nat → ClassId} {q : Nat → Nat} {A : Nat → Prop} {d : Nat} {rc : Nat → zSt → Option (Int32 × zSt)} (hrc : zRCSR l D cy q A d rc) (cx : zX RX12 cX12_readSaid 4 p s m args c D cy) (hr : meth.sig.returnType = (some .boolean)) (hlk : meth.locks = false) (hq : zQ A q zNM) {z : (Int32 × zSt)} {S : zSt} {v3 : Int32} (h : fX12_readSaid_166 rc S v3 = some z) {H : Heap} {locs : List Loc} (hP : va_P D vwCl (zW zshM zNM cy q S) H) (hS : va_S A s.heap H locs) {ls : Array Slot} (hl : lv_has ls 4 [(0, .ref (q 0)), (3, .int v3)]) : W p l e (rmGSR (d + 1)) s m args below meth c H locs 0 0 (MQ below (va_Qi (fun (r : Int32) (u : zSt) => (r, u) = z) (fun u t => va_P D vwCl (zW zshM zNM cy q u) t.heap) A) args s 0 0 A) (F0 m 166 ls []) := by
  have hx := cx.1
  have hb := cx.2.1
  unfold fX12_readSaid_166 at h
  refine lv_aload_n (pc := 166) hx hb dX12_readSaid_166 rfl (lv_at hl 0 rfl) ?_
  refine lv_dup (pc := 167) hx hb dX12_readSaid_167 rfl ?_
  refine zr_getI (pc := 168) cx lk_X12_422 hP nM_0 sM_0 rfl dX12_readSaid_168 ?_
  refine lv_iconst (pc := 171) hx hb dX12_readSaid_171 zc_1 ?_
  refine lv_isub (pc := 172) hx hb dX12_readSaid_172 ?_
  obtain ⟨S23, eS23, h⟩ := zLt_e h
  refine zr_putI (pc := 173) cx lq_X12_422 hq hP hS nM_0 sM_0 rfl rfl rfl dX12_readSaid_173 (fun H locs hP hS => ?_)
  rw [← eS23] at hP
  refine lv_iload_n (pc := 176) hx hb dX12_readSaid_176 rfl (lv_at hl 1 rfl) ?_
  obtain ⟨g24, h⟩ := zGd_e h
  have hz := Option.some.inj h
  exact zr_rqZ (pc := 177) cx hr hlk hP hS hz g24 dX12_readSaid_177
def fX12_readSaid_165 (rc : Nat → zSt → Option (Int32 × zSt)) (S : zSt)  (t0 : Int32) : Option (Int32 × zSt) :=
  fX12_readSaid_166 rc S t0
set_option maxHeartbeats 4000000 in
set_option maxRecDepth 100000 in
theorem kX12_readSaid_165 {p : Program} {l : Launch} {e : Env} {s : State} {m : MethodId} {args : Array Value} {below : List Frame} {meth : Method} {c : Code} {D : va_G} {cy : Nat → ClassId} {q : Nat → Nat} {A : Nat → Prop} {d : Nat} {rc : Nat → zSt → Option (Int32 × zSt)} (hrc : zRCSR l D cy q A d rc) (cx : zX RX12 cX12_readSaid 4 p s m args c D cy) (hr : meth.sig.returnType = (some .boolean)) (hlk : meth.locks = false) (hq : zQ A q zNM) {z : (Int32 × zSt)} {S : zSt} {t0 : Int32} (h : fX12_readSaid_165 rc S t0 = some z) {H : Heap} {locs : List Loc} (hP : va_P D vwCl (zW zshM zNM cy q S) H) (hS : va_S A s.heap H locs) {ls : Array Slot} (hl : lv_has ls 4 [(0, .ref (q 0))]) : W p l e (rmGSR (d + 1)) s m args below meth c H locs 0 0 (MQ below (va_Qi (fun (r : Int32) (u : zSt) => (r, u) = z) (fun u t => va_P D vwCl (zW zshM zNM cy q u) t.heap) A) args s 0 0 A) (F0 m 165 ls [.int t0]) := by
  have hx := cx.1
  have hb := cx.2.1
  unfold fX12_readSaid_165 at h
  refine lv_istore_n (lv' := [(3, .int t0), (0, .ref (q 0))]) (pc := 165) hx hb dX12_readSaid_165 rfl hl (by decide) rfl (fun ls hl => ?_)
  exact kX12_readSaid_166 hrc cx hr hlk hq h hP hS (lv_sub hl [1, 0] rfl)
def fX12_readSaid_46 (rc : Nat → zSt → Option (Int32 × zSt)) (S : zSt)  (v1 : Int32) (v2 : Int32) : Option (Int32 × zSt) :=
  zBr ((S.1 0 42) = (20 : Int32)) (fX12_readSaid_64 rc S) (zBr ((S.1 0 43) = (8 : Int32)) (fX12_readSaid_64 rc S) (zLt (zI S 0 42 ((S.1 0 42) + (1 : Int32))) (fun S12 => zLt (zI S12 0 43 ((S12.1 0 43) + (1 : Int32))) (fun S13 => zBd (fX12_go S13) (fun S15 => zBr (v1 = 0) (zBr (v2 = (13 : Int32)) (zBp (rc 3 S15) (fun r34 S33 => fX12_readSaid_166 rc S33 r34)) (zBr ((16 : Int32) ≤ v2) (zBr ((19 : Int32) ≤ v2) (zBp (fX12_readCompare S15 v2) (fun r22 S21 => fX12_readSaid_165 rc S21 r22)) (zBp (fX12_readOf S15 v2) (fun r27 S26 => fX12_readSaid_165 rc S26 r27))) (zBp (fX12_saysOne S15 ((50 : Int32) + v2) (0 : Int32) (0 : Int32) (0 : Int32)) (fun r30 S29 => zLt (zI S29 0 44 r30) (fun S31 => fX12_readSaid_166 rc S31 (1 : Int32)))))) (zBp (rc 4 S15) (fun r37 S36 => fX12_readSaid_166 rc S36 r37)))))))
set_option maxHeartbeats 4000000 in
set_option maxRecDepth 100000 in
theorem kX12_readSaid_46 {p : Program} {l : Launch} {e : Env} {s : State} {m : MethodId} {args : Array Value} {below : List Frame} {meth : Method} {c : Code} {D : va_G} {cy : Nat → ClassId} {q : Nat → Nat} {A : Nat → Prop} {d : Nat} {rc : Nat → zSt → Option (Int32 × zSt)} (hrc : zRCSR l D cy q A d rc) (cx : zX RX12 cX12_readSaid 4 p s m args c D cy) (hr : meth.sig.returnType = (some .boolean)) (hlk : meth.locks = false) (hq : zQ A q zNM) {z : (Int32 × zSt)} {S : zSt} {v1 : Int32} {v2 : Int32} (h : fX12_readSaid_46 rc S v1 v2 = some z) {H : Heap} {locs : List Loc} (hP : va_P D vwCl (zW zshM zNM cy q S) H) (hS : va_S A s.heap H locs) {ls : Array Slot} (hl : lv_has ls 4 [(0, .ref (q 0)), (1, .int v1), (2, .int v2)]) : W p l e (rmGSR (d + 1)) s m args below meth c H locs 0 0 (MQ below (va_Qi (fun (r : Int32) (u : zSt) => (r, u) = z) (fun u t => va_P D vwCl (zW zshM zNM cy q u) t.heap) A) args s 0 0 A) (F0 m 46 ls []) := by
  have hx := cx.1
  have hb := cx.2.1
  unfold fX12_readSaid_46 at h
  refine lv_aload_n (pc := 46) hx hb dX12_readSaid_46 rfl (lv_at hl 0 rfl) ?_
  refine zr_getI (pc := 47) cx lk_X12_419 hP nM_0 sM_0 rfl dX12_readSaid_47 ?_
  refine lv_bipush (pc := 50) hx hb dX12_readSaid_50 zb_20 ?_
  refine lv_icmp_eq (pc := 52) (tgt := 64) hx hb dX12_readSaid_52 (by decide) (fun c6 => ?_) (fun c6 => ?_)
  · replace h := zBr_t c6 h
    exact kX12_readSaid_64 hrc cx hr hlk hq h hP hS (lv_sub hl [0] rfl)
  · replace h := zBr_f c6 h
    refine lv_aload_n (pc := 55) hx hb dX12_readSaid_55 rfl (lv_at hl 0 rfl) ?_
    refine zr_getI (pc := 56) cx lk_X12_422 hP nM_0 sM_0 rfl dX12_readSaid_56 ?_
    refine lv_bipush (pc := 59) hx hb dX12_readSaid_59 zb_8 ?_
    refine lv_icmp_ne (pc := 61) (tgt := 70) hx hb dX12_readSaid_61 (by decide) (fun c11 => ?_) (fun c11 => ?_)
    · replace h := zBr_f c11 h
      refine lv_aload_n (pc := 70) hx hb dX12_readSaid_70 rfl (lv_at hl 0 rfl) ?_
      refine lv_dup (pc := 71) hx hb dX12_readSaid_71 rfl ?_
      refine zr_getI (pc := 72) cx lk_X12_419 hP nM_0 sM_0 rfl dX12_readSaid_72 ?_
      refine lv_iconst (pc := 75) hx hb dX12_readSaid_75 zc_1 ?_
      refine lv_iadd (pc := 76) hx hb dX12_readSaid_76 ?_
      obtain ⟨S12, eS12, h⟩ := zLt_e h
      refine zr_putI (pc := 77) cx lq_X12_419 hq hP hS nM_0 sM_0 rfl rfl rfl dX12_readSaid_77 (fun H locs hP hS => ?_)
      rw [← eS12] at hP
      refine lv_aload_n (pc := 80) hx hb dX12_readSaid_80 rfl (lv_at hl 0 rfl) ?_
      refine lv_dup (pc := 81) hx hb dX12_readSaid_81 rfl ?_
      refine zr_getI (pc := 82) cx lk_X12_422 hP nM_0 sM_0 rfl dX12_readSaid_82 ?_
      refine lv_iconst (pc := 85) hx hb dX12_readSaid_85 zc_1 ?_
      refine lv_iadd (pc := 86) hx hb dX12_readSaid_86 ?_
      obtain ⟨S13, eS13, h⟩ := zLt_e h
      refine zr_putI (pc := 87) cx lq_X12_422 hq hP hS nM_0 sM_0 rfl rfl rfl dX12_readSaid_87 (fun H locs hP hS => ?_)
      rw [← eS13] at hP
      refine lv_aload_n (pc := 90) hx hb dX12_readSaid_90 rfl (lv_at hl 0 rfl) ?_
      obtain ⟨S15, k14, h⟩ := zBd_e h
      refine zr_VV (pc := 91) (rest := []) cx cv_X12_82 (mX12_go hq k14) ⟨⟨rfl, rfl⟩, by show 1 + 1 ≤ 5 + (d + 1); omega, by show 8 + (5 + 11) + 21 ≤ 112 + 23 * (d + 1); omega⟩ ⟨Nat.le_of_ble_eq_true rfl, Nat.le_of_ble_eq_true rfl⟩ hP hS nM_0 sM_0 rfl hl.1 rfl rfl (Nat.le_of_ble_eq_true rfl) dX12_readSaid_91 (fun H locs hP hS => ?_)
      refine lv_iconst (pc := 94) hx hb dX12_readSaid_94 zc_1 ?_
      refine lv_istore_n (lv' := [(3, .int (1 : Int32)), (0, .ref (q 0)), (1, .int v1), (2, .int v2)]) (pc := 95) hx hb dX12_readSaid_95 rfl hl (by decide) rfl (fun ls hl => ?_)
      refine lv_iload_n (pc := 96) hx hb dX12_readSaid_96 rfl (lv_at hl 2 rfl) ?_
      refine lv_if_eq (pc := 97) (tgt := 108) hx hb dX12_readSaid_97 (by decide) (fun c16 => ?_) (fun c16 => ?_)
      · replace h := zBr_t c16 h
        refine lv_iload_n (pc := 108) hx hb dX12_readSaid_108 rfl (lv_at hl 3 rfl) ?_
        refine lv_bipush (pc := 109) hx hb dX12_readSaid_109 zb_13 ?_
        refine lv_icmp_ne (pc := 111) (tgt := 122) hx hb dX12_readSaid_111 (by decide) (fun c17 => ?_) (fun c17 => ?_)
        · replace h := zBr_f c17 h
          refine lv_iload_n (pc := 122) hx hb dX12_readSaid_122 rfl (lv_at hl 3 rfl) ?_
          refine lv_bipush (pc := 123) hx hb dX12_readSaid_123 zb_16 ?_
          refine lv_icmp_ge (pc := 125) (tgt := 146) hx hb dX12_readSaid_125 (by decide) (fun c18 => ?_) (fun c18 => ?_)
          · replace h := zBr_t c18 h
            refine lv_iload_n (pc := 146) hx hb dX12_readSaid_146 rfl (lv_at hl 3 rfl) ?_
            refine lv_bipush (pc := 147) hx hb dX12_readSaid_147 zb_19 ?_
            refine lv_icmp_ge (pc := 149) (tgt := 160) hx hb dX12_readSaid_149 (by decide) (fun c19 => ?_) (fun c19 => ?_)
            · replace h := zBr_t c19 h
              refine lv_aload_n (pc := 160) hx hb dX12_readSaid_160 rfl (lv_at hl 1 rfl) ?_
              refine lv_iload_n (pc := 161) hx hb dX12_readSaid_161 rfl (lv_at hl 3 rfl) ?_
              obtain ⟨r22, S21, k20, h⟩ := zBp_e h
              refine zr_VQ (pc := 162) (rest := []) cx cv_X12_434 (mX12_readCompare hq k20) ⟨⟨rfl, rfl⟩, by show 3 + 1 ≤ 5 + (d + 1); omega, by show 8 + (3 + 11) + 67 ≤ 112 + 23 * (d + 1); omega⟩ ⟨Nat.le_of_ble_eq_true rfl, Nat.le_of_ble_eq_true rfl⟩ hP hS nM_0 sM_0 rfl hl.1 rfl rfl (Nat.le_of_ble_eq_true rfl) dX12_readSaid_162 (fun H locs hP hS => ?_)
              exact kX12_readSaid_165 hrc cx hr hlk hq h hP hS (lv_sub hl [1] rfl)
            · replace h := zBr_f c19 h
              refine lv_aload_n (pc := 152) hx hb dX12_readSaid_152 rfl (lv_at hl 1 rfl) ?_
              refine lv_iload_n (pc := 153) hx hb dX12_readSaid_153 rfl (lv_at hl 3 rfl) ?_
              obtain ⟨r27, S26, k25, h⟩ := zBp_e h
              refine zr_VQ (pc := 154) (rest := []) cx cv_X12_431 (mX12_readOf hq k25) ⟨⟨rfl, rfl⟩, by show 4 + 1 ≤ 5 + (d + 1); omega, by show 8 + (2 + 11) + 91 ≤ 112 + 23 * (d + 1); omega⟩ ⟨Nat.le_of_ble_eq_true rfl, Nat.le_of_ble_eq_true rfl⟩ hP hS nM_0 sM_0 rfl hl.1 rfl rfl (Nat.le_of_ble_eq_true rfl) dX12_readSaid_154 (fun H locs hP hS => ?_)
              refine lv_goto (pc := 157) (tgt := 165) hx hb dX12_readSaid_157 (by decide) ?_
              exact kX12_readSaid_165 hrc cx hr hlk hq h hP hS (lv_sub hl [1] rfl)
          · replace h := zBr_f c18 h
            refine lv_aload_n (pc := 128) hx hb dX12_readSaid_128 rfl (lv_at hl 1 rfl) ?_
            refine lv_aload_n (pc := 129) hx hb dX12_readSaid_129 rfl (lv_at hl 1 rfl) ?_
            refine lv_bipush (pc := 130) hx hb dX12_readSaid_130 zb_50 ?_
            refine lv_iload_n (pc := 132) hx hb dX12_readSaid_132 rfl (lv_at hl 3 rfl) ?_
            refine lv_iadd (pc := 133) hx hb dX12_readSaid_133 ?_
            refine lv_iconst (pc := 134) hx hb dX12_readSaid_134 zc_0 ?_
            refine lv_iconst (pc := 135) hx hb dX12_readSaid_135 zc_0 ?_
            refine lv_iconst (pc := 136) hx hb dX12_readSaid_136 zc_0 ?_
            obtain ⟨r30, S29, k28, h⟩ := zBp_e h
            refine zr_VQ (pc := 137) (rest := [.ref (q 0)]) cx cv_X12_412 (mX12_saysOne hq k28) ⟨⟨rfl, rfl⟩, by show 0 + 1 ≤ 5 + (d + 1); omega, by show 8 + (6 + 11) + 0 ≤ 112 + 23 * (d + 1); omega⟩ ⟨Nat.le_of_ble_eq_true rfl, Nat.le_of_ble_eq_true rfl⟩ hP hS nM_0 sM_0 rfl hl.1 rfl rfl (Nat.le_of_ble_eq_true rfl) dX12_readSaid_137 (fun H locs hP hS => ?_)
            obtain ⟨S31, eS31, h⟩ := zLt_e h
            refine zr_putI (pc := 140) cx lq_X12_409 hq hP hS nM_0 sM_0 rfl rfl rfl dX12_readSaid_140 (fun H locs hP hS => ?_)
            rw [← eS31] at hP
            refine lv_goto (pc := 143) (tgt := 166) hx hb dX12_readSaid_143 (by decide) ?_
            exact kX12_readSaid_166 hrc cx hr hlk hq h hP hS (lv_sub hl [1, 0] rfl)
        · replace h := zBr_t c17 h
          refine lv_aload_n (pc := 114) hx hb dX12_readSaid_114 rfl (lv_at hl 1 rfl) ?_
          obtain ⟨r34, S33, k32, h⟩ := zBp_e h
          refine zr_VQ (pc := 115) (rest := []) cx cv_X12_428 (hrc.2.2.2.1 _ _ k32) ⟨⟨rfl, rfl⟩, by show (5 + d) + 1 ≤ 5 + (d + 1); omega, by show 8 + (1 + 11) + (112 + 23 * d) ≤ 112 + 23 * (d + 1); omega⟩ ⟨Nat.le_of_ble_eq_true rfl, Nat.le_of_ble_eq_true rfl⟩ hP hS nM_0 sM_0 rfl hl.1 rfl rfl (Nat.le_of_ble_eq_true rfl) dX12_readSaid_115 (fun H locs hP hS => ?_)
          refine lv_istore_n (lv' := [(3, .int r34), (0, .ref (q 0)), (1, .int v1), (2, .int v2)]) (pc := 118) hx hb dX12_readSaid_118 rfl hl (by decide) rfl (fun ls hl => ?_)
          refine lv_goto (pc := 119) (tgt := 166) hx hb dX12_readSaid_119 (by decide) ?_
          exact kX12_readSaid_166 hrc cx hr hlk hq h hP hS (lv_sub hl [1, 0] rfl)
      · replace h := zBr_f c16 h
        refine lv_aload_n (pc := 100) hx hb dX12_readSaid_100 rfl (lv_at hl 1 rfl) ?_
        obtain ⟨r37, S36, k35, h⟩ := zBp_e h
        refine zr_VQ (pc := 101) (rest := []) cx cv_X12_425 (hrc.2.2.2.2 _ _ k35) ⟨⟨rfl, rfl⟩, by show (5 + d) + 1 ≤ 5 + (d + 1); omega, by show 8 + (1 + 11) + (112 + 23 * d) ≤ 112 + 23 * (d + 1); omega⟩ ⟨Nat.le_of_ble_eq_true rfl, Nat.le_of_ble_eq_true rfl⟩ hP hS nM_0 sM_0 rfl hl.1 rfl rfl (Nat.le_of_ble_eq_true rfl) dX12_readSaid_101 (fun H locs hP hS => ?_)
        refine lv_istore_n (lv' := [(3, .int r37), (0, .ref (q 0)), (1, .int v1), (2, .int v2)]) (pc := 104) hx hb dX12_readSaid_104 rfl hl (by decide) rfl (fun ls hl => ?_)
        refine lv_goto (pc := 105) (tgt := 166) hx hb dX12_readSaid_105 (by decide) ?_
        exact kX12_readSaid_166 hrc cx hr hlk hq h hP hS (lv_sub hl [1, 0] rfl)
    · replace h := zBr_t c11 h
      exact kX12_readSaid_64 hrc cx hr hlk hq h hP hS (lv_sub hl [0] rfl)
def fX12_readSaid_30 (rc : Nat → zSt → Option (Int32 × zSt)) (S : zSt)  (v1 : Int32) (v2 : Int32) : Option (Int32 × zSt) :=
  zBr (v1 = 0) (zBr (v2 ≤ (21 : Int32)) (fX12_readSaid_46 rc S v1 v2) (zBp (fX12_bad S (1 : Int32)) (fun r41 S40 => zGd (zBo r41) (some (r41, S40))))) (fX12_readSaid_46 rc S v1 v2)
set_option maxHeartbeats 4000000 in
set_option maxRecDepth 100000 in
theorem kX12_readSaid_30 {p : Program} {l : Launch} {e : Env} {s : State} {m : MethodId} {args : Array Value} {below : List Frame} {meth : Method} {c : Code} {D : va_G} {cy : Nat → ClassId} {q : Nat → Nat} {A : Nat → Prop} {d : Nat} {rc : Nat → zSt → Option (Int32 × zSt)} (hrc : zRCSR l D cy q A d rc) (cx : zX RX12 cX12_readSaid 4 p s m args c D cy) (hr : meth.sig.returnType = (some .boolean)) (hlk : meth.locks = false) (hq : zQ A q zNM) {z : (Int32 × zSt)} {S : zSt} {v1 : Int32} {v2 : Int32} (h : fX12_readSaid_30 rc S v1 v2 = some z) {H : Heap} {locs : List Loc} (hP : va_P D vwCl (zW zshM zNM cy q S) H) (hS : va_S A s.heap H locs) {ls : Array Slot} (hl : lv_has ls 4 [(0, .ref (q 0)), (1, .int v1), (2, .int v2)]) : W p l e (rmGSR (d + 1)) s m args below meth c H locs 0 0 (MQ below (va_Qi (fun (r : Int32) (u : zSt) => (r, u) = z) (fun u t => va_P D vwCl (zW zshM zNM cy q u) t.heap) A) args s 0 0 A) (F0 m 30 ls []) := by
  have hx := cx.1
  have hb := cx.2.1
  unfold fX12_readSaid_30 at h
  refine lv_iload_n (pc := 30) hx hb dX12_readSaid_30 rfl (lv_at hl 1 rfl) ?_
  refine lv_if_ne (pc := 31) (tgt := 46) hx hb dX12_readSaid_31 (by decide) (fun c5 => ?_) (fun c5 => ?_)
  · replace h := zBr_f c5 h
    exact kX12_readSaid_46 hrc cx hr hlk hq h hP hS (lv_sub hl [0, 1, 2] rfl)
  · replace h := zBr_t c5 h
    refine lv_iload_n (pc := 34) hx hb dX12_readSaid_34 rfl (lv_at hl 2 rfl) ?_
    refine lv_bipush (pc := 35) hx hb dX12_readSaid_35 zb_21 ?_
    refine lv_icmp_le (pc := 37) (tgt := 46) hx hb dX12_readSaid_37 (by decide) (fun c38 => ?_) (fun c38 => ?_)
    · replace h := zBr_t c38 h
      exact kX12_readSaid_46 hrc cx hr hlk hq h hP hS (lv_sub hl [0, 1, 2] rfl)
    · replace h := zBr_f c38 h
      refine lv_aload_n (pc := 40) hx hb dX12_readSaid_40 rfl (lv_at hl 0 rfl) ?_
      refine lv_iconst (pc := 41) hx hb dX12_readSaid_41 zc_1 ?_
      obtain ⟨r41, S40, k39, h⟩ := zBp_e h
      refine zr_VQ (pc := 42) (rest := []) cx cv_X12_72 (mX12_bad hq k39) ⟨⟨rfl, rfl⟩, by show 0 + 1 ≤ 5 + (d + 1); omega, by show 8 + (2 + 11) + 0 ≤ 112 + 23 * (d + 1); omega⟩ ⟨Nat.le_of_ble_eq_true rfl, Nat.le_of_ble_eq_true rfl⟩ hP hS nM_0 sM_0 rfl hl.1 rfl rfl (Nat.le_of_ble_eq_true rfl) dX12_readSaid_42 (fun H locs hP hS => ?_)
      obtain ⟨g42, h⟩ := zGd_e h
      have hz := Option.some.inj h
      exact zr_rqZ (pc := 45) cx hr hlk hP hS hz g42 dX12_readSaid_45
def fX12_readSaid_10 (rc : Nat → zSt → Option (Int32 × zSt)) (S : zSt)  (v1 : Int32) (t : Int32) : Option (Int32 ⊕ (Int32 × zSt)) :=
  match t with
  | v2 => zBr ((21 : Int32) < v2) (zXr (fX12_readSaid_30 rc S v1 v2)) (zBd (fX12_isWord S v2) (fun r44 => zBr (r44 = 0) (zLt (v2 + (1 : Int32)) (fun x47 => some (.inl (x47)))) (zXr (fX12_readSaid_30 rc S v1 v2))))
set_option maxHeartbeats 4000000 in
set_option maxRecDepth 100000 in
theorem kX12_readSaid_10B {p : Program} {l : Launch} {e : Env} {s : State} {m : MethodId} {args : Array Value} {below : List Frame} {meth : Method} {c : Code} {D : va_G} {cy : Nat → ClassId} {q : Nat → Nat} {A : Nat → Prop} {d : Nat} {rc : Nat → zSt → Option (Int32 × zSt)} (hrc : zRCSR l D cy q A d rc) (cx : zX RX12 cX12_readSaid 4 p s m args c D cy) (hr : meth.sig.returnType = (some .boolean)) (hlk : meth.locks = false) (hq : zQ A q zNM) {z : (Int32 × zSt)} {S : zSt} {v1 : Int32} {v2 : Int32} {C1 : (Int32 ⊕ (Int32 × zSt)) → Prop} (hb1 : ∀ (v2 : Int32), C1 (.inl (v2)) → ∀ (H : Heap) (locs : List Loc), va_P D vwCl (zW zshM zNM cy q S) H → va_S A s.heap H locs → ∀ (ls : Array Slot), lv_has ls 4 [(0, .ref (q 0)), (1, .int v1), (2, .int v2)] → W p l e (rmGSR (d + 1)) s m args below meth c H locs 0 0 (MQ below (va_Qi (fun (r : Int32) (u : zSt) => (r, u) = z) (fun u t => va_P D vwCl (zW zshM zNM cy q u) t.heap) A) args s 0 0 A) (F0 m 10 ls [])) (hx1 : ∀ a, C1 (.inr a) → a = z) {x : (Int32 ⊕ (Int32 × zSt))} (h : fX12_readSaid_10 rc S v1 (v2) = some x) (hc : C1 x) {H : Heap} {locs : List Loc} (hP : va_P D vwCl (zW zshM zNM cy q S) H) (hS : va_S A s.heap H locs) {ls : Array Slot} (hl : lv_has ls 4 [(0, .ref (q 0)), (1, .int v1), (2, .int v2)]) : W p l e (rmGSR (d + 1)) s m args below meth c H locs 0 0 (MQ below (va_Qi (fun (r : Int32) (u : zSt) => (r, u) = z) (fun u t => va_P D vwCl (zW zshM zNM cy q u) t.heap) A) args s 0 0 A) (F0 m 10 ls []) := by
  have hx := cx.1
  have hb := cx.2.1
  unfold fX12_readSaid_10 at h
  dsimp only at h
  refine lv_iload_n (pc := 10) hx hb dX12_readSaid_10 rfl (lv_at hl 2 rfl) ?_
  refine lv_bipush (pc := 11) hx hb dX12_readSaid_11 zb_21 ?_
  refine lv_icmp_gt (pc := 13) (tgt := 30) hx hb dX12_readSaid_13 (by decide) (fun c3 => ?_) (fun c3 => ?_)
  · replace h := zBr_t c3 h
    obtain ⟨y4, h, ex⟩ := zXr_e h
    have hc := hx1 y4 (by rw [ex] at hc; exact hc)
    rw [hc] at h
    exact kX12_readSaid_30 hrc cx hr hlk hq h hP hS (lv_sub hl [0, 1, 2] rfl)
  · replace h := zBr_f c3 h
    refine lv_aload_n (pc := 16) hx hb dX12_readSaid_16 rfl (lv_at hl 0 rfl) ?_
    refine lv_iload_n (pc := 17) hx hb dX12_readSaid_17 rfl (lv_at hl 2 rfl) ?_
    obtain ⟨r44, k43, h⟩ := zBd_e h
    refine zr_VI (pc := 18) (rest := []) cx cv_X12_191 (mX12_isWord k43) ⟨⟨rfl, rfl⟩, by show 2 + 1 ≤ 5 + (d + 1); omega, by show 8 + (2 + 11) + 48 ≤ 112 + 23 * (d + 1); omega⟩ ⟨Nat.le_of_ble_eq_true rfl, Nat.le_of_ble_eq_true rfl⟩ hP nM_0 sM_0 rfl hl.1 rfl rfl (Nat.le_of_ble_eq_true rfl) dX12_readSaid_18 ?_
    refine lv_if_ne (pc := 21) (tgt := 30) hx hb dX12_readSaid_21 (by decide) (fun c45 => ?_) (fun c45 => ?_)
    · replace h := zBr_f c45 h
      obtain ⟨y46, h, ex⟩ := zXr_e h
      have hc := hx1 y46 (by rw [ex] at hc; exact hc)
      rw [hc] at h
      exact kX12_readSaid_30 hrc cx hr hlk hq h hP hS (lv_sub hl [0, 1, 2] rfl)
    · replace h := zBr_t c45 h
      obtain ⟨x47, ex47, h⟩ := zLt_e h
      refine lv_iinc (v := x47) (lv' := [(2, .int x47), (0, .ref (q 0)), (1, .int v1)]) (pc := 24) hx hb dX12_readSaid_24 hl (k := 2) rfl (by rw [zc_1]; exact ex47.symm) (by decide) rfl (fun ls hl => ?_)
      refine lv_goto (pc := 27) (tgt := 10) hx hb dX12_readSaid_27 (by decide) ?_
      cases h
      exact hb1 _ hc _ _ hP hS _ (lv_sub hl [1, 2, 0] rfl)
set_option maxHeartbeats 4000000 in
set_option maxRecDepth 100000 in
theorem kX12_readSaid_10 {p : Program} {l : Launch} {e : Env} {s : State} {m : MethodId} {args : Array Value} {below : List Frame} {meth : Method} {c : Code} {D : va_G} {cy : Nat → ClassId} {q : Nat → Nat} {A : Nat → Prop} {d : Nat} {rc : Nat → zSt → Option (Int32 × zSt)} (hrc : zRCSR l D cy q A d rc) (cx : zX RX12 cX12_readSaid 4 p s m args c D cy) (hr : meth.sig.returnType = (some .boolean)) (hlk : meth.locks = false) (hq : zQ A q zNM) {z : (Int32 × zSt)} {S : zSt} {v1 : Int32} : ∀ (n : Nat) (v2 : Int32), zLp (fX12_readSaid_10 rc S v1) n (v2) = some z → ∀ (H : Heap) (locs : List Loc), va_P D vwCl (zW zshM zNM cy q S) H → va_S A s.heap H locs → ∀ (ls : Array Slot), lv_has ls 4 [(0, .ref (q 0)), (1, .int v1), (2, .int v2)] → W p l e (rmGSR (d + 1)) s m args below meth c H locs 0 0 (MQ below (va_Qi (fun (r : Int32) (u : zSt) => (r, u) = z) (fun u t => va_P D vwCl (zW zshM zNM cy q u) t.heap) A) args s 0 0 A) (F0 m 10 ls []) := by
  intro n
  induction n with
  | zero =>
    intro v2 h
    cases h
  | succ n ih =>
    intro v2 h H locs hP hS ls hl
    obtain ⟨x, h, hk⟩ := zLp_e h
    exact kX12_readSaid_10B hrc cx hr hlk hq  (C1 := zKt (fun t => zLp (fX12_readSaid_10 rc S v1) n t = some z) (fun a => a = z)) (fun v2 ht H locs hP hS ls hl => ih v2 ht H locs hP hS ls hl) (fun a ha => ha) h hk hP hS hl
def fX12_readSaid (rc : Nat → zSt → Option (Int32 × zSt)) (S : zSt) : Option (Int32 × zSt) :=
  zBd (fX12_isSign S (40 : Int32)) (fun r2 => zLp (fX12_readSaid_10 rc S r2) 2000 ((13 : Int32)))
set_option maxHeartbeats 4000000 in
set_option maxRecDepth 100000 in
theorem mX12_readSaid {l : Launch} {D : va_G} {cy : Nat → ClassId} {q : Nat → Nat} {A : Nat → Prop} {S : zSt} {d : Nat} {rc : Nat → zSt → Option (Int32 × zSt)} (hrc : zRCSR l D cy q A d rc) (hq : zQ A q zNM) {z : (Int32 × zSt)} (h : fX12_readSaid rc S = some z) : zMq l yX12_readSaid cX12_readSaid 4 (some .boolean) (rmGSR (d + 1)) [.ref (q 0)] zshM zNM D cy q A S z := by
  refine Met.ofW (cc := cX12_readSaid) (maxL := 4) (ret := (some .boolean)) (by decide) rfl ?_
  intro p e s m args below meth c s₁ B hml hv
  obtain ⟨rfl, hP, hK⟩ := hv
  have cx : zX RX12 cX12_readSaid 4 p s m ([.ref (q 0)]).toArray c D cy := ⟨B.exec, B.bytes, hml, findClass_of_methodNamed B.named, fun w hw => atoms_spec (ws := Cond.code yX12_readSaid cX12_readSaid 4 (some .boolean) :: zTB) B.pre w (List.mem_cons_of_mem _ hw), hK⟩
  have hx := cx.1
  have hb := cx.2.1
  have hr := B.returns
  have hlk := B.notSynchronized
  have hS : va_S A s.heap s.heap [] := va_S.rf
  have hl := lv_entry ([.ref (q 0)]) (n := 4) (Nat.le_of_ble_eq_true rfl)
  rw [lg_entry_eq]
  generalize (lg_sl ([.ref (q 0)]) ++ List.replicate (4 - (lg_sl ([.ref (q 0)])).length) Slot.unset).toArray = ls at hl ⊢
  have hl : lv_has ls 4 [(0, .ref (q 0))] := hl
  unfold fX12_readSaid at h
  refine lv_aload_n (pc := 0) hx hb dX12_readSaid_0 rfl (lv_at hl 0 rfl) ?_
  refine lv_bipush (pc := 1) hx hb dX12_readSaid_1 zb_40 ?_
  obtain ⟨r2, k1, h⟩ := zBd_e h
  refine zr_VI (pc := 3) (rest := []) cx cv_X12_86 (mX12_isSign k1) ⟨⟨rfl, rfl⟩, by show 0 + 1 ≤ 5 + (d + 1); omega, by show 8 + (2 + 11) + 0 ≤ 112 + 23 * (d + 1); omega⟩ ⟨Nat.le_of_ble_eq_true rfl, Nat.le_of_ble_eq_true rfl⟩ hP nM_0 sM_0 rfl hl.1 rfl rfl (Nat.le_of_ble_eq_true rfl) dX12_readSaid_3 ?_
  refine lv_istore_n (lv' := [(1, .int r2), (0, .ref (q 0))]) (pc := 6) hx hb dX12_readSaid_6 rfl hl (by decide) rfl (fun ls hl => ?_)
  refine lv_bipush (pc := 7) hx hb dX12_readSaid_7 zb_13 ?_
  refine lv_istore_n (lv' := [(2, .int (13 : Int32)), (1, .int r2), (0, .ref (q 0))]) (pc := 9) hx hb dX12_readSaid_9 rfl hl (by decide) rfl (fun ls hl => ?_)
  exact kX12_readSaid_10 hrc cx hr hlk hq 2000 _ h _ _ hP hS _ (lv_sub hl [2, 1, 0] rfl)
-- X12_readNot
def fX12_readNot (rc : Nat → zSt → Option (Int32 × zSt)) (S : zSt) : Option (Int32 × zSt) :=
  zBp (rc 2 S) (fun r3 S2 => zBr (r3 = 0) (some ((0 : Int32), S2)) (zBp (fX12_saysOne S2 (1 : Int32) (S2.1 0 44) (0 : Int32) (0 : Int32)) (fun r7 S6 => zLt (zI S6 0 44 r7) (fun S8 => some ((1 : Int32), S8)))))
set_option maxHeartbeats 4000000 in
set_option maxRecDepth 100000 in
theorem mX12_readNot {l : Launch} {D : va_G} {cy : Nat → ClassId} {q : Nat → Nat} {A : Nat → Prop} {S : zSt} {d : Nat} {rc : Nat → zSt → Option (Int32 × zSt)} (hrc : zRCSR l D cy q A d rc) (hq : zQ A q zNM) {z : (Int32 × zSt)} (h : fX12_readNot rc S = some z) : zMq l yX12_readNot cX12_readNot 1 (some .boolean) (rmGSR (d + 1)) [.ref (q 0)] zshM zNM D cy q A S z := by
  refine Met.ofW (cc := cX12_readNot) (maxL := 1) (ret := (some .boolean)) (by decide) rfl ?_
  intro p e s m args below meth c s₁ B hml hv
  obtain ⟨rfl, hP, hK⟩ := hv
  have cx : zX RX12 cX12_readNot 1 p s m ([.ref (q 0)]).toArray c D cy := ⟨B.exec, B.bytes, hml, findClass_of_methodNamed B.named, fun w hw => atoms_spec (ws := Cond.code yX12_readNot cX12_readNot 1 (some .boolean) :: zTB) B.pre w (List.mem_cons_of_mem _ hw), hK⟩
  have hx := cx.1
  have hb := cx.2.1
  have hr := B.returns
  have hlk := B.notSynchronized
  have hS : va_S A s.heap s.heap [] := va_S.rf
  have hl := lv_entry ([.ref (q 0)]) (n := 1) (Nat.le_of_ble_eq_true rfl)
  rw [lg_entry_eq]
  generalize (lg_sl ([.ref (q 0)]) ++ List.replicate (1 - (lg_sl ([.ref (q 0)])).length) Slot.unset).toArray = ls at hl ⊢
  have hl : lv_has ls 1 [(0, .ref (q 0))] := hl
  unfold fX12_readNot at h
  refine lv_aload_n (pc := 0) hx hb dX12_readNot_0 rfl (lv_at hl 0 rfl) ?_
  obtain ⟨r3, S2, k1, h⟩ := zBp_e h
  refine zr_VQ (pc := 1) (rest := []) cx cv_X12_416 (hrc.2.2.1 _ _ k1) ⟨⟨rfl, rfl⟩, by show (5 + d) + 1 ≤ 5 + (d + 1); omega, by show 8 + (4 + 11) + (112 + 23 * d) ≤ 112 + 23 * (d + 1); omega⟩ ⟨Nat.le_of_ble_eq_true rfl, Nat.le_of_ble_eq_true rfl⟩ hP hS nM_0 sM_0 rfl hl.1 rfl rfl (Nat.le_of_ble_eq_true rfl) dX12_readNot_1 (fun H locs hP hS => ?_)
  refine lv_if_ne (pc := 4) (tgt := 9) hx hb dX12_readNot_4 (by decide) (fun c4 => ?_) (fun c4 => ?_)
  · replace h := zBr_f c4 h
    refine lv_aload_n (pc := 9) hx hb dX12_readNot_9 rfl (lv_at hl 0 rfl) ?_
    refine lv_aload_n (pc := 10) hx hb dX12_readNot_10 rfl (lv_at hl 0 rfl) ?_
    refine lv_iconst (pc := 11) hx hb dX12_readNot_11 zc_1 ?_
    refine lv_aload_n (pc := 12) hx hb dX12_readNot_12 rfl (lv_at hl 0 rfl) ?_
    refine zr_getI (pc := 13) cx lk_X12_409 hP nM_0 sM_0 rfl dX12_readNot_13 ?_
    refine lv_iconst (pc := 16) hx hb dX12_readNot_16 zc_0 ?_
    refine lv_iconst (pc := 17) hx hb dX12_readNot_17 zc_0 ?_
    obtain ⟨r7, S6, k5, h⟩ := zBp_e h
    refine zr_VQ (pc := 18) (rest := [.ref (q 0)]) cx cv_X12_412 (mX12_saysOne hq k5) ⟨⟨rfl, rfl⟩, by show 0 + 1 ≤ 5 + (d + 1); omega, by show 8 + (6 + 11) + 0 ≤ 112 + 23 * (d + 1); omega⟩ ⟨Nat.le_of_ble_eq_true rfl, Nat.le_of_ble_eq_true rfl⟩ hP hS nM_0 sM_0 rfl hl.1 rfl rfl (Nat.le_of_ble_eq_true rfl) dX12_readNot_18 (fun H locs hP hS => ?_)
    obtain ⟨S8, eS8, h⟩ := zLt_e h
    refine zr_putI (pc := 21) cx lq_X12_409 hq hP hS nM_0 sM_0 rfl rfl rfl dX12_readNot_21 (fun H locs hP hS => ?_)
    rw [← eS8] at hP
    refine lv_iconst (pc := 24) hx hb dX12_readNot_24 zc_1 ?_
    have hz := Option.some.inj h
    exact zr_rqZ (pc := 25) cx hr hlk hP hS hz (by decide) dX12_readNot_25
  · replace h := zBr_t c4 h
    refine lv_iconst (pc := 7) hx hb dX12_readNot_7 zc_0 ?_
    have hz := Option.some.inj h
    exact zr_rqZ (pc := 8) cx hr hlk hP hS hz (by decide) dX12_readNot_8
-- X12_readBracket
def fX12_readBracket (rc : Nat → zSt → Option (Int32 × zSt)) (S : zSt) : Option (Int32 × zSt) :=
  zBp (rc 0 S) (fun r3 S2 => zBr (r3 = 0) (some ((0 : Int32), S2)) (zBd (fX12_isSign S2 (41 : Int32)) (fun r6 => zBr (r6 = 0) (zBp (fX12_bad S2 (1 : Int32)) (fun r12 S11 => zGd (zBo r12) (some (r12, S11)))) (zBd (fX12_go S2) (fun S9 => some ((1 : Int32), S9))))))
set_option maxHeartbeats 4000000 in
set_option maxRecDepth 100000 in
theorem mX12_readBracket {l : Launch} {D : va_G} {cy : Nat → ClassId} {q : Nat → Nat} {A : Nat → Prop} {S : zSt} {d : Nat} {rc : Nat → zSt → Option (Int32 × zSt)} (hrc : zRCSR l D cy q A d rc) (hq : zQ A q zNM) {z : (Int32 × zSt)} (h : fX12_readBracket rc S = some z) : zMq l yX12_readBracket cX12_readBracket 1 (some .boolean) (rmGSR (d + 1)) [.ref (q 0)] zshM zNM D cy q A S z := by
  refine Met.ofW (cc := cX12_readBracket) (maxL := 1) (ret := (some .boolean)) (by decide) rfl ?_
  intro p e s m args below meth c s₁ B hml hv
  obtain ⟨rfl, hP, hK⟩ := hv
  have cx : zX RX12 cX12_readBracket 1 p s m ([.ref (q 0)]).toArray c D cy := ⟨B.exec, B.bytes, hml, findClass_of_methodNamed B.named, fun w hw => atoms_spec (ws := Cond.code yX12_readBracket cX12_readBracket 1 (some .boolean) :: zTB) B.pre w (List.mem_cons_of_mem _ hw), hK⟩
  have hx := cx.1
  have hb := cx.2.1
  have hr := B.returns
  have hlk := B.notSynchronized
  have hS : va_S A s.heap s.heap [] := va_S.rf
  have hl := lv_entry ([.ref (q 0)]) (n := 1) (Nat.le_of_ble_eq_true rfl)
  rw [lg_entry_eq]
  generalize (lg_sl ([.ref (q 0)]) ++ List.replicate (1 - (lg_sl ([.ref (q 0)])).length) Slot.unset).toArray = ls at hl ⊢
  have hl : lv_has ls 1 [(0, .ref (q 0))] := hl
  unfold fX12_readBracket at h
  refine lv_aload_n (pc := 0) hx hb dX12_readBracket_0 rfl (lv_at hl 0 rfl) ?_
  obtain ⟨r3, S2, k1, h⟩ := zBp_e h
  refine zr_VQ (pc := 1) (rest := []) cx cv_X12_437 (hrc.1 _ _ k1) ⟨⟨rfl, rfl⟩, by show (5 + d) + 1 ≤ 5 + (d + 1); omega, by show 8 + (2 + 11) + (112 + 23 * d) ≤ 112 + 23 * (d + 1); omega⟩ ⟨Nat.le_of_ble_eq_true rfl, Nat.le_of_ble_eq_true rfl⟩ hP hS nM_0 sM_0 rfl hl.1 rfl rfl (Nat.le_of_ble_eq_true rfl) dX12_readBracket_1 (fun H locs hP hS => ?_)
  refine lv_if_ne (pc := 4) (tgt := 9) hx hb dX12_readBracket_4 (by decide) (fun c4 => ?_) (fun c4 => ?_)
  · replace h := zBr_f c4 h
    refine lv_aload_n (pc := 9) hx hb dX12_readBracket_9 rfl (lv_at hl 0 rfl) ?_
    refine lv_bipush (pc := 10) hx hb dX12_readBracket_10 zb_41 ?_
    obtain ⟨r6, k5, h⟩ := zBd_e h
    refine zr_VI (pc := 12) (rest := []) cx cv_X12_86 (mX12_isSign k5) ⟨⟨rfl, rfl⟩, by show 0 + 1 ≤ 5 + (d + 1); omega, by show 8 + (2 + 11) + 0 ≤ 112 + 23 * (d + 1); omega⟩ ⟨Nat.le_of_ble_eq_true rfl, Nat.le_of_ble_eq_true rfl⟩ hP nM_0 sM_0 rfl hl.1 rfl rfl (Nat.le_of_ble_eq_true rfl) dX12_readBracket_12 ?_
    refine lv_if_ne (pc := 15) (tgt := 24) hx hb dX12_readBracket_15 (by decide) (fun c7 => ?_) (fun c7 => ?_)
    · replace h := zBr_f c7 h
      refine lv_aload_n (pc := 24) hx hb dX12_readBracket_24 rfl (lv_at hl 0 rfl) ?_
      obtain ⟨S9, k8, h⟩ := zBd_e h
      refine zr_VV (pc := 25) (rest := []) cx cv_X12_82 (mX12_go hq k8) ⟨⟨rfl, rfl⟩, by show 1 + 1 ≤ 5 + (d + 1); omega, by show 8 + (5 + 11) + 21 ≤ 112 + 23 * (d + 1); omega⟩ ⟨Nat.le_of_ble_eq_true rfl, Nat.le_of_ble_eq_true rfl⟩ hP hS nM_0 sM_0 rfl hl.1 rfl rfl (Nat.le_of_ble_eq_true rfl) dX12_readBracket_25 (fun H locs hP hS => ?_)
      refine lv_iconst (pc := 28) hx hb dX12_readBracket_28 zc_1 ?_
      have hz := Option.some.inj h
      exact zr_rqZ (pc := 29) cx hr hlk hP hS hz (by decide) dX12_readBracket_29
    · replace h := zBr_t c7 h
      refine lv_aload_n (pc := 18) hx hb dX12_readBracket_18 rfl (lv_at hl 0 rfl) ?_
      refine lv_iconst (pc := 19) hx hb dX12_readBracket_19 zc_1 ?_
      obtain ⟨r12, S11, k10, h⟩ := zBp_e h
      refine zr_VQ (pc := 20) (rest := []) cx cv_X12_72 (mX12_bad hq k10) ⟨⟨rfl, rfl⟩, by show 0 + 1 ≤ 5 + (d + 1); omega, by show 8 + (2 + 11) + 0 ≤ 112 + 23 * (d + 1); omega⟩ ⟨Nat.le_of_ble_eq_true rfl, Nat.le_of_ble_eq_true rfl⟩ hP hS nM_0 sM_0 rfl hl.1 rfl rfl (Nat.le_of_ble_eq_true rfl) dX12_readBracket_20 (fun H locs hP hS => ?_)
      obtain ⟨g13, h⟩ := zGd_e h
      have hz := Option.some.inj h
      exact zr_rqZ (pc := 23) cx hr hlk hP hS hz g13 dX12_readBracket_23
  · replace h := zBr_t c4 h
    refine lv_iconst (pc := 7) hx hb dX12_readBracket_7 zc_0 ?_
    have hz := Option.some.inj h
    exact zr_rqZ (pc := 8) cx hr hlk hP hS hz (by decide) dX12_readBracket_8
def gSR : Nat → Nat → zSt → Option (Int32 × zSt)
  | 0 => fun _ _ => none
  | d + 1 => fun w S => match w with
    | 0 => fX12_readOr (gSR d) S
    | 1 => fX12_readAnd (gSR d) S
    | 2 => fX12_readSaid (gSR d) S
    | 3 => fX12_readNot (gSR d) S
    | _ => fX12_readBracket (gSR d) S
theorem gSR_ok {l : Launch} {D : va_G} {cy : Nat → ClassId} {q : Nat → Nat} {A : Nat → Prop} (hq : zQ A q zNM) : ∀ d, zRCSR l D cy q A d (gSR d) := by
  intro d
  induction d with
  | zero => exact ⟨fun S z h => (by cases h), fun S z h => (by cases h), fun S z h => (by cases h), fun S z h => (by cases h), fun S z h => (by cases h)⟩
  | succ d ih => exact ⟨fun S z h => mX12_readOr ih hq h, fun S z h => mX12_readAnd ih hq h, fun S z h => mX12_readSaid ih hq h, fun S z h => mX12_readNot ih hq h, fun S z h => mX12_readBracket ih hq h⟩
