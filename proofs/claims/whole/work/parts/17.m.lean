theorem wd_1498 : (Jvm.Cond.fieldLink "ParlourLeavesModel" (79 : Nat) "ParlourLeavesModel" "told" "I") ∈ zTB := List.mem_filter.mpr ⟨List.mem_append_right _ (List.mem_append_right _ (List.mem_append_right _ (List.mem_append_right _ (List.mem_append_right _ (List.mem_append_right _ (List.mem_append_right _ (List.mem_append_left _ (List.mem_of_getElem? (i := 58) rfl)))))))), rfl⟩
theorem wd_1502 : (Jvm.Cond.fieldLink "ParlourLeavesModel" (107 : Nat) "ParlourLeavesModel" "snaps" "[I") ∈ zTB := List.mem_filter.mpr ⟨List.mem_append_right _ (List.mem_append_right _ (List.mem_append_right _ (List.mem_append_right _ (List.mem_append_right _ (List.mem_append_right _ (List.mem_append_right _ (List.mem_append_left _ (List.mem_of_getElem? (i := 62) rfl)))))))), rfl⟩
theorem wd_1504 : (Jvm.Cond.fieldLink "ParlourLeavesModel" (113 : Nat) "ParlourLeavesModel" "name" "[J") ∈ zTB := List.mem_filter.mpr ⟨List.mem_append_right _ (List.mem_append_right _ (List.mem_append_right _ (List.mem_append_right _ (List.mem_append_right _ (List.mem_append_right _ (List.mem_append_right _ (List.mem_append_left _ (List.mem_of_getElem? (i := 64) rfl)))))))), rfl⟩
theorem wd_1509 : (Jvm.Cond.fieldLink "ParlourLeavesModel" (215 : Nat) "ParlourLeavesModel" "snapMany" "I") ∈ zTB := List.mem_filter.mpr ⟨List.mem_append_right _ (List.mem_append_right _ (List.mem_append_right _ (List.mem_append_right _ (List.mem_append_right _ (List.mem_append_right _ (List.mem_append_right _ (List.mem_append_left _ (List.mem_of_getElem? (i := 69) rfl)))))))), rfl⟩
theorem wd_1515 : (Jvm.Cond.fieldLink "ParlourLeavesModel" (142 : Nat) "ParlourLeavesModel" "chosen" "[I") ∈ zTB := List.mem_filter.mpr ⟨List.mem_append_right _ (List.mem_append_right _ (List.mem_append_right _ (List.mem_append_right _ (List.mem_append_right _ (List.mem_append_right _ (List.mem_append_right _ (List.mem_append_left _ (List.mem_of_getElem? (i := 75) rfl)))))))), rfl⟩
theorem wd_1517 : (Jvm.Cond.fieldLink "ParlourLeavesModel" (320 : Nat) "ParlourLeavesModel" "darkest" "I") ∈ zTB := List.mem_filter.mpr ⟨List.mem_append_right _ (List.mem_append_right _ (List.mem_append_right _ (List.mem_append_right _ (List.mem_append_right _ (List.mem_append_right _ (List.mem_append_right _ (List.mem_append_left _ (List.mem_of_getElem? (i := 77) rfl)))))))), rfl⟩
theorem wd_1518 : (Jvm.Cond.fieldLink "ParlourLeavesModel" (145 : Nat) "ParlourLeavesModel" "text" "[I") ∈ zTB := List.mem_filter.mpr ⟨List.mem_append_right _ (List.mem_append_right _ (List.mem_append_right _ (List.mem_append_right _ (List.mem_append_right _ (List.mem_append_right _ (List.mem_append_right _ (List.mem_append_left _ (List.mem_of_getElem? (i := 78) rfl)))))))), rfl⟩
theorem wd_1519 : (Jvm.Cond.fieldLink "ParlourLeavesModel" (334 : Nat) "ParlourLeavesModel" "texts" "I") ∈ zTB := List.mem_filter.mpr ⟨List.mem_append_right _ (List.mem_append_right _ (List.mem_append_right _ (List.mem_append_right _ (List.mem_append_right _ (List.mem_append_right _ (List.mem_append_right _ (List.mem_append_left _ (List.mem_of_getElem? (i := 79) rfl)))))))), rfl⟩
theorem wd_1522 : (Jvm.Cond.fieldLink "ParlourLeavesModel" (151 : Nat) "ParlourLeavesModel" "written" "[I") ∈ zTB := List.mem_filter.mpr ⟨List.mem_append_right _ (List.mem_append_right _ (List.mem_append_right _ (List.mem_append_right _ (List.mem_append_right _ (List.mem_append_right _ (List.mem_append_right _ (List.mem_append_left _ (List.mem_of_getElem? (i := 82) rfl)))))))), rfl⟩
theorem wd_1523 : (Jvm.Cond.fieldLink "ParlourLeavesModel" (381 : Nat) "ParlourLeavesModel" "lineMany" "I") ∈ zTB := List.mem_filter.mpr ⟨List.mem_append_right _ (List.mem_append_right _ (List.mem_append_right _ (List.mem_append_right _ (List.mem_append_right _ (List.mem_append_right _ (List.mem_append_right _ (List.mem_append_left _ (List.mem_of_getElem? (i := 83) rfl)))))))), rfl⟩
theorem wd_1524 : (Jvm.Cond.fieldLink "ParlourLeavesModel" (396 : Nat) "ParlourLeavesModel" "hasWritten" "Z") ∈ zTB := List.mem_filter.mpr ⟨List.mem_append_right _ (List.mem_append_right _ (List.mem_append_right _ (List.mem_append_right _ (List.mem_append_right _ (List.mem_append_right _ (List.mem_append_right _ (List.mem_append_left _ (List.mem_of_getElem? (i := 84) rfl)))))))), rfl⟩
theorem wd_1625 : (Jvm.Cond.methodLink "ParlourLeavesModel" (206 : Nat) ({ cls := "ParlourLeavesModel", name := "begin", desc := "(I)V" } : Jvm.MethodName)) ∈ zTB := List.mem_filter.mpr ⟨List.mem_append_right _ (List.mem_append_right _ (List.mem_append_right _ (List.mem_append_right _ (List.mem_append_right _ (List.mem_append_right _ (List.mem_append_right _ (List.mem_append_left _ (List.mem_of_getElem? (i := 185) rfl)))))))), rfl⟩
theorem wd_1627 : (Jvm.Cond.instanceMethod ({ cls := "ParlourLeavesModel", name := "begin", desc := "(I)V" } : Jvm.MethodName)) ∈ zTB := List.mem_filter.mpr ⟨List.mem_append_right _ (List.mem_append_right _ (List.mem_append_right _ (List.mem_append_right _ (List.mem_append_right _ (List.mem_append_right _ (List.mem_append_right _ (List.mem_append_left _ (List.mem_of_getElem? (i := 187) rfl)))))))), rfl⟩
theorem wd_1628 : (Jvm.Cond.code ({ cls := "ParlourLeavesModel", name := "begin", desc := "(I)V" } : Jvm.MethodName) prog_14_method_25_code (2 : Nat) (Option.none : Option Jvm.ClassFile.FieldType)) ∈ zTB := List.mem_filter.mpr ⟨List.mem_append_right _ (List.mem_append_right _ (List.mem_append_right _ (List.mem_append_right _ (List.mem_append_right _ (List.mem_append_right _ (List.mem_append_right _ (List.mem_append_left _ (List.mem_of_getElem? (i := 188) rfl)))))))), rfl⟩
theorem wd_1653 : (Jvm.Cond.methodLink "ParlourLeavesModel" (191 : Nat) ({ cls := "ParlourLeavesModel", name := "isWord", desc := "(I)Z" } : Jvm.MethodName)) ∈ zTB := List.mem_filter.mpr ⟨List.mem_append_right _ (List.mem_append_right _ (List.mem_append_right _ (List.mem_append_right _ (List.mem_append_right _ (List.mem_append_right _ (List.mem_append_right _ (List.mem_append_left _ (List.mem_of_getElem? (i := 213) rfl)))))))), rfl⟩
theorem wd_1655 : (Jvm.Cond.instanceMethod ({ cls := "ParlourLeavesModel", name := "isWord", desc := "(I)Z" } : Jvm.MethodName)) ∈ zTB := List.mem_filter.mpr ⟨List.mem_append_right _ (List.mem_append_right _ (List.mem_append_right _ (List.mem_append_right _ (List.mem_append_right _ (List.mem_append_right _ (List.mem_append_right _ (List.mem_append_left _ (List.mem_of_getElem? (i := 215) rfl)))))))), rfl⟩
theorem wd_1656 : (Jvm.Cond.code ({ cls := "ParlourLeavesModel", name := "isWord", desc := "(I)Z" } : Jvm.MethodName) prog_14_method_19_code (2 : Nat) (Option.some Jvm.ClassFile.FieldType.boolean)) ∈ zTB := List.mem_filter.mpr ⟨List.mem_append_right _ (List.mem_append_right _ (List.mem_append_right _ (List.mem_append_right _ (List.mem_append_right _ (List.mem_append_right _ (List.mem_append_right _ (List.mem_append_left _ (List.mem_of_getElem? (i := 216) rfl)))))))), rfl⟩
theorem wd_1657 : (Jvm.Cond.methodLink "ParlourLeavesModel" (62 : Nat) ({ cls := "ParlourLeavesModel", name := "wordOf", desc := "(I)J" } : Jvm.MethodName)) ∈ zTB := List.mem_filter.mpr ⟨List.mem_append_right _ (List.mem_append_right _ (List.mem_append_right _ (List.mem_append_right _ (List.mem_append_right _ (List.mem_append_right _ (List.mem_append_right _ (List.mem_append_left _ (List.mem_of_getElem? (i := 217) rfl)))))))), rfl⟩
theorem wd_1658 : (Jvm.Cond.static ({ cls := "ParlourLeavesModel", name := "wordOf", desc := "(I)J" } : Jvm.MethodName)) ∈ zTB := List.mem_filter.mpr ⟨List.mem_append_right _ (List.mem_append_right _ (List.mem_append_right _ (List.mem_append_right _ (List.mem_append_right _ (List.mem_append_right _ (List.mem_append_right _ (List.mem_append_left _ (List.mem_of_getElem? (i := 218) rfl)))))))), rfl⟩
theorem wd_1659 : (Jvm.Cond.code ({ cls := "ParlourLeavesModel", name := "wordOf", desc := "(I)J" } : Jvm.MethodName) prog_14_method_18_code (1 : Nat) (Option.some Jvm.ClassFile.FieldType.long)) ∈ zTB := List.mem_filter.mpr ⟨List.mem_append_right _ (List.mem_append_right _ (List.mem_append_right _ (List.mem_append_right _ (List.mem_append_right _ (List.mem_append_right _ (List.mem_append_right _ (List.mem_append_left _ (List.mem_of_getElem? (i := 219) rfl)))))))), rfl⟩
theorem wd_1671 : (Jvm.Cond.methodLink "ParlourLeavesModel" (72 : Nat) ({ cls := "ParlourLeavesModel", name := "bad", desc := "(I)Z" } : Jvm.MethodName)) ∈ zTB := List.mem_filter.mpr ⟨List.mem_append_right _ (List.mem_append_right _ (List.mem_append_right _ (List.mem_append_right _ (List.mem_append_right _ (List.mem_append_right _ (List.mem_append_right _ (List.mem_append_left _ (List.mem_of_getElem? (i := 231) rfl)))))))), rfl⟩
theorem wd_1673 : (Jvm.Cond.instanceMethod ({ cls := "ParlourLeavesModel", name := "bad", desc := "(I)Z" } : Jvm.MethodName)) ∈ zTB := List.mem_filter.mpr ⟨List.mem_append_right _ (List.mem_append_right _ (List.mem_append_right _ (List.mem_append_right _ (List.mem_append_right _ (List.mem_append_right _ (List.mem_append_right _ (List.mem_append_left _ (List.mem_of_getElem? (i := 233) rfl)))))))), rfl⟩
theorem wd_1674 : (Jvm.Cond.code ({ cls := "ParlourLeavesModel", name := "bad", desc := "(I)Z" } : Jvm.MethodName) prog_14_method_22_code (2 : Nat) (Option.some Jvm.ClassFile.FieldType.boolean)) ∈ zTB := List.mem_filter.mpr ⟨List.mem_append_right _ (List.mem_append_right _ (List.mem_append_right _ (List.mem_append_right _ (List.mem_append_right _ (List.mem_append_right _ (List.mem_append_right _ (List.mem_append_left _ (List.mem_of_getElem? (i := 234) rfl)))))))), rfl⟩
theorem wd_1679 : (Jvm.Cond.methodLink "ParlourLeavesModel" (164 : Nat) ({ cls := "ParlourLeavesModel", name := "isName", desc := "()Z" } : Jvm.MethodName)) ∈ zTB := List.mem_filter.mpr ⟨List.mem_append_right _ (List.mem_append_right _ (List.mem_append_right _ (List.mem_append_right _ (List.mem_append_right _ (List.mem_append_right _ (List.mem_append_right _ (List.mem_append_left _ (List.mem_of_getElem? (i := 239) rfl)))))))), rfl⟩
theorem wd_1681 : (Jvm.Cond.instanceMethod ({ cls := "ParlourLeavesModel", name := "isName", desc := "()Z" } : Jvm.MethodName)) ∈ zTB := List.mem_filter.mpr ⟨List.mem_append_right _ (List.mem_append_right _ (List.mem_append_right _ (List.mem_append_right _ (List.mem_append_right _ (List.mem_append_right _ (List.mem_append_right _ (List.mem_append_right _ (List.mem_append_left _ (List.mem_of_getElem? (i := 1) rfl))))))))), rfl⟩
theorem wd_1682 : (Jvm.Cond.code ({ cls := "ParlourLeavesModel", name := "isName", desc := "()Z" } : Jvm.MethodName) prog_14_method_21_code (2 : Nat) (Option.some Jvm.ClassFile.FieldType.boolean)) ∈ zTB := List.mem_filter.mpr ⟨List.mem_append_right _ (List.mem_append_right _ (List.mem_append_right _ (List.mem_append_right _ (List.mem_append_right _ (List.mem_append_right _ (List.mem_append_right _ (List.mem_append_right _ (List.mem_append_left _ (List.mem_of_getElem? (i := 2) rfl))))))))), rfl⟩
theorem wd_1687 : (Jvm.Cond.methodLink "ParlourLeavesModel" (160 : Nat) ({ cls := "ParlourLeavesModel", name := "findIn", desc := "([JIIJ)I" } : Jvm.MethodName)) ∈ zTB := List.mem_filter.mpr ⟨List.mem_append_right _ (List.mem_append_right _ (List.mem_append_right _ (List.mem_append_right _ (List.mem_append_right _ (List.mem_append_right _ (List.mem_append_right _ (List.mem_append_right _ (List.mem_append_left _ (List.mem_of_getElem? (i := 7) rfl))))))))), rfl⟩
theorem wd_1688 : (Jvm.Cond.static ({ cls := "ParlourLeavesModel", name := "findIn", desc := "([JIIJ)I" } : Jvm.MethodName)) ∈ zTB := List.mem_filter.mpr ⟨List.mem_append_right _ (List.mem_append_right _ (List.mem_append_right _ (List.mem_append_right _ (List.mem_append_right _ (List.mem_append_right _ (List.mem_append_right _ (List.mem_append_right _ (List.mem_append_left _ (List.mem_of_getElem? (i := 8) rfl))))))))), rfl⟩
theorem wd_1689 : (Jvm.Cond.code ({ cls := "ParlourLeavesModel", name := "findIn", desc := "([JIIJ)I" } : Jvm.MethodName) prog_14_method_28_code (6 : Nat) (Option.some Jvm.ClassFile.FieldType.int)) ∈ zTB := List.mem_filter.mpr ⟨List.mem_append_right _ (List.mem_append_right _ (List.mem_append_right _ (List.mem_append_right _ (List.mem_append_right _ (List.mem_append_right _ (List.mem_append_right _ (List.mem_append_right _ (List.mem_append_left _ (List.mem_of_getElem? (i := 9) rfl))))))))), rfl⟩
theorem wd_1709 : (Jvm.Cond.methodLink "ParlourLeavesModel" (188 : Nat) ({ cls := "ParlourLeavesModel", name := "readNumber", desc := "(II)Z" } : Jvm.MethodName)) ∈ zTB := List.mem_filter.mpr ⟨List.mem_append_right _ (List.mem_append_right _ (List.mem_append_right _ (List.mem_append_right _ (List.mem_append_right _ (List.mem_append_right _ (List.mem_append_right _ (List.mem_append_right _ (List.mem_append_left _ (List.mem_of_getElem? (i := 29) rfl))))))))), rfl⟩
theorem wd_1711 : (Jvm.Cond.instanceMethod ({ cls := "ParlourLeavesModel", name := "readNumber", desc := "(II)Z" } : Jvm.MethodName)) ∈ zTB := List.mem_filter.mpr ⟨List.mem_append_right _ (List.mem_append_right _ (List.mem_append_right _ (List.mem_append_right _ (List.mem_append_right _ (List.mem_append_right _ (List.mem_append_right _ (List.mem_append_right _ (List.mem_append_left _ (List.mem_of_getElem? (i := 31) rfl))))))))), rfl⟩
theorem wd_1712 : (Jvm.Cond.code ({ cls := "ParlourLeavesModel", name := "readNumber", desc := "(II)Z" } : Jvm.MethodName) prog_14_method_23_code (3 : Nat) (Option.some Jvm.ClassFile.FieldType.boolean)) ∈ zTB := List.mem_filter.mpr ⟨List.mem_append_right _ (List.mem_append_right _ (List.mem_append_right _ (List.mem_append_right _ (List.mem_append_right _ (List.mem_append_right _ (List.mem_append_right _ (List.mem_append_right _ (List.mem_append_left _ (List.mem_of_getElem? (i := 32) rfl))))))))), rfl⟩
theorem wd_1720 : (Jvm.Cond.methodLink "ParlourLeavesModel" (212 : Nat) ({ cls := "ParlourLeavesModel", name := "readEnd", desc := "()Z" } : Jvm.MethodName)) ∈ zTB := List.mem_filter.mpr ⟨List.mem_append_right _ (List.mem_append_right _ (List.mem_append_right _ (List.mem_append_right _ (List.mem_append_right _ (List.mem_append_right _ (List.mem_append_right _ (List.mem_append_right _ (List.mem_append_left _ (List.mem_of_getElem? (i := 40) rfl))))))))), rfl⟩
theorem wd_1722 : (Jvm.Cond.instanceMethod ({ cls := "ParlourLeavesModel", name := "readEnd", desc := "()Z" } : Jvm.MethodName)) ∈ zTB := List.mem_filter.mpr ⟨List.mem_append_right _ (List.mem_append_right _ (List.mem_append_right _ (List.mem_append_right _ (List.mem_append_right _ (List.mem_append_right _ (List.mem_append_right _ (List.mem_append_right _ (List.mem_append_left _ (List.mem_of_getElem? (i := 42) rfl))))))))), rfl⟩
theorem wd_1723 : (Jvm.Cond.code ({ cls := "ParlourLeavesModel", name := "readEnd", desc := "()Z" } : Jvm.MethodName) prog_14_method_24_code (1 : Nat) (Option.some Jvm.ClassFile.FieldType.boolean)) ∈ zTB := List.mem_filter.mpr ⟨List.mem_append_right _ (List.mem_append_right _ (List.mem_append_right _ (List.mem_append_right _ (List.mem_append_right _ (List.mem_append_right _ (List.mem_append_right _ (List.mem_append_right _ (List.mem_append_left _ (List.mem_of_getElem? (i := 43) rfl))))))))), rfl⟩
theorem wd_1724 : (Jvm.Cond.methodLink "ParlourLeavesModel" (86 : Nat) ({ cls := "ParlourLeavesModel", name := "isSign", desc := "(I)Z" } : Jvm.MethodName)) ∈ zTB := List.mem_filter.mpr ⟨List.mem_append_right _ (List.mem_append_right _ (List.mem_append_right _ (List.mem_append_right _ (List.mem_append_right _ (List.mem_append_right _ (List.mem_append_right _ (List.mem_append_right _ (List.mem_append_left _ (List.mem_of_getElem? (i := 44) rfl))))))))), rfl⟩
theorem wd_1726 : (Jvm.Cond.instanceMethod ({ cls := "ParlourLeavesModel", name := "isSign", desc := "(I)Z" } : Jvm.MethodName)) ∈ zTB := List.mem_filter.mpr ⟨List.mem_append_right _ (List.mem_append_right _ (List.mem_append_right _ (List.mem_append_right _ (List.mem_append_right _ (List.mem_append_right _ (List.mem_append_right _ (List.mem_append_right _ (List.mem_append_left _ (List.mem_of_getElem? (i := 46) rfl))))))))), rfl⟩
theorem wd_1727 : (Jvm.Cond.code ({ cls := "ParlourLeavesModel", name := "isSign", desc := "(I)Z" } : Jvm.MethodName) prog_14_method_20_code (2 : Nat) (Option.some Jvm.ClassFile.FieldType.boolean)) ∈ zTB := List.mem_filter.mpr ⟨List.mem_append_right _ (List.mem_append_right _ (List.mem_append_right _ (List.mem_append_right _ (List.mem_append_right _ (List.mem_append_right _ (List.mem_append_right _ (List.mem_append_right _ (List.mem_append_left _ (List.mem_of_getElem? (i := 47) rfl))))))))), rfl⟩
theorem wd_1736 : (Jvm.Cond.methodLink "ParlourLeavesModel" (244 : Nat) ({ cls := "ParlourLeavesModel", name := "isPlant", desc := "(I)Z" } : Jvm.MethodName)) ∈ zTB := List.mem_filter.mpr ⟨List.mem_append_right _ (List.mem_append_right _ (List.mem_append_right _ (List.mem_append_right _ (List.mem_append_right _ (List.mem_append_right _ (List.mem_append_right _ (List.mem_append_right _ (List.mem_append_left _ (List.mem_of_getElem? (i := 56) rfl))))))))), rfl⟩
theorem wd_1738 : (Jvm.Cond.instanceMethod ({ cls := "ParlourLeavesModel", name := "isPlant", desc := "(I)Z" } : Jvm.MethodName)) ∈ zTB := List.mem_filter.mpr ⟨List.mem_append_right _ (List.mem_append_right _ (List.mem_append_right _ (List.mem_append_right _ (List.mem_append_right _ (List.mem_append_right _ (List.mem_append_right _ (List.mem_append_right _ (List.mem_append_left _ (List.mem_of_getElem? (i := 58) rfl))))))))), rfl⟩
theorem wd_1739 : (Jvm.Cond.code ({ cls := "ParlourLeavesModel", name := "isPlant", desc := "(I)Z" } : Jvm.MethodName) prog_14_method_42_code (2 : Nat) (Option.some Jvm.ClassFile.FieldType.boolean)) ∈ zTB := List.mem_filter.mpr ⟨List.mem_append_right _ (List.mem_append_right _ (List.mem_append_right _ (List.mem_append_right _ (List.mem_append_right _ (List.mem_append_right _ (List.mem_append_right _ (List.mem_append_right _ (List.mem_append_left _ (List.mem_of_getElem? (i := 59) rfl))))))))), rfl⟩
theorem wd_1799 : (Jvm.Cond.methodLink "ParlourLeavesModel" (259 : Nat) ({ cls := "ParlourLeavesModel", name := "isParlour", desc := "(I)Z" } : Jvm.MethodName)) ∈ zTB := List.mem_filter.mpr ⟨List.mem_append_right _ (List.mem_append_right _ (List.mem_append_right _ (List.mem_append_right _ (List.mem_append_right _ (List.mem_append_right _ (List.mem_append_right _ (List.mem_append_right _ (List.mem_append_left _ (List.mem_of_getElem? (i := 119) rfl))))))))), rfl⟩
theorem wd_1801 : (Jvm.Cond.instanceMethod ({ cls := "ParlourLeavesModel", name := "isParlour", desc := "(I)Z" } : Jvm.MethodName)) ∈ zTB := List.mem_filter.mpr ⟨List.mem_append_right _ (List.mem_append_right _ (List.mem_append_right _ (List.mem_append_right _ (List.mem_append_right _ (List.mem_append_right _ (List.mem_append_right _ (List.mem_append_right _ (List.mem_append_left _ (List.mem_of_getElem? (i := 121) rfl))))))))), rfl⟩
theorem wd_1802 : (Jvm.Cond.code ({ cls := "ParlourLeavesModel", name := "isParlour", desc := "(I)Z" } : Jvm.MethodName) prog_14_method_41_code (2 : Nat) (Option.some Jvm.ClassFile.FieldType.boolean)) ∈ zTB := List.mem_filter.mpr ⟨List.mem_append_right _ (List.mem_append_right _ (List.mem_append_right _ (List.mem_append_right _ (List.mem_append_right _ (List.mem_append_right _ (List.mem_append_right _ (List.mem_append_right _ (List.mem_append_left _ (List.mem_of_getElem? (i := 122) rfl))))))))), rfl⟩
theorem wd_1807 : (Jvm.Cond.methodLink "ParlourLeavesModel" (262 : Nat) ({ cls := "ParlourLeavesModel", name := "proved", desc := "()I" } : Jvm.MethodName)) ∈ zTB := List.mem_filter.mpr ⟨List.mem_append_right _ (List.mem_append_right _ (List.mem_append_right _ (List.mem_append_right _ (List.mem_append_right _ (List.mem_append_right _ (List.mem_append_right _ (List.mem_append_right _ (List.mem_append_left _ (List.mem_of_getElem? (i := 127) rfl))))))))), rfl⟩
theorem wd_1809 : (Jvm.Cond.instanceMethod ({ cls := "ParlourLeavesModel", name := "proved", desc := "()I" } : Jvm.MethodName)) ∈ zTB := List.mem_filter.mpr ⟨List.mem_append_right _ (List.mem_append_right _ (List.mem_append_right _ (List.mem_append_right _ (List.mem_append_right _ (List.mem_append_right _ (List.mem_append_right _ (List.mem_append_right _ (List.mem_append_left _ (List.mem_of_getElem? (i := 129) rfl))))))))), rfl⟩
theorem wd_1810 : (Jvm.Cond.code ({ cls := "ParlourLeavesModel", name := "proved", desc := "()I" } : Jvm.MethodName) prog_14_method_55_code (3 : Nat) (Option.some Jvm.ClassFile.FieldType.int)) ∈ zTB := List.mem_filter.mpr ⟨List.mem_append_right _ (List.mem_append_right _ (List.mem_append_right _ (List.mem_append_right _ (List.mem_append_right _ (List.mem_append_right _ (List.mem_append_right _ (List.mem_append_right _ (List.mem_append_left _ (List.mem_of_getElem? (i := 130) rfl))))))))), rfl⟩
theorem wd_1827 : (Jvm.Cond.methodLink "ParlourLeavesModel" (292 : Nat) ({ cls := "ParlourLeavesModel", name := "doIt", desc := "(IIIIZ)I" } : Jvm.MethodName)) ∈ zTB := List.mem_filter.mpr ⟨List.mem_append_right _ (List.mem_append_right _ (List.mem_append_right _ (List.mem_append_right _ (List.mem_append_right _ (List.mem_append_right _ (List.mem_append_right _ (List.mem_append_right _ (List.mem_append_left _ (List.mem_of_getElem? (i := 147) rfl))))))))), rfl⟩
theorem wd_1829 : (Jvm.Cond.instanceMethod ({ cls := "ParlourLeavesModel", name := "doIt", desc := "(IIIIZ)I" } : Jvm.MethodName)) ∈ zTB := List.mem_filter.mpr ⟨List.mem_append_right _ (List.mem_append_right _ (List.mem_append_right _ (List.mem_append_right _ (List.mem_append_right _ (List.mem_append_right _ (List.mem_append_right _ (List.mem_append_right _ (List.mem_append_left _ (List.mem_of_getElem? (i := 149) rfl))))))))), rfl⟩
theorem wd_1830 : (Jvm.Cond.code ({ cls := "ParlourLeavesModel", name := "doIt", desc := "(IIIIZ)I" } : Jvm.MethodName) prog_14_method_67_code (7 : Nat) (Option.some Jvm.ClassFile.FieldType.int)) ∈ zTB := List.mem_filter.mpr ⟨List.mem_append_right _ (List.mem_append_right _ (List.mem_append_right _ (List.mem_append_right _ (List.mem_append_right _ (List.mem_append_right _ (List.mem_append_right _ (List.mem_append_right _ (List.mem_append_left _ (List.mem_of_getElem? (i := 150) rfl))))))))), rfl⟩
theorem wd_1835 : (Jvm.Cond.methodLink "ParlourLeavesModel" (279 : Nat) ({ cls := "ParlourLeavesModel", name := "snap", desc := "()V" } : Jvm.MethodName)) ∈ zTB := List.mem_filter.mpr ⟨List.mem_append_right _ (List.mem_append_right _ (List.mem_append_right _ (List.mem_append_right _ (List.mem_append_right _ (List.mem_append_right _ (List.mem_append_right _ (List.mem_append_right _ (List.mem_append_left _ (List.mem_of_getElem? (i := 155) rfl))))))))), rfl⟩
theorem wd_1837 : (Jvm.Cond.instanceMethod ({ cls := "ParlourLeavesModel", name := "snap", desc := "()V" } : Jvm.MethodName)) ∈ zTB := List.mem_filter.mpr ⟨List.mem_append_right _ (List.mem_append_right _ (List.mem_append_right _ (List.mem_append_right _ (List.mem_append_right _ (List.mem_append_right _ (List.mem_append_right _ (List.mem_append_right _ (List.mem_append_left _ (List.mem_of_getElem? (i := 157) rfl))))))))), rfl⟩
theorem wd_1838 : (Jvm.Cond.code ({ cls := "ParlourLeavesModel", name := "snap", desc := "()V" } : Jvm.MethodName) prog_14_method_62_code (2 : Nat) (Option.none : Option Jvm.ClassFile.FieldType)) ∈ zTB := List.mem_filter.mpr ⟨List.mem_append_right _ (List.mem_append_right _ (List.mem_append_right _ (List.mem_append_right _ (List.mem_append_right _ (List.mem_append_right _ (List.mem_append_right _ (List.mem_append_right _ (List.mem_append_left _ (List.mem_of_getElem? (i := 158) rfl))))))))), rfl⟩
theorem wd_1998 : (Jvm.Cond.methodLink "ParlourLeavesModel" (363 : Nat) ({ cls := "ParlourLeavesModel", name := "layAside", desc := "()V" } : Jvm.MethodName)) ∈ zTB := List.mem_filter.mpr ⟨List.mem_append_right _ (List.mem_append_right _ (List.mem_append_right _ (List.mem_append_right _ (List.mem_append_right _ (List.mem_append_right _ (List.mem_append_right _ (List.mem_append_right _ (List.mem_append_right _ (List.mem_of_getElem? (i := 78) rfl))))))))), rfl⟩
theorem wd_2000 : (Jvm.Cond.instanceMethod ({ cls := "ParlourLeavesModel", name := "layAside", desc := "()V" } : Jvm.MethodName)) ∈ zTB := List.mem_filter.mpr ⟨List.mem_append_right _ (List.mem_append_right _ (List.mem_append_right _ (List.mem_append_right _ (List.mem_append_right _ (List.mem_append_right _ (List.mem_append_right _ (List.mem_append_right _ (List.mem_append_right _ (List.mem_of_getElem? (i := 80) rfl))))))))), rfl⟩
theorem wd_2001 : (Jvm.Cond.code ({ cls := "ParlourLeavesModel", name := "layAside", desc := "()V" } : Jvm.MethodName) prog_14_method_103_code (2 : Nat) (Option.none : Option Jvm.ClassFile.FieldType)) ∈ zTB := List.mem_filter.mpr ⟨List.mem_append_right _ (List.mem_append_right _ (List.mem_append_right _ (List.mem_append_right _ (List.mem_append_right _ (List.mem_append_right _ (List.mem_append_right _ (List.mem_append_right _ (List.mem_append_right _ (List.mem_of_getElem? (i := 81) rfl))))))))), rfl⟩
theorem wd_2006 : (Jvm.Cond.methodLink "ParlourLeavesModel" (369 : Nat) ({ cls := "ParlourLeavesModel", name := "takeBack", desc := "()V" } : Jvm.MethodName)) ∈ zTB := List.mem_filter.mpr ⟨List.mem_append_right _ (List.mem_append_right _ (List.mem_append_right _ (List.mem_append_right _ (List.mem_append_right _ (List.mem_append_right _ (List.mem_append_right _ (List.mem_append_right _ (List.mem_append_right _ (List.mem_of_getElem? (i := 86) rfl))))))))), rfl⟩
theorem wd_2008 : (Jvm.Cond.instanceMethod ({ cls := "ParlourLeavesModel", name := "takeBack", desc := "()V" } : Jvm.MethodName)) ∈ zTB := List.mem_filter.mpr ⟨List.mem_append_right _ (List.mem_append_right _ (List.mem_append_right _ (List.mem_append_right _ (List.mem_append_right _ (List.mem_append_right _ (List.mem_append_right _ (List.mem_append_right _ (List.mem_append_right _ (List.mem_of_getElem? (i := 88) rfl))))))))), rfl⟩
theorem wd_2009 : (Jvm.Cond.code ({ cls := "ParlourLeavesModel", name := "takeBack", desc := "()V" } : Jvm.MethodName) prog_14_method_104_code (2 : Nat) (Option.none : Option Jvm.ClassFile.FieldType)) ∈ zTB := List.mem_filter.mpr ⟨List.mem_append_right _ (List.mem_append_right _ (List.mem_append_right _ (List.mem_append_right _ (List.mem_append_right _ (List.mem_append_right _ (List.mem_append_right _ (List.mem_append_right _ (List.mem_append_right _ (List.mem_of_getElem? (i := 89) rfl))))))))), rfl⟩
theorem wd_2014 : (Jvm.Cond.methodLink "ParlourLeavesModel" (390 : Nat) ({ cls := "ParlourLeavesModel", name := "readBookLine", desc := "()Z" } : Jvm.MethodName)) ∈ zTB := List.mem_filter.mpr ⟨List.mem_append_right _ (List.mem_append_right _ (List.mem_append_right _ (List.mem_append_right _ (List.mem_append_right _ (List.mem_append_right _ (List.mem_append_right _ (List.mem_append_right _ (List.mem_append_right _ (List.mem_of_getElem? (i := 94) rfl))))))))), rfl⟩
theorem wd_2016 : (Jvm.Cond.instanceMethod ({ cls := "ParlourLeavesModel", name := "readBookLine", desc := "()Z" } : Jvm.MethodName)) ∈ zTB := List.mem_filter.mpr ⟨List.mem_append_right _ (List.mem_append_right _ (List.mem_append_right _ (List.mem_append_right _ (List.mem_append_right _ (List.mem_append_right _ (List.mem_append_right _ (List.mem_append_right _ (List.mem_append_right _ (List.mem_of_getElem? (i := 96) rfl))))))))), rfl⟩
theorem wd_2017 : (Jvm.Cond.code ({ cls := "ParlourLeavesModel", name := "readBookLine", desc := "()Z" } : Jvm.MethodName) prog_14_method_112_code (6 : Nat) (Option.some Jvm.ClassFile.FieldType.boolean)) ∈ zTB := List.mem_filter.mpr ⟨List.mem_append_right _ (List.mem_append_right _ (List.mem_append_right _ (List.mem_append_right _ (List.mem_append_right _ (List.mem_append_right _ (List.mem_append_right _ (List.mem_append_right _ (List.mem_append_right _ (List.mem_of_getElem? (i := 97) rfl))))))))), rfl⟩
theorem wd_2018 : (Jvm.Cond.methodLink "ParlourLeavesModel" (384 : Nat) ({ cls := "ParlourLeavesModel", name := "readDoes", desc := "(I)Z" } : Jvm.MethodName)) ∈ zTB := List.mem_filter.mpr ⟨List.mem_append_right _ (List.mem_append_right _ (List.mem_append_right _ (List.mem_append_right _ (List.mem_append_right _ (List.mem_append_right _ (List.mem_append_right _ (List.mem_append_right _ (List.mem_append_right _ (List.mem_of_getElem? (i := 98) rfl))))))))), rfl⟩
theorem wd_2020 : (Jvm.Cond.instanceMethod ({ cls := "ParlourLeavesModel", name := "readDoes", desc := "(I)Z" } : Jvm.MethodName)) ∈ zTB := List.mem_filter.mpr ⟨List.mem_append_right _ (List.mem_append_right _ (List.mem_append_right _ (List.mem_append_right _ (List.mem_append_right _ (List.mem_append_right _ (List.mem_append_right _ (List.mem_append_right _ (List.mem_append_right _ (List.mem_of_getElem? (i := 100) rfl))))))))), rfl⟩
theorem wd_2021 : (Jvm.Cond.code ({ cls := "ParlourLeavesModel", name := "readDoes", desc := "(I)Z" } : Jvm.MethodName) prog_14_method_111_code (2 : Nat) (Option.some Jvm.ClassFile.FieldType.boolean)) ∈ zTB := List.mem_filter.mpr ⟨List.mem_append_right _ (List.mem_append_right _ (List.mem_append_right _ (List.mem_append_right _ (List.mem_append_right _ (List.mem_append_right _ (List.mem_append_right _ (List.mem_append_right _ (List.mem_append_right _ (List.mem_of_getElem? (i := 101) rfl))))))))), rfl⟩
theorem wd_2022 : (Jvm.Cond.methodLink "ParlourLeavesModel" (372 : Nat) ({ cls := "ParlourLeavesModel", name := "readNamed", desc := "(II)Z" } : Jvm.MethodName)) ∈ zTB := List.mem_filter.mpr ⟨List.mem_append_right _ (List.mem_append_right _ (List.mem_append_right _ (List.mem_append_right _ (List.mem_append_right _ (List.mem_append_right _ (List.mem_append_right _ (List.mem_append_right _ (List.mem_append_right _ (List.mem_of_getElem? (i := 102) rfl))))))))), rfl⟩
theorem wd_2024 : (Jvm.Cond.instanceMethod ({ cls := "ParlourLeavesModel", name := "readNamed", desc := "(II)Z" } : Jvm.MethodName)) ∈ zTB := List.mem_filter.mpr ⟨List.mem_append_right _ (List.mem_append_right _ (List.mem_append_right _ (List.mem_append_right _ (List.mem_append_right _ (List.mem_append_right _ (List.mem_append_right _ (List.mem_append_right _ (List.mem_append_right _ (List.mem_of_getElem? (i := 104) rfl))))))))), rfl⟩
theorem wd_2025 : (Jvm.Cond.code ({ cls := "ParlourLeavesModel", name := "readNamed", desc := "(II)Z" } : Jvm.MethodName) prog_14_method_108_code (3 : Nat) (Option.some Jvm.ClassFile.FieldType.boolean)) ∈ zTB := List.mem_filter.mpr ⟨List.mem_append_right _ (List.mem_append_right _ (List.mem_append_right _ (List.mem_append_right _ (List.mem_append_right _ (List.mem_append_right _ (List.mem_append_right _ (List.mem_append_right _ (List.mem_append_right _ (List.mem_of_getElem? (i := 105) rfl))))))))), rfl⟩
theorem wd_2026 : (Jvm.Cond.methodLink "ParlourLeavesModel" (375 : Nat) ({ cls := "ParlourLeavesModel", name := "keep", desc := "(IZ)Z" } : Jvm.MethodName)) ∈ zTB := List.mem_filter.mpr ⟨List.mem_append_right _ (List.mem_append_right _ (List.mem_append_right _ (List.mem_append_right _ (List.mem_append_right _ (List.mem_append_right _ (List.mem_append_right _ (List.mem_append_right _ (List.mem_append_right _ (List.mem_of_getElem? (i := 106) rfl))))))))), rfl⟩
theorem wd_2028 : (Jvm.Cond.instanceMethod ({ cls := "ParlourLeavesModel", name := "keep", desc := "(IZ)Z" } : Jvm.MethodName)) ∈ zTB := List.mem_filter.mpr ⟨List.mem_append_right _ (List.mem_append_right _ (List.mem_append_right _ (List.mem_append_right _ (List.mem_append_right _ (List.mem_append_right _ (List.mem_append_right _ (List.mem_append_right _ (List.mem_append_right _ (List.mem_of_getElem? (i := 108) rfl))))))))), rfl⟩
theorem wd_2029 : (Jvm.Cond.code ({ cls := "ParlourLeavesModel", name := "keep", desc := "(IZ)Z" } : Jvm.MethodName) prog_14_method_107_code (3 : Nat) (Option.some Jvm.ClassFile.FieldType.boolean)) ∈ zTB := List.mem_filter.mpr ⟨List.mem_append_right _ (List.mem_append_right _ (List.mem_append_right _ (List.mem_append_right _ (List.mem_append_right _ (List.mem_append_right _ (List.mem_append_right _ (List.mem_append_right _ (List.mem_append_right _ (List.mem_of_getElem? (i := 109) rfl))))))))), rfl⟩
theorem wd_2030 : (Jvm.Cond.methodLink "ParlourLeavesModel" (378 : Nat) ({ cls := "ParlourLeavesModel", name := "readParlourName", desc := "()Z" } : Jvm.MethodName)) ∈ zTB := List.mem_filter.mpr ⟨List.mem_append_right _ (List.mem_append_right _ (List.mem_append_right _ (List.mem_append_right _ (List.mem_append_right _ (List.mem_append_right _ (List.mem_append_right _ (List.mem_append_right _ (List.mem_append_right _ (List.mem_of_getElem? (i := 110) rfl))))))))), rfl⟩
theorem wd_2032 : (Jvm.Cond.instanceMethod ({ cls := "ParlourLeavesModel", name := "readParlourName", desc := "()Z" } : Jvm.MethodName)) ∈ zTB := List.mem_filter.mpr ⟨List.mem_append_right _ (List.mem_append_right _ (List.mem_append_right _ (List.mem_append_right _ (List.mem_append_right _ (List.mem_append_right _ (List.mem_append_right _ (List.mem_append_right _ (List.mem_append_right _ (List.mem_of_getElem? (i := 112) rfl))))))))), rfl⟩
theorem wd_2033 : (Jvm.Cond.code ({ cls := "ParlourLeavesModel", name := "readParlourName", desc := "()Z" } : Jvm.MethodName) prog_14_method_109_code (1 : Nat) (Option.some Jvm.ClassFile.FieldType.boolean)) ∈ zTB := List.mem_filter.mpr ⟨List.mem_append_right _ (List.mem_append_right _ (List.mem_append_right _ (List.mem_append_right _ (List.mem_append_right _ (List.mem_append_right _ (List.mem_append_right _ (List.mem_append_right _ (List.mem_append_right _ (List.mem_of_getElem? (i := 113) rfl))))))))), rfl⟩
theorem wd_2034 : (Jvm.Cond.methodLink "ParlourLeavesModel" (387 : Nat) ({ cls := "ParlourLeavesModel", name := "readPlantName", desc := "()Z" } : Jvm.MethodName)) ∈ zTB := List.mem_filter.mpr ⟨List.mem_append_right _ (List.mem_append_right _ (List.mem_append_right _ (List.mem_append_right _ (List.mem_append_right _ (List.mem_append_right _ (List.mem_append_right _ (List.mem_append_right _ (List.mem_append_right _ (List.mem_of_getElem? (i := 114) rfl))))))))), rfl⟩
theorem wd_2036 : (Jvm.Cond.instanceMethod ({ cls := "ParlourLeavesModel", name := "readPlantName", desc := "()Z" } : Jvm.MethodName)) ∈ zTB := List.mem_filter.mpr ⟨List.mem_append_right _ (List.mem_append_right _ (List.mem_append_right _ (List.mem_append_right _ (List.mem_append_right _ (List.mem_append_right _ (List.mem_append_right _ (List.mem_append_right _ (List.mem_append_right _ (List.mem_of_getElem? (i := 116) rfl))))))))), rfl⟩
theorem wd_2037 : (Jvm.Cond.code ({ cls := "ParlourLeavesModel", name := "readPlantName", desc := "()Z" } : Jvm.MethodName) prog_14_method_110_code (1 : Nat) (Option.some Jvm.ClassFile.FieldType.boolean)) ∈ zTB := List.mem_filter.mpr ⟨List.mem_append_right _ (List.mem_append_right _ (List.mem_append_right _ (List.mem_append_right _ (List.mem_append_right _ (List.mem_append_right _ (List.mem_append_right _ (List.mem_append_right _ (List.mem_append_right _ (List.mem_of_getElem? (i := 117) rfl))))))))), rfl⟩
theorem wd_2038 : (Jvm.Cond.methodLink "ParlourLeavesModel" (393 : Nat) ({ cls := "ParlourLeavesModel", name := "goBy", desc := "(I)I" } : Jvm.MethodName)) ∈ zTB := List.mem_filter.mpr ⟨List.mem_append_right _ (List.mem_append_right _ (List.mem_append_right _ (List.mem_append_right _ (List.mem_append_right _ (List.mem_append_right _ (List.mem_append_right _ (List.mem_append_right _ (List.mem_append_right _ (List.mem_of_getElem? (i := 118) rfl))))))))), rfl⟩
theorem wd_2040 : (Jvm.Cond.instanceMethod ({ cls := "ParlourLeavesModel", name := "goBy", desc := "(I)I" } : Jvm.MethodName)) ∈ zTB := List.mem_filter.mpr ⟨List.mem_append_right _ (List.mem_append_right _ (List.mem_append_right _ (List.mem_append_right _ (List.mem_append_right _ (List.mem_append_right _ (List.mem_append_right _ (List.mem_append_right _ (List.mem_append_right _ (List.mem_of_getElem? (i := 120) rfl))))))))), rfl⟩
theorem wd_2041 : (Jvm.Cond.code ({ cls := "ParlourLeavesModel", name := "goBy", desc := "(I)I" } : Jvm.MethodName) prog_14_method_113_code (4 : Nat) (Option.some Jvm.ClassFile.FieldType.int)) ∈ zTB := List.mem_filter.mpr ⟨List.mem_append_right _ (List.mem_append_right _ (List.mem_append_right _ (List.mem_append_right _ (List.mem_append_right _ (List.mem_append_right _ (List.mem_append_right _ (List.mem_append_right _ (List.mem_append_right _ (List.mem_of_getElem? (i := 121) rfl))))))))), rfl⟩
theorem wd_2042 : (Jvm.Cond.methodLink "ParlourLeavesModel" (399 : Nat) ({ cls := "ParlourLeavesModel", name := "stay", desc := "(Z)V" } : Jvm.MethodName)) ∈ zTB := List.mem_filter.mpr ⟨List.mem_append_right _ (List.mem_append_right _ (List.mem_append_right _ (List.mem_append_right _ (List.mem_append_right _ (List.mem_append_right _ (List.mem_append_right _ (List.mem_append_right _ (List.mem_append_right _ (List.mem_of_getElem? (i := 122) rfl))))))))), rfl⟩
theorem wd_2044 : (Jvm.Cond.instanceMethod ({ cls := "ParlourLeavesModel", name := "stay", desc := "(Z)V" } : Jvm.MethodName)) ∈ zTB := List.mem_filter.mpr ⟨List.mem_append_right _ (List.mem_append_right _ (List.mem_append_right _ (List.mem_append_right _ (List.mem_append_right _ (List.mem_append_right _ (List.mem_append_right _ (List.mem_append_right _ (List.mem_append_right _ (List.mem_of_getElem? (i := 124) rfl))))))))), rfl⟩
theorem wd_2045 : (Jvm.Cond.code ({ cls := "ParlourLeavesModel", name := "stay", desc := "(Z)V" } : Jvm.MethodName) prog_14_method_115_code (4 : Nat) (Option.none : Option Jvm.ClassFile.FieldType)) ∈ zTB := List.mem_filter.mpr ⟨List.mem_append_right _ (List.mem_append_right _ (List.mem_append_right _ (List.mem_append_right _ (List.mem_append_right _ (List.mem_append_right _ (List.mem_append_right _ (List.mem_append_right _ (List.mem_append_right _ (List.mem_of_getElem? (i := 125) rfl))))))))), rfl⟩
theorem wp_3_8 : Cond.selects "ParlourLeavesModel" (⟨"ParlourLeavesModel", "bad", "(I)Z"⟩ : MethodName) (⟨"ParlourLeavesModel", "bad", "(I)Z"⟩ : MethodName) ∈ zTB := List.mem_filter.mpr ⟨List.mem_append_left _ (List.mem_map.mpr ⟨((⟨"ParlourLeavesModel", "bad", "(I)Z"⟩ : MethodName), 45), (List.mem_append_right _ (List.mem_append_right _ (List.mem_append_left _ (List.mem_of_getElem? (i := 8) rfl)))), rfl⟩), rfl⟩
theorem wp_3_0 : Cond.selects "ParlourLeavesModel" (⟨"ParlourLeavesModel", "begin", "(I)V"⟩ : MethodName) (⟨"ParlourLeavesModel", "begin", "(I)V"⟩ : MethodName) ∈ zTB := List.mem_filter.mpr ⟨List.mem_append_left _ (List.mem_map.mpr ⟨((⟨"ParlourLeavesModel", "begin", "(I)V"⟩ : MethodName), 45), (List.mem_append_right _ (List.mem_append_right _ (List.mem_append_left _ (List.mem_of_getElem? (i := 0) rfl)))), rfl⟩), rfl⟩
theorem wp_5_5 : Cond.selects "ParlourLeavesModel" (⟨"ParlourLeavesModel", "doIt", "(IIIIZ)I"⟩ : MethodName) (⟨"ParlourLeavesModel", "doIt", "(IIIIZ)I"⟩ : MethodName) ∈ zTB := List.mem_filter.mpr ⟨List.mem_append_left _ (List.mem_map.mpr ⟨((⟨"ParlourLeavesModel", "doIt", "(IIIIZ)I"⟩ : MethodName), 45), (List.mem_append_right _ (List.mem_append_right _ (List.mem_append_right _ (List.mem_append_right _ (List.mem_append_left _ (List.mem_of_getElem? (i := 5) rfl)))))), rfl⟩), rfl⟩
theorem wp_7_1 : Cond.selects "ParlourLeavesModel" (⟨"ParlourLeavesModel", "goBy", "(I)I"⟩ : MethodName) (⟨"ParlourLeavesModel", "goBy", "(I)I"⟩ : MethodName) ∈ zTB := List.mem_filter.mpr ⟨List.mem_append_left _ (List.mem_map.mpr ⟨((⟨"ParlourLeavesModel", "goBy", "(I)I"⟩ : MethodName), 45), (List.mem_append_right _ (List.mem_append_right _ (List.mem_append_right _ (List.mem_append_right _ (List.mem_append_right _ (List.mem_append_right _ (List.mem_of_getElem? (i := 1) rfl))))))), rfl⟩), rfl⟩
theorem wp_3_10 : Cond.selects "ParlourLeavesModel" (⟨"ParlourLeavesModel", "isName", "()Z"⟩ : MethodName) (⟨"ParlourLeavesModel", "isName", "()Z"⟩ : MethodName) ∈ zTB := List.mem_filter.mpr ⟨List.mem_append_left _ (List.mem_map.mpr ⟨((⟨"ParlourLeavesModel", "isName", "()Z"⟩ : MethodName), 45), (List.mem_append_right _ (List.mem_append_right _ (List.mem_append_left _ (List.mem_of_getElem? (i := 10) rfl)))), rfl⟩), rfl⟩
theorem wp_5_0 : Cond.selects "ParlourLeavesModel" (⟨"ParlourLeavesModel", "isParlour", "(I)Z"⟩ : MethodName) (⟨"ParlourLeavesModel", "isParlour", "(I)Z"⟩ : MethodName) ∈ zTB := List.mem_filter.mpr ⟨List.mem_append_left _ (List.mem_map.mpr ⟨((⟨"ParlourLeavesModel", "isParlour", "(I)Z"⟩ : MethodName), 45), (List.mem_append_right _ (List.mem_append_right _ (List.mem_append_right _ (List.mem_append_right _ (List.mem_append_left _ (List.mem_of_getElem? (i := 0) rfl)))))), rfl⟩), rfl⟩
theorem wp_4_4 : Cond.selects "ParlourLeavesModel" (⟨"ParlourLeavesModel", "isPlant", "(I)Z"⟩ : MethodName) (⟨"ParlourLeavesModel", "isPlant", "(I)Z"⟩ : MethodName) ∈ zTB := List.mem_filter.mpr ⟨List.mem_append_left _ (List.mem_map.mpr ⟨((⟨"ParlourLeavesModel", "isPlant", "(I)Z"⟩ : MethodName), 45), (List.mem_append_right _ (List.mem_append_right _ (List.mem_append_right _ (List.mem_append_left _ (List.mem_of_getElem? (i := 4) rfl))))), rfl⟩), rfl⟩
theorem wp_4_3 : Cond.selects "ParlourLeavesModel" (⟨"ParlourLeavesModel", "isSign", "(I)Z"⟩ : MethodName) (⟨"ParlourLeavesModel", "isSign", "(I)Z"⟩ : MethodName) ∈ zTB := List.mem_filter.mpr ⟨List.mem_append_left _ (List.mem_map.mpr ⟨((⟨"ParlourLeavesModel", "isSign", "(I)Z"⟩ : MethodName), 45), (List.mem_append_right _ (List.mem_append_right _ (List.mem_append_right _ (List.mem_append_left _ (List.mem_of_getElem? (i := 3) rfl))))), rfl⟩), rfl⟩
theorem wp_3_5 : Cond.selects "ParlourLeavesModel" (⟨"ParlourLeavesModel", "isWord", "(I)Z"⟩ : MethodName) (⟨"ParlourLeavesModel", "isWord", "(I)Z"⟩ : MethodName) ∈ zTB := List.mem_filter.mpr ⟨List.mem_append_left _ (List.mem_map.mpr ⟨((⟨"ParlourLeavesModel", "isWord", "(I)Z"⟩ : MethodName), 45), (List.mem_append_right _ (List.mem_append_right _ (List.mem_append_left _ (List.mem_of_getElem? (i := 5) rfl)))), rfl⟩), rfl⟩
theorem wp_6_14 : Cond.selects "ParlourLeavesModel" (⟨"ParlourLeavesModel", "keep", "(IZ)Z"⟩ : MethodName) (⟨"ParlourLeavesModel", "keep", "(IZ)Z"⟩ : MethodName) ∈ zTB := List.mem_filter.mpr ⟨List.mem_append_left _ (List.mem_map.mpr ⟨((⟨"ParlourLeavesModel", "keep", "(IZ)Z"⟩ : MethodName), 45), (List.mem_append_right _ (List.mem_append_right _ (List.mem_append_right _ (List.mem_append_right _ (List.mem_append_right _ (List.mem_append_left _ (List.mem_of_getElem? (i := 14) rfl))))))), rfl⟩), rfl⟩
theorem wp_6_8 : Cond.selects "ParlourLeavesModel" (⟨"ParlourLeavesModel", "layAside", "()V"⟩ : MethodName) (⟨"ParlourLeavesModel", "layAside", "()V"⟩ : MethodName) ∈ zTB := List.mem_filter.mpr ⟨List.mem_append_left _ (List.mem_map.mpr ⟨((⟨"ParlourLeavesModel", "layAside", "()V"⟩ : MethodName), 45), (List.mem_append_right _ (List.mem_append_right _ (List.mem_append_right _ (List.mem_append_right _ (List.mem_append_right _ (List.mem_append_left _ (List.mem_of_getElem? (i := 8) rfl))))))), rfl⟩), rfl⟩
theorem wp_5_1 : Cond.selects "ParlourLeavesModel" (⟨"ParlourLeavesModel", "proved", "()I"⟩ : MethodName) (⟨"ParlourLeavesModel", "proved", "()I"⟩ : MethodName) ∈ zTB := List.mem_filter.mpr ⟨List.mem_append_left _ (List.mem_map.mpr ⟨((⟨"ParlourLeavesModel", "proved", "()I"⟩ : MethodName), 45), (List.mem_append_right _ (List.mem_append_right _ (List.mem_append_right _ (List.mem_append_right _ (List.mem_append_left _ (List.mem_of_getElem? (i := 1) rfl)))))), rfl⟩), rfl⟩
theorem wp_6_11 : Cond.selects "ParlourLeavesModel" (⟨"ParlourLeavesModel", "readBookLine", "()Z"⟩ : MethodName) (⟨"ParlourLeavesModel", "readBookLine", "()Z"⟩ : MethodName) ∈ zTB := List.mem_filter.mpr ⟨List.mem_append_left _ (List.mem_map.mpr ⟨((⟨"ParlourLeavesModel", "readBookLine", "()Z"⟩ : MethodName), 45), (List.mem_append_right _ (List.mem_append_right _ (List.mem_append_right _ (List.mem_append_right _ (List.mem_append_right _ (List.mem_append_left _ (List.mem_of_getElem? (i := 11) rfl))))))), rfl⟩), rfl⟩
theorem wp_6_12 : Cond.selects "ParlourLeavesModel" (⟨"ParlourLeavesModel", "readDoes", "(I)Z"⟩ : MethodName) (⟨"ParlourLeavesModel", "readDoes", "(I)Z"⟩ : MethodName) ∈ zTB := List.mem_filter.mpr ⟨List.mem_append_left _ (List.mem_map.mpr ⟨((⟨"ParlourLeavesModel", "readDoes", "(I)Z"⟩ : MethodName), 45), (List.mem_append_right _ (List.mem_append_right _ (List.mem_append_right _ (List.mem_append_right _ (List.mem_append_right _ (List.mem_append_left _ (List.mem_of_getElem? (i := 12) rfl))))))), rfl⟩), rfl⟩
theorem wp_4_2 : Cond.selects "ParlourLeavesModel" (⟨"ParlourLeavesModel", "readEnd", "()Z"⟩ : MethodName) (⟨"ParlourLeavesModel", "readEnd", "()Z"⟩ : MethodName) ∈ zTB := List.mem_filter.mpr ⟨List.mem_append_left _ (List.mem_map.mpr ⟨((⟨"ParlourLeavesModel", "readEnd", "()Z"⟩ : MethodName), 45), (List.mem_append_right _ (List.mem_append_right _ (List.mem_append_right _ (List.mem_append_left _ (List.mem_of_getElem? (i := 2) rfl))))), rfl⟩), rfl⟩
theorem wp_6_13 : Cond.selects "ParlourLeavesModel" (⟨"ParlourLeavesModel", "readNamed", "(II)Z"⟩ : MethodName) (⟨"ParlourLeavesModel", "readNamed", "(II)Z"⟩ : MethodName) ∈ zTB := List.mem_filter.mpr ⟨List.mem_append_left _ (List.mem_map.mpr ⟨((⟨"ParlourLeavesModel", "readNamed", "(II)Z"⟩ : MethodName), 45), (List.mem_append_right _ (List.mem_append_right _ (List.mem_append_right _ (List.mem_append_right _ (List.mem_append_right _ (List.mem_append_left _ (List.mem_of_getElem? (i := 13) rfl))))))), rfl⟩), rfl⟩
theorem wp_4_0 : Cond.selects "ParlourLeavesModel" (⟨"ParlourLeavesModel", "readNumber", "(II)Z"⟩ : MethodName) (⟨"ParlourLeavesModel", "readNumber", "(II)Z"⟩ : MethodName) ∈ zTB := List.mem_filter.mpr ⟨List.mem_append_left _ (List.mem_map.mpr ⟨((⟨"ParlourLeavesModel", "readNumber", "(II)Z"⟩ : MethodName), 45), (List.mem_append_right _ (List.mem_append_right _ (List.mem_append_right _ (List.mem_append_left _ (List.mem_of_getElem? (i := 0) rfl))))), rfl⟩), rfl⟩
theorem wp_6_15 : Cond.selects "ParlourLeavesModel" (⟨"ParlourLeavesModel", "readParlourName", "()Z"⟩ : MethodName) (⟨"ParlourLeavesModel", "readParlourName", "()Z"⟩ : MethodName) ∈ zTB := List.mem_filter.mpr ⟨List.mem_append_left _ (List.mem_map.mpr ⟨((⟨"ParlourLeavesModel", "readParlourName", "()Z"⟩ : MethodName), 45), (List.mem_append_right _ (List.mem_append_right _ (List.mem_append_right _ (List.mem_append_right _ (List.mem_append_right _ (List.mem_append_left _ (List.mem_of_getElem? (i := 15) rfl))))))), rfl⟩), rfl⟩
theorem wp_7_0 : Cond.selects "ParlourLeavesModel" (⟨"ParlourLeavesModel", "readPlantName", "()Z"⟩ : MethodName) (⟨"ParlourLeavesModel", "readPlantName", "()Z"⟩ : MethodName) ∈ zTB := List.mem_filter.mpr ⟨List.mem_append_left _ (List.mem_map.mpr ⟨((⟨"ParlourLeavesModel", "readPlantName", "()Z"⟩ : MethodName), 45), (List.mem_append_right _ (List.mem_append_right _ (List.mem_append_right _ (List.mem_append_right _ (List.mem_append_right _ (List.mem_append_right _ (List.mem_of_getElem? (i := 0) rfl))))))), rfl⟩), rfl⟩
theorem wp_5_7 : Cond.selects "ParlourLeavesModel" (⟨"ParlourLeavesModel", "snap", "()V"⟩ : MethodName) (⟨"ParlourLeavesModel", "snap", "()V"⟩ : MethodName) ∈ zTB := List.mem_filter.mpr ⟨List.mem_append_left _ (List.mem_map.mpr ⟨((⟨"ParlourLeavesModel", "snap", "()V"⟩ : MethodName), 45), (List.mem_append_right _ (List.mem_append_right _ (List.mem_append_right _ (List.mem_append_right _ (List.mem_append_left _ (List.mem_of_getElem? (i := 7) rfl)))))), rfl⟩), rfl⟩
theorem wp_7_2 : Cond.selects "ParlourLeavesModel" (⟨"ParlourLeavesModel", "stay", "(Z)V"⟩ : MethodName) (⟨"ParlourLeavesModel", "stay", "(Z)V"⟩ : MethodName) ∈ zTB := List.mem_filter.mpr ⟨List.mem_append_left _ (List.mem_map.mpr ⟨((⟨"ParlourLeavesModel", "stay", "(Z)V"⟩ : MethodName), 45), (List.mem_append_right _ (List.mem_append_right _ (List.mem_append_right _ (List.mem_append_right _ (List.mem_append_right _ (List.mem_append_right _ (List.mem_of_getElem? (i := 2) rfl))))))), rfl⟩), rfl⟩
theorem wp_6_10 : Cond.selects "ParlourLeavesModel" (⟨"ParlourLeavesModel", "takeBack", "()V"⟩ : MethodName) (⟨"ParlourLeavesModel", "takeBack", "()V"⟩ : MethodName) ∈ zTB := List.mem_filter.mpr ⟨List.mem_append_left _ (List.mem_map.mpr ⟨((⟨"ParlourLeavesModel", "takeBack", "()V"⟩ : MethodName), 45), (List.mem_append_right _ (List.mem_append_right _ (List.mem_append_right _ (List.mem_append_right _ (List.mem_append_right _ (List.mem_append_left _ (List.mem_of_getElem? (i := 10) rfl))))))), rfl⟩), rfl⟩
theorem dn_X12_wordOf : zDn yX12_wordOf 1 := ⟨by decide, by decide, by decide +kernel⟩
theorem dn_X12_isName : zDn yX12_isName 0 := ⟨by decide, by decide, by decide +kernel⟩
theorem dn_X12_findIn : zDn yX12_findIn 4 := ⟨by decide, by decide, by decide +kernel⟩
theorem dn_X12_bad : zDn yX12_bad 1 := ⟨by decide, by decide, by decide +kernel⟩
theorem dn_X12_readNamed : zDn yX12_readNamed 2 := ⟨by decide, by decide, by decide +kernel⟩
theorem dn_X12_isWord : zDn yX12_isWord 1 := ⟨by decide, by decide, by decide +kernel⟩
theorem dn_X12_keep : zDn yX12_keep 2 := ⟨by decide, by decide, by decide +kernel⟩
theorem dn_X12_readParlourName : zDn yX12_readParlourName 0 := ⟨by decide, by decide, by decide +kernel⟩
theorem dn_X12_isSign : zDn yX12_isSign 1 := ⟨by decide, by decide, by decide +kernel⟩
theorem dn_X12_readPlantName : zDn yX12_readPlantName 0 := ⟨by decide, by decide, by decide +kernel⟩
theorem dn_X12_readEnd : zDn yX12_readEnd 0 := ⟨by decide, by decide, by decide +kernel⟩
theorem dn_X12_readNumber : zDn yX12_readNumber 2 := ⟨by decide, by decide, by decide +kernel⟩
theorem dn_X12_readDoes : zDn yX12_readDoes 1 := ⟨by decide, by decide, by decide +kernel⟩
theorem zs_980 : (Int16.ofInt (980)).toInt32 = (980 : Int32) := by decide
theorem dn_X12_snap : zDn yX12_snap 0 := ⟨by decide, by decide, by decide +kernel⟩
theorem dn_X12_takeBack : zDn yX12_takeBack 0 := ⟨by decide, by decide, by decide +kernel⟩
theorem dn_X12_begin : zDn yX12_begin 1 := ⟨by decide, by decide, by decide +kernel⟩
theorem dn_X12_layAside : zDn yX12_layAside 0 := ⟨by decide, by decide, by decide +kernel⟩
theorem dn_X12_proved : zDn yX12_proved 0 := ⟨by decide, by decide, by decide +kernel⟩
theorem dn_X12_stay : zDn yX12_stay 1 := ⟨by decide, by decide, by decide +kernel⟩
theorem dn_X12_goBy : zDn yX12_goBy 1 := ⟨by decide, by decide, by decide +kernel⟩
theorem dn_X12_readBookLine : zDn yX12_readBookLine 0 := ⟨by decide, by decide, by decide +kernel⟩
theorem dn_X12_isPlant : zDn yX12_isPlant 1 := ⟨by decide, by decide, by decide +kernel⟩
theorem dn_X12_doIt : zDn yX12_doIt 5 := ⟨by decide, by decide, by decide +kernel⟩
theorem dn_X12_isParlour : zDn yX12_isParlour 1 := ⟨by decide, by decide, by decide +kernel⟩
theorem cv_X12_62 : zCS RX12 62 yX12_wordOf cX12_wordOf 1 (some .long) 1 := ⟨dn_X12_wordOf, wd_1657, wd_1658, wd_19, wd_1659⟩
theorem lk_X12_79 : zLk RX12 79 13 13 := ⟨"ParlourLeavesModel", RX12, TX12, 45, rfl, by decide, wsin_X12, wd_1498, rfl⟩
theorem cv_X12_164 : zCV RX12 RX12 164 yX12_isName cX12_isName 2 (some .boolean) 0 := ⟨rfl, dn_X12_isName, wd_1679, wd_1681, wp_3_10, wd_19, wd_1682⟩
theorem lk_X12_113 : zLk RX12 113 13 19 := ⟨"ParlourLeavesModel", RX12, TX12, 45, rfl, by decide, wsin_X12, wd_1504, rfl⟩
theorem cv_X12_160 : zCS RX12 160 yX12_findIn cX12_findIn 6 (some .int) 4 := ⟨dn_X12_findIn, wd_1687, wd_1688, wd_19, wd_1689⟩
theorem lq_X12_79 : zLq RX12 79 13 13 .int := ⟨"ParlourLeavesModel", RX12, TX12, 45, tyX12, rfl, by decide, wsin_X12, wd_1498, rfl, rfl, by decide +kernel, tyX12_ok, nmX12⟩
theorem cv_X12_72 : zCV RX12 RX12 72 yX12_bad cX12_bad 2 (some .boolean) 1 := ⟨rfl, dn_X12_bad, wd_1671, wd_1673, wp_3_8, wd_19, wd_1674⟩
theorem cv_X12_372 : zCV RX12 RX12 372 yX12_readNamed cX12_readNamed 3 (some .boolean) 2 := ⟨rfl, dn_X12_readNamed, wd_2022, wd_2024, wp_6_13, wd_19, wd_2025⟩
theorem cv_X12_191 : zCV RX12 RX12 191 yX12_isWord cX12_isWord 2 (some .boolean) 1 := ⟨rfl, dn_X12_isWord, wd_1653, wd_1655, wp_3_5, wd_19, wd_1656⟩
theorem cv_X12_375 : zCV RX12 RX12 375 yX12_keep cX12_keep 3 (some .boolean) 2 := ⟨rfl, dn_X12_keep, wd_2026, wd_2028, wp_6_14, wd_19, wd_2029⟩
theorem cv_X12_378 : zCV RX12 RX12 378 yX12_readParlourName cX12_readParlourName 1 (some .boolean) 0 := ⟨rfl, dn_X12_readParlourName, wd_2030, wd_2032, wp_6_15, wd_19, wd_2033⟩
theorem lk_X12_40 : zLk RX12 40 13 9 := ⟨"ParlourLeavesModel", RX12, TX12, 45, rfl, by decide, wsin_X12, wd_1494, rfl⟩
theorem cv_X12_86 : zCV RX12 RX12 86 yX12_isSign cX12_isSign 2 (some .boolean) 1 := ⟨rfl, dn_X12_isSign, wd_1724, wd_1726, wp_4_3, wd_19, wd_1727⟩
theorem lk_X12_381 : zLk RX12 381 13 38 := ⟨"ParlourLeavesModel", RX12, TX12, 45, rfl, by decide, wsin_X12, wd_1523, rfl⟩
theorem cv_X12_387 : zCV RX12 RX12 387 yX12_readPlantName cX12_readPlantName 1 (some .boolean) 0 := ⟨rfl, dn_X12_readPlantName, wd_2034, wd_2036, wp_7_0, wd_19, wd_2037⟩
theorem cv_X12_212 : zCV RX12 RX12 212 yX12_readEnd cX12_readEnd 1 (some .boolean) 0 := ⟨rfl, dn_X12_readEnd, wd_1720, wd_1722, wp_4_2, wd_19, wd_1723⟩
theorem cv_X12_188 : zCV RX12 RX12 188 yX12_readNumber cX12_readNumber 3 (some .boolean) 2 := ⟨rfl, dn_X12_readNumber, wd_1709, wd_1711, wp_4_0, wd_19, wd_1712⟩
theorem cv_X12_384 : zCV RX12 RX12 384 yX12_readDoes cX12_readDoes 2 (some .boolean) 1 := ⟨rfl, dn_X12_readDoes, wd_2018, wd_2020, wp_6_12, wd_19, wd_2021⟩
theorem lk_X12_215 : zLk RX12 215 13 24 := ⟨"ParlourLeavesModel", RX12, TX12, 45, rfl, by decide, wsin_X12, wd_1509, rfl⟩
theorem lq_X12_215 : zLq RX12 215 13 24 .int := ⟨"ParlourLeavesModel", RX12, TX12, 45, tyX12, rfl, by decide, wsin_X12, wd_1509, rfl, rfl, by decide +kernel, tyX12_ok, nmX12⟩
theorem lk_X12_107 : zLk RX12 107 13 17 := ⟨"ParlourLeavesModel", RX12, TX12, 45, rfl, by decide, wsin_X12, wd_1502, rfl⟩
theorem cv_X12_279 : zCV RX12 RX12 279 yX12_snap cX12_snap 2 none 0 := ⟨rfl, dn_X12_snap, wd_1835, wd_1837, wp_5_7, wd_19, wd_1838⟩
theorem cv_X12_369 : zCV RX12 RX12 369 yX12_takeBack cX12_takeBack 2 none 0 := ⟨rfl, dn_X12_takeBack, wd_2006, wd_2008, wp_6_10, wd_19, wd_2009⟩
theorem cv_X12_206 : zCV RX12 RX12 206 yX12_begin cX12_begin 2 none 1 := ⟨rfl, dn_X12_begin, wd_1625, wd_1627, wp_3_0, wd_19, wd_1628⟩
theorem lq_X12_381 : zLq RX12 381 13 38 .int := ⟨"ParlourLeavesModel", RX12, TX12, 45, tyX12, rfl, by decide, wsin_X12, wd_1523, rfl, rfl, by decide +kernel, tyX12_ok, nmX12⟩
theorem cv_X12_363 : zCV RX12 RX12 363 yX12_layAside cX12_layAside 2 none 0 := ⟨rfl, dn_X12_layAside, wd_1998, wd_2000, wp_6_8, wd_19, wd_2001⟩
theorem lk_X12_151 : zLk RX12 151 13 37 := ⟨"ParlourLeavesModel", RX12, TX12, 45, rfl, by decide, wsin_X12, wd_1522, rfl⟩
theorem cv_X12_262 : zCV RX12 RX12 262 yX12_proved cX12_proved 3 (some .int) 0 := ⟨rfl, dn_X12_proved, wd_1807, wd_1809, wp_5_1, wd_19, wd_1810⟩
theorem lq_X12_396 : zLq RX12 396 13 39 .boolean := ⟨"ParlourLeavesModel", RX12, TX12, 45, tyX12, rfl, by decide, wsin_X12, wd_1524, rfl, rfl, by decide +kernel, tyX12_ok, nmX12⟩
theorem cv_X12_399 : zCV RX12 RX12 399 yX12_stay cX12_stay 4 none 1 := ⟨rfl, dn_X12_stay, wd_2042, wd_2044, wp_7_2, wd_19, wd_2045⟩
theorem cv_X12_393 : zCV RX12 RX12 393 yX12_goBy cX12_goBy 4 (some .int) 1 := ⟨rfl, dn_X12_goBy, wd_2038, wd_2040, wp_7_1, wd_19, wd_2041⟩
theorem cv_X12_390 : zCV RX12 RX12 390 yX12_readBookLine cX12_readBookLine 6 (some .boolean) 0 := ⟨rfl, dn_X12_readBookLine, wd_2014, wd_2016, wp_6_11, wd_19, wd_2017⟩
theorem lk_X12_69 : zLk RX12 69 13 11 := ⟨"ParlourLeavesModel", RX12, TX12, 45, rfl, by decide, wsin_X12, wd_1496, rfl⟩
theorem lk_X12_334 : zLk RX12 334 13 34 := ⟨"ParlourLeavesModel", RX12, TX12, 45, rfl, by decide, wsin_X12, wd_1519, rfl⟩
theorem lk_X12_145 : zLk RX12 145 13 33 := ⟨"ParlourLeavesModel", RX12, TX12, 45, rfl, by decide, wsin_X12, wd_1518, rfl⟩
theorem cv_X12_244 : zCV RX12 RX12 244 yX12_isPlant cX12_isPlant 2 (some .boolean) 1 := ⟨rfl, dn_X12_isPlant, wd_1736, wd_1738, wp_4_4, wd_19, wd_1739⟩
theorem cv_X12_292 : zCV RX12 RX12 292 yX12_doIt cX12_doIt 7 (some .int) 5 := ⟨rfl, dn_X12_doIt, wd_1827, wd_1829, wp_5_5, wd_19, wd_1830⟩
theorem cv_X12_259 : zCV RX12 RX12 259 yX12_isParlour cX12_isParlour 2 (some .boolean) 1 := ⟨rfl, dn_X12_isParlour, wd_1799, wd_1801, wp_5_0, wd_19, wd_1802⟩
theorem lk_X12_142 : zLk RX12 142 13 30 := ⟨"ParlourLeavesModel", RX12, TX12, 45, rfl, by decide, wsin_X12, wd_1515, rfl⟩
theorem lk_X12_320 : zLk RX12 320 13 32 := ⟨"ParlourLeavesModel", RX12, TX12, 45, rfl, by decide, wsin_X12, wd_1517, rfl⟩
theorem dX12_isName_0 : decode cX12_isName 0 = .ok (.aload_n 0, 1) := by decide +kernel
theorem dX12_isName_1 : decode cX12_isName 1 = .ok (.getfield 30, 3) := by decide +kernel
theorem dX12_isName_4 : decode cX12_isName 4 = .ok (.iconst 2, 1) := by decide +kernel
theorem dX12_isName_5 : decode cX12_isName 5 = .ok (.if_icmp .eq 5, 3) := by decide +kernel
theorem dX12_isName_8 : decode cX12_isName 8 = .ok (.iconst 0, 1) := by decide +kernel
theorem dX12_isName_9 : decode cX12_isName 9 = .ok (.ireturn, 1) := by decide +kernel
theorem dX12_isName_10 : decode cX12_isName 10 = .ok (.iconst 0, 1) := by decide +kernel
theorem dX12_isName_11 : decode cX12_isName 11 = .ok (.istore_n 1, 1) := by decide +kernel
theorem dX12_isName_12 : decode cX12_isName 12 = .ok (.iload_n 1, 1) := by decide +kernel
theorem dX12_isName_13 : decode cX12_isName 13 = .ok (.bipush 21, 2) := by decide +kernel
theorem dX12_isName_15 : decode cX12_isName 15 = .ok (.if_icmp .gt 23, 3) := by decide +kernel
theorem dX12_isName_18 : decode cX12_isName 18 = .ok (.aload_n 0, 1) := by decide +kernel
theorem dX12_isName_19 : decode cX12_isName 19 = .ok (.getfield 43, 3) := by decide +kernel
theorem dX12_isName_22 : decode cX12_isName 22 = .ok (.iload_n 1, 1) := by decide +kernel
theorem dX12_isName_23 : decode cX12_isName 23 = .ok (.invokestatic 62, 3) := by decide +kernel
theorem dX12_isName_26 : decode cX12_isName 26 = .ok (.lcmp, 1) := by decide +kernel
theorem dX12_isName_27 : decode cX12_isName 27 = .ok (.ifCond .ne 5, 3) := by decide +kernel
theorem dX12_isName_30 : decode cX12_isName 30 = .ok (.iconst 0, 1) := by decide +kernel
theorem dX12_isName_31 : decode cX12_isName 31 = .ok (.ireturn, 1) := by decide +kernel
theorem dX12_isName_32 : decode cX12_isName 32 = .ok (.iinc 1 1, 3) := by decide +kernel
theorem dX12_isName_35 : decode cX12_isName 35 = .ok (.goto (-23), 3) := by decide +kernel
theorem dX12_isName_38 : decode cX12_isName 38 = .ok (.iconst 1, 1) := by decide +kernel
theorem dX12_isName_39 : decode cX12_isName 39 = .ok (.ireturn, 1) := by decide +kernel
theorem dX12_isWord_0 : decode cX12_isWord 0 = .ok (.aload_n 0, 1) := by decide +kernel
theorem dX12_isWord_1 : decode cX12_isWord 1 = .ok (.getfield 30, 3) := by decide +kernel
theorem dX12_isWord_4 : decode cX12_isWord 4 = .ok (.iconst 2, 1) := by decide +kernel
theorem dX12_isWord_5 : decode cX12_isWord 5 = .ok (.if_icmp .ne 19, 3) := by decide +kernel
theorem dX12_isWord_8 : decode cX12_isWord 8 = .ok (.aload_n 0, 1) := by decide +kernel
theorem dX12_isWord_9 : decode cX12_isWord 9 = .ok (.getfield 43, 3) := by decide +kernel
theorem dX12_isWord_12 : decode cX12_isWord 12 = .ok (.iload_n 1, 1) := by decide +kernel
theorem dX12_isWord_13 : decode cX12_isWord 13 = .ok (.invokestatic 62, 3) := by decide +kernel
theorem dX12_isWord_16 : decode cX12_isWord 16 = .ok (.lcmp, 1) := by decide +kernel
theorem dX12_isWord_17 : decode cX12_isWord 17 = .ok (.ifCond .ne 7, 3) := by decide +kernel
theorem dX12_isWord_20 : decode cX12_isWord 20 = .ok (.iconst 1, 1) := by decide +kernel
theorem dX12_isWord_21 : decode cX12_isWord 21 = .ok (.goto 4, 3) := by decide +kernel
theorem dX12_isWord_24 : decode cX12_isWord 24 = .ok (.iconst 0, 1) := by decide +kernel
theorem dX12_isWord_25 : decode cX12_isWord 25 = .ok (.ireturn, 1) := by decide +kernel
theorem dX12_keep_0 : decode cX12_keep 0 = .ok (.iload_n 2, 1) := by decide +kernel
theorem dX12_keep_1 : decode cX12_keep 1 = .ok (.ifCond .eq 13, 3) := by decide +kernel
theorem dX12_keep_4 : decode cX12_keep 4 = .ok (.aload_n 0, 1) := by decide +kernel
theorem dX12_keep_5 : decode cX12_keep 5 = .ok (.getfield 148, 3) := by decide +kernel
theorem dX12_keep_8 : decode cX12_keep 8 = .ok (.iload_n 1, 1) := by decide +kernel
theorem dX12_keep_9 : decode cX12_keep 9 = .ok (.aload_n 0, 1) := by decide +kernel
theorem dX12_keep_10 : decode cX12_keep 10 = .ok (.getfield 79, 3) := by decide +kernel
theorem dX12_keep_13 : decode cX12_keep 13 = .ok (.iastore, 1) := by decide +kernel
theorem dX12_keep_14 : decode cX12_keep 14 = .ok (.iload_n 2, 1) := by decide +kernel
theorem dX12_keep_15 : decode cX12_keep 15 = .ok (.ireturn, 1) := by decide +kernel
theorem dX12_readNamed_0 : decode cX12_readNamed 0 = .ok (.aload_n 0, 1) := by decide +kernel
theorem dX12_readNamed_1 : decode cX12_readNamed 1 = .ok (.invokevirtual 164, 3) := by decide +kernel
theorem dX12_readNamed_4 : decode cX12_readNamed 4 = .ok (.ifCond .ne 9, 3) := by decide +kernel
theorem dX12_readNamed_7 : decode cX12_readNamed 7 = .ok (.aload_n 0, 1) := by decide +kernel
theorem dX12_readNamed_8 : decode cX12_readNamed 8 = .ok (.iconst 1, 1) := by decide +kernel
theorem dX12_readNamed_9 : decode cX12_readNamed 9 = .ok (.invokevirtual 72, 3) := by decide +kernel
theorem dX12_readNamed_12 : decode cX12_readNamed 12 = .ok (.ireturn, 1) := by decide +kernel
theorem dX12_readNamed_13 : decode cX12_readNamed 13 = .ok (.aload_n 0, 1) := by decide +kernel
theorem dX12_readNamed_14 : decode cX12_readNamed 14 = .ok (.aload_n 0, 1) := by decide +kernel
theorem dX12_readNamed_15 : decode cX12_readNamed 15 = .ok (.getfield 113, 3) := by decide +kernel
theorem dX12_readNamed_18 : decode cX12_readNamed 18 = .ok (.iload_n 1, 1) := by decide +kernel
theorem dX12_readNamed_19 : decode cX12_readNamed 19 = .ok (.iload_n 2, 1) := by decide +kernel
theorem dX12_readNamed_20 : decode cX12_readNamed 20 = .ok (.aload_n 0, 1) := by decide +kernel
theorem dX12_readNamed_21 : decode cX12_readNamed 21 = .ok (.getfield 43, 3) := by decide +kernel
theorem dX12_readNamed_24 : decode cX12_readNamed 24 = .ok (.invokestatic 160, 3) := by decide +kernel
theorem dX12_readNamed_27 : decode cX12_readNamed 27 = .ok (.putfield 79, 3) := by decide +kernel
theorem dX12_readNamed_30 : decode cX12_readNamed 30 = .ok (.aload_n 0, 1) := by decide +kernel
theorem dX12_readNamed_31 : decode cX12_readNamed 31 = .ok (.getfield 79, 3) := by decide +kernel
theorem dX12_readNamed_34 : decode cX12_readNamed 34 = .ok (.iconst (-1), 1) := by decide +kernel
theorem dX12_readNamed_35 : decode cX12_readNamed 35 = .ok (.if_icmp .ne 9, 3) := by decide +kernel
theorem dX12_readNamed_38 : decode cX12_readNamed 38 = .ok (.aload_n 0, 1) := by decide +kernel
theorem dX12_readNamed_39 : decode cX12_readNamed 39 = .ok (.iconst 3, 1) := by decide +kernel
theorem dX12_readNamed_40 : decode cX12_readNamed 40 = .ok (.invokevirtual 72, 3) := by decide +kernel
theorem dX12_readNamed_43 : decode cX12_readNamed 43 = .ok (.ireturn, 1) := by decide +kernel
theorem dX12_readNamed_44 : decode cX12_readNamed 44 = .ok (.aload_n 0, 1) := by decide +kernel
theorem dX12_readNamed_45 : decode cX12_readNamed 45 = .ok (.invokevirtual 82, 3) := by decide +kernel
theorem dX12_readNamed_48 : decode cX12_readNamed 48 = .ok (.iconst 1, 1) := by decide +kernel
theorem dX12_readNamed_49 : decode cX12_readNamed 49 = .ok (.ireturn, 1) := by decide +kernel
theorem dX12_readParlourName_0 : decode cX12_readParlourName 0 = .ok (.aload_n 0, 1) := by decide +kernel
theorem dX12_readParlourName_1 : decode cX12_readParlourName 1 = .ok (.iconst 0, 1) := by decide +kernel
theorem dX12_readParlourName_2 : decode cX12_readParlourName 2 = .ok (.aload_n 0, 1) := by decide +kernel
theorem dX12_readParlourName_3 : decode cX12_readParlourName 3 = .ok (.getfield 98, 3) := by decide +kernel
theorem dX12_readParlourName_6 : decode cX12_readParlourName 6 = .ok (.iconst 0, 1) := by decide +kernel
theorem dX12_readParlourName_7 : decode cX12_readParlourName 7 = .ok (.iaload, 1) := by decide +kernel
theorem dX12_readParlourName_8 : decode cX12_readParlourName 8 = .ok (.invokevirtual 372, 3) := by decide +kernel
theorem dX12_readParlourName_11 : decode cX12_readParlourName 11 = .ok (.ireturn, 1) := by decide +kernel
theorem dX12_readDoes_0 : decode cX12_readDoes 0 = .ok (.aload_n 0, 1) := by decide +kernel
theorem dX12_readDoes_1 : decode cX12_readDoes 1 = .ok (.bipush 7, 2) := by decide +kernel
theorem dX12_readDoes_3 : decode cX12_readDoes 3 = .ok (.invokevirtual 191, 3) := by decide +kernel
theorem dX12_readDoes_6 : decode cX12_readDoes 6 = .ok (.ifCond .ne 9, 3) := by decide +kernel
theorem dX12_readDoes_9 : decode cX12_readDoes 9 = .ok (.aload_n 0, 1) := by decide +kernel
theorem dX12_readDoes_10 : decode cX12_readDoes 10 = .ok (.iconst 1, 1) := by decide +kernel
theorem dX12_readDoes_11 : decode cX12_readDoes 11 = .ok (.invokevirtual 72, 3) := by decide +kernel
theorem dX12_readDoes_14 : decode cX12_readDoes 14 = .ok (.ireturn, 1) := by decide +kernel
theorem dX12_readDoes_15 : decode cX12_readDoes 15 = .ok (.aload_n 0, 1) := by decide +kernel
theorem dX12_readDoes_16 : decode cX12_readDoes 16 = .ok (.invokevirtual 82, 3) := by decide +kernel
theorem dX12_readDoes_19 : decode cX12_readDoes 19 = .ok (.aload_n 0, 1) := by decide +kernel
theorem dX12_readDoes_20 : decode cX12_readDoes 20 = .ok (.getfield 148, 3) := by decide +kernel
theorem dX12_readDoes_23 : decode cX12_readDoes 23 = .ok (.iload_n 1, 1) := by decide +kernel
theorem dX12_readDoes_24 : decode cX12_readDoes 24 = .ok (.iconst 0, 1) := by decide +kernel
theorem dX12_readDoes_25 : decode cX12_readDoes 25 = .ok (.iastore, 1) := by decide +kernel
theorem dX12_readDoes_26 : decode cX12_readDoes 26 = .ok (.aload_n 0, 1) := by decide +kernel
theorem dX12_readDoes_27 : decode cX12_readDoes 27 = .ok (.iload_n 1, 1) := by decide +kernel
theorem dX12_readDoes_28 : decode cX12_readDoes 28 = .ok (.iconst 2, 1) := by decide +kernel
theorem dX12_readDoes_29 : decode cX12_readDoes 29 = .ok (.iadd, 1) := by decide +kernel
theorem dX12_readDoes_30 : decode cX12_readDoes 30 = .ok (.aload_n 0, 1) := by decide +kernel
theorem dX12_readDoes_31 : decode cX12_readDoes 31 = .ok (.bipush 15, 2) := by decide +kernel
theorem dX12_readDoes_33 : decode cX12_readDoes 33 = .ok (.aload_n 0, 1) := by decide +kernel
theorem dX12_readDoes_34 : decode cX12_readDoes 34 = .ok (.getfield 98, 3) := by decide +kernel
theorem dX12_readDoes_37 : decode cX12_readDoes 37 = .ok (.iconst 3, 1) := by decide +kernel
theorem dX12_readDoes_38 : decode cX12_readDoes 38 = .ok (.iaload, 1) := by decide +kernel
theorem dX12_readDoes_39 : decode cX12_readDoes 39 = .ok (.invokevirtual 372, 3) := by decide +kernel
theorem dX12_readDoes_42 : decode cX12_readDoes 42 = .ok (.invokevirtual 375, 3) := by decide +kernel
theorem dX12_readDoes_45 : decode cX12_readDoes 45 = .ok (.ifCond .eq 21, 3) := by decide +kernel
theorem dX12_readDoes_48 : decode cX12_readDoes 48 = .ok (.aload_n 0, 1) := by decide +kernel
theorem dX12_readDoes_49 : decode cX12_readDoes 49 = .ok (.iload_n 1, 1) := by decide +kernel
theorem dX12_readDoes_50 : decode cX12_readDoes 50 = .ok (.iconst 3, 1) := by decide +kernel
theorem dX12_readDoes_51 : decode cX12_readDoes 51 = .ok (.iadd, 1) := by decide +kernel
theorem dX12_readDoes_52 : decode cX12_readDoes 52 = .ok (.aload_n 0, 1) := by decide +kernel
theorem dX12_readDoes_53 : decode cX12_readDoes 53 = .ok (.invokevirtual 378, 3) := by decide +kernel
theorem dX12_readDoes_56 : decode cX12_readDoes 56 = .ok (.invokevirtual 375, 3) := by decide +kernel
theorem dX12_readDoes_59 : decode cX12_readDoes 59 = .ok (.ifCond .eq 7, 3) := by decide +kernel
theorem dX12_readDoes_62 : decode cX12_readDoes 62 = .ok (.iconst 1, 1) := by decide +kernel
theorem dX12_readDoes_63 : decode cX12_readDoes 63 = .ok (.goto 4, 3) := by decide +kernel
theorem dX12_readDoes_66 : decode cX12_readDoes 66 = .ok (.iconst 0, 1) := by decide +kernel
theorem dX12_readDoes_67 : decode cX12_readDoes 67 = .ok (.ireturn, 1) := by decide +kernel
theorem dX12_isSign_0 : decode cX12_isSign 0 = .ok (.aload_n 0, 1) := by decide +kernel
theorem dX12_isSign_1 : decode cX12_isSign 1 = .ok (.getfield 30, 3) := by decide +kernel
theorem dX12_isSign_4 : decode cX12_isSign 4 = .ok (.iconst 4, 1) := by decide +kernel
theorem dX12_isSign_5 : decode cX12_isSign 5 = .ok (.if_icmp .ne 15, 3) := by decide +kernel
theorem dX12_isSign_8 : decode cX12_isSign 8 = .ok (.aload_n 0, 1) := by decide +kernel
theorem dX12_isSign_9 : decode cX12_isSign 9 = .ok (.getfield 40, 3) := by decide +kernel
theorem dX12_isSign_12 : decode cX12_isSign 12 = .ok (.iload_n 1, 1) := by decide +kernel
theorem dX12_isSign_13 : decode cX12_isSign 13 = .ok (.if_icmp .ne 7, 3) := by decide +kernel
theorem dX12_isSign_16 : decode cX12_isSign 16 = .ok (.iconst 1, 1) := by decide +kernel
theorem dX12_isSign_17 : decode cX12_isSign 17 = .ok (.goto 4, 3) := by decide +kernel
theorem dX12_isSign_20 : decode cX12_isSign 20 = .ok (.iconst 0, 1) := by decide +kernel
theorem dX12_isSign_21 : decode cX12_isSign 21 = .ok (.ireturn, 1) := by decide +kernel
theorem dX12_readEnd_0 : decode cX12_readEnd 0 = .ok (.aload_n 0, 1) := by decide +kernel
theorem dX12_readEnd_1 : decode cX12_readEnd 1 = .ok (.bipush 59, 2) := by decide +kernel
theorem dX12_readEnd_3 : decode cX12_readEnd 3 = .ok (.invokevirtual 86, 3) := by decide +kernel
theorem dX12_readEnd_6 : decode cX12_readEnd 6 = .ok (.ifCond .ne 9, 3) := by decide +kernel
theorem dX12_readEnd_9 : decode cX12_readEnd 9 = .ok (.aload_n 0, 1) := by decide +kernel
theorem dX12_readEnd_10 : decode cX12_readEnd 10 = .ok (.iconst 1, 1) := by decide +kernel
theorem dX12_readEnd_11 : decode cX12_readEnd 11 = .ok (.invokevirtual 72, 3) := by decide +kernel
theorem dX12_readEnd_14 : decode cX12_readEnd 14 = .ok (.ireturn, 1) := by decide +kernel
theorem dX12_readEnd_15 : decode cX12_readEnd 15 = .ok (.aload_n 0, 1) := by decide +kernel
theorem dX12_readEnd_16 : decode cX12_readEnd 16 = .ok (.invokevirtual 82, 3) := by decide +kernel
theorem dX12_readEnd_19 : decode cX12_readEnd 19 = .ok (.iconst 1, 1) := by decide +kernel
theorem dX12_readEnd_20 : decode cX12_readEnd 20 = .ok (.ireturn, 1) := by decide +kernel
theorem dX12_readNumber_0 : decode cX12_readNumber 0 = .ok (.aload_n 0, 1) := by decide +kernel
theorem dX12_readNumber_1 : decode cX12_readNumber 1 = .ok (.getfield 30, 3) := by decide +kernel
theorem dX12_readNumber_4 : decode cX12_readNumber 4 = .ok (.iconst 3, 1) := by decide +kernel
theorem dX12_readNumber_5 : decode cX12_readNumber 5 = .ok (.if_icmp .eq 9, 3) := by decide +kernel
theorem dX12_readNumber_8 : decode cX12_readNumber 8 = .ok (.aload_n 0, 1) := by decide +kernel
theorem dX12_readNumber_9 : decode cX12_readNumber 9 = .ok (.iconst 1, 1) := by decide +kernel
theorem dX12_readNumber_10 : decode cX12_readNumber 10 = .ok (.invokevirtual 72, 3) := by decide +kernel
theorem dX12_readNumber_13 : decode cX12_readNumber 13 = .ok (.ireturn, 1) := by decide +kernel
theorem dX12_readNumber_14 : decode cX12_readNumber 14 = .ok (.aload_n 0, 1) := by decide +kernel
theorem dX12_readNumber_15 : decode cX12_readNumber 15 = .ok (.getfield 47, 3) := by decide +kernel
theorem dX12_readNumber_18 : decode cX12_readNumber 18 = .ok (.iload_n 1, 1) := by decide +kernel
theorem dX12_readNumber_19 : decode cX12_readNumber 19 = .ok (.iload_n 2, 1) := by decide +kernel
theorem dX12_readNumber_20 : decode cX12_readNumber 20 = .ok (.invokestatic 75, 3) := by decide +kernel
theorem dX12_readNumber_23 : decode cX12_readNumber 23 = .ok (.ifCond .ne 9, 3) := by decide +kernel
theorem dX12_readNumber_26 : decode cX12_readNumber 26 = .ok (.aload_n 0, 1) := by decide +kernel
theorem dX12_readNumber_27 : decode cX12_readNumber 27 = .ok (.iconst 2, 1) := by decide +kernel
theorem dX12_readNumber_28 : decode cX12_readNumber 28 = .ok (.invokevirtual 72, 3) := by decide +kernel
theorem dX12_readNumber_31 : decode cX12_readNumber 31 = .ok (.ireturn, 1) := by decide +kernel
theorem dX12_readNumber_32 : decode cX12_readNumber 32 = .ok (.aload_n 0, 1) := by decide +kernel
theorem dX12_readNumber_33 : decode cX12_readNumber 33 = .ok (.aload_n 0, 1) := by decide +kernel
theorem dX12_readNumber_34 : decode cX12_readNumber 34 = .ok (.getfield 47, 3) := by decide +kernel
theorem dX12_readNumber_37 : decode cX12_readNumber 37 = .ok (.putfield 79, 3) := by decide +kernel
theorem dX12_readNumber_40 : decode cX12_readNumber 40 = .ok (.aload_n 0, 1) := by decide +kernel
theorem dX12_readNumber_41 : decode cX12_readNumber 41 = .ok (.invokevirtual 82, 3) := by decide +kernel
theorem dX12_readNumber_44 : decode cX12_readNumber 44 = .ok (.iconst 1, 1) := by decide +kernel
theorem dX12_readNumber_45 : decode cX12_readNumber 45 = .ok (.ireturn, 1) := by decide +kernel
theorem dX12_readPlantName_0 : decode cX12_readPlantName 0 = .ok (.aload_n 0, 1) := by decide +kernel
theorem dX12_readPlantName_1 : decode cX12_readPlantName 1 = .ok (.iconst 5, 1) := by decide +kernel
theorem dX12_readPlantName_2 : decode cX12_readPlantName 2 = .ok (.aload_n 0, 1) := by decide +kernel
theorem dX12_readPlantName_3 : decode cX12_readPlantName 3 = .ok (.getfield 98, 3) := by decide +kernel
theorem dX12_readPlantName_6 : decode cX12_readPlantName 6 = .ok (.iconst 1, 1) := by decide +kernel
theorem dX12_readPlantName_7 : decode cX12_readPlantName 7 = .ok (.iaload, 1) := by decide +kernel
theorem dX12_readPlantName_8 : decode cX12_readPlantName 8 = .ok (.invokevirtual 372, 3) := by decide +kernel
theorem dX12_readPlantName_11 : decode cX12_readPlantName 11 = .ok (.ireturn, 1) := by decide +kernel
theorem dX12_readBookLine_0 : decode cX12_readBookLine 0 = .ok (.aload_n 0, 1) := by decide +kernel
theorem dX12_readBookLine_1 : decode cX12_readBookLine 1 = .ok (.bipush 8, 2) := by decide +kernel
theorem dX12_readBookLine_3 : decode cX12_readBookLine 3 = .ok (.invokevirtual 191, 3) := by decide +kernel
theorem dX12_readBookLine_6 : decode cX12_readBookLine 6 = .ok (.istore_n 1, 1) := by decide +kernel
theorem dX12_readBookLine_7 : decode cX12_readBookLine 7 = .ok (.aload_n 0, 1) := by decide +kernel
theorem dX12_readBookLine_8 : decode cX12_readBookLine 8 = .ok (.bipush 9, 2) := by decide +kernel
theorem dX12_readBookLine_10 : decode cX12_readBookLine 10 = .ok (.invokevirtual 191, 3) := by decide +kernel
theorem dX12_readBookLine_13 : decode cX12_readBookLine 13 = .ok (.istore_n 2, 1) := by decide +kernel
theorem dX12_readBookLine_14 : decode cX12_readBookLine 14 = .ok (.aload_n 0, 1) := by decide +kernel
theorem dX12_readBookLine_15 : decode cX12_readBookLine 15 = .ok (.bipush 10, 2) := by decide +kernel
theorem dX12_readBookLine_17 : decode cX12_readBookLine 17 = .ok (.invokevirtual 191, 3) := by decide +kernel
theorem dX12_readBookLine_20 : decode cX12_readBookLine 20 = .ok (.istore_n 3, 1) := by decide +kernel
theorem dX12_readBookLine_21 : decode cX12_readBookLine 21 = .ok (.iload_n 1, 1) := by decide +kernel
theorem dX12_readBookLine_22 : decode cX12_readBookLine 22 = .ok (.ifCond .ne 15, 3) := by decide +kernel
theorem dX12_readBookLine_25 : decode cX12_readBookLine 25 = .ok (.iload_n 2, 1) := by decide +kernel
theorem dX12_readBookLine_26 : decode cX12_readBookLine 26 = .ok (.ifCond .ne 11, 3) := by decide +kernel
theorem dX12_readBookLine_29 : decode cX12_readBookLine 29 = .ok (.iload_n 3, 1) := by decide +kernel
theorem dX12_readBookLine_30 : decode cX12_readBookLine 30 = .ok (.ifCond .ne 7, 3) := by decide +kernel
theorem dX12_readBookLine_33 : decode cX12_readBookLine 33 = .ok (.iconst 1, 1) := by decide +kernel
theorem dX12_readBookLine_34 : decode cX12_readBookLine 34 = .ok (.goto 4, 3) := by decide +kernel
theorem dX12_readBookLine_37 : decode cX12_readBookLine 37 = .ok (.iconst 0, 1) := by decide +kernel
theorem dX12_readBookLine_38 : decode cX12_readBookLine 38 = .ok (.istore 4, 2) := by decide +kernel
theorem dX12_readBookLine_40 : decode cX12_readBookLine 40 = .ok (.iload 4, 2) := by decide +kernel
theorem dX12_readBookLine_42 : decode cX12_readBookLine 42 = .ok (.ifCond .eq 45, 3) := by decide +kernel
theorem dX12_readBookLine_45 : decode cX12_readBookLine 45 = .ok (.aload_n 0, 1) := by decide +kernel
theorem dX12_readBookLine_46 : decode cX12_readBookLine 46 = .ok (.invokevirtual 164, 3) := by decide +kernel
theorem dX12_readBookLine_49 : decode cX12_readBookLine 49 = .ok (.ifCond .ne 9, 3) := by decide +kernel
theorem dX12_readBookLine_52 : decode cX12_readBookLine 52 = .ok (.aload_n 0, 1) := by decide +kernel
theorem dX12_readBookLine_53 : decode cX12_readBookLine 53 = .ok (.iconst 1, 1) := by decide +kernel
theorem dX12_readBookLine_54 : decode cX12_readBookLine 54 = .ok (.invokevirtual 72, 3) := by decide +kernel
theorem dX12_readBookLine_57 : decode cX12_readBookLine 57 = .ok (.ireturn, 1) := by decide +kernel
theorem dX12_readBookLine_58 : decode cX12_readBookLine 58 = .ok (.aload_n 0, 1) := by decide +kernel
theorem dX12_readBookLine_59 : decode cX12_readBookLine 59 = .ok (.getfield 113, 3) := by decide +kernel
theorem dX12_readBookLine_62 : decode cX12_readBookLine 62 = .ok (.bipush 11, 2) := by decide +kernel
theorem dX12_readBookLine_64 : decode cX12_readBookLine 64 = .ok (.aload_n 0, 1) := by decide +kernel
theorem dX12_readBookLine_65 : decode cX12_readBookLine 65 = .ok (.getfield 98, 3) := by decide +kernel
theorem dX12_readBookLine_68 : decode cX12_readBookLine 68 = .ok (.iconst 2, 1) := by decide +kernel
theorem dX12_readBookLine_69 : decode cX12_readBookLine 69 = .ok (.iaload, 1) := by decide +kernel
theorem dX12_readBookLine_70 : decode cX12_readBookLine 70 = .ok (.aload_n 0, 1) := by decide +kernel
theorem dX12_readBookLine_71 : decode cX12_readBookLine 71 = .ok (.getfield 43, 3) := by decide +kernel
theorem dX12_readBookLine_74 : decode cX12_readBookLine 74 = .ok (.invokestatic 160, 3) := by decide +kernel
theorem dX12_readBookLine_77 : decode cX12_readBookLine 77 = .ok (.iconst (-1), 1) := by decide +kernel
theorem dX12_readBookLine_78 : decode cX12_readBookLine 78 = .ok (.if_icmp .ne 9, 3) := by decide +kernel
theorem dX12_readBookLine_81 : decode cX12_readBookLine 81 = .ok (.aload_n 0, 1) := by decide +kernel
theorem dX12_readBookLine_82 : decode cX12_readBookLine 82 = .ok (.iconst 3, 1) := by decide +kernel
theorem dX12_readBookLine_83 : decode cX12_readBookLine 83 = .ok (.invokevirtual 72, 3) := by decide +kernel
theorem dX12_readBookLine_86 : decode cX12_readBookLine 86 = .ok (.ireturn, 1) := by decide +kernel
theorem dX12_readBookLine_87 : decode cX12_readBookLine 87 = .ok (.aload_n 0, 1) := by decide +kernel
theorem dX12_readBookLine_88 : decode cX12_readBookLine 88 = .ok (.getfield 381, 3) := by decide +kernel
theorem dX12_readBookLine_91 : decode cX12_readBookLine 91 = .ok (.bipush 40, 2) := by decide +kernel
theorem dX12_readBookLine_93 : decode cX12_readBookLine 93 = .ok (.if_icmp .ne 9, 3) := by decide +kernel
theorem dX12_readBookLine_96 : decode cX12_readBookLine 96 = .ok (.aload_n 0, 1) := by decide +kernel
theorem dX12_readBookLine_97 : decode cX12_readBookLine 97 = .ok (.iconst 4, 1) := by decide +kernel
theorem dX12_readBookLine_98 : decode cX12_readBookLine 98 = .ok (.invokevirtual 72, 3) := by decide +kernel
theorem dX12_readBookLine_101 : decode cX12_readBookLine 101 = .ok (.ireturn, 1) := by decide +kernel
theorem dX12_readBookLine_102 : decode cX12_readBookLine 102 = .ok (.iconst 4, 1) := by decide +kernel
theorem dX12_readBookLine_103 : decode cX12_readBookLine 103 = .ok (.aload_n 0, 1) := by decide +kernel
theorem dX12_readBookLine_104 : decode cX12_readBookLine 104 = .ok (.getfield 381, 3) := by decide +kernel
theorem dX12_readBookLine_107 : decode cX12_readBookLine 107 = .ok (.imul, 1) := by decide +kernel
theorem dX12_readBookLine_108 : decode cX12_readBookLine 108 = .ok (.istore 5, 2) := by decide +kernel
theorem dX12_readBookLine_110 : decode cX12_readBookLine 110 = .ok (.aload_n 0, 1) := by decide +kernel
theorem dX12_readBookLine_111 : decode cX12_readBookLine 111 = .ok (.getfield 148, 3) := by decide +kernel
theorem dX12_readBookLine_114 : decode cX12_readBookLine 114 = .ok (.iload 5, 2) := by decide +kernel
theorem dX12_readBookLine_116 : decode cX12_readBookLine 116 = .ok (.iload_n 1, 1) := by decide +kernel
theorem dX12_readBookLine_117 : decode cX12_readBookLine 117 = .ok (.ifCond .eq 7, 3) := by decide +kernel
theorem dX12_readBookLine_120 : decode cX12_readBookLine 120 = .ok (.iconst 1, 1) := by decide +kernel
theorem dX12_readBookLine_121 : decode cX12_readBookLine 121 = .ok (.goto 12, 3) := by decide +kernel
theorem dX12_readBookLine_124 : decode cX12_readBookLine 124 = .ok (.iload_n 2, 1) := by decide +kernel
theorem dX12_readBookLine_125 : decode cX12_readBookLine 125 = .ok (.ifCond .eq 7, 3) := by decide +kernel
theorem dX12_readBookLine_128 : decode cX12_readBookLine 128 = .ok (.iconst 2, 1) := by decide +kernel
theorem dX12_readBookLine_129 : decode cX12_readBookLine 129 = .ok (.goto 4, 3) := by decide +kernel
theorem dX12_readBookLine_132 : decode cX12_readBookLine 132 = .ok (.iconst 3, 1) := by decide +kernel
theorem dX12_readBookLine_133 : decode cX12_readBookLine 133 = .ok (.iastore, 1) := by decide +kernel
theorem dX12_readBookLine_134 : decode cX12_readBookLine 134 = .ok (.aload_n 0, 1) := by decide +kernel
theorem dX12_readBookLine_135 : decode cX12_readBookLine 135 = .ok (.getfield 148, 3) := by decide +kernel
theorem dX12_readBookLine_138 : decode cX12_readBookLine 138 = .ok (.iload 5, 2) := by decide +kernel
theorem dX12_readBookLine_140 : decode cX12_readBookLine 140 = .ok (.iconst 1, 1) := by decide +kernel
theorem dX12_readBookLine_141 : decode cX12_readBookLine 141 = .ok (.iadd, 1) := by decide +kernel
theorem dX12_readBookLine_142 : decode cX12_readBookLine 142 = .ok (.iload 4, 2) := by decide +kernel
theorem dX12_readBookLine_144 : decode cX12_readBookLine 144 = .ok (.ifCond .eq 25, 3) := by decide +kernel
theorem dX12_readBookLine_147 : decode cX12_readBookLine 147 = .ok (.aload_n 0, 1) := by decide +kernel
theorem dX12_readBookLine_148 : decode cX12_readBookLine 148 = .ok (.getfield 113, 3) := by decide +kernel
theorem dX12_readBookLine_151 : decode cX12_readBookLine 151 = .ok (.bipush 11, 2) := by decide +kernel
theorem dX12_readBookLine_153 : decode cX12_readBookLine 153 = .ok (.aload_n 0, 1) := by decide +kernel
theorem dX12_readBookLine_154 : decode cX12_readBookLine 154 = .ok (.getfield 98, 3) := by decide +kernel
theorem dX12_readBookLine_157 : decode cX12_readBookLine 157 = .ok (.iconst 2, 1) := by decide +kernel
theorem dX12_readBookLine_158 : decode cX12_readBookLine 158 = .ok (.iaload, 1) := by decide +kernel
theorem dX12_readBookLine_159 : decode cX12_readBookLine 159 = .ok (.aload_n 0, 1) := by decide +kernel
theorem dX12_readBookLine_160 : decode cX12_readBookLine 160 = .ok (.getfield 43, 3) := by decide +kernel
theorem dX12_readBookLine_163 : decode cX12_readBookLine 163 = .ok (.invokestatic 160, 3) := by decide +kernel
theorem dX12_readBookLine_166 : decode cX12_readBookLine 166 = .ok (.goto 4, 3) := by decide +kernel
theorem dX12_readBookLine_169 : decode cX12_readBookLine 169 = .ok (.iconst 0, 1) := by decide +kernel
theorem dX12_readBookLine_170 : decode cX12_readBookLine 170 = .ok (.iastore, 1) := by decide +kernel
theorem dX12_readBookLine_171 : decode cX12_readBookLine 171 = .ok (.aload_n 0, 1) := by decide +kernel
theorem dX12_readBookLine_172 : decode cX12_readBookLine 172 = .ok (.getfield 148, 3) := by decide +kernel
theorem dX12_readBookLine_175 : decode cX12_readBookLine 175 = .ok (.iload 5, 2) := by decide +kernel
theorem dX12_readBookLine_177 : decode cX12_readBookLine 177 = .ok (.iconst 2, 1) := by decide +kernel
theorem dX12_readBookLine_178 : decode cX12_readBookLine 178 = .ok (.iadd, 1) := by decide +kernel
theorem dX12_readBookLine_179 : decode cX12_readBookLine 179 = .ok (.iconst 0, 1) := by decide +kernel
theorem dX12_readBookLine_180 : decode cX12_readBookLine 180 = .ok (.iastore, 1) := by decide +kernel
theorem dX12_readBookLine_181 : decode cX12_readBookLine 181 = .ok (.aload_n 0, 1) := by decide +kernel
theorem dX12_readBookLine_182 : decode cX12_readBookLine 182 = .ok (.getfield 148, 3) := by decide +kernel
theorem dX12_readBookLine_185 : decode cX12_readBookLine 185 = .ok (.iload 5, 2) := by decide +kernel
theorem dX12_readBookLine_187 : decode cX12_readBookLine 187 = .ok (.iconst 3, 1) := by decide +kernel
theorem dX12_readBookLine_188 : decode cX12_readBookLine 188 = .ok (.iadd, 1) := by decide +kernel
theorem dX12_readBookLine_189 : decode cX12_readBookLine 189 = .ok (.iconst 0, 1) := by decide +kernel
theorem dX12_readBookLine_190 : decode cX12_readBookLine 190 = .ok (.iastore, 1) := by decide +kernel
theorem dX12_readBookLine_191 : decode cX12_readBookLine 191 = .ok (.aload_n 0, 1) := by decide +kernel
theorem dX12_readBookLine_192 : decode cX12_readBookLine 192 = .ok (.invokevirtual 82, 3) := by decide +kernel
theorem dX12_readBookLine_195 : decode cX12_readBookLine 195 = .ok (.iload 4, 2) := by decide +kernel
theorem dX12_readBookLine_197 : decode cX12_readBookLine 197 = .ok (.ifCond .eq 25, 3) := by decide +kernel
theorem dX12_readBookLine_200 : decode cX12_readBookLine 200 = .ok (.aload_n 0, 1) := by decide +kernel
theorem dX12_readBookLine_201 : decode cX12_readBookLine 201 = .ok (.iload 5, 2) := by decide +kernel
theorem dX12_readBookLine_203 : decode cX12_readBookLine 203 = .ok (.invokevirtual 384, 3) := by decide +kernel
theorem dX12_readBookLine_206 : decode cX12_readBookLine 206 = .ok (.ifCond .eq 14, 3) := by decide +kernel
theorem dX12_readBookLine_209 : decode cX12_readBookLine 209 = .ok (.aload_n 0, 1) := by decide +kernel
theorem dX12_readBookLine_210 : decode cX12_readBookLine 210 = .ok (.invokevirtual 212, 3) := by decide +kernel
theorem dX12_readBookLine_213 : decode cX12_readBookLine 213 = .ok (.ifCond .eq 7, 3) := by decide +kernel
theorem dX12_readBookLine_216 : decode cX12_readBookLine 216 = .ok (.iconst 1, 1) := by decide +kernel
theorem dX12_readBookLine_217 : decode cX12_readBookLine 217 = .ok (.goto 4, 3) := by decide +kernel
theorem dX12_readBookLine_220 : decode cX12_readBookLine 220 = .ok (.iconst 0, 1) := by decide +kernel
theorem dX12_readBookLine_221 : decode cX12_readBookLine 221 = .ok (.ireturn, 1) := by decide +kernel
theorem dX12_readBookLine_222 : decode cX12_readBookLine 222 = .ok (.iload_n 3, 1) := by decide +kernel
theorem dX12_readBookLine_223 : decode cX12_readBookLine 223 = .ok (.ifCond .eq 34, 3) := by decide +kernel
theorem dX12_readBookLine_226 : decode cX12_readBookLine 226 = .ok (.aload_n 0, 1) := by decide +kernel
theorem dX12_readBookLine_227 : decode cX12_readBookLine 227 = .ok (.iload 5, 2) := by decide +kernel
theorem dX12_readBookLine_229 : decode cX12_readBookLine 229 = .ok (.iconst 1, 1) := by decide +kernel
theorem dX12_readBookLine_230 : decode cX12_readBookLine 230 = .ok (.iadd, 1) := by decide +kernel
theorem dX12_readBookLine_231 : decode cX12_readBookLine 231 = .ok (.aload_n 0, 1) := by decide +kernel
theorem dX12_readBookLine_232 : decode cX12_readBookLine 232 = .ok (.iconst 1, 1) := by decide +kernel
theorem dX12_readBookLine_233 : decode cX12_readBookLine 233 = .ok (.bipush 60, 2) := by decide +kernel
theorem dX12_readBookLine_235 : decode cX12_readBookLine 235 = .ok (.invokevirtual 188, 3) := by decide +kernel
theorem dX12_readBookLine_238 : decode cX12_readBookLine 238 = .ok (.invokevirtual 375, 3) := by decide +kernel
theorem dX12_readBookLine_241 : decode cX12_readBookLine 241 = .ok (.ifCond .eq 14, 3) := by decide +kernel
theorem dX12_readBookLine_244 : decode cX12_readBookLine 244 = .ok (.aload_n 0, 1) := by decide +kernel
theorem dX12_readBookLine_245 : decode cX12_readBookLine 245 = .ok (.invokevirtual 212, 3) := by decide +kernel
theorem dX12_readBookLine_248 : decode cX12_readBookLine 248 = .ok (.ifCond .eq 7, 3) := by decide +kernel
theorem dX12_readBookLine_251 : decode cX12_readBookLine 251 = .ok (.iconst 1, 1) := by decide +kernel
theorem dX12_readBookLine_252 : decode cX12_readBookLine 252 = .ok (.goto 4, 3) := by decide +kernel
theorem dX12_readBookLine_255 : decode cX12_readBookLine 255 = .ok (.iconst 0, 1) := by decide +kernel
theorem dX12_readBookLine_256 : decode cX12_readBookLine 256 = .ok (.ireturn, 1) := by decide +kernel
theorem dX12_readBookLine_257 : decode cX12_readBookLine 257 = .ok (.aload_n 0, 1) := by decide +kernel
theorem dX12_readBookLine_258 : decode cX12_readBookLine 258 = .ok (.iload 5, 2) := by decide +kernel
theorem dX12_readBookLine_260 : decode cX12_readBookLine 260 = .ok (.iconst 1, 1) := by decide +kernel
theorem dX12_readBookLine_261 : decode cX12_readBookLine 261 = .ok (.iadd, 1) := by decide +kernel
theorem dX12_readBookLine_262 : decode cX12_readBookLine 262 = .ok (.aload_n 0, 1) := by decide +kernel
theorem dX12_readBookLine_263 : decode cX12_readBookLine 263 = .ok (.invokevirtual 387, 3) := by decide +kernel
theorem dX12_readBookLine_266 : decode cX12_readBookLine 266 = .ok (.invokevirtual 375, 3) := by decide +kernel
theorem dX12_readBookLine_269 : decode cX12_readBookLine 269 = .ok (.ifCond .ne 5, 3) := by decide +kernel
theorem dX12_readBookLine_272 : decode cX12_readBookLine 272 = .ok (.iconst 0, 1) := by decide +kernel
theorem dX12_readBookLine_273 : decode cX12_readBookLine 273 = .ok (.ireturn, 1) := by decide +kernel
theorem dX12_readBookLine_274 : decode cX12_readBookLine 274 = .ok (.iload_n 1, 1) := by decide +kernel
theorem dX12_readBookLine_275 : decode cX12_readBookLine 275 = .ok (.ifCond .ne 18, 3) := by decide +kernel
theorem dX12_readBookLine_278 : decode cX12_readBookLine 278 = .ok (.aload_n 0, 1) := by decide +kernel
theorem dX12_readBookLine_279 : decode cX12_readBookLine 279 = .ok (.iload 5, 2) := by decide +kernel
theorem dX12_readBookLine_281 : decode cX12_readBookLine 281 = .ok (.iconst 2, 1) := by decide +kernel
theorem dX12_readBookLine_282 : decode cX12_readBookLine 282 = .ok (.iadd, 1) := by decide +kernel
theorem dX12_readBookLine_283 : decode cX12_readBookLine 283 = .ok (.aload_n 0, 1) := by decide +kernel
theorem dX12_readBookLine_284 : decode cX12_readBookLine 284 = .ok (.invokevirtual 378, 3) := by decide +kernel
theorem dX12_readBookLine_287 : decode cX12_readBookLine 287 = .ok (.invokevirtual 375, 3) := by decide +kernel
theorem dX12_readBookLine_290 : decode cX12_readBookLine 290 = .ok (.ifCond .eq 14, 3) := by decide +kernel
theorem dX12_readBookLine_293 : decode cX12_readBookLine 293 = .ok (.aload_n 0, 1) := by decide +kernel
theorem dX12_readBookLine_294 : decode cX12_readBookLine 294 = .ok (.invokevirtual 212, 3) := by decide +kernel
theorem dX12_readBookLine_297 : decode cX12_readBookLine 297 = .ok (.ifCond .eq 7, 3) := by decide +kernel
theorem dX12_readBookLine_300 : decode cX12_readBookLine 300 = .ok (.iconst 1, 1) := by decide +kernel
theorem dX12_readBookLine_301 : decode cX12_readBookLine 301 = .ok (.goto 4, 3) := by decide +kernel
theorem dX12_readBookLine_304 : decode cX12_readBookLine 304 = .ok (.iconst 0, 1) := by decide +kernel
theorem dX12_readBookLine_305 : decode cX12_readBookLine 305 = .ok (.ireturn, 1) := by decide +kernel
theorem dX12_snap_0 : decode cX12_snap 0 = .ok (.aload_n 0, 1) := by decide +kernel
theorem dX12_snap_1 : decode cX12_snap 1 = .ok (.getfield 215, 3) := by decide +kernel
theorem dX12_snap_4 : decode cX12_snap 4 = .ok (.bipush 8, 2) := by decide +kernel
theorem dX12_snap_6 : decode cX12_snap 6 = .ok (.if_icmp .ne 44, 3) := by decide +kernel
theorem dX12_snap_9 : decode cX12_snap 9 = .ok (.iconst 0, 1) := by decide +kernel
theorem dX12_snap_10 : decode cX12_snap 10 = .ok (.istore_n 1, 1) := by decide +kernel
theorem dX12_snap_11 : decode cX12_snap 11 = .ok (.iload_n 1, 1) := by decide +kernel
theorem dX12_snap_12 : decode cX12_snap 12 = .ok (.sipush 980, 3) := by decide +kernel
theorem dX12_snap_15 : decode cX12_snap 15 = .ok (.if_icmp .ge 25, 3) := by decide +kernel
theorem dX12_snap_18 : decode cX12_snap 18 = .ok (.aload_n 0, 1) := by decide +kernel
theorem dX12_snap_19 : decode cX12_snap 19 = .ok (.getfield 107, 3) := by decide +kernel
theorem dX12_snap_22 : decode cX12_snap 22 = .ok (.iload_n 1, 1) := by decide +kernel
theorem dX12_snap_23 : decode cX12_snap 23 = .ok (.aload_n 0, 1) := by decide +kernel
theorem dX12_snap_24 : decode cX12_snap 24 = .ok (.getfield 107, 3) := by decide +kernel
theorem dX12_snap_27 : decode cX12_snap 27 = .ok (.iload_n 1, 1) := by decide +kernel
theorem dX12_snap_28 : decode cX12_snap 28 = .ok (.sipush 140, 3) := by decide +kernel
theorem dX12_snap_31 : decode cX12_snap 31 = .ok (.iadd, 1) := by decide +kernel
theorem dX12_snap_32 : decode cX12_snap 32 = .ok (.iaload, 1) := by decide +kernel
theorem dX12_snap_33 : decode cX12_snap 33 = .ok (.iastore, 1) := by decide +kernel
theorem dX12_snap_34 : decode cX12_snap 34 = .ok (.iinc 1 1, 3) := by decide +kernel
theorem dX12_snap_37 : decode cX12_snap 37 = .ok (.goto (-26), 3) := by decide +kernel
theorem dX12_snap_40 : decode cX12_snap 40 = .ok (.aload_n 0, 1) := by decide +kernel
theorem dX12_snap_41 : decode cX12_snap 41 = .ok (.dup, 1) := by decide +kernel
theorem dX12_snap_42 : decode cX12_snap 42 = .ok (.getfield 215, 3) := by decide +kernel
theorem dX12_snap_45 : decode cX12_snap 45 = .ok (.iconst 1, 1) := by decide +kernel
theorem dX12_snap_46 : decode cX12_snap 46 = .ok (.isub, 1) := by decide +kernel
theorem dX12_snap_47 : decode cX12_snap 47 = .ok (.putfield 215, 3) := by decide +kernel
theorem dX12_snap_50 : decode cX12_snap 50 = .ok (.iconst 0, 1) := by decide +kernel
theorem dX12_snap_51 : decode cX12_snap 51 = .ok (.istore_n 1, 1) := by decide +kernel
theorem dX12_snap_52 : decode cX12_snap 52 = .ok (.iload_n 1, 1) := by decide +kernel
theorem dX12_snap_53 : decode cX12_snap 53 = .ok (.sipush 140, 3) := by decide +kernel
theorem dX12_snap_56 : decode cX12_snap 56 = .ok (.if_icmp .ge 33, 3) := by decide +kernel
theorem dX12_snap_59 : decode cX12_snap 59 = .ok (.aload_n 0, 1) := by decide +kernel
theorem dX12_snap_60 : decode cX12_snap 60 = .ok (.getfield 107, 3) := by decide +kernel
theorem dX12_snap_63 : decode cX12_snap 63 = .ok (.sipush 140, 3) := by decide +kernel
theorem dX12_snap_66 : decode cX12_snap 66 = .ok (.aload_n 0, 1) := by decide +kernel
theorem dX12_snap_67 : decode cX12_snap 67 = .ok (.getfield 215, 3) := by decide +kernel
theorem dX12_snap_70 : decode cX12_snap 70 = .ok (.imul, 1) := by decide +kernel
theorem dX12_snap_71 : decode cX12_snap 71 = .ok (.iload_n 1, 1) := by decide +kernel
theorem dX12_snap_72 : decode cX12_snap 72 = .ok (.iadd, 1) := by decide +kernel
theorem dX12_snap_73 : decode cX12_snap 73 = .ok (.aload_n 0, 1) := by decide +kernel
theorem dX12_snap_74 : decode cX12_snap 74 = .ok (.getfield 98, 3) := by decide +kernel
theorem dX12_snap_77 : decode cX12_snap 77 = .ok (.bipush 24, 2) := by decide +kernel
theorem dX12_snap_79 : decode cX12_snap 79 = .ok (.iload_n 1, 1) := by decide +kernel
theorem dX12_snap_80 : decode cX12_snap 80 = .ok (.iadd, 1) := by decide +kernel
theorem dX12_snap_81 : decode cX12_snap 81 = .ok (.iaload, 1) := by decide +kernel
theorem dX12_snap_82 : decode cX12_snap 82 = .ok (.iastore, 1) := by decide +kernel
theorem dX12_snap_83 : decode cX12_snap 83 = .ok (.iinc 1 1, 3) := by decide +kernel
theorem dX12_snap_86 : decode cX12_snap 86 = .ok (.goto (-34), 3) := by decide +kernel
theorem dX12_snap_89 : decode cX12_snap 89 = .ok (.aload_n 0, 1) := by decide +kernel
theorem dX12_snap_90 : decode cX12_snap 90 = .ok (.dup, 1) := by decide +kernel
theorem dX12_snap_91 : decode cX12_snap 91 = .ok (.getfield 215, 3) := by decide +kernel
theorem dX12_snap_94 : decode cX12_snap 94 = .ok (.iconst 1, 1) := by decide +kernel
theorem dX12_snap_95 : decode cX12_snap 95 = .ok (.iadd, 1) := by decide +kernel
theorem dX12_snap_96 : decode cX12_snap 96 = .ok (.putfield 215, 3) := by decide +kernel
theorem dX12_snap_99 : decode cX12_snap 99 = .ok (.return_, 1) := by decide +kernel
theorem dX12_takeBack_0 : decode cX12_takeBack 0 = .ok (.iconst 0, 1) := by decide +kernel
theorem dX12_takeBack_1 : decode cX12_takeBack 1 = .ok (.istore_n 1, 1) := by decide +kernel
theorem dX12_takeBack_2 : decode cX12_takeBack 2 = .ok (.iload_n 1, 1) := by decide +kernel
theorem dX12_takeBack_3 : decode cX12_takeBack 3 = .ok (.sipush 140, 3) := by decide +kernel
theorem dX12_takeBack_6 : decode cX12_takeBack 6 = .ok (.if_icmp .ge 24, 3) := by decide +kernel
theorem dX12_takeBack_9 : decode cX12_takeBack 9 = .ok (.aload_n 0, 1) := by decide +kernel
theorem dX12_takeBack_10 : decode cX12_takeBack 10 = .ok (.getfield 98, 3) := by decide +kernel
theorem dX12_takeBack_13 : decode cX12_takeBack 13 = .ok (.bipush 24, 2) := by decide +kernel
theorem dX12_takeBack_15 : decode cX12_takeBack 15 = .ok (.iload_n 1, 1) := by decide +kernel
theorem dX12_takeBack_16 : decode cX12_takeBack 16 = .ok (.iadd, 1) := by decide +kernel
theorem dX12_takeBack_17 : decode cX12_takeBack 17 = .ok (.aload_n 0, 1) := by decide +kernel
theorem dX12_takeBack_18 : decode cX12_takeBack 18 = .ok (.getfield 110, 3) := by decide +kernel
theorem dX12_takeBack_21 : decode cX12_takeBack 21 = .ok (.iload_n 1, 1) := by decide +kernel
theorem dX12_takeBack_22 : decode cX12_takeBack 22 = .ok (.iaload, 1) := by decide +kernel
theorem dX12_takeBack_23 : decode cX12_takeBack 23 = .ok (.iastore, 1) := by decide +kernel
theorem dX12_takeBack_24 : decode cX12_takeBack 24 = .ok (.iinc 1 1, 3) := by decide +kernel
theorem dX12_takeBack_27 : decode cX12_takeBack 27 = .ok (.goto (-25), 3) := by decide +kernel
theorem dX12_takeBack_30 : decode cX12_takeBack 30 = .ok (.return_, 1) := by decide +kernel
theorem dX12_stay_0 : decode cX12_stay 0 = .ok (.iconst 0, 1) := by decide +kernel
theorem dX12_stay_1 : decode cX12_stay 1 = .ok (.istore_n 2, 1) := by decide +kernel
theorem dX12_stay_2 : decode cX12_stay 2 = .ok (.iload_n 2, 1) := by decide +kernel
theorem dX12_stay_3 : decode cX12_stay 3 = .ok (.sipush 140, 3) := by decide +kernel
theorem dX12_stay_6 : decode cX12_stay 6 = .ok (.if_icmp .ge 41, 3) := by decide +kernel
theorem dX12_stay_9 : decode cX12_stay 9 = .ok (.aload_n 0, 1) := by decide +kernel
theorem dX12_stay_10 : decode cX12_stay 10 = .ok (.getfield 98, 3) := by decide +kernel
theorem dX12_stay_13 : decode cX12_stay 13 = .ok (.bipush 24, 2) := by decide +kernel
theorem dX12_stay_15 : decode cX12_stay 15 = .ok (.iload_n 2, 1) := by decide +kernel
theorem dX12_stay_16 : decode cX12_stay 16 = .ok (.iadd, 1) := by decide +kernel
theorem dX12_stay_17 : decode cX12_stay 17 = .ok (.iaload, 1) := by decide +kernel
theorem dX12_stay_18 : decode cX12_stay 18 = .ok (.istore_n 3, 1) := by decide +kernel
theorem dX12_stay_19 : decode cX12_stay 19 = .ok (.aload_n 0, 1) := by decide +kernel
theorem dX12_stay_20 : decode cX12_stay 20 = .ok (.getfield 98, 3) := by decide +kernel
theorem dX12_stay_23 : decode cX12_stay 23 = .ok (.bipush 24, 2) := by decide +kernel
theorem dX12_stay_25 : decode cX12_stay 25 = .ok (.iload_n 2, 1) := by decide +kernel
theorem dX12_stay_26 : decode cX12_stay 26 = .ok (.iadd, 1) := by decide +kernel
theorem dX12_stay_27 : decode cX12_stay 27 = .ok (.aload_n 0, 1) := by decide +kernel
theorem dX12_stay_28 : decode cX12_stay 28 = .ok (.getfield 110, 3) := by decide +kernel
theorem dX12_stay_31 : decode cX12_stay 31 = .ok (.iload_n 2, 1) := by decide +kernel
theorem dX12_stay_32 : decode cX12_stay 32 = .ok (.iaload, 1) := by decide +kernel
theorem dX12_stay_33 : decode cX12_stay 33 = .ok (.iastore, 1) := by decide +kernel
theorem dX12_stay_34 : decode cX12_stay 34 = .ok (.aload_n 0, 1) := by decide +kernel
theorem dX12_stay_35 : decode cX12_stay 35 = .ok (.getfield 110, 3) := by decide +kernel
theorem dX12_stay_38 : decode cX12_stay 38 = .ok (.iload_n 2, 1) := by decide +kernel
theorem dX12_stay_39 : decode cX12_stay 39 = .ok (.iload_n 3, 1) := by decide +kernel
theorem dX12_stay_40 : decode cX12_stay 40 = .ok (.iastore, 1) := by decide +kernel
theorem dX12_stay_41 : decode cX12_stay 41 = .ok (.iinc 2 1, 3) := by decide +kernel
theorem dX12_stay_44 : decode cX12_stay 44 = .ok (.goto (-42), 3) := by decide +kernel
theorem dX12_stay_47 : decode cX12_stay 47 = .ok (.iload_n 1, 1) := by decide +kernel
theorem dX12_stay_48 : decode cX12_stay 48 = .ok (.ifCond .ne 4, 3) := by decide +kernel
theorem dX12_stay_51 : decode cX12_stay 51 = .ok (.return_, 1) := by decide +kernel
theorem dX12_stay_52 : decode cX12_stay 52 = .ok (.aload_n 0, 1) := by decide +kernel
theorem dX12_stay_53 : decode cX12_stay 53 = .ok (.invokevirtual 279, 3) := by decide +kernel
theorem dX12_stay_56 : decode cX12_stay 56 = .ok (.aload_n 0, 1) := by decide +kernel
theorem dX12_stay_57 : decode cX12_stay 57 = .ok (.invokevirtual 369, 3) := by decide +kernel
theorem dX12_stay_60 : decode cX12_stay 60 = .ok (.return_, 1) := by decide +kernel
theorem dX12_book_0 : decode cX12_book 0 = .ok (.aload_n 0, 1) := by decide +kernel
theorem dX12_book_1 : decode cX12_book 1 = .ok (.iconst 0, 1) := by decide +kernel
theorem dX12_book_2 : decode cX12_book 2 = .ok (.putfield 1, 3) := by decide +kernel
theorem dX12_book_5 : decode cX12_book 5 = .ok (.iload_n 1, 1) := by decide +kernel
theorem dX12_book_6 : decode cX12_book 6 = .ok (.iconst 0, 1) := by decide +kernel
theorem dX12_book_7 : decode cX12_book 7 = .ok (.iconst 1, 1) := by decide +kernel
theorem dX12_book_8 : decode cX12_book 8 = .ok (.invokestatic 75, 3) := by decide +kernel
theorem dX12_book_11 : decode cX12_book 11 = .ok (.ifCond .ne 7, 3) := by decide +kernel
theorem dX12_book_14 : decode cX12_book 14 = .ok (.sipush (-1000), 3) := by decide +kernel
theorem dX12_book_17 : decode cX12_book 17 = .ok (.ireturn, 1) := by decide +kernel
theorem dX12_book_18 : decode cX12_book 18 = .ok (.aload_n 0, 1) := by decide +kernel
theorem dX12_book_19 : decode cX12_book 19 = .ok (.sipush 400, 3) := by decide +kernel
theorem dX12_book_22 : decode cX12_book 22 = .ok (.invokevirtual 206, 3) := by decide +kernel
theorem dX12_book_25 : decode cX12_book 25 = .ok (.aload_n 0, 1) := by decide +kernel
theorem dX12_book_26 : decode cX12_book 26 = .ok (.iconst 0, 1) := by decide +kernel
theorem dX12_book_27 : decode cX12_book 27 = .ok (.putfield 381, 3) := by decide +kernel
theorem dX12_book_30 : decode cX12_book 30 = .ok (.aload_n 0, 1) := by decide +kernel
theorem dX12_book_31 : decode cX12_book 31 = .ok (.getfield 30, 3) := by decide +kernel
theorem dX12_book_34 : decode cX12_book 34 = .ok (.ifCond .eq 31, 3) := by decide +kernel
theorem dX12_book_37 : decode cX12_book 37 = .ok (.aload_n 0, 1) := by decide +kernel
theorem dX12_book_38 : decode cX12_book 38 = .ok (.invokevirtual 390, 3) := by decide +kernel
theorem dX12_book_41 : decode cX12_book 41 = .ok (.ifCond .ne 11, 3) := by decide +kernel
theorem dX12_book_44 : decode cX12_book 44 = .ok (.bipush (-2), 2) := by decide +kernel
theorem dX12_book_46 : decode cX12_book 46 = .ok (.aload_n 0, 1) := by decide +kernel
theorem dX12_book_47 : decode cX12_book 47 = .ok (.getfield 69, 3) := by decide +kernel
theorem dX12_book_50 : decode cX12_book 50 = .ok (.isub, 1) := by decide +kernel
theorem dX12_book_51 : decode cX12_book 51 = .ok (.ireturn, 1) := by decide +kernel
theorem dX12_book_52 : decode cX12_book 52 = .ok (.aload_n 0, 1) := by decide +kernel
theorem dX12_book_53 : decode cX12_book 53 = .ok (.dup, 1) := by decide +kernel
theorem dX12_book_54 : decode cX12_book 54 = .ok (.getfield 381, 3) := by decide +kernel
theorem dX12_book_57 : decode cX12_book 57 = .ok (.iconst 1, 1) := by decide +kernel
theorem dX12_book_58 : decode cX12_book 58 = .ok (.iadd, 1) := by decide +kernel
theorem dX12_book_59 : decode cX12_book 59 = .ok (.putfield 381, 3) := by decide +kernel
theorem dX12_book_62 : decode cX12_book 62 = .ok (.goto (-32), 3) := by decide +kernel
theorem dX12_book_65 : decode cX12_book 65 = .ok (.aload_n 0, 1) := by decide +kernel
theorem dX12_book_66 : decode cX12_book 66 = .ok (.invokevirtual 363, 3) := by decide +kernel
theorem dX12_book_69 : decode cX12_book 69 = .ok (.iconst 0, 1) := by decide +kernel
theorem dX12_book_70 : decode cX12_book 70 = .ok (.istore_n 2, 1) := by decide +kernel
theorem dX12_book_71 : decode cX12_book 71 = .ok (.iconst 0, 1) := by decide +kernel
theorem dX12_book_72 : decode cX12_book 72 = .ok (.istore_n 3, 1) := by decide +kernel
theorem dX12_book_73 : decode cX12_book 73 = .ok (.iload_n 2, 1) := by decide +kernel
theorem dX12_book_74 : decode cX12_book 74 = .ok (.aload_n 0, 1) := by decide +kernel
theorem dX12_book_75 : decode cX12_book 75 = .ok (.getfield 381, 3) := by decide +kernel
theorem dX12_book_78 : decode cX12_book 78 = .ok (.if_icmp .ge 25, 3) := by decide +kernel
theorem dX12_book_81 : decode cX12_book 81 = .ok (.iload_n 3, 1) := by decide +kernel
theorem dX12_book_82 : decode cX12_book 82 = .ok (.ifCond .ne 21, 3) := by decide +kernel
theorem dX12_book_85 : decode cX12_book 85 = .ok (.aload_n 0, 1) := by decide +kernel
theorem dX12_book_86 : decode cX12_book 86 = .ok (.iconst 4, 1) := by decide +kernel
theorem dX12_book_87 : decode cX12_book 87 = .ok (.iload_n 2, 1) := by decide +kernel
theorem dX12_book_88 : decode cX12_book 88 = .ok (.imul, 1) := by decide +kernel
theorem dX12_book_89 : decode cX12_book 89 = .ok (.invokevirtual 393, 3) := by decide +kernel
theorem dX12_book_92 : decode cX12_book 92 = .ok (.istore_n 3, 1) := by decide +kernel
theorem dX12_book_93 : decode cX12_book 93 = .ok (.iload_n 3, 1) := by decide +kernel
theorem dX12_book_94 : decode cX12_book 94 = .ok (.ifCond .ne (-21), 3) := by decide +kernel
theorem dX12_book_97 : decode cX12_book 97 = .ok (.iinc 2 1, 3) := by decide +kernel
theorem dX12_book_100 : decode cX12_book 100 = .ok (.goto (-27), 3) := by decide +kernel
theorem dX12_book_103 : decode cX12_book 103 = .ok (.aload_n 0, 1) := by decide +kernel
theorem dX12_book_104 : decode cX12_book 104 = .ok (.getfield 151, 3) := by decide +kernel
theorem dX12_book_107 : decode cX12_book 107 = .ok (.iconst 0, 1) := by decide +kernel
theorem dX12_book_108 : decode cX12_book 108 = .ok (.iload_n 3, 1) := by decide +kernel
theorem dX12_book_109 : decode cX12_book 109 = .ok (.iastore, 1) := by decide +kernel
theorem dX12_book_110 : decode cX12_book 110 = .ok (.aload_n 0, 1) := by decide +kernel
theorem dX12_book_111 : decode cX12_book 111 = .ok (.getfield 151, 3) := by decide +kernel
theorem dX12_book_114 : decode cX12_book 114 = .ok (.iconst 1, 1) := by decide +kernel
theorem dX12_book_115 : decode cX12_book 115 = .ok (.iload_n 2, 1) := by decide +kernel
theorem dX12_book_116 : decode cX12_book 116 = .ok (.iastore, 1) := by decide +kernel
theorem dX12_book_117 : decode cX12_book 117 = .ok (.aload_n 0, 1) := by decide +kernel
theorem dX12_book_118 : decode cX12_book 118 = .ok (.getfield 151, 3) := by decide +kernel
theorem dX12_book_121 : decode cX12_book 121 = .ok (.iconst 2, 1) := by decide +kernel
theorem dX12_book_122 : decode cX12_book 122 = .ok (.aload_n 0, 1) := by decide +kernel
theorem dX12_book_123 : decode cX12_book 123 = .ok (.getfield 98, 3) := by decide +kernel
theorem dX12_book_126 : decode cX12_book 126 = .ok (.bipush 24, 2) := by decide +kernel
theorem dX12_book_128 : decode cX12_book 128 = .ok (.iaload, 1) := by decide +kernel
theorem dX12_book_129 : decode cX12_book 129 = .ok (.iastore, 1) := by decide +kernel
theorem dX12_book_130 : decode cX12_book 130 = .ok (.aload_n 0, 1) := by decide +kernel
theorem dX12_book_131 : decode cX12_book 131 = .ok (.getfield 151, 3) := by decide +kernel
theorem dX12_book_134 : decode cX12_book 134 = .ok (.iconst 3, 1) := by decide +kernel
theorem dX12_book_135 : decode cX12_book 135 = .ok (.aload_n 0, 1) := by decide +kernel
theorem dX12_book_136 : decode cX12_book 136 = .ok (.invokevirtual 262, 3) := by decide +kernel
theorem dX12_book_139 : decode cX12_book 139 = .ok (.iastore, 1) := by decide +kernel
theorem dX12_book_140 : decode cX12_book 140 = .ok (.aload_n 0, 1) := by decide +kernel
theorem dX12_book_141 : decode cX12_book 141 = .ok (.iconst 1, 1) := by decide +kernel
theorem dX12_book_142 : decode cX12_book 142 = .ok (.putfield 396, 3) := by decide +kernel
theorem dX12_book_145 : decode cX12_book 145 = .ok (.aload_n 0, 1) := by decide +kernel
theorem dX12_book_146 : decode cX12_book 146 = .ok (.iload_n 1, 1) := by decide +kernel
theorem dX12_book_147 : decode cX12_book 147 = .ok (.iconst 1, 1) := by decide +kernel
theorem dX12_book_148 : decode cX12_book 148 = .ok (.if_icmp .ne 11, 3) := by decide +kernel
theorem dX12_book_151 : decode cX12_book 151 = .ok (.iload_n 2, 1) := by decide +kernel
theorem dX12_book_152 : decode cX12_book 152 = .ok (.ifCond .le 7, 3) := by decide +kernel
theorem dX12_book_155 : decode cX12_book 155 = .ok (.iconst 1, 1) := by decide +kernel
theorem dX12_book_156 : decode cX12_book 156 = .ok (.goto 4, 3) := by decide +kernel
theorem dX12_book_159 : decode cX12_book 159 = .ok (.iconst 0, 1) := by decide +kernel
theorem dX12_book_160 : decode cX12_book 160 = .ok (.invokevirtual 399, 3) := by decide +kernel
theorem dX12_book_163 : decode cX12_book 163 = .ok (.iload_n 3, 1) := by decide +kernel
theorem dX12_book_164 : decode cX12_book 164 = .ok (.ifCond .ne 7, 3) := by decide +kernel
theorem dX12_book_167 : decode cX12_book 167 = .ok (.iconst (-1), 1) := by decide +kernel
theorem dX12_book_168 : decode cX12_book 168 = .ok (.goto 4, 3) := by decide +kernel
theorem dX12_book_171 : decode cX12_book 171 = .ok (.iload_n 2, 1) := by decide +kernel
theorem dX12_book_172 : decode cX12_book 172 = .ok (.ireturn, 1) := by decide +kernel
theorem dX12_byteAt_0 : decode cX12_byteAt 0 = .ok (.aload_n 0, 1) := by decide +kernel
theorem dX12_byteAt_1 : decode cX12_byteAt 1 = .ok (.iconst 0, 1) := by decide +kernel
theorem dX12_byteAt_2 : decode cX12_byteAt 2 = .ok (.putfield 1, 3) := by decide +kernel
theorem dX12_byteAt_5 : decode cX12_byteAt 5 = .ok (.iload_n 1, 1) := by decide +kernel
theorem dX12_byteAt_6 : decode cX12_byteAt 6 = .ok (.iconst 0, 1) := by decide +kernel
theorem dX12_byteAt_7 : decode cX12_byteAt 7 = .ok (.aload_n 0, 1) := by decide +kernel
theorem dX12_byteAt_8 : decode cX12_byteAt 8 = .ok (.getfield 334, 3) := by decide +kernel
theorem dX12_byteAt_11 : decode cX12_byteAt 11 = .ok (.iconst 1, 1) := by decide +kernel
theorem dX12_byteAt_12 : decode cX12_byteAt 12 = .ok (.isub, 1) := by decide +kernel
theorem dX12_byteAt_13 : decode cX12_byteAt 13 = .ok (.invokestatic 75, 3) := by decide +kernel
theorem dX12_byteAt_16 : decode cX12_byteAt 16 = .ok (.ifCond .eq 12, 3) := by decide +kernel
theorem dX12_byteAt_19 : decode cX12_byteAt 19 = .ok (.aload_n 0, 1) := by decide +kernel
theorem dX12_byteAt_20 : decode cX12_byteAt 20 = .ok (.getfield 145, 3) := by decide +kernel
theorem dX12_byteAt_23 : decode cX12_byteAt 23 = .ok (.iload_n 1, 1) := by decide +kernel
theorem dX12_byteAt_24 : decode cX12_byteAt 24 = .ok (.iaload, 1) := by decide +kernel
theorem dX12_byteAt_25 : decode cX12_byteAt 25 = .ok (.goto 4, 3) := by decide +kernel
theorem dX12_byteAt_28 : decode cX12_byteAt 28 = .ok (.iconst (-1), 1) := by decide +kernel
theorem dX12_byteAt_29 : decode cX12_byteAt 29 = .ok (.ireturn, 1) := by decide +kernel
theorem dX12_doIt_0 : decode cX12_doIt 0 = .ok (.iload 5, 2) := by decide +kernel
theorem dX12_doIt_2 : decode cX12_doIt 2 = .ok (.ifCond .ne 5, 3) := by decide +kernel
theorem dX12_doIt_5 : decode cX12_doIt 5 = .ok (.iconst (-1), 1) := by decide +kernel
theorem dX12_doIt_6 : decode cX12_doIt 6 = .ok (.ireturn, 1) := by decide +kernel
theorem dX12_doIt_7 : decode cX12_doIt 7 = .ok (.aload_n 0, 1) := by decide +kernel
theorem dX12_doIt_8 : decode cX12_doIt 8 = .ok (.iload_n 1, 1) := by decide +kernel
theorem dX12_doIt_9 : decode cX12_doIt 9 = .ok (.iload_n 2, 1) := by decide +kernel
theorem dX12_doIt_10 : decode cX12_doIt 10 = .ok (.iload_n 3, 1) := by decide +kernel
theorem dX12_doIt_11 : decode cX12_doIt 11 = .ok (.invokevirtual 275, 3) := by decide +kernel
theorem dX12_doIt_14 : decode cX12_doIt 14 = .ok (.istore 6, 2) := by decide +kernel
theorem dX12_doIt_16 : decode cX12_doIt 16 = .ok (.iload 6, 2) := by decide +kernel
theorem dX12_doIt_18 : decode cX12_doIt 18 = .ok (.ifCond .eq 6, 3) := by decide +kernel
theorem dX12_doIt_21 : decode cX12_doIt 21 = .ok (.iload 6, 2) := by decide +kernel
theorem dX12_doIt_23 : decode cX12_doIt 23 = .ok (.ireturn, 1) := by decide +kernel
theorem dX12_doIt_24 : decode cX12_doIt 24 = .ok (.aload_n 0, 1) := by decide +kernel
theorem dX12_doIt_25 : decode cX12_doIt 25 = .ok (.invokevirtual 279, 3) := by decide +kernel
theorem dX12_doIt_28 : decode cX12_doIt 28 = .ok (.aload_n 0, 1) := by decide +kernel
theorem dX12_doIt_29 : decode cX12_doIt 29 = .ok (.iload_n 1, 1) := by decide +kernel
theorem dX12_doIt_30 : decode cX12_doIt 30 = .ok (.iload_n 2, 1) := by decide +kernel
theorem dX12_doIt_31 : decode cX12_doIt 31 = .ok (.iload_n 3, 1) := by decide +kernel
theorem dX12_doIt_32 : decode cX12_doIt 32 = .ok (.iload 4, 2) := by decide +kernel
theorem dX12_doIt_34 : decode cX12_doIt 34 = .ok (.invokevirtual 282, 3) := by decide +kernel
theorem dX12_doIt_37 : decode cX12_doIt 37 = .ok (.iconst 0, 1) := by decide +kernel
theorem dX12_doIt_38 : decode cX12_doIt 38 = .ok (.ireturn, 1) := by decide +kernel
theorem dX12_isParlour_0 : decode cX12_isParlour 0 = .ok (.iload_n 1, 1) := by decide +kernel
theorem dX12_isParlour_1 : decode cX12_isParlour 1 = .ok (.iconst 0, 1) := by decide +kernel
theorem dX12_isParlour_2 : decode cX12_isParlour 2 = .ok (.aload_n 0, 1) := by decide +kernel
theorem dX12_isParlour_3 : decode cX12_isParlour 3 = .ok (.getfield 98, 3) := by decide +kernel
theorem dX12_isParlour_6 : decode cX12_isParlour 6 = .ok (.iconst 0, 1) := by decide +kernel
theorem dX12_isParlour_7 : decode cX12_isParlour 7 = .ok (.iaload, 1) := by decide +kernel
theorem dX12_isParlour_8 : decode cX12_isParlour 8 = .ok (.iconst 1, 1) := by decide +kernel
theorem dX12_isParlour_9 : decode cX12_isParlour 9 = .ok (.isub, 1) := by decide +kernel
theorem dX12_isParlour_10 : decode cX12_isParlour 10 = .ok (.invokestatic 75, 3) := by decide +kernel
theorem dX12_isParlour_13 : decode cX12_isParlour 13 = .ok (.ireturn, 1) := by decide +kernel
theorem dX12_isPlant_0 : decode cX12_isPlant 0 = .ok (.iload_n 1, 1) := by decide +kernel
theorem dX12_isPlant_1 : decode cX12_isPlant 1 = .ok (.iconst 0, 1) := by decide +kernel
theorem dX12_isPlant_2 : decode cX12_isPlant 2 = .ok (.aload_n 0, 1) := by decide +kernel
theorem dX12_isPlant_3 : decode cX12_isPlant 3 = .ok (.getfield 98, 3) := by decide +kernel
theorem dX12_isPlant_6 : decode cX12_isPlant 6 = .ok (.iconst 1, 1) := by decide +kernel
theorem dX12_isPlant_7 : decode cX12_isPlant 7 = .ok (.iaload, 1) := by decide +kernel
theorem dX12_isPlant_8 : decode cX12_isPlant 8 = .ok (.iconst 1, 1) := by decide +kernel
theorem dX12_isPlant_9 : decode cX12_isPlant 9 = .ok (.isub, 1) := by decide +kernel
theorem dX12_isPlant_10 : decode cX12_isPlant 10 = .ok (.invokestatic 75, 3) := by decide +kernel
theorem dX12_isPlant_13 : decode cX12_isPlant 13 = .ok (.ireturn, 1) := by decide +kernel
theorem dX12_carry_0 : decode cX12_carry 0 = .ok (.aload_n 0, 1) := by decide +kernel
theorem dX12_carry_1 : decode cX12_carry 1 = .ok (.iconst 0, 1) := by decide +kernel
theorem dX12_carry_2 : decode cX12_carry 2 = .ok (.putfield 1, 3) := by decide +kernel
theorem dX12_carry_5 : decode cX12_carry 5 = .ok (.aload_n 0, 1) := by decide +kernel
theorem dX12_carry_6 : decode cX12_carry 6 = .ok (.iconst 2, 1) := by decide +kernel
theorem dX12_carry_7 : decode cX12_carry 7 = .ok (.iload_n 1, 1) := by decide +kernel
theorem dX12_carry_8 : decode cX12_carry 8 = .ok (.iload_n 2, 1) := by decide +kernel
theorem dX12_carry_9 : decode cX12_carry 9 = .ok (.iconst 0, 1) := by decide +kernel
theorem dX12_carry_10 : decode cX12_carry 10 = .ok (.aload_n 0, 1) := by decide +kernel
theorem dX12_carry_11 : decode cX12_carry 11 = .ok (.iload_n 1, 1) := by decide +kernel
theorem dX12_carry_12 : decode cX12_carry 12 = .ok (.invokevirtual 244, 3) := by decide +kernel
theorem dX12_carry_15 : decode cX12_carry 15 = .ok (.ifCond .eq 15, 3) := by decide +kernel
theorem dX12_carry_18 : decode cX12_carry 18 = .ok (.aload_n 0, 1) := by decide +kernel
theorem dX12_carry_19 : decode cX12_carry 19 = .ok (.iload_n 2, 1) := by decide +kernel
theorem dX12_carry_20 : decode cX12_carry 20 = .ok (.invokevirtual 259, 3) := by decide +kernel
theorem dX12_carry_23 : decode cX12_carry 23 = .ok (.ifCond .eq 7, 3) := by decide +kernel
theorem dX12_carry_26 : decode cX12_carry 26 = .ok (.iconst 1, 1) := by decide +kernel
theorem dX12_carry_27 : decode cX12_carry 27 = .ok (.goto 4, 3) := by decide +kernel
theorem dX12_carry_30 : decode cX12_carry 30 = .ok (.iconst 0, 1) := by decide +kernel
theorem dX12_carry_31 : decode cX12_carry 31 = .ok (.invokevirtual 292, 3) := by decide +kernel
theorem dX12_carry_34 : decode cX12_carry 34 = .ok (.ireturn, 1) := by decide +kernel
theorem dX12_cellOf_0 : decode cX12_cellOf 0 = .ok (.bipush 32, 2) := by decide +kernel
theorem dX12_cellOf_2 : decode cX12_cellOf 2 = .ok (.iload_n 0, 1) := by decide +kernel
theorem dX12_cellOf_3 : decode cX12_cellOf 3 = .ok (.imul, 1) := by decide +kernel
theorem dX12_cellOf_4 : decode cX12_cellOf 4 = .ok (.iload_n 1, 1) := by decide +kernel
theorem dX12_cellOf_5 : decode cX12_cellOf 5 = .ok (.iadd, 1) := by decide +kernel
theorem dX12_cellOf_6 : decode cX12_cellOf 6 = .ok (.ireturn, 1) := by decide +kernel
theorem dX12_choose_0 : decode cX12_choose 0 = .ok (.aload_n 0, 1) := by decide +kernel
theorem dX12_choose_1 : decode cX12_choose 1 = .ok (.getfield 142, 3) := by decide +kernel
theorem dX12_choose_4 : decode cX12_choose 4 = .ok (.iconst 0, 1) := by decide +kernel
theorem dX12_choose_5 : decode cX12_choose 5 = .ok (.iload_n 1, 1) := by decide +kernel
theorem dX12_choose_6 : decode cX12_choose 6 = .ok (.iastore, 1) := by decide +kernel
theorem dX12_choose_7 : decode cX12_choose 7 = .ok (.aload_n 0, 1) := by decide +kernel
theorem dX12_choose_8 : decode cX12_choose 8 = .ok (.getfield 142, 3) := by decide +kernel
theorem dX12_choose_11 : decode cX12_choose 11 = .ok (.iconst 1, 1) := by decide +kernel
theorem dX12_choose_12 : decode cX12_choose 12 = .ok (.iload_n 2, 1) := by decide +kernel
theorem dX12_choose_13 : decode cX12_choose 13 = .ok (.iastore, 1) := by decide +kernel
theorem dX12_choose_14 : decode cX12_choose 14 = .ok (.aload_n 0, 1) := by decide +kernel
theorem dX12_choose_15 : decode cX12_choose 15 = .ok (.getfield 142, 3) := by decide +kernel
theorem dX12_choose_18 : decode cX12_choose 18 = .ok (.iconst 2, 1) := by decide +kernel
theorem dX12_choose_19 : decode cX12_choose 19 = .ok (.aload_n 0, 1) := by decide +kernel
theorem dX12_choose_20 : decode cX12_choose 20 = .ok (.getfield 320, 3) := by decide +kernel
theorem dX12_choose_23 : decode cX12_choose 23 = .ok (.iastore, 1) := by decide +kernel
theorem dX12_choose_24 : decode cX12_choose 24 = .ok (.return_, 1) := by decide +kernel
-- X12_isName
abbrev rmX12_isName : Room := { frames := 2, cells := 0, slots := 0, locals := 48 }
def fX12_isName_12 (S : zSt)  (t : Int32) : Option (Int32 ⊕ Int32) :=
  match t with
  | v1 => zBr ((21 : Int32) < v1) (zXr (some (1 : Int32))) (zBd (fX12_wordOf v1) (fun r5 => zBr ((lg_cmp (S.2 0 12) r5) = 0) (zXr (some (0 : Int32))) (zLt (v1 + (1 : Int32)) (fun x7 => some (.inl (x7))))))
set_option maxHeartbeats 4000000 in
set_option maxRecDepth 100000 in
theorem kX12_isName_12B {p : Program} {l : Launch} {e : Env} {s : State} {m : MethodId} {args : Array Value} {below : List Frame} {meth : Method} {c : Code} {D : va_G} {cy : Nat → ClassId} {q : Nat → Nat} (cx : zX RX12 cX12_isName 2 p s m args c D cy) (hr : meth.sig.returnType = (some .boolean)) (hlk : meth.locks = false) {z : Int32} {S : zSt} {v1 : Int32} {C1 : (Int32 ⊕ Int32) → Prop} (hb1 : ∀ (v1 : Int32), C1 (.inl (v1)) → ∀ (ls : Array Slot), lv_has ls 2 [(0, .ref (q 0)), (1, .int v1)] → W p l e rmX12_isName s m args below meth c s.heap [] 0 0 (MQ below (vp_Si (fun x => x = z)) args s 0 0 (fun _ => False)) (F0 m 12 ls [])) (hx1 : ∀ a, C1 (.inr a) → a = z) (hP : va_P D vwCl (zW zshM zNM cy q S) s.heap) {x : (Int32 ⊕ Int32)} (h : fX12_isName_12 S (v1) = some x) (hc : C1 x) {ls : Array Slot} (hl : lv_has ls 2 [(0, .ref (q 0)), (1, .int v1)]) : W p l e rmX12_isName s m args below meth c s.heap [] 0 0 (MQ below (vp_Si (fun x => x = z)) args s 0 0 (fun _ => False)) (F0 m 12 ls []) := by
  have hx := cx.1
  have hb := cx.2.1
  unfold fX12_isName_12 at h
  dsimp only at h
  refine lv_iload_n (pc := 12) hx hb dX12_isName_12 rfl (lv_at hl 1 rfl) ?_
  refine lv_bipush (pc := 13) hx hb dX12_isName_13 zb_21 ?_
  refine lv_icmp_gt (pc := 15) (tgt := 38) hx hb dX12_isName_15 (by decide) (fun c2 => ?_) (fun c2 => ?_)
  · replace h := zBr_t c2 h
    obtain ⟨y3, h, ex⟩ := zXr_e h
    have hc := hx1 y3 (by rw [ex] at hc; exact hc)
    rw [hc] at h
    refine lv_iconst (pc := 38) hx hb dX12_isName_38 zc_1 ?_
    have hz := Option.some.inj h
    exact zr_reZ (pc := 39) cx hr hlk hz (by decide) dX12_isName_39
  · replace h := zBr_f c2 h
    refine lv_aload_n (pc := 18) hx hb dX12_isName_18 rfl (lv_at hl 0 rfl) ?_
    refine zr_getJ (pc := 19) cx lk_X12_43 hP nM_0 sM_0 rfl dX12_isName_19 ?_
    refine lv_iload_n (pc := 22) hx hb dX12_isName_22 rfl (lv_at hl 1 rfl) ?_
    obtain ⟨r5, k4, h⟩ := zBd_e h
    refine zr_SJ (pc := 23) (rest := [.long (S.2 0 12)]) cx cv_X12_62 (mX12_wordOf k4) ⟨⟨rfl, rfl⟩, Nat.le_of_ble_eq_true rfl, Nat.le_of_ble_eq_true rfl⟩ ⟨Nat.le_of_ble_eq_true rfl, Nat.le_of_ble_eq_true rfl⟩ (zr_preK cx) hl.1 rfl rfl (Nat.le_of_ble_eq_true rfl) dX12_isName_23 ?_
    refine W.lcmp (pc := 26) hx hb dX12_isName_26 ?_
    refine lv_if_ne (pc := 27) (tgt := 32) hx hb dX12_isName_27 (by decide) (fun c6 => ?_) (fun c6 => ?_)
    · replace h := zBr_f c6 h
      obtain ⟨x7, ex7, h⟩ := zLt_e h
      refine lv_iinc (v := x7) (lv' := [(1, .int x7), (0, .ref (q 0))]) (pc := 32) hx hb dX12_isName_32 hl (k := 1) rfl (by rw [zc_1]; exact ex7.symm) (by decide) rfl (fun ls hl => ?_)
      refine lv_goto (pc := 35) (tgt := 12) hx hb dX12_isName_35 (by decide) ?_
      cases h
      exact hb1 _ hc _ (lv_sub hl [1, 0] rfl)
    · replace h := zBr_t c6 h
      obtain ⟨y8, h, ex⟩ := zXr_e h
      have hc := hx1 y8 (by rw [ex] at hc; exact hc)
      rw [hc] at h
      refine lv_iconst (pc := 30) hx hb dX12_isName_30 zc_0 ?_
      have hz := Option.some.inj h
      exact zr_reZ (pc := 31) cx hr hlk hz (by decide) dX12_isName_31
set_option maxHeartbeats 4000000 in
set_option maxRecDepth 100000 in
theorem kX12_isName_12 {p : Program} {l : Launch} {e : Env} {s : State} {m : MethodId} {args : Array Value} {below : List Frame} {meth : Method} {c : Code} {D : va_G} {cy : Nat → ClassId} {q : Nat → Nat} (cx : zX RX12 cX12_isName 2 p s m args c D cy) (hr : meth.sig.returnType = (some .boolean)) (hlk : meth.locks = false) {z : Int32} {S : zSt} (hP : va_P D vwCl (zW zshM zNM cy q S) s.heap) : ∀ (n : Nat) (v1 : Int32), zLp (fX12_isName_12 S) n (v1) = some z → ∀ (ls : Array Slot), lv_has ls 2 [(0, .ref (q 0)), (1, .int v1)] → W p l e rmX12_isName s m args below meth c s.heap [] 0 0 (MQ below (vp_Si (fun x => x = z)) args s 0 0 (fun _ => False)) (F0 m 12 ls []) := by
  intro n
  induction n with
  | zero =>
    intro v1 h
    cases h
  | succ n ih =>
    intro v1 h ls hl
    obtain ⟨x, h, hk⟩ := zLp_e h
    exact kX12_isName_12B cx hr hlk  (C1 := zKt (fun t => zLp (fX12_isName_12 S) n t = some z) (fun a => a = z)) (fun v1 ht ls hl => ih v1 ht ls hl) (fun a ha => ha) hP h hk hl
def fX12_isName (S : zSt) : Option Int32 :=
  zBr ((S.1 0 7) = (2 : Int32)) (zLp (fX12_isName_12 S) 2000 ((0 : Int32))) (some (0 : Int32))
set_option maxHeartbeats 4000000 in
set_option maxRecDepth 100000 in
theorem mX12_isName {l : Launch} {D : va_G} {cy : Nat → ClassId} {q : Nat → Nat} {S : zSt} {z : Int32} (h : fX12_isName S = some z) : zMi l yX12_isName cX12_isName 2 (some .boolean) rmX12_isName [.ref (q 0)] (zPr zshM zNM D cy q S) z := by
  refine Met.ofW (cc := cX12_isName) (maxL := 2) (ret := (some .boolean)) (by decide) rfl ?_
  intro p e s m args below meth c s₁ B hml hv
  obtain ⟨rfl, hP, hK⟩ := hv
  have cx : zX RX12 cX12_isName 2 p s m ([.ref (q 0)]).toArray c D cy := ⟨B.exec, B.bytes, hml, findClass_of_methodNamed B.named, fun w hw => atoms_spec (ws := Cond.code yX12_isName cX12_isName 2 (some .boolean) :: zTB) B.pre w (List.mem_cons_of_mem _ hw), hK⟩
  have hx := cx.1
  have hb := cx.2.1
  have hr := B.returns
  have hlk := B.notSynchronized
  have hl := lv_entry ([.ref (q 0)]) (n := 2) (Nat.le_of_ble_eq_true rfl)
  rw [lg_entry_eq]
  generalize (lg_sl ([.ref (q 0)]) ++ List.replicate (2 - (lg_sl ([.ref (q 0)])).length) Slot.unset).toArray = ls at hl ⊢
  have hl : lv_has ls 2 [(0, .ref (q 0))] := hl
  unfold fX12_isName at h
  refine lv_aload_n (pc := 0) hx hb dX12_isName_0 rfl (lv_at hl 0 rfl) ?_
  refine zr_getI (pc := 1) cx lk_X12_30 hP nM_0 sM_0 rfl dX12_isName_1 ?_
  refine lv_iconst (pc := 4) hx hb dX12_isName_4 zc_2 ?_
  refine lv_icmp_eq (pc := 5) (tgt := 10) hx hb dX12_isName_5 (by decide) (fun c1 => ?_) (fun c1 => ?_)
  · replace h := zBr_t c1 h
    refine lv_iconst (pc := 10) hx hb dX12_isName_10 zc_0 ?_
    refine lv_istore_n (lv' := [(1, .int (0 : Int32)), (0, .ref (q 0))]) (pc := 11) hx hb dX12_isName_11 rfl hl (by decide) rfl (fun ls hl => ?_)
    exact kX12_isName_12 cx hr hlk hP 2000 _ h _ (lv_sub hl [1, 0] rfl)
  · replace h := zBr_f c1 h
    refine lv_iconst (pc := 8) hx hb dX12_isName_8 zc_0 ?_
    have hz := Option.some.inj h
    exact zr_reZ (pc := 9) cx hr hlk hz (by decide) dX12_isName_9
-- X12_isWord
abbrev rmX12_isWord : Room := { frames := 2, cells := 0, slots := 0, locals := 48 }
def fX12_isWord (S : zSt) (v1 : Int32) : Option Int32 :=
  zBr ((S.1 0 7) = (2 : Int32)) (zBd (fX12_wordOf v1) (fun r3 => zBr ((lg_cmp (S.2 0 12) r3) = 0) (some (1 : Int32)) (some (0 : Int32)))) (some (0 : Int32))
set_option maxHeartbeats 4000000 in
set_option maxRecDepth 100000 in
theorem mX12_isWord {l : Launch} {D : va_G} {cy : Nat → ClassId} {q : Nat → Nat} {S : zSt} {v1 : Int32} {z : Int32} (h : fX12_isWord S v1 = some z) : zMi l yX12_isWord cX12_isWord 2 (some .boolean) rmX12_isWord [.ref (q 0), .int v1] (zPr zshM zNM D cy q S) z := by
  refine Met.ofW (cc := cX12_isWord) (maxL := 2) (ret := (some .boolean)) (by decide) rfl ?_
  intro p e s m args below meth c s₁ B hml hv
  obtain ⟨rfl, hP, hK⟩ := hv
  have cx : zX RX12 cX12_isWord 2 p s m ([.ref (q 0), .int v1]).toArray c D cy := ⟨B.exec, B.bytes, hml, findClass_of_methodNamed B.named, fun w hw => atoms_spec (ws := Cond.code yX12_isWord cX12_isWord 2 (some .boolean) :: zTB) B.pre w (List.mem_cons_of_mem _ hw), hK⟩
  have hx := cx.1
  have hb := cx.2.1
  have hr := B.returns
  have hlk := B.notSynchronized
  have hl := lv_entry ([.ref (q 0), .int v1]) (n := 2) (Nat.le_of_ble_eq_true rfl)
  rw [lg_entry_eq]
  generalize (lg_sl ([.ref (q 0), .int v1]) ++ List.replicate (2 - (lg_sl ([.ref (q 0), .int v1])).length) Slot.unset).toArray = ls at hl ⊢
  have hl : lv_has ls 2 [(0, .ref (q 0)), (1, .int v1)] := hl
  unfold fX12_isWord at h
  refine lv_aload_n (pc := 0) hx hb dX12_isWord_0 rfl (lv_at hl 0 rfl) ?_
  refine zr_getI (pc := 1) cx lk_X12_30 hP nM_0 sM_0 rfl dX12_isWord_1 ?_
  refine lv_iconst (pc := 4) hx hb dX12_isWord_4 zc_2 ?_
  refine lv_icmp_ne (pc := 5) (tgt := 24) hx hb dX12_isWord_5 (by decide) (fun c1 => ?_) (fun c1 => ?_)
  · replace h := zBr_f c1 h
    refine lv_iconst (pc := 24) hx hb dX12_isWord_24 zc_0 ?_
    have hz := Option.some.inj h
    exact zr_reZ (pc := 25) cx hr hlk hz (by decide) dX12_isWord_25
  · replace h := zBr_t c1 h
    refine lv_aload_n (pc := 8) hx hb dX12_isWord_8 rfl (lv_at hl 0 rfl) ?_
    refine zr_getJ (pc := 9) cx lk_X12_43 hP nM_0 sM_0 rfl dX12_isWord_9 ?_
    refine lv_iload_n (pc := 12) hx hb dX12_isWord_12 rfl (lv_at hl 1 rfl) ?_
    obtain ⟨r3, k2, h⟩ := zBd_e h
    refine zr_SJ (pc := 13) (rest := [.long (S.2 0 12)]) cx cv_X12_62 (mX12_wordOf k2) ⟨⟨rfl, rfl⟩, Nat.le_of_ble_eq_true rfl, Nat.le_of_ble_eq_true rfl⟩ ⟨Nat.le_of_ble_eq_true rfl, Nat.le_of_ble_eq_true rfl⟩ (zr_preK cx) hl.1 rfl rfl (Nat.le_of_ble_eq_true rfl) dX12_isWord_13 ?_
    refine W.lcmp (pc := 16) hx hb dX12_isWord_16 ?_
    refine lv_if_ne (pc := 17) (tgt := 24) hx hb dX12_isWord_17 (by decide) (fun c4 => ?_) (fun c4 => ?_)
    · replace h := zBr_f c4 h
      refine lv_iconst (pc := 24) hx hb dX12_isWord_24 zc_0 ?_
      have hz := Option.some.inj h
      exact zr_reZ (pc := 25) cx hr hlk hz (by decide) dX12_isWord_25
    · replace h := zBr_t c4 h
      refine lv_iconst (pc := 20) hx hb dX12_isWord_20 zc_1 ?_
      refine lv_goto (pc := 21) (tgt := 25) hx hb dX12_isWord_21 (by decide) ?_
      have hz := Option.some.inj h
      exact zr_reZ (pc := 25) cx hr hlk hz (by decide) dX12_isWord_25
-- X12_keep
abbrev rmX12_keep : Room := { frames := 0, cells := 0, slots := 0, locals := 0 }
def fX12_keep (S : zSt) (v1 : Int32) (v2 : Int32) : Option (Int32 × zSt) :=
  zBr (v2 = 0) (zGd (zBo v2) (some (v2, S))) (zGd (zIx v1 160) (zLt (zI S 16 v1.toNatClampNeg (S.1 0 13)) (fun S4 => zGd (zBo v2) (some (v2, S4)))))
set_option maxHeartbeats 4000000 in
set_option maxRecDepth 100000 in
theorem mX12_keep {l : Launch} {D : va_G} {cy : Nat → ClassId} {q : Nat → Nat} {A : Nat → Prop} {S : zSt} {v1 : Int32} {v2 : Int32} (hq : zQ A q zNM) {z : (Int32 × zSt)} (h : fX12_keep S v1 v2 = some z) : zMq l yX12_keep cX12_keep 3 (some .boolean) rmX12_keep [.ref (q 0), .int v1, .int v2] zshM zNM D cy q A S z := by
  refine Met.ofW (cc := cX12_keep) (maxL := 3) (ret := (some .boolean)) (by decide) rfl ?_
  intro p e s m args below meth c s₁ B hml hv
  obtain ⟨rfl, hP, hK⟩ := hv
  have cx : zX RX12 cX12_keep 3 p s m ([.ref (q 0), .int v1, .int v2]).toArray c D cy := ⟨B.exec, B.bytes, hml, findClass_of_methodNamed B.named, fun w hw => atoms_spec (ws := Cond.code yX12_keep cX12_keep 3 (some .boolean) :: zTB) B.pre w (List.mem_cons_of_mem _ hw), hK⟩
  have hx := cx.1
  have hb := cx.2.1
  have hr := B.returns
  have hlk := B.notSynchronized
  have hS : va_S A s.heap s.heap [] := va_S.rf
  have hl := lv_entry ([.ref (q 0), .int v1, .int v2]) (n := 3) (Nat.le_of_ble_eq_true rfl)
  rw [lg_entry_eq]
  generalize (lg_sl ([.ref (q 0), .int v1, .int v2]) ++ List.replicate (3 - (lg_sl ([.ref (q 0), .int v1, .int v2])).length) Slot.unset).toArray = ls at hl ⊢
  have hl : lv_has ls 3 [(0, .ref (q 0)), (1, .int v1), (2, .int v2)] := hl
  unfold fX12_keep at h
  refine lv_iload_n (pc := 0) hx hb dX12_keep_0 rfl (lv_at hl 2 rfl) ?_
  refine lv_if_eq (pc := 1) (tgt := 14) hx hb dX12_keep_1 (by decide) (fun c1 => ?_) (fun c1 => ?_)
  · replace h := zBr_t c1 h
    refine lv_iload_n (pc := 14) hx hb dX12_keep_14 rfl (lv_at hl 2 rfl) ?_
    obtain ⟨g2, h⟩ := zGd_e h
    have hz := Option.some.inj h
    exact zr_rqZ (pc := 15) cx hr hlk hP hS hz g2 dX12_keep_15
  · replace h := zBr_f c1 h
    refine lv_aload_n (pc := 4) hx hb dX12_keep_4 rfl (lv_at hl 0 rfl) ?_
    refine zr_getR (pc := 5) (t := 16) cx lk_X12_148 hP nM_0 sM_0 rfl dX12_keep_5 ?_
    refine lv_iload_n (pc := 8) hx hb dX12_keep_8 rfl (lv_at hl 1 rfl) ?_
    refine lv_aload_n (pc := 9) hx hb dX12_keep_9 rfl (lv_at hl 0 rfl) ?_
    refine zr_getI (pc := 10) cx lk_X12_79 hP nM_0 sM_0 rfl dX12_keep_10 ?_
    obtain ⟨g3, h⟩ := zGd_e h
    obtain ⟨S4, eS4, h⟩ := zLt_e h
    refine zr_iast (pc := 13) cx hq hP hS nM_16 sM_16 g3 dX12_keep_13 (fun H locs hP hS => ?_)
    rw [← eS4] at hP
    refine lv_iload_n (pc := 14) hx hb dX12_keep_14 rfl (lv_at hl 2 rfl) ?_
    obtain ⟨g5, h⟩ := zGd_e h
    have hz := Option.some.inj h
    exact zr_rqZ (pc := 15) cx hr hlk hP hS hz g5 dX12_keep_15
-- X12_readNamed
abbrev rmX12_readNamed : Room := { frames := 3, cells := 0, slots := 0, locals := 69 }
def fX12_readNamed (S : zSt) (v1 : Int32) (v2 : Int32) : Option (Int32 × zSt) :=
  zBd (fX12_isName S) (fun r2 => zBr (r2 = 0) (zBp (fX12_bad S (1 : Int32)) (fun r16 S15 => zGd (zBo r16) (some (r16, S15)))) (zBd (fX12_findIn S 7 v1 v2 (S.2 0 12)) (fun r5 => zLt (zI S 0 13 r5) (fun S6 => zBr ((S6.1 0 13) = (-1 : Int32)) (zBp (fX12_bad S6 (3 : Int32)) (fun r12 S11 => zGd (zBo r12) (some (r12, S11)))) (zBd (fX12_go S6) (fun S9 => some ((1 : Int32), S9)))))))
set_option maxHeartbeats 4000000 in
set_option maxRecDepth 100000 in
theorem mX12_readNamed {l : Launch} {D : va_G} {cy : Nat → ClassId} {q : Nat → Nat} {A : Nat → Prop} {S : zSt} {v1 : Int32} {v2 : Int32} (hq : zQ A q zNM) {z : (Int32 × zSt)} (h : fX12_readNamed S v1 v2 = some z) : zMq l yX12_readNamed cX12_readNamed 3 (some .boolean) rmX12_readNamed [.ref (q 0), .int v1, .int v2] zshM zNM D cy q A S z := by
  refine Met.ofW (cc := cX12_readNamed) (maxL := 3) (ret := (some .boolean)) (by decide) rfl ?_
  intro p e s m args below meth c s₁ B hml hv
  obtain ⟨rfl, hP, hK⟩ := hv
  have cx : zX RX12 cX12_readNamed 3 p s m ([.ref (q 0), .int v1, .int v2]).toArray c D cy := ⟨B.exec, B.bytes, hml, findClass_of_methodNamed B.named, fun w hw => atoms_spec (ws := Cond.code yX12_readNamed cX12_readNamed 3 (some .boolean) :: zTB) B.pre w (List.mem_cons_of_mem _ hw), hK⟩
  have hx := cx.1
  have hb := cx.2.1
  have hr := B.returns
  have hlk := B.notSynchronized
  have hS : va_S A s.heap s.heap [] := va_S.rf
  have hl := lv_entry ([.ref (q 0), .int v1, .int v2]) (n := 3) (Nat.le_of_ble_eq_true rfl)
  rw [lg_entry_eq]
  generalize (lg_sl ([.ref (q 0), .int v1, .int v2]) ++ List.replicate (3 - (lg_sl ([.ref (q 0), .int v1, .int v2])).length) Slot.unset).toArray = ls at hl ⊢
  have hl : lv_has ls 3 [(0, .ref (q 0)), (1, .int v1), (2, .int v2)] := hl
  unfold fX12_readNamed at h
  refine lv_aload_n (pc := 0) hx hb dX12_readNamed_0 rfl (lv_at hl 0 rfl) ?_
  obtain ⟨r2, k1, h⟩ := zBd_e h
  refine zr_VI (pc := 1) (rest := []) cx cv_X12_164 (mX12_isName k1) ⟨⟨rfl, rfl⟩, Nat.le_of_ble_eq_true rfl, Nat.le_of_ble_eq_true rfl⟩ ⟨Nat.le_of_ble_eq_true rfl, Nat.le_of_ble_eq_true rfl⟩ hP nM_0 sM_0 rfl hl.1 rfl rfl (Nat.le_of_ble_eq_true rfl) dX12_readNamed_1 ?_
  refine lv_if_ne (pc := 4) (tgt := 13) hx hb dX12_readNamed_4 (by decide) (fun c3 => ?_) (fun c3 => ?_)
  · replace h := zBr_f c3 h
    refine lv_aload_n (pc := 13) hx hb dX12_readNamed_13 rfl (lv_at hl 0 rfl) ?_
    refine lv_aload_n (pc := 14) hx hb dX12_readNamed_14 rfl (lv_at hl 0 rfl) ?_
    refine zr_getR (pc := 15) (t := 7) cx lk_X12_113 hP nM_0 sM_0 rfl dX12_readNamed_15 ?_
    refine lv_iload_n (pc := 18) hx hb dX12_readNamed_18 rfl (lv_at hl 1 rfl) ?_
    refine lv_iload_n (pc := 19) hx hb dX12_readNamed_19 rfl (lv_at hl 2 rfl) ?_
    refine lv_aload_n (pc := 20) hx hb dX12_readNamed_20 rfl (lv_at hl 0 rfl) ?_
    refine zr_getJ (pc := 21) cx lk_X12_43 hP nM_0 sM_0 rfl dX12_readNamed_21 ?_
    obtain ⟨r5, k4, h⟩ := zBd_e h
    refine zr_SI (pc := 24) (rest := [.ref (q 0)]) cx cv_X12_160 (mX12_findIn ⟨sM_7, nM_7⟩ k4) ⟨⟨rfl, rfl⟩, Nat.le_of_ble_eq_true rfl, Nat.le_of_ble_eq_true rfl⟩ ⟨Nat.le_of_ble_eq_true rfl, Nat.le_of_ble_eq_true rfl⟩ (zr_preW cx hP) hl.1 rfl rfl (Nat.le_of_ble_eq_true rfl) dX12_readNamed_24 ?_
    obtain ⟨S6, eS6, h⟩ := zLt_e h
    refine zr_putI (pc := 27) cx lq_X12_79 hq hP hS nM_0 sM_0 rfl rfl rfl dX12_readNamed_27 (fun H locs hP hS => ?_)
    rw [← eS6] at hP
    refine lv_aload_n (pc := 30) hx hb dX12_readNamed_30 rfl (lv_at hl 0 rfl) ?_
    refine zr_getI (pc := 31) cx lk_X12_79 hP nM_0 sM_0 rfl dX12_readNamed_31 ?_
    refine lv_iconst (pc := 34) hx hb dX12_readNamed_34 zc_m1 ?_
    refine lv_icmp_ne (pc := 35) (tgt := 44) hx hb dX12_readNamed_35 (by decide) (fun c7 => ?_) (fun c7 => ?_)
    · replace h := zBr_f c7 h
      refine lv_aload_n (pc := 44) hx hb dX12_readNamed_44 rfl (lv_at hl 0 rfl) ?_
      obtain ⟨S9, k8, h⟩ := zBd_e h
      refine zr_VV (pc := 45) (rest := []) cx cv_X12_82 (mX12_go hq k8) ⟨⟨rfl, rfl⟩, Nat.le_of_ble_eq_true rfl, Nat.le_of_ble_eq_true rfl⟩ ⟨Nat.le_of_ble_eq_true rfl, Nat.le_of_ble_eq_true rfl⟩ hP hS nM_0 sM_0 rfl hl.1 rfl rfl (Nat.le_of_ble_eq_true rfl) dX12_readNamed_45 (fun H locs hP hS => ?_)
      refine lv_iconst (pc := 48) hx hb dX12_readNamed_48 zc_1 ?_
      have hz := Option.some.inj h
      exact zr_rqZ (pc := 49) cx hr hlk hP hS hz (by decide) dX12_readNamed_49
    · replace h := zBr_t c7 h
      refine lv_aload_n (pc := 38) hx hb dX12_readNamed_38 rfl (lv_at hl 0 rfl) ?_
      refine lv_iconst (pc := 39) hx hb dX12_readNamed_39 zc_3 ?_
      obtain ⟨r12, S11, k10, h⟩ := zBp_e h
      refine zr_VQ (pc := 40) (rest := []) cx cv_X12_72 (mX12_bad hq k10) ⟨⟨rfl, rfl⟩, Nat.le_of_ble_eq_true rfl, Nat.le_of_ble_eq_true rfl⟩ ⟨Nat.le_of_ble_eq_true rfl, Nat.le_of_ble_eq_true rfl⟩ hP hS nM_0 sM_0 rfl hl.1 rfl rfl (Nat.le_of_ble_eq_true rfl) dX12_readNamed_40 (fun H locs hP hS => ?_)
      obtain ⟨g13, h⟩ := zGd_e h
      have hz := Option.some.inj h
      exact zr_rqZ (pc := 43) cx hr hlk hP hS hz g13 dX12_readNamed_43
  · replace h := zBr_t c3 h
    refine lv_aload_n (pc := 7) hx hb dX12_readNamed_7 rfl (lv_at hl 0 rfl) ?_
    refine lv_iconst (pc := 8) hx hb dX12_readNamed_8 zc_1 ?_
    obtain ⟨r16, S15, k14, h⟩ := zBp_e h
    refine zr_VQ (pc := 9) (rest := []) cx cv_X12_72 (mX12_bad hq k14) ⟨⟨rfl, rfl⟩, Nat.le_of_ble_eq_true rfl, Nat.le_of_ble_eq_true rfl⟩ ⟨Nat.le_of_ble_eq_true rfl, Nat.le_of_ble_eq_true rfl⟩ hP hS nM_0 sM_0 rfl hl.1 rfl rfl (Nat.le_of_ble_eq_true rfl) dX12_readNamed_9 (fun H locs hP hS => ?_)
    obtain ⟨g17, h⟩ := zGd_e h
    have hz := Option.some.inj h
    exact zr_rqZ (pc := 12) cx hr hlk hP hS hz g17 dX12_readNamed_12
-- X12_readParlourName
abbrev rmX12_readParlourName : Room := { frames := 4, cells := 0, slots := 0, locals := 91 }
def fX12_readParlourName (S : zSt) : Option (Int32 × zSt) :=
  zGd (zIx (0 : Int32) 406) (zBp (fX12_readNamed S (0 : Int32) (S.1 2 (0 : Int32).toNatClampNeg)) (fun r4 S3 => zGd (zBo r4) (some (r4, S3))))
set_option maxHeartbeats 4000000 in
set_option maxRecDepth 100000 in
theorem mX12_readParlourName {l : Launch} {D : va_G} {cy : Nat → ClassId} {q : Nat → Nat} {A : Nat → Prop} {S : zSt} (hq : zQ A q zNM) {z : (Int32 × zSt)} (h : fX12_readParlourName S = some z) : zMq l yX12_readParlourName cX12_readParlourName 1 (some .boolean) rmX12_readParlourName [.ref (q 0)] zshM zNM D cy q A S z := by
  refine Met.ofW (cc := cX12_readParlourName) (maxL := 1) (ret := (some .boolean)) (by decide) rfl ?_
  intro p e s m args below meth c s₁ B hml hv
  obtain ⟨rfl, hP, hK⟩ := hv
  have cx : zX RX12 cX12_readParlourName 1 p s m ([.ref (q 0)]).toArray c D cy := ⟨B.exec, B.bytes, hml, findClass_of_methodNamed B.named, fun w hw => atoms_spec (ws := Cond.code yX12_readParlourName cX12_readParlourName 1 (some .boolean) :: zTB) B.pre w (List.mem_cons_of_mem _ hw), hK⟩
  have hx := cx.1
  have hb := cx.2.1
  have hr := B.returns
  have hlk := B.notSynchronized
  have hS : va_S A s.heap s.heap [] := va_S.rf
  have hl := lv_entry ([.ref (q 0)]) (n := 1) (Nat.le_of_ble_eq_true rfl)
  rw [lg_entry_eq]
  generalize (lg_sl ([.ref (q 0)]) ++ List.replicate (1 - (lg_sl ([.ref (q 0)])).length) Slot.unset).toArray = ls at hl ⊢
  have hl : lv_has ls 1 [(0, .ref (q 0))] := hl
  unfold fX12_readParlourName at h
  refine lv_aload_n (pc := 0) hx hb dX12_readParlourName_0 rfl (lv_at hl 0 rfl) ?_
  refine lv_iconst (pc := 1) hx hb dX12_readParlourName_1 zc_0 ?_
  refine lv_aload_n (pc := 2) hx hb dX12_readParlourName_2 rfl (lv_at hl 0 rfl) ?_
  refine zr_getR (pc := 3) (t := 2) cx lk_X12_98 hP nM_0 sM_0 rfl dX12_readParlourName_3 ?_
  refine lv_iconst (pc := 6) hx hb dX12_readParlourName_6 zc_0 ?_
  obtain ⟨g1, h⟩ := zGd_e h
  refine zr_iald (pc := 7) cx hP nM_2 sM_2 g1 dX12_readParlourName_7 ?_
  obtain ⟨r4, S3, k2, h⟩ := zBp_e h
  refine zr_VQ (pc := 8) (rest := []) cx cv_X12_372 (mX12_readNamed hq k2) ⟨⟨rfl, rfl⟩, Nat.le_of_ble_eq_true rfl, Nat.le_of_ble_eq_true rfl⟩ ⟨Nat.le_of_ble_eq_true rfl, Nat.le_of_ble_eq_true rfl⟩ hP hS nM_0 sM_0 rfl hl.1 rfl rfl (Nat.le_of_ble_eq_true rfl) dX12_readParlourName_8 (fun H locs hP hS => ?_)
  obtain ⟨g5, h⟩ := zGd_e h
  have hz := Option.some.inj h
  exact zr_rqZ (pc := 11) cx hr hlk hP hS hz g5 dX12_readParlourName_11
-- X12_readDoes
abbrev rmX12_readDoes : Room := { frames := 5, cells := 0, slots := 0, locals := 111 }
def fX12_readDoes (S : zSt) (v1 : Int32) : Option (Int32 × zSt) :=
  zBd (fX12_isWord S (7 : Int32)) (fun r2 => zBr (r2 = 0) (zBp (fX12_bad S (1 : Int32)) (fun r25 S24 => zGd (zBo r25) (some (r25, S24)))) (zBd (fX12_go S) (fun S5 => zGd (zIx v1 160) (zLt (zI S5 16 v1.toNatClampNeg (0 : Int32)) (fun S7 => zGd (zIx (3 : Int32) 406) (zBp (fX12_readNamed S7 (15 : Int32) (S7.1 2 (3 : Int32).toNatClampNeg)) (fun r11 S10 => zBp (fX12_keep S10 (v1 + (2 : Int32)) r11) (fun r14 S13 => zBr (r14 = 0) (some ((0 : Int32), S13)) (zBp (fX12_readParlourName S13) (fun r18 S17 => zBp (fX12_keep S17 (v1 + (3 : Int32)) r18) (fun r21 S20 => zBr (r21 = 0) (some ((0 : Int32), S20)) (some ((1 : Int32), S20)))))))))))))
set_option maxHeartbeats 4000000 in
set_option maxRecDepth 100000 in
theorem mX12_readDoes {l : Launch} {D : va_G} {cy : Nat → ClassId} {q : Nat → Nat} {A : Nat → Prop} {S : zSt} {v1 : Int32} (hq : zQ A q zNM) {z : (Int32 × zSt)} (h : fX12_readDoes S v1 = some z) : zMq l yX12_readDoes cX12_readDoes 2 (some .boolean) rmX12_readDoes [.ref (q 0), .int v1] zshM zNM D cy q A S z := by
  refine Met.ofW (cc := cX12_readDoes) (maxL := 2) (ret := (some .boolean)) (by decide) rfl ?_
  intro p e s m args below meth c s₁ B hml hv
  obtain ⟨rfl, hP, hK⟩ := hv
  have cx : zX RX12 cX12_readDoes 2 p s m ([.ref (q 0), .int v1]).toArray c D cy := ⟨B.exec, B.bytes, hml, findClass_of_methodNamed B.named, fun w hw => atoms_spec (ws := Cond.code yX12_readDoes cX12_readDoes 2 (some .boolean) :: zTB) B.pre w (List.mem_cons_of_mem _ hw), hK⟩
  have hx := cx.1
  have hb := cx.2.1
  have hr := B.returns
  have hlk := B.notSynchronized
  have hS : va_S A s.heap s.heap [] := va_S.rf
  have hl := lv_entry ([.ref (q 0), .int v1]) (n := 2) (Nat.le_of_ble_eq_true rfl)
  rw [lg_entry_eq]
  generalize (lg_sl ([.ref (q 0), .int v1]) ++ List.replicate (2 - (lg_sl ([.ref (q 0), .int v1])).length) Slot.unset).toArray = ls at hl ⊢
  have hl : lv_has ls 2 [(0, .ref (q 0)), (1, .int v1)] := hl
  unfold fX12_readDoes at h
  refine lv_aload_n (pc := 0) hx hb dX12_readDoes_0 rfl (lv_at hl 0 rfl) ?_
  refine lv_bipush (pc := 1) hx hb dX12_readDoes_1 zb_7 ?_
  obtain ⟨r2, k1, h⟩ := zBd_e h
  refine zr_VI (pc := 3) (rest := []) cx cv_X12_191 (mX12_isWord k1) ⟨⟨rfl, rfl⟩, Nat.le_of_ble_eq_true rfl, Nat.le_of_ble_eq_true rfl⟩ ⟨Nat.le_of_ble_eq_true rfl, Nat.le_of_ble_eq_true rfl⟩ hP nM_0 sM_0 rfl hl.1 rfl rfl (Nat.le_of_ble_eq_true rfl) dX12_readDoes_3 ?_
  refine lv_if_ne (pc := 6) (tgt := 15) hx hb dX12_readDoes_6 (by decide) (fun c3 => ?_) (fun c3 => ?_)
  · replace h := zBr_f c3 h
    refine lv_aload_n (pc := 15) hx hb dX12_readDoes_15 rfl (lv_at hl 0 rfl) ?_
    obtain ⟨S5, k4, h⟩ := zBd_e h
    refine zr_VV (pc := 16) (rest := []) cx cv_X12_82 (mX12_go hq k4) ⟨⟨rfl, rfl⟩, Nat.le_of_ble_eq_true rfl, Nat.le_of_ble_eq_true rfl⟩ ⟨Nat.le_of_ble_eq_true rfl, Nat.le_of_ble_eq_true rfl⟩ hP hS nM_0 sM_0 rfl hl.1 rfl rfl (Nat.le_of_ble_eq_true rfl) dX12_readDoes_16 (fun H locs hP hS => ?_)
    refine lv_aload_n (pc := 19) hx hb dX12_readDoes_19 rfl (lv_at hl 0 rfl) ?_
    refine zr_getR (pc := 20) (t := 16) cx lk_X12_148 hP nM_0 sM_0 rfl dX12_readDoes_20 ?_
    refine lv_iload_n (pc := 23) hx hb dX12_readDoes_23 rfl (lv_at hl 1 rfl) ?_
    refine lv_iconst (pc := 24) hx hb dX12_readDoes_24 zc_0 ?_
    obtain ⟨g6, h⟩ := zGd_e h
    obtain ⟨S7, eS7, h⟩ := zLt_e h
    refine zr_iast (pc := 25) cx hq hP hS nM_16 sM_16 g6 dX12_readDoes_25 (fun H locs hP hS => ?_)
    rw [← eS7] at hP
    refine lv_aload_n (pc := 26) hx hb dX12_readDoes_26 rfl (lv_at hl 0 rfl) ?_
    refine lv_iload_n (pc := 27) hx hb dX12_readDoes_27 rfl (lv_at hl 1 rfl) ?_
    refine lv_iconst (pc := 28) hx hb dX12_readDoes_28 zc_2 ?_
    refine lv_iadd (pc := 29) hx hb dX12_readDoes_29 ?_
    refine lv_aload_n (pc := 30) hx hb dX12_readDoes_30 rfl (lv_at hl 0 rfl) ?_
    refine lv_bipush (pc := 31) hx hb dX12_readDoes_31 zb_15 ?_
    refine lv_aload_n (pc := 33) hx hb dX12_readDoes_33 rfl (lv_at hl 0 rfl) ?_
    refine zr_getR (pc := 34) (t := 2) cx lk_X12_98 hP nM_0 sM_0 rfl dX12_readDoes_34 ?_
    refine lv_iconst (pc := 37) hx hb dX12_readDoes_37 zc_3 ?_
    obtain ⟨g8, h⟩ := zGd_e h
    refine zr_iald (pc := 38) cx hP nM_2 sM_2 g8 dX12_readDoes_38 ?_
    obtain ⟨r11, S10, k9, h⟩ := zBp_e h
    refine zr_VQ (pc := 39) (rest := [.int (v1 + (2 : Int32)), .ref (q 0)]) cx cv_X12_372 (mX12_readNamed hq k9) ⟨⟨rfl, rfl⟩, Nat.le_of_ble_eq_true rfl, Nat.le_of_ble_eq_true rfl⟩ ⟨Nat.le_of_ble_eq_true rfl, Nat.le_of_ble_eq_true rfl⟩ hP hS nM_0 sM_0 rfl hl.1 rfl rfl (Nat.le_of_ble_eq_true rfl) dX12_readDoes_39 (fun H locs hP hS => ?_)
    obtain ⟨r14, S13, k12, h⟩ := zBp_e h
    refine zr_VQ (pc := 42) (rest := []) cx cv_X12_375 (mX12_keep hq k12) ⟨⟨rfl, rfl⟩, Nat.le_of_ble_eq_true rfl, Nat.le_of_ble_eq_true rfl⟩ ⟨Nat.le_of_ble_eq_true rfl, Nat.le_of_ble_eq_true rfl⟩ hP hS nM_0 sM_0 rfl hl.1 rfl rfl (Nat.le_of_ble_eq_true rfl) dX12_readDoes_42 (fun H locs hP hS => ?_)
    refine lv_if_eq (pc := 45) (tgt := 66) hx hb dX12_readDoes_45 (by decide) (fun c15 => ?_) (fun c15 => ?_)
    · replace h := zBr_t c15 h
      refine lv_iconst (pc := 66) hx hb dX12_readDoes_66 zc_0 ?_
      have hz := Option.some.inj h
      exact zr_rqZ (pc := 67) cx hr hlk hP hS hz (by decide) dX12_readDoes_67
    · replace h := zBr_f c15 h
      refine lv_aload_n (pc := 48) hx hb dX12_readDoes_48 rfl (lv_at hl 0 rfl) ?_
      refine lv_iload_n (pc := 49) hx hb dX12_readDoes_49 rfl (lv_at hl 1 rfl) ?_
      refine lv_iconst (pc := 50) hx hb dX12_readDoes_50 zc_3 ?_
      refine lv_iadd (pc := 51) hx hb dX12_readDoes_51 ?_
      refine lv_aload_n (pc := 52) hx hb dX12_readDoes_52 rfl (lv_at hl 0 rfl) ?_
      obtain ⟨r18, S17, k16, h⟩ := zBp_e h
      refine zr_VQ (pc := 53) (rest := [.int (v1 + (3 : Int32)), .ref (q 0)]) cx cv_X12_378 (mX12_readParlourName hq k16) ⟨⟨rfl, rfl⟩, Nat.le_of_ble_eq_true rfl, Nat.le_of_ble_eq_true rfl⟩ ⟨Nat.le_of_ble_eq_true rfl, Nat.le_of_ble_eq_true rfl⟩ hP hS nM_0 sM_0 rfl hl.1 rfl rfl (Nat.le_of_ble_eq_true rfl) dX12_readDoes_53 (fun H locs hP hS => ?_)
      obtain ⟨r21, S20, k19, h⟩ := zBp_e h
      refine zr_VQ (pc := 56) (rest := []) cx cv_X12_375 (mX12_keep hq k19) ⟨⟨rfl, rfl⟩, Nat.le_of_ble_eq_true rfl, Nat.le_of_ble_eq_true rfl⟩ ⟨Nat.le_of_ble_eq_true rfl, Nat.le_of_ble_eq_true rfl⟩ hP hS nM_0 sM_0 rfl hl.1 rfl rfl (Nat.le_of_ble_eq_true rfl) dX12_readDoes_56 (fun H locs hP hS => ?_)
      refine lv_if_eq (pc := 59) (tgt := 66) hx hb dX12_readDoes_59 (by decide) (fun c22 => ?_) (fun c22 => ?_)
      · replace h := zBr_t c22 h
        refine lv_iconst (pc := 66) hx hb dX12_readDoes_66 zc_0 ?_
        have hz := Option.some.inj h
        exact zr_rqZ (pc := 67) cx hr hlk hP hS hz (by decide) dX12_readDoes_67
      · replace h := zBr_f c22 h
        refine lv_iconst (pc := 62) hx hb dX12_readDoes_62 zc_1 ?_
        refine lv_goto (pc := 63) (tgt := 67) hx hb dX12_readDoes_63 (by decide) ?_
        have hz := Option.some.inj h
        exact zr_rqZ (pc := 67) cx hr hlk hP hS hz (by decide) dX12_readDoes_67
  · replace h := zBr_t c3 h
    refine lv_aload_n (pc := 9) hx hb dX12_readDoes_9 rfl (lv_at hl 0 rfl) ?_
    refine lv_iconst (pc := 10) hx hb dX12_readDoes_10 zc_1 ?_
    obtain ⟨r25, S24, k23, h⟩ := zBp_e h
    refine zr_VQ (pc := 11) (rest := []) cx cv_X12_72 (mX12_bad hq k23) ⟨⟨rfl, rfl⟩, Nat.le_of_ble_eq_true rfl, Nat.le_of_ble_eq_true rfl⟩ ⟨Nat.le_of_ble_eq_true rfl, Nat.le_of_ble_eq_true rfl⟩ hP hS nM_0 sM_0 rfl hl.1 rfl rfl (Nat.le_of_ble_eq_true rfl) dX12_readDoes_11 (fun H locs hP hS => ?_)
    obtain ⟨g26, h⟩ := zGd_e h
    have hz := Option.some.inj h
    exact zr_rqZ (pc := 14) cx hr hlk hP hS hz g26 dX12_readDoes_14
-- X12_isSign
abbrev rmX12_isSign : Room := { frames := 0, cells := 0, slots := 0, locals := 0 }
def fX12_isSign (S : zSt) (v1 : Int32) : Option Int32 :=
  zBr ((S.1 0 7) = (4 : Int32)) (zBr ((S.1 0 9) = v1) (some (1 : Int32)) (some (0 : Int32))) (some (0 : Int32))
set_option maxHeartbeats 4000000 in
set_option maxRecDepth 100000 in
theorem mX12_isSign {l : Launch} {D : va_G} {cy : Nat → ClassId} {q : Nat → Nat} {S : zSt} {v1 : Int32} {z : Int32} (h : fX12_isSign S v1 = some z) : zMi l yX12_isSign cX12_isSign 2 (some .boolean) rmX12_isSign [.ref (q 0), .int v1] (zPr zshM zNM D cy q S) z := by
  refine Met.ofW (cc := cX12_isSign) (maxL := 2) (ret := (some .boolean)) (by decide) rfl ?_
  intro p e s m args below meth c s₁ B hml hv
  obtain ⟨rfl, hP, hK⟩ := hv
  have cx : zX RX12 cX12_isSign 2 p s m ([.ref (q 0), .int v1]).toArray c D cy := ⟨B.exec, B.bytes, hml, findClass_of_methodNamed B.named, fun w hw => atoms_spec (ws := Cond.code yX12_isSign cX12_isSign 2 (some .boolean) :: zTB) B.pre w (List.mem_cons_of_mem _ hw), hK⟩
  have hx := cx.1
  have hb := cx.2.1
  have hr := B.returns
  have hlk := B.notSynchronized
  have hl := lv_entry ([.ref (q 0), .int v1]) (n := 2) (Nat.le_of_ble_eq_true rfl)
  rw [lg_entry_eq]
  generalize (lg_sl ([.ref (q 0), .int v1]) ++ List.replicate (2 - (lg_sl ([.ref (q 0), .int v1])).length) Slot.unset).toArray = ls at hl ⊢
  have hl : lv_has ls 2 [(0, .ref (q 0)), (1, .int v1)] := hl
  unfold fX12_isSign at h
  refine lv_aload_n (pc := 0) hx hb dX12_isSign_0 rfl (lv_at hl 0 rfl) ?_
  refine zr_getI (pc := 1) cx lk_X12_30 hP nM_0 sM_0 rfl dX12_isSign_1 ?_
  refine lv_iconst (pc := 4) hx hb dX12_isSign_4 zc_4 ?_
  refine lv_icmp_ne (pc := 5) (tgt := 20) hx hb dX12_isSign_5 (by decide) (fun c1 => ?_) (fun c1 => ?_)
  · replace h := zBr_f c1 h
    refine lv_iconst (pc := 20) hx hb dX12_isSign_20 zc_0 ?_
    have hz := Option.some.inj h
    exact zr_reZ (pc := 21) cx hr hlk hz (by decide) dX12_isSign_21
  · replace h := zBr_t c1 h
    refine lv_aload_n (pc := 8) hx hb dX12_isSign_8 rfl (lv_at hl 0 rfl) ?_
    refine zr_getI (pc := 9) cx lk_X12_40 hP nM_0 sM_0 rfl dX12_isSign_9 ?_
    refine lv_iload_n (pc := 12) hx hb dX12_isSign_12 rfl (lv_at hl 1 rfl) ?_
    refine lv_icmp_ne (pc := 13) (tgt := 20) hx hb dX12_isSign_13 (by decide) (fun c2 => ?_) (fun c2 => ?_)
    · replace h := zBr_f c2 h
      refine lv_iconst (pc := 20) hx hb dX12_isSign_20 zc_0 ?_
      have hz := Option.some.inj h
      exact zr_reZ (pc := 21) cx hr hlk hz (by decide) dX12_isSign_21
    · replace h := zBr_t c2 h
      refine lv_iconst (pc := 16) hx hb dX12_isSign_16 zc_1 ?_
      refine lv_goto (pc := 17) (tgt := 21) hx hb dX12_isSign_17 (by decide) ?_
      have hz := Option.some.inj h
      exact zr_reZ (pc := 21) cx hr hlk hz (by decide) dX12_isSign_21
-- X12_readEnd
abbrev rmX12_readEnd : Room := { frames := 2, cells := 0, slots := 0, locals := 45 }
def fX12_readEnd (S : zSt) : Option (Int32 × zSt) :=
  zBd (fX12_isSign S (59 : Int32)) (fun r2 => zBr (r2 = 0) (zBp (fX12_bad S (1 : Int32)) (fun r8 S7 => zGd (zBo r8) (some (r8, S7)))) (zBd (fX12_go S) (fun S5 => some ((1 : Int32), S5))))
set_option maxHeartbeats 4000000 in
set_option maxRecDepth 100000 in
theorem mX12_readEnd {l : Launch} {D : va_G} {cy : Nat → ClassId} {q : Nat → Nat} {A : Nat → Prop} {S : zSt} (hq : zQ A q zNM) {z : (Int32 × zSt)} (h : fX12_readEnd S = some z) : zMq l yX12_readEnd cX12_readEnd 1 (some .boolean) rmX12_readEnd [.ref (q 0)] zshM zNM D cy q A S z := by
  refine Met.ofW (cc := cX12_readEnd) (maxL := 1) (ret := (some .boolean)) (by decide) rfl ?_
  intro p e s m args below meth c s₁ B hml hv
  obtain ⟨rfl, hP, hK⟩ := hv
  have cx : zX RX12 cX12_readEnd 1 p s m ([.ref (q 0)]).toArray c D cy := ⟨B.exec, B.bytes, hml, findClass_of_methodNamed B.named, fun w hw => atoms_spec (ws := Cond.code yX12_readEnd cX12_readEnd 1 (some .boolean) :: zTB) B.pre w (List.mem_cons_of_mem _ hw), hK⟩
  have hx := cx.1
  have hb := cx.2.1
  have hr := B.returns
  have hlk := B.notSynchronized
  have hS : va_S A s.heap s.heap [] := va_S.rf
  have hl := lv_entry ([.ref (q 0)]) (n := 1) (Nat.le_of_ble_eq_true rfl)
  rw [lg_entry_eq]
  generalize (lg_sl ([.ref (q 0)]) ++ List.replicate (1 - (lg_sl ([.ref (q 0)])).length) Slot.unset).toArray = ls at hl ⊢
  have hl : lv_has ls 1 [(0, .ref (q 0))] := hl
  unfold fX12_readEnd at h
  refine lv_aload_n (pc := 0) hx hb dX12_readEnd_0 rfl (lv_at hl 0 rfl) ?_
  refine lv_bipush (pc := 1) hx hb dX12_readEnd_1 zb_59 ?_
  obtain ⟨r2, k1, h⟩ := zBd_e h
  refine zr_VI (pc := 3) (rest := []) cx cv_X12_86 (mX12_isSign k1) ⟨⟨rfl, rfl⟩, Nat.le_of_ble_eq_true rfl, Nat.le_of_ble_eq_true rfl⟩ ⟨Nat.le_of_ble_eq_true rfl, Nat.le_of_ble_eq_true rfl⟩ hP nM_0 sM_0 rfl hl.1 rfl rfl (Nat.le_of_ble_eq_true rfl) dX12_readEnd_3 ?_
  refine lv_if_ne (pc := 6) (tgt := 15) hx hb dX12_readEnd_6 (by decide) (fun c3 => ?_) (fun c3 => ?_)
  · replace h := zBr_f c3 h
    refine lv_aload_n (pc := 15) hx hb dX12_readEnd_15 rfl (lv_at hl 0 rfl) ?_
    obtain ⟨S5, k4, h⟩ := zBd_e h
    refine zr_VV (pc := 16) (rest := []) cx cv_X12_82 (mX12_go hq k4) ⟨⟨rfl, rfl⟩, Nat.le_of_ble_eq_true rfl, Nat.le_of_ble_eq_true rfl⟩ ⟨Nat.le_of_ble_eq_true rfl, Nat.le_of_ble_eq_true rfl⟩ hP hS nM_0 sM_0 rfl hl.1 rfl rfl (Nat.le_of_ble_eq_true rfl) dX12_readEnd_16 (fun H locs hP hS => ?_)
    refine lv_iconst (pc := 19) hx hb dX12_readEnd_19 zc_1 ?_
    have hz := Option.some.inj h
    exact zr_rqZ (pc := 20) cx hr hlk hP hS hz (by decide) dX12_readEnd_20
  · replace h := zBr_t c3 h
    refine lv_aload_n (pc := 9) hx hb dX12_readEnd_9 rfl (lv_at hl 0 rfl) ?_
    refine lv_iconst (pc := 10) hx hb dX12_readEnd_10 zc_1 ?_
    obtain ⟨r8, S7, k6, h⟩ := zBp_e h
    refine zr_VQ (pc := 11) (rest := []) cx cv_X12_72 (mX12_bad hq k6) ⟨⟨rfl, rfl⟩, Nat.le_of_ble_eq_true rfl, Nat.le_of_ble_eq_true rfl⟩ ⟨Nat.le_of_ble_eq_true rfl, Nat.le_of_ble_eq_true rfl⟩ hP hS nM_0 sM_0 rfl hl.1 rfl rfl (Nat.le_of_ble_eq_true rfl) dX12_readEnd_11 (fun H locs hP hS => ?_)
    obtain ⟨g9, h⟩ := zGd_e h
    have hz := Option.some.inj h
    exact zr_rqZ (pc := 14) cx hr hlk hP hS hz g9 dX12_readEnd_14
-- X12_readNumber
abbrev rmX12_readNumber : Room := { frames := 2, cells := 0, slots := 0, locals := 45 }
def fX12_readNumber (S : zSt) (v1 : Int32) (v2 : Int32) : Option (Int32 × zSt) :=
  zBr ((S.1 0 7) = (3 : Int32)) (zBd (fX12_isIn (S.1 0 8) v1 v2) (fun r3 => zBr (r3 = 0) (zBp (fX12_bad S (2 : Int32)) (fun r10 S9 => zGd (zBo r10) (some (r10, S9)))) (zLt (zI S 0 13 (S.1 0 8)) (fun S5 => zBd (fX12_go S5) (fun S7 => some ((1 : Int32), S7)))))) (zBp (fX12_bad S (1 : Int32)) (fun r14 S13 => zGd (zBo r14) (some (r14, S13))))
set_option maxHeartbeats 4000000 in
set_option maxRecDepth 100000 in
theorem mX12_readNumber {l : Launch} {D : va_G} {cy : Nat → ClassId} {q : Nat → Nat} {A : Nat → Prop} {S : zSt} {v1 : Int32} {v2 : Int32} (hq : zQ A q zNM) {z : (Int32 × zSt)} (h : fX12_readNumber S v1 v2 = some z) : zMq l yX12_readNumber cX12_readNumber 3 (some .boolean) rmX12_readNumber [.ref (q 0), .int v1, .int v2] zshM zNM D cy q A S z := by
  refine Met.ofW (cc := cX12_readNumber) (maxL := 3) (ret := (some .boolean)) (by decide) rfl ?_
  intro p e s m args below meth c s₁ B hml hv
  obtain ⟨rfl, hP, hK⟩ := hv
  have cx : zX RX12 cX12_readNumber 3 p s m ([.ref (q 0), .int v1, .int v2]).toArray c D cy := ⟨B.exec, B.bytes, hml, findClass_of_methodNamed B.named, fun w hw => atoms_spec (ws := Cond.code yX12_readNumber cX12_readNumber 3 (some .boolean) :: zTB) B.pre w (List.mem_cons_of_mem _ hw), hK⟩
  have hx := cx.1
  have hb := cx.2.1
  have hr := B.returns
  have hlk := B.notSynchronized
  have hS : va_S A s.heap s.heap [] := va_S.rf
  have hl := lv_entry ([.ref (q 0), .int v1, .int v2]) (n := 3) (Nat.le_of_ble_eq_true rfl)
  rw [lg_entry_eq]
  generalize (lg_sl ([.ref (q 0), .int v1, .int v2]) ++ List.replicate (3 - (lg_sl ([.ref (q 0), .int v1, .int v2])).length) Slot.unset).toArray = ls at hl ⊢
  have hl : lv_has ls 3 [(0, .ref (q 0)), (1, .int v1), (2, .int v2)] := hl
  unfold fX12_readNumber at h
  refine lv_aload_n (pc := 0) hx hb dX12_readNumber_0 rfl (lv_at hl 0 rfl) ?_
  refine zr_getI (pc := 1) cx lk_X12_30 hP nM_0 sM_0 rfl dX12_readNumber_1 ?_
  refine lv_iconst (pc := 4) hx hb dX12_readNumber_4 zc_3 ?_
  refine lv_icmp_eq (pc := 5) (tgt := 14) hx hb dX12_readNumber_5 (by decide) (fun c1 => ?_) (fun c1 => ?_)
  · replace h := zBr_t c1 h
    refine lv_aload_n (pc := 14) hx hb dX12_readNumber_14 rfl (lv_at hl 0 rfl) ?_
    refine zr_getI (pc := 15) cx lk_X12_47 hP nM_0 sM_0 rfl dX12_readNumber_15 ?_
    refine lv_iload_n (pc := 18) hx hb dX12_readNumber_18 rfl (lv_at hl 1 rfl) ?_
    refine lv_iload_n (pc := 19) hx hb dX12_readNumber_19 rfl (lv_at hl 2 rfl) ?_
    obtain ⟨r3, k2, h⟩ := zBd_e h
    refine zr_SI (pc := 20) (rest := []) cx cv_X12_75 (mX12_isIn k2) ⟨⟨rfl, rfl⟩, Nat.le_of_ble_eq_true rfl, Nat.le_of_ble_eq_true rfl⟩ ⟨Nat.le_of_ble_eq_true rfl, Nat.le_of_ble_eq_true rfl⟩ (zr_preK cx) hl.1 rfl rfl (Nat.le_of_ble_eq_true rfl) dX12_readNumber_20 ?_
    refine lv_if_ne (pc := 23) (tgt := 32) hx hb dX12_readNumber_23 (by decide) (fun c4 => ?_) (fun c4 => ?_)
    · replace h := zBr_f c4 h
      refine lv_aload_n (pc := 32) hx hb dX12_readNumber_32 rfl (lv_at hl 0 rfl) ?_
      refine lv_aload_n (pc := 33) hx hb dX12_readNumber_33 rfl (lv_at hl 0 rfl) ?_
      refine zr_getI (pc := 34) cx lk_X12_47 hP nM_0 sM_0 rfl dX12_readNumber_34 ?_
      obtain ⟨S5, eS5, h⟩ := zLt_e h
      refine zr_putI (pc := 37) cx lq_X12_79 hq hP hS nM_0 sM_0 rfl rfl rfl dX12_readNumber_37 (fun H locs hP hS => ?_)
      rw [← eS5] at hP
      refine lv_aload_n (pc := 40) hx hb dX12_readNumber_40 rfl (lv_at hl 0 rfl) ?_
      obtain ⟨S7, k6, h⟩ := zBd_e h
      refine zr_VV (pc := 41) (rest := []) cx cv_X12_82 (mX12_go hq k6) ⟨⟨rfl, rfl⟩, Nat.le_of_ble_eq_true rfl, Nat.le_of_ble_eq_true rfl⟩ ⟨Nat.le_of_ble_eq_true rfl, Nat.le_of_ble_eq_true rfl⟩ hP hS nM_0 sM_0 rfl hl.1 rfl rfl (Nat.le_of_ble_eq_true rfl) dX12_readNumber_41 (fun H locs hP hS => ?_)
      refine lv_iconst (pc := 44) hx hb dX12_readNumber_44 zc_1 ?_
      have hz := Option.some.inj h
      exact zr_rqZ (pc := 45) cx hr hlk hP hS hz (by decide) dX12_readNumber_45
    · replace h := zBr_t c4 h
      refine lv_aload_n (pc := 26) hx hb dX12_readNumber_26 rfl (lv_at hl 0 rfl) ?_
      refine lv_iconst (pc := 27) hx hb dX12_readNumber_27 zc_2 ?_
      obtain ⟨r10, S9, k8, h⟩ := zBp_e h
      refine zr_VQ (pc := 28) (rest := []) cx cv_X12_72 (mX12_bad hq k8) ⟨⟨rfl, rfl⟩, Nat.le_of_ble_eq_true rfl, Nat.le_of_ble_eq_true rfl⟩ ⟨Nat.le_of_ble_eq_true rfl, Nat.le_of_ble_eq_true rfl⟩ hP hS nM_0 sM_0 rfl hl.1 rfl rfl (Nat.le_of_ble_eq_true rfl) dX12_readNumber_28 (fun H locs hP hS => ?_)
      obtain ⟨g11, h⟩ := zGd_e h
      have hz := Option.some.inj h
      exact zr_rqZ (pc := 31) cx hr hlk hP hS hz g11 dX12_readNumber_31
  · replace h := zBr_f c1 h
    refine lv_aload_n (pc := 8) hx hb dX12_readNumber_8 rfl (lv_at hl 0 rfl) ?_
    refine lv_iconst (pc := 9) hx hb dX12_readNumber_9 zc_1 ?_
    obtain ⟨r14, S13, k12, h⟩ := zBp_e h
    refine zr_VQ (pc := 10) (rest := []) cx cv_X12_72 (mX12_bad hq k12) ⟨⟨rfl, rfl⟩, Nat.le_of_ble_eq_true rfl, Nat.le_of_ble_eq_true rfl⟩ ⟨Nat.le_of_ble_eq_true rfl, Nat.le_of_ble_eq_true rfl⟩ hP hS nM_0 sM_0 rfl hl.1 rfl rfl (Nat.le_of_ble_eq_true rfl) dX12_readNumber_10 (fun H locs hP hS => ?_)
    obtain ⟨g15, h⟩ := zGd_e h
    have hz := Option.some.inj h
    exact zr_rqZ (pc := 13) cx hr hlk hP hS hz g15 dX12_readNumber_13
-- X12_readPlantName
abbrev rmX12_readPlantName : Room := { frames := 4, cells := 0, slots := 0, locals := 91 }
def fX12_readPlantName (S : zSt) : Option (Int32 × zSt) :=
  zGd (zIx (1 : Int32) 406) (zBp (fX12_readNamed S (5 : Int32) (S.1 2 (1 : Int32).toNatClampNeg)) (fun r4 S3 => zGd (zBo r4) (some (r4, S3))))
set_option maxHeartbeats 4000000 in
set_option maxRecDepth 100000 in
theorem mX12_readPlantName {l : Launch} {D : va_G} {cy : Nat → ClassId} {q : Nat → Nat} {A : Nat → Prop} {S : zSt} (hq : zQ A q zNM) {z : (Int32 × zSt)} (h : fX12_readPlantName S = some z) : zMq l yX12_readPlantName cX12_readPlantName 1 (some .boolean) rmX12_readPlantName [.ref (q 0)] zshM zNM D cy q A S z := by
  refine Met.ofW (cc := cX12_readPlantName) (maxL := 1) (ret := (some .boolean)) (by decide) rfl ?_
  intro p e s m args below meth c s₁ B hml hv
  obtain ⟨rfl, hP, hK⟩ := hv
  have cx : zX RX12 cX12_readPlantName 1 p s m ([.ref (q 0)]).toArray c D cy := ⟨B.exec, B.bytes, hml, findClass_of_methodNamed B.named, fun w hw => atoms_spec (ws := Cond.code yX12_readPlantName cX12_readPlantName 1 (some .boolean) :: zTB) B.pre w (List.mem_cons_of_mem _ hw), hK⟩
  have hx := cx.1
  have hb := cx.2.1
  have hr := B.returns
  have hlk := B.notSynchronized
  have hS : va_S A s.heap s.heap [] := va_S.rf
  have hl := lv_entry ([.ref (q 0)]) (n := 1) (Nat.le_of_ble_eq_true rfl)
  rw [lg_entry_eq]
  generalize (lg_sl ([.ref (q 0)]) ++ List.replicate (1 - (lg_sl ([.ref (q 0)])).length) Slot.unset).toArray = ls at hl ⊢
  have hl : lv_has ls 1 [(0, .ref (q 0))] := hl
  unfold fX12_readPlantName at h
  refine lv_aload_n (pc := 0) hx hb dX12_readPlantName_0 rfl (lv_at hl 0 rfl) ?_
  refine lv_iconst (pc := 1) hx hb dX12_readPlantName_1 zc_5 ?_
  refine lv_aload_n (pc := 2) hx hb dX12_readPlantName_2 rfl (lv_at hl 0 rfl) ?_
  refine zr_getR (pc := 3) (t := 2) cx lk_X12_98 hP nM_0 sM_0 rfl dX12_readPlantName_3 ?_
  refine lv_iconst (pc := 6) hx hb dX12_readPlantName_6 zc_1 ?_
  obtain ⟨g1, h⟩ := zGd_e h
  refine zr_iald (pc := 7) cx hP nM_2 sM_2 g1 dX12_readPlantName_7 ?_
  obtain ⟨r4, S3, k2, h⟩ := zBp_e h
  refine zr_VQ (pc := 8) (rest := []) cx cv_X12_372 (mX12_readNamed hq k2) ⟨⟨rfl, rfl⟩, Nat.le_of_ble_eq_true rfl, Nat.le_of_ble_eq_true rfl⟩ ⟨Nat.le_of_ble_eq_true rfl, Nat.le_of_ble_eq_true rfl⟩ hP hS nM_0 sM_0 rfl hl.1 rfl rfl (Nat.le_of_ble_eq_true rfl) dX12_readPlantName_8 (fun H locs hP hS => ?_)
  obtain ⟨g5, h⟩ := zGd_e h
  have hz := Option.some.inj h
  exact zr_rqZ (pc := 11) cx hr hlk hP hS hz g5 dX12_readPlantName_11
-- X12_readBookLine
abbrev rmX12_readBookLine : Room := { frames := 6, cells := 0, slots := 0, locals := 132 }
def fX12_readBookLine_293 (S : zSt)  : Option (Int32 × zSt) :=
  zBp (fX12_readEnd S) (fun r36 S35 => zBr (r36 = 0) (some ((0 : Int32), S35)) (some ((1 : Int32), S35)))
set_option maxHeartbeats 4000000 in
set_option maxRecDepth 100000 in
theorem kX12_readBookLine_293 {p : Program} {l : Launch} {e : Env} {s : State} {m : MethodId} {args : Array Value} {below : List Frame} {meth : Method} {c : Code} {D : va_G} {cy : Nat → ClassId} {q : Nat → Nat} {A : Nat → Prop} (cx : zX RX12 cX12_readBookLine 6 p s m args c D cy) (hr : meth.sig.returnType = (some .boolean)) (hlk : meth.locks = false) (hq : zQ A q zNM) {z : (Int32 × zSt)} {S : zSt} (h : fX12_readBookLine_293 S = some z) {H : Heap} {locs : List Loc} (hP : va_P D vwCl (zW zshM zNM cy q S) H) (hS : va_S A s.heap H locs) {ls : Array Slot} (hl : lv_has ls 6 [(0, .ref (q 0))]) : W p l e rmX12_readBookLine s m args below meth c H locs 0 0 (MQ below (va_Qi (fun (r : Int32) (u : zSt) => (r, u) = z) (fun u t => va_P D vwCl (zW zshM zNM cy q u) t.heap) A) args s 0 0 A) (F0 m 293 ls []) := by
  have hx := cx.1
  have hb := cx.2.1
  unfold fX12_readBookLine_293 at h
  refine lv_aload_n (pc := 293) hx hb dX12_readBookLine_293 rfl (lv_at hl 0 rfl) ?_
  obtain ⟨r36, S35, k34, h⟩ := zBp_e h
  refine zr_VQ (pc := 294) (rest := []) cx cv_X12_212 (mX12_readEnd hq k34) ⟨⟨rfl, rfl⟩, Nat.le_of_ble_eq_true rfl, Nat.le_of_ble_eq_true rfl⟩ ⟨Nat.le_of_ble_eq_true rfl, Nat.le_of_ble_eq_true rfl⟩ hP hS nM_0 sM_0 rfl hl.1 rfl rfl (Nat.le_of_ble_eq_true rfl) dX12_readBookLine_294 (fun H locs hP hS => ?_)
  refine lv_if_eq (pc := 297) (tgt := 304) hx hb dX12_readBookLine_297 (by decide) (fun c37 => ?_) (fun c37 => ?_)
  · replace h := zBr_t c37 h
    refine lv_iconst (pc := 304) hx hb dX12_readBookLine_304 zc_0 ?_
    have hz := Option.some.inj h
    exact zr_rqZ (pc := 305) cx hr hlk hP hS hz (by decide) dX12_readBookLine_305
  · replace h := zBr_f c37 h
    refine lv_iconst (pc := 300) hx hb dX12_readBookLine_300 zc_1 ?_
    refine lv_goto (pc := 301) (tgt := 305) hx hb dX12_readBookLine_301 (by decide) ?_
    have hz := Option.some.inj h
    exact zr_rqZ (pc := 305) cx hr hlk hP hS hz (by decide) dX12_readBookLine_305
def fX12_readBookLine_170 (S : zSt)  (v1 : Int32) (v3 : Int32) (v4 : Int32) (v5 : Int32) (t0 : Int32) (t1 : Int32) : Option (Int32 × zSt) :=
  zGd (zIx t1 160) (zLt (zI S 16 t1.toNatClampNeg t0) (fun S17 => zGd (zIx (v5 + (2 : Int32)) 160) (zLt (zI S17 16 (v5 + (2 : Int32)).toNatClampNeg (0 : Int32)) (fun S19 => zGd (zIx (v5 + (3 : Int32)) 160) (zLt (zI S19 16 (v5 + (3 : Int32)).toNatClampNeg (0 : Int32)) (fun S21 => zBd (fX12_go S21) (fun S23 => zBr (v4 = 0) (zBr (v3 = 0) (zBp (fX12_readPlantName S23) (fun r28 S27 => zBp (fX12_keep S27 (v5 + (1 : Int32)) r28) (fun r31 S30 => zBr (r31 = 0) (some ((0 : Int32), S30)) (zBr (v1 = 0) (zBp (fX12_readParlourName S30) (fun r40 S39 => zBp (fX12_keep S39 (v5 + (2 : Int32)) r40) (fun r43 S42 => zBr (r43 = 0) (some ((0 : Int32), S42)) (fX12_readBookLine_293 S42)))) (fX12_readBookLine_293 S30))))) (zBp (fX12_readNumber S23 (1 : Int32) (60 : Int32)) (fun r47 S46 => zBp (fX12_keep S46 (v5 + (1 : Int32)) r47) (fun r50 S49 => zBr (r50 = 0) (some ((0 : Int32), S49)) (zBp (fX12_readEnd S49) (fun r54 S53 => zBr (r54 = 0) (some ((0 : Int32), S53)) (some ((1 : Int32), S53)))))))) (zBp (fX12_readDoes S23 v5) (fun r58 S57 => zBr (r58 = 0) (some ((0 : Int32), S57)) (zBp (fX12_readEnd S57) (fun r62 S61 => zBr (r62 = 0) (some ((0 : Int32), S61)) (some ((1 : Int32), S61)))))))))))))
set_option maxHeartbeats 4000000 in
set_option maxRecDepth 100000 in
theorem kX12_readBookLine_170 {p : Program} {l : Launch} {e : Env} {s : State} {m : MethodId} {args : Array Value} {below : List Frame} {meth : Method} {c : Code} {D : va_G} {cy : Nat → ClassId} {q : Nat → Nat} {A : Nat → Prop} (cx : zX RX12 cX12_readBookLine 6 p s m args c D cy) (hr : meth.sig.returnType = (some .boolean)) (hlk : meth.locks = false) (hq : zQ A q zNM) {z : (Int32 × zSt)} {S : zSt} {v1 : Int32} {v3 : Int32} {v4 : Int32} {v5 : Int32} {t0 : Int32} {t1 : Int32} (h : fX12_readBookLine_170 S v1 v3 v4 v5 t0 t1 = some z) {H : Heap} {locs : List Loc} (hP : va_P D vwCl (zW zshM zNM cy q S) H) (hS : va_S A s.heap H locs) {ls : Array Slot} (hl : lv_has ls 6 [(0, .ref (q 0)), (1, .int v1), (3, .int v3), (4, .int v4), (5, .int v5)]) : W p l e rmX12_readBookLine s m args below meth c H locs 0 0 (MQ below (va_Qi (fun (r : Int32) (u : zSt) => (r, u) = z) (fun u t => va_P D vwCl (zW zshM zNM cy q u) t.heap) A) args s 0 0 A) (F0 m 170 ls [.int t0, .int t1, .ref (q 16)]) := by
  have hx := cx.1
  have hb := cx.2.1
  unfold fX12_readBookLine_170 at h
  obtain ⟨g16, h⟩ := zGd_e h
  obtain ⟨S17, eS17, h⟩ := zLt_e h
  refine zr_iast (pc := 170) cx hq hP hS nM_16 sM_16 g16 dX12_readBookLine_170 (fun H locs hP hS => ?_)
  rw [← eS17] at hP
  refine lv_aload_n (pc := 171) hx hb dX12_readBookLine_171 rfl (lv_at hl 0 rfl) ?_
  refine zr_getR (pc := 172) (t := 16) cx lk_X12_148 hP nM_0 sM_0 rfl dX12_readBookLine_172 ?_
  refine lv_iload (pc := 175) hx hb dX12_readBookLine_175 (lv_at hl 4 rfl) ?_
  refine lv_iconst (pc := 177) hx hb dX12_readBookLine_177 zc_2 ?_
  refine lv_iadd (pc := 178) hx hb dX12_readBookLine_178 ?_
  refine lv_iconst (pc := 179) hx hb dX12_readBookLine_179 zc_0 ?_
  obtain ⟨g18, h⟩ := zGd_e h
  obtain ⟨S19, eS19, h⟩ := zLt_e h
  refine zr_iast (pc := 180) cx hq hP hS nM_16 sM_16 g18 dX12_readBookLine_180 (fun H locs hP hS => ?_)
  rw [← eS19] at hP
  refine lv_aload_n (pc := 181) hx hb dX12_readBookLine_181 rfl (lv_at hl 0 rfl) ?_
  refine zr_getR (pc := 182) (t := 16) cx lk_X12_148 hP nM_0 sM_0 rfl dX12_readBookLine_182 ?_
  refine lv_iload (pc := 185) hx hb dX12_readBookLine_185 (lv_at hl 4 rfl) ?_
  refine lv_iconst (pc := 187) hx hb dX12_readBookLine_187 zc_3 ?_
  refine lv_iadd (pc := 188) hx hb dX12_readBookLine_188 ?_
  refine lv_iconst (pc := 189) hx hb dX12_readBookLine_189 zc_0 ?_
  obtain ⟨g20, h⟩ := zGd_e h
  obtain ⟨S21, eS21, h⟩ := zLt_e h
  refine zr_iast (pc := 190) cx hq hP hS nM_16 sM_16 g20 dX12_readBookLine_190 (fun H locs hP hS => ?_)
  rw [← eS21] at hP
  refine lv_aload_n (pc := 191) hx hb dX12_readBookLine_191 rfl (lv_at hl 0 rfl) ?_
  obtain ⟨S23, k22, h⟩ := zBd_e h
  refine zr_VV (pc := 192) (rest := []) cx cv_X12_82 (mX12_go hq k22) ⟨⟨rfl, rfl⟩, Nat.le_of_ble_eq_true rfl, Nat.le_of_ble_eq_true rfl⟩ ⟨Nat.le_of_ble_eq_true rfl, Nat.le_of_ble_eq_true rfl⟩ hP hS nM_0 sM_0 rfl hl.1 rfl rfl (Nat.le_of_ble_eq_true rfl) dX12_readBookLine_192 (fun H locs hP hS => ?_)
  refine lv_iload (pc := 195) hx hb dX12_readBookLine_195 (lv_at hl 3 rfl) ?_
  refine lv_if_eq (pc := 197) (tgt := 222) hx hb dX12_readBookLine_197 (by decide) (fun c24 => ?_) (fun c24 => ?_)
  · replace h := zBr_t c24 h
    refine lv_iload_n (pc := 222) hx hb dX12_readBookLine_222 rfl (lv_at hl 2 rfl) ?_
    refine lv_if_eq (pc := 223) (tgt := 257) hx hb dX12_readBookLine_223 (by decide) (fun c25 => ?_) (fun c25 => ?_)
    · replace h := zBr_t c25 h
      refine lv_aload_n (pc := 257) hx hb dX12_readBookLine_257 rfl (lv_at hl 0 rfl) ?_
      refine lv_iload (pc := 258) hx hb dX12_readBookLine_258 (lv_at hl 4 rfl) ?_
      refine lv_iconst (pc := 260) hx hb dX12_readBookLine_260 zc_1 ?_
      refine lv_iadd (pc := 261) hx hb dX12_readBookLine_261 ?_
      refine lv_aload_n (pc := 262) hx hb dX12_readBookLine_262 rfl (lv_at hl 0 rfl) ?_
      obtain ⟨r28, S27, k26, h⟩ := zBp_e h
      refine zr_VQ (pc := 263) (rest := [.int (v5 + (1 : Int32)), .ref (q 0)]) cx cv_X12_387 (mX12_readPlantName hq k26) ⟨⟨rfl, rfl⟩, Nat.le_of_ble_eq_true rfl, Nat.le_of_ble_eq_true rfl⟩ ⟨Nat.le_of_ble_eq_true rfl, Nat.le_of_ble_eq_true rfl⟩ hP hS nM_0 sM_0 rfl hl.1 rfl rfl (Nat.le_of_ble_eq_true rfl) dX12_readBookLine_263 (fun H locs hP hS => ?_)
      obtain ⟨r31, S30, k29, h⟩ := zBp_e h
      refine zr_VQ (pc := 266) (rest := []) cx cv_X12_375 (mX12_keep hq k29) ⟨⟨rfl, rfl⟩, Nat.le_of_ble_eq_true rfl, Nat.le_of_ble_eq_true rfl⟩ ⟨Nat.le_of_ble_eq_true rfl, Nat.le_of_ble_eq_true rfl⟩ hP hS nM_0 sM_0 rfl hl.1 rfl rfl (Nat.le_of_ble_eq_true rfl) dX12_readBookLine_266 (fun H locs hP hS => ?_)
      refine lv_if_ne (pc := 269) (tgt := 274) hx hb dX12_readBookLine_269 (by decide) (fun c32 => ?_) (fun c32 => ?_)
      · replace h := zBr_f c32 h
        refine lv_iload_n (pc := 274) hx hb dX12_readBookLine_274 rfl (lv_at hl 1 rfl) ?_
        refine lv_if_ne (pc := 275) (tgt := 293) hx hb dX12_readBookLine_275 (by decide) (fun c33 => ?_) (fun c33 => ?_)
        · replace h := zBr_f c33 h
          exact kX12_readBookLine_293 cx hr hlk hq h hP hS (lv_sub hl [0] rfl)
        · replace h := zBr_t c33 h
          refine lv_aload_n (pc := 278) hx hb dX12_readBookLine_278 rfl (lv_at hl 0 rfl) ?_
          refine lv_iload (pc := 279) hx hb dX12_readBookLine_279 (lv_at hl 4 rfl) ?_
          refine lv_iconst (pc := 281) hx hb dX12_readBookLine_281 zc_2 ?_
          refine lv_iadd (pc := 282) hx hb dX12_readBookLine_282 ?_
          refine lv_aload_n (pc := 283) hx hb dX12_readBookLine_283 rfl (lv_at hl 0 rfl) ?_
          obtain ⟨r40, S39, k38, h⟩ := zBp_e h
          refine zr_VQ (pc := 284) (rest := [.int (v5 + (2 : Int32)), .ref (q 0)]) cx cv_X12_378 (mX12_readParlourName hq k38) ⟨⟨rfl, rfl⟩, Nat.le_of_ble_eq_true rfl, Nat.le_of_ble_eq_true rfl⟩ ⟨Nat.le_of_ble_eq_true rfl, Nat.le_of_ble_eq_true rfl⟩ hP hS nM_0 sM_0 rfl hl.1 rfl rfl (Nat.le_of_ble_eq_true rfl) dX12_readBookLine_284 (fun H locs hP hS => ?_)
          obtain ⟨r43, S42, k41, h⟩ := zBp_e h
          refine zr_VQ (pc := 287) (rest := []) cx cv_X12_375 (mX12_keep hq k41) ⟨⟨rfl, rfl⟩, Nat.le_of_ble_eq_true rfl, Nat.le_of_ble_eq_true rfl⟩ ⟨Nat.le_of_ble_eq_true rfl, Nat.le_of_ble_eq_true rfl⟩ hP hS nM_0 sM_0 rfl hl.1 rfl rfl (Nat.le_of_ble_eq_true rfl) dX12_readBookLine_287 (fun H locs hP hS => ?_)
          refine lv_if_eq (pc := 290) (tgt := 304) hx hb dX12_readBookLine_290 (by decide) (fun c44 => ?_) (fun c44 => ?_)
          · replace h := zBr_t c44 h
            refine lv_iconst (pc := 304) hx hb dX12_readBookLine_304 zc_0 ?_
            have hz := Option.some.inj h
            exact zr_rqZ (pc := 305) cx hr hlk hP hS hz (by decide) dX12_readBookLine_305
          · replace h := zBr_f c44 h
            exact kX12_readBookLine_293 cx hr hlk hq h hP hS (lv_sub hl [0] rfl)
      · replace h := zBr_t c32 h
        refine lv_iconst (pc := 272) hx hb dX12_readBookLine_272 zc_0 ?_
        have hz := Option.some.inj h
        exact zr_rqZ (pc := 273) cx hr hlk hP hS hz (by decide) dX12_readBookLine_273
    · replace h := zBr_f c25 h
      refine lv_aload_n (pc := 226) hx hb dX12_readBookLine_226 rfl (lv_at hl 0 rfl) ?_
      refine lv_iload (pc := 227) hx hb dX12_readBookLine_227 (lv_at hl 4 rfl) ?_
      refine lv_iconst (pc := 229) hx hb dX12_readBookLine_229 zc_1 ?_
      refine lv_iadd (pc := 230) hx hb dX12_readBookLine_230 ?_
      refine lv_aload_n (pc := 231) hx hb dX12_readBookLine_231 rfl (lv_at hl 0 rfl) ?_
      refine lv_iconst (pc := 232) hx hb dX12_readBookLine_232 zc_1 ?_
      refine lv_bipush (pc := 233) hx hb dX12_readBookLine_233 zb_60 ?_
      obtain ⟨r47, S46, k45, h⟩ := zBp_e h
      refine zr_VQ (pc := 235) (rest := [.int (v5 + (1 : Int32)), .ref (q 0)]) cx cv_X12_188 (mX12_readNumber hq k45) ⟨⟨rfl, rfl⟩, Nat.le_of_ble_eq_true rfl, Nat.le_of_ble_eq_true rfl⟩ ⟨Nat.le_of_ble_eq_true rfl, Nat.le_of_ble_eq_true rfl⟩ hP hS nM_0 sM_0 rfl hl.1 rfl rfl (Nat.le_of_ble_eq_true rfl) dX12_readBookLine_235 (fun H locs hP hS => ?_)
      obtain ⟨r50, S49, k48, h⟩ := zBp_e h
      refine zr_VQ (pc := 238) (rest := []) cx cv_X12_375 (mX12_keep hq k48) ⟨⟨rfl, rfl⟩, Nat.le_of_ble_eq_true rfl, Nat.le_of_ble_eq_true rfl⟩ ⟨Nat.le_of_ble_eq_true rfl, Nat.le_of_ble_eq_true rfl⟩ hP hS nM_0 sM_0 rfl hl.1 rfl rfl (Nat.le_of_ble_eq_true rfl) dX12_readBookLine_238 (fun H locs hP hS => ?_)
      refine lv_if_eq (pc := 241) (tgt := 255) hx hb dX12_readBookLine_241 (by decide) (fun c51 => ?_) (fun c51 => ?_)
      · replace h := zBr_t c51 h
        refine lv_iconst (pc := 255) hx hb dX12_readBookLine_255 zc_0 ?_
        have hz := Option.some.inj h
        exact zr_rqZ (pc := 256) cx hr hlk hP hS hz (by decide) dX12_readBookLine_256
      · replace h := zBr_f c51 h
        refine lv_aload_n (pc := 244) hx hb dX12_readBookLine_244 rfl (lv_at hl 0 rfl) ?_
        obtain ⟨r54, S53, k52, h⟩ := zBp_e h
        refine zr_VQ (pc := 245) (rest := []) cx cv_X12_212 (mX12_readEnd hq k52) ⟨⟨rfl, rfl⟩, Nat.le_of_ble_eq_true rfl, Nat.le_of_ble_eq_true rfl⟩ ⟨Nat.le_of_ble_eq_true rfl, Nat.le_of_ble_eq_true rfl⟩ hP hS nM_0 sM_0 rfl hl.1 rfl rfl (Nat.le_of_ble_eq_true rfl) dX12_readBookLine_245 (fun H locs hP hS => ?_)
        refine lv_if_eq (pc := 248) (tgt := 255) hx hb dX12_readBookLine_248 (by decide) (fun c55 => ?_) (fun c55 => ?_)
        · replace h := zBr_t c55 h
          refine lv_iconst (pc := 255) hx hb dX12_readBookLine_255 zc_0 ?_
          have hz := Option.some.inj h
          exact zr_rqZ (pc := 256) cx hr hlk hP hS hz (by decide) dX12_readBookLine_256
        · replace h := zBr_f c55 h
          refine lv_iconst (pc := 251) hx hb dX12_readBookLine_251 zc_1 ?_
          refine lv_goto (pc := 252) (tgt := 256) hx hb dX12_readBookLine_252 (by decide) ?_
          have hz := Option.some.inj h
          exact zr_rqZ (pc := 256) cx hr hlk hP hS hz (by decide) dX12_readBookLine_256
  · replace h := zBr_f c24 h
    refine lv_aload_n (pc := 200) hx hb dX12_readBookLine_200 rfl (lv_at hl 0 rfl) ?_
    refine lv_iload (pc := 201) hx hb dX12_readBookLine_201 (lv_at hl 4 rfl) ?_
    obtain ⟨r58, S57, k56, h⟩ := zBp_e h
    refine zr_VQ (pc := 203) (rest := []) cx cv_X12_384 (mX12_readDoes hq k56) ⟨⟨rfl, rfl⟩, Nat.le_of_ble_eq_true rfl, Nat.le_of_ble_eq_true rfl⟩ ⟨Nat.le_of_ble_eq_true rfl, Nat.le_of_ble_eq_true rfl⟩ hP hS nM_0 sM_0 rfl hl.1 rfl rfl (Nat.le_of_ble_eq_true rfl) dX12_readBookLine_203 (fun H locs hP hS => ?_)
    refine lv_if_eq (pc := 206) (tgt := 220) hx hb dX12_readBookLine_206 (by decide) (fun c59 => ?_) (fun c59 => ?_)
    · replace h := zBr_t c59 h
      refine lv_iconst (pc := 220) hx hb dX12_readBookLine_220 zc_0 ?_
      have hz := Option.some.inj h
      exact zr_rqZ (pc := 221) cx hr hlk hP hS hz (by decide) dX12_readBookLine_221
    · replace h := zBr_f c59 h
      refine lv_aload_n (pc := 209) hx hb dX12_readBookLine_209 rfl (lv_at hl 0 rfl) ?_
      obtain ⟨r62, S61, k60, h⟩ := zBp_e h
      refine zr_VQ (pc := 210) (rest := []) cx cv_X12_212 (mX12_readEnd hq k60) ⟨⟨rfl, rfl⟩, Nat.le_of_ble_eq_true rfl, Nat.le_of_ble_eq_true rfl⟩ ⟨Nat.le_of_ble_eq_true rfl, Nat.le_of_ble_eq_true rfl⟩ hP hS nM_0 sM_0 rfl hl.1 rfl rfl (Nat.le_of_ble_eq_true rfl) dX12_readBookLine_210 (fun H locs hP hS => ?_)
      refine lv_if_eq (pc := 213) (tgt := 220) hx hb dX12_readBookLine_213 (by decide) (fun c63 => ?_) (fun c63 => ?_)
      · replace h := zBr_t c63 h
        refine lv_iconst (pc := 220) hx hb dX12_readBookLine_220 zc_0 ?_
        have hz := Option.some.inj h
        exact zr_rqZ (pc := 221) cx hr hlk hP hS hz (by decide) dX12_readBookLine_221
      · replace h := zBr_f c63 h
        refine lv_iconst (pc := 216) hx hb dX12_readBookLine_216 zc_1 ?_
        refine lv_goto (pc := 217) (tgt := 221) hx hb dX12_readBookLine_217 (by decide) ?_
        have hz := Option.some.inj h
        exact zr_rqZ (pc := 221) cx hr hlk hP hS hz (by decide) dX12_readBookLine_221
def fX12_readBookLine_133 (S : zSt)  (v1 : Int32) (v3 : Int32) (v4 : Int32) (v5 : Int32) (t0 : Int32) (t1 : Int32) : Option (Int32 × zSt) :=
  zGd (zIx t1 160) (zLt (zI S 16 t1.toNatClampNeg t0) (fun S14 => zBr (v4 = 0) (fX12_readBookLine_170 S14 v1 v3 v4 v5 (0 : Int32) (v5 + (1 : Int32))) (zGd (zIx (2 : Int32) 406) (zBd (fX12_findIn S14 7 (11 : Int32) (S14.1 2 (2 : Int32).toNatClampNeg) (S14.2 0 12)) (fun r66 => fX12_readBookLine_170 S14 v1 v3 v4 v5 r66 (v5 + (1 : Int32)))))))
set_option maxHeartbeats 4000000 in
set_option maxRecDepth 100000 in
theorem kX12_readBookLine_133 {p : Program} {l : Launch} {e : Env} {s : State} {m : MethodId} {args : Array Value} {below : List Frame} {meth : Method} {c : Code} {D : va_G} {cy : Nat → ClassId} {q : Nat → Nat} {A : Nat → Prop} (cx : zX RX12 cX12_readBookLine 6 p s m args c D cy) (hr : meth.sig.returnType = (some .boolean)) (hlk : meth.locks = false) (hq : zQ A q zNM) {z : (Int32 × zSt)} {S : zSt} {v1 : Int32} {v3 : Int32} {v4 : Int32} {v5 : Int32} {t0 : Int32} {t1 : Int32} (h : fX12_readBookLine_133 S v1 v3 v4 v5 t0 t1 = some z) {H : Heap} {locs : List Loc} (hP : va_P D vwCl (zW zshM zNM cy q S) H) (hS : va_S A s.heap H locs) {ls : Array Slot} (hl : lv_has ls 6 [(0, .ref (q 0)), (1, .int v1), (3, .int v3), (4, .int v4), (5, .int v5)]) : W p l e rmX12_readBookLine s m args below meth c H locs 0 0 (MQ below (va_Qi (fun (r : Int32) (u : zSt) => (r, u) = z) (fun u t => va_P D vwCl (zW zshM zNM cy q u) t.heap) A) args s 0 0 A) (F0 m 133 ls [.int t0, .int t1, .ref (q 16)]) := by
  have hx := cx.1
  have hb := cx.2.1
  unfold fX12_readBookLine_133 at h
  obtain ⟨g13, h⟩ := zGd_e h
  obtain ⟨S14, eS14, h⟩ := zLt_e h
  refine zr_iast (pc := 133) cx hq hP hS nM_16 sM_16 g13 dX12_readBookLine_133 (fun H locs hP hS => ?_)
  rw [← eS14] at hP
  refine lv_aload_n (pc := 134) hx hb dX12_readBookLine_134 rfl (lv_at hl 0 rfl) ?_
  refine zr_getR (pc := 135) (t := 16) cx lk_X12_148 hP nM_0 sM_0 rfl dX12_readBookLine_135 ?_
  refine lv_iload (pc := 138) hx hb dX12_readBookLine_138 (lv_at hl 4 rfl) ?_
  refine lv_iconst (pc := 140) hx hb dX12_readBookLine_140 zc_1 ?_
  refine lv_iadd (pc := 141) hx hb dX12_readBookLine_141 ?_
  refine lv_iload (pc := 142) hx hb dX12_readBookLine_142 (lv_at hl 3 rfl) ?_
  refine lv_if_eq (pc := 144) (tgt := 169) hx hb dX12_readBookLine_144 (by decide) (fun c15 => ?_) (fun c15 => ?_)
  · replace h := zBr_t c15 h
    refine lv_iconst (pc := 169) hx hb dX12_readBookLine_169 zc_0 ?_
    exact kX12_readBookLine_170 cx hr hlk hq h hP hS (lv_sub hl [0, 1, 2, 3, 4] rfl)
  · replace h := zBr_f c15 h
    refine lv_aload_n (pc := 147) hx hb dX12_readBookLine_147 rfl (lv_at hl 0 rfl) ?_
    refine zr_getR (pc := 148) (t := 7) cx lk_X12_113 hP nM_0 sM_0 rfl dX12_readBookLine_148 ?_
    refine lv_bipush (pc := 151) hx hb dX12_readBookLine_151 zb_11 ?_
    refine lv_aload_n (pc := 153) hx hb dX12_readBookLine_153 rfl (lv_at hl 0 rfl) ?_
    refine zr_getR (pc := 154) (t := 2) cx lk_X12_98 hP nM_0 sM_0 rfl dX12_readBookLine_154 ?_
    refine lv_iconst (pc := 157) hx hb dX12_readBookLine_157 zc_2 ?_
    obtain ⟨g64, h⟩ := zGd_e h
    refine zr_iald (pc := 158) cx hP nM_2 sM_2 g64 dX12_readBookLine_158 ?_
    refine lv_aload_n (pc := 159) hx hb dX12_readBookLine_159 rfl (lv_at hl 0 rfl) ?_
    refine zr_getJ (pc := 160) cx lk_X12_43 hP nM_0 sM_0 rfl dX12_readBookLine_160 ?_
    obtain ⟨r66, k65, h⟩ := zBd_e h
    refine zr_SI (pc := 163) (rest := [.int (v5 + (1 : Int32)), .ref (q 16)]) cx cv_X12_160 (mX12_findIn ⟨sM_7, nM_7⟩ k65) ⟨⟨rfl, rfl⟩, Nat.le_of_ble_eq_true rfl, Nat.le_of_ble_eq_true rfl⟩ ⟨Nat.le_of_ble_eq_true rfl, Nat.le_of_ble_eq_true rfl⟩ (zr_preW cx hP) hl.1 rfl rfl (Nat.le_of_ble_eq_true rfl) dX12_readBookLine_163 ?_
    refine lv_goto (pc := 166) (tgt := 170) hx hb dX12_readBookLine_166 (by decide) ?_
    exact kX12_readBookLine_170 cx hr hlk hq h hP hS (lv_sub hl [0, 1, 2, 3, 4] rfl)
def fX12_readBookLine_87 (S : zSt)  (v1 : Int32) (v2 : Int32) (v3 : Int32) (v4 : Int32) : Option (Int32 × zSt) :=
  zBr ((S.1 0 38) = (40 : Int32)) (zBp (fX12_bad S (4 : Int32)) (fun r69 S68 => zGd (zBo r69) (some (r69, S68)))) (zLt ((4 : Int32) * (S.1 0 38)) (fun x10 => zBr (v1 = 0) (zBr (v2 = 0) (fX12_readBookLine_133 S v1 v3 v4 x10 (3 : Int32) x10) (fX12_readBookLine_133 S v1 v3 v4 x10 (2 : Int32) x10)) (fX12_readBookLine_133 S v1 v3 v4 x10 (1 : Int32) x10)))
set_option maxHeartbeats 4000000 in
set_option maxRecDepth 100000 in
theorem kX12_readBookLine_87 {p : Program} {l : Launch} {e : Env} {s : State} {m : MethodId} {args : Array Value} {below : List Frame} {meth : Method} {c : Code} {D : va_G} {cy : Nat → ClassId} {q : Nat → Nat} {A : Nat → Prop} (cx : zX RX12 cX12_readBookLine 6 p s m args c D cy) (hr : meth.sig.returnType = (some .boolean)) (hlk : meth.locks = false) (hq : zQ A q zNM) {z : (Int32 × zSt)} {S : zSt} {v1 : Int32} {v2 : Int32} {v3 : Int32} {v4 : Int32} (h : fX12_readBookLine_87 S v1 v2 v3 v4 = some z) {H : Heap} {locs : List Loc} (hP : va_P D vwCl (zW zshM zNM cy q S) H) (hS : va_S A s.heap H locs) {ls : Array Slot} (hl : lv_has ls 6 [(0, .ref (q 0)), (1, .int v1), (2, .int v2), (3, .int v3), (4, .int v4)]) : W p l e rmX12_readBookLine s m args below meth c H locs 0 0 (MQ below (va_Qi (fun (r : Int32) (u : zSt) => (r, u) = z) (fun u t => va_P D vwCl (zW zshM zNM cy q u) t.heap) A) args s 0 0 A) (F0 m 87 ls []) := by
  have hx := cx.1
  have hb := cx.2.1
  unfold fX12_readBookLine_87 at h
  refine lv_aload_n (pc := 87) hx hb dX12_readBookLine_87 rfl (lv_at hl 0 rfl) ?_
  refine zr_getI (pc := 88) cx lk_X12_381 hP nM_0 sM_0 rfl dX12_readBookLine_88 ?_
  refine lv_bipush (pc := 91) hx hb dX12_readBookLine_91 zb_40 ?_
  refine lv_icmp_ne (pc := 93) (tgt := 102) hx hb dX12_readBookLine_93 (by decide) (fun c9 => ?_) (fun c9 => ?_)
  · replace h := zBr_f c9 h
    refine lv_iconst (pc := 102) hx hb dX12_readBookLine_102 zc_4 ?_
    refine lv_aload_n (pc := 103) hx hb dX12_readBookLine_103 rfl (lv_at hl 0 rfl) ?_
    refine zr_getI (pc := 104) cx lk_X12_381 hP nM_0 sM_0 rfl dX12_readBookLine_104 ?_
    refine lv_imul (pc := 107) hx hb dX12_readBookLine_107 ?_
    obtain ⟨x10, ex10, h⟩ := zLt_e h
    refine zr_nmI ex10 ?_
    refine lv_istore (lv' := [(5, .int x10), (0, .ref (q 0)), (1, .int v1), (2, .int v2), (3, .int v3), (4, .int v4)]) (pc := 108) hx hb dX12_readBookLine_108 hl (by decide) rfl (fun ls hl => ?_)
    refine lv_aload_n (pc := 110) hx hb dX12_readBookLine_110 rfl (lv_at hl 1 rfl) ?_
    refine zr_getR (pc := 111) (t := 16) cx lk_X12_148 hP nM_0 sM_0 rfl dX12_readBookLine_111 ?_
    refine lv_iload (pc := 114) hx hb dX12_readBookLine_114 (lv_at hl 0 rfl) ?_
    refine lv_iload_n (pc := 116) hx hb dX12_readBookLine_116 rfl (lv_at hl 2 rfl) ?_
    refine lv_if_eq (pc := 117) (tgt := 124) hx hb dX12_readBookLine_117 (by decide) (fun c11 => ?_) (fun c11 => ?_)
    · replace h := zBr_t c11 h
      refine lv_iload_n (pc := 124) hx hb dX12_readBookLine_124 rfl (lv_at hl 3 rfl) ?_
      refine lv_if_eq (pc := 125) (tgt := 132) hx hb dX12_readBookLine_125 (by decide) (fun c12 => ?_) (fun c12 => ?_)
      · replace h := zBr_t c12 h
        refine lv_iconst (pc := 132) hx hb dX12_readBookLine_132 zc_3 ?_
        exact kX12_readBookLine_133 cx hr hlk hq h hP hS (lv_sub hl [1, 2, 4, 5, 0] rfl)
      · replace h := zBr_f c12 h
        refine lv_iconst (pc := 128) hx hb dX12_readBookLine_128 zc_2 ?_
        refine lv_goto (pc := 129) (tgt := 133) hx hb dX12_readBookLine_129 (by decide) ?_
        exact kX12_readBookLine_133 cx hr hlk hq h hP hS (lv_sub hl [1, 2, 4, 5, 0] rfl)
    · replace h := zBr_f c11 h
      refine lv_iconst (pc := 120) hx hb dX12_readBookLine_120 zc_1 ?_
      refine lv_goto (pc := 121) (tgt := 133) hx hb dX12_readBookLine_121 (by decide) ?_
      exact kX12_readBookLine_133 cx hr hlk hq h hP hS (lv_sub hl [1, 2, 4, 5, 0] rfl)
  · replace h := zBr_t c9 h
    refine lv_aload_n (pc := 96) hx hb dX12_readBookLine_96 rfl (lv_at hl 0 rfl) ?_
    refine lv_iconst (pc := 97) hx hb dX12_readBookLine_97 zc_4 ?_
    obtain ⟨r69, S68, k67, h⟩ := zBp_e h
    refine zr_VQ (pc := 98) (rest := []) cx cv_X12_72 (mX12_bad hq k67) ⟨⟨rfl, rfl⟩, Nat.le_of_ble_eq_true rfl, Nat.le_of_ble_eq_true rfl⟩ ⟨Nat.le_of_ble_eq_true rfl, Nat.le_of_ble_eq_true rfl⟩ hP hS nM_0 sM_0 rfl hl.1 rfl rfl (Nat.le_of_ble_eq_true rfl) dX12_readBookLine_98 (fun H locs hP hS => ?_)
    obtain ⟨g70, h⟩ := zGd_e h
    have hz := Option.some.inj h
    exact zr_rqZ (pc := 101) cx hr hlk hP hS hz g70 dX12_readBookLine_101
def fX12_readBookLine_38 (S : zSt)  (v1 : Int32) (v2 : Int32) (v3 : Int32) (t0 : Int32) : Option (Int32 × zSt) :=
  zBr (t0 = 0) (fX12_readBookLine_87 S v1 v2 v3 t0) (zBd (fX12_isName S) (fun r72 => zBr (r72 = 0) (zBp (fX12_bad S (1 : Int32)) (fun r84 S83 => zGd (zBo r84) (some (r84, S83)))) (zGd (zIx (2 : Int32) 406) (zBd (fX12_findIn S 7 (11 : Int32) (S.1 2 (2 : Int32).toNatClampNeg) (S.2 0 12)) (fun r76 => zBr (r76 = (-1 : Int32)) (zBp (fX12_bad S (3 : Int32)) (fun r80 S79 => zGd (zBo r80) (some (r80, S79)))) (fX12_readBookLine_87 S v1 v2 v3 t0))))))
set_option maxHeartbeats 4000000 in
set_option maxRecDepth 100000 in
theorem kX12_readBookLine_38 {p : Program} {l : Launch} {e : Env} {s : State} {m : MethodId} {args : Array Value} {below : List Frame} {meth : Method} {c : Code} {D : va_G} {cy : Nat → ClassId} {q : Nat → Nat} {A : Nat → Prop} (cx : zX RX12 cX12_readBookLine 6 p s m args c D cy) (hr : meth.sig.returnType = (some .boolean)) (hlk : meth.locks = false) (hq : zQ A q zNM) {z : (Int32 × zSt)} {S : zSt} {v1 : Int32} {v2 : Int32} {v3 : Int32} {t0 : Int32} (h : fX12_readBookLine_38 S v1 v2 v3 t0 = some z) {H : Heap} {locs : List Loc} (hP : va_P D vwCl (zW zshM zNM cy q S) H) (hS : va_S A s.heap H locs) {ls : Array Slot} (hl : lv_has ls 6 [(0, .ref (q 0)), (1, .int v1), (2, .int v2), (3, .int v3)]) : W p l e rmX12_readBookLine s m args below meth c H locs 0 0 (MQ below (va_Qi (fun (r : Int32) (u : zSt) => (r, u) = z) (fun u t => va_P D vwCl (zW zshM zNM cy q u) t.heap) A) args s 0 0 A) (F0 m 38 ls [.int t0]) := by
  have hx := cx.1
  have hb := cx.2.1
  unfold fX12_readBookLine_38 at h
  refine lv_istore (lv' := [(4, .int t0), (0, .ref (q 0)), (1, .int v1), (2, .int v2), (3, .int v3)]) (pc := 38) hx hb dX12_readBookLine_38 hl (by decide) rfl (fun ls hl => ?_)
  refine lv_iload (pc := 40) hx hb dX12_readBookLine_40 (lv_at hl 0 rfl) ?_
  refine lv_if_eq (pc := 42) (tgt := 87) hx hb dX12_readBookLine_42 (by decide) (fun c8 => ?_) (fun c8 => ?_)
  · replace h := zBr_t c8 h
    exact kX12_readBookLine_87 cx hr hlk hq h hP hS (lv_sub hl [1, 2, 3, 4, 0] rfl)
  · replace h := zBr_f c8 h
    refine lv_aload_n (pc := 45) hx hb dX12_readBookLine_45 rfl (lv_at hl 1 rfl) ?_
    obtain ⟨r72, k71, h⟩ := zBd_e h
    refine zr_VI (pc := 46) (rest := []) cx cv_X12_164 (mX12_isName k71) ⟨⟨rfl, rfl⟩, Nat.le_of_ble_eq_true rfl, Nat.le_of_ble_eq_true rfl⟩ ⟨Nat.le_of_ble_eq_true rfl, Nat.le_of_ble_eq_true rfl⟩ hP nM_0 sM_0 rfl hl.1 rfl rfl (Nat.le_of_ble_eq_true rfl) dX12_readBookLine_46 ?_
    refine lv_if_ne (pc := 49) (tgt := 58) hx hb dX12_readBookLine_49 (by decide) (fun c73 => ?_) (fun c73 => ?_)
    · replace h := zBr_f c73 h
      refine lv_aload_n (pc := 58) hx hb dX12_readBookLine_58 rfl (lv_at hl 1 rfl) ?_
      refine zr_getR (pc := 59) (t := 7) cx lk_X12_113 hP nM_0 sM_0 rfl dX12_readBookLine_59 ?_
      refine lv_bipush (pc := 62) hx hb dX12_readBookLine_62 zb_11 ?_
      refine lv_aload_n (pc := 64) hx hb dX12_readBookLine_64 rfl (lv_at hl 1 rfl) ?_
      refine zr_getR (pc := 65) (t := 2) cx lk_X12_98 hP nM_0 sM_0 rfl dX12_readBookLine_65 ?_
      refine lv_iconst (pc := 68) hx hb dX12_readBookLine_68 zc_2 ?_
      obtain ⟨g74, h⟩ := zGd_e h
      refine zr_iald (pc := 69) cx hP nM_2 sM_2 g74 dX12_readBookLine_69 ?_
      refine lv_aload_n (pc := 70) hx hb dX12_readBookLine_70 rfl (lv_at hl 1 rfl) ?_
      refine zr_getJ (pc := 71) cx lk_X12_43 hP nM_0 sM_0 rfl dX12_readBookLine_71 ?_
      obtain ⟨r76, k75, h⟩ := zBd_e h
      refine zr_SI (pc := 74) (rest := []) cx cv_X12_160 (mX12_findIn ⟨sM_7, nM_7⟩ k75) ⟨⟨rfl, rfl⟩, Nat.le_of_ble_eq_true rfl, Nat.le_of_ble_eq_true rfl⟩ ⟨Nat.le_of_ble_eq_true rfl, Nat.le_of_ble_eq_true rfl⟩ (zr_preW cx hP) hl.1 rfl rfl (Nat.le_of_ble_eq_true rfl) dX12_readBookLine_74 ?_
      refine lv_iconst (pc := 77) hx hb dX12_readBookLine_77 zc_m1 ?_
      refine lv_icmp_ne (pc := 78) (tgt := 87) hx hb dX12_readBookLine_78 (by decide) (fun c77 => ?_) (fun c77 => ?_)
      · replace h := zBr_f c77 h
        exact kX12_readBookLine_87 cx hr hlk hq h hP hS (lv_sub hl [1, 2, 3, 4, 0] rfl)
      · replace h := zBr_t c77 h
        refine lv_aload_n (pc := 81) hx hb dX12_readBookLine_81 rfl (lv_at hl 1 rfl) ?_
        refine lv_iconst (pc := 82) hx hb dX12_readBookLine_82 zc_3 ?_
        obtain ⟨r80, S79, k78, h⟩ := zBp_e h
        refine zr_VQ (pc := 83) (rest := []) cx cv_X12_72 (mX12_bad hq k78) ⟨⟨rfl, rfl⟩, Nat.le_of_ble_eq_true rfl, Nat.le_of_ble_eq_true rfl⟩ ⟨Nat.le_of_ble_eq_true rfl, Nat.le_of_ble_eq_true rfl⟩ hP hS nM_0 sM_0 rfl hl.1 rfl rfl (Nat.le_of_ble_eq_true rfl) dX12_readBookLine_83 (fun H locs hP hS => ?_)
        obtain ⟨g81, h⟩ := zGd_e h
        have hz := Option.some.inj h
        exact zr_rqZ (pc := 86) cx hr hlk hP hS hz g81 dX12_readBookLine_86
    · replace h := zBr_t c73 h
      refine lv_aload_n (pc := 52) hx hb dX12_readBookLine_52 rfl (lv_at hl 1 rfl) ?_
      refine lv_iconst (pc := 53) hx hb dX12_readBookLine_53 zc_1 ?_
      obtain ⟨r84, S83, k82, h⟩ := zBp_e h
      refine zr_VQ (pc := 54) (rest := []) cx cv_X12_72 (mX12_bad hq k82) ⟨⟨rfl, rfl⟩, Nat.le_of_ble_eq_true rfl, Nat.le_of_ble_eq_true rfl⟩ ⟨Nat.le_of_ble_eq_true rfl, Nat.le_of_ble_eq_true rfl⟩ hP hS nM_0 sM_0 rfl hl.1 rfl rfl (Nat.le_of_ble_eq_true rfl) dX12_readBookLine_54 (fun H locs hP hS => ?_)
      obtain ⟨g85, h⟩ := zGd_e h
      have hz := Option.some.inj h
      exact zr_rqZ (pc := 57) cx hr hlk hP hS hz g85 dX12_readBookLine_57
def fX12_readBookLine_37 (S : zSt)  (v1 : Int32) (v2 : Int32) (v3 : Int32) : Option (Int32 × zSt) :=
  fX12_readBookLine_38 S v1 v2 v3 (0 : Int32)
set_option maxHeartbeats 4000000 in
set_option maxRecDepth 100000 in
theorem kX12_readBookLine_37 {p : Program} {l : Launch} {e : Env} {s : State} {m : MethodId} {args : Array Value} {below : List Frame} {meth : Method} {c : Code} {D : va_G} {cy : Nat → ClassId} {q : Nat → Nat} {A : Nat → Prop} (cx : zX RX12 cX12_readBookLine 6 p s m args c D cy) (hr : meth.sig.returnType = (some .boolean)) (hlk : meth.locks = false) (hq : zQ A q zNM) {z : (Int32 × zSt)} {S : zSt} {v1 : Int32} {v2 : Int32} {v3 : Int32} (h : fX12_readBookLine_37 S v1 v2 v3 = some z) {H : Heap} {locs : List Loc} (hP : va_P D vwCl (zW zshM zNM cy q S) H) (hS : va_S A s.heap H locs) {ls : Array Slot} (hl : lv_has ls 6 [(0, .ref (q 0)), (1, .int v1), (2, .int v2), (3, .int v3)]) : W p l e rmX12_readBookLine s m args below meth c H locs 0 0 (MQ below (va_Qi (fun (r : Int32) (u : zSt) => (r, u) = z) (fun u t => va_P D vwCl (zW zshM zNM cy q u) t.heap) A) args s 0 0 A) (F0 m 37 ls []) := by
  have hx := cx.1
  have hb := cx.2.1
  unfold fX12_readBookLine_37 at h
  refine lv_iconst (pc := 37) hx hb dX12_readBookLine_37 zc_0 ?_
  exact kX12_readBookLine_38 cx hr hlk hq h hP hS (lv_sub hl [0, 1, 2, 3] rfl)
def fX12_readBookLine (S : zSt) : Option (Int32 × zSt) :=
  zBd (fX12_isWord S (8 : Int32)) (fun r2 => zBd (fX12_isWord S (9 : Int32)) (fun r4 => zBd (fX12_isWord S (10 : Int32)) (fun r6 => zBr (r2 = 0) (zBr (r4 = 0) (zBr (r6 = 0) (fX12_readBookLine_38 S r2 r4 r6 (1 : Int32)) (fX12_readBookLine_37 S r2 r4 r6)) (fX12_readBookLine_37 S r2 r4 r6)) (fX12_readBookLine_37 S r2 r4 r6))))
set_option maxHeartbeats 4000000 in
set_option maxRecDepth 100000 in
theorem mX12_readBookLine {l : Launch} {D : va_G} {cy : Nat → ClassId} {q : Nat → Nat} {A : Nat → Prop} {S : zSt} (hq : zQ A q zNM) {z : (Int32 × zSt)} (h : fX12_readBookLine S = some z) : zMq l yX12_readBookLine cX12_readBookLine 6 (some .boolean) rmX12_readBookLine [.ref (q 0)] zshM zNM D cy q A S z := by
  refine Met.ofW (cc := cX12_readBookLine) (maxL := 6) (ret := (some .boolean)) (by decide) rfl ?_
  intro p e s m args below meth c s₁ B hml hv
  obtain ⟨rfl, hP, hK⟩ := hv
  have cx : zX RX12 cX12_readBookLine 6 p s m ([.ref (q 0)]).toArray c D cy := ⟨B.exec, B.bytes, hml, findClass_of_methodNamed B.named, fun w hw => atoms_spec (ws := Cond.code yX12_readBookLine cX12_readBookLine 6 (some .boolean) :: zTB) B.pre w (List.mem_cons_of_mem _ hw), hK⟩
  have hx := cx.1
  have hb := cx.2.1
  have hr := B.returns
  have hlk := B.notSynchronized
  have hS : va_S A s.heap s.heap [] := va_S.rf
  have hl := lv_entry ([.ref (q 0)]) (n := 6) (Nat.le_of_ble_eq_true rfl)
  rw [lg_entry_eq]
  generalize (lg_sl ([.ref (q 0)]) ++ List.replicate (6 - (lg_sl ([.ref (q 0)])).length) Slot.unset).toArray = ls at hl ⊢
  have hl : lv_has ls 6 [(0, .ref (q 0))] := hl
  unfold fX12_readBookLine at h
  refine lv_aload_n (pc := 0) hx hb dX12_readBookLine_0 rfl (lv_at hl 0 rfl) ?_
  refine lv_bipush (pc := 1) hx hb dX12_readBookLine_1 zb_8 ?_
  obtain ⟨r2, k1, h⟩ := zBd_e h
  refine zr_VI (pc := 3) (rest := []) cx cv_X12_191 (mX12_isWord k1) ⟨⟨rfl, rfl⟩, Nat.le_of_ble_eq_true rfl, Nat.le_of_ble_eq_true rfl⟩ ⟨Nat.le_of_ble_eq_true rfl, Nat.le_of_ble_eq_true rfl⟩ hP nM_0 sM_0 rfl hl.1 rfl rfl (Nat.le_of_ble_eq_true rfl) dX12_readBookLine_3 ?_
  refine lv_istore_n (lv' := [(1, .int r2), (0, .ref (q 0))]) (pc := 6) hx hb dX12_readBookLine_6 rfl hl (by decide) rfl (fun ls hl => ?_)
  refine lv_aload_n (pc := 7) hx hb dX12_readBookLine_7 rfl (lv_at hl 1 rfl) ?_
  refine lv_bipush (pc := 8) hx hb dX12_readBookLine_8 zb_9 ?_
  obtain ⟨r4, k3, h⟩ := zBd_e h
  refine zr_VI (pc := 10) (rest := []) cx cv_X12_191 (mX12_isWord k3) ⟨⟨rfl, rfl⟩, Nat.le_of_ble_eq_true rfl, Nat.le_of_ble_eq_true rfl⟩ ⟨Nat.le_of_ble_eq_true rfl, Nat.le_of_ble_eq_true rfl⟩ hP nM_0 sM_0 rfl hl.1 rfl rfl (Nat.le_of_ble_eq_true rfl) dX12_readBookLine_10 ?_
  refine lv_istore_n (lv' := [(2, .int r4), (1, .int r2), (0, .ref (q 0))]) (pc := 13) hx hb dX12_readBookLine_13 rfl hl (by decide) rfl (fun ls hl => ?_)
  refine lv_aload_n (pc := 14) hx hb dX12_readBookLine_14 rfl (lv_at hl 2 rfl) ?_
  refine lv_bipush (pc := 15) hx hb dX12_readBookLine_15 zb_10 ?_
  obtain ⟨r6, k5, h⟩ := zBd_e h
  refine zr_VI (pc := 17) (rest := []) cx cv_X12_191 (mX12_isWord k5) ⟨⟨rfl, rfl⟩, Nat.le_of_ble_eq_true rfl, Nat.le_of_ble_eq_true rfl⟩ ⟨Nat.le_of_ble_eq_true rfl, Nat.le_of_ble_eq_true rfl⟩ hP nM_0 sM_0 rfl hl.1 rfl rfl (Nat.le_of_ble_eq_true rfl) dX12_readBookLine_17 ?_
  refine lv_istore_n (lv' := [(3, .int r6), (2, .int r4), (1, .int r2), (0, .ref (q 0))]) (pc := 20) hx hb dX12_readBookLine_20 rfl hl (by decide) rfl (fun ls hl => ?_)
  refine lv_iload_n (pc := 21) hx hb dX12_readBookLine_21 rfl (lv_at hl 2 rfl) ?_
  refine lv_if_ne (pc := 22) (tgt := 37) hx hb dX12_readBookLine_22 (by decide) (fun c7 => ?_) (fun c7 => ?_)
  · replace h := zBr_f c7 h
    exact kX12_readBookLine_37 cx hr hlk hq h hP hS (lv_sub hl [3, 2, 1, 0] rfl)
  · replace h := zBr_t c7 h
    refine lv_iload_n (pc := 25) hx hb dX12_readBookLine_25 rfl (lv_at hl 1 rfl) ?_
    refine lv_if_ne (pc := 26) (tgt := 37) hx hb dX12_readBookLine_26 (by decide) (fun c86 => ?_) (fun c86 => ?_)
    · replace h := zBr_f c86 h
      exact kX12_readBookLine_37 cx hr hlk hq h hP hS (lv_sub hl [3, 2, 1, 0] rfl)
    · replace h := zBr_t c86 h
      refine lv_iload_n (pc := 29) hx hb dX12_readBookLine_29 rfl (lv_at hl 0 rfl) ?_
      refine lv_if_ne (pc := 30) (tgt := 37) hx hb dX12_readBookLine_30 (by decide) (fun c87 => ?_) (fun c87 => ?_)
      · replace h := zBr_f c87 h
        exact kX12_readBookLine_37 cx hr hlk hq h hP hS (lv_sub hl [3, 2, 1, 0] rfl)
      · replace h := zBr_t c87 h
        refine lv_iconst (pc := 33) hx hb dX12_readBookLine_33 zc_1 ?_
        refine lv_goto (pc := 34) (tgt := 38) hx hb dX12_readBookLine_34 (by decide) ?_
        exact kX12_readBookLine_38 cx hr hlk hq h hP hS (lv_sub hl [3, 2, 1, 0] rfl)
-- X12_snap
abbrev rmX12_snap : Room := { frames := 0, cells := 0, slots := 0, locals := 0 }
def fX12_snap_52  (t : (zSt × Int32)) : Option ((zSt × Int32) ⊕ zSt) :=
  match t with
  | (S, v1) => zBr ((140 : Int32) ≤ v1) (zXr (zLt (zI S 0 24 ((S.1 0 24) + (1 : Int32))) (fun S4 => some S4))) (zGd (zIx ((24 : Int32) + v1) 406) (zGd (zIx (((140 : Int32) * (S.1 0 24)) + v1) 1120) (zLt (zI S 5 (((140 : Int32) * (S.1 0 24)) + v1).toNatClampNeg (S.1 2 ((24 : Int32) + v1).toNatClampNeg)) (fun S7 => zLt (v1 + (1 : Int32)) (fun x8 => some (.inl (S7, x8)))))))
set_option maxHeartbeats 4000000 in
set_option maxRecDepth 100000 in
theorem kX12_snap_52B {p : Program} {l : Launch} {e : Env} {s : State} {m : MethodId} {args : Array Value} {below : List Frame} {meth : Method} {c : Code} {D : va_G} {cy : Nat → ClassId} {q : Nat → Nat} {A : Nat → Prop} (cx : zX RX12 cX12_snap 2 p s m args c D cy) (hr : meth.sig.returnType = none) (hlk : meth.locks = false) (hq : zQ A q zNM) {z : zSt} {S : zSt} {v1 : Int32} {C1 : ((zSt × Int32) ⊕ zSt) → Prop} (hb1 : ∀ (S : zSt) (v1 : Int32), C1 (.inl (S, v1)) → ∀ (H : Heap) (locs : List Loc), va_P D vwCl (zW zshM zNM cy q S) H → va_S A s.heap H locs → ∀ (ls : Array Slot), lv_has ls 2 [(0, .ref (q 0)), (1, .int v1)] → W p l e rmX12_snap s m args below meth c H locs 0 0 (MQ below (va_Qv (fun (u : zSt) => u = z) (fun u t => va_P D vwCl (zW zshM zNM cy q u) t.heap) A) args s 0 0 A) (F0 m 52 ls [])) (hx1 : ∀ a, C1 (.inr a) → a = z) {x : ((zSt × Int32) ⊕ zSt)} (h : fX12_snap_52 (S, v1) = some x) (hc : C1 x) {H : Heap} {locs : List Loc} (hP : va_P D vwCl (zW zshM zNM cy q S) H) (hS : va_S A s.heap H locs) {ls : Array Slot} (hl : lv_has ls 2 [(0, .ref (q 0)), (1, .int v1)]) : W p l e rmX12_snap s m args below meth c H locs 0 0 (MQ below (va_Qv (fun (u : zSt) => u = z) (fun u t => va_P D vwCl (zW zshM zNM cy q u) t.heap) A) args s 0 0 A) (F0 m 52 ls []) := by
  have hx := cx.1
  have hb := cx.2.1
  unfold fX12_snap_52 at h
  dsimp only at h
  refine lv_iload_n (pc := 52) hx hb dX12_snap_52 rfl (lv_at hl 1 rfl) ?_
  refine lv_sipush (pc := 53) hx hb dX12_snap_53 zs_140 ?_
  refine lv_icmp_ge (pc := 56) (tgt := 89) hx hb dX12_snap_56 (by decide) (fun c2 => ?_) (fun c2 => ?_)
  · replace h := zBr_t c2 h
    obtain ⟨y3, h, ex⟩ := zXr_e h
    have hc := hx1 y3 (by rw [ex] at hc; exact hc)
    rw [hc] at h
    refine lv_aload_n (pc := 89) hx hb dX12_snap_89 rfl (lv_at hl 0 rfl) ?_
    refine lv_dup (pc := 90) hx hb dX12_snap_90 rfl ?_
    refine zr_getI (pc := 91) cx lk_X12_215 hP nM_0 sM_0 rfl dX12_snap_91 ?_
    refine lv_iconst (pc := 94) hx hb dX12_snap_94 zc_1 ?_
    refine lv_iadd (pc := 95) hx hb dX12_snap_95 ?_
    obtain ⟨S4, eS4, h⟩ := zLt_e h
    refine zr_putI (pc := 96) cx lq_X12_215 hq hP hS nM_0 sM_0 rfl rfl rfl dX12_snap_96 (fun H locs hP hS => ?_)
    rw [← eS4] at hP
    have hz := Option.some.inj h
    exact zr_rqV (pc := 99) cx hr hlk hP hS hz dX12_snap_99
  · replace h := zBr_f c2 h
    refine lv_aload_n (pc := 59) hx hb dX12_snap_59 rfl (lv_at hl 0 rfl) ?_
    refine zr_getR (pc := 60) (t := 5) cx lk_X12_107 hP nM_0 sM_0 rfl dX12_snap_60 ?_
    refine lv_sipush (pc := 63) hx hb dX12_snap_63 zs_140 ?_
    refine lv_aload_n (pc := 66) hx hb dX12_snap_66 rfl (lv_at hl 0 rfl) ?_
    refine zr_getI (pc := 67) cx lk_X12_215 hP nM_0 sM_0 rfl dX12_snap_67 ?_
    refine lv_imul (pc := 70) hx hb dX12_snap_70 ?_
    refine lv_iload_n (pc := 71) hx hb dX12_snap_71 rfl (lv_at hl 1 rfl) ?_
    refine lv_iadd (pc := 72) hx hb dX12_snap_72 ?_
    refine lv_aload_n (pc := 73) hx hb dX12_snap_73 rfl (lv_at hl 0 rfl) ?_
    refine zr_getR (pc := 74) (t := 2) cx lk_X12_98 hP nM_0 sM_0 rfl dX12_snap_74 ?_
    refine lv_bipush (pc := 77) hx hb dX12_snap_77 zb_24 ?_
    refine lv_iload_n (pc := 79) hx hb dX12_snap_79 rfl (lv_at hl 1 rfl) ?_
    refine lv_iadd (pc := 80) hx hb dX12_snap_80 ?_
    obtain ⟨g5, h⟩ := zGd_e h
    refine zr_iald (pc := 81) cx hP nM_2 sM_2 g5 dX12_snap_81 ?_
    obtain ⟨g6, h⟩ := zGd_e h
    obtain ⟨S7, eS7, h⟩ := zLt_e h
    refine zr_iast (pc := 82) cx hq hP hS nM_5 sM_5 g6 dX12_snap_82 (fun H locs hP hS => ?_)
    rw [← eS7] at hP
    obtain ⟨x8, ex8, h⟩ := zLt_e h
    refine lv_iinc (v := x8) (lv' := [(1, .int x8), (0, .ref (q 0))]) (pc := 83) hx hb dX12_snap_83 hl (k := 1) rfl (by rw [zc_1]; exact ex8.symm) (by decide) rfl (fun ls hl => ?_)
    refine lv_goto (pc := 86) (tgt := 52) hx hb dX12_snap_86 (by decide) ?_
    cases h
    exact hb1 _ _ hc _ _ hP hS _ (lv_sub hl [1, 0] rfl)
set_option maxHeartbeats 4000000 in
set_option maxRecDepth 100000 in
theorem kX12_snap_52 {p : Program} {l : Launch} {e : Env} {s : State} {m : MethodId} {args : Array Value} {below : List Frame} {meth : Method} {c : Code} {D : va_G} {cy : Nat → ClassId} {q : Nat → Nat} {A : Nat → Prop} (cx : zX RX12 cX12_snap 2 p s m args c D cy) (hr : meth.sig.returnType = none) (hlk : meth.locks = false) (hq : zQ A q zNM) {z : zSt} : ∀ (n : Nat) (S : zSt) (v1 : Int32), zLp (fX12_snap_52) n (S, v1) = some z → ∀ (H : Heap) (locs : List Loc), va_P D vwCl (zW zshM zNM cy q S) H → va_S A s.heap H locs → ∀ (ls : Array Slot), lv_has ls 2 [(0, .ref (q 0)), (1, .int v1)] → W p l e rmX12_snap s m args below meth c H locs 0 0 (MQ below (va_Qv (fun (u : zSt) => u = z) (fun u t => va_P D vwCl (zW zshM zNM cy q u) t.heap) A) args s 0 0 A) (F0 m 52 ls []) := by
  intro n
  induction n with
  | zero =>
    intro S v1 h
    cases h
  | succ n ih =>
    intro S v1 h H locs hP hS ls hl
    obtain ⟨x, h, hk⟩ := zLp_e h
    exact kX12_snap_52B cx hr hlk hq  (C1 := zKt (fun t => zLp (fX12_snap_52) n t = some z) (fun a => a = z)) (fun S v1 ht H locs hP hS ls hl => ih S v1 ht H locs hP hS ls hl) (fun a ha => ha) h hk hP hS hl
def fX12_snap_50 (S : zSt)  : Option zSt :=
  zLp (fX12_snap_52) 2000 (S, (0 : Int32))
set_option maxHeartbeats 4000000 in
set_option maxRecDepth 100000 in
theorem kX12_snap_50 {p : Program} {l : Launch} {e : Env} {s : State} {m : MethodId} {args : Array Value} {below : List Frame} {meth : Method} {c : Code} {D : va_G} {cy : Nat → ClassId} {q : Nat → Nat} {A : Nat → Prop} (cx : zX RX12 cX12_snap 2 p s m args c D cy) (hr : meth.sig.returnType = none) (hlk : meth.locks = false) (hq : zQ A q zNM) {z : zSt} {S : zSt} (h : fX12_snap_50 S = some z) {H : Heap} {locs : List Loc} (hP : va_P D vwCl (zW zshM zNM cy q S) H) (hS : va_S A s.heap H locs) {ls : Array Slot} (hl : lv_has ls 2 [(0, .ref (q 0))]) : W p l e rmX12_snap s m args below meth c H locs 0 0 (MQ below (va_Qv (fun (u : zSt) => u = z) (fun u t => va_P D vwCl (zW zshM zNM cy q u) t.heap) A) args s 0 0 A) (F0 m 50 ls []) := by
  have hx := cx.1
  have hb := cx.2.1
  unfold fX12_snap_50 at h
  refine lv_iconst (pc := 50) hx hb dX12_snap_50 zc_0 ?_
  refine lv_istore_n (lv' := [(1, .int (0 : Int32)), (0, .ref (q 0))]) (pc := 51) hx hb dX12_snap_51 rfl hl (by decide) rfl (fun ls hl => ?_)
  exact kX12_snap_52 cx hr hlk hq 2000 _ _ h _ _ hP hS _ (lv_sub hl [1, 0] rfl)
def fX12_snap_11  (t : (zSt × Int32)) : Option ((zSt × Int32) ⊕ zSt) :=
  match t with
  | (S, v1) => zBr ((980 : Int32) ≤ v1) (zXr (zLt (zI S 0 24 ((S.1 0 24) - (1 : Int32))) (fun S11 => fX12_snap_50 S11))) (zGd (zIx (v1 + (140 : Int32)) 1120) (zGd (zIx v1 1120) (zLt (zI S 5 v1.toNatClampNeg (S.1 5 (v1 + (140 : Int32)).toNatClampNeg)) (fun S14 => zLt (v1 + (1 : Int32)) (fun x15 => some (.inl (S14, x15)))))))
set_option maxHeartbeats 4000000 in
set_option maxRecDepth 100000 in
theorem kX12_snap_11B {p : Program} {l : Launch} {e : Env} {s : State} {m : MethodId} {args : Array Value} {below : List Frame} {meth : Method} {c : Code} {D : va_G} {cy : Nat → ClassId} {q : Nat → Nat} {A : Nat → Prop} (cx : zX RX12 cX12_snap 2 p s m args c D cy) (hr : meth.sig.returnType = none) (hlk : meth.locks = false) (hq : zQ A q zNM) {z : zSt} {S : zSt} {v1 : Int32} {C1 : ((zSt × Int32) ⊕ zSt) → Prop} (hb1 : ∀ (S : zSt) (v1 : Int32), C1 (.inl (S, v1)) → ∀ (H : Heap) (locs : List Loc), va_P D vwCl (zW zshM zNM cy q S) H → va_S A s.heap H locs → ∀ (ls : Array Slot), lv_has ls 2 [(0, .ref (q 0)), (1, .int v1)] → W p l e rmX12_snap s m args below meth c H locs 0 0 (MQ below (va_Qv (fun (u : zSt) => u = z) (fun u t => va_P D vwCl (zW zshM zNM cy q u) t.heap) A) args s 0 0 A) (F0 m 11 ls [])) (hx1 : ∀ a, C1 (.inr a) → a = z) {x : ((zSt × Int32) ⊕ zSt)} (h : fX12_snap_11 (S, v1) = some x) (hc : C1 x) {H : Heap} {locs : List Loc} (hP : va_P D vwCl (zW zshM zNM cy q S) H) (hS : va_S A s.heap H locs) {ls : Array Slot} (hl : lv_has ls 2 [(0, .ref (q 0)), (1, .int v1)]) : W p l e rmX12_snap s m args below meth c H locs 0 0 (MQ below (va_Qv (fun (u : zSt) => u = z) (fun u t => va_P D vwCl (zW zshM zNM cy q u) t.heap) A) args s 0 0 A) (F0 m 11 ls []) := by
  have hx := cx.1
  have hb := cx.2.1
  unfold fX12_snap_11 at h
  dsimp only at h
  refine lv_iload_n (pc := 11) hx hb dX12_snap_11 rfl (lv_at hl 1 rfl) ?_
  refine lv_sipush (pc := 12) hx hb dX12_snap_12 zs_980 ?_
  refine lv_icmp_ge (pc := 15) (tgt := 40) hx hb dX12_snap_15 (by decide) (fun c9 => ?_) (fun c9 => ?_)
  · replace h := zBr_t c9 h
    obtain ⟨y10, h, ex⟩ := zXr_e h
    have hc := hx1 y10 (by rw [ex] at hc; exact hc)
    rw [hc] at h
    refine lv_aload_n (pc := 40) hx hb dX12_snap_40 rfl (lv_at hl 0 rfl) ?_
    refine lv_dup (pc := 41) hx hb dX12_snap_41 rfl ?_
    refine zr_getI (pc := 42) cx lk_X12_215 hP nM_0 sM_0 rfl dX12_snap_42 ?_
    refine lv_iconst (pc := 45) hx hb dX12_snap_45 zc_1 ?_
    refine lv_isub (pc := 46) hx hb dX12_snap_46 ?_
    obtain ⟨S11, eS11, h⟩ := zLt_e h
    refine zr_putI (pc := 47) cx lq_X12_215 hq hP hS nM_0 sM_0 rfl rfl rfl dX12_snap_47 (fun H locs hP hS => ?_)
    rw [← eS11] at hP
    exact kX12_snap_50 cx hr hlk hq h hP hS (lv_sub hl [0] rfl)
  · replace h := zBr_f c9 h
    refine lv_aload_n (pc := 18) hx hb dX12_snap_18 rfl (lv_at hl 0 rfl) ?_
    refine zr_getR (pc := 19) (t := 5) cx lk_X12_107 hP nM_0 sM_0 rfl dX12_snap_19 ?_
    refine lv_iload_n (pc := 22) hx hb dX12_snap_22 rfl (lv_at hl 1 rfl) ?_
    refine lv_aload_n (pc := 23) hx hb dX12_snap_23 rfl (lv_at hl 0 rfl) ?_
    refine zr_getR (pc := 24) (t := 5) cx lk_X12_107 hP nM_0 sM_0 rfl dX12_snap_24 ?_
    refine lv_iload_n (pc := 27) hx hb dX12_snap_27 rfl (lv_at hl 1 rfl) ?_
    refine lv_sipush (pc := 28) hx hb dX12_snap_28 zs_140 ?_
    refine lv_iadd (pc := 31) hx hb dX12_snap_31 ?_
    obtain ⟨g12, h⟩ := zGd_e h
    refine zr_iald (pc := 32) cx hP nM_5 sM_5 g12 dX12_snap_32 ?_
    obtain ⟨g13, h⟩ := zGd_e h
    obtain ⟨S14, eS14, h⟩ := zLt_e h
    refine zr_iast (pc := 33) cx hq hP hS nM_5 sM_5 g13 dX12_snap_33 (fun H locs hP hS => ?_)
    rw [← eS14] at hP
    obtain ⟨x15, ex15, h⟩ := zLt_e h
    refine lv_iinc (v := x15) (lv' := [(1, .int x15), (0, .ref (q 0))]) (pc := 34) hx hb dX12_snap_34 hl (k := 1) rfl (by rw [zc_1]; exact ex15.symm) (by decide) rfl (fun ls hl => ?_)
    refine lv_goto (pc := 37) (tgt := 11) hx hb dX12_snap_37 (by decide) ?_
    cases h
    exact hb1 _ _ hc _ _ hP hS _ (lv_sub hl [1, 0] rfl)
set_option maxHeartbeats 4000000 in
set_option maxRecDepth 100000 in
theorem kX12_snap_11 {p : Program} {l : Launch} {e : Env} {s : State} {m : MethodId} {args : Array Value} {below : List Frame} {meth : Method} {c : Code} {D : va_G} {cy : Nat → ClassId} {q : Nat → Nat} {A : Nat → Prop} (cx : zX RX12 cX12_snap 2 p s m args c D cy) (hr : meth.sig.returnType = none) (hlk : meth.locks = false) (hq : zQ A q zNM) {z : zSt} : ∀ (n : Nat) (S : zSt) (v1 : Int32), zLp (fX12_snap_11) n (S, v1) = some z → ∀ (H : Heap) (locs : List Loc), va_P D vwCl (zW zshM zNM cy q S) H → va_S A s.heap H locs → ∀ (ls : Array Slot), lv_has ls 2 [(0, .ref (q 0)), (1, .int v1)] → W p l e rmX12_snap s m args below meth c H locs 0 0 (MQ below (va_Qv (fun (u : zSt) => u = z) (fun u t => va_P D vwCl (zW zshM zNM cy q u) t.heap) A) args s 0 0 A) (F0 m 11 ls []) := by
  intro n
  induction n with
  | zero =>
    intro S v1 h
    cases h
  | succ n ih =>
    intro S v1 h H locs hP hS ls hl
    obtain ⟨x, h, hk⟩ := zLp_e h
    exact kX12_snap_11B cx hr hlk hq  (C1 := zKt (fun t => zLp (fX12_snap_11) n t = some z) (fun a => a = z)) (fun S v1 ht H locs hP hS ls hl => ih S v1 ht H locs hP hS ls hl) (fun a ha => ha) h hk hP hS hl
def fX12_snap (S : zSt) : Option zSt :=
  zBr ((S.1 0 24) = (8 : Int32)) (zLp (fX12_snap_11) 2000 (S, (0 : Int32))) (fX12_snap_50 S)
set_option maxHeartbeats 4000000 in
set_option maxRecDepth 100000 in
theorem mX12_snap {l : Launch} {D : va_G} {cy : Nat → ClassId} {q : Nat → Nat} {A : Nat → Prop} {S : zSt} (hq : zQ A q zNM) {z : zSt} (h : fX12_snap S = some z) : zMv l yX12_snap cX12_snap 2 none rmX12_snap [.ref (q 0)] zshM zNM D cy q A S z := by
  refine Met.ofW (cc := cX12_snap) (maxL := 2) (ret := none) (by decide) rfl ?_
  intro p e s m args below meth c s₁ B hml hv
  obtain ⟨rfl, hP, hK⟩ := hv
  have cx : zX RX12 cX12_snap 2 p s m ([.ref (q 0)]).toArray c D cy := ⟨B.exec, B.bytes, hml, findClass_of_methodNamed B.named, fun w hw => atoms_spec (ws := Cond.code yX12_snap cX12_snap 2 none :: zTB) B.pre w (List.mem_cons_of_mem _ hw), hK⟩
  have hx := cx.1
  have hb := cx.2.1
  have hr := B.returns
  have hlk := B.notSynchronized
  have hS : va_S A s.heap s.heap [] := va_S.rf
  have hl := lv_entry ([.ref (q 0)]) (n := 2) (Nat.le_of_ble_eq_true rfl)
  rw [lg_entry_eq]
  generalize (lg_sl ([.ref (q 0)]) ++ List.replicate (2 - (lg_sl ([.ref (q 0)])).length) Slot.unset).toArray = ls at hl ⊢
  have hl : lv_has ls 2 [(0, .ref (q 0))] := hl
  unfold fX12_snap at h
  refine lv_aload_n (pc := 0) hx hb dX12_snap_0 rfl (lv_at hl 0 rfl) ?_
  refine zr_getI (pc := 1) cx lk_X12_215 hP nM_0 sM_0 rfl dX12_snap_1 ?_
  refine lv_bipush (pc := 4) hx hb dX12_snap_4 zb_8 ?_
  refine lv_icmp_ne (pc := 6) (tgt := 50) hx hb dX12_snap_6 (by decide) (fun c1 => ?_) (fun c1 => ?_)
  · replace h := zBr_f c1 h
    exact kX12_snap_50 cx hr hlk hq h hP hS (lv_sub hl [0] rfl)
  · replace h := zBr_t c1 h
    refine lv_iconst (pc := 9) hx hb dX12_snap_9 zc_0 ?_
    refine lv_istore_n (lv' := [(1, .int (0 : Int32)), (0, .ref (q 0))]) (pc := 10) hx hb dX12_snap_10 rfl hl (by decide) rfl (fun ls hl => ?_)
    exact kX12_snap_11 cx hr hlk hq 2000 _ _ h _ _ hP hS _ (lv_sub hl [1, 0] rfl)
-- X12_takeBack
abbrev rmX12_takeBack : Room := { frames := 0, cells := 0, slots := 0, locals := 0 }
def fX12_takeBack_2  (t : (zSt × Int32)) : Option ((zSt × Int32) ⊕ zSt) :=
  match t with
  | (S, v1) => zBr ((140 : Int32) ≤ v1) (zXr (some S)) (zGd (zIx v1 140) (zGd (zIx ((24 : Int32) + v1) 406) (zLt (zI S 2 ((24 : Int32) + v1).toNatClampNeg (S.1 6 v1.toNatClampNeg)) (fun S5 => zLt (v1 + (1 : Int32)) (fun x6 => some (.inl (S5, x6)))))))
set_option maxHeartbeats 4000000 in
set_option maxRecDepth 100000 in
theorem kX12_takeBack_2B {p : Program} {l : Launch} {e : Env} {s : State} {m : MethodId} {args : Array Value} {below : List Frame} {meth : Method} {c : Code} {D : va_G} {cy : Nat → ClassId} {q : Nat → Nat} {A : Nat → Prop} (cx : zX RX12 cX12_takeBack 2 p s m args c D cy) (hr : meth.sig.returnType = none) (hlk : meth.locks = false) (hq : zQ A q zNM) {z : zSt} {S : zSt} {v1 : Int32} {C1 : ((zSt × Int32) ⊕ zSt) → Prop} (hb1 : ∀ (S : zSt) (v1 : Int32), C1 (.inl (S, v1)) → ∀ (H : Heap) (locs : List Loc), va_P D vwCl (zW zshM zNM cy q S) H → va_S A s.heap H locs → ∀ (ls : Array Slot), lv_has ls 2 [(0, .ref (q 0)), (1, .int v1)] → W p l e rmX12_takeBack s m args below meth c H locs 0 0 (MQ below (va_Qv (fun (u : zSt) => u = z) (fun u t => va_P D vwCl (zW zshM zNM cy q u) t.heap) A) args s 0 0 A) (F0 m 2 ls [])) (hx1 : ∀ a, C1 (.inr a) → a = z) {x : ((zSt × Int32) ⊕ zSt)} (h : fX12_takeBack_2 (S, v1) = some x) (hc : C1 x) {H : Heap} {locs : List Loc} (hP : va_P D vwCl (zW zshM zNM cy q S) H) (hS : va_S A s.heap H locs) {ls : Array Slot} (hl : lv_has ls 2 [(0, .ref (q 0)), (1, .int v1)]) : W p l e rmX12_takeBack s m args below meth c H locs 0 0 (MQ below (va_Qv (fun (u : zSt) => u = z) (fun u t => va_P D vwCl (zW zshM zNM cy q u) t.heap) A) args s 0 0 A) (F0 m 2 ls []) := by
  have hx := cx.1
  have hb := cx.2.1
  unfold fX12_takeBack_2 at h
  dsimp only at h
  refine lv_iload_n (pc := 2) hx hb dX12_takeBack_2 rfl (lv_at hl 1 rfl) ?_
  refine lv_sipush (pc := 3) hx hb dX12_takeBack_3 zs_140 ?_
  refine lv_icmp_ge (pc := 6) (tgt := 30) hx hb dX12_takeBack_6 (by decide) (fun c1 => ?_) (fun c1 => ?_)
  · replace h := zBr_t c1 h
    obtain ⟨y2, h, ex⟩ := zXr_e h
    have hc := hx1 y2 (by rw [ex] at hc; exact hc)
    rw [hc] at h
    have hz := Option.some.inj h
    exact zr_rqV (pc := 30) cx hr hlk hP hS hz dX12_takeBack_30
  · replace h := zBr_f c1 h
    refine lv_aload_n (pc := 9) hx hb dX12_takeBack_9 rfl (lv_at hl 0 rfl) ?_
    refine zr_getR (pc := 10) (t := 2) cx lk_X12_98 hP nM_0 sM_0 rfl dX12_takeBack_10 ?_
    refine lv_bipush (pc := 13) hx hb dX12_takeBack_13 zb_24 ?_
    refine lv_iload_n (pc := 15) hx hb dX12_takeBack_15 rfl (lv_at hl 1 rfl) ?_
    refine lv_iadd (pc := 16) hx hb dX12_takeBack_16 ?_
    refine lv_aload_n (pc := 17) hx hb dX12_takeBack_17 rfl (lv_at hl 0 rfl) ?_
    refine zr_getR (pc := 18) (t := 6) cx lk_X12_110 hP nM_0 sM_0 rfl dX12_takeBack_18 ?_
    refine lv_iload_n (pc := 21) hx hb dX12_takeBack_21 rfl (lv_at hl 1 rfl) ?_
    obtain ⟨g3, h⟩ := zGd_e h
    refine zr_iald (pc := 22) cx hP nM_6 sM_6 g3 dX12_takeBack_22 ?_
    obtain ⟨g4, h⟩ := zGd_e h
    obtain ⟨S5, eS5, h⟩ := zLt_e h
    refine zr_iast (pc := 23) cx hq hP hS nM_2 sM_2 g4 dX12_takeBack_23 (fun H locs hP hS => ?_)
    rw [← eS5] at hP
    obtain ⟨x6, ex6, h⟩ := zLt_e h
    refine lv_iinc (v := x6) (lv' := [(1, .int x6), (0, .ref (q 0))]) (pc := 24) hx hb dX12_takeBack_24 hl (k := 1) rfl (by rw [zc_1]; exact ex6.symm) (by decide) rfl (fun ls hl => ?_)
    refine lv_goto (pc := 27) (tgt := 2) hx hb dX12_takeBack_27 (by decide) ?_
    cases h
    exact hb1 _ _ hc _ _ hP hS _ (lv_sub hl [1, 0] rfl)
set_option maxHeartbeats 4000000 in
set_option maxRecDepth 100000 in
theorem kX12_takeBack_2 {p : Program} {l : Launch} {e : Env} {s : State} {m : MethodId} {args : Array Value} {below : List Frame} {meth : Method} {c : Code} {D : va_G} {cy : Nat → ClassId} {q : Nat → Nat} {A : Nat → Prop} (cx : zX RX12 cX12_takeBack 2 p s m args c D cy) (hr : meth.sig.returnType = none) (hlk : meth.locks = false) (hq : zQ A q zNM) {z : zSt} : ∀ (n : Nat) (S : zSt) (v1 : Int32), zLp (fX12_takeBack_2) n (S, v1) = some z → ∀ (H : Heap) (locs : List Loc), va_P D vwCl (zW zshM zNM cy q S) H → va_S A s.heap H locs → ∀ (ls : Array Slot), lv_has ls 2 [(0, .ref (q 0)), (1, .int v1)] → W p l e rmX12_takeBack s m args below meth c H locs 0 0 (MQ below (va_Qv (fun (u : zSt) => u = z) (fun u t => va_P D vwCl (zW zshM zNM cy q u) t.heap) A) args s 0 0 A) (F0 m 2 ls []) := by
  intro n
  induction n with
  | zero =>
    intro S v1 h
    cases h
  | succ n ih =>
    intro S v1 h H locs hP hS ls hl
    obtain ⟨x, h, hk⟩ := zLp_e h
    exact kX12_takeBack_2B cx hr hlk hq  (C1 := zKt (fun t => zLp (fX12_takeBack_2) n t = some z) (fun a => a = z)) (fun S v1 ht H locs hP hS ls hl => ih S v1 ht H locs hP hS ls hl) (fun a ha => ha) h hk hP hS hl
def fX12_takeBack (S : zSt) : Option zSt :=
  zLp (fX12_takeBack_2) 2000 (S, (0 : Int32))
set_option maxHeartbeats 4000000 in
set_option maxRecDepth 100000 in
theorem mX12_takeBack {l : Launch} {D : va_G} {cy : Nat → ClassId} {q : Nat → Nat} {A : Nat → Prop} {S : zSt} (hq : zQ A q zNM) {z : zSt} (h : fX12_takeBack S = some z) : zMv l yX12_takeBack cX12_takeBack 2 none rmX12_takeBack [.ref (q 0)] zshM zNM D cy q A S z := by
  refine Met.ofW (cc := cX12_takeBack) (maxL := 2) (ret := none) (by decide) rfl ?_
  intro p e s m args below meth c s₁ B hml hv
  obtain ⟨rfl, hP, hK⟩ := hv
  have cx : zX RX12 cX12_takeBack 2 p s m ([.ref (q 0)]).toArray c D cy := ⟨B.exec, B.bytes, hml, findClass_of_methodNamed B.named, fun w hw => atoms_spec (ws := Cond.code yX12_takeBack cX12_takeBack 2 none :: zTB) B.pre w (List.mem_cons_of_mem _ hw), hK⟩
  have hx := cx.1
  have hb := cx.2.1
  have hr := B.returns
  have hlk := B.notSynchronized
  have hS : va_S A s.heap s.heap [] := va_S.rf
  have hl := lv_entry ([.ref (q 0)]) (n := 2) (Nat.le_of_ble_eq_true rfl)
  rw [lg_entry_eq]
  generalize (lg_sl ([.ref (q 0)]) ++ List.replicate (2 - (lg_sl ([.ref (q 0)])).length) Slot.unset).toArray = ls at hl ⊢
  have hl : lv_has ls 2 [(0, .ref (q 0))] := hl
  unfold fX12_takeBack at h
  refine lv_iconst (pc := 0) hx hb dX12_takeBack_0 zc_0 ?_
  refine lv_istore_n (lv' := [(1, .int (0 : Int32)), (0, .ref (q 0))]) (pc := 1) hx hb dX12_takeBack_1 rfl hl (by decide) rfl (fun ls hl => ?_)
  exact kX12_takeBack_2 cx hr hlk hq 2000 _ _ h _ _ hP hS _ (lv_sub hl [1, 0] rfl)
-- X12_stay
abbrev rmX12_stay : Room := { frames := 1, cells := 0, slots := 0, locals := 21 }
def fX12_stay_2  (v1 : Int32) (t : (zSt × Int32)) : Option ((zSt × Int32) ⊕ zSt) :=
  match t with
  | (S, v2) => zBr ((140 : Int32) ≤ v2) (zXr (zBr (v1 = 0) (some S) (zBd (fX12_snap S) (fun S5 => zBd (fX12_takeBack S5) (fun S7 => some S7))))) (zGd (zIx ((24 : Int32) + v2) 406) (zLt (S.1 2 ((24 : Int32) + v2).toNatClampNeg) (fun x9 => zGd (zIx v2 140) (zGd (zIx ((24 : Int32) + v2) 406) (zLt (zI S 2 ((24 : Int32) + v2).toNatClampNeg (S.1 6 v2.toNatClampNeg)) (fun S12 => zGd (zIx v2 140) (zLt (zI S12 6 v2.toNatClampNeg x9) (fun S14 => zLt (v2 + (1 : Int32)) (fun x15 => some (.inl (S14, x15)))))))))))
set_option maxHeartbeats 4000000 in
set_option maxRecDepth 100000 in
theorem kX12_stay_2B {p : Program} {l : Launch} {e : Env} {s : State} {m : MethodId} {args : Array Value} {below : List Frame} {meth : Method} {c : Code} {D : va_G} {cy : Nat → ClassId} {q : Nat → Nat} {A : Nat → Prop} (cx : zX RX12 cX12_stay 4 p s m args c D cy) (hr : meth.sig.returnType = none) (hlk : meth.locks = false) (hq : zQ A q zNM) {z : zSt} {S : zSt} {v1 : Int32} {v2 : Int32} {C1 : ((zSt × Int32) ⊕ zSt) → Prop} (hb1 : ∀ (S : zSt) (v2 : Int32), C1 (.inl (S, v2)) → ∀ (H : Heap) (locs : List Loc), va_P D vwCl (zW zshM zNM cy q S) H → va_S A s.heap H locs → ∀ (ls : Array Slot), lv_has ls 4 [(0, .ref (q 0)), (1, .int v1), (2, .int v2)] → W p l e rmX12_stay s m args below meth c H locs 0 0 (MQ below (va_Qv (fun (u : zSt) => u = z) (fun u t => va_P D vwCl (zW zshM zNM cy q u) t.heap) A) args s 0 0 A) (F0 m 2 ls [])) (hx1 : ∀ a, C1 (.inr a) → a = z) {x : ((zSt × Int32) ⊕ zSt)} (h : fX12_stay_2 v1 (S, v2) = some x) (hc : C1 x) {H : Heap} {locs : List Loc} (hP : va_P D vwCl (zW zshM zNM cy q S) H) (hS : va_S A s.heap H locs) {ls : Array Slot} (hl : lv_has ls 4 [(0, .ref (q 0)), (1, .int v1), (2, .int v2)]) : W p l e rmX12_stay s m args below meth c H locs 0 0 (MQ below (va_Qv (fun (u : zSt) => u = z) (fun u t => va_P D vwCl (zW zshM zNM cy q u) t.heap) A) args s 0 0 A) (F0 m 2 ls []) := by
  have hx := cx.1
  have hb := cx.2.1
  unfold fX12_stay_2 at h
  dsimp only at h
  refine lv_iload_n (pc := 2) hx hb dX12_stay_2 rfl (lv_at hl 2 rfl) ?_
  refine lv_sipush (pc := 3) hx hb dX12_stay_3 zs_140 ?_
  refine lv_icmp_ge (pc := 6) (tgt := 47) hx hb dX12_stay_6 (by decide) (fun c1 => ?_) (fun c1 => ?_)
  · replace h := zBr_t c1 h
    obtain ⟨y2, h, ex⟩ := zXr_e h
    have hc := hx1 y2 (by rw [ex] at hc; exact hc)
    rw [hc] at h
    refine lv_iload_n (pc := 47) hx hb dX12_stay_47 rfl (lv_at hl 1 rfl) ?_
    refine lv_if_ne (pc := 48) (tgt := 52) hx hb dX12_stay_48 (by decide) (fun c3 => ?_) (fun c3 => ?_)
    · replace h := zBr_f c3 h
      refine lv_aload_n (pc := 52) hx hb dX12_stay_52 rfl (lv_at hl 0 rfl) ?_
      obtain ⟨S5, k4, h⟩ := zBd_e h
      refine zr_VV (pc := 53) (rest := []) cx cv_X12_279 (mX12_snap hq k4) ⟨⟨rfl, rfl⟩, Nat.le_of_ble_eq_true rfl, Nat.le_of_ble_eq_true rfl⟩ ⟨Nat.le_of_ble_eq_true rfl, Nat.le_of_ble_eq_true rfl⟩ hP hS nM_0 sM_0 rfl hl.1 rfl rfl (Nat.le_of_ble_eq_true rfl) dX12_stay_53 (fun H locs hP hS => ?_)
      refine lv_aload_n (pc := 56) hx hb dX12_stay_56 rfl (lv_at hl 0 rfl) ?_
      obtain ⟨S7, k6, h⟩ := zBd_e h
      refine zr_VV (pc := 57) (rest := []) cx cv_X12_369 (mX12_takeBack hq k6) ⟨⟨rfl, rfl⟩, Nat.le_of_ble_eq_true rfl, Nat.le_of_ble_eq_true rfl⟩ ⟨Nat.le_of_ble_eq_true rfl, Nat.le_of_ble_eq_true rfl⟩ hP hS nM_0 sM_0 rfl hl.1 rfl rfl (Nat.le_of_ble_eq_true rfl) dX12_stay_57 (fun H locs hP hS => ?_)
      have hz := Option.some.inj h
      exact zr_rqV (pc := 60) cx hr hlk hP hS hz dX12_stay_60
    · replace h := zBr_t c3 h
      have hz := Option.some.inj h
      exact zr_rqV (pc := 51) cx hr hlk hP hS hz dX12_stay_51
  · replace h := zBr_f c1 h
    refine lv_aload_n (pc := 9) hx hb dX12_stay_9 rfl (lv_at hl 0 rfl) ?_
    refine zr_getR (pc := 10) (t := 2) cx lk_X12_98 hP nM_0 sM_0 rfl dX12_stay_10 ?_
    refine lv_bipush (pc := 13) hx hb dX12_stay_13 zb_24 ?_
    refine lv_iload_n (pc := 15) hx hb dX12_stay_15 rfl (lv_at hl 2 rfl) ?_
    refine lv_iadd (pc := 16) hx hb dX12_stay_16 ?_
    obtain ⟨g8, h⟩ := zGd_e h
    refine zr_iald (pc := 17) cx hP nM_2 sM_2 g8 dX12_stay_17 ?_
    obtain ⟨x9, ex9, h⟩ := zLt_e h
    refine zr_nmI ex9 ?_
    refine lv_istore_n (lv' := [(3, .int x9), (0, .ref (q 0)), (1, .int v1), (2, .int v2)]) (pc := 18) hx hb dX12_stay_18 rfl hl (by decide) rfl (fun ls hl => ?_)
    refine lv_aload_n (pc := 19) hx hb dX12_stay_19 rfl (lv_at hl 1 rfl) ?_
    refine zr_getR (pc := 20) (t := 2) cx lk_X12_98 hP nM_0 sM_0 rfl dX12_stay_20 ?_
    refine lv_bipush (pc := 23) hx hb dX12_stay_23 zb_24 ?_
    refine lv_iload_n (pc := 25) hx hb dX12_stay_25 rfl (lv_at hl 3 rfl) ?_
    refine lv_iadd (pc := 26) hx hb dX12_stay_26 ?_
    refine lv_aload_n (pc := 27) hx hb dX12_stay_27 rfl (lv_at hl 1 rfl) ?_
    refine zr_getR (pc := 28) (t := 6) cx lk_X12_110 hP nM_0 sM_0 rfl dX12_stay_28 ?_
    refine lv_iload_n (pc := 31) hx hb dX12_stay_31 rfl (lv_at hl 3 rfl) ?_
    obtain ⟨g10, h⟩ := zGd_e h
    refine zr_iald (pc := 32) cx hP nM_6 sM_6 g10 dX12_stay_32 ?_
    obtain ⟨g11, h⟩ := zGd_e h
    obtain ⟨S12, eS12, h⟩ := zLt_e h
    refine zr_iast (pc := 33) cx hq hP hS nM_2 sM_2 g11 dX12_stay_33 (fun H locs hP hS => ?_)
    rw [← eS12] at hP
    refine lv_aload_n (pc := 34) hx hb dX12_stay_34 rfl (lv_at hl 1 rfl) ?_
    refine zr_getR (pc := 35) (t := 6) cx lk_X12_110 hP nM_0 sM_0 rfl dX12_stay_35 ?_
    refine lv_iload_n (pc := 38) hx hb dX12_stay_38 rfl (lv_at hl 3 rfl) ?_
    refine lv_iload_n (pc := 39) hx hb dX12_stay_39 rfl (lv_at hl 0 rfl) ?_
    obtain ⟨g13, h⟩ := zGd_e h
    obtain ⟨S14, eS14, h⟩ := zLt_e h
    refine zr_iast (pc := 40) cx hq hP hS nM_6 sM_6 g13 dX12_stay_40 (fun H locs hP hS => ?_)
    rw [← eS14] at hP
    obtain ⟨x15, ex15, h⟩ := zLt_e h
    refine lv_iinc (v := x15) (lv' := [(2, .int x15), (3, .int x9), (0, .ref (q 0)), (1, .int v1)]) (pc := 41) hx hb dX12_stay_41 hl (k := 3) rfl (by rw [zc_1]; exact ex15.symm) (by decide) rfl (fun ls hl => ?_)
    refine lv_goto (pc := 44) (tgt := 2) hx hb dX12_stay_44 (by decide) ?_
    cases h
    exact hb1 _ _ hc _ _ hP hS _ (lv_sub hl [2, 3, 0] rfl)
set_option maxHeartbeats 4000000 in
set_option maxRecDepth 100000 in
theorem kX12_stay_2 {p : Program} {l : Launch} {e : Env} {s : State} {m : MethodId} {args : Array Value} {below : List Frame} {meth : Method} {c : Code} {D : va_G} {cy : Nat → ClassId} {q : Nat → Nat} {A : Nat → Prop} (cx : zX RX12 cX12_stay 4 p s m args c D cy) (hr : meth.sig.returnType = none) (hlk : meth.locks = false) (hq : zQ A q zNM) {z : zSt} {v1 : Int32} : ∀ (n : Nat) (S : zSt) (v2 : Int32), zLp (fX12_stay_2 v1) n (S, v2) = some z → ∀ (H : Heap) (locs : List Loc), va_P D vwCl (zW zshM zNM cy q S) H → va_S A s.heap H locs → ∀ (ls : Array Slot), lv_has ls 4 [(0, .ref (q 0)), (1, .int v1), (2, .int v2)] → W p l e rmX12_stay s m args below meth c H locs 0 0 (MQ below (va_Qv (fun (u : zSt) => u = z) (fun u t => va_P D vwCl (zW zshM zNM cy q u) t.heap) A) args s 0 0 A) (F0 m 2 ls []) := by
  intro n
  induction n with
  | zero =>
    intro S v2 h
    cases h
  | succ n ih =>
    intro S v2 h H locs hP hS ls hl
    obtain ⟨x, h, hk⟩ := zLp_e h
    exact kX12_stay_2B cx hr hlk hq  (C1 := zKt (fun t => zLp (fX12_stay_2 v1) n t = some z) (fun a => a = z)) (fun S v2 ht H locs hP hS ls hl => ih S v2 ht H locs hP hS ls hl) (fun a ha => ha) h hk hP hS hl
def fX12_stay (S : zSt) (v1 : Int32) : Option zSt :=
  zLp (fX12_stay_2 v1) 2000 (S, (0 : Int32))
set_option maxHeartbeats 4000000 in
set_option maxRecDepth 100000 in
theorem mX12_stay {l : Launch} {D : va_G} {cy : Nat → ClassId} {q : Nat → Nat} {A : Nat → Prop} {S : zSt} {v1 : Int32} (hq : zQ A q zNM) {z : zSt} (h : fX12_stay S v1 = some z) : zMv l yX12_stay cX12_stay 4 none rmX12_stay [.ref (q 0), .int v1] zshM zNM D cy q A S z := by
  refine Met.ofW (cc := cX12_stay) (maxL := 4) (ret := none) (by decide) rfl ?_
  intro p e s m args below meth c s₁ B hml hv
  obtain ⟨rfl, hP, hK⟩ := hv
  have cx : zX RX12 cX12_stay 4 p s m ([.ref (q 0), .int v1]).toArray c D cy := ⟨B.exec, B.bytes, hml, findClass_of_methodNamed B.named, fun w hw => atoms_spec (ws := Cond.code yX12_stay cX12_stay 4 none :: zTB) B.pre w (List.mem_cons_of_mem _ hw), hK⟩
  have hx := cx.1
  have hb := cx.2.1
  have hr := B.returns
  have hlk := B.notSynchronized
  have hS : va_S A s.heap s.heap [] := va_S.rf
  have hl := lv_entry ([.ref (q 0), .int v1]) (n := 4) (Nat.le_of_ble_eq_true rfl)
  rw [lg_entry_eq]
  generalize (lg_sl ([.ref (q 0), .int v1]) ++ List.replicate (4 - (lg_sl ([.ref (q 0), .int v1])).length) Slot.unset).toArray = ls at hl ⊢
  have hl : lv_has ls 4 [(0, .ref (q 0)), (1, .int v1)] := hl
  unfold fX12_stay at h
  refine lv_iconst (pc := 0) hx hb dX12_stay_0 zc_0 ?_
  refine lv_istore_n (lv' := [(2, .int (0 : Int32)), (0, .ref (q 0)), (1, .int v1)]) (pc := 1) hx hb dX12_stay_1 rfl hl (by decide) rfl (fun ls hl => ?_)
  exact kX12_stay_2 cx hr hlk hq 2000 _ _ h _ _ hP hS _ (lv_sub hl [1, 2, 0] rfl)
-- X12_book
abbrev rmX12_book : Room := { frames := 7, cells := 0, slots := 0, locals := 157 }
def fX12_book_160 (S : zSt)  (v2 : Int32) (v3 : Int32) (t0 : Int32) : Option (Int32 × zSt) :=
  zBd (fX12_stay S t0) (fun S29 => zBr (v3 = 0) (some ((-1 : Int32), S29)) (some (v2, S29)))
set_option maxHeartbeats 4000000 in
set_option maxRecDepth 100000 in
theorem kX12_book_160 {p : Program} {l : Launch} {e : Env} {s : State} {m : MethodId} {args : Array Value} {below : List Frame} {meth : Method} {c : Code} {D : va_G} {cy : Nat → ClassId} {q : Nat → Nat} {A : Nat → Prop} (cx : zX RX12 cX12_book 4 p s m args c D cy) (hr : meth.sig.returnType = (some .int)) (hlk : meth.locks = false) (hq : zQ A q zNM) {z : (Int32 × zSt)} {S : zSt} {v2 : Int32} {v3 : Int32} {t0 : Int32} (h : fX12_book_160 S v2 v3 t0 = some z) {H : Heap} {locs : List Loc} (hP : va_P D vwCl (zW zshM zNM cy q S) H) (hS : va_S A s.heap H locs) {ls : Array Slot} (hl : lv_has ls 4 [(2, .int v2), (3, .int v3)]) : W p l e rmX12_book s m args below meth c H locs 0 0 (MQ below (va_Qi (fun (r : Int32) (u : zSt) => (r, u) = z) (fun u t => va_P D vwCl (zW zshM zNM cy q u) t.heap) A) args s 0 0 A) (F0 m 160 ls [.int t0, .ref (q 0)]) := by
  have hx := cx.1
  have hb := cx.2.1
  unfold fX12_book_160 at h
  obtain ⟨S29, k28, h⟩ := zBd_e h
  refine zr_VV (pc := 160) (rest := []) cx cv_X12_399 (mX12_stay hq k28) ⟨⟨rfl, rfl⟩, Nat.le_of_ble_eq_true rfl, Nat.le_of_ble_eq_true rfl⟩ ⟨Nat.le_of_ble_eq_true rfl, Nat.le_of_ble_eq_true rfl⟩ hP hS nM_0 sM_0 rfl hl.1 rfl rfl (Nat.le_of_ble_eq_true rfl) dX12_book_160 (fun H locs hP hS => ?_)
  refine lv_iload_n (pc := 163) hx hb dX12_book_163 rfl (lv_at hl 1 rfl) ?_
  refine lv_if_ne (pc := 164) (tgt := 171) hx hb dX12_book_164 (by decide) (fun c30 => ?_) (fun c30 => ?_)
  · replace h := zBr_f c30 h
    refine lv_iload_n (pc := 171) hx hb dX12_book_171 rfl (lv_at hl 0 rfl) ?_
    have hz := Option.some.inj h
    exact zr_rqI (pc := 172) cx hr hlk hP hS hz dX12_book_172
  · replace h := zBr_t c30 h
    refine lv_iconst (pc := 167) hx hb dX12_book_167 zc_m1 ?_
    refine lv_goto (pc := 168) (tgt := 172) hx hb dX12_book_168 (by decide) ?_
    have hz := Option.some.inj h
    exact zr_rqI (pc := 172) cx hr hlk hP hS hz dX12_book_172
def fX12_book_159 (S : zSt)  (v2 : Int32) (v3 : Int32) : Option (Int32 × zSt) :=
  fX12_book_160 S v2 v3 (0 : Int32)
set_option maxHeartbeats 4000000 in
set_option maxRecDepth 100000 in
theorem kX12_book_159 {p : Program} {l : Launch} {e : Env} {s : State} {m : MethodId} {args : Array Value} {below : List Frame} {meth : Method} {c : Code} {D : va_G} {cy : Nat → ClassId} {q : Nat → Nat} {A : Nat → Prop} (cx : zX RX12 cX12_book 4 p s m args c D cy) (hr : meth.sig.returnType = (some .int)) (hlk : meth.locks = false) (hq : zQ A q zNM) {z : (Int32 × zSt)} {S : zSt} {v2 : Int32} {v3 : Int32} (h : fX12_book_159 S v2 v3 = some z) {H : Heap} {locs : List Loc} (hP : va_P D vwCl (zW zshM zNM cy q S) H) (hS : va_S A s.heap H locs) {ls : Array Slot} (hl : lv_has ls 4 [(2, .int v2), (3, .int v3)]) : W p l e rmX12_book s m args below meth c H locs 0 0 (MQ below (va_Qi (fun (r : Int32) (u : zSt) => (r, u) = z) (fun u t => va_P D vwCl (zW zshM zNM cy q u) t.heap) A) args s 0 0 A) (F0 m 159 ls [.ref (q 0)]) := by
  have hx := cx.1
  have hb := cx.2.1
  unfold fX12_book_159 at h
  refine lv_iconst (pc := 159) hx hb dX12_book_159 zc_0 ?_
  exact kX12_book_160 cx hr hlk hq h hP hS (lv_sub hl [0, 1] rfl)
def fX12_book_103 (S : zSt)  (v1 : Int32) (v2 : Int32) (v3 : Int32) : Option (Int32 × zSt) :=
  zGd (zIx (0 : Int32) 4) (zLt (zI S 17 (0 : Int32).toNatClampNeg v3) (fun S15 => zGd (zIx (1 : Int32) 4) (zLt (zI S15 17 (1 : Int32).toNatClampNeg v2) (fun S17 => zGd (zIx (24 : Int32) 406) (zGd (zIx (2 : Int32) 4) (zLt (zI S17 17 (2 : Int32).toNatClampNeg (S17.1 2 (24 : Int32).toNatClampNeg)) (fun S20 => zBd (fX12_proved S20) (fun r22 => zGd (zIx (3 : Int32) 4) (zLt (zI S20 17 (3 : Int32).toNatClampNeg r22) (fun S24 => zGd (zBo (1 : Int32)) (zLt (zI S24 0 39 (1 : Int32)) (fun S25 => zBr (v1 = (1 : Int32)) (zBr (v2 ≤ 0) (fX12_book_159 S25 v2 v3) (fX12_book_160 S25 v2 v3 (1 : Int32))) (fX12_book_159 S25 v2 v3)))))))))))))
set_option maxHeartbeats 4000000 in
set_option maxRecDepth 100000 in
theorem kX12_book_103 {p : Program} {l : Launch} {e : Env} {s : State} {m : MethodId} {args : Array Value} {below : List Frame} {meth : Method} {c : Code} {D : va_G} {cy : Nat → ClassId} {q : Nat → Nat} {A : Nat → Prop} (cx : zX RX12 cX12_book 4 p s m args c D cy) (hr : meth.sig.returnType = (some .int)) (hlk : meth.locks = false) (hq : zQ A q zNM) {z : (Int32 × zSt)} {S : zSt} {v1 : Int32} {v2 : Int32} {v3 : Int32} (h : fX12_book_103 S v1 v2 v3 = some z) {H : Heap} {locs : List Loc} (hP : va_P D vwCl (zW zshM zNM cy q S) H) (hS : va_S A s.heap H locs) {ls : Array Slot} (hl : lv_has ls 4 [(0, .ref (q 0)), (1, .int v1), (2, .int v2), (3, .int v3)]) : W p l e rmX12_book s m args below meth c H locs 0 0 (MQ below (va_Qi (fun (r : Int32) (u : zSt) => (r, u) = z) (fun u t => va_P D vwCl (zW zshM zNM cy q u) t.heap) A) args s 0 0 A) (F0 m 103 ls []) := by
  have hx := cx.1
  have hb := cx.2.1
  unfold fX12_book_103 at h
  refine lv_aload_n (pc := 103) hx hb dX12_book_103 rfl (lv_at hl 0 rfl) ?_
  refine zr_getR (pc := 104) (t := 17) cx lk_X12_151 hP nM_0 sM_0 rfl dX12_book_104 ?_
  refine lv_iconst (pc := 107) hx hb dX12_book_107 zc_0 ?_
  refine lv_iload_n (pc := 108) hx hb dX12_book_108 rfl (lv_at hl 3 rfl) ?_
  obtain ⟨g14, h⟩ := zGd_e h
  obtain ⟨S15, eS15, h⟩ := zLt_e h
  refine zr_iast (pc := 109) cx hq hP hS nM_17 sM_17 g14 dX12_book_109 (fun H locs hP hS => ?_)
  rw [← eS15] at hP
  refine lv_aload_n (pc := 110) hx hb dX12_book_110 rfl (lv_at hl 0 rfl) ?_
  refine zr_getR (pc := 111) (t := 17) cx lk_X12_151 hP nM_0 sM_0 rfl dX12_book_111 ?_
  refine lv_iconst (pc := 114) hx hb dX12_book_114 zc_1 ?_
  refine lv_iload_n (pc := 115) hx hb dX12_book_115 rfl (lv_at hl 2 rfl) ?_
  obtain ⟨g16, h⟩ := zGd_e h
  obtain ⟨S17, eS17, h⟩ := zLt_e h
  refine zr_iast (pc := 116) cx hq hP hS nM_17 sM_17 g16 dX12_book_116 (fun H locs hP hS => ?_)
  rw [← eS17] at hP
  refine lv_aload_n (pc := 117) hx hb dX12_book_117 rfl (lv_at hl 0 rfl) ?_
  refine zr_getR (pc := 118) (t := 17) cx lk_X12_151 hP nM_0 sM_0 rfl dX12_book_118 ?_
  refine lv_iconst (pc := 121) hx hb dX12_book_121 zc_2 ?_
  refine lv_aload_n (pc := 122) hx hb dX12_book_122 rfl (lv_at hl 0 rfl) ?_
  refine zr_getR (pc := 123) (t := 2) cx lk_X12_98 hP nM_0 sM_0 rfl dX12_book_123 ?_
  refine lv_bipush (pc := 126) hx hb dX12_book_126 zb_24 ?_
  obtain ⟨g18, h⟩ := zGd_e h
  refine zr_iald (pc := 128) cx hP nM_2 sM_2 g18 dX12_book_128 ?_
  obtain ⟨g19, h⟩ := zGd_e h
  obtain ⟨S20, eS20, h⟩ := zLt_e h
  refine zr_iast (pc := 129) cx hq hP hS nM_17 sM_17 g19 dX12_book_129 (fun H locs hP hS => ?_)
  rw [← eS20] at hP
  refine lv_aload_n (pc := 130) hx hb dX12_book_130 rfl (lv_at hl 0 rfl) ?_
  refine zr_getR (pc := 131) (t := 17) cx lk_X12_151 hP nM_0 sM_0 rfl dX12_book_131 ?_
  refine lv_iconst (pc := 134) hx hb dX12_book_134 zc_3 ?_
  refine lv_aload_n (pc := 135) hx hb dX12_book_135 rfl (lv_at hl 0 rfl) ?_
  obtain ⟨r22, k21, h⟩ := zBd_e h
  refine zr_VI (pc := 136) (rest := [.int (3 : Int32), .ref (q 17)]) cx cv_X12_262 (mX12_proved k21) ⟨⟨rfl, rfl⟩, Nat.le_of_ble_eq_true rfl, Nat.le_of_ble_eq_true rfl⟩ ⟨Nat.le_of_ble_eq_true rfl, Nat.le_of_ble_eq_true rfl⟩ hP nM_0 sM_0 rfl hl.1 rfl rfl (Nat.le_of_ble_eq_true rfl) dX12_book_136 ?_
  obtain ⟨g23, h⟩ := zGd_e h
  obtain ⟨S24, eS24, h⟩ := zLt_e h
  refine zr_iast (pc := 139) cx hq hP hS nM_17 sM_17 g23 dX12_book_139 (fun H locs hP hS => ?_)
  rw [← eS24] at hP
  refine lv_aload_n (pc := 140) hx hb dX12_book_140 rfl (lv_at hl 0 rfl) ?_
  refine lv_iconst (pc := 141) hx hb dX12_book_141 zc_1 ?_
  obtain ⟨g26, h⟩ := zGd_e h
  obtain ⟨S25, eS25, h⟩ := zLt_e h
  refine zr_putI (pc := 142) cx lq_X12_396 hq hP hS nM_0 sM_0 rfl (zBo_n g26) (zBo_f g26) dX12_book_142 (fun H locs hP hS => ?_)
  rw [← eS25] at hP
  refine lv_aload_n (pc := 145) hx hb dX12_book_145 rfl (lv_at hl 0 rfl) ?_
  refine lv_iload_n (pc := 146) hx hb dX12_book_146 rfl (lv_at hl 1 rfl) ?_
  refine lv_iconst (pc := 147) hx hb dX12_book_147 zc_1 ?_
  refine lv_icmp_ne (pc := 148) (tgt := 159) hx hb dX12_book_148 (by decide) (fun c27 => ?_) (fun c27 => ?_)
  · replace h := zBr_f c27 h
    exact kX12_book_159 cx hr hlk hq h hP hS (lv_sub hl [2, 3] rfl)
  · replace h := zBr_t c27 h
    refine lv_iload_n (pc := 151) hx hb dX12_book_151 rfl (lv_at hl 2 rfl) ?_
    refine lv_if_le (pc := 152) (tgt := 159) hx hb dX12_book_152 (by decide) (fun c31 => ?_) (fun c31 => ?_)
    · replace h := zBr_t c31 h
      exact kX12_book_159 cx hr hlk hq h hP hS (lv_sub hl [2, 3] rfl)
    · replace h := zBr_f c31 h
      refine lv_iconst (pc := 155) hx hb dX12_book_155 zc_1 ?_
      refine lv_goto (pc := 156) (tgt := 160) hx hb dX12_book_156 (by decide) ?_
      exact kX12_book_160 cx hr hlk hq h hP hS (lv_sub hl [2, 3] rfl)
def fX12_book_73  (v1 : Int32) (t : (zSt × Int32 × Int32)) : Option ((zSt × Int32 × Int32) ⊕ (Int32 × zSt)) :=
  match t with
  | (S, v2, v3) => zBr ((S.1 0 38) ≤ v2) (zXr (fX12_book_103 S v1 v2 v3)) (zBr (v3 = 0) (zBp (fX12_goBy S ((4 : Int32) * v2)) (fun r36 S35 => zBr (r36 = 0) (zLt (v2 + (1 : Int32)) (fun x38 => some (.inl (S35, x38, r36)))) (some (.inl (S35, v2, r36))))) (zXr (fX12_book_103 S v1 v2 v3)))
set_option maxHeartbeats 4000000 in
set_option maxRecDepth 100000 in
theorem kX12_book_73B {p : Program} {l : Launch} {e : Env} {s : State} {m : MethodId} {args : Array Value} {below : List Frame} {meth : Method} {c : Code} {D : va_G} {cy : Nat → ClassId} {q : Nat → Nat} {A : Nat → Prop} (cx : zX RX12 cX12_book 4 p s m args c D cy) (hr : meth.sig.returnType = (some .int)) (hlk : meth.locks = false) (hq : zQ A q zNM) {z : (Int32 × zSt)} {S : zSt} {v1 : Int32} {v2 : Int32} {v3 : Int32} {C1 : ((zSt × Int32 × Int32) ⊕ (Int32 × zSt)) → Prop} (hb1 : ∀ (S : zSt) (v2 : Int32) (v3 : Int32), C1 (.inl (S, v2, v3)) → ∀ (H : Heap) (locs : List Loc), va_P D vwCl (zW zshM zNM cy q S) H → va_S A s.heap H locs → ∀ (ls : Array Slot), lv_has ls 4 [(0, .ref (q 0)), (1, .int v1), (2, .int v2), (3, .int v3)] → W p l e rmX12_book s m args below meth c H locs 0 0 (MQ below (va_Qi (fun (r : Int32) (u : zSt) => (r, u) = z) (fun u t => va_P D vwCl (zW zshM zNM cy q u) t.heap) A) args s 0 0 A) (F0 m 73 ls [])) (hx1 : ∀ a, C1 (.inr a) → a = z) {x : ((zSt × Int32 × Int32) ⊕ (Int32 × zSt))} (h : fX12_book_73 v1 (S, v2, v3) = some x) (hc : C1 x) {H : Heap} {locs : List Loc} (hP : va_P D vwCl (zW zshM zNM cy q S) H) (hS : va_S A s.heap H locs) {ls : Array Slot} (hl : lv_has ls 4 [(0, .ref (q 0)), (1, .int v1), (2, .int v2), (3, .int v3)]) : W p l e rmX12_book s m args below meth c H locs 0 0 (MQ below (va_Qi (fun (r : Int32) (u : zSt) => (r, u) = z) (fun u t => va_P D vwCl (zW zshM zNM cy q u) t.heap) A) args s 0 0 A) (F0 m 73 ls []) := by
  have hx := cx.1
  have hb := cx.2.1
  unfold fX12_book_73 at h
  dsimp only at h
  refine lv_iload_n (pc := 73) hx hb dX12_book_73 rfl (lv_at hl 2 rfl) ?_
  refine lv_aload_n (pc := 74) hx hb dX12_book_74 rfl (lv_at hl 0 rfl) ?_
  refine zr_getI (pc := 75) cx lk_X12_381 hP nM_0 sM_0 rfl dX12_book_75 ?_
  refine lv_icmp_ge (pc := 78) (tgt := 103) hx hb dX12_book_78 (by decide) (fun c12 => ?_) (fun c12 => ?_)
  · replace h := zBr_t c12 h
    obtain ⟨y13, h, ex⟩ := zXr_e h
    have hc := hx1 y13 (by rw [ex] at hc; exact hc)
    rw [hc] at h
    exact kX12_book_103 cx hr hlk hq h hP hS (lv_sub hl [0, 1, 2, 3] rfl)
  · replace h := zBr_f c12 h
    refine lv_iload_n (pc := 81) hx hb dX12_book_81 rfl (lv_at hl 3 rfl) ?_
    refine lv_if_ne (pc := 82) (tgt := 103) hx hb dX12_book_82 (by decide) (fun c32 => ?_) (fun c32 => ?_)
    · replace h := zBr_f c32 h
      obtain ⟨y33, h, ex⟩ := zXr_e h
      have hc := hx1 y33 (by rw [ex] at hc; exact hc)
      rw [hc] at h
      exact kX12_book_103 cx hr hlk hq h hP hS (lv_sub hl [0, 1, 2, 3] rfl)
    · replace h := zBr_t c32 h
      refine lv_aload_n (pc := 85) hx hb dX12_book_85 rfl (lv_at hl 0 rfl) ?_
      refine lv_iconst (pc := 86) hx hb dX12_book_86 zc_4 ?_
      refine lv_iload_n (pc := 87) hx hb dX12_book_87 rfl (lv_at hl 2 rfl) ?_
      refine lv_imul (pc := 88) hx hb dX12_book_88 ?_
      obtain ⟨r36, S35, k34, h⟩ := zBp_e h
      refine zr_VQ (pc := 89) (rest := []) cx cv_X12_393 (mX12_goBy hq k34) ⟨⟨rfl, rfl⟩, Nat.le_of_ble_eq_true rfl, Nat.le_of_ble_eq_true rfl⟩ ⟨Nat.le_of_ble_eq_true rfl, Nat.le_of_ble_eq_true rfl⟩ hP hS nM_0 sM_0 rfl hl.1 rfl rfl (Nat.le_of_ble_eq_true rfl) dX12_book_89 (fun H locs hP hS => ?_)
      refine lv_istore_n (lv' := [(3, .int r36), (0, .ref (q 0)), (1, .int v1), (2, .int v2)]) (pc := 92) hx hb dX12_book_92 rfl hl (by decide) rfl (fun ls hl => ?_)
      refine lv_iload_n (pc := 93) hx hb dX12_book_93 rfl (lv_at hl 0 rfl) ?_
      refine lv_if_ne (pc := 94) (tgt := 73) hx hb dX12_book_94 (by decide) (fun c37 => ?_) (fun c37 => ?_)
      · replace h := zBr_f c37 h
        cases h
        exact hb1 _ _ _ hc _ _ hP hS _ (lv_sub hl [1, 2, 3, 0] rfl)
      · replace h := zBr_t c37 h
        obtain ⟨x38, ex38, h⟩ := zLt_e h
        refine lv_iinc (v := x38) (lv' := [(2, .int x38), (3, .int r36), (0, .ref (q 0)), (1, .int v1)]) (pc := 97) hx hb dX12_book_97 hl (k := 3) rfl (by rw [zc_1]; exact ex38.symm) (by decide) rfl (fun ls hl => ?_)
        refine lv_goto (pc := 100) (tgt := 73) hx hb dX12_book_100 (by decide) ?_
        cases h
        exact hb1 _ _ _ hc _ _ hP hS _ (lv_sub hl [2, 3, 0, 1] rfl)
set_option maxHeartbeats 4000000 in
set_option maxRecDepth 100000 in
theorem kX12_book_73 {p : Program} {l : Launch} {e : Env} {s : State} {m : MethodId} {args : Array Value} {below : List Frame} {meth : Method} {c : Code} {D : va_G} {cy : Nat → ClassId} {q : Nat → Nat} {A : Nat → Prop} (cx : zX RX12 cX12_book 4 p s m args c D cy) (hr : meth.sig.returnType = (some .int)) (hlk : meth.locks = false) (hq : zQ A q zNM) {z : (Int32 × zSt)} {v1 : Int32} : ∀ (n : Nat) (S : zSt) (v2 : Int32) (v3 : Int32), zLp (fX12_book_73 v1) n (S, v2, v3) = some z → ∀ (H : Heap) (locs : List Loc), va_P D vwCl (zW zshM zNM cy q S) H → va_S A s.heap H locs → ∀ (ls : Array Slot), lv_has ls 4 [(0, .ref (q 0)), (1, .int v1), (2, .int v2), (3, .int v3)] → W p l e rmX12_book s m args below meth c H locs 0 0 (MQ below (va_Qi (fun (r : Int32) (u : zSt) => (r, u) = z) (fun u t => va_P D vwCl (zW zshM zNM cy q u) t.heap) A) args s 0 0 A) (F0 m 73 ls []) := by
  intro n
  induction n with
  | zero =>
    intro S v2 v3 h
    cases h
  | succ n ih =>
    intro S v2 v3 h H locs hP hS ls hl
    obtain ⟨x, h, hk⟩ := zLp_e h
    exact kX12_book_73B cx hr hlk hq  (C1 := zKt (fun t => zLp (fX12_book_73 v1) n t = some z) (fun a => a = z)) (fun S v2 v3 ht H locs hP hS ls hl => ih S v2 v3 ht H locs hP hS ls hl) (fun a ha => ha) h hk hP hS hl
def fX12_book_30  (v1 : Int32) (t : zSt) : Option (zSt ⊕ (Int32 × zSt)) :=
  match t with
  | S => zBr ((S.1 0 7) = 0) (zXr (zBd (fX12_layAside S) (fun S11 => zLp (fX12_book_73 v1) 2000 (S11, (0 : Int32), (0 : Int32))))) (zBp (fX12_readBookLine S) (fun r41 S40 => zBr (r41 = 0) (zXr (some (((-2 : Int32) - (S40.1 0 11)), S40))) (zLt (zI S40 0 38 ((S40.1 0 38) + (1 : Int32))) (fun S43 => some (.inl (S43))))))
set_option maxHeartbeats 4000000 in
set_option maxRecDepth 100000 in
theorem kX12_book_30B {p : Program} {l : Launch} {e : Env} {s : State} {m : MethodId} {args : Array Value} {below : List Frame} {meth : Method} {c : Code} {D : va_G} {cy : Nat → ClassId} {q : Nat → Nat} {A : Nat → Prop} (cx : zX RX12 cX12_book 4 p s m args c D cy) (hr : meth.sig.returnType = (some .int)) (hlk : meth.locks = false) (hq : zQ A q zNM) {z : (Int32 × zSt)} {S : zSt} {v1 : Int32} {C1 : (zSt ⊕ (Int32 × zSt)) → Prop} (hb1 : ∀ (S : zSt), C1 (.inl (S)) → ∀ (H : Heap) (locs : List Loc), va_P D vwCl (zW zshM zNM cy q S) H → va_S A s.heap H locs → ∀ (ls : Array Slot), lv_has ls 4 [(0, .ref (q 0)), (1, .int v1)] → W p l e rmX12_book s m args below meth c H locs 0 0 (MQ below (va_Qi (fun (r : Int32) (u : zSt) => (r, u) = z) (fun u t => va_P D vwCl (zW zshM zNM cy q u) t.heap) A) args s 0 0 A) (F0 m 30 ls [])) (hx1 : ∀ a, C1 (.inr a) → a = z) {x : (zSt ⊕ (Int32 × zSt))} (h : fX12_book_30 v1 (S) = some x) (hc : C1 x) {H : Heap} {locs : List Loc} (hP : va_P D vwCl (zW zshM zNM cy q S) H) (hS : va_S A s.heap H locs) {ls : Array Slot} (hl : lv_has ls 4 [(0, .ref (q 0)), (1, .int v1)]) : W p l e rmX12_book s m args below meth c H locs 0 0 (MQ below (va_Qi (fun (r : Int32) (u : zSt) => (r, u) = z) (fun u t => va_P D vwCl (zW zshM zNM cy q u) t.heap) A) args s 0 0 A) (F0 m 30 ls []) := by
  have hx := cx.1
  have hb := cx.2.1
  unfold fX12_book_30 at h
  dsimp only at h
  refine lv_aload_n (pc := 30) hx hb dX12_book_30 rfl (lv_at hl 0 rfl) ?_
  refine zr_getI (pc := 31) cx lk_X12_30 hP nM_0 sM_0 rfl dX12_book_31 ?_
  refine lv_if_eq (pc := 34) (tgt := 65) hx hb dX12_book_34 (by decide) (fun c8 => ?_) (fun c8 => ?_)
  · replace h := zBr_t c8 h
    obtain ⟨y9, h, ex⟩ := zXr_e h
    have hc := hx1 y9 (by rw [ex] at hc; exact hc)
    rw [hc] at h
    refine lv_aload_n (pc := 65) hx hb dX12_book_65 rfl (lv_at hl 0 rfl) ?_
    obtain ⟨S11, k10, h⟩ := zBd_e h
    refine zr_VV (pc := 66) (rest := []) cx cv_X12_363 (mX12_layAside hq k10) ⟨⟨rfl, rfl⟩, Nat.le_of_ble_eq_true rfl, Nat.le_of_ble_eq_true rfl⟩ ⟨Nat.le_of_ble_eq_true rfl, Nat.le_of_ble_eq_true rfl⟩ hP hS nM_0 sM_0 rfl hl.1 rfl rfl (Nat.le_of_ble_eq_true rfl) dX12_book_66 (fun H locs hP hS => ?_)
    refine lv_iconst (pc := 69) hx hb dX12_book_69 zc_0 ?_
    refine lv_istore_n (lv' := [(2, .int (0 : Int32)), (0, .ref (q 0)), (1, .int v1)]) (pc := 70) hx hb dX12_book_70 rfl hl (by decide) rfl (fun ls hl => ?_)
    refine lv_iconst (pc := 71) hx hb dX12_book_71 zc_0 ?_
    refine lv_istore_n (lv' := [(3, .int (0 : Int32)), (2, .int (0 : Int32)), (0, .ref (q 0)), (1, .int v1)]) (pc := 72) hx hb dX12_book_72 rfl hl (by decide) rfl (fun ls hl => ?_)
    exact kX12_book_73 cx hr hlk hq 2000 _ _ _ h _ _ hP hS _ (lv_sub hl [2, 3, 1, 0] rfl)
  · replace h := zBr_f c8 h
    refine lv_aload_n (pc := 37) hx hb dX12_book_37 rfl (lv_at hl 0 rfl) ?_
    obtain ⟨r41, S40, k39, h⟩ := zBp_e h
    refine zr_VQ (pc := 38) (rest := []) cx cv_X12_390 (mX12_readBookLine hq k39) ⟨⟨rfl, rfl⟩, Nat.le_of_ble_eq_true rfl, Nat.le_of_ble_eq_true rfl⟩ ⟨Nat.le_of_ble_eq_true rfl, Nat.le_of_ble_eq_true rfl⟩ hP hS nM_0 sM_0 rfl hl.1 rfl rfl (Nat.le_of_ble_eq_true rfl) dX12_book_38 (fun H locs hP hS => ?_)
    refine lv_if_ne (pc := 41) (tgt := 52) hx hb dX12_book_41 (by decide) (fun c42 => ?_) (fun c42 => ?_)
    · replace h := zBr_f c42 h
      refine lv_aload_n (pc := 52) hx hb dX12_book_52 rfl (lv_at hl 0 rfl) ?_
      refine lv_dup (pc := 53) hx hb dX12_book_53 rfl ?_
      refine zr_getI (pc := 54) cx lk_X12_381 hP nM_0 sM_0 rfl dX12_book_54 ?_
      refine lv_iconst (pc := 57) hx hb dX12_book_57 zc_1 ?_
      refine lv_iadd (pc := 58) hx hb dX12_book_58 ?_
      obtain ⟨S43, eS43, h⟩ := zLt_e h
      refine zr_putI (pc := 59) cx lq_X12_381 hq hP hS nM_0 sM_0 rfl rfl rfl dX12_book_59 (fun H locs hP hS => ?_)
      rw [← eS43] at hP
      refine lv_goto (pc := 62) (tgt := 30) hx hb dX12_book_62 (by decide) ?_
      cases h
      exact hb1 _ hc _ _ hP hS _ (lv_sub hl [0, 1] rfl)
    · replace h := zBr_t c42 h
      obtain ⟨y44, h, ex⟩ := zXr_e h
      have hc := hx1 y44 (by rw [ex] at hc; exact hc)
      rw [hc] at h
      refine lv_bipush (pc := 44) hx hb dX12_book_44 zb_m2 ?_
      refine lv_aload_n (pc := 46) hx hb dX12_book_46 rfl (lv_at hl 0 rfl) ?_
      refine zr_getI (pc := 47) cx lk_X12_69 hP nM_0 sM_0 rfl dX12_book_47 ?_
      refine lv_isub (pc := 50) hx hb dX12_book_50 ?_
      have hz := Option.some.inj h
      exact zr_rqI (pc := 51) cx hr hlk hP hS hz dX12_book_51
set_option maxHeartbeats 4000000 in
set_option maxRecDepth 100000 in
theorem kX12_book_30 {p : Program} {l : Launch} {e : Env} {s : State} {m : MethodId} {args : Array Value} {below : List Frame} {meth : Method} {c : Code} {D : va_G} {cy : Nat → ClassId} {q : Nat → Nat} {A : Nat → Prop} (cx : zX RX12 cX12_book 4 p s m args c D cy) (hr : meth.sig.returnType = (some .int)) (hlk : meth.locks = false) (hq : zQ A q zNM) {z : (Int32 × zSt)} {v1 : Int32} : ∀ (n : Nat) (S : zSt), zLp (fX12_book_30 v1) n (S) = some z → ∀ (H : Heap) (locs : List Loc), va_P D vwCl (zW zshM zNM cy q S) H → va_S A s.heap H locs → ∀ (ls : Array Slot), lv_has ls 4 [(0, .ref (q 0)), (1, .int v1)] → W p l e rmX12_book s m args below meth c H locs 0 0 (MQ below (va_Qi (fun (r : Int32) (u : zSt) => (r, u) = z) (fun u t => va_P D vwCl (zW zshM zNM cy q u) t.heap) A) args s 0 0 A) (F0 m 30 ls []) := by
  intro n
  induction n with
  | zero =>
    intro S h
    cases h
  | succ n ih =>
    intro S h H locs hP hS ls hl
    obtain ⟨x, h, hk⟩ := zLp_e h
    exact kX12_book_30B cx hr hlk hq  (C1 := zKt (fun t => zLp (fX12_book_30 v1) n t = some z) (fun a => a = z)) (fun S ht H locs hP hS ls hl => ih S ht H locs hP hS ls hl) (fun a ha => ha) h hk hP hS hl
def fX12_book (S : zSt) (v1 : Int32) : Option (Int32 × zSt) :=
  zLt (zI S 0 0 (0 : Int32)) (fun S1 => zBd (fX12_isIn v1 (0 : Int32) (1 : Int32)) (fun r3 => zBr (r3 = 0) (some ((-1000 : Int32), S1)) (zBd (fX12_begin S1 (400 : Int32)) (fun S6 => zLt (zI S6 0 38 (0 : Int32)) (fun S7 => zLp (fX12_book_30 v1) 2000 (S7))))))
set_option maxHeartbeats 4000000 in
set_option maxRecDepth 100000 in
theorem mX12_book {l : Launch} {D : va_G} {cy : Nat → ClassId} {q : Nat → Nat} {A : Nat → Prop} {S : zSt} {v1 : Int32} (hq : zQ A q zNM) {z : (Int32 × zSt)} (h : fX12_book S v1 = some z) : zMq l yX12_book cX12_book 4 (some .int) rmX12_book [.ref (q 0), .int v1] zshM zNM D cy q A S z := by
  refine Met.ofW (cc := cX12_book) (maxL := 4) (ret := (some .int)) (by decide) rfl ?_
  intro p e s m args below meth c s₁ B hml hv
  obtain ⟨rfl, hP, hK⟩ := hv
  have cx : zX RX12 cX12_book 4 p s m ([.ref (q 0), .int v1]).toArray c D cy := ⟨B.exec, B.bytes, hml, findClass_of_methodNamed B.named, fun w hw => atoms_spec (ws := Cond.code yX12_book cX12_book 4 (some .int) :: zTB) B.pre w (List.mem_cons_of_mem _ hw), hK⟩
  have hx := cx.1
  have hb := cx.2.1
  have hr := B.returns
  have hlk := B.notSynchronized
  have hS : va_S A s.heap s.heap [] := va_S.rf
  have hl := lv_entry ([.ref (q 0), .int v1]) (n := 4) (Nat.le_of_ble_eq_true rfl)
  rw [lg_entry_eq]
  generalize (lg_sl ([.ref (q 0), .int v1]) ++ List.replicate (4 - (lg_sl ([.ref (q 0), .int v1])).length) Slot.unset).toArray = ls at hl ⊢
  have hl : lv_has ls 4 [(0, .ref (q 0)), (1, .int v1)] := hl
  unfold fX12_book at h
  refine lv_aload_n (pc := 0) hx hb dX12_book_0 rfl (lv_at hl 0 rfl) ?_
  refine lv_iconst (pc := 1) hx hb dX12_book_1 zc_0 ?_
  obtain ⟨S1, eS1, h⟩ := zLt_e h
  refine zr_putI (pc := 2) cx lq_X12_1 hq hP hS nM_0 sM_0 rfl rfl rfl dX12_book_2 (fun H locs hP hS => ?_)
  rw [← eS1] at hP
  refine lv_iload_n (pc := 5) hx hb dX12_book_5 rfl (lv_at hl 1 rfl) ?_
  refine lv_iconst (pc := 6) hx hb dX12_book_6 zc_0 ?_
  refine lv_iconst (pc := 7) hx hb dX12_book_7 zc_1 ?_
  obtain ⟨r3, k2, h⟩ := zBd_e h
  refine zr_SI (pc := 8) (rest := []) cx cv_X12_75 (mX12_isIn k2) ⟨⟨rfl, rfl⟩, Nat.le_of_ble_eq_true rfl, Nat.le_of_ble_eq_true rfl⟩ ⟨Nat.le_of_ble_eq_true rfl, Nat.le_of_ble_eq_true rfl⟩ (zr_preK cx) hl.1 rfl rfl (Nat.le_of_ble_eq_true rfl) dX12_book_8 ?_
  refine lv_if_ne (pc := 11) (tgt := 18) hx hb dX12_book_11 (by decide) (fun c4 => ?_) (fun c4 => ?_)
  · replace h := zBr_f c4 h
    refine lv_aload_n (pc := 18) hx hb dX12_book_18 rfl (lv_at hl 0 rfl) ?_
    refine lv_sipush (pc := 19) hx hb dX12_book_19 zs_400 ?_
    obtain ⟨S6, k5, h⟩ := zBd_e h
    refine zr_VV (pc := 22) (rest := []) cx cv_X12_206 (mX12_begin hq k5) ⟨⟨rfl, rfl⟩, Nat.le_of_ble_eq_true rfl, Nat.le_of_ble_eq_true rfl⟩ ⟨Nat.le_of_ble_eq_true rfl, Nat.le_of_ble_eq_true rfl⟩ hP hS nM_0 sM_0 rfl hl.1 rfl rfl (Nat.le_of_ble_eq_true rfl) dX12_book_22 (fun H locs hP hS => ?_)
    refine lv_aload_n (pc := 25) hx hb dX12_book_25 rfl (lv_at hl 0 rfl) ?_
    refine lv_iconst (pc := 26) hx hb dX12_book_26 zc_0 ?_
    obtain ⟨S7, eS7, h⟩ := zLt_e h
    refine zr_putI (pc := 27) cx lq_X12_381 hq hP hS nM_0 sM_0 rfl rfl rfl dX12_book_27 (fun H locs hP hS => ?_)
    rw [← eS7] at hP
    exact kX12_book_30 cx hr hlk hq 2000 _ h _ _ hP hS _ (lv_sub hl [0, 1] rfl)
  · replace h := zBr_t c4 h
    refine lv_sipush (pc := 14) hx hb dX12_book_14 zs_m1000 ?_
    have hz := Option.some.inj h
    exact zr_rqI (pc := 17) cx hr hlk hP hS hz dX12_book_17
-- X12_byteAt
abbrev rmX12_byteAt : Room := { frames := 1, cells := 0, slots := 0, locals := 22 }
def fX12_byteAt (S : zSt) (v1 : Int32) : Option (Int32 × zSt) :=
  zLt (zI S 0 0 (0 : Int32)) (fun S1 => zBd (fX12_isIn v1 (0 : Int32) ((S1.1 0 34) - (1 : Int32))) (fun r3 => zBr (r3 = 0) (some ((-1 : Int32), S1)) (zGd (zIx v1 64) (some ((S1.1 15 v1.toNatClampNeg), S1)))))
set_option maxHeartbeats 4000000 in
set_option maxRecDepth 100000 in
theorem mX12_byteAt {l : Launch} {D : va_G} {cy : Nat → ClassId} {q : Nat → Nat} {A : Nat → Prop} {S : zSt} {v1 : Int32} (hq : zQ A q zNM) {z : (Int32 × zSt)} (h : fX12_byteAt S v1 = some z) : zMq l yX12_byteAt cX12_byteAt 2 (some .int) rmX12_byteAt [.ref (q 0), .int v1] zshM zNM D cy q A S z := by
  refine Met.ofW (cc := cX12_byteAt) (maxL := 2) (ret := (some .int)) (by decide) rfl ?_
  intro p e s m args below meth c s₁ B hml hv
  obtain ⟨rfl, hP, hK⟩ := hv
  have cx : zX RX12 cX12_byteAt 2 p s m ([.ref (q 0), .int v1]).toArray c D cy := ⟨B.exec, B.bytes, hml, findClass_of_methodNamed B.named, fun w hw => atoms_spec (ws := Cond.code yX12_byteAt cX12_byteAt 2 (some .int) :: zTB) B.pre w (List.mem_cons_of_mem _ hw), hK⟩
  have hx := cx.1
  have hb := cx.2.1
  have hr := B.returns
  have hlk := B.notSynchronized
  have hS : va_S A s.heap s.heap [] := va_S.rf
  have hl := lv_entry ([.ref (q 0), .int v1]) (n := 2) (Nat.le_of_ble_eq_true rfl)
  rw [lg_entry_eq]
  generalize (lg_sl ([.ref (q 0), .int v1]) ++ List.replicate (2 - (lg_sl ([.ref (q 0), .int v1])).length) Slot.unset).toArray = ls at hl ⊢
  have hl : lv_has ls 2 [(0, .ref (q 0)), (1, .int v1)] := hl
  unfold fX12_byteAt at h
  refine lv_aload_n (pc := 0) hx hb dX12_byteAt_0 rfl (lv_at hl 0 rfl) ?_
  refine lv_iconst (pc := 1) hx hb dX12_byteAt_1 zc_0 ?_
  obtain ⟨S1, eS1, h⟩ := zLt_e h
  refine zr_putI (pc := 2) cx lq_X12_1 hq hP hS nM_0 sM_0 rfl rfl rfl dX12_byteAt_2 (fun H locs hP hS => ?_)
  rw [← eS1] at hP
  refine lv_iload_n (pc := 5) hx hb dX12_byteAt_5 rfl (lv_at hl 1 rfl) ?_
  refine lv_iconst (pc := 6) hx hb dX12_byteAt_6 zc_0 ?_
  refine lv_aload_n (pc := 7) hx hb dX12_byteAt_7 rfl (lv_at hl 0 rfl) ?_
  refine zr_getI (pc := 8) cx lk_X12_334 hP nM_0 sM_0 rfl dX12_byteAt_8 ?_
  refine lv_iconst (pc := 11) hx hb dX12_byteAt_11 zc_1 ?_
  refine lv_isub (pc := 12) hx hb dX12_byteAt_12 ?_
  obtain ⟨r3, k2, h⟩ := zBd_e h
  refine zr_SI (pc := 13) (rest := []) cx cv_X12_75 (mX12_isIn k2) ⟨⟨rfl, rfl⟩, Nat.le_of_ble_eq_true rfl, Nat.le_of_ble_eq_true rfl⟩ ⟨Nat.le_of_ble_eq_true rfl, Nat.le_of_ble_eq_true rfl⟩ (zr_preK cx) hl.1 rfl rfl (Nat.le_of_ble_eq_true rfl) dX12_byteAt_13 ?_
  refine lv_if_eq (pc := 16) (tgt := 28) hx hb dX12_byteAt_16 (by decide) (fun c4 => ?_) (fun c4 => ?_)
  · replace h := zBr_t c4 h
    refine lv_iconst (pc := 28) hx hb dX12_byteAt_28 zc_m1 ?_
    have hz := Option.some.inj h
    exact zr_rqI (pc := 29) cx hr hlk hP hS hz dX12_byteAt_29
  · replace h := zBr_f c4 h
    refine lv_aload_n (pc := 19) hx hb dX12_byteAt_19 rfl (lv_at hl 0 rfl) ?_
    refine zr_getR (pc := 20) (t := 15) cx lk_X12_145 hP nM_0 sM_0 rfl dX12_byteAt_20 ?_
    refine lv_iload_n (pc := 23) hx hb dX12_byteAt_23 rfl (lv_at hl 1 rfl) ?_
    obtain ⟨g5, h⟩ := zGd_e h
    refine zr_iald (pc := 24) cx hP nM_15 sM_15 g5 dX12_byteAt_24 ?_
    refine lv_goto (pc := 25) (tgt := 29) hx hb dX12_byteAt_25 (by decide) ?_
    have hz := Option.some.inj h
    exact zr_rqI (pc := 29) cx hr hlk hP hS hz dX12_byteAt_29
-- X12_doIt
abbrev rmX12_doIt : Room := { frames := 5, cells := 0, slots := 0, locals := 113 }
def fX12_doIt (S : zSt) (v1 : Int32) (v2 : Int32) (v3 : Int32) (v4 : Int32) (v5 : Int32) : Option (Int32 × zSt) :=
  zBr (v5 = 0) (some ((-1 : Int32), S)) (zBd (fX12_why S v1 v2 v3) (fun r3 => zBr (r3 = 0) (zBd (fX12_snap S) (fun S6 => zBd (fX12_live S6 v1 v2 v3 v4) (fun S8 => some ((0 : Int32), S8)))) (some (r3, S))))
set_option maxHeartbeats 4000000 in
set_option maxRecDepth 100000 in
theorem mX12_doIt {l : Launch} {D : va_G} {cy : Nat → ClassId} {q : Nat → Nat} {A : Nat → Prop} {S : zSt} {v1 : Int32} {v2 : Int32} {v3 : Int32} {v4 : Int32} {v5 : Int32} (hq : zQ A q zNM) {z : (Int32 × zSt)} (h : fX12_doIt S v1 v2 v3 v4 v5 = some z) : zMq l yX12_doIt cX12_doIt 7 (some .int) rmX12_doIt [.ref (q 0), .int v1, .int v2, .int v3, .int v4, .int v5] zshM zNM D cy q A S z := by
  refine Met.ofW (cc := cX12_doIt) (maxL := 7) (ret := (some .int)) (by decide) rfl ?_
  intro p e s m args below meth c s₁ B hml hv
  obtain ⟨rfl, hP, hK⟩ := hv
  have cx : zX RX12 cX12_doIt 7 p s m ([.ref (q 0), .int v1, .int v2, .int v3, .int v4, .int v5]).toArray c D cy := ⟨B.exec, B.bytes, hml, findClass_of_methodNamed B.named, fun w hw => atoms_spec (ws := Cond.code yX12_doIt cX12_doIt 7 (some .int) :: zTB) B.pre w (List.mem_cons_of_mem _ hw), hK⟩
  have hx := cx.1
  have hb := cx.2.1
  have hr := B.returns
  have hlk := B.notSynchronized
  have hS : va_S A s.heap s.heap [] := va_S.rf
  have hl := lv_entry ([.ref (q 0), .int v1, .int v2, .int v3, .int v4, .int v5]) (n := 7) (Nat.le_of_ble_eq_true rfl)
  rw [lg_entry_eq]
  generalize (lg_sl ([.ref (q 0), .int v1, .int v2, .int v3, .int v4, .int v5]) ++ List.replicate (7 - (lg_sl ([.ref (q 0), .int v1, .int v2, .int v3, .int v4, .int v5])).length) Slot.unset).toArray = ls at hl ⊢
  have hl : lv_has ls 7 [(0, .ref (q 0)), (1, .int v1), (2, .int v2), (3, .int v3), (4, .int v4), (5, .int v5)] := hl
  unfold fX12_doIt at h
  refine lv_iload (pc := 0) hx hb dX12_doIt_0 (lv_at hl 5 rfl) ?_
  refine lv_if_ne (pc := 2) (tgt := 7) hx hb dX12_doIt_2 (by decide) (fun c1 => ?_) (fun c1 => ?_)
  · replace h := zBr_f c1 h
    refine lv_aload_n (pc := 7) hx hb dX12_doIt_7 rfl (lv_at hl 0 rfl) ?_
    refine lv_iload_n (pc := 8) hx hb dX12_doIt_8 rfl (lv_at hl 1 rfl) ?_
    refine lv_iload_n (pc := 9) hx hb dX12_doIt_9 rfl (lv_at hl 2 rfl) ?_
    refine lv_iload_n (pc := 10) hx hb dX12_doIt_10 rfl (lv_at hl 3 rfl) ?_
    obtain ⟨r3, k2, h⟩ := zBd_e h
    refine zr_VI (pc := 11) (rest := []) cx cv_X12_275 (mX12_why k2) ⟨⟨rfl, rfl⟩, Nat.le_of_ble_eq_true rfl, Nat.le_of_ble_eq_true rfl⟩ ⟨Nat.le_of_ble_eq_true rfl, Nat.le_of_ble_eq_true rfl⟩ hP nM_0 sM_0 rfl hl.1 rfl rfl (Nat.le_of_ble_eq_true rfl) dX12_doIt_11 ?_
    refine lv_istore (lv' := [(6, .int r3), (0, .ref (q 0)), (1, .int v1), (2, .int v2), (3, .int v3), (4, .int v4), (5, .int v5)]) (pc := 14) hx hb dX12_doIt_14 hl (by decide) rfl (fun ls hl => ?_)
    refine lv_iload (pc := 16) hx hb dX12_doIt_16 (lv_at hl 0 rfl) ?_
    refine lv_if_eq (pc := 18) (tgt := 24) hx hb dX12_doIt_18 (by decide) (fun c4 => ?_) (fun c4 => ?_)
    · replace h := zBr_t c4 h
      refine lv_aload_n (pc := 24) hx hb dX12_doIt_24 rfl (lv_at hl 1 rfl) ?_
      obtain ⟨S6, k5, h⟩ := zBd_e h
      refine zr_VV (pc := 25) (rest := []) cx cv_X12_279 (mX12_snap hq k5) ⟨⟨rfl, rfl⟩, Nat.le_of_ble_eq_true rfl, Nat.le_of_ble_eq_true rfl⟩ ⟨Nat.le_of_ble_eq_true rfl, Nat.le_of_ble_eq_true rfl⟩ hP hS nM_0 sM_0 rfl hl.1 rfl rfl (Nat.le_of_ble_eq_true rfl) dX12_doIt_25 (fun H locs hP hS => ?_)
      refine lv_aload_n (pc := 28) hx hb dX12_doIt_28 rfl (lv_at hl 1 rfl) ?_
      refine lv_iload_n (pc := 29) hx hb dX12_doIt_29 rfl (lv_at hl 2 rfl) ?_
      refine lv_iload_n (pc := 30) hx hb dX12_doIt_30 rfl (lv_at hl 3 rfl) ?_
      refine lv_iload_n (pc := 31) hx hb dX12_doIt_31 rfl (lv_at hl 4 rfl) ?_
      refine lv_iload (pc := 32) hx hb dX12_doIt_32 (lv_at hl 5 rfl) ?_
      obtain ⟨S8, k7, h⟩ := zBd_e h
      refine zr_VV (pc := 34) (rest := []) cx cv_X12_282 (mX12_live hq k7) ⟨⟨rfl, rfl⟩, Nat.le_of_ble_eq_true rfl, Nat.le_of_ble_eq_true rfl⟩ ⟨Nat.le_of_ble_eq_true rfl, Nat.le_of_ble_eq_true rfl⟩ hP hS nM_0 sM_0 rfl hl.1 rfl rfl (Nat.le_of_ble_eq_true rfl) dX12_doIt_34 (fun H locs hP hS => ?_)
      refine lv_iconst (pc := 37) hx hb dX12_doIt_37 zc_0 ?_
      have hz := Option.some.inj h
      exact zr_rqI (pc := 38) cx hr hlk hP hS hz dX12_doIt_38
    · replace h := zBr_f c4 h
      refine lv_iload (pc := 21) hx hb dX12_doIt_21 (lv_at hl 0 rfl) ?_
      have hz := Option.some.inj h
      exact zr_rqI (pc := 23) cx hr hlk hP hS hz dX12_doIt_23
  · replace h := zBr_t c1 h
    refine lv_iconst (pc := 5) hx hb dX12_doIt_5 zc_m1 ?_
    have hz := Option.some.inj h
    exact zr_rqI (pc := 6) cx hr hlk hP hS hz dX12_doIt_6
-- X12_isParlour
abbrev rmX12_isParlour : Room := { frames := 1, cells := 0, slots := 0, locals := 22 }
def fX12_isParlour (S : zSt) (v1 : Int32) : Option Int32 :=
  zGd (zIx (0 : Int32) 406) (zBd (fX12_isIn v1 (0 : Int32) ((S.1 2 (0 : Int32).toNatClampNeg) - (1 : Int32))) (fun r3 => zGd (zBo r3) (some r3)))
set_option maxHeartbeats 4000000 in
set_option maxRecDepth 100000 in
theorem mX12_isParlour {l : Launch} {D : va_G} {cy : Nat → ClassId} {q : Nat → Nat} {S : zSt} {v1 : Int32} {z : Int32} (h : fX12_isParlour S v1 = some z) : zMi l yX12_isParlour cX12_isParlour 2 (some .boolean) rmX12_isParlour [.ref (q 0), .int v1] (zPr zshM zNM D cy q S) z := by
  refine Met.ofW (cc := cX12_isParlour) (maxL := 2) (ret := (some .boolean)) (by decide) rfl ?_
  intro p e s m args below meth c s₁ B hml hv
  obtain ⟨rfl, hP, hK⟩ := hv
  have cx : zX RX12 cX12_isParlour 2 p s m ([.ref (q 0), .int v1]).toArray c D cy := ⟨B.exec, B.bytes, hml, findClass_of_methodNamed B.named, fun w hw => atoms_spec (ws := Cond.code yX12_isParlour cX12_isParlour 2 (some .boolean) :: zTB) B.pre w (List.mem_cons_of_mem _ hw), hK⟩
  have hx := cx.1
  have hb := cx.2.1
  have hr := B.returns
  have hlk := B.notSynchronized
  have hl := lv_entry ([.ref (q 0), .int v1]) (n := 2) (Nat.le_of_ble_eq_true rfl)
  rw [lg_entry_eq]
  generalize (lg_sl ([.ref (q 0), .int v1]) ++ List.replicate (2 - (lg_sl ([.ref (q 0), .int v1])).length) Slot.unset).toArray = ls at hl ⊢
  have hl : lv_has ls 2 [(0, .ref (q 0)), (1, .int v1)] := hl
  unfold fX12_isParlour at h
  refine lv_iload_n (pc := 0) hx hb dX12_isParlour_0 rfl (lv_at hl 1 rfl) ?_
  refine lv_iconst (pc := 1) hx hb dX12_isParlour_1 zc_0 ?_
  refine lv_aload_n (pc := 2) hx hb dX12_isParlour_2 rfl (lv_at hl 0 rfl) ?_
  refine zr_getR (pc := 3) (t := 2) cx lk_X12_98 hP nM_0 sM_0 rfl dX12_isParlour_3 ?_
  refine lv_iconst (pc := 6) hx hb dX12_isParlour_6 zc_0 ?_
  obtain ⟨g1, h⟩ := zGd_e h
  refine zr_iald (pc := 7) cx hP nM_2 sM_2 g1 dX12_isParlour_7 ?_
  refine lv_iconst (pc := 8) hx hb dX12_isParlour_8 zc_1 ?_
  refine lv_isub (pc := 9) hx hb dX12_isParlour_9 ?_
  obtain ⟨r3, k2, h⟩ := zBd_e h
  refine zr_SI (pc := 10) (rest := []) cx cv_X12_75 (mX12_isIn k2) ⟨⟨rfl, rfl⟩, Nat.le_of_ble_eq_true rfl, Nat.le_of_ble_eq_true rfl⟩ ⟨Nat.le_of_ble_eq_true rfl, Nat.le_of_ble_eq_true rfl⟩ (zr_preK cx) hl.1 rfl rfl (Nat.le_of_ble_eq_true rfl) dX12_isParlour_10 ?_
  obtain ⟨g4, h⟩ := zGd_e h
  have hz := Option.some.inj h
  exact zr_reZ (pc := 13) cx hr hlk hz g4 dX12_isParlour_13
-- X12_isPlant
abbrev rmX12_isPlant : Room := { frames := 1, cells := 0, slots := 0, locals := 22 }
def fX12_isPlant (S : zSt) (v1 : Int32) : Option Int32 :=
  zGd (zIx (1 : Int32) 406) (zBd (fX12_isIn v1 (0 : Int32) ((S.1 2 (1 : Int32).toNatClampNeg) - (1 : Int32))) (fun r3 => zGd (zBo r3) (some r3)))
set_option maxHeartbeats 4000000 in
set_option maxRecDepth 100000 in
theorem mX12_isPlant {l : Launch} {D : va_G} {cy : Nat → ClassId} {q : Nat → Nat} {S : zSt} {v1 : Int32} {z : Int32} (h : fX12_isPlant S v1 = some z) : zMi l yX12_isPlant cX12_isPlant 2 (some .boolean) rmX12_isPlant [.ref (q 0), .int v1] (zPr zshM zNM D cy q S) z := by
  refine Met.ofW (cc := cX12_isPlant) (maxL := 2) (ret := (some .boolean)) (by decide) rfl ?_
  intro p e s m args below meth c s₁ B hml hv
  obtain ⟨rfl, hP, hK⟩ := hv
  have cx : zX RX12 cX12_isPlant 2 p s m ([.ref (q 0), .int v1]).toArray c D cy := ⟨B.exec, B.bytes, hml, findClass_of_methodNamed B.named, fun w hw => atoms_spec (ws := Cond.code yX12_isPlant cX12_isPlant 2 (some .boolean) :: zTB) B.pre w (List.mem_cons_of_mem _ hw), hK⟩
  have hx := cx.1
  have hb := cx.2.1
  have hr := B.returns
  have hlk := B.notSynchronized
  have hl := lv_entry ([.ref (q 0), .int v1]) (n := 2) (Nat.le_of_ble_eq_true rfl)
  rw [lg_entry_eq]
  generalize (lg_sl ([.ref (q 0), .int v1]) ++ List.replicate (2 - (lg_sl ([.ref (q 0), .int v1])).length) Slot.unset).toArray = ls at hl ⊢
  have hl : lv_has ls 2 [(0, .ref (q 0)), (1, .int v1)] := hl
  unfold fX12_isPlant at h
  refine lv_iload_n (pc := 0) hx hb dX12_isPlant_0 rfl (lv_at hl 1 rfl) ?_
  refine lv_iconst (pc := 1) hx hb dX12_isPlant_1 zc_0 ?_
  refine lv_aload_n (pc := 2) hx hb dX12_isPlant_2 rfl (lv_at hl 0 rfl) ?_
  refine zr_getR (pc := 3) (t := 2) cx lk_X12_98 hP nM_0 sM_0 rfl dX12_isPlant_3 ?_
  refine lv_iconst (pc := 6) hx hb dX12_isPlant_6 zc_1 ?_
  obtain ⟨g1, h⟩ := zGd_e h
  refine zr_iald (pc := 7) cx hP nM_2 sM_2 g1 dX12_isPlant_7 ?_
  refine lv_iconst (pc := 8) hx hb dX12_isPlant_8 zc_1 ?_
  refine lv_isub (pc := 9) hx hb dX12_isPlant_9 ?_
  obtain ⟨r3, k2, h⟩ := zBd_e h
  refine zr_SI (pc := 10) (rest := []) cx cv_X12_75 (mX12_isIn k2) ⟨⟨rfl, rfl⟩, Nat.le_of_ble_eq_true rfl, Nat.le_of_ble_eq_true rfl⟩ ⟨Nat.le_of_ble_eq_true rfl, Nat.le_of_ble_eq_true rfl⟩ (zr_preK cx) hl.1 rfl rfl (Nat.le_of_ble_eq_true rfl) dX12_isPlant_10 ?_
  obtain ⟨g4, h⟩ := zGd_e h
  have hz := Option.some.inj h
  exact zr_reZ (pc := 13) cx hr hlk hz g4 dX12_isPlant_13
-- X12_carry
abbrev rmX12_carry : Room := { frames := 6, cells := 0, slots := 0, locals := 139 }
def fX12_carry_31 (S : zSt)  (t0 : Int32) (t1 : Int32) (t2 : Int32) (t3 : Int32) (t4 : Int32) : Option (Int32 × zSt) :=
  zBp (fX12_doIt S t4 t3 t2 t1 t0) (fun r7 S6 => some (r7, S6))
set_option maxHeartbeats 4000000 in
set_option maxRecDepth 100000 in
theorem kX12_carry_31 {p : Program} {l : Launch} {e : Env} {s : State} {m : MethodId} {args : Array Value} {below : List Frame} {meth : Method} {c : Code} {D : va_G} {cy : Nat → ClassId} {q : Nat → Nat} {A : Nat → Prop} (cx : zX RX12 cX12_carry 3 p s m args c D cy) (hr : meth.sig.returnType = (some .int)) (hlk : meth.locks = false) (hq : zQ A q zNM) {z : (Int32 × zSt)} {S : zSt} {t0 : Int32} {t1 : Int32} {t2 : Int32} {t3 : Int32} {t4 : Int32} (h : fX12_carry_31 S t0 t1 t2 t3 t4 = some z) {H : Heap} {locs : List Loc} (hP : va_P D vwCl (zW zshM zNM cy q S) H) (hS : va_S A s.heap H locs) {ls : Array Slot} (hl : lv_has ls 3 []) : W p l e rmX12_carry s m args below meth c H locs 0 0 (MQ below (va_Qi (fun (r : Int32) (u : zSt) => (r, u) = z) (fun u t => va_P D vwCl (zW zshM zNM cy q u) t.heap) A) args s 0 0 A) (F0 m 31 ls [.int t0, .int t1, .int t2, .int t3, .int t4, .ref (q 0)]) := by
  have hx := cx.1
  have hb := cx.2.1
  unfold fX12_carry_31 at h
  obtain ⟨r7, S6, k5, h⟩ := zBp_e h
  refine zr_VQ (pc := 31) (rest := []) cx cv_X12_292 (mX12_doIt hq k5) ⟨⟨rfl, rfl⟩, Nat.le_of_ble_eq_true rfl, Nat.le_of_ble_eq_true rfl⟩ ⟨Nat.le_of_ble_eq_true rfl, Nat.le_of_ble_eq_true rfl⟩ hP hS nM_0 sM_0 rfl hl.1 rfl rfl (Nat.le_of_ble_eq_true rfl) dX12_carry_31 (fun H locs hP hS => ?_)
  have hz := Option.some.inj h
  exact zr_rqI (pc := 34) cx hr hlk hP hS hz dX12_carry_34
def fX12_carry_30 (S : zSt)  (t0 : Int32) (t1 : Int32) (t2 : Int32) (t3 : Int32) : Option (Int32 × zSt) :=
  fX12_carry_31 S (0 : Int32) t0 t1 t2 t3
set_option maxHeartbeats 4000000 in
set_option maxRecDepth 100000 in
theorem kX12_carry_30 {p : Program} {l : Launch} {e : Env} {s : State} {m : MethodId} {args : Array Value} {below : List Frame} {meth : Method} {c : Code} {D : va_G} {cy : Nat → ClassId} {q : Nat → Nat} {A : Nat → Prop} (cx : zX RX12 cX12_carry 3 p s m args c D cy) (hr : meth.sig.returnType = (some .int)) (hlk : meth.locks = false) (hq : zQ A q zNM) {z : (Int32 × zSt)} {S : zSt} {t0 : Int32} {t1 : Int32} {t2 : Int32} {t3 : Int32} (h : fX12_carry_30 S t0 t1 t2 t3 = some z) {H : Heap} {locs : List Loc} (hP : va_P D vwCl (zW zshM zNM cy q S) H) (hS : va_S A s.heap H locs) {ls : Array Slot} (hl : lv_has ls 3 []) : W p l e rmX12_carry s m args below meth c H locs 0 0 (MQ below (va_Qi (fun (r : Int32) (u : zSt) => (r, u) = z) (fun u t => va_P D vwCl (zW zshM zNM cy q u) t.heap) A) args s 0 0 A) (F0 m 30 ls [.int t0, .int t1, .int t2, .int t3, .ref (q 0)]) := by
  have hx := cx.1
  have hb := cx.2.1
  unfold fX12_carry_30 at h
  refine lv_iconst (pc := 30) hx hb dX12_carry_30 zc_0 ?_
  exact kX12_carry_31 cx hr hlk hq h hP hS (lv_sub hl [] rfl)
def fX12_carry (S : zSt) (v1 : Int32) (v2 : Int32) : Option (Int32 × zSt) :=
  zLt (zI S 0 0 (0 : Int32)) (fun S1 => zBd (fX12_isPlant S1 v1) (fun r3 => zBr (r3 = 0) (fX12_carry_30 S1 (0 : Int32) v2 v1 (2 : Int32)) (zBd (fX12_isParlour S1 v2) (fun r9 => zBr (r9 = 0) (fX12_carry_30 S1 (0 : Int32) v2 v1 (2 : Int32)) (fX12_carry_31 S1 (1 : Int32) (0 : Int32) v2 v1 (2 : Int32))))))
set_option maxHeartbeats 4000000 in
set_option maxRecDepth 100000 in
theorem mX12_carry {l : Launch} {D : va_G} {cy : Nat → ClassId} {q : Nat → Nat} {A : Nat → Prop} {S : zSt} {v1 : Int32} {v2 : Int32} (hq : zQ A q zNM) {z : (Int32 × zSt)} (h : fX12_carry S v1 v2 = some z) : zMq l yX12_carry cX12_carry 3 (some .int) rmX12_carry [.ref (q 0), .int v1, .int v2] zshM zNM D cy q A S z := by
  refine Met.ofW (cc := cX12_carry) (maxL := 3) (ret := (some .int)) (by decide) rfl ?_
  intro p e s m args below meth c s₁ B hml hv
  obtain ⟨rfl, hP, hK⟩ := hv
  have cx : zX RX12 cX12_carry 3 p s m ([.ref (q 0), .int v1, .int v2]).toArray c D cy := ⟨B.exec, B.bytes, hml, findClass_of_methodNamed B.named, fun w hw => atoms_spec (ws := Cond.code yX12_carry cX12_carry 3 (some .int) :: zTB) B.pre w (List.mem_cons_of_mem _ hw), hK⟩
  have hx := cx.1
  have hb := cx.2.1
  have hr := B.returns
  have hlk := B.notSynchronized
  have hS : va_S A s.heap s.heap [] := va_S.rf
  have hl := lv_entry ([.ref (q 0), .int v1, .int v2]) (n := 3) (Nat.le_of_ble_eq_true rfl)
  rw [lg_entry_eq]
  generalize (lg_sl ([.ref (q 0), .int v1, .int v2]) ++ List.replicate (3 - (lg_sl ([.ref (q 0), .int v1, .int v2])).length) Slot.unset).toArray = ls at hl ⊢
  have hl : lv_has ls 3 [(0, .ref (q 0)), (1, .int v1), (2, .int v2)] := hl
  unfold fX12_carry at h
  refine lv_aload_n (pc := 0) hx hb dX12_carry_0 rfl (lv_at hl 0 rfl) ?_
  refine lv_iconst (pc := 1) hx hb dX12_carry_1 zc_0 ?_
  obtain ⟨S1, eS1, h⟩ := zLt_e h
  refine zr_putI (pc := 2) cx lq_X12_1 hq hP hS nM_0 sM_0 rfl rfl rfl dX12_carry_2 (fun H locs hP hS => ?_)
  rw [← eS1] at hP
  refine lv_aload_n (pc := 5) hx hb dX12_carry_5 rfl (lv_at hl 0 rfl) ?_
  refine lv_iconst (pc := 6) hx hb dX12_carry_6 zc_2 ?_
  refine lv_iload_n (pc := 7) hx hb dX12_carry_7 rfl (lv_at hl 1 rfl) ?_
  refine lv_iload_n (pc := 8) hx hb dX12_carry_8 rfl (lv_at hl 2 rfl) ?_
  refine lv_iconst (pc := 9) hx hb dX12_carry_9 zc_0 ?_
  refine lv_aload_n (pc := 10) hx hb dX12_carry_10 rfl (lv_at hl 0 rfl) ?_
  refine lv_iload_n (pc := 11) hx hb dX12_carry_11 rfl (lv_at hl 1 rfl) ?_
  obtain ⟨r3, k2, h⟩ := zBd_e h
  refine zr_VI (pc := 12) (rest := [.int (0 : Int32), .int v2, .int v1, .int (2 : Int32), .ref (q 0)]) cx cv_X12_244 (mX12_isPlant k2) ⟨⟨rfl, rfl⟩, Nat.le_of_ble_eq_true rfl, Nat.le_of_ble_eq_true rfl⟩ ⟨Nat.le_of_ble_eq_true rfl, Nat.le_of_ble_eq_true rfl⟩ hP nM_0 sM_0 rfl hl.1 rfl rfl (Nat.le_of_ble_eq_true rfl) dX12_carry_12 ?_
  refine lv_if_eq (pc := 15) (tgt := 30) hx hb dX12_carry_15 (by decide) (fun c4 => ?_) (fun c4 => ?_)
  · replace h := zBr_t c4 h
    exact kX12_carry_30 cx hr hlk hq h hP hS (lv_sub hl [] rfl)
  · replace h := zBr_f c4 h
    refine lv_aload_n (pc := 18) hx hb dX12_carry_18 rfl (lv_at hl 0 rfl) ?_
    refine lv_iload_n (pc := 19) hx hb dX12_carry_19 rfl (lv_at hl 2 rfl) ?_
    obtain ⟨r9, k8, h⟩ := zBd_e h
    refine zr_VI (pc := 20) (rest := [.int (0 : Int32), .int v2, .int v1, .int (2 : Int32), .ref (q 0)]) cx cv_X12_259 (mX12_isParlour k8) ⟨⟨rfl, rfl⟩, Nat.le_of_ble_eq_true rfl, Nat.le_of_ble_eq_true rfl⟩ ⟨Nat.le_of_ble_eq_true rfl, Nat.le_of_ble_eq_true rfl⟩ hP nM_0 sM_0 rfl hl.1 rfl rfl (Nat.le_of_ble_eq_true rfl) dX12_carry_20 ?_
    refine lv_if_eq (pc := 23) (tgt := 30) hx hb dX12_carry_23 (by decide) (fun c10 => ?_) (fun c10 => ?_)
    · replace h := zBr_t c10 h
      exact kX12_carry_30 cx hr hlk hq h hP hS (lv_sub hl [] rfl)
    · replace h := zBr_f c10 h
      refine lv_iconst (pc := 26) hx hb dX12_carry_26 zc_1 ?_
      refine lv_goto (pc := 27) (tgt := 31) hx hb dX12_carry_27 (by decide) ?_
      exact kX12_carry_31 cx hr hlk hq h hP hS (lv_sub hl [] rfl)
-- X12_cellOf
abbrev rmX12_cellOf : Room := { frames := 0, cells := 0, slots := 0, locals := 0 }
def fX12_cellOf (v0 : Int32) (v1 : Int32) : Option Int32 :=
  some (((32 : Int32) * v0) + v1)
set_option maxHeartbeats 4000000 in
set_option maxRecDepth 100000 in
theorem mX12_cellOf {l : Launch} {D : va_G} {cy : Nat → ClassId} {v0 : Int32} {v1 : Int32} {z : Int32} (h : fX12_cellOf v0 v1 = some z) : zMi l yX12_cellOf cX12_cellOf 2 (some .int) rmX12_cellOf [.int v0, .int v1] (zPk D cy) z := by
  refine Met.ofW (cc := cX12_cellOf) (maxL := 2) (ret := (some .int)) (by decide) rfl ?_
  intro p e s m args below meth c s₁ B hml hv
  obtain ⟨rfl, hK⟩ := hv
  have cx : zX RX12 cX12_cellOf 2 p s m ([.int v0, .int v1]).toArray c D cy := ⟨B.exec, B.bytes, hml, findClass_of_methodNamed B.named, fun w hw => atoms_spec (ws := Cond.code yX12_cellOf cX12_cellOf 2 (some .int) :: zTB) B.pre w (List.mem_cons_of_mem _ hw), hK⟩
  have hx := cx.1
  have hb := cx.2.1
  have hr := B.returns
  have hlk := B.notSynchronized
  have hl := lv_entry ([.int v0, .int v1]) (n := 2) (Nat.le_of_ble_eq_true rfl)
  rw [lg_entry_eq]
  generalize (lg_sl ([.int v0, .int v1]) ++ List.replicate (2 - (lg_sl ([.int v0, .int v1])).length) Slot.unset).toArray = ls at hl ⊢
  have hl : lv_has ls 2 [(0, .int v0), (1, .int v1)] := hl
  unfold fX12_cellOf at h
  refine lv_bipush (pc := 0) hx hb dX12_cellOf_0 zb_32 ?_
  refine lv_iload_n (pc := 2) hx hb dX12_cellOf_2 rfl (lv_at hl 0 rfl) ?_
  refine lv_imul (pc := 3) hx hb dX12_cellOf_3 ?_
  refine lv_iload_n (pc := 4) hx hb dX12_cellOf_4 rfl (lv_at hl 1 rfl) ?_
  refine lv_iadd (pc := 5) hx hb dX12_cellOf_5 ?_
  have hz := Option.some.inj h
  exact zr_reI (pc := 6) cx hr hlk hz dX12_cellOf_6
-- X12_choose
abbrev rmX12_choose : Room := { frames := 0, cells := 0, slots := 0, locals := 0 }
def fX12_choose (S : zSt) (v1 : Int32) (v2 : Int32) : Option zSt :=
  zGd (zIx (0 : Int32) 3) (zLt (zI S 14 (0 : Int32).toNatClampNeg v1) (fun S2 => zGd (zIx (1 : Int32) 3) (zLt (zI S2 14 (1 : Int32).toNatClampNeg v2) (fun S4 => zGd (zIx (2 : Int32) 3) (zLt (zI S4 14 (2 : Int32).toNatClampNeg (S4.1 0 32)) (fun S6 => some S6))))))
set_option maxHeartbeats 4000000 in
set_option maxRecDepth 100000 in
theorem mX12_choose {l : Launch} {D : va_G} {cy : Nat → ClassId} {q : Nat → Nat} {A : Nat → Prop} {S : zSt} {v1 : Int32} {v2 : Int32} (hq : zQ A q zNM) {z : zSt} (h : fX12_choose S v1 v2 = some z) : zMv l yX12_choose cX12_choose 3 none rmX12_choose [.ref (q 0), .int v1, .int v2] zshM zNM D cy q A S z := by
  refine Met.ofW (cc := cX12_choose) (maxL := 3) (ret := none) (by decide) rfl ?_
  intro p e s m args below meth c s₁ B hml hv
  obtain ⟨rfl, hP, hK⟩ := hv
  have cx : zX RX12 cX12_choose 3 p s m ([.ref (q 0), .int v1, .int v2]).toArray c D cy := ⟨B.exec, B.bytes, hml, findClass_of_methodNamed B.named, fun w hw => atoms_spec (ws := Cond.code yX12_choose cX12_choose 3 none :: zTB) B.pre w (List.mem_cons_of_mem _ hw), hK⟩
  have hx := cx.1
  have hb := cx.2.1
  have hr := B.returns
  have hlk := B.notSynchronized
  have hS : va_S A s.heap s.heap [] := va_S.rf
  have hl := lv_entry ([.ref (q 0), .int v1, .int v2]) (n := 3) (Nat.le_of_ble_eq_true rfl)
  rw [lg_entry_eq]
  generalize (lg_sl ([.ref (q 0), .int v1, .int v2]) ++ List.replicate (3 - (lg_sl ([.ref (q 0), .int v1, .int v2])).length) Slot.unset).toArray = ls at hl ⊢
  have hl : lv_has ls 3 [(0, .ref (q 0)), (1, .int v1), (2, .int v2)] := hl
  unfold fX12_choose at h
  refine lv_aload_n (pc := 0) hx hb dX12_choose_0 rfl (lv_at hl 0 rfl) ?_
  refine zr_getR (pc := 1) (t := 14) cx lk_X12_142 hP nM_0 sM_0 rfl dX12_choose_1 ?_
  refine lv_iconst (pc := 4) hx hb dX12_choose_4 zc_0 ?_
  refine lv_iload_n (pc := 5) hx hb dX12_choose_5 rfl (lv_at hl 1 rfl) ?_
  obtain ⟨g1, h⟩ := zGd_e h
  obtain ⟨S2, eS2, h⟩ := zLt_e h
  refine zr_iast (pc := 6) cx hq hP hS nM_14 sM_14 g1 dX12_choose_6 (fun H locs hP hS => ?_)
  rw [← eS2] at hP
  refine lv_aload_n (pc := 7) hx hb dX12_choose_7 rfl (lv_at hl 0 rfl) ?_
  refine zr_getR (pc := 8) (t := 14) cx lk_X12_142 hP nM_0 sM_0 rfl dX12_choose_8 ?_
  refine lv_iconst (pc := 11) hx hb dX12_choose_11 zc_1 ?_
  refine lv_iload_n (pc := 12) hx hb dX12_choose_12 rfl (lv_at hl 2 rfl) ?_
  obtain ⟨g3, h⟩ := zGd_e h
  obtain ⟨S4, eS4, h⟩ := zLt_e h
  refine zr_iast (pc := 13) cx hq hP hS nM_14 sM_14 g3 dX12_choose_13 (fun H locs hP hS => ?_)
  rw [← eS4] at hP
  refine lv_aload_n (pc := 14) hx hb dX12_choose_14 rfl (lv_at hl 0 rfl) ?_
  refine zr_getR (pc := 15) (t := 14) cx lk_X12_142 hP nM_0 sM_0 rfl dX12_choose_15 ?_
  refine lv_iconst (pc := 18) hx hb dX12_choose_18 zc_2 ?_
  refine lv_aload_n (pc := 19) hx hb dX12_choose_19 rfl (lv_at hl 0 rfl) ?_
  refine zr_getI (pc := 20) cx lk_X12_320 hP nM_0 sM_0 rfl dX12_choose_20 ?_
  obtain ⟨g5, h⟩ := zGd_e h
  obtain ⟨S6, eS6, h⟩ := zLt_e h
  refine zr_iast (pc := 23) cx hq hP hS nM_14 sM_14 g5 dX12_choose_23 (fun H locs hP hS => ?_)
  rw [← eS6] at hP
  have hz := Option.some.inj h
  exact zr_rqV (pc := 24) cx hr hlk hP hS hz dX12_choose_24
