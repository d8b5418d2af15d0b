theorem wd_1467 : (Jvm.Cond.methodLink "ParlourLeavesModel" (14 : Nat) ({ cls := "ParlourLeavesModel", name := "come", desc := "(I)V" } : Jvm.MethodName)) ∈ zTB := List.mem_filter.mpr ⟨List.mem_append_right _ (List.mem_append_right _ (List.mem_append_right _ (List.mem_append_right _ (List.mem_append_right _ (List.mem_append_right _ (List.mem_append_right _ (List.mem_append_left _ (List.mem_of_getElem? (i := 27) rfl)))))))), rfl⟩
theorem wd_1469 : (Jvm.Cond.instanceMethod ({ cls := "ParlourLeavesModel", name := "come", desc := "(I)V" } : Jvm.MethodName)) ∈ zTB := List.mem_filter.mpr ⟨List.mem_append_right _ (List.mem_append_right _ (List.mem_append_right _ (List.mem_append_right _ (List.mem_append_right _ (List.mem_append_right _ (List.mem_append_right _ (List.mem_append_left _ (List.mem_of_getElem? (i := 29) rfl)))))))), rfl⟩
theorem wd_1471 : (Jvm.Cond.code ({ cls := "ParlourLeavesModel", name := "come", desc := "(I)V" } : Jvm.MethodName) prog_14_method_3_code (3 : Nat) (Option.none : Option Jvm.ClassFile.FieldType)) ∈ zTB := List.mem_filter.mpr ⟨List.mem_append_right _ (List.mem_append_right _ (List.mem_append_right _ (List.mem_append_right _ (List.mem_append_right _ (List.mem_append_right _ (List.mem_append_right _ (List.mem_append_left _ (List.mem_of_getElem? (i := 31) rfl)))))))), rfl⟩
theorem wd_1500 : (Jvm.Cond.fieldLink "ParlourLeavesModel" (101 : Nat) "ParlourLeavesModel" "read" "[I") ∈ zTB := List.mem_filter.mpr ⟨List.mem_append_right _ (List.mem_append_right _ (List.mem_append_right _ (List.mem_append_right _ (List.mem_append_right _ (List.mem_append_right _ (List.mem_append_right _ (List.mem_append_left _ (List.mem_of_getElem? (i := 60) rfl)))))))), rfl⟩
theorem wd_1505 : (Jvm.Cond.fieldLink "ParlourLeavesModel" (117 : Nat) "ParlourLeavesModel" "readName" "[J") ∈ zTB := List.mem_filter.mpr ⟨List.mem_append_right _ (List.mem_append_right _ (List.mem_append_right _ (List.mem_append_right _ (List.mem_append_right _ (List.mem_append_right _ (List.mem_append_right _ (List.mem_append_left _ (List.mem_of_getElem? (i := 65) rfl)))))))), rfl⟩
theorem wd_1508 : (Jvm.Cond.fieldLink "ParlourLeavesModel" (127 : Nat) "ParlourLeavesModel" "onces" "[Z") ∈ zTB := List.mem_filter.mpr ⟨List.mem_append_right _ (List.mem_append_right _ (List.mem_append_right _ (List.mem_append_right _ (List.mem_append_right _ (List.mem_append_right _ (List.mem_append_right _ (List.mem_append_left _ (List.mem_of_getElem? (i := 68) rfl)))))))), rfl⟩
theorem wd_1663 : (Jvm.Cond.methodLink "ParlourLeavesModel" (194 : Nat) ({ cls := "ParlourLeavesModel", name := "readPlain", desc := "(III)Z" } : Jvm.MethodName)) ∈ zTB := List.mem_filter.mpr ⟨List.mem_append_right _ (List.mem_append_right _ (List.mem_append_right _ (List.mem_append_right _ (List.mem_append_right _ (List.mem_append_right _ (List.mem_append_right _ (List.mem_append_left _ (List.mem_of_getElem? (i := 223) rfl)))))))), rfl⟩
theorem wd_1665 : (Jvm.Cond.instanceMethod ({ cls := "ParlourLeavesModel", name := "readPlain", desc := "(III)Z" } : Jvm.MethodName)) ∈ zTB := List.mem_filter.mpr ⟨List.mem_append_right _ (List.mem_append_right _ (List.mem_append_right _ (List.mem_append_right _ (List.mem_append_right _ (List.mem_append_right _ (List.mem_append_right _ (List.mem_append_left _ (List.mem_of_getElem? (i := 225) rfl)))))))), rfl⟩
theorem wd_1666 : (Jvm.Cond.code ({ cls := "ParlourLeavesModel", name := "readPlain", desc := "(III)Z" } : Jvm.MethodName) prog_14_method_34_code (4 : Nat) (Option.some Jvm.ClassFile.FieldType.boolean)) ∈ zTB := List.mem_filter.mpr ⟨List.mem_append_right _ (List.mem_append_right _ (List.mem_append_right _ (List.mem_append_right _ (List.mem_append_right _ (List.mem_append_right _ (List.mem_append_right _ (List.mem_append_left _ (List.mem_of_getElem? (i := 226) rfl)))))))), rfl⟩
theorem wd_1667 : (Jvm.Cond.methodLink "ParlourLeavesModel" (171 : Nat) ({ cls := "ParlourLeavesModel", name := "readFirst", desc := "(II)Z" } : Jvm.MethodName)) ∈ zTB := List.mem_filter.mpr ⟨List.mem_append_right _ (List.mem_append_right _ (List.mem_append_right _ (List.mem_append_right _ (List.mem_append_right _ (List.mem_append_right _ (List.mem_append_right _ (List.mem_append_left _ (List.mem_of_getElem? (i := 227) rfl)))))))), rfl⟩
theorem wd_1669 : (Jvm.Cond.instanceMethod ({ cls := "ParlourLeavesModel", name := "readFirst", desc := "(II)Z" } : Jvm.MethodName)) ∈ zTB := List.mem_filter.mpr ⟨List.mem_append_right _ (List.mem_append_right _ (List.mem_append_right _ (List.mem_append_right _ (List.mem_append_right _ (List.mem_append_right _ (List.mem_append_right _ (List.mem_append_left _ (List.mem_of_getElem? (i := 229) rfl)))))))), rfl⟩
theorem wd_1670 : (Jvm.Cond.code ({ cls := "ParlourLeavesModel", name := "readFirst", desc := "(II)Z" } : Jvm.MethodName) prog_14_method_32_code (3 : Nat) (Option.some Jvm.ClassFile.FieldType.boolean)) ∈ zTB := List.mem_filter.mpr ⟨List.mem_append_right _ (List.mem_append_right _ (List.mem_append_right _ (List.mem_append_right _ (List.mem_append_right _ (List.mem_append_right _ (List.mem_append_right _ (List.mem_append_left _ (List.mem_of_getElem? (i := 230) rfl)))))))), rfl⟩
theorem wd_1675 : (Jvm.Cond.methodLink "ParlourLeavesModel" (175 : Nat) ({ cls := "ParlourLeavesModel", name := "readNew", desc := "(I)Z" } : Jvm.MethodName)) ∈ zTB := List.mem_filter.mpr ⟨List.mem_append_right _ (List.mem_append_right _ (List.mem_append_right _ (List.mem_append_right _ (List.mem_append_right _ (List.mem_append_right _ (List.mem_append_right _ (List.mem_append_left _ (List.mem_of_getElem? (i := 235) rfl)))))))), rfl⟩
theorem wd_1677 : (Jvm.Cond.instanceMethod ({ cls := "ParlourLeavesModel", name := "readNew", desc := "(I)Z" } : Jvm.MethodName)) ∈ zTB := List.mem_filter.mpr ⟨List.mem_append_right _ (List.mem_append_right _ (List.mem_append_right _ (List.mem_append_right _ (List.mem_append_right _ (List.mem_append_right _ (List.mem_append_right _ (List.mem_append_left _ (List.mem_of_getElem? (i := 237) rfl)))))))), rfl⟩
theorem wd_1678 : (Jvm.Cond.code ({ cls := "ParlourLeavesModel", name := "readNew", desc := "(I)Z" } : Jvm.MethodName) prog_14_method_30_code (2 : Nat) (Option.some Jvm.ClassFile.FieldType.boolean)) ∈ zTB := List.mem_filter.mpr ⟨List.mem_append_right _ (List.mem_append_right _ (List.mem_append_right _ (List.mem_append_right _ (List.mem_append_right _ (List.mem_append_right _ (List.mem_append_right _ (List.mem_append_left _ (List.mem_of_getElem? (i := 238) rfl)))))))), rfl⟩
theorem wd_1683 : (Jvm.Cond.methodLink "ParlourLeavesModel" (168 : Nat) ({ cls := "ParlourLeavesModel", name := "isTaken", desc := "()Z" } : Jvm.MethodName)) ∈ zTB := List.mem_filter.mpr ⟨List.mem_append_right _ (List.mem_append_right _ (List.mem_append_right _ (List.mem_append_right _ (List.mem_append_right _ (List.mem_append_right _ (List.mem_append_right _ (List.mem_append_right _ (List.mem_append_left _ (List.mem_of_getElem? (i := 3) rfl))))))))), rfl⟩
theorem wd_1685 : (Jvm.Cond.instanceMethod ({ cls := "ParlourLeavesModel", name := "isTaken", desc := "()Z" } : Jvm.MethodName)) ∈ zTB := List.mem_filter.mpr ⟨List.mem_append_right _ (List.mem_append_right _ (List.mem_append_right _ (List.mem_append_right _ (List.mem_append_right _ (List.mem_append_right _ (List.mem_append_right _ (List.mem_append_right _ (List.mem_append_left _ (List.mem_of_getElem? (i := 5) rfl))))))))), rfl⟩
theorem wd_1686 : (Jvm.Cond.code ({ cls := "ParlourLeavesModel", name := "isTaken", desc := "()Z" } : Jvm.MethodName) prog_14_method_29_code (1 : Nat) (Option.some Jvm.ClassFile.FieldType.boolean)) ∈ zTB := List.mem_filter.mpr ⟨List.mem_append_right _ (List.mem_append_right _ (List.mem_append_right _ (List.mem_append_right _ (List.mem_append_right _ (List.mem_append_right _ (List.mem_append_right _ (List.mem_append_right _ (List.mem_append_left _ (List.mem_of_getElem? (i := 6) rfl))))))))), rfl⟩
theorem wd_1690 : (Jvm.Cond.methodLink "ParlourLeavesModel" (197 : Nat) ({ cls := "ParlourLeavesModel", name := "readSight", desc := "()Z" } : Jvm.MethodName)) ∈ zTB := List.mem_filter.mpr ⟨List.mem_append_right _ (List.mem_append_right _ (List.mem_append_right _ (List.mem_append_right _ (List.mem_append_right _ (List.mem_append_right _ (List.mem_append_right _ (List.mem_append_right _ (List.mem_append_left _ (List.mem_of_getElem? (i := 10) rfl))))))))), rfl⟩
theorem wd_1692 : (Jvm.Cond.instanceMethod ({ cls := "ParlourLeavesModel", name := "readSight", desc := "()Z" } : Jvm.MethodName)) ∈ zTB := List.mem_filter.mpr ⟨List.mem_append_right _ (List.mem_append_right _ (List.mem_append_right _ (List.mem_append_right _ (List.mem_append_right _ (List.mem_append_right _ (List.mem_append_right _ (List.mem_append_right _ (List.mem_append_left _ (List.mem_of_getElem? (i := 12) rfl))))))))), rfl⟩
theorem wd_1693 : (Jvm.Cond.code ({ cls := "ParlourLeavesModel", name := "readSight", desc := "()Z" } : Jvm.MethodName) prog_14_method_35_code (2 : Nat) (Option.some Jvm.ClassFile.FieldType.boolean)) ∈ zTB := List.mem_filter.mpr ⟨List.mem_append_right _ (List.mem_append_right _ (List.mem_append_right _ (List.mem_append_right _ (List.mem_append_right _ (List.mem_append_right _ (List.mem_append_right _ (List.mem_append_right _ (List.mem_append_left _ (List.mem_of_getElem? (i := 13) rfl))))))))), rfl⟩
theorem wd_1694 : (Jvm.Cond.methodLink "ParlourLeavesModel" (178 : Nat) ({ cls := "ParlourLeavesModel", name := "isParlourHere", desc := "()Z" } : Jvm.MethodName)) ∈ zTB := List.mem_filter.mpr ⟨List.mem_append_right _ (List.mem_append_right _ (List.mem_append_right _ (List.mem_append_right _ (List.mem_append_right _ (List.mem_append_right _ (List.mem_append_right _ (List.mem_append_right _ (List.mem_append_left _ (List.mem_of_getElem? (i := 14) rfl))))))))), rfl⟩
theorem wd_1696 : (Jvm.Cond.instanceMethod ({ cls := "ParlourLeavesModel", name := "isParlourHere", desc := "()Z" } : Jvm.MethodName)) ∈ zTB := List.mem_filter.mpr ⟨List.mem_append_right _ (List.mem_append_right _ (List.mem_append_right _ (List.mem_append_right _ (List.mem_append_right _ (List.mem_append_right _ (List.mem_append_right _ (List.mem_append_right _ (List.mem_append_left _ (List.mem_of_getElem? (i := 16) rfl))))))))), rfl⟩
theorem wd_1697 : (Jvm.Cond.code ({ cls := "ParlourLeavesModel", name := "isParlourHere", desc := "()Z" } : Jvm.MethodName) prog_14_method_31_code (1 : Nat) (Option.some Jvm.ClassFile.FieldType.boolean)) ∈ zTB := List.mem_filter.mpr ⟨List.mem_append_right _ (List.mem_append_right _ (List.mem_append_right _ (List.mem_append_right _ (List.mem_append_right _ (List.mem_append_right _ (List.mem_append_right _ (List.mem_append_right _ (List.mem_append_left _ (List.mem_of_getElem? (i := 17) rfl))))))))), rfl⟩
theorem wd_1701 : (Jvm.Cond.methodLink "ParlourLeavesModel" (200 : Nat) ({ cls := "ParlourLeavesModel", name := "readPlant", desc := "()Z" } : Jvm.MethodName)) ∈ zTB := List.mem_filter.mpr ⟨List.mem_append_right _ (List.mem_append_right _ (List.mem_append_right _ (List.mem_append_right _ (List.mem_append_right _ (List.mem_append_right _ (List.mem_append_right _ (List.mem_append_right _ (List.mem_append_left _ (List.mem_of_getElem? (i := 21) rfl))))))))), rfl⟩
theorem wd_1703 : (Jvm.Cond.instanceMethod ({ cls := "ParlourLeavesModel", name := "readPlant", desc := "()Z" } : Jvm.MethodName)) ∈ zTB := List.mem_filter.mpr ⟨List.mem_append_right _ (List.mem_append_right _ (List.mem_append_right _ (List.mem_append_right _ (List.mem_append_right _ (List.mem_append_right _ (List.mem_append_right _ (List.mem_append_right _ (List.mem_append_left _ (List.mem_of_getElem? (i := 23) rfl))))))))), rfl⟩
theorem wd_1704 : (Jvm.Cond.code ({ cls := "ParlourLeavesModel", name := "readPlant", desc := "()Z" } : Jvm.MethodName) prog_14_method_36_code (2 : Nat) (Option.some Jvm.ClassFile.FieldType.boolean)) ∈ zTB := List.mem_filter.mpr ⟨List.mem_append_right _ (List.mem_append_right _ (List.mem_append_right _ (List.mem_append_right _ (List.mem_append_right _ (List.mem_append_right _ (List.mem_append_right _ (List.mem_append_right _ (List.mem_append_left _ (List.mem_of_getElem? (i := 24) rfl))))))))), rfl⟩
theorem wd_1705 : (Jvm.Cond.methodLink "ParlourLeavesModel" (184 : Nat) ({ cls := "ParlourLeavesModel", name := "put", desc := "(IZ)Z" } : Jvm.MethodName)) ∈ zTB := List.mem_filter.mpr ⟨List.mem_append_right _ (List.mem_append_right _ (List.mem_append_right _ (List.mem_append_right _ (List.mem_append_right _ (List.mem_append_right _ (List.mem_append_right _ (List.mem_append_right _ (List.mem_append_left _ (List.mem_of_getElem? (i := 25) rfl))))))))), rfl⟩
theorem wd_1707 : (Jvm.Cond.instanceMethod ({ cls := "ParlourLeavesModel", name := "put", desc := "(IZ)Z" } : Jvm.MethodName)) ∈ zTB := List.mem_filter.mpr ⟨List.mem_append_right _ (List.mem_append_right _ (List.mem_append_right _ (List.mem_append_right _ (List.mem_append_right _ (List.mem_append_right _ (List.mem_append_right _ (List.mem_append_right _ (List.mem_append_left _ (List.mem_of_getElem? (i := 27) rfl))))))))), rfl⟩
theorem wd_1708 : (Jvm.Cond.code ({ cls := "ParlourLeavesModel", name := "put", desc := "(IZ)Z" } : Jvm.MethodName) prog_14_method_33_code (3 : Nat) (Option.some Jvm.ClassFile.FieldType.boolean)) ∈ zTB := List.mem_filter.mpr ⟨List.mem_append_right _ (List.mem_append_right _ (List.mem_append_right _ (List.mem_append_right _ (List.mem_append_right _ (List.mem_append_right _ (List.mem_append_right _ (List.mem_append_right _ (List.mem_append_left _ (List.mem_of_getElem? (i := 28) rfl))))))))), rfl⟩
theorem wd_1716 : (Jvm.Cond.methodLink "ParlourLeavesModel" (203 : Nat) ({ cls := "ParlourLeavesModel", name := "readOnce", desc := "(III)Z" } : Jvm.MethodName)) ∈ zTB := List.mem_filter.mpr ⟨List.mem_append_right _ (List.mem_append_right _ (List.mem_append_right _ (List.mem_append_right _ (List.mem_append_right _ (List.mem_append_right _ (List.mem_append_right _ (List.mem_append_right _ (List.mem_append_left _ (List.mem_of_getElem? (i := 36) rfl))))))))), rfl⟩
theorem wd_1718 : (Jvm.Cond.instanceMethod ({ cls := "ParlourLeavesModel", name := "readOnce", desc := "(III)Z" } : Jvm.MethodName)) ∈ zTB := List.mem_filter.mpr ⟨List.mem_append_right _ (List.mem_append_right _ (List.mem_append_right _ (List.mem_append_right _ (List.mem_append_right _ (List.mem_append_right _ (List.mem_append_right _ (List.mem_append_right _ (List.mem_append_left _ (List.mem_of_getElem? (i := 38) rfl))))))))), rfl⟩
theorem wd_1719 : (Jvm.Cond.code ({ cls := "ParlourLeavesModel", name := "readOnce", desc := "(III)Z" } : Jvm.MethodName) prog_14_method_37_code (4 : Nat) (Option.some Jvm.ClassFile.FieldType.boolean)) ∈ zTB := List.mem_filter.mpr ⟨List.mem_append_right _ (List.mem_append_right _ (List.mem_append_right _ (List.mem_append_right _ (List.mem_append_right _ (List.mem_append_right _ (List.mem_append_right _ (List.mem_append_right _ (List.mem_append_left _ (List.mem_of_getElem? (i := 39) rfl))))))))), rfl⟩
theorem wd_1899 : (Jvm.Cond.methodLink "ParlourLeavesModel" (306 : Nat) ({ cls := "ParlourLeavesModel", name := "size", desc := "(I)I" } : Jvm.MethodName)) ∈ zTB := List.mem_filter.mpr ⟨List.mem_append_right _ (List.mem_append_right _ (List.mem_append_right _ (List.mem_append_right _ (List.mem_append_right _ (List.mem_append_right _ (List.mem_append_right _ (List.mem_append_right _ (List.mem_append_left _ (List.mem_of_getElem? (i := 219) rfl))))))))), rfl⟩
theorem wd_1900 : (Jvm.Cond.static ({ cls := "ParlourLeavesModel", name := "size", desc := "(I)I" } : Jvm.MethodName)) ∈ zTB := List.mem_filter.mpr ⟨List.mem_append_right _ (List.mem_append_right _ (List.mem_append_right _ (List.mem_append_right _ (List.mem_append_right _ (List.mem_append_right _ (List.mem_append_right _ (List.mem_append_right _ (List.mem_append_left _ (List.mem_of_getElem? (i := 220) rfl))))))))), rfl⟩
theorem wd_1901 : (Jvm.Cond.code ({ cls := "ParlourLeavesModel", name := "size", desc := "(I)I" } : Jvm.MethodName) prog_14_method_11_code (1 : Nat) (Option.some Jvm.ClassFile.FieldType.int)) ∈ zTB := List.mem_filter.mpr ⟨List.mem_append_right _ (List.mem_append_right _ (List.mem_append_right _ (List.mem_append_right _ (List.mem_append_right _ (List.mem_append_right _ (List.mem_append_right _ (List.mem_append_right _ (List.mem_append_left _ (List.mem_of_getElem? (i := 221) rfl))))))))), rfl⟩
theorem wp_2_14 : Cond.selects "ParlourLeavesModel" (⟨"ParlourLeavesModel", "come", "(I)V"⟩ : MethodName) (⟨"ParlourLeavesModel", "come", "(I)V"⟩ : MethodName) ∈ zTB := List.mem_filter.mpr ⟨List.mem_append_left _ (List.mem_map.mpr ⟨((⟨"ParlourLeavesModel", "come", "(I)V"⟩ : MethodName), 45), (List.mem_append_right _ (List.mem_append_left _ (List.mem_of_getElem? (i := 14) rfl))), rfl⟩), rfl⟩
theorem wp_3_13 : Cond.selects "ParlourLeavesModel" (⟨"ParlourLeavesModel", "isParlourHere", "()Z"⟩ : MethodName) (⟨"ParlourLeavesModel", "isParlourHere", "()Z"⟩ : MethodName) ∈ zTB := List.mem_filter.mpr ⟨List.mem_append_left _ (List.mem_map.mpr ⟨((⟨"ParlourLeavesModel", "isParlourHere", "()Z"⟩ : MethodName), 45), (List.mem_append_right _ (List.mem_append_right _ (List.mem_append_left _ (List.mem_of_getElem? (i := 13) rfl)))), rfl⟩), rfl⟩
theorem wp_3_11 : Cond.selects "ParlourLeavesModel" (⟨"ParlourLeavesModel", "isTaken", "()Z"⟩ : MethodName) (⟨"ParlourLeavesModel", "isTaken", "()Z"⟩ : MethodName) ∈ zTB := List.mem_filter.mpr ⟨List.mem_append_left _ (List.mem_map.mpr ⟨((⟨"ParlourLeavesModel", "isTaken", "()Z"⟩ : MethodName), 45), (List.mem_append_right _ (List.mem_append_right _ (List.mem_append_left _ (List.mem_of_getElem? (i := 11) rfl)))), rfl⟩), rfl⟩
theorem wp_3_15 : Cond.selects "ParlourLeavesModel" (⟨"ParlourLeavesModel", "put", "(IZ)Z"⟩ : MethodName) (⟨"ParlourLeavesModel", "put", "(IZ)Z"⟩ : MethodName) ∈ zTB := List.mem_filter.mpr ⟨List.mem_append_left _ (List.mem_map.mpr ⟨((⟨"ParlourLeavesModel", "put", "(IZ)Z"⟩ : MethodName), 45), (List.mem_append_right _ (List.mem_append_right _ (List.mem_append_left _ (List.mem_of_getElem? (i := 15) rfl)))), rfl⟩), rfl⟩
theorem wp_3_7 : Cond.selects "ParlourLeavesModel" (⟨"ParlourLeavesModel", "readFirst", "(II)Z"⟩ : MethodName) (⟨"ParlourLeavesModel", "readFirst", "(II)Z"⟩ : MethodName) ∈ zTB := List.mem_filter.mpr ⟨List.mem_append_left _ (List.mem_map.mpr ⟨((⟨"ParlourLeavesModel", "readFirst", "(II)Z"⟩ : MethodName), 45), (List.mem_append_right _ (List.mem_append_right _ (List.mem_append_left _ (List.mem_of_getElem? (i := 7) rfl)))), rfl⟩), rfl⟩
theorem wp_3_9 : Cond.selects "ParlourLeavesModel" (⟨"ParlourLeavesModel", "readNew", "(I)Z"⟩ : MethodName) (⟨"ParlourLeavesModel", "readNew", "(I)Z"⟩ : MethodName) ∈ zTB := List.mem_filter.mpr ⟨List.mem_append_left _ (List.mem_map.mpr ⟨((⟨"ParlourLeavesModel", "readNew", "(I)Z"⟩ : MethodName), 45), (List.mem_append_right _ (List.mem_append_right _ (List.mem_append_left _ (List.mem_of_getElem? (i := 9) rfl)))), rfl⟩), rfl⟩
theorem wp_4_1 : Cond.selects "ParlourLeavesModel" (⟨"ParlourLeavesModel", "readOnce", "(III)Z"⟩ : MethodName) (⟨"ParlourLeavesModel", "readOnce", "(III)Z"⟩ : MethodName) ∈ zTB := List.mem_filter.mpr ⟨List.mem_append_left _ (List.mem_map.mpr ⟨((⟨"ParlourLeavesModel", "readOnce", "(III)Z"⟩ : MethodName), 45), (List.mem_append_right _ (List.mem_append_right _ (List.mem_append_right _ (List.mem_append_left _ (List.mem_of_getElem? (i := 1) rfl))))), rfl⟩), rfl⟩
theorem wp_3_6 : Cond.selects "ParlourLeavesModel" (⟨"ParlourLeavesModel", "readPlain", "(III)Z"⟩ : MethodName) (⟨"ParlourLeavesModel", "readPlain", "(III)Z"⟩ : MethodName) ∈ zTB := List.mem_filter.mpr ⟨List.mem_append_left _ (List.mem_map.mpr ⟨((⟨"ParlourLeavesModel", "readPlain", "(III)Z"⟩ : MethodName), 45), (List.mem_append_right _ (List.mem_append_right _ (List.mem_append_left _ (List.mem_of_getElem? (i := 6) rfl)))), rfl⟩), rfl⟩
theorem wp_3_14 : Cond.selects "ParlourLeavesModel" (⟨"ParlourLeavesModel", "readPlant", "()Z"⟩ : MethodName) (⟨"ParlourLeavesModel", "readPlant", "()Z"⟩ : MethodName) ∈ zTB := List.mem_filter.mpr ⟨List.mem_append_left _ (List.mem_map.mpr ⟨((⟨"ParlourLeavesModel", "readPlant", "()Z"⟩ : MethodName), 45), (List.mem_append_right _ (List.mem_append_right _ (List.mem_append_left _ (List.mem_of_getElem? (i := 14) rfl)))), rfl⟩), rfl⟩
theorem wp_3_12 : Cond.selects "ParlourLeavesModel" (⟨"ParlourLeavesModel", "readSight", "()Z"⟩ : MethodName) (⟨"ParlourLeavesModel", "readSight", "()Z"⟩ : MethodName) ∈ zTB := List.mem_filter.mpr ⟨List.mem_append_left _ (List.mem_map.mpr ⟨((⟨"ParlourLeavesModel", "readSight", "()Z"⟩ : MethodName), 45), (List.mem_append_right _ (List.mem_append_right _ (List.mem_append_left _ (List.mem_of_getElem? (i := 12) rfl)))), rfl⟩), rfl⟩
theorem dn_X12_come : zDn yX12_come 1 := ⟨by decide, by decide, by decide +kernel⟩
theorem dn_X12_size : zDn yX12_size 1 := ⟨by decide, by decide, by decide +kernel⟩
theorem dn_X12_put : zDn yX12_put 2 := ⟨by decide, by decide, by decide +kernel⟩
theorem dn_X12_isTaken : zDn yX12_isTaken 0 := ⟨by decide, by decide, by decide +kernel⟩
theorem dn_X12_readFirst : zDn yX12_readFirst 2 := ⟨by decide, by decide, by decide +kernel⟩
theorem dn_X12_readNew : zDn yX12_readNew 1 := ⟨by decide, by decide, by decide +kernel⟩
theorem dn_X12_isParlourHere : zDn yX12_isParlourHere 0 := ⟨by decide, by decide, by decide +kernel⟩
theorem dn_X12_readOnce : zDn yX12_readOnce 3 := ⟨by decide, by decide, by decide +kernel⟩
theorem dn_X12_readPlain : zDn yX12_readPlain 3 := ⟨by decide, by decide, by decide +kernel⟩
theorem dn_X12_readPlant : zDn yX12_readPlant 0 := ⟨by decide, by decide, by decide +kernel⟩
theorem dn_X12_readSight : zDn yX12_readSight 0 := ⟨by decide, by decide, by decide +kernel⟩
theorem lk_X12_66 : zLk RX12 66 13 10 := ⟨"ParlourLeavesModel", RX12, TX12, 45, rfl, by decide, wsin_X12, wd_1495, rfl⟩
theorem cv_X12_14 : zCV RX12 RX12 14 yX12_come cX12_come 3 none 1 := ⟨rfl, dn_X12_come, wd_1467, wd_1469, wp_2_14, wd_19, wd_1471⟩
theorem cv_X12_306 : zCS RX12 306 yX12_size cX12_size 1 (some .int) 1 := ⟨dn_X12_size, wd_1899, wd_1900, wd_19, wd_1901⟩
theorem lq_X12_130 : zLq RX12 130 13 25 .int := ⟨"ParlourLeavesModel", RX12, TX12, 45, tyX12, rfl, by decide, wsin_X12, wd_1510, rfl, rfl, by decide +kernel, tyX12_ok, nmX12⟩
theorem lk_X12_101 : zLk RX12 101 13 15 := ⟨"ParlourLeavesModel", RX12, TX12, 45, rfl, by decide, wsin_X12, wd_1500, rfl⟩
theorem lk_X12_127 : zLk RX12 127 13 23 := ⟨"ParlourLeavesModel", RX12, TX12, 45, rfl, by decide, wsin_X12, wd_1508, rfl⟩
theorem cv_X12_184 : zCV RX12 RX12 184 yX12_put cX12_put 3 (some .boolean) 2 := ⟨rfl, dn_X12_put, wd_1705, wd_1707, wp_3_15, wd_19, wd_1708⟩
theorem lk_X12_117 : zLk RX12 117 13 20 := ⟨"ParlourLeavesModel", RX12, TX12, 45, rfl, by decide, wsin_X12, wd_1505, rfl⟩
theorem cv_X12_168 : zCV RX12 RX12 168 yX12_isTaken cX12_isTaken 1 (some .boolean) 0 := ⟨rfl, dn_X12_isTaken, wd_1683, wd_1685, wp_3_11, wd_19, wd_1686⟩
theorem cv_X12_171 : zCV RX12 RX12 171 yX12_readFirst cX12_readFirst 3 (some .boolean) 2 := ⟨rfl, dn_X12_readFirst, wd_1667, wd_1669, wp_3_7, wd_19, wd_1670⟩
theorem cv_X12_175 : zCV RX12 RX12 175 yX12_readNew cX12_readNew 2 (some .boolean) 1 := ⟨rfl, dn_X12_readNew, wd_1675, wd_1677, wp_3_9, wd_19, wd_1678⟩
theorem cv_X12_178 : zCV RX12 RX12 178 yX12_isParlourHere cX12_isParlourHere 1 (some .boolean) 0 := ⟨rfl, dn_X12_isParlourHere, wd_1694, wd_1696, wp_3_13, wd_19, wd_1697⟩
theorem cv_X12_203 : zCV RX12 RX12 203 yX12_readOnce cX12_readOnce 4 (some .boolean) 3 := ⟨rfl, dn_X12_readOnce, wd_1716, wd_1718, wp_4_1, wd_19, wd_1719⟩
theorem cv_X12_194 : zCV RX12 RX12 194 yX12_readPlain cX12_readPlain 4 (some .boolean) 3 := ⟨rfl, dn_X12_readPlain, wd_1663, wd_1665, wp_3_6, wd_19, wd_1666⟩
theorem cv_X12_200 : zCV RX12 RX12 200 yX12_readPlant cX12_readPlant 2 (some .boolean) 0 := ⟨rfl, dn_X12_readPlant, wd_1701, wd_1703, wp_3_14, wd_19, wd_1704⟩
theorem cv_X12_197 : zCV RX12 RX12 197 yX12_readSight cX12_readSight 2 (some .boolean) 0 := ⟨rfl, dn_X12_readSight, wd_1690, wd_1692, wp_3_12, wd_19, wd_1693⟩
theorem dX12_fault_0 : decode cX12_fault 0 = .ok (.aload_n 0, 1) := by decide +kernel
theorem dX12_fault_1 : decode cX12_fault 1 = .ok (.iconst 0, 1) := by decide +kernel
theorem dX12_fault_2 : decode cX12_fault 2 = .ok (.putfield 1, 3) := by decide +kernel
theorem dX12_fault_5 : decode cX12_fault 5 = .ok (.aload_n 0, 1) := by decide +kernel
theorem dX12_fault_6 : decode cX12_fault 6 = .ok (.getfield 66, 3) := by decide +kernel
theorem dX12_fault_9 : decode cX12_fault 9 = .ok (.ireturn, 1) := by decide +kernel
theorem dX12_feed_0 : decode cX12_feed 0 = .ok (.aload_n 0, 1) := by decide +kernel
theorem dX12_feed_1 : decode cX12_feed 1 = .ok (.iconst 0, 1) := by decide +kernel
theorem dX12_feed_2 : decode cX12_feed 2 = .ok (.putfield 1, 3) := by decide +kernel
theorem dX12_feed_5 : decode cX12_feed 5 = .ok (.aload_n 0, 1) := by decide +kernel
theorem dX12_feed_6 : decode cX12_feed 6 = .ok (.getfield 11, 3) := by decide +kernel
theorem dX12_feed_9 : decode cX12_feed 9 = .ok (.bipush 20, 2) := by decide +kernel
theorem dX12_feed_11 : decode cX12_feed 11 = .ok (.iadd, 1) := by decide +kernel
theorem dX12_feed_12 : decode cX12_feed 12 = .ok (.sipush 940, 3) := by decide +kernel
theorem dX12_feed_15 : decode cX12_feed 15 = .ok (.if_icmp .le 5, 3) := by decide +kernel
theorem dX12_feed_18 : decode cX12_feed 18 = .ok (.iconst (-1), 1) := by decide +kernel
theorem dX12_feed_19 : decode cX12_feed 19 = .ok (.ireturn, 1) := by decide +kernel
theorem dX12_feed_20 : decode cX12_feed 20 = .ok (.aload_n 0, 1) := by decide +kernel
theorem dX12_feed_21 : decode cX12_feed 21 = .ok (.iload_n 1, 1) := by decide +kernel
theorem dX12_feed_22 : decode cX12_feed 22 = .ok (.invokevirtual 14, 3) := by decide +kernel
theorem dX12_feed_25 : decode cX12_feed 25 = .ok (.aload_n 0, 1) := by decide +kernel
theorem dX12_feed_26 : decode cX12_feed 26 = .ok (.iload_n 2, 1) := by decide +kernel
theorem dX12_feed_27 : decode cX12_feed 27 = .ok (.invokevirtual 14, 3) := by decide +kernel
theorem dX12_feed_30 : decode cX12_feed 30 = .ok (.aload_n 0, 1) := by decide +kernel
theorem dX12_feed_31 : decode cX12_feed 31 = .ok (.iload_n 3, 1) := by decide +kernel
theorem dX12_feed_32 : decode cX12_feed 32 = .ok (.invokevirtual 14, 3) := by decide +kernel
theorem dX12_feed_35 : decode cX12_feed 35 = .ok (.aload_n 0, 1) := by decide +kernel
theorem dX12_feed_36 : decode cX12_feed 36 = .ok (.iload 4, 2) := by decide +kernel
theorem dX12_feed_38 : decode cX12_feed 38 = .ok (.invokevirtual 14, 3) := by decide +kernel
theorem dX12_feed_41 : decode cX12_feed 41 = .ok (.aload_n 0, 1) := by decide +kernel
theorem dX12_feed_42 : decode cX12_feed 42 = .ok (.iload 5, 2) := by decide +kernel
theorem dX12_feed_44 : decode cX12_feed 44 = .ok (.invokevirtual 14, 3) := by decide +kernel
theorem dX12_feed_47 : decode cX12_feed 47 = .ok (.aload_n 0, 1) := by decide +kernel
theorem dX12_feed_48 : decode cX12_feed 48 = .ok (.getfield 11, 3) := by decide +kernel
theorem dX12_feed_51 : decode cX12_feed 51 = .ok (.ireturn, 1) := by decide +kernel
theorem dX12_size_0 : decode cX12_size 0 = .ok (.iload_n 0, 1) := by decide +kernel
theorem dX12_size_1 : decode cX12_size 1 = .ok (.ifCond .ge 8, 3) := by decide +kernel
theorem dX12_size_4 : decode cX12_size 4 = .ok (.iload_n 0, 1) := by decide +kernel
theorem dX12_size_5 : decode cX12_size 5 = .ok (.ineg, 1) := by decide +kernel
theorem dX12_size_6 : decode cX12_size 6 = .ok (.goto 4, 3) := by decide +kernel
theorem dX12_size_9 : decode cX12_size 9 = .ok (.iload_n 0, 1) := by decide +kernel
theorem dX12_size_10 : decode cX12_size 10 = .ok (.ireturn, 1) := by decide +kernel
theorem dX12_fits_0 : decode cX12_fits 0 = .ok (.aload_n 0, 1) := by decide +kernel
theorem dX12_fits_1 : decode cX12_fits 1 = .ok (.iconst 0, 1) := by decide +kernel
theorem dX12_fits_2 : decode cX12_fits 2 = .ok (.putfield 1, 3) := by decide +kernel
theorem dX12_fits_5 : decode cX12_fits 5 = .ok (.aload_n 0, 1) := by decide +kernel
theorem dX12_fits_6 : decode cX12_fits 6 = .ok (.invokevirtual 89, 3) := by decide +kernel
theorem dX12_fits_9 : decode cX12_fits 9 = .ok (.istore_n 1, 1) := by decide +kernel
theorem dX12_fits_10 : decode cX12_fits 10 = .ok (.iload_n 1, 1) := by decide +kernel
theorem dX12_fits_11 : decode cX12_fits 11 = .ok (.iconst 2, 1) := by decide +kernel
theorem dX12_fits_12 : decode cX12_fits 12 = .ok (.irem, 1) := by decide +kernel
theorem dX12_fits_13 : decode cX12_fits 13 = .ok (.ifCond .ne 15, 3) := by decide +kernel
theorem dX12_fits_16 : decode cX12_fits 16 = .ok (.iload_n 1, 1) := by decide +kernel
theorem dX12_fits_17 : decode cX12_fits 17 = .ok (.iconst 2, 1) := by decide +kernel
theorem dX12_fits_18 : decode cX12_fits 18 = .ok (.idiv, 1) := by decide +kernel
theorem dX12_fits_19 : decode cX12_fits 19 = .ok (.iconst 1, 1) := by decide +kernel
theorem dX12_fits_20 : decode cX12_fits 20 = .ok (.bipush 6, 2) := by decide +kernel
theorem dX12_fits_22 : decode cX12_fits 22 = .ok (.invokestatic 75, 3) := by decide +kernel
theorem dX12_fits_25 : decode cX12_fits 25 = .ok (.ifCond .ne 5, 3) := by decide +kernel
theorem dX12_fits_28 : decode cX12_fits 28 = .ok (.iconst (-1), 1) := by decide +kernel
theorem dX12_fits_29 : decode cX12_fits 29 = .ok (.ireturn, 1) := by decide +kernel
theorem dX12_fits_30 : decode cX12_fits 30 = .ok (.iconst 0, 1) := by decide +kernel
theorem dX12_fits_31 : decode cX12_fits 31 = .ok (.istore_n 2, 1) := by decide +kernel
theorem dX12_fits_32 : decode cX12_fits 32 = .ok (.iload_n 2, 1) := by decide +kernel
theorem dX12_fits_33 : decode cX12_fits 33 = .ok (.iload_n 1, 1) := by decide +kernel
theorem dX12_fits_34 : decode cX12_fits 34 = .ok (.if_icmp .ge 36, 3) := by decide +kernel
theorem dX12_fits_37 : decode cX12_fits 37 = .ok (.aload_n 0, 1) := by decide +kernel
theorem dX12_fits_38 : decode cX12_fits 38 = .ok (.aload_n 0, 1) := by decide +kernel
theorem dX12_fits_39 : decode cX12_fits 39 = .ok (.getfield 7, 3) := by decide +kernel
theorem dX12_fits_42 : decode cX12_fits 42 = .ok (.iload_n 2, 1) := by decide +kernel
theorem dX12_fits_43 : decode cX12_fits 43 = .ok (.iaload, 1) := by decide +kernel
theorem dX12_fits_44 : decode cX12_fits 44 = .ok (.invokevirtual 244, 3) := by decide +kernel
theorem dX12_fits_47 : decode cX12_fits 47 = .ok (.ifCond .eq 15, 3) := by decide +kernel
theorem dX12_fits_50 : decode cX12_fits 50 = .ok (.aload_n 0, 1) := by decide +kernel
theorem dX12_fits_51 : decode cX12_fits 51 = .ok (.getfield 7, 3) := by decide +kernel
theorem dX12_fits_54 : decode cX12_fits 54 = .ok (.iload_n 2, 1) := by decide +kernel
theorem dX12_fits_55 : decode cX12_fits 55 = .ok (.iconst 1, 1) := by decide +kernel
theorem dX12_fits_56 : decode cX12_fits 56 = .ok (.iadd, 1) := by decide +kernel
theorem dX12_fits_57 : decode cX12_fits 57 = .ok (.iaload, 1) := by decide +kernel
theorem dX12_fits_58 : decode cX12_fits 58 = .ok (.iconst 1, 1) := by decide +kernel
theorem dX12_fits_59 : decode cX12_fits 59 = .ok (.if_icmp .le 5, 3) := by decide +kernel
theorem dX12_fits_62 : decode cX12_fits 62 = .ok (.iconst (-1), 1) := by decide +kernel
theorem dX12_fits_63 : decode cX12_fits 63 = .ok (.ireturn, 1) := by decide +kernel
theorem dX12_fits_64 : decode cX12_fits 64 = .ok (.iinc 2 2, 3) := by decide +kernel
theorem dX12_fits_67 : decode cX12_fits 67 = .ok (.goto (-35), 3) := by decide +kernel
theorem dX12_fits_70 : decode cX12_fits 70 = .ok (.iconst 1, 1) := by decide +kernel
theorem dX12_fits_71 : decode cX12_fits 71 = .ok (.aload_n 0, 1) := by decide +kernel
theorem dX12_fits_72 : decode cX12_fits 72 = .ok (.getfield 98, 3) := by decide +kernel
theorem dX12_fits_75 : decode cX12_fits 75 = .ok (.iconst 0, 1) := by decide +kernel
theorem dX12_fits_76 : decode cX12_fits 76 = .ok (.iaload, 1) := by decide +kernel
theorem dX12_fits_77 : decode cX12_fits 77 = .ok (.ishl, 1) := by decide +kernel
theorem dX12_fits_78 : decode cX12_fits 78 = .ok (.iconst 1, 1) := by decide +kernel
theorem dX12_fits_79 : decode cX12_fits 79 = .ok (.isub, 1) := by decide +kernel
theorem dX12_fits_80 : decode cX12_fits 80 = .ok (.istore_n 2, 1) := by decide +kernel
theorem dX12_fits_81 : decode cX12_fits 81 = .ok (.iload_n 2, 1) := by decide +kernel
theorem dX12_fits_82 : decode cX12_fits 82 = .ok (.istore_n 3, 1) := by decide +kernel
theorem dX12_fits_83 : decode cX12_fits 83 = .ok (.iconst 0, 1) := by decide +kernel
theorem dX12_fits_84 : decode cX12_fits 84 = .ok (.istore 4, 2) := by decide +kernel
theorem dX12_fits_86 : decode cX12_fits 86 = .ok (.iload 4, 2) := by decide +kernel
theorem dX12_fits_88 : decode cX12_fits 88 = .ok (.iload_n 1, 1) := by decide +kernel
theorem dX12_fits_89 : decode cX12_fits 89 = .ok (.if_icmp .ge 54, 3) := by decide +kernel
theorem dX12_fits_92 : decode cX12_fits 92 = .ok (.iload_n 3, 1) := by decide +kernel
theorem dX12_fits_93 : decode cX12_fits 93 = .ok (.aload_n 0, 1) := by decide +kernel
theorem dX12_fits_94 : decode cX12_fits 94 = .ok (.getfield 7, 3) := by decide +kernel
theorem dX12_fits_97 : decode cX12_fits 97 = .ok (.iload 4, 2) := by decide +kernel
theorem dX12_fits_99 : decode cX12_fits 99 = .ok (.iconst 1, 1) := by decide +kernel
theorem dX12_fits_100 : decode cX12_fits 100 = .ok (.iadd, 1) := by decide +kernel
theorem dX12_fits_101 : decode cX12_fits 101 = .ok (.iaload, 1) := by decide +kernel
theorem dX12_fits_102 : decode cX12_fits 102 = .ok (.iconst 1, 1) := by decide +kernel
theorem dX12_fits_103 : decode cX12_fits 103 = .ok (.if_icmp .ne 18, 3) := by decide +kernel
theorem dX12_fits_106 : decode cX12_fits 106 = .ok (.aload_n 0, 1) := by decide +kernel
theorem dX12_fits_107 : decode cX12_fits 107 = .ok (.aload_n 0, 1) := by decide +kernel
theorem dX12_fits_108 : decode cX12_fits 108 = .ok (.getfield 7, 3) := by decide +kernel
theorem dX12_fits_111 : decode cX12_fits 111 = .ok (.iload 4, 2) := by decide +kernel
theorem dX12_fits_113 : decode cX12_fits 113 = .ok (.iaload, 1) := by decide +kernel
theorem dX12_fits_114 : decode cX12_fits 114 = .ok (.iconst 0, 1) := by decide +kernel
theorem dX12_fits_115 : decode cX12_fits 115 = .ok (.invokevirtual 250, 3) := by decide +kernel
theorem dX12_fits_118 : decode cX12_fits 118 = .ok (.goto 17, 3) := by decide +kernel
theorem dX12_fits_121 : decode cX12_fits 121 = .ok (.aload_n 0, 1) := by decide +kernel
theorem dX12_fits_122 : decode cX12_fits 122 = .ok (.aload_n 0, 1) := by decide +kernel
theorem dX12_fits_123 : decode cX12_fits 123 = .ok (.getfield 7, 3) := by decide +kernel
theorem dX12_fits_126 : decode cX12_fits 126 = .ok (.iload 4, 2) := by decide +kernel
theorem dX12_fits_128 : decode cX12_fits 128 = .ok (.iaload, 1) := by decide +kernel
theorem dX12_fits_129 : decode cX12_fits 129 = .ok (.iconst 0, 1) := by decide +kernel
theorem dX12_fits_130 : decode cX12_fits 130 = .ok (.invokevirtual 250, 3) := by decide +kernel
theorem dX12_fits_133 : decode cX12_fits 133 = .ok (.iconst (-1), 1) := by decide +kernel
theorem dX12_fits_134 : decode cX12_fits 134 = .ok (.ixor, 1) := by decide +kernel
theorem dX12_fits_135 : decode cX12_fits 135 = .ok (.iand, 1) := by decide +kernel
theorem dX12_fits_136 : decode cX12_fits 136 = .ok (.istore_n 3, 1) := by decide +kernel
theorem dX12_fits_137 : decode cX12_fits 137 = .ok (.iinc 4 2, 3) := by decide +kernel
theorem dX12_fits_140 : decode cX12_fits 140 = .ok (.goto (-54), 3) := by decide +kernel
theorem dX12_fits_143 : decode cX12_fits 143 = .ok (.iload_n 3, 1) := by decide +kernel
theorem dX12_fits_144 : decode cX12_fits 144 = .ok (.ifCond .ne 5, 3) := by decide +kernel
theorem dX12_fits_147 : decode cX12_fits 147 = .ok (.iconst 0, 1) := by decide +kernel
theorem dX12_fits_148 : decode cX12_fits 148 = .ok (.ireturn, 1) := by decide +kernel
theorem dX12_fits_149 : decode cX12_fits 149 = .ok (.ldc_w 305, 3) := by decide +kernel
theorem dX12_fits_152 : decode cX12_fits 152 = .ok (.istore 4, 2) := by decide +kernel
theorem dX12_fits_154 : decode cX12_fits 154 = .ok (.iconst 0, 1) := by decide +kernel
theorem dX12_fits_155 : decode cX12_fits 155 = .ok (.istore 5, 2) := by decide +kernel
theorem dX12_fits_157 : decode cX12_fits 157 = .ok (.iload 5, 2) := by decide +kernel
theorem dX12_fits_159 : decode cX12_fits 159 = .ok (.aload_n 0, 1) := by decide +kernel
theorem dX12_fits_160 : decode cX12_fits 160 = .ok (.getfield 98, 3) := by decide +kernel
theorem dX12_fits_163 : decode cX12_fits 163 = .ok (.iconst 1, 1) := by decide +kernel
theorem dX12_fits_164 : decode cX12_fits 164 = .ok (.iaload, 1) := by decide +kernel
theorem dX12_fits_165 : decode cX12_fits 165 = .ok (.if_icmp .ge 53, 3) := by decide +kernel
theorem dX12_fits_168 : decode cX12_fits 168 = .ok (.iconst 2, 1) := by decide +kernel
theorem dX12_fits_169 : decode cX12_fits 169 = .ok (.iload_n 3, 1) := by decide +kernel
theorem dX12_fits_170 : decode cX12_fits 170 = .ok (.aload_n 0, 1) := by decide +kernel
theorem dX12_fits_171 : decode cX12_fits 171 = .ok (.iload 5, 2) := by decide +kernel
theorem dX12_fits_173 : decode cX12_fits 173 = .ok (.iconst 0, 1) := by decide +kernel
theorem dX12_fits_174 : decode cX12_fits 174 = .ok (.invokevirtual 250, 3) := by decide +kernel
theorem dX12_fits_177 : decode cX12_fits 177 = .ok (.iand, 1) := by decide +kernel
theorem dX12_fits_178 : decode cX12_fits 178 = .ok (.invokestatic 238, 3) := by decide +kernel
theorem dX12_fits_181 : decode cX12_fits 181 = .ok (.imul, 1) := by decide +kernel
theorem dX12_fits_182 : decode cX12_fits 182 = .ok (.iload_n 3, 1) := by decide +kernel
theorem dX12_fits_183 : decode cX12_fits 183 = .ok (.invokestatic 238, 3) := by decide +kernel
theorem dX12_fits_186 : decode cX12_fits 186 = .ok (.isub, 1) := by decide +kernel
theorem dX12_fits_187 : decode cX12_fits 187 = .ok (.invokestatic 306, 3) := by decide +kernel
theorem dX12_fits_190 : decode cX12_fits 190 = .ok (.istore 6, 2) := by decide +kernel
theorem dX12_fits_192 : decode cX12_fits 192 = .ok (.iload 6, 2) := by decide +kernel
theorem dX12_fits_194 : decode cX12_fits 194 = .ok (.iload 4, 2) := by decide +kernel
theorem dX12_fits_196 : decode cX12_fits 196 = .ok (.if_icmp .lt 6, 3) := by decide +kernel
theorem dX12_fits_199 : decode cX12_fits 199 = .ok (.goto 13, 3) := by decide +kernel
theorem dX12_fits_202 : decode cX12_fits 202 = .ok (.iload 6, 2) := by decide +kernel
theorem dX12_fits_204 : decode cX12_fits 204 = .ok (.istore 4, 2) := by decide +kernel
theorem dX12_fits_206 : decode cX12_fits 206 = .ok (.aload_n 0, 1) := by decide +kernel
theorem dX12_fits_207 : decode cX12_fits 207 = .ok (.iload 5, 2) := by decide +kernel
theorem dX12_fits_209 : decode cX12_fits 209 = .ok (.putfield 130, 3) := by decide +kernel
theorem dX12_fits_212 : decode cX12_fits 212 = .ok (.iinc 5 1, 3) := by decide +kernel
theorem dX12_fits_215 : decode cX12_fits 215 = .ok (.goto (-58), 3) := by decide +kernel
theorem dX12_fits_218 : decode cX12_fits 218 = .ok (.iload_n 3, 1) := by decide +kernel
theorem dX12_fits_219 : decode cX12_fits 219 = .ok (.ireturn, 1) := by decide +kernel
theorem dX12_guilty_0 : decode cX12_guilty 0 = .ok (.aload_n 0, 1) := by decide +kernel
theorem dX12_guilty_1 : decode cX12_guilty 1 = .ok (.iconst 0, 1) := by decide +kernel
theorem dX12_guilty_2 : decode cX12_guilty 2 = .ok (.putfield 1, 3) := by decide +kernel
theorem dX12_guilty_5 : decode cX12_guilty 5 = .ok (.aload_n 0, 1) := by decide +kernel
theorem dX12_guilty_6 : decode cX12_guilty 6 = .ok (.iload_n 1, 1) := by decide +kernel
theorem dX12_guilty_7 : decode cX12_guilty 7 = .ok (.invokevirtual 286, 3) := by decide +kernel
theorem dX12_guilty_10 : decode cX12_guilty 10 = .ok (.ifCond .eq 11, 3) := by decide +kernel
theorem dX12_guilty_13 : decode cX12_guilty 13 = .ok (.aload_n 0, 1) := by decide +kernel
theorem dX12_guilty_14 : decode cX12_guilty 14 = .ok (.iload_n 2, 1) := by decide +kernel
theorem dX12_guilty_15 : decode cX12_guilty 15 = .ok (.invokevirtual 289, 3) := by decide +kernel
theorem dX12_guilty_18 : decode cX12_guilty 18 = .ok (.ifCond .ne 5, 3) := by decide +kernel
theorem dX12_guilty_21 : decode cX12_guilty 21 = .ok (.iconst (-1), 1) := by decide +kernel
theorem dX12_guilty_22 : decode cX12_guilty 22 = .ok (.ireturn, 1) := by decide +kernel
theorem dX12_guilty_23 : decode cX12_guilty 23 = .ok (.iconst 0, 1) := by decide +kernel
theorem dX12_guilty_24 : decode cX12_guilty 24 = .ok (.istore_n 3, 1) := by decide +kernel
theorem dX12_guilty_25 : decode cX12_guilty 25 = .ok (.iload_n 3, 1) := by decide +kernel
theorem dX12_guilty_26 : decode cX12_guilty 26 = .ok (.aload_n 0, 1) := by decide +kernel
theorem dX12_guilty_27 : decode cX12_guilty 27 = .ok (.getfield 98, 3) := by decide +kernel
theorem dX12_guilty_30 : decode cX12_guilty 30 = .ok (.bipush 25, 2) := by decide +kernel
theorem dX12_guilty_32 : decode cX12_guilty 32 = .ok (.iaload, 1) := by decide +kernel
theorem dX12_guilty_33 : decode cX12_guilty 33 = .ok (.if_icmp .ge 45, 3) := by decide +kernel
theorem dX12_guilty_36 : decode cX12_guilty 36 = .ok (.aload_n 0, 1) := by decide +kernel
theorem dX12_guilty_37 : decode cX12_guilty 37 = .ok (.getfield 98, 3) := by decide +kernel
theorem dX12_guilty_40 : decode cX12_guilty 40 = .ok (.bipush 38, 2) := by decide +kernel
theorem dX12_guilty_42 : decode cX12_guilty 42 = .ok (.iload_n 3, 1) := by decide +kernel
theorem dX12_guilty_43 : decode cX12_guilty 43 = .ok (.iadd, 1) := by decide +kernel
theorem dX12_guilty_44 : decode cX12_guilty 44 = .ok (.iaload, 1) := by decide +kernel
theorem dX12_guilty_45 : decode cX12_guilty 45 = .ok (.iload_n 1, 1) := by decide +kernel
theorem dX12_guilty_46 : decode cX12_guilty 46 = .ok (.if_icmp .ne 26, 3) := by decide +kernel
theorem dX12_guilty_49 : decode cX12_guilty 49 = .ok (.aload_n 0, 1) := by decide +kernel
theorem dX12_guilty_50 : decode cX12_guilty 50 = .ok (.getfield 98, 3) := by decide +kernel
theorem dX12_guilty_53 : decode cX12_guilty 53 = .ok (.bipush 50, 2) := by decide +kernel
theorem dX12_guilty_55 : decode cX12_guilty 55 = .ok (.iload_n 3, 1) := by decide +kernel
theorem dX12_guilty_56 : decode cX12_guilty 56 = .ok (.iadd, 1) := by decide +kernel
theorem dX12_guilty_57 : decode cX12_guilty 57 = .ok (.iaload, 1) := by decide +kernel
theorem dX12_guilty_58 : decode cX12_guilty 58 = .ok (.iload_n 2, 1) := by decide +kernel
theorem dX12_guilty_59 : decode cX12_guilty 59 = .ok (.if_icmp .ne 13, 3) := by decide +kernel
theorem dX12_guilty_62 : decode cX12_guilty 62 = .ok (.aload_n 0, 1) := by decide +kernel
theorem dX12_guilty_63 : decode cX12_guilty 63 = .ok (.iload_n 3, 1) := by decide +kernel
theorem dX12_guilty_64 : decode cX12_guilty 64 = .ok (.invokevirtual 241, 3) := by decide +kernel
theorem dX12_guilty_67 : decode cX12_guilty 67 = .ok (.ifCond .eq 5, 3) := by decide +kernel
theorem dX12_guilty_70 : decode cX12_guilty 70 = .ok (.iconst 1, 1) := by decide +kernel
theorem dX12_guilty_71 : decode cX12_guilty 71 = .ok (.ireturn, 1) := by decide +kernel
theorem dX12_guilty_72 : decode cX12_guilty 72 = .ok (.iinc 3 1, 3) := by decide +kernel
theorem dX12_guilty_75 : decode cX12_guilty 75 = .ok (.goto (-50), 3) := by decide +kernel
theorem dX12_guilty_78 : decode cX12_guilty 78 = .ok (.iconst 0, 1) := by decide +kernel
theorem dX12_guilty_79 : decode cX12_guilty 79 = .ok (.ireturn, 1) := by decide +kernel
theorem dX12_hides_0 : decode cX12_hides 0 = .ok (.aload_n 0, 1) := by decide +kernel
theorem dX12_hides_1 : decode cX12_hides 1 = .ok (.iconst 0, 1) := by decide +kernel
theorem dX12_hides_2 : decode cX12_hides 2 = .ok (.putfield 1, 3) := by decide +kernel
theorem dX12_hides_5 : decode cX12_hides 5 = .ok (.iload_n 1, 1) := by decide +kernel
theorem dX12_hides_6 : decode cX12_hides 6 = .ok (.iconst 0, 1) := by decide +kernel
theorem dX12_hides_7 : decode cX12_hides 7 = .ok (.bipush 60, 2) := by decide +kernel
theorem dX12_hides_9 : decode cX12_hides 9 = .ok (.invokestatic 75, 3) := by decide +kernel
theorem dX12_hides_12 : decode cX12_hides 12 = .ok (.ifCond .ne 5, 3) := by decide +kernel
theorem dX12_hides_15 : decode cX12_hides 15 = .ok (.iconst (-1), 1) := by decide +kernel
theorem dX12_hides_16 : decode cX12_hides 16 = .ok (.ireturn, 1) := by decide +kernel
theorem dX12_hides_17 : decode cX12_hides 17 = .ok (.iconst 1, 1) := by decide +kernel
theorem dX12_hides_18 : decode cX12_hides 18 = .ok (.aload_n 0, 1) := by decide +kernel
theorem dX12_hides_19 : decode cX12_hides 19 = .ok (.getfield 98, 3) := by decide +kernel
theorem dX12_hides_22 : decode cX12_hides 22 = .ok (.iconst 0, 1) := by decide +kernel
theorem dX12_hides_23 : decode cX12_hides 23 = .ok (.iaload, 1) := by decide +kernel
theorem dX12_hides_24 : decode cX12_hides 24 = .ok (.ishl, 1) := by decide +kernel
theorem dX12_hides_25 : decode cX12_hides 25 = .ok (.iconst 1, 1) := by decide +kernel
theorem dX12_hides_26 : decode cX12_hides 26 = .ok (.isub, 1) := by decide +kernel
theorem dX12_hides_27 : decode cX12_hides 27 = .ok (.istore_n 2, 1) := by decide +kernel
theorem dX12_hides_28 : decode cX12_hides 28 = .ok (.iconst 0, 1) := by decide +kernel
theorem dX12_hides_29 : decode cX12_hides 29 = .ok (.istore_n 3, 1) := by decide +kernel
theorem dX12_hides_30 : decode cX12_hides 30 = .ok (.iload_n 3, 1) := by decide +kernel
theorem dX12_hides_31 : decode cX12_hides 31 = .ok (.aload_n 0, 1) := by decide +kernel
theorem dX12_hides_32 : decode cX12_hides 32 = .ok (.getfield 98, 3) := by decide +kernel
theorem dX12_hides_35 : decode cX12_hides 35 = .ok (.iconst 1, 1) := by decide +kernel
theorem dX12_hides_36 : decode cX12_hides 36 = .ok (.iaload, 1) := by decide +kernel
theorem dX12_hides_37 : decode cX12_hides 37 = .ok (.if_icmp .ge 37, 3) := by decide +kernel
theorem dX12_hides_40 : decode cX12_hides 40 = .ok (.aload_n 0, 1) := by decide +kernel
theorem dX12_hides_41 : decode cX12_hides 41 = .ok (.iload_n 3, 1) := by decide +kernel
theorem dX12_hides_42 : decode cX12_hides 42 = .ok (.invokevirtual 268, 3) := by decide +kernel
theorem dX12_hides_45 : decode cX12_hides 45 = .ok (.aload_n 0, 1) := by decide +kernel
theorem dX12_hides_46 : decode cX12_hides 46 = .ok (.getfield 98, 3) := by decide +kernel
theorem dX12_hides_49 : decode cX12_hides 49 = .ok (.bipush 24, 2) := by decide +kernel
theorem dX12_hides_51 : decode cX12_hides 51 = .ok (.iaload, 1) := by decide +kernel
theorem dX12_hides_52 : decode cX12_hides 52 = .ok (.iload_n 1, 1) := by decide +kernel
theorem dX12_hides_53 : decode cX12_hides 53 = .ok (.iadd, 1) := by decide +kernel
theorem dX12_hides_54 : decode cX12_hides 54 = .ok (.if_icmp .gt 14, 3) := by decide +kernel
theorem dX12_hides_57 : decode cX12_hides 57 = .ok (.iload_n 2, 1) := by decide +kernel
theorem dX12_hides_58 : decode cX12_hides 58 = .ok (.aload_n 0, 1) := by decide +kernel
theorem dX12_hides_59 : decode cX12_hides 59 = .ok (.iload_n 3, 1) := by decide +kernel
theorem dX12_hides_60 : decode cX12_hides 60 = .ok (.iconst 0, 1) := by decide +kernel
theorem dX12_hides_61 : decode cX12_hides 61 = .ok (.invokevirtual 250, 3) := by decide +kernel
theorem dX12_hides_64 : decode cX12_hides 64 = .ok (.iconst (-1), 1) := by decide +kernel
theorem dX12_hides_65 : decode cX12_hides 65 = .ok (.ixor, 1) := by decide +kernel
theorem dX12_hides_66 : decode cX12_hides 66 = .ok (.iand, 1) := by decide +kernel
theorem dX12_hides_67 : decode cX12_hides 67 = .ok (.istore_n 2, 1) := by decide +kernel
theorem dX12_hides_68 : decode cX12_hides 68 = .ok (.iinc 3 1, 3) := by decide +kernel
theorem dX12_hides_71 : decode cX12_hides 71 = .ok (.goto (-41), 3) := by decide +kernel
theorem dX12_hides_74 : decode cX12_hides 74 = .ok (.iload_n 2, 1) := by decide +kernel
theorem dX12_hides_75 : decode cX12_hides 75 = .ok (.ireturn, 1) := by decide +kernel
theorem dX12_put_0 : decode cX12_put 0 = .ok (.iload_n 2, 1) := by decide +kernel
theorem dX12_put_1 : decode cX12_put 1 = .ok (.ifCond .eq 13, 3) := by decide +kernel
theorem dX12_put_4 : decode cX12_put 4 = .ok (.aload_n 0, 1) := by decide +kernel
theorem dX12_put_5 : decode cX12_put 5 = .ok (.getfield 101, 3) := by decide +kernel
theorem dX12_put_8 : decode cX12_put 8 = .ok (.iload_n 1, 1) := by decide +kernel
theorem dX12_put_9 : decode cX12_put 9 = .ok (.aload_n 0, 1) := by decide +kernel
theorem dX12_put_10 : decode cX12_put 10 = .ok (.getfield 79, 3) := by decide +kernel
theorem dX12_put_13 : decode cX12_put 13 = .ok (.iastore, 1) := by decide +kernel
theorem dX12_put_14 : decode cX12_put 14 = .ok (.iload_n 2, 1) := by decide +kernel
theorem dX12_put_15 : decode cX12_put 15 = .ok (.ireturn, 1) := by decide +kernel
theorem dX12_readOnce_0 : decode cX12_readOnce 0 = .ok (.aload_n 0, 1) := by decide +kernel
theorem dX12_readOnce_1 : decode cX12_readOnce 1 = .ok (.getfield 127, 3) := by decide +kernel
theorem dX12_readOnce_4 : decode cX12_readOnce 4 = .ok (.iload_n 1, 1) := by decide +kernel
theorem dX12_readOnce_5 : decode cX12_readOnce 5 = .ok (.baload, 1) := by decide +kernel
theorem dX12_readOnce_6 : decode cX12_readOnce 6 = .ok (.ifCond .eq 9, 3) := by decide +kernel
theorem dX12_readOnce_9 : decode cX12_readOnce 9 = .ok (.aload_n 0, 1) := by decide +kernel
theorem dX12_readOnce_10 : decode cX12_readOnce 10 = .ok (.iconst 3, 1) := by decide +kernel
theorem dX12_readOnce_11 : decode cX12_readOnce 11 = .ok (.invokevirtual 72, 3) := by decide +kernel
theorem dX12_readOnce_14 : decode cX12_readOnce 14 = .ok (.ireturn, 1) := by decide +kernel
theorem dX12_readOnce_15 : decode cX12_readOnce 15 = .ok (.aload_n 0, 1) := by decide +kernel
theorem dX12_readOnce_16 : decode cX12_readOnce 16 = .ok (.getfield 127, 3) := by decide +kernel
theorem dX12_readOnce_19 : decode cX12_readOnce 19 = .ok (.iload_n 1, 1) := by decide +kernel
theorem dX12_readOnce_20 : decode cX12_readOnce 20 = .ok (.iconst 1, 1) := by decide +kernel
theorem dX12_readOnce_21 : decode cX12_readOnce 21 = .ok (.bastore, 1) := by decide +kernel
theorem dX12_readOnce_22 : decode cX12_readOnce 22 = .ok (.aload_n 0, 1) := by decide +kernel
theorem dX12_readOnce_23 : decode cX12_readOnce 23 = .ok (.invokevirtual 82, 3) := by decide +kernel
theorem dX12_readOnce_26 : decode cX12_readOnce 26 = .ok (.aload_n 0, 1) := by decide +kernel
theorem dX12_readOnce_27 : decode cX12_readOnce 27 = .ok (.iload_n 2, 1) := by decide +kernel
theorem dX12_readOnce_28 : decode cX12_readOnce 28 = .ok (.aload_n 0, 1) := by decide +kernel
theorem dX12_readOnce_29 : decode cX12_readOnce 29 = .ok (.iconst 1, 1) := by decide +kernel
theorem dX12_readOnce_30 : decode cX12_readOnce 30 = .ok (.iload_n 3, 1) := by decide +kernel
theorem dX12_readOnce_31 : decode cX12_readOnce 31 = .ok (.invokevirtual 188, 3) := by decide +kernel
theorem dX12_readOnce_34 : decode cX12_readOnce 34 = .ok (.invokevirtual 184, 3) := by decide +kernel
theorem dX12_readOnce_37 : decode cX12_readOnce 37 = .ok (.ireturn, 1) := by decide +kernel
theorem dX12_readFirst_0 : decode cX12_readFirst 0 = .ok (.aload_n 0, 1) := by decide +kernel
theorem dX12_readFirst_1 : decode cX12_readFirst 1 = .ok (.getfield 101, 3) := by decide +kernel
theorem dX12_readFirst_4 : decode cX12_readFirst 4 = .ok (.iload_n 1, 1) := by decide +kernel
theorem dX12_readFirst_5 : decode cX12_readFirst 5 = .ok (.iaload, 1) := by decide +kernel
theorem dX12_readFirst_6 : decode cX12_readFirst 6 = .ok (.iload_n 2, 1) := by decide +kernel
theorem dX12_readFirst_7 : decode cX12_readFirst 7 = .ok (.if_icmp .ne 9, 3) := by decide +kernel
theorem dX12_readFirst_10 : decode cX12_readFirst 10 = .ok (.aload_n 0, 1) := by decide +kernel
theorem dX12_readFirst_11 : decode cX12_readFirst 11 = .ok (.iconst 4, 1) := by decide +kernel
theorem dX12_readFirst_12 : decode cX12_readFirst 12 = .ok (.invokevirtual 72, 3) := by decide +kernel
theorem dX12_readFirst_15 : decode cX12_readFirst 15 = .ok (.ireturn, 1) := by decide +kernel
theorem dX12_readFirst_16 : decode cX12_readFirst 16 = .ok (.aload_n 0, 1) := by decide +kernel
theorem dX12_readFirst_17 : decode cX12_readFirst 17 = .ok (.invokevirtual 82, 3) := by decide +kernel
theorem dX12_readFirst_20 : decode cX12_readFirst 20 = .ok (.iconst 1, 1) := by decide +kernel
theorem dX12_readFirst_21 : decode cX12_readFirst 21 = .ok (.ireturn, 1) := by decide +kernel
theorem dX12_isTaken_0 : decode cX12_isTaken 0 = .ok (.aload_n 0, 1) := by decide +kernel
theorem dX12_isTaken_1 : decode cX12_isTaken 1 = .ok (.getfield 117, 3) := by decide +kernel
theorem dX12_isTaken_4 : decode cX12_isTaken 4 = .ok (.iconst 0, 1) := by decide +kernel
theorem dX12_isTaken_5 : decode cX12_isTaken 5 = .ok (.aload_n 0, 1) := by decide +kernel
theorem dX12_isTaken_6 : decode cX12_isTaken 6 = .ok (.getfield 101, 3) := by decide +kernel
theorem dX12_isTaken_9 : decode cX12_isTaken 9 = .ok (.iconst 0, 1) := by decide +kernel
theorem dX12_isTaken_10 : decode cX12_isTaken 10 = .ok (.iaload, 1) := by decide +kernel
theorem dX12_isTaken_11 : decode cX12_isTaken 11 = .ok (.aload_n 0, 1) := by decide +kernel
theorem dX12_isTaken_12 : decode cX12_isTaken 12 = .ok (.getfield 43, 3) := by decide +kernel
theorem dX12_isTaken_15 : decode cX12_isTaken 15 = .ok (.invokestatic 160, 3) := by decide +kernel
theorem dX12_isTaken_18 : decode cX12_isTaken 18 = .ok (.iconst (-1), 1) := by decide +kernel
theorem dX12_isTaken_19 : decode cX12_isTaken 19 = .ok (.if_icmp .ne 71, 3) := by decide +kernel
theorem dX12_isTaken_22 : decode cX12_isTaken 22 = .ok (.aload_n 0, 1) := by decide +kernel
theorem dX12_isTaken_23 : decode cX12_isTaken 23 = .ok (.getfield 117, 3) := by decide +kernel
theorem dX12_isTaken_26 : decode cX12_isTaken 26 = .ok (.iconst 5, 1) := by decide +kernel
theorem dX12_isTaken_27 : decode cX12_isTaken 27 = .ok (.aload_n 0, 1) := by decide +kernel
theorem dX12_isTaken_28 : decode cX12_isTaken 28 = .ok (.getfield 101, 3) := by decide +kernel
theorem dX12_isTaken_31 : decode cX12_isTaken 31 = .ok (.iconst 1, 1) := by decide +kernel
theorem dX12_isTaken_32 : decode cX12_isTaken 32 = .ok (.iaload, 1) := by decide +kernel
theorem dX12_isTaken_33 : decode cX12_isTaken 33 = .ok (.aload_n 0, 1) := by decide +kernel
theorem dX12_isTaken_34 : decode cX12_isTaken 34 = .ok (.getfield 43, 3) := by decide +kernel
theorem dX12_isTaken_37 : decode cX12_isTaken 37 = .ok (.invokestatic 160, 3) := by decide +kernel
theorem dX12_isTaken_40 : decode cX12_isTaken 40 = .ok (.iconst (-1), 1) := by decide +kernel
theorem dX12_isTaken_41 : decode cX12_isTaken 41 = .ok (.if_icmp .ne 49, 3) := by decide +kernel
theorem dX12_isTaken_44 : decode cX12_isTaken 44 = .ok (.aload_n 0, 1) := by decide +kernel
theorem dX12_isTaken_45 : decode cX12_isTaken 45 = .ok (.getfield 117, 3) := by decide +kernel
theorem dX12_isTaken_48 : decode cX12_isTaken 48 = .ok (.bipush 11, 2) := by decide +kernel
theorem dX12_isTaken_50 : decode cX12_isTaken 50 = .ok (.aload_n 0, 1) := by decide +kernel
theorem dX12_isTaken_51 : decode cX12_isTaken 51 = .ok (.getfield 101, 3) := by decide +kernel
theorem dX12_isTaken_54 : decode cX12_isTaken 54 = .ok (.iconst 2, 1) := by decide +kernel
theorem dX12_isTaken_55 : decode cX12_isTaken 55 = .ok (.iaload, 1) := by decide +kernel
theorem dX12_isTaken_56 : decode cX12_isTaken 56 = .ok (.aload_n 0, 1) := by decide +kernel
theorem dX12_isTaken_57 : decode cX12_isTaken 57 = .ok (.getfield 43, 3) := by decide +kernel
theorem dX12_isTaken_60 : decode cX12_isTaken 60 = .ok (.invokestatic 160, 3) := by decide +kernel
theorem dX12_isTaken_63 : decode cX12_isTaken 63 = .ok (.iconst (-1), 1) := by decide +kernel
theorem dX12_isTaken_64 : decode cX12_isTaken 64 = .ok (.if_icmp .ne 26, 3) := by decide +kernel
theorem dX12_isTaken_67 : decode cX12_isTaken 67 = .ok (.aload_n 0, 1) := by decide +kernel
theorem dX12_isTaken_68 : decode cX12_isTaken 68 = .ok (.getfield 117, 3) := by decide +kernel
theorem dX12_isTaken_71 : decode cX12_isTaken 71 = .ok (.bipush 15, 2) := by decide +kernel
theorem dX12_isTaken_73 : decode cX12_isTaken 73 = .ok (.aload_n 0, 1) := by decide +kernel
theorem dX12_isTaken_74 : decode cX12_isTaken 74 = .ok (.getfield 101, 3) := by decide +kernel
theorem dX12_isTaken_77 : decode cX12_isTaken 77 = .ok (.iconst 3, 1) := by decide +kernel
theorem dX12_isTaken_78 : decode cX12_isTaken 78 = .ok (.iaload, 1) := by decide +kernel
theorem dX12_isTaken_79 : decode cX12_isTaken 79 = .ok (.aload_n 0, 1) := by decide +kernel
theorem dX12_isTaken_80 : decode cX12_isTaken 80 = .ok (.getfield 43, 3) := by decide +kernel
theorem dX12_isTaken_83 : decode cX12_isTaken 83 = .ok (.invokestatic 160, 3) := by decide +kernel
theorem dX12_isTaken_86 : decode cX12_isTaken 86 = .ok (.iconst (-1), 1) := by decide +kernel
theorem dX12_isTaken_87 : decode cX12_isTaken 87 = .ok (.if_icmp .eq 7, 3) := by decide +kernel
theorem dX12_isTaken_90 : decode cX12_isTaken 90 = .ok (.iconst 1, 1) := by decide +kernel
theorem dX12_isTaken_91 : decode cX12_isTaken 91 = .ok (.goto 4, 3) := by decide +kernel
theorem dX12_isTaken_94 : decode cX12_isTaken 94 = .ok (.iconst 0, 1) := by decide +kernel
theorem dX12_isTaken_95 : decode cX12_isTaken 95 = .ok (.ireturn, 1) := by decide +kernel
theorem dX12_readNew_0 : decode cX12_readNew 0 = .ok (.aload_n 0, 1) := by decide +kernel
theorem dX12_readNew_1 : decode cX12_readNew 1 = .ok (.invokevirtual 164, 3) := by decide +kernel
theorem dX12_readNew_4 : decode cX12_readNew 4 = .ok (.ifCond .ne 9, 3) := by decide +kernel
theorem dX12_readNew_7 : decode cX12_readNew 7 = .ok (.aload_n 0, 1) := by decide +kernel
theorem dX12_readNew_8 : decode cX12_readNew 8 = .ok (.iconst 1, 1) := by decide +kernel
theorem dX12_readNew_9 : decode cX12_readNew 9 = .ok (.invokevirtual 72, 3) := by decide +kernel
theorem dX12_readNew_12 : decode cX12_readNew 12 = .ok (.ireturn, 1) := by decide +kernel
theorem dX12_readNew_13 : decode cX12_readNew 13 = .ok (.aload_n 0, 1) := by decide +kernel
theorem dX12_readNew_14 : decode cX12_readNew 14 = .ok (.invokevirtual 168, 3) := by decide +kernel
theorem dX12_readNew_17 : decode cX12_readNew 17 = .ok (.ifCond .eq 9, 3) := by decide +kernel
theorem dX12_readNew_20 : decode cX12_readNew 20 = .ok (.aload_n 0, 1) := by decide +kernel
theorem dX12_readNew_21 : decode cX12_readNew 21 = .ok (.iconst 3, 1) := by decide +kernel
theorem dX12_readNew_22 : decode cX12_readNew 22 = .ok (.invokevirtual 72, 3) := by decide +kernel
theorem dX12_readNew_25 : decode cX12_readNew 25 = .ok (.ireturn, 1) := by decide +kernel
theorem dX12_readNew_26 : decode cX12_readNew 26 = .ok (.aload_n 0, 1) := by decide +kernel
theorem dX12_readNew_27 : decode cX12_readNew 27 = .ok (.getfield 117, 3) := by decide +kernel
theorem dX12_readNew_30 : decode cX12_readNew 30 = .ok (.iload_n 1, 1) := by decide +kernel
theorem dX12_readNew_31 : decode cX12_readNew 31 = .ok (.aload_n 0, 1) := by decide +kernel
theorem dX12_readNew_32 : decode cX12_readNew 32 = .ok (.getfield 43, 3) := by decide +kernel
theorem dX12_readNew_35 : decode cX12_readNew 35 = .ok (.lastore, 1) := by decide +kernel
theorem dX12_readNew_36 : decode cX12_readNew 36 = .ok (.aload_n 0, 1) := by decide +kernel
theorem dX12_readNew_37 : decode cX12_readNew 37 = .ok (.invokevirtual 82, 3) := by decide +kernel
theorem dX12_readNew_40 : decode cX12_readNew 40 = .ok (.iconst 1, 1) := by decide +kernel
theorem dX12_readNew_41 : decode cX12_readNew 41 = .ok (.ireturn, 1) := by decide +kernel
theorem dX12_readPlain_0 : decode cX12_readPlain 0 = .ok (.aload_n 0, 1) := by decide +kernel
theorem dX12_readPlain_1 : decode cX12_readPlain 1 = .ok (.iload_n 1, 1) := by decide +kernel
theorem dX12_readPlain_2 : decode cX12_readPlain 2 = .ok (.iload_n 2, 1) := by decide +kernel
theorem dX12_readPlain_3 : decode cX12_readPlain 3 = .ok (.invokevirtual 171, 3) := by decide +kernel
theorem dX12_readPlain_6 : decode cX12_readPlain 6 = .ok (.ifCond .eq 18, 3) := by decide +kernel
theorem dX12_readPlain_9 : decode cX12_readPlain 9 = .ok (.aload_n 0, 1) := by decide +kernel
theorem dX12_readPlain_10 : decode cX12_readPlain 10 = .ok (.iload_n 3, 1) := by decide +kernel
theorem dX12_readPlain_11 : decode cX12_readPlain 11 = .ok (.aload_n 0, 1) := by decide +kernel
theorem dX12_readPlain_12 : decode cX12_readPlain 12 = .ok (.getfield 101, 3) := by decide +kernel
theorem dX12_readPlain_15 : decode cX12_readPlain 15 = .ok (.iload_n 1, 1) := by decide +kernel
theorem dX12_readPlain_16 : decode cX12_readPlain 16 = .ok (.iaload, 1) := by decide +kernel
theorem dX12_readPlain_17 : decode cX12_readPlain 17 = .ok (.iadd, 1) := by decide +kernel
theorem dX12_readPlain_18 : decode cX12_readPlain 18 = .ok (.invokevirtual 175, 3) := by decide +kernel
theorem dX12_readPlain_21 : decode cX12_readPlain 21 = .ok (.ifCond .ne 5, 3) := by decide +kernel
theorem dX12_readPlain_24 : decode cX12_readPlain 24 = .ok (.iconst 0, 1) := by decide +kernel
theorem dX12_readPlain_25 : decode cX12_readPlain 25 = .ok (.ireturn, 1) := by decide +kernel
theorem dX12_readPlain_26 : decode cX12_readPlain 26 = .ok (.aload_n 0, 1) := by decide +kernel
theorem dX12_readPlain_27 : decode cX12_readPlain 27 = .ok (.getfield 101, 3) := by decide +kernel
theorem dX12_readPlain_30 : decode cX12_readPlain 30 = .ok (.iload_n 1, 1) := by decide +kernel
theorem dX12_readPlain_31 : decode cX12_readPlain 31 = .ok (.dup2, 1) := by decide +kernel
theorem dX12_readPlain_32 : decode cX12_readPlain 32 = .ok (.iaload, 1) := by decide +kernel
theorem dX12_readPlain_33 : decode cX12_readPlain 33 = .ok (.iconst 1, 1) := by decide +kernel
theorem dX12_readPlain_34 : decode cX12_readPlain 34 = .ok (.iadd, 1) := by decide +kernel
theorem dX12_readPlain_35 : decode cX12_readPlain 35 = .ok (.iastore, 1) := by decide +kernel
theorem dX12_readPlain_36 : decode cX12_readPlain 36 = .ok (.iconst 1, 1) := by decide +kernel
theorem dX12_readPlain_37 : decode cX12_readPlain 37 = .ok (.ireturn, 1) := by decide +kernel
theorem dX12_isParlourHere_0 : decode cX12_isParlourHere 0 = .ok (.aload_n 0, 1) := by decide +kernel
theorem dX12_isParlourHere_1 : decode cX12_isParlourHere 1 = .ok (.invokevirtual 164, 3) := by decide +kernel
theorem dX12_isParlourHere_4 : decode cX12_isParlourHere 4 = .ok (.ifCond .ne 9, 3) := by decide +kernel
theorem dX12_isParlourHere_7 : decode cX12_isParlourHere 7 = .ok (.aload_n 0, 1) := by decide +kernel
theorem dX12_isParlourHere_8 : decode cX12_isParlourHere 8 = .ok (.iconst 1, 1) := by decide +kernel
theorem dX12_isParlourHere_9 : decode cX12_isParlourHere 9 = .ok (.invokevirtual 72, 3) := by decide +kernel
theorem dX12_isParlourHere_12 : decode cX12_isParlourHere 12 = .ok (.ireturn, 1) := by decide +kernel
theorem dX12_isParlourHere_13 : decode cX12_isParlourHere 13 = .ok (.aload_n 0, 1) := by decide +kernel
theorem dX12_isParlourHere_14 : decode cX12_isParlourHere 14 = .ok (.aload_n 0, 1) := by decide +kernel
theorem dX12_isParlourHere_15 : decode cX12_isParlourHere 15 = .ok (.getfield 117, 3) := by decide +kernel
theorem dX12_isParlourHere_18 : decode cX12_isParlourHere 18 = .ok (.iconst 0, 1) := by decide +kernel
theorem dX12_isParlourHere_19 : decode cX12_isParlourHere 19 = .ok (.aload_n 0, 1) := by decide +kernel
theorem dX12_isParlourHere_20 : decode cX12_isParlourHere 20 = .ok (.getfield 101, 3) := by decide +kernel
theorem dX12_isParlourHere_23 : decode cX12_isParlourHere 23 = .ok (.iconst 0, 1) := by decide +kernel
theorem dX12_isParlourHere_24 : decode cX12_isParlourHere 24 = .ok (.iaload, 1) := by decide +kernel
theorem dX12_isParlourHere_25 : decode cX12_isParlourHere 25 = .ok (.aload_n 0, 1) := by decide +kernel
theorem dX12_isParlourHere_26 : decode cX12_isParlourHere 26 = .ok (.getfield 43, 3) := by decide +kernel
theorem dX12_isParlourHere_29 : decode cX12_isParlourHere 29 = .ok (.invokestatic 160, 3) := by decide +kernel
theorem dX12_isParlourHere_32 : decode cX12_isParlourHere 32 = .ok (.putfield 79, 3) := by decide +kernel
theorem dX12_isParlourHere_35 : decode cX12_isParlourHere 35 = .ok (.aload_n 0, 1) := by decide +kernel
theorem dX12_isParlourHere_36 : decode cX12_isParlourHere 36 = .ok (.getfield 79, 3) := by decide +kernel
theorem dX12_isParlourHere_39 : decode cX12_isParlourHere 39 = .ok (.iconst (-1), 1) := by decide +kernel
theorem dX12_isParlourHere_40 : decode cX12_isParlourHere 40 = .ok (.if_icmp .ne 11, 3) := by decide +kernel
theorem dX12_isParlourHere_43 : decode cX12_isParlourHere 43 = .ok (.aload_n 0, 1) := by decide +kernel
theorem dX12_isParlourHere_44 : decode cX12_isParlourHere 44 = .ok (.iconst 3, 1) := by decide +kernel
theorem dX12_isParlourHere_45 : decode cX12_isParlourHere 45 = .ok (.invokevirtual 72, 3) := by decide +kernel
theorem dX12_isParlourHere_48 : decode cX12_isParlourHere 48 = .ok (.ifCond .eq 7, 3) := by decide +kernel
theorem dX12_isParlourHere_51 : decode cX12_isParlourHere 51 = .ok (.iconst 1, 1) := by decide +kernel
theorem dX12_isParlourHere_52 : decode cX12_isParlourHere 52 = .ok (.goto 4, 3) := by decide +kernel
theorem dX12_isParlourHere_55 : decode cX12_isParlourHere 55 = .ok (.iconst 0, 1) := by decide +kernel
theorem dX12_isParlourHere_56 : decode cX12_isParlourHere 56 = .ok (.ireturn, 1) := by decide +kernel
theorem dX12_readPlant_0 : decode cX12_readPlant 0 = .ok (.aload_n 0, 1) := by decide +kernel
theorem dX12_readPlant_1 : decode cX12_readPlant 1 = .ok (.iconst 1, 1) := by decide +kernel
theorem dX12_readPlant_2 : decode cX12_readPlant 2 = .ok (.bipush 6, 2) := by decide +kernel
theorem dX12_readPlant_4 : decode cX12_readPlant 4 = .ok (.invokevirtual 171, 3) := by decide +kernel
theorem dX12_readPlant_7 : decode cX12_readPlant 7 = .ok (.ifCond .ne 5, 3) := by decide +kernel
theorem dX12_readPlant_10 : decode cX12_readPlant 10 = .ok (.iconst 0, 1) := by decide +kernel
theorem dX12_readPlant_11 : decode cX12_readPlant 11 = .ok (.ireturn, 1) := by decide +kernel
theorem dX12_readPlant_12 : decode cX12_readPlant 12 = .ok (.aload_n 0, 1) := by decide +kernel
theorem dX12_readPlant_13 : decode cX12_readPlant 13 = .ok (.getfield 101, 3) := by decide +kernel
theorem dX12_readPlant_16 : decode cX12_readPlant 16 = .ok (.iconst 1, 1) := by decide +kernel
theorem dX12_readPlant_17 : decode cX12_readPlant 17 = .ok (.iaload, 1) := by decide +kernel
theorem dX12_readPlant_18 : decode cX12_readPlant 18 = .ok (.istore_n 1, 1) := by decide +kernel
theorem dX12_readPlant_19 : decode cX12_readPlant 19 = .ok (.aload_n 0, 1) := by decide +kernel
theorem dX12_readPlant_20 : decode cX12_readPlant 20 = .ok (.iconst 5, 1) := by decide +kernel
theorem dX12_readPlant_21 : decode cX12_readPlant 21 = .ok (.iload_n 1, 1) := by decide +kernel
theorem dX12_readPlant_22 : decode cX12_readPlant 22 = .ok (.iadd, 1) := by decide +kernel
theorem dX12_readPlant_23 : decode cX12_readPlant 23 = .ok (.invokevirtual 175, 3) := by decide +kernel
theorem dX12_readPlant_26 : decode cX12_readPlant 26 = .ok (.ifCond .eq 18, 3) := by decide +kernel
theorem dX12_readPlant_29 : decode cX12_readPlant 29 = .ok (.aload_n 0, 1) := by decide +kernel
theorem dX12_readPlant_30 : decode cX12_readPlant 30 = .ok (.bipush 11, 2) := by decide +kernel
theorem dX12_readPlant_32 : decode cX12_readPlant 32 = .ok (.iload_n 1, 1) := by decide +kernel
theorem dX12_readPlant_33 : decode cX12_readPlant 33 = .ok (.iadd, 1) := by decide +kernel
theorem dX12_readPlant_34 : decode cX12_readPlant 34 = .ok (.aload_n 0, 1) := by decide +kernel
theorem dX12_readPlant_35 : decode cX12_readPlant 35 = .ok (.invokevirtual 178, 3) := by decide +kernel
theorem dX12_readPlant_38 : decode cX12_readPlant 38 = .ok (.invokevirtual 184, 3) := by decide +kernel
theorem dX12_readPlant_41 : decode cX12_readPlant 41 = .ok (.ifCond .ne 5, 3) := by decide +kernel
theorem dX12_readPlant_44 : decode cX12_readPlant 44 = .ok (.iconst 0, 1) := by decide +kernel
theorem dX12_readPlant_45 : decode cX12_readPlant 45 = .ok (.ireturn, 1) := by decide +kernel
theorem dX12_readPlant_46 : decode cX12_readPlant 46 = .ok (.aload_n 0, 1) := by decide +kernel
theorem dX12_readPlant_47 : decode cX12_readPlant 47 = .ok (.invokevirtual 82, 3) := by decide +kernel
theorem dX12_readPlant_50 : decode cX12_readPlant 50 = .ok (.aload_n 0, 1) := by decide +kernel
theorem dX12_readPlant_51 : decode cX12_readPlant 51 = .ok (.bipush 17, 2) := by decide +kernel
theorem dX12_readPlant_53 : decode cX12_readPlant 53 = .ok (.iload_n 1, 1) := by decide +kernel
theorem dX12_readPlant_54 : decode cX12_readPlant 54 = .ok (.iadd, 1) := by decide +kernel
theorem dX12_readPlant_55 : decode cX12_readPlant 55 = .ok (.aload_n 0, 1) := by decide +kernel
theorem dX12_readPlant_56 : decode cX12_readPlant 56 = .ok (.iconst 1, 1) := by decide +kernel
theorem dX12_readPlant_57 : decode cX12_readPlant 57 = .ok (.bipush 9, 2) := by decide +kernel
theorem dX12_readPlant_59 : decode cX12_readPlant 59 = .ok (.invokevirtual 188, 3) := by decide +kernel
theorem dX12_readPlant_62 : decode cX12_readPlant 62 = .ok (.invokevirtual 184, 3) := by decide +kernel
theorem dX12_readPlant_65 : decode cX12_readPlant 65 = .ok (.ifCond .ne 5, 3) := by decide +kernel
theorem dX12_readPlant_68 : decode cX12_readPlant 68 = .ok (.iconst 0, 1) := by decide +kernel
theorem dX12_readPlant_69 : decode cX12_readPlant 69 = .ok (.ireturn, 1) := by decide +kernel
theorem dX12_readPlant_70 : decode cX12_readPlant 70 = .ok (.aload_n 0, 1) := by decide +kernel
theorem dX12_readPlant_71 : decode cX12_readPlant 71 = .ok (.bipush 15, 2) := by decide +kernel
theorem dX12_readPlant_73 : decode cX12_readPlant 73 = .ok (.invokevirtual 191, 3) := by decide +kernel
theorem dX12_readPlant_76 : decode cX12_readPlant 76 = .ok (.ifCond .eq 20, 3) := by decide +kernel
theorem dX12_readPlant_79 : decode cX12_readPlant 79 = .ok (.aload_n 0, 1) := by decide +kernel
theorem dX12_readPlant_80 : decode cX12_readPlant 80 = .ok (.getfield 101, 3) := by decide +kernel
theorem dX12_readPlant_83 : decode cX12_readPlant 83 = .ok (.bipush 23, 2) := by decide +kernel
theorem dX12_readPlant_85 : decode cX12_readPlant 85 = .ok (.dup2, 1) := by decide +kernel
theorem dX12_readPlant_86 : decode cX12_readPlant 86 = .ok (.iaload, 1) := by decide +kernel
theorem dX12_readPlant_87 : decode cX12_readPlant 87 = .ok (.iconst 1, 1) := by decide +kernel
theorem dX12_readPlant_88 : decode cX12_readPlant 88 = .ok (.iload_n 1, 1) := by decide +kernel
theorem dX12_readPlant_89 : decode cX12_readPlant 89 = .ok (.ishl, 1) := by decide +kernel
theorem dX12_readPlant_90 : decode cX12_readPlant 90 = .ok (.ior, 1) := by decide +kernel
theorem dX12_readPlant_91 : decode cX12_readPlant 91 = .ok (.iastore, 1) := by decide +kernel
theorem dX12_readPlant_92 : decode cX12_readPlant 92 = .ok (.aload_n 0, 1) := by decide +kernel
theorem dX12_readPlant_93 : decode cX12_readPlant 93 = .ok (.invokevirtual 82, 3) := by decide +kernel
theorem dX12_readPlant_96 : decode cX12_readPlant 96 = .ok (.aload_n 0, 1) := by decide +kernel
theorem dX12_readPlant_97 : decode cX12_readPlant 97 = .ok (.getfield 101, 3) := by decide +kernel
theorem dX12_readPlant_100 : decode cX12_readPlant 100 = .ok (.iconst 1, 1) := by decide +kernel
theorem dX12_readPlant_101 : decode cX12_readPlant 101 = .ok (.dup2, 1) := by decide +kernel
theorem dX12_readPlant_102 : decode cX12_readPlant 102 = .ok (.iaload, 1) := by decide +kernel
theorem dX12_readPlant_103 : decode cX12_readPlant 103 = .ok (.iconst 1, 1) := by decide +kernel
theorem dX12_readPlant_104 : decode cX12_readPlant 104 = .ok (.iadd, 1) := by decide +kernel
theorem dX12_readPlant_105 : decode cX12_readPlant 105 = .ok (.iastore, 1) := by decide +kernel
theorem dX12_readPlant_106 : decode cX12_readPlant 106 = .ok (.iconst 1, 1) := by decide +kernel
theorem dX12_readPlant_107 : decode cX12_readPlant 107 = .ok (.ireturn, 1) := by decide +kernel
theorem dX12_readSight_0 : decode cX12_readSight 0 = .ok (.aload_n 0, 1) := by decide +kernel
theorem dX12_readSight_1 : decode cX12_readSight 1 = .ok (.invokevirtual 82, 3) := by decide +kernel
theorem dX12_readSight_4 : decode cX12_readSight 4 = .ok (.aload_n 0, 1) := by decide +kernel
theorem dX12_readSight_5 : decode cX12_readSight 5 = .ok (.invokevirtual 178, 3) := by decide +kernel
theorem dX12_readSight_8 : decode cX12_readSight 8 = .ok (.ifCond .ne 5, 3) := by decide +kernel
theorem dX12_readSight_11 : decode cX12_readSight 11 = .ok (.iconst 0, 1) := by decide +kernel
theorem dX12_readSight_12 : decode cX12_readSight 12 = .ok (.ireturn, 1) := by decide +kernel
theorem dX12_readSight_13 : decode cX12_readSight 13 = .ok (.aload_n 0, 1) := by decide +kernel
theorem dX12_readSight_14 : decode cX12_readSight 14 = .ok (.getfield 79, 3) := by decide +kernel
theorem dX12_readSight_17 : decode cX12_readSight 17 = .ok (.istore_n 1, 1) := by decide +kernel
theorem dX12_readSight_18 : decode cX12_readSight 18 = .ok (.aload_n 0, 1) := by decide +kernel
theorem dX12_readSight_19 : decode cX12_readSight 19 = .ok (.invokevirtual 82, 3) := by decide +kernel
theorem dX12_readSight_22 : decode cX12_readSight 22 = .ok (.aload_n 0, 1) := by decide +kernel
theorem dX12_readSight_23 : decode cX12_readSight 23 = .ok (.invokevirtual 178, 3) := by decide +kernel
theorem dX12_readSight_26 : decode cX12_readSight 26 = .ok (.ifCond .ne 5, 3) := by decide +kernel
theorem dX12_readSight_29 : decode cX12_readSight 29 = .ok (.iconst 0, 1) := by decide +kernel
theorem dX12_readSight_30 : decode cX12_readSight 30 = .ok (.ireturn, 1) := by decide +kernel
theorem dX12_readSight_31 : decode cX12_readSight 31 = .ok (.aload_n 0, 1) := by decide +kernel
theorem dX12_readSight_32 : decode cX12_readSight 32 = .ok (.getfield 79, 3) := by decide +kernel
theorem dX12_readSight_35 : decode cX12_readSight 35 = .ok (.iload_n 1, 1) := by decide +kernel
theorem dX12_readSight_36 : decode cX12_readSight 36 = .ok (.if_icmp .eq 22, 3) := by decide +kernel
theorem dX12_readSight_39 : decode cX12_readSight 39 = .ok (.aload_n 0, 1) := by decide +kernel
theorem dX12_readSight_40 : decode cX12_readSight 40 = .ok (.getfield 101, 3) := by decide +kernel
theorem dX12_readSight_43 : decode cX12_readSight 43 = .ok (.bipush 6, 2) := by decide +kernel
theorem dX12_readSight_45 : decode cX12_readSight 45 = .ok (.iload_n 1, 1) := by decide +kernel
theorem dX12_readSight_46 : decode cX12_readSight 46 = .ok (.iadd, 1) := by decide +kernel
theorem dX12_readSight_47 : decode cX12_readSight 47 = .ok (.iaload, 1) := by decide +kernel
theorem dX12_readSight_48 : decode cX12_readSight 48 = .ok (.aload_n 0, 1) := by decide +kernel
theorem dX12_readSight_49 : decode cX12_readSight 49 = .ok (.getfield 79, 3) := by decide +kernel
theorem dX12_readSight_52 : decode cX12_readSight 52 = .ok (.invokestatic 181, 3) := by decide +kernel
theorem dX12_readSight_55 : decode cX12_readSight 55 = .ok (.ifCond .eq 9, 3) := by decide +kernel
theorem dX12_readSight_58 : decode cX12_readSight 58 = .ok (.aload_n 0, 1) := by decide +kernel
theorem dX12_readSight_59 : decode cX12_readSight 59 = .ok (.iconst 3, 1) := by decide +kernel
theorem dX12_readSight_60 : decode cX12_readSight 60 = .ok (.invokevirtual 72, 3) := by decide +kernel
theorem dX12_readSight_63 : decode cX12_readSight 63 = .ok (.ireturn, 1) := by decide +kernel
theorem dX12_readSight_64 : decode cX12_readSight 64 = .ok (.aload_n 0, 1) := by decide +kernel
theorem dX12_readSight_65 : decode cX12_readSight 65 = .ok (.getfield 101, 3) := by decide +kernel
theorem dX12_readSight_68 : decode cX12_readSight 68 = .ok (.bipush 6, 2) := by decide +kernel
theorem dX12_readSight_70 : decode cX12_readSight 70 = .ok (.iload_n 1, 1) := by decide +kernel
theorem dX12_readSight_71 : decode cX12_readSight 71 = .ok (.iadd, 1) := by decide +kernel
theorem dX12_readSight_72 : decode cX12_readSight 72 = .ok (.dup2, 1) := by decide +kernel
theorem dX12_readSight_73 : decode cX12_readSight 73 = .ok (.iaload, 1) := by decide +kernel
theorem dX12_readSight_74 : decode cX12_readSight 74 = .ok (.iconst 1, 1) := by decide +kernel
theorem dX12_readSight_75 : decode cX12_readSight 75 = .ok (.aload_n 0, 1) := by decide +kernel
theorem dX12_readSight_76 : decode cX12_readSight 76 = .ok (.getfield 79, 3) := by decide +kernel
theorem dX12_readSight_79 : decode cX12_readSight 79 = .ok (.ishl, 1) := by decide +kernel
theorem dX12_readSight_80 : decode cX12_readSight 80 = .ok (.ior, 1) := by decide +kernel
theorem dX12_readSight_81 : decode cX12_readSight 81 = .ok (.iastore, 1) := by decide +kernel
theorem dX12_readSight_82 : decode cX12_readSight 82 = .ok (.aload_n 0, 1) := by decide +kernel
theorem dX12_readSight_83 : decode cX12_readSight 83 = .ok (.getfield 101, 3) := by decide +kernel
theorem dX12_readSight_86 : decode cX12_readSight 86 = .ok (.bipush 6, 2) := by decide +kernel
theorem dX12_readSight_88 : decode cX12_readSight 88 = .ok (.aload_n 0, 1) := by decide +kernel
theorem dX12_readSight_89 : decode cX12_readSight 89 = .ok (.getfield 79, 3) := by decide +kernel
theorem dX12_readSight_92 : decode cX12_readSight 92 = .ok (.iadd, 1) := by decide +kernel
theorem dX12_readSight_93 : decode cX12_readSight 93 = .ok (.dup2, 1) := by decide +kernel
theorem dX12_readSight_94 : decode cX12_readSight 94 = .ok (.iaload, 1) := by decide +kernel
theorem dX12_readSight_95 : decode cX12_readSight 95 = .ok (.iconst 1, 1) := by decide +kernel
theorem dX12_readSight_96 : decode cX12_readSight 96 = .ok (.iload_n 1, 1) := by decide +kernel
theorem dX12_readSight_97 : decode cX12_readSight 97 = .ok (.ishl, 1) := by decide +kernel
theorem dX12_readSight_98 : decode cX12_readSight 98 = .ok (.ior, 1) := by decide +kernel
theorem dX12_readSight_99 : decode cX12_readSight 99 = .ok (.iastore, 1) := by decide +kernel
theorem dX12_readSight_100 : decode cX12_readSight 100 = .ok (.aload_n 0, 1) := by decide +kernel
theorem dX12_readSight_101 : decode cX12_readSight 101 = .ok (.invokevirtual 82, 3) := by decide +kernel
theorem dX12_readSight_104 : decode cX12_readSight 104 = .ok (.iconst 1, 1) := by decide +kernel
theorem dX12_readSight_105 : decode cX12_readSight 105 = .ok (.ireturn, 1) := by decide +kernel
theorem dX12_readLine_0 : decode cX12_readLine 0 = .ok (.aload_n 0, 1) := by decide +kernel
theorem dX12_readLine_1 : decode cX12_readLine 1 = .ok (.iconst 0, 1) := by decide +kernel
theorem dX12_readLine_2 : decode cX12_readLine 2 = .ok (.invokevirtual 191, 3) := by decide +kernel
theorem dX12_readLine_5 : decode cX12_readLine 5 = .ok (.ifCond .eq 11, 3) := by decide +kernel
theorem dX12_readLine_8 : decode cX12_readLine 8 = .ok (.aload_n 0, 1) := by decide +kernel
theorem dX12_readLine_9 : decode cX12_readLine 9 = .ok (.iconst 0, 1) := by decide +kernel
theorem dX12_readLine_10 : decode cX12_readLine 10 = .ok (.iconst 5, 1) := by decide +kernel
theorem dX12_readLine_11 : decode cX12_readLine 11 = .ok (.iconst 0, 1) := by decide +kernel
theorem dX12_readLine_12 : decode cX12_readLine 12 = .ok (.invokevirtual 194, 3) := by decide +kernel
theorem dX12_readLine_15 : decode cX12_readLine 15 = .ok (.ireturn, 1) := by decide +kernel
theorem dX12_readLine_16 : decode cX12_readLine 16 = .ok (.aload_n 0, 1) := by decide +kernel
theorem dX12_readLine_17 : decode cX12_readLine 17 = .ok (.iconst 1, 1) := by decide +kernel
theorem dX12_readLine_18 : decode cX12_readLine 18 = .ok (.invokevirtual 191, 3) := by decide +kernel
theorem dX12_readLine_21 : decode cX12_readLine 21 = .ok (.ifCond .eq 8, 3) := by decide +kernel
theorem dX12_readLine_24 : decode cX12_readLine 24 = .ok (.aload_n 0, 1) := by decide +kernel
theorem dX12_readLine_25 : decode cX12_readLine 25 = .ok (.invokevirtual 197, 3) := by decide +kernel
theorem dX12_readLine_28 : decode cX12_readLine 28 = .ok (.ireturn, 1) := by decide +kernel
theorem dX12_readLine_29 : decode cX12_readLine 29 = .ok (.aload_n 0, 1) := by decide +kernel
theorem dX12_readLine_30 : decode cX12_readLine 30 = .ok (.iconst 2, 1) := by decide +kernel
theorem dX12_readLine_31 : decode cX12_readLine 31 = .ok (.invokevirtual 191, 3) := by decide +kernel
theorem dX12_readLine_34 : decode cX12_readLine 34 = .ok (.ifCond .eq 8, 3) := by decide +kernel
theorem dX12_readLine_37 : decode cX12_readLine 37 = .ok (.aload_n 0, 1) := by decide +kernel
theorem dX12_readLine_38 : decode cX12_readLine 38 = .ok (.invokevirtual 200, 3) := by decide +kernel
theorem dX12_readLine_41 : decode cX12_readLine 41 = .ok (.ireturn, 1) := by decide +kernel
theorem dX12_readLine_42 : decode cX12_readLine 42 = .ok (.aload_n 0, 1) := by decide +kernel
theorem dX12_readLine_43 : decode cX12_readLine 43 = .ok (.iconst 3, 1) := by decide +kernel
theorem dX12_readLine_44 : decode cX12_readLine 44 = .ok (.invokevirtual 191, 3) := by decide +kernel
theorem dX12_readLine_47 : decode cX12_readLine 47 = .ok (.ifCond .eq 12, 3) := by decide +kernel
theorem dX12_readLine_50 : decode cX12_readLine 50 = .ok (.aload_n 0, 1) := by decide +kernel
theorem dX12_readLine_51 : decode cX12_readLine 51 = .ok (.iconst 2, 1) := by decide +kernel
theorem dX12_readLine_52 : decode cX12_readLine 52 = .ok (.iconst 4, 1) := by decide +kernel
theorem dX12_readLine_53 : decode cX12_readLine 53 = .ok (.bipush 11, 2) := by decide +kernel
theorem dX12_readLine_55 : decode cX12_readLine 55 = .ok (.invokevirtual 194, 3) := by decide +kernel
theorem dX12_readLine_58 : decode cX12_readLine 58 = .ok (.ireturn, 1) := by decide +kernel
theorem dX12_readLine_59 : decode cX12_readLine 59 = .ok (.aload_n 0, 1) := by decide +kernel
theorem dX12_readLine_60 : decode cX12_readLine 60 = .ok (.iconst 4, 1) := by decide +kernel
theorem dX12_readLine_61 : decode cX12_readLine 61 = .ok (.invokevirtual 191, 3) := by decide +kernel
theorem dX12_readLine_64 : decode cX12_readLine 64 = .ok (.ifCond .eq 12, 3) := by decide +kernel
theorem dX12_readLine_67 : decode cX12_readLine 67 = .ok (.aload_n 0, 1) := by decide +kernel
theorem dX12_readLine_68 : decode cX12_readLine 68 = .ok (.iconst 3, 1) := by decide +kernel
theorem dX12_readLine_69 : decode cX12_readLine 69 = .ok (.iconst 5, 1) := by decide +kernel
theorem dX12_readLine_70 : decode cX12_readLine 70 = .ok (.bipush 15, 2) := by decide +kernel
theorem dX12_readLine_72 : decode cX12_readLine 72 = .ok (.invokevirtual 194, 3) := by decide +kernel
theorem dX12_readLine_75 : decode cX12_readLine 75 = .ok (.ireturn, 1) := by decide +kernel
theorem dX12_readLine_76 : decode cX12_readLine 76 = .ok (.aload_n 0, 1) := by decide +kernel
theorem dX12_readLine_77 : decode cX12_readLine 77 = .ok (.iconst 5, 1) := by decide +kernel
theorem dX12_readLine_78 : decode cX12_readLine 78 = .ok (.invokevirtual 191, 3) := by decide +kernel
theorem dX12_readLine_81 : decode cX12_readLine 81 = .ok (.ifCond .eq 12, 3) := by decide +kernel
theorem dX12_readLine_84 : decode cX12_readLine 84 = .ok (.aload_n 0, 1) := by decide +kernel
theorem dX12_readLine_85 : decode cX12_readLine 85 = .ok (.iconst 0, 1) := by decide +kernel
theorem dX12_readLine_86 : decode cX12_readLine 86 = .ok (.iconst 4, 1) := by decide +kernel
theorem dX12_readLine_87 : decode cX12_readLine 87 = .ok (.bipush 60, 2) := by decide +kernel
theorem dX12_readLine_89 : decode cX12_readLine 89 = .ok (.invokevirtual 203, 3) := by decide +kernel
theorem dX12_readLine_92 : decode cX12_readLine 92 = .ok (.ireturn, 1) := by decide +kernel
theorem dX12_readLine_93 : decode cX12_readLine 93 = .ok (.aload_n 0, 1) := by decide +kernel
theorem dX12_readLine_94 : decode cX12_readLine 94 = .ok (.bipush 6, 2) := by decide +kernel
theorem dX12_readLine_96 : decode cX12_readLine 96 = .ok (.invokevirtual 191, 3) := by decide +kernel
theorem dX12_readLine_99 : decode cX12_readLine 99 = .ok (.ifCond .eq 14, 3) := by decide +kernel
theorem dX12_readLine_102 : decode cX12_readLine 102 = .ok (.aload_n 0, 1) := by decide +kernel
theorem dX12_readLine_103 : decode cX12_readLine 103 = .ok (.iconst 1, 1) := by decide +kernel
theorem dX12_readLine_104 : decode cX12_readLine 104 = .ok (.iconst 5, 1) := by decide +kernel
theorem dX12_readLine_105 : decode cX12_readLine 105 = .ok (.bipush 6, 2) := by decide +kernel
theorem dX12_readLine_107 : decode cX12_readLine 107 = .ok (.invokevirtual 203, 3) := by decide +kernel
theorem dX12_readLine_110 : decode cX12_readLine 110 = .ok (.goto 8, 3) := by decide +kernel
theorem dX12_readLine_113 : decode cX12_readLine 113 = .ok (.aload_n 0, 1) := by decide +kernel
theorem dX12_readLine_114 : decode cX12_readLine 114 = .ok (.iconst 1, 1) := by decide +kernel
theorem dX12_readLine_115 : decode cX12_readLine 115 = .ok (.invokevirtual 72, 3) := by decide +kernel
theorem dX12_readLine_118 : decode cX12_readLine 118 = .ok (.ireturn, 1) := by decide +kernel
-- X12_fault
abbrev rmX12_fault : Room := { frames := 0, cells := 0, slots := 0, locals := 0 }
def fX12_fault (S : zSt) : Option (Int32 × zSt) :=
  zLt (zI S 0 0 (0 : Int32)) (fun S1 => some ((S1.1 0 10), S1))
set_option maxHeartbeats 4000000 in
set_option maxRecDepth 100000 in
theorem mX12_fault {l : Launch} {D : va_G} {cy : Nat → ClassId} {q : Nat → Nat} {A : Nat → Prop} {S : zSt} (hq : zQ A q zNM) {z : (Int32 × zSt)} (h : fX12_fault S = some z) : zMq l yX12_fault cX12_fault 1 (some .int) rmX12_fault [.ref (q 0)] zshM zNM D cy q A S z := by
  refine Met.ofW (cc := cX12_fault) (maxL := 1) (ret := (some .int)) (by decide) rfl ?_
  intro p e s m args below meth c s₁ B hml hv
  obtain ⟨rfl, hP, hK⟩ := hv
  have cx : zX RX12 cX12_fault 1 p s m ([.ref (q 0)]).toArray c D cy := ⟨B.exec, B.bytes, hml, findClass_of_methodNamed B.named, fun w hw => atoms_spec (ws := Cond.code yX12_fault cX12_fault 1 (some .int) :: zTB) B.pre w (List.mem_cons_of_mem _ hw), hK⟩
  have hx := cx.1
  have hb := cx.2.1
  have hr := B.returns
  have hlk := B.notSynchronized
  have hS : va_S A s.heap s.heap [] := va_S.rf
  have hl := lv_entry ([.ref (q 0)]) (n := 1) (Nat.le_of_ble_eq_true rfl)
  rw [lg_entry_eq]
  generalize (lg_sl ([.ref (q 0)]) ++ List.replicate (1 - (lg_sl ([.ref (q 0)])).length) Slot.unset).toArray = ls at hl ⊢
  have hl : lv_has ls 1 [(0, .ref (q 0))] := hl
  unfold fX12_fault at h
  refine lv_aload_n (pc := 0) hx hb dX12_fault_0 rfl (lv_at hl 0 rfl) ?_
  refine lv_iconst (pc := 1) hx hb dX12_fault_1 zc_0 ?_
  obtain ⟨S1, eS1, h⟩ := zLt_e h
  refine zr_putI (pc := 2) cx lq_X12_1 hq hP hS nM_0 sM_0 rfl rfl rfl dX12_fault_2 (fun H locs hP hS => ?_)
  rw [← eS1] at hP
  refine lv_aload_n (pc := 5) hx hb dX12_fault_5 rfl (lv_at hl 0 rfl) ?_
  refine zr_getI (pc := 6) cx lk_X12_66 hP nM_0 sM_0 rfl dX12_fault_6 ?_
  have hz := Option.some.inj h
  exact zr_rqI (pc := 9) cx hr hlk hP hS hz dX12_fault_9
-- X12_feed
abbrev rmX12_feed : Room := { frames := 1, cells := 0, slots := 0, locals := 22 }
def fX12_feed (S : zSt) (v1 : Int32) (v2 : Int32) (v3 : Int32) (v4 : Int32) (v5 : Int32) : Option (Int32 × zSt) :=
  zLt (zI S 0 0 (0 : Int32)) (fun S1 => zBr (((S1.1 0 2) + (20 : Int32)) ≤ (940 : Int32)) (zBd (fX12_come S1 v1) (fun S4 => zBd (fX12_come S4 v2) (fun S6 => zBd (fX12_come S6 v3) (fun S8 => zBd (fX12_come S8 v4) (fun S10 => zBd (fX12_come S10 v5) (fun S12 => some ((S12.1 0 2), S12))))))) (some ((-1 : Int32), S1)))
set_option maxHeartbeats 4000000 in
set_option maxRecDepth 100000 in
theorem mX12_feed {l : Launch} {D : va_G} {cy : Nat → ClassId} {q : Nat → Nat} {A : Nat → Prop} {S : zSt} {v1 : Int32} {v2 : Int32} {v3 : Int32} {v4 : Int32} {v5 : Int32} (hq : zQ A q zNM) {z : (Int32 × zSt)} (h : fX12_feed S v1 v2 v3 v4 v5 = some z) : zMq l yX12_feed cX12_feed 6 (some .int) rmX12_feed [.ref (q 0), .int v1, .int v2, .int v3, .int v4, .int v5] zshM zNM D cy q A S z := by
  refine Met.ofW (cc := cX12_feed) (maxL := 6) (ret := (some .int)) (by decide) rfl ?_
  intro p e s m args below meth c s₁ B hml hv
  obtain ⟨rfl, hP, hK⟩ := hv
  have cx : zX RX12 cX12_feed 6 p s m ([.ref (q 0), .int v1, .int v2, .int v3, .int v4, .int v5]).toArray c D cy := ⟨B.exec, B.bytes, hml, findClass_of_methodNamed B.named, fun w hw => atoms_spec (ws := Cond.code yX12_feed cX12_feed 6 (some .int) :: zTB) B.pre w (List.mem_cons_of_mem _ hw), hK⟩
  have hx := cx.1
  have hb := cx.2.1
  have hr := B.returns
  have hlk := B.notSynchronized
  have hS : va_S A s.heap s.heap [] := va_S.rf
  have hl := lv_entry ([.ref (q 0), .int v1, .int v2, .int v3, .int v4, .int v5]) (n := 6) (Nat.le_of_ble_eq_true rfl)
  rw [lg_entry_eq]
  generalize (lg_sl ([.ref (q 0), .int v1, .int v2, .int v3, .int v4, .int v5]) ++ List.replicate (6 - (lg_sl ([.ref (q 0), .int v1, .int v2, .int v3, .int v4, .int v5])).length) Slot.unset).toArray = ls at hl ⊢
  have hl : lv_has ls 6 [(0, .ref (q 0)), (1, .int v1), (2, .int v2), (3, .int v3), (4, .int v4), (5, .int v5)] := hl
  unfold fX12_feed at h
  refine lv_aload_n (pc := 0) hx hb dX12_feed_0 rfl (lv_at hl 0 rfl) ?_
  refine lv_iconst (pc := 1) hx hb dX12_feed_1 zc_0 ?_
  obtain ⟨S1, eS1, h⟩ := zLt_e h
  refine zr_putI (pc := 2) cx lq_X12_1 hq hP hS nM_0 sM_0 rfl rfl rfl dX12_feed_2 (fun H locs hP hS => ?_)
  rw [← eS1] at hP
  refine lv_aload_n (pc := 5) hx hb dX12_feed_5 rfl (lv_at hl 0 rfl) ?_
  refine zr_getI (pc := 6) cx lk_X12_11 hP nM_0 sM_0 rfl dX12_feed_6 ?_
  refine lv_bipush (pc := 9) hx hb dX12_feed_9 zb_20 ?_
  refine lv_iadd (pc := 11) hx hb dX12_feed_11 ?_
  refine lv_sipush (pc := 12) hx hb dX12_feed_12 zs_940 ?_
  refine lv_icmp_le (pc := 15) (tgt := 20) hx hb dX12_feed_15 (by decide) (fun c2 => ?_) (fun c2 => ?_)
  · replace h := zBr_t c2 h
    refine lv_aload_n (pc := 20) hx hb dX12_feed_20 rfl (lv_at hl 0 rfl) ?_
    refine lv_iload_n (pc := 21) hx hb dX12_feed_21 rfl (lv_at hl 1 rfl) ?_
    obtain ⟨S4, k3, h⟩ := zBd_e h
    refine zr_VV (pc := 22) (rest := []) cx cv_X12_14 (mX12_come hq k3) ⟨⟨rfl, rfl⟩, Nat.le_of_ble_eq_true rfl, Nat.le_of_ble_eq_true rfl⟩ ⟨Nat.le_of_ble_eq_true rfl, Nat.le_of_ble_eq_true rfl⟩ hP hS nM_0 sM_0 rfl hl.1 rfl rfl (Nat.le_of_ble_eq_true rfl) dX12_feed_22 (fun H locs hP hS => ?_)
    refine lv_aload_n (pc := 25) hx hb dX12_feed_25 rfl (lv_at hl 0 rfl) ?_
    refine lv_iload_n (pc := 26) hx hb dX12_feed_26 rfl (lv_at hl 2 rfl) ?_
    obtain ⟨S6, k5, h⟩ := zBd_e h
    refine zr_VV (pc := 27) (rest := []) cx cv_X12_14 (mX12_come hq k5) ⟨⟨rfl, rfl⟩, Nat.le_of_ble_eq_true rfl, Nat.le_of_ble_eq_true rfl⟩ ⟨Nat.le_of_ble_eq_true rfl, Nat.le_of_ble_eq_true rfl⟩ hP hS nM_0 sM_0 rfl hl.1 rfl rfl (Nat.le_of_ble_eq_true rfl) dX12_feed_27 (fun H locs hP hS => ?_)
    refine lv_aload_n (pc := 30) hx hb dX12_feed_30 rfl (lv_at hl 0 rfl) ?_
    refine lv_iload_n (pc := 31) hx hb dX12_feed_31 rfl (lv_at hl 3 rfl) ?_
    obtain ⟨S8, k7, h⟩ := zBd_e h
    refine zr_VV (pc := 32) (rest := []) cx cv_X12_14 (mX12_come hq k7) ⟨⟨rfl, rfl⟩, Nat.le_of_ble_eq_true rfl, Nat.le_of_ble_eq_true rfl⟩ ⟨Nat.le_of_ble_eq_true rfl, Nat.le_of_ble_eq_true rfl⟩ hP hS nM_0 sM_0 rfl hl.1 rfl rfl (Nat.le_of_ble_eq_true rfl) dX12_feed_32 (fun H locs hP hS => ?_)
    refine lv_aload_n (pc := 35) hx hb dX12_feed_35 rfl (lv_at hl 0 rfl) ?_
    refine lv_iload (pc := 36) hx hb dX12_feed_36 (lv_at hl 4 rfl) ?_
    obtain ⟨S10, k9, h⟩ := zBd_e h
    refine zr_VV (pc := 38) (rest := []) cx cv_X12_14 (mX12_come hq k9) ⟨⟨rfl, rfl⟩, Nat.le_of_ble_eq_true rfl, Nat.le_of_ble_eq_true rfl⟩ ⟨Nat.le_of_ble_eq_true rfl, Nat.le_of_ble_eq_true rfl⟩ hP hS nM_0 sM_0 rfl hl.1 rfl rfl (Nat.le_of_ble_eq_true rfl) dX12_feed_38 (fun H locs hP hS => ?_)
    refine lv_aload_n (pc := 41) hx hb dX12_feed_41 rfl (lv_at hl 0 rfl) ?_
    refine lv_iload (pc := 42) hx hb dX12_feed_42 (lv_at hl 5 rfl) ?_
    obtain ⟨S12, k11, h⟩ := zBd_e h
    refine zr_VV (pc := 44) (rest := []) cx cv_X12_14 (mX12_come hq k11) ⟨⟨rfl, rfl⟩, Nat.le_of_ble_eq_true rfl, Nat.le_of_ble_eq_true rfl⟩ ⟨Nat.le_of_ble_eq_true rfl, Nat.le_of_ble_eq_true rfl⟩ hP hS nM_0 sM_0 rfl hl.1 rfl rfl (Nat.le_of_ble_eq_true rfl) dX12_feed_44 (fun H locs hP hS => ?_)
    refine lv_aload_n (pc := 47) hx hb dX12_feed_47 rfl (lv_at hl 0 rfl) ?_
    refine zr_getI (pc := 48) cx lk_X12_11 hP nM_0 sM_0 rfl dX12_feed_48 ?_
    have hz := Option.some.inj h
    exact zr_rqI (pc := 51) cx hr hlk hP hS hz dX12_feed_51
  · replace h := zBr_f c2 h
    refine lv_iconst (pc := 18) hx hb dX12_feed_18 zc_m1 ?_
    have hz := Option.some.inj h
    exact zr_rqI (pc := 19) cx hr hlk hP hS hz dX12_feed_19
-- X12_size
abbrev rmX12_size : Room := { frames := 0, cells := 0, slots := 0, locals := 0 }
def fX12_size (v0 : Int32) : Option Int32 :=
  zBr (0 ≤ v0) (some v0) (some (-v0))
set_option maxHeartbeats 4000000 in
set_option maxRecDepth 100000 in
theorem mX12_size {l : Launch} {D : va_G} {cy : Nat → ClassId} {v0 : Int32} {z : Int32} (h : fX12_size v0 = some z) : zMi l yX12_size cX12_size 1 (some .int) rmX12_size [.int v0] (zPk D cy) z := by
  refine Met.ofW (cc := cX12_size) (maxL := 1) (ret := (some .int)) (by decide) rfl ?_
  intro p e s m args below meth c s₁ B hml hv
  obtain ⟨rfl, hK⟩ := hv
  have cx : zX RX12 cX12_size 1 p s m ([.int v0]).toArray c D cy := ⟨B.exec, B.bytes, hml, findClass_of_methodNamed B.named, fun w hw => atoms_spec (ws := Cond.code yX12_size cX12_size 1 (some .int) :: zTB) B.pre w (List.mem_cons_of_mem _ hw), hK⟩
  have hx := cx.1
  have hb := cx.2.1
  have hr := B.returns
  have hlk := B.notSynchronized
  have hl := lv_entry ([.int v0]) (n := 1) (Nat.le_of_ble_eq_true rfl)
  rw [lg_entry_eq]
  generalize (lg_sl ([.int v0]) ++ List.replicate (1 - (lg_sl ([.int v0])).length) Slot.unset).toArray = ls at hl ⊢
  have hl : lv_has ls 1 [(0, .int v0)] := hl
  unfold fX12_size at h
  refine lv_iload_n (pc := 0) hx hb dX12_size_0 rfl (lv_at hl 0 rfl) ?_
  refine lv_if_ge (pc := 1) (tgt := 9) hx hb dX12_size_1 (by decide) (fun c1 => ?_) (fun c1 => ?_)
  · replace h := zBr_t c1 h
    refine lv_iload_n (pc := 9) hx hb dX12_size_9 rfl (lv_at hl 0 rfl) ?_
    have hz := Option.some.inj h
    exact zr_reI (pc := 10) cx hr hlk hz dX12_size_10
  · replace h := zBr_f c1 h
    refine lv_iload_n (pc := 4) hx hb dX12_size_4 rfl (lv_at hl 0 rfl) ?_
    refine lv_ineg (pc := 5) hx hb dX12_size_5 ?_
    refine lv_goto (pc := 6) (tgt := 10) hx hb dX12_size_6 (by decide) ?_
    have hz := Option.some.inj h
    exact zr_reI (pc := 10) cx hr hlk hz dX12_size_10
-- X12_fits
abbrev rmX12_fits : Room := { frames := 3, cells := 0, slots := 0, locals := 64 }
def fX12_fits_212 (S : zSt)  (v3 : Int32) (v4 : Int32) (v5 : Int32) : Option ((zSt × Int32 × Int32) ⊕ (Int32 × zSt)) :=
  zLt (v5 + (1 : Int32)) (fun x31 => some (.inl (S, v4, x31)))
set_option maxHeartbeats 4000000 in
set_option maxRecDepth 100000 in
theorem kX12_fits_212 {p : Program} {l : Launch} {e : Env} {s : State} {m : MethodId} {args : Array Value} {below : List Frame} {meth : Method} {c : Code} {D : va_G} {cy : Nat → ClassId} {q : Nat → Nat} {A : Nat → Prop} (cx : zX RX12 cX12_fits 7 p s m args c D cy) (hr : meth.sig.returnType = (some .int)) (hlk : meth.locks = false) (hq : zQ A q zNM) {z : (Int32 × zSt)} {S : zSt} {v3 : Int32} {v4 : Int32} {v5 : Int32} {C1 : ((zSt × Int32 × Int32) ⊕ (Int32 × zSt)) → Prop} (hb1 : ∀ (S : zSt) (v4 : Int32) (v5 : Int32), C1 (.inl (S, v4, v5)) → ∀ (H : Heap) (locs : List Loc), va_P D vwCl (zW zshM zNM cy q S) H → va_S A s.heap H locs → ∀ (ls : Array Slot), lv_has ls 7 [(0, .ref (q 0)), (3, .int v3), (4, .int v4), (5, .int v5)] → W p l e rmX12_fits s m args below meth c H locs 0 0 (MQ below (va_Qi (fun (r : Int32) (u : zSt) => (r, u) = z) (fun u t => va_P D vwCl (zW zshM zNM cy q u) t.heap) A) args s 0 0 A) (F0 m 157 ls [])) (hx1 : ∀ a, C1 (.inr a) → a = z) {x : ((zSt × Int32 × Int32) ⊕ (Int32 × zSt))} (h : fX12_fits_212 S v3 v4 v5 = some x) (hc : C1 x) {H : Heap} {locs : List Loc} (hP : va_P D vwCl (zW zshM zNM cy q S) H) (hS : va_S A s.heap H locs) {ls : Array Slot} (hl : lv_has ls 7 [(0, .ref (q 0)), (3, .int v3), (4, .int v4), (5, .int v5)]) : W p l e rmX12_fits s m args below meth c H locs 0 0 (MQ below (va_Qi (fun (r : Int32) (u : zSt) => (r, u) = z) (fun u t => va_P D vwCl (zW zshM zNM cy q u) t.heap) A) args s 0 0 A) (F0 m 212 ls []) := by
  have hx := cx.1
  have hb := cx.2.1
  unfold fX12_fits_212 at h
  obtain ⟨x31, ex31, h⟩ := zLt_e h
  refine lv_iinc (v := x31) (lv' := [(5, .int x31), (0, .ref (q 0)), (3, .int v3), (4, .int v4)]) (pc := 212) hx hb dX12_fits_212 hl (k := 3) rfl (by rw [zc_1]; exact ex31.symm) (by decide) rfl (fun ls hl => ?_)
  refine lv_goto (pc := 215) (tgt := 157) hx hb dX12_fits_215 (by decide) ?_
  cases h
  exact hb1 _ _ _ hc _ _ hP hS _ (lv_sub hl [1, 2, 3, 0] rfl)
def fX12_fits_157  (v3 : Int32) (t : (zSt × Int32 × Int32)) : Option ((zSt × Int32 × Int32) ⊕ (Int32 × zSt)) :=
  match t with
  | (S, v4, v5) => zGd (zIx (1 : Int32) 406) (zBr ((S.1 2 (1 : Int32).toNatClampNeg) ≤ v5) (zXr (some (v3, S))) (zBd (fX12_seesOf S v5 (0 : Int32)) (fun r22 => zBd (fX12_bits (v3 &&& r22)) (fun r24 => zBd (fX12_bits v3) (fun r26 => zBd (fX12_size (((2 : Int32) * r24) - r26)) (fun r28 => zBr (r28 < v4) (zLt (zI S 0 25 v5) (fun S30 => fX12_fits_212 S30 v3 r28 v5)) (fX12_fits_212 S v3 v4 v5)))))))
set_option maxHeartbeats 4000000 in
set_option maxRecDepth 100000 in
theorem kX12_fits_157B {p : Program} {l : Launch} {e : Env} {s : State} {m : MethodId} {args : Array Value} {below : List Frame} {meth : Method} {c : Code} {D : va_G} {cy : Nat → ClassId} {q : Nat → Nat} {A : Nat → Prop} (cx : zX RX12 cX12_fits 7 p s m args c D cy) (hr : meth.sig.returnType = (some .int)) (hlk : meth.locks = false) (hq : zQ A q zNM) {z : (Int32 × zSt)} {S : zSt} {v3 : Int32} {v4 : Int32} {v5 : Int32} {C1 : ((zSt × Int32 × Int32) ⊕ (Int32 × zSt)) → Prop} (hb1 : ∀ (S : zSt) (v4 : Int32) (v5 : Int32), C1 (.inl (S, v4, v5)) → ∀ (H : Heap) (locs : List Loc), va_P D vwCl (zW zshM zNM cy q S) H → va_S A s.heap H locs → ∀ (ls : Array Slot), lv_has ls 7 [(0, .ref (q 0)), (3, .int v3), (4, .int v4), (5, .int v5)] → W p l e rmX12_fits s m args below meth c H locs 0 0 (MQ below (va_Qi (fun (r : Int32) (u : zSt) => (r, u) = z) (fun u t => va_P D vwCl (zW zshM zNM cy q u) t.heap) A) args s 0 0 A) (F0 m 157 ls [])) (hx1 : ∀ a, C1 (.inr a) → a = z) {x : ((zSt × Int32 × Int32) ⊕ (Int32 × zSt))} (h : fX12_fits_157 v3 (S, v4, v5) = some x) (hc : C1 x) {H : Heap} {locs : List Loc} (hP : va_P D vwCl (zW zshM zNM cy q S) H) (hS : va_S A s.heap H locs) {ls : Array Slot} (hl : lv_has ls 7 [(0, .ref (q 0)), (3, .int v3), (4, .int v4), (5, .int v5)]) : W p l e rmX12_fits s m args below meth c H locs 0 0 (MQ below (va_Qi (fun (r : Int32) (u : zSt) => (r, u) = z) (fun u t => va_P D vwCl (zW zshM zNM cy q u) t.heap) A) args s 0 0 A) (F0 m 157 ls []) := by
  have hx := cx.1
  have hb := cx.2.1
  unfold fX12_fits_157 at h
  dsimp only at h
  refine lv_iload (pc := 157) hx hb dX12_fits_157 (lv_at hl 3 rfl) ?_
  refine lv_aload_n (pc := 159) hx hb dX12_fits_159 rfl (lv_at hl 0 rfl) ?_
  refine zr_getR (pc := 160) (t := 2) cx lk_X12_98 hP nM_0 sM_0 rfl dX12_fits_160 ?_
  refine lv_iconst (pc := 163) hx hb dX12_fits_163 zc_1 ?_
  obtain ⟨g18, h⟩ := zGd_e h
  refine zr_iald (pc := 164) cx hP nM_2 sM_2 g18 dX12_fits_164 ?_
  refine lv_icmp_ge (pc := 165) (tgt := 218) hx hb dX12_fits_165 (by decide) (fun c19 => ?_) (fun c19 => ?_)
  · replace h := zBr_t c19 h
    obtain ⟨y20, h, ex⟩ := zXr_e h
    have hc := hx1 y20 (by rw [ex] at hc; exact hc)
    rw [hc] at h
    refine lv_iload_n (pc := 218) hx hb dX12_fits_218 rfl (lv_at hl 1 rfl) ?_
    have hz := Option.some.inj h
    exact zr_rqI (pc := 219) cx hr hlk hP hS hz dX12_fits_219
  · replace h := zBr_f c19 h
    refine lv_iconst (pc := 168) hx hb dX12_fits_168 zc_2 ?_
    refine lv_iload_n (pc := 169) hx hb dX12_fits_169 rfl (lv_at hl 1 rfl) ?_
    refine lv_aload_n (pc := 170) hx hb dX12_fits_170 rfl (lv_at hl 0 rfl) ?_
    refine lv_iload (pc := 171) hx hb dX12_fits_171 (lv_at hl 3 rfl) ?_
    refine lv_iconst (pc := 173) hx hb dX12_fits_173 zc_0 ?_
    obtain ⟨r22, k21, h⟩ := zBd_e h
    refine zr_VI (pc := 174) (rest := [.int v3, .int (2 : Int32)]) cx cv_X12_250 (mX12_seesOf k21) ⟨⟨rfl, rfl⟩, Nat.le_of_ble_eq_true rfl, Nat.le_of_ble_eq_true rfl⟩ ⟨Nat.le_of_ble_eq_true rfl, Nat.le_of_ble_eq_true rfl⟩ hP nM_0 sM_0 rfl hl.1 rfl rfl (Nat.le_of_ble_eq_true rfl) dX12_fits_174 ?_
    refine lv_iand (pc := 177) hx hb dX12_fits_177 ?_
    obtain ⟨r24, k23, h⟩ := zBd_e h
    refine zr_SI (pc := 178) (rest := [.int (2 : Int32)]) cx cv_X12_238 (mX12_bits k23) ⟨⟨rfl, rfl⟩, Nat.le_of_ble_eq_true rfl, Nat.le_of_ble_eq_true rfl⟩ ⟨Nat.le_of_ble_eq_true rfl, Nat.le_of_ble_eq_true rfl⟩ (zr_preK cx) hl.1 rfl rfl (Nat.le_of_ble_eq_true rfl) dX12_fits_178 ?_
    refine lv_imul (pc := 181) hx hb dX12_fits_181 ?_
    refine lv_iload_n (pc := 182) hx hb dX12_fits_182 rfl (lv_at hl 1 rfl) ?_
    obtain ⟨r26, k25, h⟩ := zBd_e h
    refine zr_SI (pc := 183) (rest := [.int ((2 : Int32) * r24)]) cx cv_X12_238 (mX12_bits k25) ⟨⟨rfl, rfl⟩, Nat.le_of_ble_eq_true rfl, Nat.le_of_ble_eq_true rfl⟩ ⟨Nat.le_of_ble_eq_true rfl, Nat.le_of_ble_eq_true rfl⟩ (zr_preK cx) hl.1 rfl rfl (Nat.le_of_ble_eq_true rfl) dX12_fits_183 ?_
    refine lv_isub (pc := 186) hx hb dX12_fits_186 ?_
    obtain ⟨r28, k27, h⟩ := zBd_e h
    refine zr_SI (pc := 187) (rest := []) cx cv_X12_306 (mX12_size k27) ⟨⟨rfl, rfl⟩, Nat.le_of_ble_eq_true rfl, Nat.le_of_ble_eq_true rfl⟩ ⟨Nat.le_of_ble_eq_true rfl, Nat.le_of_ble_eq_true rfl⟩ (zr_preK cx) hl.1 rfl rfl (Nat.le_of_ble_eq_true rfl) dX12_fits_187 ?_
    refine lv_istore (lv' := [(6, .int r28), (0, .ref (q 0)), (3, .int v3), (4, .int v4), (5, .int v5)]) (pc := 190) hx hb dX12_fits_190 hl (by decide) rfl (fun ls hl => ?_)
    refine lv_iload (pc := 192) hx hb dX12_fits_192 (lv_at hl 0 rfl) ?_
    refine lv_iload (pc := 194) hx hb dX12_fits_194 (lv_at hl 3 rfl) ?_
    refine lv_icmp_lt (pc := 196) (tgt := 202) hx hb dX12_fits_196 (by decide) (fun c29 => ?_) (fun c29 => ?_)
    · replace h := zBr_t c29 h
      refine lv_iload (pc := 202) hx hb dX12_fits_202 (lv_at hl 0 rfl) ?_
      refine lv_istore (lv' := [(4, .int r28), (6, .int r28), (0, .ref (q 0)), (3, .int v3), (5, .int v5)]) (pc := 204) hx hb dX12_fits_204 hl (by decide) rfl (fun ls hl => ?_)
      refine lv_aload_n (pc := 206) hx hb dX12_fits_206 rfl (lv_at hl 2 rfl) ?_
      refine lv_iload (pc := 207) hx hb dX12_fits_207 (lv_at hl 4 rfl) ?_
      obtain ⟨S30, eS30, h⟩ := zLt_e h
      refine zr_putI (pc := 209) cx lq_X12_130 hq hP hS nM_0 sM_0 rfl rfl rfl dX12_fits_209 (fun H locs hP hS => ?_)
      rw [← eS30] at hP
      exact kX12_fits_212 cx hr hlk hq hb1 hx1 h hc hP hS (lv_sub hl [2, 3, 0, 4] rfl)
    · replace h := zBr_f c29 h
      refine lv_goto (pc := 199) (tgt := 212) hx hb dX12_fits_199 (by decide) ?_
      exact kX12_fits_212 cx hr hlk hq hb1 hx1 h hc hP hS (lv_sub hl [1, 2, 3, 4] rfl)
set_option maxHeartbeats 4000000 in
set_option maxRecDepth 100000 in
theorem kX12_fits_157 {p : Program} {l : Launch} {e : Env} {s : State} {m : MethodId} {args : Array Value} {below : List Frame} {meth : Method} {c : Code} {D : va_G} {cy : Nat → ClassId} {q : Nat → Nat} {A : Nat → Prop} (cx : zX RX12 cX12_fits 7 p s m args c D cy) (hr : meth.sig.returnType = (some .int)) (hlk : meth.locks = false) (hq : zQ A q zNM) {z : (Int32 × zSt)} {v3 : Int32} : ∀ (n : Nat) (S : zSt) (v4 : Int32) (v5 : Int32), zLp (fX12_fits_157 v3) n (S, v4, v5) = some z → ∀ (H : Heap) (locs : List Loc), va_P D vwCl (zW zshM zNM cy q S) H → va_S A s.heap H locs → ∀ (ls : Array Slot), lv_has ls 7 [(0, .ref (q 0)), (3, .int v3), (4, .int v4), (5, .int v5)] → W p l e rmX12_fits s m args below meth c H locs 0 0 (MQ below (va_Qi (fun (r : Int32) (u : zSt) => (r, u) = z) (fun u t => va_P D vwCl (zW zshM zNM cy q u) t.heap) A) args s 0 0 A) (F0 m 157 ls []) := by
  intro n
  induction n with
  | zero =>
    intro S v4 v5 h
    cases h
  | succ n ih =>
    intro S v4 v5 h H locs hP hS ls hl
    obtain ⟨x, h, hk⟩ := zLp_e h
    exact kX12_fits_157B cx hr hlk hq  (C1 := zKt (fun t => zLp (fX12_fits_157 v3) n t = some z) (fun a => a = z)) (fun S v4 v5 ht H locs hP hS ls hl => ih S v4 v5 ht H locs hP hS ls hl) (fun a ha => ha) h hk hP hS hl
def fX12_fits_135 (S : zSt)  (v1 : Int32) (v4 : Int32) (t0 : Int32) (t1 : Int32) : Option ((Int32 × Int32) ⊕ (Int32 × zSt)) :=
  zLt (t1 &&& t0) (fun x37 => zLt (v4 + (2 : Int32)) (fun x38 => some (.inl (x37, x38))))
set_option maxHeartbeats 4000000 in
set_option maxRecDepth 100000 in
theorem kX12_fits_135 {p : Program} {l : Launch} {e : Env} {s : State} {m : MethodId} {args : Array Value} {below : List Frame} {meth : Method} {c : Code} {D : va_G} {cy : Nat → ClassId} {q : Nat → Nat} {A : Nat → Prop} (cx : zX RX12 cX12_fits 7 p s m args c D cy) (hr : meth.sig.returnType = (some .int)) (hlk : meth.locks = false) (hq : zQ A q zNM) {z : (Int32 × zSt)} {S : zSt} {v1 : Int32} {v4 : Int32} {t0 : Int32} {t1 : Int32} {C1 : ((Int32 × Int32) ⊕ (Int32 × zSt)) → Prop} (hb1 : ∀ (v3 : Int32) (v4 : Int32), C1 (.inl (v3, v4)) → ∀ (H : Heap) (locs : List Loc), va_P D vwCl (zW zshM zNM cy q S) H → va_S A s.heap H locs → ∀ (ls : Array Slot), lv_has ls 7 [(0, .ref (q 0)), (1, .int v1), (3, .int v3), (4, .int v4)] → W p l e rmX12_fits s m args below meth c H locs 0 0 (MQ below (va_Qi (fun (r : Int32) (u : zSt) => (r, u) = z) (fun u t => va_P D vwCl (zW zshM zNM cy q u) t.heap) A) args s 0 0 A) (F0 m 86 ls [])) (hx1 : ∀ a, C1 (.inr a) → a = z) {x : ((Int32 × Int32) ⊕ (Int32 × zSt))} (h : fX12_fits_135 S v1 v4 t0 t1 = some x) (hc : C1 x) {H : Heap} {locs : List Loc} (hP : va_P D vwCl (zW zshM zNM cy q S) H) (hS : va_S A s.heap H locs) {ls : Array Slot} (hl : lv_has ls 7 [(0, .ref (q 0)), (1, .int v1), (4, .int v4)]) : W p l e rmX12_fits s m args below meth c H locs 0 0 (MQ below (va_Qi (fun (r : Int32) (u : zSt) => (r, u) = z) (fun u t => va_P D vwCl (zW zshM zNM cy q u) t.heap) A) args s 0 0 A) (F0 m 135 ls [.int t0, .int t1]) := by
  have hx := cx.1
  have hb := cx.2.1
  unfold fX12_fits_135 at h
  refine lv_iand (pc := 135) hx hb dX12_fits_135 ?_
  obtain ⟨x37, ex37, h⟩ := zLt_e h
  refine zr_nmI ex37 ?_
  refine lv_istore_n (lv' := [(3, .int x37), (0, .ref (q 0)), (1, .int v1), (4, .int v4)]) (pc := 136) hx hb dX12_fits_136 rfl hl (by decide) rfl (fun ls hl => ?_)
  obtain ⟨x38, ex38, h⟩ := zLt_e h
  refine lv_iinc (v := x38) (lv' := [(4, .int x38), (3, .int x37), (0, .ref (q 0)), (1, .int v1)]) (pc := 137) hx hb dX12_fits_137 hl (k := 3) rfl (by rw [zc_2]; exact ex38.symm) (by decide) rfl (fun ls hl => ?_)
  refine lv_goto (pc := 140) (tgt := 86) hx hb dX12_fits_140 (by decide) ?_
  cases h
  exact hb1 _ _ hc _ _ hP hS _ (lv_sub hl [2, 3, 1, 0] rfl)
def fX12_fits_86 (S : zSt)  (v1 : Int32) (t : (Int32 × Int32)) : Option ((Int32 × Int32) ⊕ (Int32 × zSt)) :=
  match t with
  | (v3, v4) => zBr (v1 ≤ v4) (zXr (zBr (v3 = 0) (some ((0 : Int32), S)) (zLp (fX12_fits_157 v3) 2000 (S, (100000 : Int32), (0 : Int32))))) (zGd (zIx (v4 + (1 : Int32)) 940) (zBr ((S.1 1 (v4 + (1 : Int32)).toNatClampNeg) = (1 : Int32)) (zGd (zIx v4 940) (zBd (fX12_seesOf S (S.1 1 v4.toNatClampNeg) (0 : Int32)) (fun r41 => fX12_fits_135 S v1 v4 r41 v3))) (zGd (zIx v4 940) (zBd (fX12_seesOf S (S.1 1 v4.toNatClampNeg) (0 : Int32)) (fun r36 => fX12_fits_135 S v1 v4 (r36 ^^^ (-1 : Int32)) v3)))))
set_option maxHeartbeats 4000000 in
set_option maxRecDepth 100000 in
theorem kX12_fits_86B {p : Program} {l : Launch} {e : Env} {s : State} {m : MethodId} {args : Array Value} {below : List Frame} {meth : Method} {c : Code} {D : va_G} {cy : Nat → ClassId} {q : Nat → Nat} {A : Nat → Prop} (cx : zX RX12 cX12_fits 7 p s m args c D cy) (hr : meth.sig.returnType = (some .int)) (hlk : meth.locks = false) (hq : zQ A q zNM) {z : (Int32 × zSt)} {S : zSt} {v1 : Int32} {v3 : Int32} {v4 : Int32} {C1 : ((Int32 × Int32) ⊕ (Int32 × zSt)) → Prop} (hb1 : ∀ (v3 : Int32) (v4 : Int32), C1 (.inl (v3, v4)) → ∀ (H : Heap) (locs : List Loc), va_P D vwCl (zW zshM zNM cy q S) H → va_S A s.heap H locs → ∀ (ls : Array Slot), lv_has ls 7 [(0, .ref (q 0)), (1, .int v1), (3, .int v3), (4, .int v4)] → W p l e rmX12_fits s m args below meth c H locs 0 0 (MQ below (va_Qi (fun (r : Int32) (u : zSt) => (r, u) = z) (fun u t => va_P D vwCl (zW zshM zNM cy q u) t.heap) A) args s 0 0 A) (F0 m 86 ls [])) (hx1 : ∀ a, C1 (.inr a) → a = z) {x : ((Int32 × Int32) ⊕ (Int32 × zSt))} (h : fX12_fits_86 S v1 (v3, v4) = some x) (hc : C1 x) {H : Heap} {locs : List Loc} (hP : va_P D vwCl (zW zshM zNM cy q S) H) (hS : va_S A s.heap H locs) {ls : Array Slot} (hl : lv_has ls 7 [(0, .ref (q 0)), (1, .int v1), (3, .int v3), (4, .int v4)]) : W p l e rmX12_fits s m args below meth c H locs 0 0 (MQ below (va_Qi (fun (r : Int32) (u : zSt) => (r, u) = z) (fun u t => va_P D vwCl (zW zshM zNM cy q u) t.heap) A) args s 0 0 A) (F0 m 86 ls []) := by
  have hx := cx.1
  have hb := cx.2.1
  unfold fX12_fits_86 at h
  dsimp only at h
  refine lv_iload (pc := 86) hx hb dX12_fits_86 (lv_at hl 3 rfl) ?_
  refine lv_iload_n (pc := 88) hx hb dX12_fits_88 rfl (lv_at hl 1 rfl) ?_
  refine lv_icmp_ge (pc := 89) (tgt := 143) hx hb dX12_fits_89 (by decide) (fun c15 => ?_) (fun c15 => ?_)
  · replace h := zBr_t c15 h
    obtain ⟨y16, h, ex⟩ := zXr_e h
    have hc := hx1 y16 (by rw [ex] at hc; exact hc)
    rw [hc] at h
    refine lv_iload_n (pc := 143) hx hb dX12_fits_143 rfl (lv_at hl 2 rfl) ?_
    refine lv_if_ne (pc := 144) (tgt := 149) hx hb dX12_fits_144 (by decide) (fun c17 => ?_) (fun c17 => ?_)
    · replace h := zBr_f c17 h
      refine lv_ldcw (pc := 149) hx hb cx.2.2.2.1 (cx.2.2.2.2.1 _ wd_1898) dX12_fits_149 ?_
      refine lv_istore (lv' := [(4, .int (100000 : Int32)), (0, .ref (q 0)), (1, .int v1), (3, .int v3)]) (pc := 152) hx hb dX12_fits_152 hl (by decide) rfl (fun ls hl => ?_)
      refine lv_iconst (pc := 154) hx hb dX12_fits_154 zc_0 ?_
      refine lv_istore (lv' := [(5, .int (0 : Int32)), (4, .int (100000 : Int32)), (0, .ref (q 0)), (1, .int v1), (3, .int v3)]) (pc := 155) hx hb dX12_fits_155 hl (by decide) rfl (fun ls hl => ?_)
      exact kX12_fits_157 cx hr hlk hq 2000 _ _ _ h _ _ hP hS _ (lv_sub hl [2, 4, 1, 0] rfl)
    · replace h := zBr_t c17 h
      refine lv_iconst (pc := 147) hx hb dX12_fits_147 zc_0 ?_
      have hz := Option.some.inj h
      exact zr_rqI (pc := 148) cx hr hlk hP hS hz dX12_fits_148
  · replace h := zBr_f c15 h
    refine lv_iload_n (pc := 92) hx hb dX12_fits_92 rfl (lv_at hl 2 rfl) ?_
    refine lv_aload_n (pc := 93) hx hb dX12_fits_93 rfl (lv_at hl 0 rfl) ?_
    refine zr_getR (pc := 94) (t := 1) cx lk_X12_7 hP nM_0 sM_0 rfl dX12_fits_94 ?_
    refine lv_iload (pc := 97) hx hb dX12_fits_97 (lv_at hl 3 rfl) ?_
    refine lv_iconst (pc := 99) hx hb dX12_fits_99 zc_1 ?_
    refine lv_iadd (pc := 100) hx hb dX12_fits_100 ?_
    obtain ⟨g32, h⟩ := zGd_e h
    refine zr_iald (pc := 101) cx hP nM_1 sM_1 g32 dX12_fits_101 ?_
    refine lv_iconst (pc := 102) hx hb dX12_fits_102 zc_1 ?_
    refine lv_icmp_ne (pc := 103) (tgt := 121) hx hb dX12_fits_103 (by decide) (fun c33 => ?_) (fun c33 => ?_)
    · replace h := zBr_f c33 h
      refine lv_aload_n (pc := 121) hx hb dX12_fits_121 rfl (lv_at hl 0 rfl) ?_
      refine lv_aload_n (pc := 122) hx hb dX12_fits_122 rfl (lv_at hl 0 rfl) ?_
      refine zr_getR (pc := 123) (t := 1) cx lk_X12_7 hP nM_0 sM_0 rfl dX12_fits_123 ?_
      refine lv_iload (pc := 126) hx hb dX12_fits_126 (lv_at hl 3 rfl) ?_
      obtain ⟨g34, h⟩ := zGd_e h
      refine zr_iald (pc := 128) cx hP nM_1 sM_1 g34 dX12_fits_128 ?_
      refine lv_iconst (pc := 129) hx hb dX12_fits_129 zc_0 ?_
      obtain ⟨r36, k35, h⟩ := zBd_e h
      refine zr_VI (pc := 130) (rest := [.int v3]) cx cv_X12_250 (mX12_seesOf k35) ⟨⟨rfl, rfl⟩, Nat.le_of_ble_eq_true rfl, Nat.le_of_ble_eq_true rfl⟩ ⟨Nat.le_of_ble_eq_true rfl, Nat.le_of_ble_eq_true rfl⟩ hP nM_0 sM_0 rfl hl.1 rfl rfl (Nat.le_of_ble_eq_true rfl) dX12_fits_130 ?_
      refine lv_iconst (pc := 133) hx hb dX12_fits_133 zc_m1 ?_
      refine lv_ixor (pc := 134) hx hb dX12_fits_134 ?_
      exact kX12_fits_135 cx hr hlk hq hb1 hx1 h hc hP hS (lv_sub hl [0, 1, 3] rfl)
    · replace h := zBr_t c33 h
      refine lv_aload_n (pc := 106) hx hb dX12_fits_106 rfl (lv_at hl 0 rfl) ?_
      refine lv_aload_n (pc := 107) hx hb dX12_fits_107 rfl (lv_at hl 0 rfl) ?_
      refine zr_getR (pc := 108) (t := 1) cx lk_X12_7 hP nM_0 sM_0 rfl dX12_fits_108 ?_
      refine lv_iload (pc := 111) hx hb dX12_fits_111 (lv_at hl 3 rfl) ?_
      obtain ⟨g39, h⟩ := zGd_e h
      refine zr_iald (pc := 113) cx hP nM_1 sM_1 g39 dX12_fits_113 ?_
      refine lv_iconst (pc := 114) hx hb dX12_fits_114 zc_0 ?_
      obtain ⟨r41, k40, h⟩ := zBd_e h
      refine zr_VI (pc := 115) (rest := [.int v3]) cx cv_X12_250 (mX12_seesOf k40) ⟨⟨rfl, rfl⟩, Nat.le_of_ble_eq_true rfl, Nat.le_of_ble_eq_true rfl⟩ ⟨Nat.le_of_ble_eq_true rfl, Nat.le_of_ble_eq_true rfl⟩ hP nM_0 sM_0 rfl hl.1 rfl rfl (Nat.le_of_ble_eq_true rfl) dX12_fits_115 ?_
      refine lv_goto (pc := 118) (tgt := 135) hx hb dX12_fits_118 (by decide) ?_
      exact kX12_fits_135 cx hr hlk hq hb1 hx1 h hc hP hS (lv_sub hl [0, 1, 3] rfl)
set_option maxHeartbeats 4000000 in
set_option maxRecDepth 100000 in
theorem kX12_fits_86 {p : Program} {l : Launch} {e : Env} {s : State} {m : MethodId} {args : Array Value} {below : List Frame} {meth : Method} {c : Code} {D : va_G} {cy : Nat → ClassId} {q : Nat → Nat} {A : Nat → Prop} (cx : zX RX12 cX12_fits 7 p s m args c D cy) (hr : meth.sig.returnType = (some .int)) (hlk : meth.locks = false) (hq : zQ A q zNM) {z : (Int32 × zSt)} {S : zSt} {v1 : Int32} : ∀ (n : Nat) (v3 : Int32) (v4 : Int32), zLp (fX12_fits_86 S v1) n (v3, v4) = some z → ∀ (H : Heap) (locs : List Loc), va_P D vwCl (zW zshM zNM cy q S) H → va_S A s.heap H locs → ∀ (ls : Array Slot), lv_has ls 7 [(0, .ref (q 0)), (1, .int v1), (3, .int v3), (4, .int v4)] → W p l e rmX12_fits s m args below meth c H locs 0 0 (MQ below (va_Qi (fun (r : Int32) (u : zSt) => (r, u) = z) (fun u t => va_P D vwCl (zW zshM zNM cy q u) t.heap) A) args s 0 0 A) (F0 m 86 ls []) := by
  intro n
  induction n with
  | zero =>
    intro v3 v4 h
    cases h
  | succ n ih =>
    intro v3 v4 h H locs hP hS ls hl
    obtain ⟨x, h, hk⟩ := zLp_e h
    exact kX12_fits_86B cx hr hlk hq  (C1 := zKt (fun t => zLp (fX12_fits_86 S v1) n t = some z) (fun a => a = z)) (fun v3 v4 ht H locs hP hS ls hl => ih v3 v4 ht H locs hP hS ls hl) (fun a ha => ha) h hk hP hS hl
def fX12_fits_32 (S : zSt)  (v1 : Int32) (t : Int32) : Option (Int32 ⊕ (Int32 × zSt)) :=
  match t with
  | v2 => zBr (v1 ≤ v2) (zXr (zGd (zIx (0 : Int32) 406) (zLt (((1 : Int32) <<< ((S.1 2 (0 : Int32).toNatClampNeg) &&& 31)) - (1 : Int32)) (fun x14 => zLp (fX12_fits_86 S v1) 2000 (x14, (0 : Int32)))))) (zGd (zIx v2 940) (zBd (fX12_isPlant S (S.1 1 v2.toNatClampNeg)) (fun r44 => zBr (r44 = 0) (zXr (some ((-1 : Int32), S))) (zGd (zIx (v2 + (1 : Int32)) 940) (zBr ((S.1 1 (v2 + (1 : Int32)).toNatClampNeg) ≤ (1 : Int32)) (zLt (v2 + (2 : Int32)) (fun x49 => some (.inl (x49)))) (zXr (some ((-1 : Int32), S))))))))
set_option maxHeartbeats 4000000 in
set_option maxRecDepth 100000 in
theorem kX12_fits_32B {p : Program} {l : Launch} {e : Env} {s : State} {m : MethodId} {args : Array Value} {below : List Frame} {meth : Method} {c : Code} {D : va_G} {cy : Nat → ClassId} {q : Nat → Nat} {A : Nat → Prop} (cx : zX RX12 cX12_fits 7 p s m args c D cy) (hr : meth.sig.returnType = (some .int)) (hlk : meth.locks = false) (hq : zQ A q zNM) {z : (Int32 × zSt)} {S : zSt} {v1 : Int32} {v2 : Int32} {C1 : (Int32 ⊕ (Int32 × zSt)) → Prop} (hb1 : ∀ (v2 : Int32), C1 (.inl (v2)) → ∀ (H : Heap) (locs : List Loc), va_P D vwCl (zW zshM zNM cy q S) H → va_S A s.heap H locs → ∀ (ls : Array Slot), lv_has ls 7 [(0, .ref (q 0)), (1, .int v1), (2, .int v2)] → W p l e rmX12_fits s m args below meth c H locs 0 0 (MQ below (va_Qi (fun (r : Int32) (u : zSt) => (r, u) = z) (fun u t => va_P D vwCl (zW zshM zNM cy q u) t.heap) A) args s 0 0 A) (F0 m 32 ls [])) (hx1 : ∀ a, C1 (.inr a) → a = z) {x : (Int32 ⊕ (Int32 × zSt))} (h : fX12_fits_32 S v1 (v2) = some x) (hc : C1 x) {H : Heap} {locs : List Loc} (hP : va_P D vwCl (zW zshM zNM cy q S) H) (hS : va_S A s.heap H locs) {ls : Array Slot} (hl : lv_has ls 7 [(0, .ref (q 0)), (1, .int v1), (2, .int v2)]) : W p l e rmX12_fits s m args below meth c H locs 0 0 (MQ below (va_Qi (fun (r : Int32) (u : zSt) => (r, u) = z) (fun u t => va_P D vwCl (zW zshM zNM cy q u) t.heap) A) args s 0 0 A) (F0 m 32 ls []) := by
  have hx := cx.1
  have hb := cx.2.1
  unfold fX12_fits_32 at h
  dsimp only at h
  refine lv_iload_n (pc := 32) hx hb dX12_fits_32 rfl (lv_at hl 2 rfl) ?_
  refine lv_iload_n (pc := 33) hx hb dX12_fits_33 rfl (lv_at hl 1 rfl) ?_
  refine lv_icmp_ge (pc := 34) (tgt := 70) hx hb dX12_fits_34 (by decide) (fun c11 => ?_) (fun c11 => ?_)
  · replace h := zBr_t c11 h
    obtain ⟨y12, h, ex⟩ := zXr_e h
    have hc := hx1 y12 (by rw [ex] at hc; exact hc)
    rw [hc] at h
    refine lv_iconst (pc := 70) hx hb dX12_fits_70 zc_1 ?_
    refine lv_aload_n (pc := 71) hx hb dX12_fits_71 rfl (lv_at hl 0 rfl) ?_
    refine zr_getR (pc := 72) (t := 2) cx lk_X12_98 hP nM_0 sM_0 rfl dX12_fits_72 ?_
    refine lv_iconst (pc := 75) hx hb dX12_fits_75 zc_0 ?_
    obtain ⟨g13, h⟩ := zGd_e h
    refine zr_iald (pc := 76) cx hP nM_2 sM_2 g13 dX12_fits_76 ?_
    refine lv_ishl (pc := 77) hx hb dX12_fits_77 ?_
    refine lv_iconst (pc := 78) hx hb dX12_fits_78 zc_1 ?_
    refine lv_isub (pc := 79) hx hb dX12_fits_79 ?_
    obtain ⟨x14, ex14, h⟩ := zLt_e h
    refine zr_nmI ex14 ?_
    refine lv_istore_n (lv' := [(2, .int x14), (0, .ref (q 0)), (1, .int v1)]) (pc := 80) hx hb dX12_fits_80 rfl hl (by decide) rfl (fun ls hl => ?_)
    refine lv_iload_n (pc := 81) hx hb dX12_fits_81 rfl (lv_at hl 0 rfl) ?_
    refine lv_istore_n (lv' := [(3, .int x14), (2, .int x14), (0, .ref (q 0)), (1, .int v1)]) (pc := 82) hx hb dX12_fits_82 rfl hl (by decide) rfl (fun ls hl => ?_)
    refine lv_iconst (pc := 83) hx hb dX12_fits_83 zc_0 ?_
    refine lv_istore (lv' := [(4, .int (0 : Int32)), (3, .int x14), (2, .int x14), (0, .ref (q 0)), (1, .int v1)]) (pc := 84) hx hb dX12_fits_84 hl (by decide) rfl (fun ls hl => ?_)
    exact kX12_fits_86 cx hr hlk hq 2000 _ _ h _ _ hP hS _ (lv_sub hl [3, 4, 1, 0] rfl)
  · replace h := zBr_f c11 h
    refine lv_aload_n (pc := 37) hx hb dX12_fits_37 rfl (lv_at hl 0 rfl) ?_
    refine lv_aload_n (pc := 38) hx hb dX12_fits_38 rfl (lv_at hl 0 rfl) ?_
    refine zr_getR (pc := 39) (t := 1) cx lk_X12_7 hP nM_0 sM_0 rfl dX12_fits_39 ?_
    refine lv_iload_n (pc := 42) hx hb dX12_fits_42 rfl (lv_at hl 2 rfl) ?_
    obtain ⟨g42, h⟩ := zGd_e h
    refine zr_iald (pc := 43) cx hP nM_1 sM_1 g42 dX12_fits_43 ?_
    obtain ⟨r44, k43, h⟩ := zBd_e h
    refine zr_VI (pc := 44) (rest := []) cx cv_X12_244 (mX12_isPlant k43) ⟨⟨rfl, rfl⟩, Nat.le_of_ble_eq_true rfl, Nat.le_of_ble_eq_true rfl⟩ ⟨Nat.le_of_ble_eq_true rfl, Nat.le_of_ble_eq_true rfl⟩ hP nM_0 sM_0 rfl hl.1 rfl rfl (Nat.le_of_ble_eq_true rfl) dX12_fits_44 ?_
    refine lv_if_eq (pc := 47) (tgt := 62) hx hb dX12_fits_47 (by decide) (fun c45 => ?_) (fun c45 => ?_)
    · replace h := zBr_t c45 h
      obtain ⟨y46, h, ex⟩ := zXr_e h
      have hc := hx1 y46 (by rw [ex] at hc; exact hc)
      rw [hc] at h
      refine lv_iconst (pc := 62) hx hb dX12_fits_62 zc_m1 ?_
      have hz := Option.some.inj h
      exact zr_rqI (pc := 63) cx hr hlk hP hS hz dX12_fits_63
    · replace h := zBr_f c45 h
      refine lv_aload_n (pc := 50) hx hb dX12_fits_50 rfl (lv_at hl 0 rfl) ?_
      refine zr_getR (pc := 51) (t := 1) cx lk_X12_7 hP nM_0 sM_0 rfl dX12_fits_51 ?_
      refine lv_iload_n (pc := 54) hx hb dX12_fits_54 rfl (lv_at hl 2 rfl) ?_
      refine lv_iconst (pc := 55) hx hb dX12_fits_55 zc_1 ?_
      refine lv_iadd (pc := 56) hx hb dX12_fits_56 ?_
      obtain ⟨g47, h⟩ := zGd_e h
      refine zr_iald (pc := 57) cx hP nM_1 sM_1 g47 dX12_fits_57 ?_
      refine lv_iconst (pc := 58) hx hb dX12_fits_58 zc_1 ?_
      refine lv_icmp_le (pc := 59) (tgt := 64) hx hb dX12_fits_59 (by decide) (fun c48 => ?_) (fun c48 => ?_)
      · replace h := zBr_t c48 h
        obtain ⟨x49, ex49, h⟩ := zLt_e h
        refine lv_iinc (v := x49) (lv' := [(2, .int x49), (0, .ref (q 0)), (1, .int v1)]) (pc := 64) hx hb dX12_fits_64 hl (k := 2) rfl (by rw [zc_2]; exact ex49.symm) (by decide) rfl (fun ls hl => ?_)
        refine lv_goto (pc := 67) (tgt := 32) hx hb dX12_fits_67 (by decide) ?_
        cases h
        exact hb1 _ hc _ _ hP hS _ (lv_sub hl [1, 2, 0] rfl)
      · replace h := zBr_f c48 h
        obtain ⟨y50, h, ex⟩ := zXr_e h
        have hc := hx1 y50 (by rw [ex] at hc; exact hc)
        rw [hc] at h
        refine lv_iconst (pc := 62) hx hb dX12_fits_62 zc_m1 ?_
        have hz := Option.some.inj h
        exact zr_rqI (pc := 63) cx hr hlk hP hS hz dX12_fits_63
set_option maxHeartbeats 4000000 in
set_option maxRecDepth 100000 in
theorem kX12_fits_32 {p : Program} {l : Launch} {e : Env} {s : State} {m : MethodId} {args : Array Value} {below : List Frame} {meth : Method} {c : Code} {D : va_G} {cy : Nat → ClassId} {q : Nat → Nat} {A : Nat → Prop} (cx : zX RX12 cX12_fits 7 p s m args c D cy) (hr : meth.sig.returnType = (some .int)) (hlk : meth.locks = false) (hq : zQ A q zNM) {z : (Int32 × zSt)} {S : zSt} {v1 : Int32} : ∀ (n : Nat) (v2 : Int32), zLp (fX12_fits_32 S v1) n (v2) = some z → ∀ (H : Heap) (locs : List Loc), va_P D vwCl (zW zshM zNM cy q S) H → va_S A s.heap H locs → ∀ (ls : Array Slot), lv_has ls 7 [(0, .ref (q 0)), (1, .int v1), (2, .int v2)] → W p l e rmX12_fits s m args below meth c H locs 0 0 (MQ below (va_Qi (fun (r : Int32) (u : zSt) => (r, u) = z) (fun u t => va_P D vwCl (zW zshM zNM cy q u) t.heap) A) args s 0 0 A) (F0 m 32 ls []) := by
  intro n
  induction n with
  | zero =>
    intro v2 h
    cases h
  | succ n ih =>
    intro v2 h H locs hP hS ls hl
    obtain ⟨x, h, hk⟩ := zLp_e h
    exact kX12_fits_32B cx hr hlk hq  (C1 := zKt (fun t => zLp (fX12_fits_32 S v1) n t = some z) (fun a => a = z)) (fun v2 ht H locs hP hS ls hl => ih v2 ht H locs hP hS ls hl) (fun a ha => ha) h hk hP hS hl
def fX12_fits (S : zSt) : Option (Int32 × zSt) :=
  zLt (zI S 0 0 (0 : Int32)) (fun S1 => zBp (fX12_take S1) (fun r4 S3 => zGd (decide (¬ (2 : Int32) = 0)) (zBr ((r4 - r4 / (2 : Int32) * (2 : Int32)) = 0) (zGd (decide (¬ (2 : Int32) = 0)) (zBd (fX12_isIn (r4 / (2 : Int32)) (1 : Int32) (6 : Int32)) (fun r9 => zBr (r9 = 0) (some ((-1 : Int32), S3)) (zLp (fX12_fits_32 S3 r4) 2000 ((0 : Int32)))))) (some ((-1 : Int32), S3)))))
set_option maxHeartbeats 4000000 in
set_option maxRecDepth 100000 in
theorem mX12_fits {l : Launch} {D : va_G} {cy : Nat → ClassId} {q : Nat → Nat} {A : Nat → Prop} {S : zSt} (hq : zQ A q zNM) {z : (Int32 × zSt)} (h : fX12_fits S = some z) : zMq l yX12_fits cX12_fits 7 (some .int) rmX12_fits [.ref (q 0)] zshM zNM D cy q A S z := by
  refine Met.ofW (cc := cX12_fits) (maxL := 7) (ret := (some .int)) (by decide) rfl ?_
  intro p e s m args below meth c s₁ B hml hv
  obtain ⟨rfl, hP, hK⟩ := hv
  have cx : zX RX12 cX12_fits 7 p s m ([.ref (q 0)]).toArray c D cy := ⟨B.exec, B.bytes, hml, findClass_of_methodNamed B.named, fun w hw => atoms_spec (ws := Cond.code yX12_fits cX12_fits 7 (some .int) :: zTB) B.pre w (List.mem_cons_of_mem _ hw), hK⟩
  have hx := cx.1
  have hb := cx.2.1
  have hr := B.returns
  have hlk := B.notSynchronized
  have hS : va_S A s.heap s.heap [] := va_S.rf
  have hl := lv_entry ([.ref (q 0)]) (n := 7) (Nat.le_of_ble_eq_true rfl)
  rw [lg_entry_eq]
  generalize (lg_sl ([.ref (q 0)]) ++ List.replicate (7 - (lg_sl ([.ref (q 0)])).length) Slot.unset).toArray = ls at hl ⊢
  have hl : lv_has ls 7 [(0, .ref (q 0))] := hl
  unfold fX12_fits at h
  refine lv_aload_n (pc := 0) hx hb dX12_fits_0 rfl (lv_at hl 0 rfl) ?_
  refine lv_iconst (pc := 1) hx hb dX12_fits_1 zc_0 ?_
  obtain ⟨S1, eS1, h⟩ := zLt_e h
  refine zr_putI (pc := 2) cx lq_X12_1 hq hP hS nM_0 sM_0 rfl rfl rfl dX12_fits_2 (fun H locs hP hS => ?_)
  rw [← eS1] at hP
  refine lv_aload_n (pc := 5) hx hb dX12_fits_5 rfl (lv_at hl 0 rfl) ?_
  obtain ⟨r4, S3, k2, h⟩ := zBp_e h
  refine zr_VQ (pc := 6) (rest := []) cx cv_X12_89 (mX12_take hq k2) ⟨⟨rfl, rfl⟩, Nat.le_of_ble_eq_true rfl, Nat.le_of_ble_eq_true rfl⟩ ⟨Nat.le_of_ble_eq_true rfl, Nat.le_of_ble_eq_true rfl⟩ hP hS nM_0 sM_0 rfl hl.1 rfl rfl (Nat.le_of_ble_eq_true rfl) dX12_fits_6 (fun H locs hP hS => ?_)
  refine lv_istore_n (lv' := [(1, .int r4), (0, .ref (q 0))]) (pc := 9) hx hb dX12_fits_9 rfl hl (by decide) rfl (fun ls hl => ?_)
  refine lv_iload_n (pc := 10) hx hb dX12_fits_10 rfl (lv_at hl 0 rfl) ?_
  refine lv_iconst (pc := 11) hx hb dX12_fits_11 zc_2 ?_
  obtain ⟨g5, h⟩ := zGd_e h
  refine lv_irem (pc := 12) hx hb dX12_fits_12 (by simpa using g5) ?_
  refine lv_if_ne (pc := 13) (tgt := 28) hx hb dX12_fits_13 (by decide) (fun c6 => ?_) (fun c6 => ?_)
  · replace h := zBr_f c6 h
    refine lv_iconst (pc := 28) hx hb dX12_fits_28 zc_m1 ?_
    have hz := Option.some.inj h
    exact zr_rqI (pc := 29) cx hr hlk hP hS hz dX12_fits_29
  · replace h := zBr_t c6 h
    refine lv_iload_n (pc := 16) hx hb dX12_fits_16 rfl (lv_at hl 0 rfl) ?_
    refine lv_iconst (pc := 17) hx hb dX12_fits_17 zc_2 ?_
    obtain ⟨g7, h⟩ := zGd_e h
    refine lv_idiv (pc := 18) hx hb dX12_fits_18 (by simpa using g7) ?_
    refine lv_iconst (pc := 19) hx hb dX12_fits_19 zc_1 ?_
    refine lv_bipush (pc := 20) hx hb dX12_fits_20 zb_6 ?_
    obtain ⟨r9, k8, h⟩ := zBd_e h
    refine zr_SI (pc := 22) (rest := []) cx cv_X12_75 (mX12_isIn k8) ⟨⟨rfl, rfl⟩, Nat.le_of_ble_eq_true rfl, Nat.le_of_ble_eq_true rfl⟩ ⟨Nat.le_of_ble_eq_true rfl, Nat.le_of_ble_eq_true rfl⟩ (zr_preK cx) hl.1 rfl rfl (Nat.le_of_ble_eq_true rfl) dX12_fits_22 ?_
    refine lv_if_ne (pc := 25) (tgt := 30) hx hb dX12_fits_25 (by decide) (fun c10 => ?_) (fun c10 => ?_)
    · replace h := zBr_f c10 h
      refine lv_iconst (pc := 30) hx hb dX12_fits_30 zc_0 ?_
      refine lv_istore_n (lv' := [(2, .int (0 : Int32)), (1, .int r4), (0, .ref (q 0))]) (pc := 31) hx hb dX12_fits_31 rfl hl (by decide) rfl (fun ls hl => ?_)
      exact kX12_fits_32 cx hr hlk hq 2000 _ h _ _ hP hS _ (lv_sub hl [2, 1, 0] rfl)
    · replace h := zBr_t c10 h
      refine lv_iconst (pc := 28) hx hb dX12_fits_28 zc_m1 ?_
      have hz := Option.some.inj h
      exact zr_rqI (pc := 29) cx hr hlk hP hS hz dX12_fits_29
-- X12_guilty
abbrev rmX12_guilty : Room := { frames := 4, cells := 0, slots := 0, locals := 89 }
def fX12_guilty_72 (S : zSt)  (v1 : Int32) (v2 : Int32) (v3 : Int32) : Option (Int32 ⊕ (Int32 × zSt)) :=
  zLt (v3 + (1 : Int32)) (fun x13 => some (.inl (x13)))
set_option maxHeartbeats 4000000 in
set_option maxRecDepth 100000 in
theorem kX12_guilty_72 {p : Program} {l : Launch} {e : Env} {s : State} {m : MethodId} {args : Array Value} {below : List Frame} {meth : Method} {c : Code} {D : va_G} {cy : Nat → ClassId} {q : Nat → Nat} {A : Nat → Prop} (cx : zX RX12 cX12_guilty 4 p s m args c D cy) (hr : meth.sig.returnType = (some .int)) (hlk : meth.locks = false) (hq : zQ A q zNM) {z : (Int32 × zSt)} {S : zSt} {v1 : Int32} {v2 : Int32} {v3 : Int32} {C1 : (Int32 ⊕ (Int32 × zSt)) → Prop} (hb1 : ∀ (v3 : Int32), C1 (.inl (v3)) → ∀ (H : Heap) (locs : List Loc), va_P D vwCl (zW zshM zNM cy q S) H → va_S A s.heap H locs → ∀ (ls : Array Slot), lv_has ls 4 [(0, .ref (q 0)), (1, .int v1), (2, .int v2), (3, .int v3)] → W p l e rmX12_guilty s m args below meth c H locs 0 0 (MQ below (va_Qi (fun (r : Int32) (u : zSt) => (r, u) = z) (fun u t => va_P D vwCl (zW zshM zNM cy q u) t.heap) A) args s 0 0 A) (F0 m 25 ls [])) (hx1 : ∀ a, C1 (.inr a) → a = z) {x : (Int32 ⊕ (Int32 × zSt))} (h : fX12_guilty_72 S v1 v2 v3 = some x) (hc : C1 x) {H : Heap} {locs : List Loc} (hP : va_P D vwCl (zW zshM zNM cy q S) H) (hS : va_S A s.heap H locs) {ls : Array Slot} (hl : lv_has ls 4 [(0, .ref (q 0)), (1, .int v1), (2, .int v2), (3, .int v3)]) : W p l e rmX12_guilty s m args below meth c H locs 0 0 (MQ below (va_Qi (fun (r : Int32) (u : zSt) => (r, u) = z) (fun u t => va_P D vwCl (zW zshM zNM cy q u) t.heap) A) args s 0 0 A) (F0 m 72 ls []) := by
  have hx := cx.1
  have hb := cx.2.1
  unfold fX12_guilty_72 at h
  obtain ⟨x13, ex13, h⟩ := zLt_e h
  refine lv_iinc (v := x13) (lv' := [(3, .int x13), (0, .ref (q 0)), (1, .int v1), (2, .int v2)]) (pc := 72) hx hb dX12_guilty_72 hl (k := 3) rfl (by rw [zc_1]; exact ex13.symm) (by decide) rfl (fun ls hl => ?_)
  refine lv_goto (pc := 75) (tgt := 25) hx hb dX12_guilty_75 (by decide) ?_
  cases h
  exact hb1 _ hc _ _ hP hS _ (lv_sub hl [1, 2, 3, 0] rfl)
def fX12_guilty_25 (S : zSt)  (v1 : Int32) (v2 : Int32) (t : Int32) : Option (Int32 ⊕ (Int32 × zSt)) :=
  match t with
  | v3 => zGd (zIx (25 : Int32) 406) (zBr ((S.1 2 (25 : Int32).toNatClampNeg) ≤ v3) (zXr (some ((0 : Int32), S))) (zGd (zIx ((38 : Int32) + v3) 406) (zBr ((S.1 2 ((38 : Int32) + v3).toNatClampNeg) = v1) (zGd (zIx ((50 : Int32) + v3) 406) (zBr ((S.1 2 ((50 : Int32) + v3).toNatClampNeg) = v2) (zBd (fX12_isProved S v3) (fun r17 => zBr (r17 = 0) (fX12_guilty_72 S v1 v2 v3) (zXr (some ((1 : Int32), S))))) (fX12_guilty_72 S v1 v2 v3))) (fX12_guilty_72 S v1 v2 v3))))
set_option maxHeartbeats 4000000 in
set_option maxRecDepth 100000 in
theorem kX12_guilty_25B {p : Program} {l : Launch} {e : Env} {s : State} {m : MethodId} {args : Array Value} {below : List Frame} {meth : Method} {c : Code} {D : va_G} {cy : Nat → ClassId} {q : Nat → Nat} {A : Nat → Prop} (cx : zX RX12 cX12_guilty 4 p s m args c D cy) (hr : meth.sig.returnType = (some .int)) (hlk : meth.locks = false) (hq : zQ A q zNM) {z : (Int32 × zSt)} {S : zSt} {v1 : Int32} {v2 : Int32} {v3 : Int32} {C1 : (Int32 ⊕ (Int32 × zSt)) → Prop} (hb1 : ∀ (v3 : Int32), C1 (.inl (v3)) → ∀ (H : Heap) (locs : List Loc), va_P D vwCl (zW zshM zNM cy q S) H → va_S A s.heap H locs → ∀ (ls : Array Slot), lv_has ls 4 [(0, .ref (q 0)), (1, .int v1), (2, .int v2), (3, .int v3)] → W p l e rmX12_guilty s m args below meth c H locs 0 0 (MQ below (va_Qi (fun (r : Int32) (u : zSt) => (r, u) = z) (fun u t => va_P D vwCl (zW zshM zNM cy q u) t.heap) A) args s 0 0 A) (F0 m 25 ls [])) (hx1 : ∀ a, C1 (.inr a) → a = z) {x : (Int32 ⊕ (Int32 × zSt))} (h : fX12_guilty_25 S v1 v2 (v3) = some x) (hc : C1 x) {H : Heap} {locs : List Loc} (hP : va_P D vwCl (zW zshM zNM cy q S) H) (hS : va_S A s.heap H locs) {ls : Array Slot} (hl : lv_has ls 4 [(0, .ref (q 0)), (1, .int v1), (2, .int v2), (3, .int v3)]) : W p l e rmX12_guilty s m args below meth c H locs 0 0 (MQ below (va_Qi (fun (r : Int32) (u : zSt) => (r, u) = z) (fun u t => va_P D vwCl (zW zshM zNM cy q u) t.heap) A) args s 0 0 A) (F0 m 25 ls []) := by
  have hx := cx.1
  have hb := cx.2.1
  unfold fX12_guilty_25 at h
  dsimp only at h
  refine lv_iload_n (pc := 25) hx hb dX12_guilty_25 rfl (lv_at hl 3 rfl) ?_
  refine lv_aload_n (pc := 26) hx hb dX12_guilty_26 rfl (lv_at hl 0 rfl) ?_
  refine zr_getR (pc := 27) (t := 2) cx lk_X12_98 hP nM_0 sM_0 rfl dX12_guilty_27 ?_
  refine lv_bipush (pc := 30) hx hb dX12_guilty_30 zb_25 ?_
  obtain ⟨g8, h⟩ := zGd_e h
  refine zr_iald (pc := 32) cx hP nM_2 sM_2 g8 dX12_guilty_32 ?_
  refine lv_icmp_ge (pc := 33) (tgt := 78) hx hb dX12_guilty_33 (by decide) (fun c9 => ?_) (fun c9 => ?_)
  · replace h := zBr_t c9 h
    obtain ⟨y10, h, ex⟩ := zXr_e h
    have hc := hx1 y10 (by rw [ex] at hc; exact hc)
    rw [hc] at h
    refine lv_iconst (pc := 78) hx hb dX12_guilty_78 zc_0 ?_
    have hz := Option.some.inj h
    exact zr_rqI (pc := 79) cx hr hlk hP hS hz dX12_guilty_79
  · replace h := zBr_f c9 h
    refine lv_aload_n (pc := 36) hx hb dX12_guilty_36 rfl (lv_at hl 0 rfl) ?_
    refine zr_getR (pc := 37) (t := 2) cx lk_X12_98 hP nM_0 sM_0 rfl dX12_guilty_37 ?_
    refine lv_bipush (pc := 40) hx hb dX12_guilty_40 zb_38 ?_
    refine lv_iload_n (pc := 42) hx hb dX12_guilty_42 rfl (lv_at hl 3 rfl) ?_
    refine lv_iadd (pc := 43) hx hb dX12_guilty_43 ?_
    obtain ⟨g11, h⟩ := zGd_e h
    refine zr_iald (pc := 44) cx hP nM_2 sM_2 g11 dX12_guilty_44 ?_
    refine lv_iload_n (pc := 45) hx hb dX12_guilty_45 rfl (lv_at hl 1 rfl) ?_
    refine lv_icmp_ne (pc := 46) (tgt := 72) hx hb dX12_guilty_46 (by decide) (fun c12 => ?_) (fun c12 => ?_)
    · replace h := zBr_f c12 h
      exact kX12_guilty_72 cx hr hlk hq hb1 hx1 h hc hP hS (lv_sub hl [0, 1, 2, 3] rfl)
    · replace h := zBr_t c12 h
      refine lv_aload_n (pc := 49) hx hb dX12_guilty_49 rfl (lv_at hl 0 rfl) ?_
      refine zr_getR (pc := 50) (t := 2) cx lk_X12_98 hP nM_0 sM_0 rfl dX12_guilty_50 ?_
      refine lv_bipush (pc := 53) hx hb dX12_guilty_53 zb_50 ?_
      refine lv_iload_n (pc := 55) hx hb dX12_guilty_55 rfl (lv_at hl 3 rfl) ?_
      refine lv_iadd (pc := 56) hx hb dX12_guilty_56 ?_
      obtain ⟨g14, h⟩ := zGd_e h
      refine zr_iald (pc := 57) cx hP nM_2 sM_2 g14 dX12_guilty_57 ?_
      refine lv_iload_n (pc := 58) hx hb dX12_guilty_58 rfl (lv_at hl 2 rfl) ?_
      refine lv_icmp_ne (pc := 59) (tgt := 72) hx hb dX12_guilty_59 (by decide) (fun c15 => ?_) (fun c15 => ?_)
      · replace h := zBr_f c15 h
        exact kX12_guilty_72 cx hr hlk hq hb1 hx1 h hc hP hS (lv_sub hl [0, 1, 2, 3] rfl)
      · replace h := zBr_t c15 h
        refine lv_aload_n (pc := 62) hx hb dX12_guilty_62 rfl (lv_at hl 0 rfl) ?_
        refine lv_iload_n (pc := 63) hx hb dX12_guilty_63 rfl (lv_at hl 3 rfl) ?_
        obtain ⟨r17, k16, h⟩ := zBd_e h
        refine zr_VI (pc := 64) (rest := []) cx cv_X12_241 (mX12_isProved k16) ⟨⟨rfl, rfl⟩, Nat.le_of_ble_eq_true rfl, Nat.le_of_ble_eq_true rfl⟩ ⟨Nat.le_of_ble_eq_true rfl, Nat.le_of_ble_eq_true rfl⟩ hP nM_0 sM_0 rfl hl.1 rfl rfl (Nat.le_of_ble_eq_true rfl) dX12_guilty_64 ?_
        refine lv_if_eq (pc := 67) (tgt := 72) hx hb dX12_guilty_67 (by decide) (fun c18 => ?_) (fun c18 => ?_)
        · replace h := zBr_t c18 h
          exact kX12_guilty_72 cx hr hlk hq hb1 hx1 h hc hP hS (lv_sub hl [0, 1, 2, 3] rfl)
        · replace h := zBr_f c18 h
          obtain ⟨y19, h, ex⟩ := zXr_e h
          have hc := hx1 y19 (by rw [ex] at hc; exact hc)
          rw [hc] at h
          refine lv_iconst (pc := 70) hx hb dX12_guilty_70 zc_1 ?_
          have hz := Option.some.inj h
          exact zr_rqI (pc := 71) cx hr hlk hP hS hz dX12_guilty_71
set_option maxHeartbeats 4000000 in
set_option maxRecDepth 100000 in
theorem kX12_guilty_25 {p : Program} {l : Launch} {e : Env} {s : State} {m : MethodId} {args : Array Value} {below : List Frame} {meth : Method} {c : Code} {D : va_G} {cy : Nat → ClassId} {q : Nat → Nat} {A : Nat → Prop} (cx : zX RX12 cX12_guilty 4 p s m args c D cy) (hr : meth.sig.returnType = (some .int)) (hlk : meth.locks = false) (hq : zQ A q zNM) {z : (Int32 × zSt)} {S : zSt} {v1 : Int32} {v2 : Int32} : ∀ (n : Nat) (v3 : Int32), zLp (fX12_guilty_25 S v1 v2) n (v3) = some z → ∀ (H : Heap) (locs : List Loc), va_P D vwCl (zW zshM zNM cy q S) H → va_S A s.heap H locs → ∀ (ls : Array Slot), lv_has ls 4 [(0, .ref (q 0)), (1, .int v1), (2, .int v2), (3, .int v3)] → W p l e rmX12_guilty s m args below meth c H locs 0 0 (MQ below (va_Qi (fun (r : Int32) (u : zSt) => (r, u) = z) (fun u t => va_P D vwCl (zW zshM zNM cy q u) t.heap) A) args s 0 0 A) (F0 m 25 ls []) := by
  intro n
  induction n with
  | zero =>
    intro v3 h
    cases h
  | succ n ih =>
    intro v3 h H locs hP hS ls hl
    obtain ⟨x, h, hk⟩ := zLp_e h
    exact kX12_guilty_25B cx hr hlk hq  (C1 := zKt (fun t => zLp (fX12_guilty_25 S v1 v2) n t = some z) (fun a => a = z)) (fun v3 ht H locs hP hS ls hl => ih v3 ht H locs hP hS ls hl) (fun a ha => ha) h hk hP hS hl
def fX12_guilty (S : zSt) (v1 : Int32) (v2 : Int32) : Option (Int32 × zSt) :=
  zLt (zI S 0 0 (0 : Int32)) (fun S1 => zBd (fX12_isPerson S1 v1) (fun r3 => zBr (r3 = 0) (some ((-1 : Int32), S1)) (zBd (fX12_isDeed S1 v2) (fun r6 => zBr (r6 = 0) (some ((-1 : Int32), S1)) (zLp (fX12_guilty_25 S1 v1 v2) 2000 ((0 : Int32)))))))
set_option maxHeartbeats 4000000 in
set_option maxRecDepth 100000 in
theorem mX12_guilty {l : Launch} {D : va_G} {cy : Nat → ClassId} {q : Nat → Nat} {A : Nat → Prop} {S : zSt} {v1 : Int32} {v2 : Int32} (hq : zQ A q zNM) {z : (Int32 × zSt)} (h : fX12_guilty S v1 v2 = some z) : zMq l yX12_guilty cX12_guilty 4 (some .int) rmX12_guilty [.ref (q 0), .int v1, .int v2] zshM zNM D cy q A S z := by
  refine Met.ofW (cc := cX12_guilty) (maxL := 4) (ret := (some .int)) (by decide) rfl ?_
  intro p e s m args below meth c s₁ B hml hv
  obtain ⟨rfl, hP, hK⟩ := hv
  have cx : zX RX12 cX12_guilty 4 p s m ([.ref (q 0), .int v1, .int v2]).toArray c D cy := ⟨B.exec, B.bytes, hml, findClass_of_methodNamed B.named, fun w hw => atoms_spec (ws := Cond.code yX12_guilty cX12_guilty 4 (some .int) :: zTB) B.pre w (List.mem_cons_of_mem _ hw), hK⟩
  have hx := cx.1
  have hb := cx.2.1
  have hr := B.returns
  have hlk := B.notSynchronized
  have hS : va_S A s.heap s.heap [] := va_S.rf
  have hl := lv_entry ([.ref (q 0), .int v1, .int v2]) (n := 4) (Nat.le_of_ble_eq_true rfl)
  rw [lg_entry_eq]
  generalize (lg_sl ([.ref (q 0), .int v1, .int v2]) ++ List.replicate (4 - (lg_sl ([.ref (q 0), .int v1, .int v2])).length) Slot.unset).toArray = ls at hl ⊢
  have hl : lv_has ls 4 [(0, .ref (q 0)), (1, .int v1), (2, .int v2)] := hl
  unfold fX12_guilty at h
  refine lv_aload_n (pc := 0) hx hb dX12_guilty_0 rfl (lv_at hl 0 rfl) ?_
  refine lv_iconst (pc := 1) hx hb dX12_guilty_1 zc_0 ?_
  obtain ⟨S1, eS1, h⟩ := zLt_e h
  refine zr_putI (pc := 2) cx lq_X12_1 hq hP hS nM_0 sM_0 rfl rfl rfl dX12_guilty_2 (fun H locs hP hS => ?_)
  rw [← eS1] at hP
  refine lv_aload_n (pc := 5) hx hb dX12_guilty_5 rfl (lv_at hl 0 rfl) ?_
  refine lv_iload_n (pc := 6) hx hb dX12_guilty_6 rfl (lv_at hl 1 rfl) ?_
  obtain ⟨r3, k2, h⟩ := zBd_e h
  refine zr_VI (pc := 7) (rest := []) cx cv_X12_286 (mX12_isPerson k2) ⟨⟨rfl, rfl⟩, Nat.le_of_ble_eq_true rfl, Nat.le_of_ble_eq_true rfl⟩ ⟨Nat.le_of_ble_eq_true rfl, Nat.le_of_ble_eq_true rfl⟩ hP nM_0 sM_0 rfl hl.1 rfl rfl (Nat.le_of_ble_eq_true rfl) dX12_guilty_7 ?_
  refine lv_if_eq (pc := 10) (tgt := 21) hx hb dX12_guilty_10 (by decide) (fun c4 => ?_) (fun c4 => ?_)
  · replace h := zBr_t c4 h
    refine lv_iconst (pc := 21) hx hb dX12_guilty_21 zc_m1 ?_
    have hz := Option.some.inj h
    exact zr_rqI (pc := 22) cx hr hlk hP hS hz dX12_guilty_22
  · replace h := zBr_f c4 h
    refine lv_aload_n (pc := 13) hx hb dX12_guilty_13 rfl (lv_at hl 0 rfl) ?_
    refine lv_iload_n (pc := 14) hx hb dX12_guilty_14 rfl (lv_at hl 2 rfl) ?_
    obtain ⟨r6, k5, h⟩ := zBd_e h
    refine zr_VI (pc := 15) (rest := []) cx cv_X12_289 (mX12_isDeed k5) ⟨⟨rfl, rfl⟩, Nat.le_of_ble_eq_true rfl, Nat.le_of_ble_eq_true rfl⟩ ⟨Nat.le_of_ble_eq_true rfl, Nat.le_of_ble_eq_true rfl⟩ hP nM_0 sM_0 rfl hl.1 rfl rfl (Nat.le_of_ble_eq_true rfl) dX12_guilty_15 ?_
    refine lv_if_ne (pc := 18) (tgt := 23) hx hb dX12_guilty_18 (by decide) (fun c7 => ?_) (fun c7 => ?_)
    · replace h := zBr_f c7 h
      refine lv_iconst (pc := 23) hx hb dX12_guilty_23 zc_0 ?_
      refine lv_istore_n (lv' := [(3, .int (0 : Int32)), (0, .ref (q 0)), (1, .int v1), (2, .int v2)]) (pc := 24) hx hb dX12_guilty_24 rfl hl (by decide) rfl (fun ls hl => ?_)
      exact kX12_guilty_25 cx hr hlk hq 2000 _ h _ _ hP hS _ (lv_sub hl [1, 2, 3, 0] rfl)
    · replace h := zBr_t c7 h
      refine lv_iconst (pc := 21) hx hb dX12_guilty_21 zc_m1 ?_
      have hz := Option.some.inj h
      exact zr_rqI (pc := 22) cx hr hlk hP hS hz dX12_guilty_22
-- X12_hides
abbrev rmX12_hides : Room := { frames := 3, cells := 0, slots := 0, locals := 64 }
def fX12_hides_68 (S : zSt)  (v1 : Int32) (v2 : Int32) (v3 : Int32) : Option ((Int32 × Int32) ⊕ (Int32 × zSt)) :=
  zLt (v3 + (1 : Int32)) (fun x14 => some (.inl (v2, x14)))
set_option maxHeartbeats 4000000 in
set_option maxRecDepth 100000 in
theorem kX12_hides_68 {p : Program} {l : Launch} {e : Env} {s : State} {m : MethodId} {args : Array Value} {below : List Frame} {meth : Method} {c : Code} {D : va_G} {cy : Nat → ClassId} {q : Nat → Nat} {A : Nat → Prop} (cx : zX RX12 cX12_hides 4 p s m args c D cy) (hr : meth.sig.returnType = (some .int)) (hlk : meth.locks = false) (hq : zQ A q zNM) {z : (Int32 × zSt)} {S : zSt} {v1 : Int32} {v2 : Int32} {v3 : Int32} {C1 : ((Int32 × Int32) ⊕ (Int32 × zSt)) → Prop} (hb1 : ∀ (v2 : Int32) (v3 : Int32), C1 (.inl (v2, v3)) → ∀ (H : Heap) (locs : List Loc), va_P D vwCl (zW zshM zNM cy q S) H → va_S A s.heap H locs → ∀ (ls : Array Slot), lv_has ls 4 [(0, .ref (q 0)), (1, .int v1), (2, .int v2), (3, .int v3)] → W p l e rmX12_hides s m args below meth c H locs 0 0 (MQ below (va_Qi (fun (r : Int32) (u : zSt) => (r, u) = z) (fun u t => va_P D vwCl (zW zshM zNM cy q u) t.heap) A) args s 0 0 A) (F0 m 30 ls [])) (hx1 : ∀ a, C1 (.inr a) → a = z) {x : ((Int32 × Int32) ⊕ (Int32 × zSt))} (h : fX12_hides_68 S v1 v2 v3 = some x) (hc : C1 x) {H : Heap} {locs : List Loc} (hP : va_P D vwCl (zW zshM zNM cy q S) H) (hS : va_S A s.heap H locs) {ls : Array Slot} (hl : lv_has ls 4 [(0, .ref (q 0)), (1, .int v1), (2, .int v2), (3, .int v3)]) : W p l e rmX12_hides s m args below meth c H locs 0 0 (MQ below (va_Qi (fun (r : Int32) (u : zSt) => (r, u) = z) (fun u t => va_P D vwCl (zW zshM zNM cy q u) t.heap) A) args s 0 0 A) (F0 m 68 ls []) := by
  have hx := cx.1
  have hb := cx.2.1
  unfold fX12_hides_68 at h
  obtain ⟨x14, ex14, h⟩ := zLt_e h
  refine lv_iinc (v := x14) (lv' := [(3, .int x14), (0, .ref (q 0)), (1, .int v1), (2, .int v2)]) (pc := 68) hx hb dX12_hides_68 hl (k := 3) rfl (by rw [zc_1]; exact ex14.symm) (by decide) rfl (fun ls hl => ?_)
  refine lv_goto (pc := 71) (tgt := 30) hx hb dX12_hides_71 (by decide) ?_
  cases h
  exact hb1 _ _ hc _ _ hP hS _ (lv_sub hl [1, 2, 3, 0] rfl)
def fX12_hides_30 (S : zSt)  (v1 : Int32) (t : (Int32 × Int32)) : Option ((Int32 × Int32) ⊕ (Int32 × zSt)) :=
  match t with
  | (v2, v3) => zGd (zIx (1 : Int32) 406) (zBr ((S.1 2 (1 : Int32).toNatClampNeg) ≤ v3) (zXr (some (v2, S))) (zBd (fX12_nextLeaf S v3) (fun r11 => zGd (zIx (24 : Int32) 406) (zBr (((S.1 2 (24 : Int32).toNatClampNeg) + v1) < r11) (fX12_hides_68 S v1 v2 v3) (zBd (fX12_seesOf S v3 (0 : Int32)) (fun r16 => zLt (v2 &&& (r16 ^^^ (-1 : Int32))) (fun x17 => fX12_hides_68 S v1 x17 v3)))))))
set_option maxHeartbeats 4000000 in
set_option maxRecDepth 100000 in
theorem kX12_hides_30B {p : Program} {l : Launch} {e : Env} {s : State} {m : MethodId} {args : Array Value} {below : List Frame} {meth : Method} {c : Code} {D : va_G} {cy : Nat → ClassId} {q : Nat → Nat} {A : Nat → Prop} (cx : zX RX12 cX12_hides 4 p s m args c D cy) (hr : meth.sig.returnType = (some .int)) (hlk : meth.locks = false) (hq : zQ A q zNM) {z : (Int32 × zSt)} {S : zSt} {v1 : Int32} {v2 : Int32} {v3 : Int32} {C1 : ((Int32 × Int32) ⊕ (Int32 × zSt)) → Prop} (hb1 : ∀ (v2 : Int32) (v3 : Int32), C1 (.inl (v2, v3)) → ∀ (H : Heap) (locs : List Loc), va_P D vwCl (zW zshM zNM cy q S) H → va_S A s.heap H locs → ∀ (ls : Array Slot), lv_has ls 4 [(0, .ref (q 0)), (1, .int v1), (2, .int v2), (3, .int v3)] → W p l e rmX12_hides s m args below meth c H locs 0 0 (MQ below (va_Qi (fun (r : Int32) (u : zSt) => (r, u) = z) (fun u t => va_P D vwCl (zW zshM zNM cy q u) t.heap) A) args s 0 0 A) (F0 m 30 ls [])) (hx1 : ∀ a, C1 (.inr a) → a = z) {x : ((Int32 × Int32) ⊕ (Int32 × zSt))} (h : fX12_hides_30 S v1 (v2, v3) = some x) (hc : C1 x) {H : Heap} {locs : List Loc} (hP : va_P D vwCl (zW zshM zNM cy q S) H) (hS : va_S A s.heap H locs) {ls : Array Slot} (hl : lv_has ls 4 [(0, .ref (q 0)), (1, .int v1), (2, .int v2), (3, .int v3)]) : W p l e rmX12_hides s m args below meth c H locs 0 0 (MQ below (va_Qi (fun (r : Int32) (u : zSt) => (r, u) = z) (fun u t => va_P D vwCl (zW zshM zNM cy q u) t.heap) A) args s 0 0 A) (F0 m 30 ls []) := by
  have hx := cx.1
  have hb := cx.2.1
  unfold fX12_hides_30 at h
  dsimp only at h
  refine lv_iload_n (pc := 30) hx hb dX12_hides_30 rfl (lv_at hl 3 rfl) ?_
  refine lv_aload_n (pc := 31) hx hb dX12_hides_31 rfl (lv_at hl 0 rfl) ?_
  refine zr_getR (pc := 32) (t := 2) cx lk_X12_98 hP nM_0 sM_0 rfl dX12_hides_32 ?_
  refine lv_iconst (pc := 35) hx hb dX12_hides_35 zc_1 ?_
  obtain ⟨g7, h⟩ := zGd_e h
  refine zr_iald (pc := 36) cx hP nM_2 sM_2 g7 dX12_hides_36 ?_
  refine lv_icmp_ge (pc := 37) (tgt := 74) hx hb dX12_hides_37 (by decide) (fun c8 => ?_) (fun c8 => ?_)
  · replace h := zBr_t c8 h
    obtain ⟨y9, h, ex⟩ := zXr_e h
    have hc := hx1 y9 (by rw [ex] at hc; exact hc)
    rw [hc] at h
    refine lv_iload_n (pc := 74) hx hb dX12_hides_74 rfl (lv_at hl 2 rfl) ?_
    have hz := Option.some.inj h
    exact zr_rqI (pc := 75) cx hr hlk hP hS hz dX12_hides_75
  · replace h := zBr_f c8 h
    refine lv_aload_n (pc := 40) hx hb dX12_hides_40 rfl (lv_at hl 0 rfl) ?_
    refine lv_iload_n (pc := 41) hx hb dX12_hides_41 rfl (lv_at hl 3 rfl) ?_
    obtain ⟨r11, k10, h⟩ := zBd_e h
    refine zr_VI (pc := 42) (rest := []) cx cv_X12_268 (mX12_nextLeaf k10) ⟨⟨rfl, rfl⟩, Nat.le_of_ble_eq_true rfl, Nat.le_of_ble_eq_true rfl⟩ ⟨Nat.le_of_ble_eq_true rfl, Nat.le_of_ble_eq_true rfl⟩ hP nM_0 sM_0 rfl hl.1 rfl rfl (Nat.le_of_ble_eq_true rfl) dX12_hides_42 ?_
    refine lv_aload_n (pc := 45) hx hb dX12_hides_45 rfl (lv_at hl 0 rfl) ?_
    refine zr_getR (pc := 46) (t := 2) cx lk_X12_98 hP nM_0 sM_0 rfl dX12_hides_46 ?_
    refine lv_bipush (pc := 49) hx hb dX12_hides_49 zb_24 ?_
    obtain ⟨g12, h⟩ := zGd_e h
    refine zr_iald (pc := 51) cx hP nM_2 sM_2 g12 dX12_hides_51 ?_
    refine lv_iload_n (pc := 52) hx hb dX12_hides_52 rfl (lv_at hl 1 rfl) ?_
    refine lv_iadd (pc := 53) hx hb dX12_hides_53 ?_
    refine lv_icmp_gt (pc := 54) (tgt := 68) hx hb dX12_hides_54 (by decide) (fun c13 => ?_) (fun c13 => ?_)
    · replace h := zBr_t c13 h
      exact kX12_hides_68 cx hr hlk hq hb1 hx1 h hc hP hS (lv_sub hl [0, 1, 2, 3] rfl)
    · replace h := zBr_f c13 h
      refine lv_iload_n (pc := 57) hx hb dX12_hides_57 rfl (lv_at hl 2 rfl) ?_
      refine lv_aload_n (pc := 58) hx hb dX12_hides_58 rfl (lv_at hl 0 rfl) ?_
      refine lv_iload_n (pc := 59) hx hb dX12_hides_59 rfl (lv_at hl 3 rfl) ?_
      refine lv_iconst (pc := 60) hx hb dX12_hides_60 zc_0 ?_
      obtain ⟨r16, k15, h⟩ := zBd_e h
      refine zr_VI (pc := 61) (rest := [.int v2]) cx cv_X12_250 (mX12_seesOf k15) ⟨⟨rfl, rfl⟩, Nat.le_of_ble_eq_true rfl, Nat.le_of_ble_eq_true rfl⟩ ⟨Nat.le_of_ble_eq_true rfl, Nat.le_of_ble_eq_true rfl⟩ hP nM_0 sM_0 rfl hl.1 rfl rfl (Nat.le_of_ble_eq_true rfl) dX12_hides_61 ?_
      refine lv_iconst (pc := 64) hx hb dX12_hides_64 zc_m1 ?_
      refine lv_ixor (pc := 65) hx hb dX12_hides_65 ?_
      refine lv_iand (pc := 66) hx hb dX12_hides_66 ?_
      obtain ⟨x17, ex17, h⟩ := zLt_e h
      refine zr_nmI ex17 ?_
      refine lv_istore_n (lv' := [(2, .int x17), (0, .ref (q 0)), (1, .int v1), (3, .int v3)]) (pc := 67) hx hb dX12_hides_67 rfl hl (by decide) rfl (fun ls hl => ?_)
      exact kX12_hides_68 cx hr hlk hq hb1 hx1 h hc hP hS (lv_sub hl [1, 2, 0, 3] rfl)
set_option maxHeartbeats 4000000 in
set_option maxRecDepth 100000 in
theorem kX12_hides_30 {p : Program} {l : Launch} {e : Env} {s : State} {m : MethodId} {args : Array Value} {below : List Frame} {meth : Method} {c : Code} {D : va_G} {cy : Nat → ClassId} {q : Nat → Nat} {A : Nat → Prop} (cx : zX RX12 cX12_hides 4 p s m args c D cy) (hr : meth.sig.returnType = (some .int)) (hlk : meth.locks = false) (hq : zQ A q zNM) {z : (Int32 × zSt)} {S : zSt} {v1 : Int32} : ∀ (n : Nat) (v2 : Int32) (v3 : Int32), zLp (fX12_hides_30 S v1) n (v2, v3) = some z → ∀ (H : Heap) (locs : List Loc), va_P D vwCl (zW zshM zNM cy q S) H → va_S A s.heap H locs → ∀ (ls : Array Slot), lv_has ls 4 [(0, .ref (q 0)), (1, .int v1), (2, .int v2), (3, .int v3)] → W p l e rmX12_hides s m args below meth c H locs 0 0 (MQ below (va_Qi (fun (r : Int32) (u : zSt) => (r, u) = z) (fun u t => va_P D vwCl (zW zshM zNM cy q u) t.heap) A) args s 0 0 A) (F0 m 30 ls []) := by
  intro n
  induction n with
  | zero =>
    intro v2 v3 h
    cases h
  | succ n ih =>
    intro v2 v3 h H locs hP hS ls hl
    obtain ⟨x, h, hk⟩ := zLp_e h
    exact kX12_hides_30B cx hr hlk hq  (C1 := zKt (fun t => zLp (fX12_hides_30 S v1) n t = some z) (fun a => a = z)) (fun v2 v3 ht H locs hP hS ls hl => ih v2 v3 ht H locs hP hS ls hl) (fun a ha => ha) h hk hP hS hl
def fX12_hides (S : zSt) (v1 : Int32) : Option (Int32 × zSt) :=
  zLt (zI S 0 0 (0 : Int32)) (fun S1 => zBd (fX12_isIn v1 (0 : Int32) (60 : Int32)) (fun r3 => zBr (r3 = 0) (some ((-1 : Int32), S1)) (zGd (zIx (0 : Int32) 406) (zLt (((1 : Int32) <<< ((S1.1 2 (0 : Int32).toNatClampNeg) &&& 31)) - (1 : Int32)) (fun x6 => zLp (fX12_hides_30 S1 v1) 2000 (x6, (0 : Int32)))))))
set_option maxHeartbeats 4000000 in
set_option maxRecDepth 100000 in
theorem mX12_hides {l : Launch} {D : va_G} {cy : Nat → ClassId} {q : Nat → Nat} {A : Nat → Prop} {S : zSt} {v1 : Int32} (hq : zQ A q zNM) {z : (Int32 × zSt)} (h : fX12_hides S v1 = some z) : zMq l yX12_hides cX12_hides 4 (some .int) rmX12_hides [.ref (q 0), .int v1] zshM zNM D cy q A S z := by
  refine Met.ofW (cc := cX12_hides) (maxL := 4) (ret := (some .int)) (by decide) rfl ?_
  intro p e s m args below meth c s₁ B hml hv
  obtain ⟨rfl, hP, hK⟩ := hv
  have cx : zX RX12 cX12_hides 4 p s m ([.ref (q 0), .int v1]).toArray c D cy := ⟨B.exec, B.bytes, hml, findClass_of_methodNamed B.named, fun w hw => atoms_spec (ws := Cond.code yX12_hides cX12_hides 4 (some .int) :: zTB) B.pre w (List.mem_cons_of_mem _ hw), hK⟩
  have hx := cx.1
  have hb := cx.2.1
  have hr := B.returns
  have hlk := B.notSynchronized
  have hS : va_S A s.heap s.heap [] := va_S.rf
  have hl := lv_entry ([.ref (q 0), .int v1]) (n := 4) (Nat.le_of_ble_eq_true rfl)
  rw [lg_entry_eq]
  generalize (lg_sl ([.ref (q 0), .int v1]) ++ List.replicate (4 - (lg_sl ([.ref (q 0), .int v1])).length) Slot.unset).toArray = ls at hl ⊢
  have hl : lv_has ls 4 [(0, .ref (q 0)), (1, .int v1)] := hl
  unfold fX12_hides at h
  refine lv_aload_n (pc := 0) hx hb dX12_hides_0 rfl (lv_at hl 0 rfl) ?_
  refine lv_iconst (pc := 1) hx hb dX12_hides_1 zc_0 ?_
  obtain ⟨S1, eS1, h⟩ := zLt_e h
  refine zr_putI (pc := 2) cx lq_X12_1 hq hP hS nM_0 sM_0 rfl rfl rfl dX12_hides_2 (fun H locs hP hS => ?_)
  rw [← eS1] at hP
  refine lv_iload_n (pc := 5) hx hb dX12_hides_5 rfl (lv_at hl 1 rfl) ?_
  refine lv_iconst (pc := 6) hx hb dX12_hides_6 zc_0 ?_
  refine lv_bipush (pc := 7) hx hb dX12_hides_7 zb_60 ?_
  obtain ⟨r3, k2, h⟩ := zBd_e h
  refine zr_SI (pc := 9) (rest := []) cx cv_X12_75 (mX12_isIn k2) ⟨⟨rfl, rfl⟩, Nat.le_of_ble_eq_true rfl, Nat.le_of_ble_eq_true rfl⟩ ⟨Nat.le_of_ble_eq_true rfl, Nat.le_of_ble_eq_true rfl⟩ (zr_preK cx) hl.1 rfl rfl (Nat.le_of_ble_eq_true rfl) dX12_hides_9 ?_
  refine lv_if_ne (pc := 12) (tgt := 17) hx hb dX12_hides_12 (by decide) (fun c4 => ?_) (fun c4 => ?_)
  · replace h := zBr_f c4 h
    refine lv_iconst (pc := 17) hx hb dX12_hides_17 zc_1 ?_
    refine lv_aload_n (pc := 18) hx hb dX12_hides_18 rfl (lv_at hl 0 rfl) ?_
    refine zr_getR (pc := 19) (t := 2) cx lk_X12_98 hP nM_0 sM_0 rfl dX12_hides_19 ?_
    refine lv_iconst (pc := 22) hx hb dX12_hides_22 zc_0 ?_
    obtain ⟨g5, h⟩ := zGd_e h
    refine zr_iald (pc := 23) cx hP nM_2 sM_2 g5 dX12_hides_23 ?_
    refine lv_ishl (pc := 24) hx hb dX12_hides_24 ?_
    refine lv_iconst (pc := 25) hx hb dX12_hides_25 zc_1 ?_
    refine lv_isub (pc := 26) hx hb dX12_hides_26 ?_
    obtain ⟨x6, ex6, h⟩ := zLt_e h
    refine zr_nmI ex6 ?_
    refine lv_istore_n (lv' := [(2, .int x6), (0, .ref (q 0)), (1, .int v1)]) (pc := 27) hx hb dX12_hides_27 rfl hl (by decide) rfl (fun ls hl => ?_)
    refine lv_iconst (pc := 28) hx hb dX12_hides_28 zc_0 ?_
    refine lv_istore_n (lv' := [(3, .int (0 : Int32)), (2, .int x6), (0, .ref (q 0)), (1, .int v1)]) (pc := 29) hx hb dX12_hides_29 rfl hl (by decide) rfl (fun ls hl => ?_)
    exact kX12_hides_30 cx hr hlk hq 2000 _ _ h _ _ hP hS _ (lv_sub hl [2, 3, 1, 0] rfl)
  · replace h := zBr_t c4 h
    refine lv_iconst (pc := 15) hx hb dX12_hides_15 zc_m1 ?_
    have hz := Option.some.inj h
    exact zr_rqI (pc := 16) cx hr hlk hP hS hz dX12_hides_16
-- X12_put
abbrev rmX12_put : Room := { frames := 0, cells := 0, slots := 0, locals := 0 }
def fX12_put (S : zSt) (v1 : Int32) (v2 : Int32) : Option (Int32 × zSt) :=
  zBr (v2 = 0) (zGd (zBo v2) (some (v2, S))) (zGd (zIx v1 24) (zLt (zI S 3 v1.toNatClampNeg (S.1 0 13)) (fun S4 => zGd (zBo v2) (some (v2, S4)))))
set_option maxHeartbeats 4000000 in
set_option maxRecDepth 100000 in
theorem mX12_put {l : Launch} {D : va_G} {cy : Nat → ClassId} {q : Nat → Nat} {A : Nat → Prop} {S : zSt} {v1 : Int32} {v2 : Int32} (hq : zQ A q zNM) {z : (Int32 × zSt)} (h : fX12_put S v1 v2 = some z) : zMq l yX12_put cX12_put 3 (some .boolean) rmX12_put [.ref (q 0), .int v1, .int v2] zshM zNM D cy q A S z := by
  refine Met.ofW (cc := cX12_put) (maxL := 3) (ret := (some .boolean)) (by decide) rfl ?_
  intro p e s m args below meth c s₁ B hml hv
  obtain ⟨rfl, hP, hK⟩ := hv
  have cx : zX RX12 cX12_put 3 p s m ([.ref (q 0), .int v1, .int v2]).toArray c D cy := ⟨B.exec, B.bytes, hml, findClass_of_methodNamed B.named, fun w hw => atoms_spec (ws := Cond.code yX12_put cX12_put 3 (some .boolean) :: zTB) B.pre w (List.mem_cons_of_mem _ hw), hK⟩
  have hx := cx.1
  have hb := cx.2.1
  have hr := B.returns
  have hlk := B.notSynchronized
  have hS : va_S A s.heap s.heap [] := va_S.rf
  have hl := lv_entry ([.ref (q 0), .int v1, .int v2]) (n := 3) (Nat.le_of_ble_eq_true rfl)
  rw [lg_entry_eq]
  generalize (lg_sl ([.ref (q 0), .int v1, .int v2]) ++ List.replicate (3 - (lg_sl ([.ref (q 0), .int v1, .int v2])).length) Slot.unset).toArray = ls at hl ⊢
  have hl : lv_has ls 3 [(0, .ref (q 0)), (1, .int v1), (2, .int v2)] := hl
  unfold fX12_put at h
  refine lv_iload_n (pc := 0) hx hb dX12_put_0 rfl (lv_at hl 2 rfl) ?_
  refine lv_if_eq (pc := 1) (tgt := 14) hx hb dX12_put_1 (by decide) (fun c1 => ?_) (fun c1 => ?_)
  · replace h := zBr_t c1 h
    refine lv_iload_n (pc := 14) hx hb dX12_put_14 rfl (lv_at hl 2 rfl) ?_
    obtain ⟨g2, h⟩ := zGd_e h
    have hz := Option.some.inj h
    exact zr_rqZ (pc := 15) cx hr hlk hP hS hz g2 dX12_put_15
  · replace h := zBr_f c1 h
    refine lv_aload_n (pc := 4) hx hb dX12_put_4 rfl (lv_at hl 0 rfl) ?_
    refine zr_getR (pc := 5) (t := 3) cx lk_X12_101 hP nM_0 sM_0 rfl dX12_put_5 ?_
    refine lv_iload_n (pc := 8) hx hb dX12_put_8 rfl (lv_at hl 1 rfl) ?_
    refine lv_aload_n (pc := 9) hx hb dX12_put_9 rfl (lv_at hl 0 rfl) ?_
    refine zr_getI (pc := 10) cx lk_X12_79 hP nM_0 sM_0 rfl dX12_put_10 ?_
    obtain ⟨g3, h⟩ := zGd_e h
    obtain ⟨S4, eS4, h⟩ := zLt_e h
    refine zr_iast (pc := 13) cx hq hP hS nM_3 sM_3 g3 dX12_put_13 (fun H locs hP hS => ?_)
    rw [← eS4] at hP
    refine lv_iload_n (pc := 14) hx hb dX12_put_14 rfl (lv_at hl 2 rfl) ?_
    obtain ⟨g5, h⟩ := zGd_e h
    have hz := Option.some.inj h
    exact zr_rqZ (pc := 15) cx hr hlk hP hS hz g5 dX12_put_15
-- X12_readOnce
abbrev rmX12_readOnce : Room := { frames := 3, cells := 0, slots := 0, locals := 67 }
def fX12_readOnce (S : zSt) (v1 : Int32) (v2 : Int32) (v3 : Int32) : Option (Int32 × zSt) :=
  zGd (zIx v1 2) (zBr ((S.1 11 v1.toNatClampNeg) = 0) (zGd (zIx v1 2) (zLt (zI S 11 v1.toNatClampNeg (vp_nar .boolean (1 : Int32))) (fun S4 => zBd (fX12_go S4) (fun S6 => zBp (fX12_readNumber S6 (1 : Int32) v3) (fun r9 S8 => zBp (fX12_put S8 v2 r9) (fun r12 S11 => zGd (zBo r12) (some (r12, S11)))))))) (zBp (fX12_bad S (3 : Int32)) (fun r16 S15 => zGd (zBo r16) (some (r16, S15)))))
set_option maxHeartbeats 4000000 in
set_option maxRecDepth 100000 in
theorem mX12_readOnce {l : Launch} {D : va_G} {cy : Nat → ClassId} {q : Nat → Nat} {A : Nat → Prop} {S : zSt} {v1 : Int32} {v2 : Int32} {v3 : Int32} (hq : zQ A q zNM) {z : (Int32 × zSt)} (h : fX12_readOnce S v1 v2 v3 = some z) : zMq l yX12_readOnce cX12_readOnce 4 (some .boolean) rmX12_readOnce [.ref (q 0), .int v1, .int v2, .int v3] zshM zNM D cy q A S z := by
  refine Met.ofW (cc := cX12_readOnce) (maxL := 4) (ret := (some .boolean)) (by decide) rfl ?_
  intro p e s m args below meth c s₁ B hml hv
  obtain ⟨rfl, hP, hK⟩ := hv
  have cx : zX RX12 cX12_readOnce 4 p s m ([.ref (q 0), .int v1, .int v2, .int v3]).toArray c D cy := ⟨B.exec, B.bytes, hml, findClass_of_methodNamed B.named, fun w hw => atoms_spec (ws := Cond.code yX12_readOnce cX12_readOnce 4 (some .boolean) :: zTB) B.pre w (List.mem_cons_of_mem _ hw), hK⟩
  have hx := cx.1
  have hb := cx.2.1
  have hr := B.returns
  have hlk := B.notSynchronized
  have hS : va_S A s.heap s.heap [] := va_S.rf
  have hl := lv_entry ([.ref (q 0), .int v1, .int v2, .int v3]) (n := 4) (Nat.le_of_ble_eq_true rfl)
  rw [lg_entry_eq]
  generalize (lg_sl ([.ref (q 0), .int v1, .int v2, .int v3]) ++ List.replicate (4 - (lg_sl ([.ref (q 0), .int v1, .int v2, .int v3])).length) Slot.unset).toArray = ls at hl ⊢
  have hl : lv_has ls 4 [(0, .ref (q 0)), (1, .int v1), (2, .int v2), (3, .int v3)] := hl
  unfold fX12_readOnce at h
  refine lv_aload_n (pc := 0) hx hb dX12_readOnce_0 rfl (lv_at hl 0 rfl) ?_
  refine zr_getR (pc := 1) (t := 11) cx lk_X12_127 hP nM_0 sM_0 rfl dX12_readOnce_1 ?_
  refine lv_iload_n (pc := 4) hx hb dX12_readOnce_4 rfl (lv_at hl 1 rfl) ?_
  obtain ⟨g1, h⟩ := zGd_e h
  refine zr_zald (pc := 5) cx hP nM_11 sM_11 g1 dX12_readOnce_5 ?_
  refine lv_if_eq (pc := 6) (tgt := 15) hx hb dX12_readOnce_6 (by decide) (fun c2 => ?_) (fun c2 => ?_)
  · replace h := zBr_t c2 h
    refine lv_aload_n (pc := 15) hx hb dX12_readOnce_15 rfl (lv_at hl 0 rfl) ?_
    refine zr_getR (pc := 16) (t := 11) cx lk_X12_127 hP nM_0 sM_0 rfl dX12_readOnce_16 ?_
    refine lv_iload_n (pc := 19) hx hb dX12_readOnce_19 rfl (lv_at hl 1 rfl) ?_
    refine lv_iconst (pc := 20) hx hb dX12_readOnce_20 zc_1 ?_
    obtain ⟨g3, h⟩ := zGd_e h
    obtain ⟨S4, eS4, h⟩ := zLt_e h
    refine zr_zast (pc := 21) cx hq hP hS nM_11 sM_11 g3 dX12_readOnce_21 (fun H locs hP hS => ?_)
    rw [← eS4] at hP
    refine lv_aload_n (pc := 22) hx hb dX12_readOnce_22 rfl (lv_at hl 0 rfl) ?_
    obtain ⟨S6, k5, h⟩ := zBd_e h
    refine zr_VV (pc := 23) (rest := []) cx cv_X12_82 (mX12_go hq k5) ⟨⟨rfl, rfl⟩, Nat.le_of_ble_eq_true rfl, Nat.le_of_ble_eq_true rfl⟩ ⟨Nat.le_of_ble_eq_true rfl, Nat.le_of_ble_eq_true rfl⟩ hP hS nM_0 sM_0 rfl hl.1 rfl rfl (Nat.le_of_ble_eq_true rfl) dX12_readOnce_23 (fun H locs hP hS => ?_)
    refine lv_aload_n (pc := 26) hx hb dX12_readOnce_26 rfl (lv_at hl 0 rfl) ?_
    refine lv_iload_n (pc := 27) hx hb dX12_readOnce_27 rfl (lv_at hl 2 rfl) ?_
    refine lv_aload_n (pc := 28) hx hb dX12_readOnce_28 rfl (lv_at hl 0 rfl) ?_
    refine lv_iconst (pc := 29) hx hb dX12_readOnce_29 zc_1 ?_
    refine lv_iload_n (pc := 30) hx hb dX12_readOnce_30 rfl (lv_at hl 3 rfl) ?_
    obtain ⟨r9, S8, k7, h⟩ := zBp_e h
    refine zr_VQ (pc := 31) (rest := [.int v2, .ref (q 0)]) cx cv_X12_188 (mX12_readNumber hq k7) ⟨⟨rfl, rfl⟩, Nat.le_of_ble_eq_true rfl, Nat.le_of_ble_eq_true rfl⟩ ⟨Nat.le_of_ble_eq_true rfl, Nat.le_of_ble_eq_true rfl⟩ hP hS nM_0 sM_0 rfl hl.1 rfl rfl (Nat.le_of_ble_eq_true rfl) dX12_readOnce_31 (fun H locs hP hS => ?_)
    obtain ⟨r12, S11, k10, h⟩ := zBp_e h
    refine zr_VQ (pc := 34) (rest := []) cx cv_X12_184 (mX12_put hq k10) ⟨⟨rfl, rfl⟩, Nat.le_of_ble_eq_true rfl, Nat.le_of_ble_eq_true rfl⟩ ⟨Nat.le_of_ble_eq_true rfl, Nat.le_of_ble_eq_true rfl⟩ hP hS nM_0 sM_0 rfl hl.1 rfl rfl (Nat.le_of_ble_eq_true rfl) dX12_readOnce_34 (fun H locs hP hS => ?_)
    obtain ⟨g13, h⟩ := zGd_e h
    have hz := Option.some.inj h
    exact zr_rqZ (pc := 37) cx hr hlk hP hS hz g13 dX12_readOnce_37
  · replace h := zBr_f c2 h
    refine lv_aload_n (pc := 9) hx hb dX12_readOnce_9 rfl (lv_at hl 0 rfl) ?_
    refine lv_iconst (pc := 10) hx hb dX12_readOnce_10 zc_3 ?_
    obtain ⟨r16, S15, k14, h⟩ := zBp_e h
    refine zr_VQ (pc := 11) (rest := []) cx cv_X12_72 (mX12_bad hq k14) ⟨⟨rfl, rfl⟩, Nat.le_of_ble_eq_true rfl, Nat.le_of_ble_eq_true rfl⟩ ⟨Nat.le_of_ble_eq_true rfl, Nat.le_of_ble_eq_true rfl⟩ hP hS nM_0 sM_0 rfl hl.1 rfl rfl (Nat.le_of_ble_eq_true rfl) dX12_readOnce_11 (fun H locs hP hS => ?_)
    obtain ⟨g17, h⟩ := zGd_e h
    have hz := Option.some.inj h
    exact zr_rqZ (pc := 14) cx hr hlk hP hS hz g17 dX12_readOnce_14
-- X12_readFirst
abbrev rmX12_readFirst : Room := { frames := 2, cells := 0, slots := 0, locals := 45 }
def fX12_readFirst (S : zSt) (v1 : Int32) (v2 : Int32) : Option (Int32 × zSt) :=
  zGd (zIx v1 24) (zBr ((S.1 3 v1.toNatClampNeg) = v2) (zBp (fX12_bad S (4 : Int32)) (fun r7 S6 => zGd (zBo r7) (some (r7, S6)))) (zBd (fX12_go S) (fun S4 => some ((1 : Int32), S4))))
set_option maxHeartbeats 4000000 in
set_option maxRecDepth 100000 in
theorem mX12_readFirst {l : Launch} {D : va_G} {cy : Nat → ClassId} {q : Nat → Nat} {A : Nat → Prop} {S : zSt} {v1 : Int32} {v2 : Int32} (hq : zQ A q zNM) {z : (Int32 × zSt)} (h : fX12_readFirst S v1 v2 = some z) : zMq l yX12_readFirst cX12_readFirst 3 (some .boolean) rmX12_readFirst [.ref (q 0), .int v1, .int v2] zshM zNM D cy q A S z := by
  refine Met.ofW (cc := cX12_readFirst) (maxL := 3) (ret := (some .boolean)) (by decide) rfl ?_
  intro p e s m args below meth c s₁ B hml hv
  obtain ⟨rfl, hP, hK⟩ := hv
  have cx : zX RX12 cX12_readFirst 3 p s m ([.ref (q 0), .int v1, .int v2]).toArray c D cy := ⟨B.exec, B.bytes, hml, findClass_of_methodNamed B.named, fun w hw => atoms_spec (ws := Cond.code yX12_readFirst cX12_readFirst 3 (some .boolean) :: zTB) B.pre w (List.mem_cons_of_mem _ hw), hK⟩
  have hx := cx.1
  have hb := cx.2.1
  have hr := B.returns
  have hlk := B.notSynchronized
  have hS : va_S A s.heap s.heap [] := va_S.rf
  have hl := lv_entry ([.ref (q 0), .int v1, .int v2]) (n := 3) (Nat.le_of_ble_eq_true rfl)
  rw [lg_entry_eq]
  generalize (lg_sl ([.ref (q 0), .int v1, .int v2]) ++ List.replicate (3 - (lg_sl ([.ref (q 0), .int v1, .int v2])).length) Slot.unset).toArray = ls at hl ⊢
  have hl : lv_has ls 3 [(0, .ref (q 0)), (1, .int v1), (2, .int v2)] := hl
  unfold fX12_readFirst at h
  refine lv_aload_n (pc := 0) hx hb dX12_readFirst_0 rfl (lv_at hl 0 rfl) ?_
  refine zr_getR (pc := 1) (t := 3) cx lk_X12_101 hP nM_0 sM_0 rfl dX12_readFirst_1 ?_
  refine lv_iload_n (pc := 4) hx hb dX12_readFirst_4 rfl (lv_at hl 1 rfl) ?_
  obtain ⟨g1, h⟩ := zGd_e h
  refine zr_iald (pc := 5) cx hP nM_3 sM_3 g1 dX12_readFirst_5 ?_
  refine lv_iload_n (pc := 6) hx hb dX12_readFirst_6 rfl (lv_at hl 2 rfl) ?_
  refine lv_icmp_ne (pc := 7) (tgt := 16) hx hb dX12_readFirst_7 (by decide) (fun c2 => ?_) (fun c2 => ?_)
  · replace h := zBr_f c2 h
    refine lv_aload_n (pc := 16) hx hb dX12_readFirst_16 rfl (lv_at hl 0 rfl) ?_
    obtain ⟨S4, k3, h⟩ := zBd_e h
    refine zr_VV (pc := 17) (rest := []) cx cv_X12_82 (mX12_go hq k3) ⟨⟨rfl, rfl⟩, Nat.le_of_ble_eq_true rfl, Nat.le_of_ble_eq_true rfl⟩ ⟨Nat.le_of_ble_eq_true rfl, Nat.le_of_ble_eq_true rfl⟩ hP hS nM_0 sM_0 rfl hl.1 rfl rfl (Nat.le_of_ble_eq_true rfl) dX12_readFirst_17 (fun H locs hP hS => ?_)
    refine lv_iconst (pc := 20) hx hb dX12_readFirst_20 zc_1 ?_
    have hz := Option.some.inj h
    exact zr_rqZ (pc := 21) cx hr hlk hP hS hz (by decide) dX12_readFirst_21
  · replace h := zBr_t c2 h
    refine lv_aload_n (pc := 10) hx hb dX12_readFirst_10 rfl (lv_at hl 0 rfl) ?_
    refine lv_iconst (pc := 11) hx hb dX12_readFirst_11 zc_4 ?_
    obtain ⟨r7, S6, k5, h⟩ := zBp_e h
    refine zr_VQ (pc := 12) (rest := []) cx cv_X12_72 (mX12_bad hq k5) ⟨⟨rfl, rfl⟩, Nat.le_of_ble_eq_true rfl, Nat.le_of_ble_eq_true rfl⟩ ⟨Nat.le_of_ble_eq_true rfl, Nat.le_of_ble_eq_true rfl⟩ hP hS nM_0 sM_0 rfl hl.1 rfl rfl (Nat.le_of_ble_eq_true rfl) dX12_readFirst_12 (fun H locs hP hS => ?_)
    obtain ⟨g8, h⟩ := zGd_e h
    have hz := Option.some.inj h
    exact zr_rqZ (pc := 15) cx hr hlk hP hS hz g8 dX12_readFirst_15
-- X12_isTaken
abbrev rmX12_isTaken : Room := { frames := 1, cells := 0, slots := 0, locals := 25 }
def fX12_isTaken (S : zSt) : Option Int32 :=
  zGd (zIx (0 : Int32) 24) (zBd (fX12_findIn S 8 (0 : Int32) (S.1 3 (0 : Int32).toNatClampNeg) (S.2 0 12)) (fun r3 => zBr (r3 = (-1 : Int32)) (zGd (zIx (1 : Int32) 24) (zBd (fX12_findIn S 8 (5 : Int32) (S.1 3 (1 : Int32).toNatClampNeg) (S.2 0 12)) (fun r7 => zBr (r7 = (-1 : Int32)) (zGd (zIx (2 : Int32) 24) (zBd (fX12_findIn S 8 (11 : Int32) (S.1 3 (2 : Int32).toNatClampNeg) (S.2 0 12)) (fun r11 => zBr (r11 = (-1 : Int32)) (zGd (zIx (3 : Int32) 24) (zBd (fX12_findIn S 8 (15 : Int32) (S.1 3 (3 : Int32).toNatClampNeg) (S.2 0 12)) (fun r15 => zBr (r15 = (-1 : Int32)) (some (0 : Int32)) (some (1 : Int32))))) (some (1 : Int32))))) (some (1 : Int32))))) (some (1 : Int32))))
set_option maxHeartbeats 4000000 in
set_option maxRecDepth 100000 in
theorem mX12_isTaken {l : Launch} {D : va_G} {cy : Nat → ClassId} {q : Nat → Nat} {S : zSt} {z : Int32} (h : fX12_isTaken S = some z) : zMi l yX12_isTaken cX12_isTaken 1 (some .boolean) rmX12_isTaken [.ref (q 0)] (zPr zshM zNM D cy q S) z := by
  refine Met.ofW (cc := cX12_isTaken) (maxL := 1) (ret := (some .boolean)) (by decide) rfl ?_
  intro p e s m args below meth c s₁ B hml hv
  obtain ⟨rfl, hP, hK⟩ := hv
  have cx : zX RX12 cX12_isTaken 1 p s m ([.ref (q 0)]).toArray c D cy := ⟨B.exec, B.bytes, hml, findClass_of_methodNamed B.named, fun w hw => atoms_spec (ws := Cond.code yX12_isTaken cX12_isTaken 1 (some .boolean) :: zTB) B.pre w (List.mem_cons_of_mem _ hw), hK⟩
  have hx := cx.1
  have hb := cx.2.1
  have hr := B.returns
  have hlk := B.notSynchronized
  have hl := lv_entry ([.ref (q 0)]) (n := 1) (Nat.le_of_ble_eq_true rfl)
  rw [lg_entry_eq]
  generalize (lg_sl ([.ref (q 0)]) ++ List.replicate (1 - (lg_sl ([.ref (q 0)])).length) Slot.unset).toArray = ls at hl ⊢
  have hl : lv_has ls 1 [(0, .ref (q 0))] := hl
  unfold fX12_isTaken at h
  refine lv_aload_n (pc := 0) hx hb dX12_isTaken_0 rfl (lv_at hl 0 rfl) ?_
  refine zr_getR (pc := 1) (t := 8) cx lk_X12_117 hP nM_0 sM_0 rfl dX12_isTaken_1 ?_
  refine lv_iconst (pc := 4) hx hb dX12_isTaken_4 zc_0 ?_
  refine lv_aload_n (pc := 5) hx hb dX12_isTaken_5 rfl (lv_at hl 0 rfl) ?_
  refine zr_getR (pc := 6) (t := 3) cx lk_X12_101 hP nM_0 sM_0 rfl dX12_isTaken_6 ?_
  refine lv_iconst (pc := 9) hx hb dX12_isTaken_9 zc_0 ?_
  obtain ⟨g1, h⟩ := zGd_e h
  refine zr_iald (pc := 10) cx hP nM_3 sM_3 g1 dX12_isTaken_10 ?_
  refine lv_aload_n (pc := 11) hx hb dX12_isTaken_11 rfl (lv_at hl 0 rfl) ?_
  refine zr_getJ (pc := 12) cx lk_X12_43 hP nM_0 sM_0 rfl dX12_isTaken_12 ?_
  obtain ⟨r3, k2, h⟩ := zBd_e h
  refine zr_SI (pc := 15) (rest := []) cx cv_X12_160 (mX12_findIn ⟨sM_8, nM_8⟩ k2) ⟨⟨rfl, rfl⟩, Nat.le_of_ble_eq_true rfl, Nat.le_of_ble_eq_true rfl⟩ ⟨Nat.le_of_ble_eq_true rfl, Nat.le_of_ble_eq_true rfl⟩ (zr_preW cx hP) hl.1 rfl rfl (Nat.le_of_ble_eq_true rfl) dX12_isTaken_15 ?_
  refine lv_iconst (pc := 18) hx hb dX12_isTaken_18 zc_m1 ?_
  refine lv_icmp_ne (pc := 19) (tgt := 90) hx hb dX12_isTaken_19 (by decide) (fun c4 => ?_) (fun c4 => ?_)
  · replace h := zBr_f c4 h
    refine lv_iconst (pc := 90) hx hb dX12_isTaken_90 zc_1 ?_
    refine lv_goto (pc := 91) (tgt := 95) hx hb dX12_isTaken_91 (by decide) ?_
    have hz := Option.some.inj h
    exact zr_reZ (pc := 95) cx hr hlk hz (by decide) dX12_isTaken_95
  · replace h := zBr_t c4 h
    refine lv_aload_n (pc := 22) hx hb dX12_isTaken_22 rfl (lv_at hl 0 rfl) ?_
    refine zr_getR (pc := 23) (t := 8) cx lk_X12_117 hP nM_0 sM_0 rfl dX12_isTaken_23 ?_
    refine lv_iconst (pc := 26) hx hb dX12_isTaken_26 zc_5 ?_
    refine lv_aload_n (pc := 27) hx hb dX12_isTaken_27 rfl (lv_at hl 0 rfl) ?_
    refine zr_getR (pc := 28) (t := 3) cx lk_X12_101 hP nM_0 sM_0 rfl dX12_isTaken_28 ?_
    refine lv_iconst (pc := 31) hx hb dX12_isTaken_31 zc_1 ?_
    obtain ⟨g5, h⟩ := zGd_e h
    refine zr_iald (pc := 32) cx hP nM_3 sM_3 g5 dX12_isTaken_32 ?_
    refine lv_aload_n (pc := 33) hx hb dX12_isTaken_33 rfl (lv_at hl 0 rfl) ?_
    refine zr_getJ (pc := 34) cx lk_X12_43 hP nM_0 sM_0 rfl dX12_isTaken_34 ?_
    obtain ⟨r7, k6, h⟩ := zBd_e h
    refine zr_SI (pc := 37) (rest := []) cx cv_X12_160 (mX12_findIn ⟨sM_8, nM_8⟩ k6) ⟨⟨rfl, rfl⟩, Nat.le_of_ble_eq_true rfl, Nat.le_of_ble_eq_true rfl⟩ ⟨Nat.le_of_ble_eq_true rfl, Nat.le_of_ble_eq_true rfl⟩ (zr_preW cx hP) hl.1 rfl rfl (Nat.le_of_ble_eq_true rfl) dX12_isTaken_37 ?_
    refine lv_iconst (pc := 40) hx hb dX12_isTaken_40 zc_m1 ?_
    refine lv_icmp_ne (pc := 41) (tgt := 90) hx hb dX12_isTaken_41 (by decide) (fun c8 => ?_) (fun c8 => ?_)
    · replace h := zBr_f c8 h
      refine lv_iconst (pc := 90) hx hb dX12_isTaken_90 zc_1 ?_
      refine lv_goto (pc := 91) (tgt := 95) hx hb dX12_isTaken_91 (by decide) ?_
      have hz := Option.some.inj h
      exact zr_reZ (pc := 95) cx hr hlk hz (by decide) dX12_isTaken_95
    · replace h := zBr_t c8 h
      refine lv_aload_n (pc := 44) hx hb dX12_isTaken_44 rfl (lv_at hl 0 rfl) ?_
      refine zr_getR (pc := 45) (t := 8) cx lk_X12_117 hP nM_0 sM_0 rfl dX12_isTaken_45 ?_
      refine lv_bipush (pc := 48) hx hb dX12_isTaken_48 zb_11 ?_
      refine lv_aload_n (pc := 50) hx hb dX12_isTaken_50 rfl (lv_at hl 0 rfl) ?_
      refine zr_getR (pc := 51) (t := 3) cx lk_X12_101 hP nM_0 sM_0 rfl dX12_isTaken_51 ?_
      refine lv_iconst (pc := 54) hx hb dX12_isTaken_54 zc_2 ?_
      obtain ⟨g9, h⟩ := zGd_e h
      refine zr_iald (pc := 55) cx hP nM_3 sM_3 g9 dX12_isTaken_55 ?_
      refine lv_aload_n (pc := 56) hx hb dX12_isTaken_56 rfl (lv_at hl 0 rfl) ?_
      refine zr_getJ (pc := 57) cx lk_X12_43 hP nM_0 sM_0 rfl dX12_isTaken_57 ?_
      obtain ⟨r11, k10, h⟩ := zBd_e h
      refine zr_SI (pc := 60) (rest := []) cx cv_X12_160 (mX12_findIn ⟨sM_8, nM_8⟩ k10) ⟨⟨rfl, rfl⟩, Nat.le_of_ble_eq_true rfl, Nat.le_of_ble_eq_true rfl⟩ ⟨Nat.le_of_ble_eq_true rfl, Nat.le_of_ble_eq_true rfl⟩ (zr_preW cx hP) hl.1 rfl rfl (Nat.le_of_ble_eq_true rfl) dX12_isTaken_60 ?_
      refine lv_iconst (pc := 63) hx hb dX12_isTaken_63 zc_m1 ?_
      refine lv_icmp_ne (pc := 64) (tgt := 90) hx hb dX12_isTaken_64 (by decide) (fun c12 => ?_) (fun c12 => ?_)
      · replace h := zBr_f c12 h
        refine lv_iconst (pc := 90) hx hb dX12_isTaken_90 zc_1 ?_
        refine lv_goto (pc := 91) (tgt := 95) hx hb dX12_isTaken_91 (by decide) ?_
        have hz := Option.some.inj h
        exact zr_reZ (pc := 95) cx hr hlk hz (by decide) dX12_isTaken_95
      · replace h := zBr_t c12 h
        refine lv_aload_n (pc := 67) hx hb dX12_isTaken_67 rfl (lv_at hl 0 rfl) ?_
        refine zr_getR (pc := 68) (t := 8) cx lk_X12_117 hP nM_0 sM_0 rfl dX12_isTaken_68 ?_
        refine lv_bipush (pc := 71) hx hb dX12_isTaken_71 zb_15 ?_
        refine lv_aload_n (pc := 73) hx hb dX12_isTaken_73 rfl (lv_at hl 0 rfl) ?_
        refine zr_getR (pc := 74) (t := 3) cx lk_X12_101 hP nM_0 sM_0 rfl dX12_isTaken_74 ?_
        refine lv_iconst (pc := 77) hx hb dX12_isTaken_77 zc_3 ?_
        obtain ⟨g13, h⟩ := zGd_e h
        refine zr_iald (pc := 78) cx hP nM_3 sM_3 g13 dX12_isTaken_78 ?_
        refine lv_aload_n (pc := 79) hx hb dX12_isTaken_79 rfl (lv_at hl 0 rfl) ?_
        refine zr_getJ (pc := 80) cx lk_X12_43 hP nM_0 sM_0 rfl dX12_isTaken_80 ?_
        obtain ⟨r15, k14, h⟩ := zBd_e h
        refine zr_SI (pc := 83) (rest := []) cx cv_X12_160 (mX12_findIn ⟨sM_8, nM_8⟩ k14) ⟨⟨rfl, rfl⟩, Nat.le_of_ble_eq_true rfl, Nat.le_of_ble_eq_true rfl⟩ ⟨Nat.le_of_ble_eq_true rfl, Nat.le_of_ble_eq_true rfl⟩ (zr_preW cx hP) hl.1 rfl rfl (Nat.le_of_ble_eq_true rfl) dX12_isTaken_83 ?_
        refine lv_iconst (pc := 86) hx hb dX12_isTaken_86 zc_m1 ?_
        refine lv_icmp_eq (pc := 87) (tgt := 94) hx hb dX12_isTaken_87 (by decide) (fun c16 => ?_) (fun c16 => ?_)
        · replace h := zBr_t c16 h
          refine lv_iconst (pc := 94) hx hb dX12_isTaken_94 zc_0 ?_
          have hz := Option.some.inj h
          exact zr_reZ (pc := 95) cx hr hlk hz (by decide) dX12_isTaken_95
        · replace h := zBr_f c16 h
          refine lv_iconst (pc := 90) hx hb dX12_isTaken_90 zc_1 ?_
          refine lv_goto (pc := 91) (tgt := 95) hx hb dX12_isTaken_91 (by decide) ?_
          have hz := Option.some.inj h
          exact zr_reZ (pc := 95) cx hr hlk hz (by decide) dX12_isTaken_95
-- X12_readNew
abbrev rmX12_readNew : Room := { frames := 3, cells := 0, slots := 0, locals := 69 }
def fX12_readNew (S : zSt) (v1 : Int32) : Option (Int32 × zSt) :=
  zBd (fX12_isName S) (fun r2 => zBr (r2 = 0) (zBp (fX12_bad S (1 : Int32)) (fun r17 S16 => zGd (zBo r17) (some (r17, S16)))) (zBd (fX12_isTaken S) (fun r5 => zBr (r5 = 0) (zGd (zIx v1 20) (zLt (zJ S 8 v1.toNatClampNeg (S.2 0 12)) (fun S8 => zBd (fX12_go S8) (fun S10 => some ((1 : Int32), S10))))) (zBp (fX12_bad S (3 : Int32)) (fun r13 S12 => zGd (zBo r13) (some (r13, S12)))))))
set_option maxHeartbeats 4000000 in
set_option maxRecDepth 100000 in
theorem mX12_readNew {l : Launch} {D : va_G} {cy : Nat → ClassId} {q : Nat → Nat} {A : Nat → Prop} {S : zSt} {v1 : Int32} (hq : zQ A q zNM) {z : (Int32 × zSt)} (h : fX12_readNew S v1 = some z) : zMq l yX12_readNew cX12_readNew 2 (some .boolean) rmX12_readNew [.ref (q 0), .int v1] zshM zNM D cy q A S z := by
  refine Met.ofW (cc := cX12_readNew) (maxL := 2) (ret := (some .boolean)) (by decide) rfl ?_
  intro p e s m args below meth c s₁ B hml hv
  obtain ⟨rfl, hP, hK⟩ := hv
  have cx : zX RX12 cX12_readNew 2 p s m ([.ref (q 0), .int v1]).toArray c D cy := ⟨B.exec, B.bytes, hml, findClass_of_methodNamed B.named, fun w hw => atoms_spec (ws := Cond.code yX12_readNew cX12_readNew 2 (some .boolean) :: zTB) B.pre w (List.mem_cons_of_mem _ hw), hK⟩
  have hx := cx.1
  have hb := cx.2.1
  have hr := B.returns
  have hlk := B.notSynchronized
  have hS : va_S A s.heap s.heap [] := va_S.rf
  have hl := lv_entry ([.ref (q 0), .int v1]) (n := 2) (Nat.le_of_ble_eq_true rfl)
  rw [lg_entry_eq]
  generalize (lg_sl ([.ref (q 0), .int v1]) ++ List.replicate (2 - (lg_sl ([.ref (q 0), .int v1])).length) Slot.unset).toArray = ls at hl ⊢
  have hl : lv_has ls 2 [(0, .ref (q 0)), (1, .int v1)] := hl
  unfold fX12_readNew at h
  refine lv_aload_n (pc := 0) hx hb dX12_readNew_0 rfl (lv_at hl 0 rfl) ?_
  obtain ⟨r2, k1, h⟩ := zBd_e h
  refine zr_VI (pc := 1) (rest := []) cx cv_X12_164 (mX12_isName k1) ⟨⟨rfl, rfl⟩, Nat.le_of_ble_eq_true rfl, Nat.le_of_ble_eq_true rfl⟩ ⟨Nat.le_of_ble_eq_true rfl, Nat.le_of_ble_eq_true rfl⟩ hP nM_0 sM_0 rfl hl.1 rfl rfl (Nat.le_of_ble_eq_true rfl) dX12_readNew_1 ?_
  refine lv_if_ne (pc := 4) (tgt := 13) hx hb dX12_readNew_4 (by decide) (fun c3 => ?_) (fun c3 => ?_)
  · replace h := zBr_f c3 h
    refine lv_aload_n (pc := 13) hx hb dX12_readNew_13 rfl (lv_at hl 0 rfl) ?_
    obtain ⟨r5, k4, h⟩ := zBd_e h
    refine zr_VI (pc := 14) (rest := []) cx cv_X12_168 (mX12_isTaken k4) ⟨⟨rfl, rfl⟩, Nat.le_of_ble_eq_true rfl, Nat.le_of_ble_eq_true rfl⟩ ⟨Nat.le_of_ble_eq_true rfl, Nat.le_of_ble_eq_true rfl⟩ hP nM_0 sM_0 rfl hl.1 rfl rfl (Nat.le_of_ble_eq_true rfl) dX12_readNew_14 ?_
    refine lv_if_eq (pc := 17) (tgt := 26) hx hb dX12_readNew_17 (by decide) (fun c6 => ?_) (fun c6 => ?_)
    · replace h := zBr_t c6 h
      refine lv_aload_n (pc := 26) hx hb dX12_readNew_26 rfl (lv_at hl 0 rfl) ?_
      refine zr_getR (pc := 27) (t := 8) cx lk_X12_117 hP nM_0 sM_0 rfl dX12_readNew_27 ?_
      refine lv_iload_n (pc := 30) hx hb dX12_readNew_30 rfl (lv_at hl 1 rfl) ?_
      refine lv_aload_n (pc := 31) hx hb dX12_readNew_31 rfl (lv_at hl 0 rfl) ?_
      refine zr_getJ (pc := 32) cx lk_X12_43 hP nM_0 sM_0 rfl dX12_readNew_32 ?_
      obtain ⟨g7, h⟩ := zGd_e h
      obtain ⟨S8, eS8, h⟩ := zLt_e h
      refine zr_last (pc := 35) cx hq hP hS nM_8 sM_8 g7 dX12_readNew_35 (fun H locs hP hS => ?_)
      rw [← eS8] at hP
      refine lv_aload_n (pc := 36) hx hb dX12_readNew_36 rfl (lv_at hl 0 rfl) ?_
      obtain ⟨S10, k9, h⟩ := zBd_e h
      refine zr_VV (pc := 37) (rest := []) cx cv_X12_82 (mX12_go hq k9) ⟨⟨rfl, rfl⟩, Nat.le_of_ble_eq_true rfl, Nat.le_of_ble_eq_true rfl⟩ ⟨Nat.le_of_ble_eq_true rfl, Nat.le_of_ble_eq_true rfl⟩ hP hS nM_0 sM_0 rfl hl.1 rfl rfl (Nat.le_of_ble_eq_true rfl) dX12_readNew_37 (fun H locs hP hS => ?_)
      refine lv_iconst (pc := 40) hx hb dX12_readNew_40 zc_1 ?_
      have hz := Option.some.inj h
      exact zr_rqZ (pc := 41) cx hr hlk hP hS hz (by decide) dX12_readNew_41
    · replace h := zBr_f c6 h
      refine lv_aload_n (pc := 20) hx hb dX12_readNew_20 rfl (lv_at hl 0 rfl) ?_
      refine lv_iconst (pc := 21) hx hb dX12_readNew_21 zc_3 ?_
      obtain ⟨r13, S12, k11, h⟩ := zBp_e h
      refine zr_VQ (pc := 22) (rest := []) cx cv_X12_72 (mX12_bad hq k11) ⟨⟨rfl, rfl⟩, Nat.le_of_ble_eq_true rfl, Nat.le_of_ble_eq_true rfl⟩ ⟨Nat.le_of_ble_eq_true rfl, Nat.le_of_ble_eq_true rfl⟩ hP hS nM_0 sM_0 rfl hl.1 rfl rfl (Nat.le_of_ble_eq_true rfl) dX12_readNew_22 (fun H locs hP hS => ?_)
      obtain ⟨g14, h⟩ := zGd_e h
      have hz := Option.some.inj h
      exact zr_rqZ (pc := 25) cx hr hlk hP hS hz g14 dX12_readNew_25
  · replace h := zBr_t c3 h
    refine lv_aload_n (pc := 7) hx hb dX12_readNew_7 rfl (lv_at hl 0 rfl) ?_
    refine lv_iconst (pc := 8) hx hb dX12_readNew_8 zc_1 ?_
    obtain ⟨r17, S16, k15, h⟩ := zBp_e h
    refine zr_VQ (pc := 9) (rest := []) cx cv_X12_72 (mX12_bad hq k15) ⟨⟨rfl, rfl⟩, Nat.le_of_ble_eq_true rfl, Nat.le_of_ble_eq_true rfl⟩ ⟨Nat.le_of_ble_eq_true rfl, Nat.le_of_ble_eq_true rfl⟩ hP hS nM_0 sM_0 rfl hl.1 rfl rfl (Nat.le_of_ble_eq_true rfl) dX12_readNew_9 (fun H locs hP hS => ?_)
    obtain ⟨g18, h⟩ := zGd_e h
    have hz := Option.some.inj h
    exact zr_rqZ (pc := 12) cx hr hlk hP hS hz g18 dX12_readNew_12
-- X12_readPlain
abbrev rmX12_readPlain : Room := { frames := 4, cells := 0, slots := 0, locals := 90 }
def fX12_readPlain (S : zSt) (v1 : Int32) (v2 : Int32) (v3 : Int32) : Option (Int32 × zSt) :=
  zBp (fX12_readFirst S v1 v2) (fun r3 S2 => zBr (r3 = 0) (some ((0 : Int32), S2)) (zGd (zIx v1 24) (zBp (fX12_readNew S2 (v3 + (S2.1 3 v1.toNatClampNeg))) (fun r8 S7 => zBr (r8 = 0) (some ((0 : Int32), S7)) (zGd (zIx v1 24) (zGd (zIx v1 24) (zLt (zI S7 3 v1.toNatClampNeg ((S7.1 3 v1.toNatClampNeg) + (1 : Int32))) (fun S12 => some ((1 : Int32), S12)))))))))
set_option maxHeartbeats 4000000 in
set_option maxRecDepth 100000 in
theorem mX12_readPlain {l : Launch} {D : va_G} {cy : Nat → ClassId} {q : Nat → Nat} {A : Nat → Prop} {S : zSt} {v1 : Int32} {v2 : Int32} {v3 : Int32} (hq : zQ A q zNM) {z : (Int32 × zSt)} (h : fX12_readPlain S v1 v2 v3 = some z) : zMq l yX12_readPlain cX12_readPlain 4 (some .boolean) rmX12_readPlain [.ref (q 0), .int v1, .int v2, .int v3] zshM zNM D cy q A S z := by
  refine Met.ofW (cc := cX12_readPlain) (maxL := 4) (ret := (some .boolean)) (by decide) rfl ?_
  intro p e s m args below meth c s₁ B hml hv
  obtain ⟨rfl, hP, hK⟩ := hv
  have cx : zX RX12 cX12_readPlain 4 p s m ([.ref (q 0), .int v1, .int v2, .int v3]).toArray c D cy := ⟨B.exec, B.bytes, hml, findClass_of_methodNamed B.named, fun w hw => atoms_spec (ws := Cond.code yX12_readPlain cX12_readPlain 4 (some .boolean) :: zTB) B.pre w (List.mem_cons_of_mem _ hw), hK⟩
  have hx := cx.1
  have hb := cx.2.1
  have hr := B.returns
  have hlk := B.notSynchronized
  have hS : va_S A s.heap s.heap [] := va_S.rf
  have hl := lv_entry ([.ref (q 0), .int v1, .int v2, .int v3]) (n := 4) (Nat.le_of_ble_eq_true rfl)
  rw [lg_entry_eq]
  generalize (lg_sl ([.ref (q 0), .int v1, .int v2, .int v3]) ++ List.replicate (4 - (lg_sl ([.ref (q 0), .int v1, .int v2, .int v3])).length) Slot.unset).toArray = ls at hl ⊢
  have hl : lv_has ls 4 [(0, .ref (q 0)), (1, .int v1), (2, .int v2), (3, .int v3)] := hl
  unfold fX12_readPlain at h
  refine lv_aload_n (pc := 0) hx hb dX12_readPlain_0 rfl (lv_at hl 0 rfl) ?_
  refine lv_iload_n (pc := 1) hx hb dX12_readPlain_1 rfl (lv_at hl 1 rfl) ?_
  refine lv_iload_n (pc := 2) hx hb dX12_readPlain_2 rfl (lv_at hl 2 rfl) ?_
  obtain ⟨r3, S2, k1, h⟩ := zBp_e h
  refine zr_VQ (pc := 3) (rest := []) cx cv_X12_171 (mX12_readFirst hq k1) ⟨⟨rfl, rfl⟩, Nat.le_of_ble_eq_true rfl, Nat.le_of_ble_eq_true rfl⟩ ⟨Nat.le_of_ble_eq_true rfl, Nat.le_of_ble_eq_true rfl⟩ hP hS nM_0 sM_0 rfl hl.1 rfl rfl (Nat.le_of_ble_eq_true rfl) dX12_readPlain_3 (fun H locs hP hS => ?_)
  refine lv_if_eq (pc := 6) (tgt := 24) hx hb dX12_readPlain_6 (by decide) (fun c4 => ?_) (fun c4 => ?_)
  · replace h := zBr_t c4 h
    refine lv_iconst (pc := 24) hx hb dX12_readPlain_24 zc_0 ?_
    have hz := Option.some.inj h
    exact zr_rqZ (pc := 25) cx hr hlk hP hS hz (by decide) dX12_readPlain_25
  · replace h := zBr_f c4 h
    refine lv_aload_n (pc := 9) hx hb dX12_readPlain_9 rfl (lv_at hl 0 rfl) ?_
    refine lv_iload_n (pc := 10) hx hb dX12_readPlain_10 rfl (lv_at hl 3 rfl) ?_
    refine lv_aload_n (pc := 11) hx hb dX12_readPlain_11 rfl (lv_at hl 0 rfl) ?_
    refine zr_getR (pc := 12) (t := 3) cx lk_X12_101 hP nM_0 sM_0 rfl dX12_readPlain_12 ?_
    refine lv_iload_n (pc := 15) hx hb dX12_readPlain_15 rfl (lv_at hl 1 rfl) ?_
    obtain ⟨g5, h⟩ := zGd_e h
    refine zr_iald (pc := 16) cx hP nM_3 sM_3 g5 dX12_readPlain_16 ?_
    refine lv_iadd (pc := 17) hx hb dX12_readPlain_17 ?_
    obtain ⟨r8, S7, k6, h⟩ := zBp_e h
    refine zr_VQ (pc := 18) (rest := []) cx cv_X12_175 (mX12_readNew hq k6) ⟨⟨rfl, rfl⟩, Nat.le_of_ble_eq_true rfl, Nat.le_of_ble_eq_true rfl⟩ ⟨Nat.le_of_ble_eq_true rfl, Nat.le_of_ble_eq_true rfl⟩ hP hS nM_0 sM_0 rfl hl.1 rfl rfl (Nat.le_of_ble_eq_true rfl) dX12_readPlain_18 (fun H locs hP hS => ?_)
    refine lv_if_ne (pc := 21) (tgt := 26) hx hb dX12_readPlain_21 (by decide) (fun c9 => ?_) (fun c9 => ?_)
    · replace h := zBr_f c9 h
      refine lv_aload_n (pc := 26) hx hb dX12_readPlain_26 rfl (lv_at hl 0 rfl) ?_
      refine zr_getR (pc := 27) (t := 3) cx lk_X12_101 hP nM_0 sM_0 rfl dX12_readPlain_27 ?_
      refine lv_iload_n (pc := 30) hx hb dX12_readPlain_30 rfl (lv_at hl 1 rfl) ?_
      refine lv_dup2_11 (pc := 31) hx hb dX12_readPlain_31 rfl rfl ?_
      obtain ⟨g10, h⟩ := zGd_e h
      refine zr_iald (pc := 32) cx hP nM_3 sM_3 g10 dX12_readPlain_32 ?_
      refine lv_iconst (pc := 33) hx hb dX12_readPlain_33 zc_1 ?_
      refine lv_iadd (pc := 34) hx hb dX12_readPlain_34 ?_
      obtain ⟨g11, h⟩ := zGd_e h
      obtain ⟨S12, eS12, h⟩ := zLt_e h
      refine zr_iast (pc := 35) cx hq hP hS nM_3 sM_3 g11 dX12_readPlain_35 (fun H locs hP hS => ?_)
      rw [← eS12] at hP
      refine lv_iconst (pc := 36) hx hb dX12_readPlain_36 zc_1 ?_
      have hz := Option.some.inj h
      exact zr_rqZ (pc := 37) cx hr hlk hP hS hz (by decide) dX12_readPlain_37
    · replace h := zBr_t c9 h
      refine lv_iconst (pc := 24) hx hb dX12_readPlain_24 zc_0 ?_
      have hz := Option.some.inj h
      exact zr_rqZ (pc := 25) cx hr hlk hP hS hz (by decide) dX12_readPlain_25
-- X12_isParlourHere
abbrev rmX12_isParlourHere : Room := { frames := 3, cells := 0, slots := 0, locals := 69 }
def fX12_isParlourHere (S : zSt) : Option (Int32 × zSt) :=
  zBd (fX12_isName S) (fun r2 => zBr (r2 = 0) (zBp (fX12_bad S (1 : Int32)) (fun r15 S14 => zGd (zBo r15) (some (r15, S14)))) (zGd (zIx (0 : Int32) 24) (zBd (fX12_findIn S 8 (0 : Int32) (S.1 3 (0 : Int32).toNatClampNeg) (S.2 0 12)) (fun r6 => zLt (zI S 0 13 r6) (fun S7 => zBr ((S7.1 0 13) = (-1 : Int32)) (zBp (fX12_bad S7 (3 : Int32)) (fun r11 S10 => zBr (r11 = 0) (some ((0 : Int32), S10)) (some ((1 : Int32), S10)))) (some ((1 : Int32), S7)))))))
set_option maxHeartbeats 4000000 in
set_option maxRecDepth 100000 in
theorem mX12_isParlourHere {l : Launch} {D : va_G} {cy : Nat → ClassId} {q : Nat → Nat} {A : Nat → Prop} {S : zSt} (hq : zQ A q zNM) {z : (Int32 × zSt)} (h : fX12_isParlourHere S = some z) : zMq l yX12_isParlourHere cX12_isParlourHere 1 (some .boolean) rmX12_isParlourHere [.ref (q 0)] zshM zNM D cy q A S z := by
  refine Met.ofW (cc := cX12_isParlourHere) (maxL := 1) (ret := (some .boolean)) (by decide) rfl ?_
  intro p e s m args below meth c s₁ B hml hv
  obtain ⟨rfl, hP, hK⟩ := hv
  have cx : zX RX12 cX12_isParlourHere 1 p s m ([.ref (q 0)]).toArray c D cy := ⟨B.exec, B.bytes, hml, findClass_of_methodNamed B.named, fun w hw => atoms_spec (ws := Cond.code yX12_isParlourHere cX12_isParlourHere 1 (some .boolean) :: zTB) B.pre w (List.mem_cons_of_mem _ hw), hK⟩
  have hx := cx.1
  have hb := cx.2.1
  have hr := B.returns
  have hlk := B.notSynchronized
  have hS : va_S A s.heap s.heap [] := va_S.rf
  have hl := lv_entry ([.ref (q 0)]) (n := 1) (Nat.le_of_ble_eq_true rfl)
  rw [lg_entry_eq]
  generalize (lg_sl ([.ref (q 0)]) ++ List.replicate (1 - (lg_sl ([.ref (q 0)])).length) Slot.unset).toArray = ls at hl ⊢
  have hl : lv_has ls 1 [(0, .ref (q 0))] := hl
  unfold fX12_isParlourHere at h
  refine lv_aload_n (pc := 0) hx hb dX12_isParlourHere_0 rfl (lv_at hl 0 rfl) ?_
  obtain ⟨r2, k1, h⟩ := zBd_e h
  refine zr_VI (pc := 1) (rest := []) cx cv_X12_164 (mX12_isName k1) ⟨⟨rfl, rfl⟩, Nat.le_of_ble_eq_true rfl, Nat.le_of_ble_eq_true rfl⟩ ⟨Nat.le_of_ble_eq_true rfl, Nat.le_of_ble_eq_true rfl⟩ hP nM_0 sM_0 rfl hl.1 rfl rfl (Nat.le_of_ble_eq_true rfl) dX12_isParlourHere_1 ?_
  refine lv_if_ne (pc := 4) (tgt := 13) hx hb dX12_isParlourHere_4 (by decide) (fun c3 => ?_) (fun c3 => ?_)
  · replace h := zBr_f c3 h
    refine lv_aload_n (pc := 13) hx hb dX12_isParlourHere_13 rfl (lv_at hl 0 rfl) ?_
    refine lv_aload_n (pc := 14) hx hb dX12_isParlourHere_14 rfl (lv_at hl 0 rfl) ?_
    refine zr_getR (pc := 15) (t := 8) cx lk_X12_117 hP nM_0 sM_0 rfl dX12_isParlourHere_15 ?_
    refine lv_iconst (pc := 18) hx hb dX12_isParlourHere_18 zc_0 ?_
    refine lv_aload_n (pc := 19) hx hb dX12_isParlourHere_19 rfl (lv_at hl 0 rfl) ?_
    refine zr_getR (pc := 20) (t := 3) cx lk_X12_101 hP nM_0 sM_0 rfl dX12_isParlourHere_20 ?_
    refine lv_iconst (pc := 23) hx hb dX12_isParlourHere_23 zc_0 ?_
    obtain ⟨g4, h⟩ := zGd_e h
    refine zr_iald (pc := 24) cx hP nM_3 sM_3 g4 dX12_isParlourHere_24 ?_
    refine lv_aload_n (pc := 25) hx hb dX12_isParlourHere_25 rfl (lv_at hl 0 rfl) ?_
    refine zr_getJ (pc := 26) cx lk_X12_43 hP nM_0 sM_0 rfl dX12_isParlourHere_26 ?_
    obtain ⟨r6, k5, h⟩ := zBd_e h
    refine zr_SI (pc := 29) (rest := [.ref (q 0)]) cx cv_X12_160 (mX12_findIn ⟨sM_8, nM_8⟩ k5) ⟨⟨rfl, rfl⟩, Nat.le_of_ble_eq_true rfl, Nat.le_of_ble_eq_true rfl⟩ ⟨Nat.le_of_ble_eq_true rfl, Nat.le_of_ble_eq_true rfl⟩ (zr_preW cx hP) hl.1 rfl rfl (Nat.le_of_ble_eq_true rfl) dX12_isParlourHere_29 ?_
    obtain ⟨S7, eS7, h⟩ := zLt_e h
    refine zr_putI (pc := 32) cx lq_X12_79 hq hP hS nM_0 sM_0 rfl rfl rfl dX12_isParlourHere_32 (fun H locs hP hS => ?_)
    rw [← eS7] at hP
    refine lv_aload_n (pc := 35) hx hb dX12_isParlourHere_35 rfl (lv_at hl 0 rfl) ?_
    refine zr_getI (pc := 36) cx lk_X12_79 hP nM_0 sM_0 rfl dX12_isParlourHere_36 ?_
    refine lv_iconst (pc := 39) hx hb dX12_isParlourHere_39 zc_m1 ?_
    refine lv_icmp_ne (pc := 40) (tgt := 51) hx hb dX12_isParlourHere_40 (by decide) (fun c8 => ?_) (fun c8 => ?_)
    · replace h := zBr_f c8 h
      refine lv_iconst (pc := 51) hx hb dX12_isParlourHere_51 zc_1 ?_
      refine lv_goto (pc := 52) (tgt := 56) hx hb dX12_isParlourHere_52 (by decide) ?_
      have hz := Option.some.inj h
      exact zr_rqZ (pc := 56) cx hr hlk hP hS hz (by decide) dX12_isParlourHere_56
    · replace h := zBr_t c8 h
      refine lv_aload_n (pc := 43) hx hb dX12_isParlourHere_43 rfl (lv_at hl 0 rfl) ?_
      refine lv_iconst (pc := 44) hx hb dX12_isParlourHere_44 zc_3 ?_
      obtain ⟨r11, S10, k9, h⟩ := zBp_e h
      refine zr_VQ (pc := 45) (rest := []) cx cv_X12_72 (mX12_bad hq k9) ⟨⟨rfl, rfl⟩, Nat.le_of_ble_eq_true rfl, Nat.le_of_ble_eq_true rfl⟩ ⟨Nat.le_of_ble_eq_true rfl, Nat.le_of_ble_eq_true rfl⟩ hP hS nM_0 sM_0 rfl hl.1 rfl rfl (Nat.le_of_ble_eq_true rfl) dX12_isParlourHere_45 (fun H locs hP hS => ?_)
      refine lv_if_eq (pc := 48) (tgt := 55) hx hb dX12_isParlourHere_48 (by decide) (fun c12 => ?_) (fun c12 => ?_)
      · replace h := zBr_t c12 h
        refine lv_iconst (pc := 55) hx hb dX12_isParlourHere_55 zc_0 ?_
        have hz := Option.some.inj h
        exact zr_rqZ (pc := 56) cx hr hlk hP hS hz (by decide) dX12_isParlourHere_56
      · replace h := zBr_f c12 h
        refine lv_iconst (pc := 51) hx hb dX12_isParlourHere_51 zc_1 ?_
        refine lv_goto (pc := 52) (tgt := 56) hx hb dX12_isParlourHere_52 (by decide) ?_
        have hz := Option.some.inj h
        exact zr_rqZ (pc := 56) cx hr hlk hP hS hz (by decide) dX12_isParlourHere_56
  · replace h := zBr_t c3 h
    refine lv_aload_n (pc := 7) hx hb dX12_isParlourHere_7 rfl (lv_at hl 0 rfl) ?_
    refine lv_iconst (pc := 8) hx hb dX12_isParlourHere_8 zc_1 ?_
    obtain ⟨r15, S14, k13, h⟩ := zBp_e h
    refine zr_VQ (pc := 9) (rest := []) cx cv_X12_72 (mX12_bad hq k13) ⟨⟨rfl, rfl⟩, Nat.le_of_ble_eq_true rfl, Nat.le_of_ble_eq_true rfl⟩ ⟨Nat.le_of_ble_eq_true rfl, Nat.le_of_ble_eq_true rfl⟩ hP hS nM_0 sM_0 rfl hl.1 rfl rfl (Nat.le_of_ble_eq_true rfl) dX12_isParlourHere_9 (fun H locs hP hS => ?_)
    obtain ⟨g16, h⟩ := zGd_e h
    have hz := Option.some.inj h
    exact zr_rqZ (pc := 12) cx hr hlk hP hS hz g16 dX12_isParlourHere_12
-- X12_readPlant
abbrev rmX12_readPlant : Room := { frames := 4, cells := 0, slots := 0, locals := 90 }
def fX12_readPlant_96 (S : zSt)  : Option (Int32 × zSt) :=
  zGd (zIx (1 : Int32) 24) (zGd (zIx (1 : Int32) 24) (zLt (zI S 3 (1 : Int32).toNatClampNeg ((S.1 3 (1 : Int32).toNatClampNeg) + (1 : Int32))) (fun S32 => some ((1 : Int32), S32))))
set_option maxHeartbeats 4000000 in
set_option maxRecDepth 100000 in
theorem kX12_readPlant_96 {p : Program} {l : Launch} {e : Env} {s : State} {m : MethodId} {args : Array Value} {below : List Frame} {meth : Method} {c : Code} {D : va_G} {cy : Nat → ClassId} {q : Nat → Nat} {A : Nat → Prop} (cx : zX RX12 cX12_readPlant 2 p s m args c D cy) (hr : meth.sig.returnType = (some .boolean)) (hlk : meth.locks = false) (hq : zQ A q zNM) {z : (Int32 × zSt)} {S : zSt} (h : fX12_readPlant_96 S = some z) {H : Heap} {locs : List Loc} (hP : va_P D vwCl (zW zshM zNM cy q S) H) (hS : va_S A s.heap H locs) {ls : Array Slot} (hl : lv_has ls 2 [(0, .ref (q 0))]) : W p l e rmX12_readPlant s m args below meth c H locs 0 0 (MQ below (va_Qi (fun (r : Int32) (u : zSt) => (r, u) = z) (fun u t => va_P D vwCl (zW zshM zNM cy q u) t.heap) A) args s 0 0 A) (F0 m 96 ls []) := by
  have hx := cx.1
  have hb := cx.2.1
  unfold fX12_readPlant_96 at h
  refine lv_aload_n (pc := 96) hx hb dX12_readPlant_96 rfl (lv_at hl 0 rfl) ?_
  refine zr_getR (pc := 97) (t := 3) cx lk_X12_101 hP nM_0 sM_0 rfl dX12_readPlant_97 ?_
  refine lv_iconst (pc := 100) hx hb dX12_readPlant_100 zc_1 ?_
  refine lv_dup2_11 (pc := 101) hx hb dX12_readPlant_101 rfl rfl ?_
  obtain ⟨g30, h⟩ := zGd_e h
  refine zr_iald (pc := 102) cx hP nM_3 sM_3 g30 dX12_readPlant_102 ?_
  refine lv_iconst (pc := 103) hx hb dX12_readPlant_103 zc_1 ?_
  refine lv_iadd (pc := 104) hx hb dX12_readPlant_104 ?_
  obtain ⟨g31, h⟩ := zGd_e h
  obtain ⟨S32, eS32, h⟩ := zLt_e h
  refine zr_iast (pc := 105) cx hq hP hS nM_3 sM_3 g31 dX12_readPlant_105 (fun H locs hP hS => ?_)
  rw [← eS32] at hP
  refine lv_iconst (pc := 106) hx hb dX12_readPlant_106 zc_1 ?_
  have hz := Option.some.inj h
  exact zr_rqZ (pc := 107) cx hr hlk hP hS hz (by decide) dX12_readPlant_107
def fX12_readPlant (S : zSt) : Option (Int32 × zSt) :=
  zBp (fX12_readFirst S (1 : Int32) (6 : Int32)) (fun r3 S2 => zBr (r3 = 0) (some ((0 : Int32), S2)) (zGd (zIx (1 : Int32) 24) (zLt (S2.1 3 (1 : Int32).toNatClampNeg) (fun x6 => zBp (fX12_readNew S2 ((5 : Int32) + x6)) (fun r9 S8 => zBr (r9 = 0) (some ((0 : Int32), S8)) (zBp (fX12_isParlourHere S8) (fun r13 S12 => zBp (fX12_put S12 ((11 : Int32) + x6) r13) (fun r16 S15 => zBr (r16 = 0) (some ((0 : Int32), S15)) (zBd (fX12_go S15) (fun S19 => zBp (fX12_readNumber S19 (1 : Int32) (9 : Int32)) (fun r22 S21 => zBp (fX12_put S21 ((17 : Int32) + x6) r22) (fun r25 S24 => zBr (r25 = 0) (some ((0 : Int32), S24)) (zBd (fX12_isWord S24 (15 : Int32)) (fun r28 => zBr (r28 = 0) (fX12_readPlant_96 S24) (zGd (zIx (23 : Int32) 24) (zGd (zIx (23 : Int32) 24) (zLt (zI S24 3 (23 : Int32).toNatClampNeg ((S24.1 3 (23 : Int32).toNatClampNeg) ||| ((1 : Int32) <<< (x6 &&& 31)))) (fun S35 => zBd (fX12_go S35) (fun S37 => fX12_readPlant_96 S37)))))))))))))))))))
set_option maxHeartbeats 4000000 in
set_option maxRecDepth 100000 in
theorem mX12_readPlant {l : Launch} {D : va_G} {cy : Nat → ClassId} {q : Nat → Nat} {A : Nat → Prop} {S : zSt} (hq : zQ A q zNM) {z : (Int32 × zSt)} (h : fX12_readPlant S = some z) : zMq l yX12_readPlant cX12_readPlant 2 (some .boolean) rmX12_readPlant [.ref (q 0)] zshM zNM D cy q A S z := by
  refine Met.ofW (cc := cX12_readPlant) (maxL := 2) (ret := (some .boolean)) (by decide) rfl ?_
  intro p e s m args below meth c s₁ B hml hv
  obtain ⟨rfl, hP, hK⟩ := hv
  have cx : zX RX12 cX12_readPlant 2 p s m ([.ref (q 0)]).toArray c D cy := ⟨B.exec, B.bytes, hml, findClass_of_methodNamed B.named, fun w hw => atoms_spec (ws := Cond.code yX12_readPlant cX12_readPlant 2 (some .boolean) :: zTB) B.pre w (List.mem_cons_of_mem _ hw), hK⟩
  have hx := cx.1
  have hb := cx.2.1
  have hr := B.returns
  have hlk := B.notSynchronized
  have hS : va_S A s.heap s.heap [] := va_S.rf
  have hl := lv_entry ([.ref (q 0)]) (n := 2) (Nat.le_of_ble_eq_true rfl)
  rw [lg_entry_eq]
  generalize (lg_sl ([.ref (q 0)]) ++ List.replicate (2 - (lg_sl ([.ref (q 0)])).length) Slot.unset).toArray = ls at hl ⊢
  have hl : lv_has ls 2 [(0, .ref (q 0))] := hl
  unfold fX12_readPlant at h
  refine lv_aload_n (pc := 0) hx hb dX12_readPlant_0 rfl (lv_at hl 0 rfl) ?_
  refine lv_iconst (pc := 1) hx hb dX12_readPlant_1 zc_1 ?_
  refine lv_bipush (pc := 2) hx hb dX12_readPlant_2 zb_6 ?_
  obtain ⟨r3, S2, k1, h⟩ := zBp_e h
  refine zr_VQ (pc := 4) (rest := []) cx cv_X12_171 (mX12_readFirst hq k1) ⟨⟨rfl, rfl⟩, Nat.le_of_ble_eq_true rfl, Nat.le_of_ble_eq_true rfl⟩ ⟨Nat.le_of_ble_eq_true rfl, Nat.le_of_ble_eq_true rfl⟩ hP hS nM_0 sM_0 rfl hl.1 rfl rfl (Nat.le_of_ble_eq_true rfl) dX12_readPlant_4 (fun H locs hP hS => ?_)
  refine lv_if_ne (pc := 7) (tgt := 12) hx hb dX12_readPlant_7 (by decide) (fun c4 => ?_) (fun c4 => ?_)
  · replace h := zBr_f c4 h
    refine lv_aload_n (pc := 12) hx hb dX12_readPlant_12 rfl (lv_at hl 0 rfl) ?_
    refine zr_getR (pc := 13) (t := 3) cx lk_X12_101 hP nM_0 sM_0 rfl dX12_readPlant_13 ?_
    refine lv_iconst (pc := 16) hx hb dX12_readPlant_16 zc_1 ?_
    obtain ⟨g5, h⟩ := zGd_e h
    refine zr_iald (pc := 17) cx hP nM_3 sM_3 g5 dX12_readPlant_17 ?_
    obtain ⟨x6, ex6, h⟩ := zLt_e h
    refine zr_nmI ex6 ?_
    refine lv_istore_n (lv' := [(1, .int x6), (0, .ref (q 0))]) (pc := 18) hx hb dX12_readPlant_18 rfl hl (by decide) rfl (fun ls hl => ?_)
    refine lv_aload_n (pc := 19) hx hb dX12_readPlant_19 rfl (lv_at hl 1 rfl) ?_
    refine lv_iconst (pc := 20) hx hb dX12_readPlant_20 zc_5 ?_
    refine lv_iload_n (pc := 21) hx hb dX12_readPlant_21 rfl (lv_at hl 0 rfl) ?_
    refine lv_iadd (pc := 22) hx hb dX12_readPlant_22 ?_
    obtain ⟨r9, S8, k7, h⟩ := zBp_e h
    refine zr_VQ (pc := 23) (rest := []) cx cv_X12_175 (mX12_readNew hq k7) ⟨⟨rfl, rfl⟩, Nat.le_of_ble_eq_true rfl, Nat.le_of_ble_eq_true rfl⟩ ⟨Nat.le_of_ble_eq_true rfl, Nat.le_of_ble_eq_true rfl⟩ hP hS nM_0 sM_0 rfl hl.1 rfl rfl (Nat.le_of_ble_eq_true rfl) dX12_readPlant_23 (fun H locs hP hS => ?_)
    refine lv_if_eq (pc := 26) (tgt := 44) hx hb dX12_readPlant_26 (by decide) (fun c10 => ?_) (fun c10 => ?_)
    · replace h := zBr_t c10 h
      refine lv_iconst (pc := 44) hx hb dX12_readPlant_44 zc_0 ?_
      have hz := Option.some.inj h
      exact zr_rqZ (pc := 45) cx hr hlk hP hS hz (by decide) dX12_readPlant_45
    · replace h := zBr_f c10 h
      refine lv_aload_n (pc := 29) hx hb dX12_readPlant_29 rfl (lv_at hl 1 rfl) ?_
      refine lv_bipush (pc := 30) hx hb dX12_readPlant_30 zb_11 ?_
      refine lv_iload_n (pc := 32) hx hb dX12_readPlant_32 rfl (lv_at hl 0 rfl) ?_
      refine lv_iadd (pc := 33) hx hb dX12_readPlant_33 ?_
      refine lv_aload_n (pc := 34) hx hb dX12_readPlant_34 rfl (lv_at hl 1 rfl) ?_
      obtain ⟨r13, S12, k11, h⟩ := zBp_e h
      refine zr_VQ (pc := 35) (rest := [.int ((11 : Int32) + x6), .ref (q 0)]) cx cv_X12_178 (mX12_isParlourHere hq k11) ⟨⟨rfl, rfl⟩, Nat.le_of_ble_eq_true rfl, Nat.le_of_ble_eq_true rfl⟩ ⟨Nat.le_of_ble_eq_true rfl, Nat.le_of_ble_eq_true rfl⟩ hP hS nM_0 sM_0 rfl hl.1 rfl rfl (Nat.le_of_ble_eq_true rfl) dX12_readPlant_35 (fun H locs hP hS => ?_)
      obtain ⟨r16, S15, k14, h⟩ := zBp_e h
      refine zr_VQ (pc := 38) (rest := []) cx cv_X12_184 (mX12_put hq k14) ⟨⟨rfl, rfl⟩, Nat.le_of_ble_eq_true rfl, Nat.le_of_ble_eq_true rfl⟩ ⟨Nat.le_of_ble_eq_true rfl, Nat.le_of_ble_eq_true rfl⟩ hP hS nM_0 sM_0 rfl hl.1 rfl rfl (Nat.le_of_ble_eq_true rfl) dX12_readPlant_38 (fun H locs hP hS => ?_)
      refine lv_if_ne (pc := 41) (tgt := 46) hx hb dX12_readPlant_41 (by decide) (fun c17 => ?_) (fun c17 => ?_)
      · replace h := zBr_f c17 h
        refine lv_aload_n (pc := 46) hx hb dX12_readPlant_46 rfl (lv_at hl 1 rfl) ?_
        obtain ⟨S19, k18, h⟩ := zBd_e h
        refine zr_VV (pc := 47) (rest := []) cx cv_X12_82 (mX12_go hq k18) ⟨⟨rfl, rfl⟩, Nat.le_of_ble_eq_true rfl, Nat.le_of_ble_eq_true rfl⟩ ⟨Nat.le_of_ble_eq_true rfl, Nat.le_of_ble_eq_true rfl⟩ hP hS nM_0 sM_0 rfl hl.1 rfl rfl (Nat.le_of_ble_eq_true rfl) dX12_readPlant_47 (fun H locs hP hS => ?_)
        refine lv_aload_n (pc := 50) hx hb dX12_readPlant_50 rfl (lv_at hl 1 rfl) ?_
        refine lv_bipush (pc := 51) hx hb dX12_readPlant_51 zb_17 ?_
        refine lv_iload_n (pc := 53) hx hb dX12_readPlant_53 rfl (lv_at hl 0 rfl) ?_
        refine lv_iadd (pc := 54) hx hb dX12_readPlant_54 ?_
        refine lv_aload_n (pc := 55) hx hb dX12_readPlant_55 rfl (lv_at hl 1 rfl) ?_
        refine lv_iconst (pc := 56) hx hb dX12_readPlant_56 zc_1 ?_
        refine lv_bipush (pc := 57) hx hb dX12_readPlant_57 zb_9 ?_
        obtain ⟨r22, S21, k20, h⟩ := zBp_e h
        refine zr_VQ (pc := 59) (rest := [.int ((17 : Int32) + x6), .ref (q 0)]) cx cv_X12_188 (mX12_readNumber hq k20) ⟨⟨rfl, rfl⟩, Nat.le_of_ble_eq_true rfl, Nat.le_of_ble_eq_true rfl⟩ ⟨Nat.le_of_ble_eq_true rfl, Nat.le_of_ble_eq_true rfl⟩ hP hS nM_0 sM_0 rfl hl.1 rfl rfl (Nat.le_of_ble_eq_true rfl) dX12_readPlant_59 (fun H locs hP hS => ?_)
        obtain ⟨r25, S24, k23, h⟩ := zBp_e h
        refine zr_VQ (pc := 62) (rest := []) cx cv_X12_184 (mX12_put hq k23) ⟨⟨rfl, rfl⟩, Nat.le_of_ble_eq_true rfl, Nat.le_of_ble_eq_true rfl⟩ ⟨Nat.le_of_ble_eq_true rfl, Nat.le_of_ble_eq_true rfl⟩ hP hS nM_0 sM_0 rfl hl.1 rfl rfl (Nat.le_of_ble_eq_true rfl) dX12_readPlant_62 (fun H locs hP hS => ?_)
        refine lv_if_ne (pc := 65) (tgt := 70) hx hb dX12_readPlant_65 (by decide) (fun c26 => ?_) (fun c26 => ?_)
        · replace h := zBr_f c26 h
          refine lv_aload_n (pc := 70) hx hb dX12_readPlant_70 rfl (lv_at hl 1 rfl) ?_
          refine lv_bipush (pc := 71) hx hb dX12_readPlant_71 zb_15 ?_
          obtain ⟨r28, k27, h⟩ := zBd_e h
          refine zr_VI (pc := 73) (rest := []) cx cv_X12_191 (mX12_isWord k27) ⟨⟨rfl, rfl⟩, Nat.le_of_ble_eq_true rfl, Nat.le_of_ble_eq_true rfl⟩ ⟨Nat.le_of_ble_eq_true rfl, Nat.le_of_ble_eq_true rfl⟩ hP nM_0 sM_0 rfl hl.1 rfl rfl (Nat.le_of_ble_eq_true rfl) dX12_readPlant_73 ?_
          refine lv_if_eq (pc := 76) (tgt := 96) hx hb dX12_readPlant_76 (by decide) (fun c29 => ?_) (fun c29 => ?_)
          · replace h := zBr_t c29 h
            exact kX12_readPlant_96 cx hr hlk hq h hP hS (lv_sub hl [1] rfl)
          · replace h := zBr_f c29 h
            refine lv_aload_n (pc := 79) hx hb dX12_readPlant_79 rfl (lv_at hl 1 rfl) ?_
            refine zr_getR (pc := 80) (t := 3) cx lk_X12_101 hP nM_0 sM_0 rfl dX12_readPlant_80 ?_
            refine lv_bipush (pc := 83) hx hb dX12_readPlant_83 zb_23 ?_
            refine lv_dup2_11 (pc := 85) hx hb dX12_readPlant_85 rfl rfl ?_
            obtain ⟨g33, h⟩ := zGd_e h
            refine zr_iald (pc := 86) cx hP nM_3 sM_3 g33 dX12_readPlant_86 ?_
            refine lv_iconst (pc := 87) hx hb dX12_readPlant_87 zc_1 ?_
            refine lv_iload_n (pc := 88) hx hb dX12_readPlant_88 rfl (lv_at hl 0 rfl) ?_
            refine lv_ishl (pc := 89) hx hb dX12_readPlant_89 ?_
            refine lv_ior (pc := 90) hx hb dX12_readPlant_90 ?_
            obtain ⟨g34, h⟩ := zGd_e h
            obtain ⟨S35, eS35, h⟩ := zLt_e h
            refine zr_iast (pc := 91) cx hq hP hS nM_3 sM_3 g34 dX12_readPlant_91 (fun H locs hP hS => ?_)
            rw [← eS35] at hP
            refine lv_aload_n (pc := 92) hx hb dX12_readPlant_92 rfl (lv_at hl 1 rfl) ?_
            obtain ⟨S37, k36, h⟩ := zBd_e h
            refine zr_VV (pc := 93) (rest := []) cx cv_X12_82 (mX12_go hq k36) ⟨⟨rfl, rfl⟩, Nat.le_of_ble_eq_true rfl, Nat.le_of_ble_eq_true rfl⟩ ⟨Nat.le_of_ble_eq_true rfl, Nat.le_of_ble_eq_true rfl⟩ hP hS nM_0 sM_0 rfl hl.1 rfl rfl (Nat.le_of_ble_eq_true rfl) dX12_readPlant_93 (fun H locs hP hS => ?_)
            exact kX12_readPlant_96 cx hr hlk hq h hP hS (lv_sub hl [1] rfl)
        · replace h := zBr_t c26 h
          refine lv_iconst (pc := 68) hx hb dX12_readPlant_68 zc_0 ?_
          have hz := Option.some.inj h
          exact zr_rqZ (pc := 69) cx hr hlk hP hS hz (by decide) dX12_readPlant_69
      · replace h := zBr_t c17 h
        refine lv_iconst (pc := 44) hx hb dX12_readPlant_44 zc_0 ?_
        have hz := Option.some.inj h
        exact zr_rqZ (pc := 45) cx hr hlk hP hS hz (by decide) dX12_readPlant_45
  · replace h := zBr_t c4 h
    refine lv_iconst (pc := 10) hx hb dX12_readPlant_10 zc_0 ?_
    have hz := Option.some.inj h
    exact zr_rqZ (pc := 11) cx hr hlk hP hS hz (by decide) dX12_readPlant_11
-- X12_readSight
abbrev rmX12_readSight : Room := { frames := 4, cells := 0, slots := 0, locals := 89 }
def fX12_readSight_58 (S : zSt)  : Option (Int32 × zSt) :=
  zBp (fX12_bad S (3 : Int32)) (fun r17 S16 => zGd (zBo r17) (some (r17, S16)))
set_option maxHeartbeats 4000000 in
set_option maxRecDepth 100000 in
theorem kX12_readSight_58 {p : Program} {l : Launch} {e : Env} {s : State} {m : MethodId} {args : Array Value} {below : List Frame} {meth : Method} {c : Code} {D : va_G} {cy : Nat → ClassId} {q : Nat → Nat} {A : Nat → Prop} (cx : zX RX12 cX12_readSight 2 p s m args c D cy) (hr : meth.sig.returnType = (some .boolean)) (hlk : meth.locks = false) (hq : zQ A q zNM) {z : (Int32 × zSt)} {S : zSt} (h : fX12_readSight_58 S = some z) {H : Heap} {locs : List Loc} (hP : va_P D vwCl (zW zshM zNM cy q S) H) (hS : va_S A s.heap H locs) {ls : Array Slot} (hl : lv_has ls 2 [(0, .ref (q 0))]) : W p l e rmX12_readSight s m args below meth c H locs 0 0 (MQ below (va_Qi (fun (r : Int32) (u : zSt) => (r, u) = z) (fun u t => va_P D vwCl (zW zshM zNM cy q u) t.heap) A) args s 0 0 A) (F0 m 58 ls []) := by
  have hx := cx.1
  have hb := cx.2.1
  unfold fX12_readSight_58 at h
  refine lv_aload_n (pc := 58) hx hb dX12_readSight_58 rfl (lv_at hl 0 rfl) ?_
  refine lv_iconst (pc := 59) hx hb dX12_readSight_59 zc_3 ?_
  obtain ⟨r17, S16, k15, h⟩ := zBp_e h
  refine zr_VQ (pc := 60) (rest := []) cx cv_X12_72 (mX12_bad hq k15) ⟨⟨rfl, rfl⟩, Nat.le_of_ble_eq_true rfl, Nat.le_of_ble_eq_true rfl⟩ ⟨Nat.le_of_ble_eq_true rfl, Nat.le_of_ble_eq_true rfl⟩ hP hS nM_0 sM_0 rfl hl.1 rfl rfl (Nat.le_of_ble_eq_true rfl) dX12_readSight_60 (fun H locs hP hS => ?_)
  obtain ⟨g18, h⟩ := zGd_e h
  have hz := Option.some.inj h
  exact zr_rqZ (pc := 63) cx hr hlk hP hS hz g18 dX12_readSight_63
def fX12_readSight (S : zSt) : Option (Int32 × zSt) :=
  zBd (fX12_go S) (fun S2 => zBp (fX12_isParlourHere S2) (fun r5 S4 => zBr (r5 = 0) (some ((0 : Int32), S4)) (zLt (S4.1 0 13) (fun x7 => zBd (fX12_go S4) (fun S9 => zBp (fX12_isParlourHere S9) (fun r12 S11 => zBr (r12 = 0) (some ((0 : Int32), S11)) (zBr ((S11.1 0 13) = x7) (fX12_readSight_58 S11) (zGd (zIx ((6 : Int32) + x7) 24) (zBd (fX12_has (S11.1 3 ((6 : Int32) + x7).toNatClampNeg) (S11.1 0 13)) (fun r21 => zBr (r21 = 0) (zGd (zIx ((6 : Int32) + x7) 24) (zGd (zIx ((6 : Int32) + x7) 24) (zLt (zI S11 3 ((6 : Int32) + x7).toNatClampNeg ((S11.1 3 ((6 : Int32) + x7).toNatClampNeg) ||| ((1 : Int32) <<< ((S11.1 0 13) &&& 31)))) (fun S25 => zGd (zIx ((6 : Int32) + (S25.1 0 13)) 24) (zGd (zIx ((6 : Int32) + (S25.1 0 13)) 24) (zLt (zI S25 3 ((6 : Int32) + (S25.1 0 13)).toNatClampNeg ((S25.1 3 ((6 : Int32) + (S25.1 0 13)).toNatClampNeg) ||| ((1 : Int32) <<< (x7 &&& 31)))) (fun S28 => zBd (fX12_go S28) (fun S30 => some ((1 : Int32), S30))))))))) (fX12_readSight_58 S11)))))))))))
set_option maxHeartbeats 4000000 in
set_option maxRecDepth 100000 in
theorem mX12_readSight {l : Launch} {D : va_G} {cy : Nat → ClassId} {q : Nat → Nat} {A : Nat → Prop} {S : zSt} (hq : zQ A q zNM) {z : (Int32 × zSt)} (h : fX12_readSight S = some z) : zMq l yX12_readSight cX12_readSight 2 (some .boolean) rmX12_readSight [.ref (q 0)] zshM zNM D cy q A S z := by
  refine Met.ofW (cc := cX12_readSight) (maxL := 2) (ret := (some .boolean)) (by decide) rfl ?_
  intro p e s m args below meth c s₁ B hml hv
  obtain ⟨rfl, hP, hK⟩ := hv
  have cx : zX RX12 cX12_readSight 2 p s m ([.ref (q 0)]).toArray c D cy := ⟨B.exec, B.bytes, hml, findClass_of_methodNamed B.named, fun w hw => atoms_spec (ws := Cond.code yX12_readSight cX12_readSight 2 (some .boolean) :: zTB) B.pre w (List.mem_cons_of_mem _ hw), hK⟩
  have hx := cx.1
  have hb := cx.2.1
  have hr := B.returns
  have hlk := B.notSynchronized
  have hS : va_S A s.heap s.heap [] := va_S.rf
  have hl := lv_entry ([.ref (q 0)]) (n := 2) (Nat.le_of_ble_eq_true rfl)
  rw [lg_entry_eq]
  generalize (lg_sl ([.ref (q 0)]) ++ List.replicate (2 - (lg_sl ([.ref (q 0)])).length) Slot.unset).toArray = ls at hl ⊢
  have hl : lv_has ls 2 [(0, .ref (q 0))] := hl
  unfold fX12_readSight at h
  refine lv_aload_n (pc := 0) hx hb dX12_readSight_0 rfl (lv_at hl 0 rfl) ?_
  obtain ⟨S2, k1, h⟩ := zBd_e h
  refine zr_VV (pc := 1) (rest := []) cx cv_X12_82 (mX12_go hq k1) ⟨⟨rfl, rfl⟩, Nat.le_of_ble_eq_true rfl, Nat.le_of_ble_eq_true rfl⟩ ⟨Nat.le_of_ble_eq_true rfl, Nat.le_of_ble_eq_true rfl⟩ hP hS nM_0 sM_0 rfl hl.1 rfl rfl (Nat.le_of_ble_eq_true rfl) dX12_readSight_1 (fun H locs hP hS => ?_)
  refine lv_aload_n (pc := 4) hx hb dX12_readSight_4 rfl (lv_at hl 0 rfl) ?_
  obtain ⟨r5, S4, k3, h⟩ := zBp_e h
  refine zr_VQ (pc := 5) (rest := []) cx cv_X12_178 (mX12_isParlourHere hq k3) ⟨⟨rfl, rfl⟩, Nat.le_of_ble_eq_true rfl, Nat.le_of_ble_eq_true rfl⟩ ⟨Nat.le_of_ble_eq_true rfl, Nat.le_of_ble_eq_true rfl⟩ hP hS nM_0 sM_0 rfl hl.1 rfl rfl (Nat.le_of_ble_eq_true rfl) dX12_readSight_5 (fun H locs hP hS => ?_)
  refine lv_if_ne (pc := 8) (tgt := 13) hx hb dX12_readSight_8 (by decide) (fun c6 => ?_) (fun c6 => ?_)
  · replace h := zBr_f c6 h
    refine lv_aload_n (pc := 13) hx hb dX12_readSight_13 rfl (lv_at hl 0 rfl) ?_
    refine zr_getI (pc := 14) cx lk_X12_79 hP nM_0 sM_0 rfl dX12_readSight_14 ?_
    obtain ⟨x7, ex7, h⟩ := zLt_e h
    refine zr_nmI ex7 ?_
    refine lv_istore_n (lv' := [(1, .int x7), (0, .ref (q 0))]) (pc := 17) hx hb dX12_readSight_17 rfl hl (by decide) rfl (fun ls hl => ?_)
    refine lv_aload_n (pc := 18) hx hb dX12_readSight_18 rfl (lv_at hl 1 rfl) ?_
    obtain ⟨S9, k8, h⟩ := zBd_e h
    refine zr_VV (pc := 19) (rest := []) cx cv_X12_82 (mX12_go hq k8) ⟨⟨rfl, rfl⟩, Nat.le_of_ble_eq_true rfl, Nat.le_of_ble_eq_true rfl⟩ ⟨Nat.le_of_ble_eq_true rfl, Nat.le_of_ble_eq_true rfl⟩ hP hS nM_0 sM_0 rfl hl.1 rfl rfl (Nat.le_of_ble_eq_true rfl) dX12_readSight_19 (fun H locs hP hS => ?_)
    refine lv_aload_n (pc := 22) hx hb dX12_readSight_22 rfl (lv_at hl 1 rfl) ?_
    obtain ⟨r12, S11, k10, h⟩ := zBp_e h
    refine zr_VQ (pc := 23) (rest := []) cx cv_X12_178 (mX12_isParlourHere hq k10) ⟨⟨rfl, rfl⟩, Nat.le_of_ble_eq_true rfl, Nat.le_of_ble_eq_true rfl⟩ ⟨Nat.le_of_ble_eq_true rfl, Nat.le_of_ble_eq_true rfl⟩ hP hS nM_0 sM_0 rfl hl.1 rfl rfl (Nat.le_of_ble_eq_true rfl) dX12_readSight_23 (fun H locs hP hS => ?_)
    refine lv_if_ne (pc := 26) (tgt := 31) hx hb dX12_readSight_26 (by decide) (fun c13 => ?_) (fun c13 => ?_)
    · replace h := zBr_f c13 h
      refine lv_aload_n (pc := 31) hx hb dX12_readSight_31 rfl (lv_at hl 1 rfl) ?_
      refine zr_getI (pc := 32) cx lk_X12_79 hP nM_0 sM_0 rfl dX12_readSight_32 ?_
      refine lv_iload_n (pc := 35) hx hb dX12_readSight_35 rfl (lv_at hl 0 rfl) ?_
      refine lv_icmp_eq (pc := 36) (tgt := 58) hx hb dX12_readSight_36 (by decide) (fun c14 => ?_) (fun c14 => ?_)
      · replace h := zBr_t c14 h
        exact kX12_readSight_58 cx hr hlk hq h hP hS (lv_sub hl [1] rfl)
      · replace h := zBr_f c14 h
        refine lv_aload_n (pc := 39) hx hb dX12_readSight_39 rfl (lv_at hl 1 rfl) ?_
        refine zr_getR (pc := 40) (t := 3) cx lk_X12_101 hP nM_0 sM_0 rfl dX12_readSight_40 ?_
        refine lv_bipush (pc := 43) hx hb dX12_readSight_43 zb_6 ?_
        refine lv_iload_n (pc := 45) hx hb dX12_readSight_45 rfl (lv_at hl 0 rfl) ?_
        refine lv_iadd (pc := 46) hx hb dX12_readSight_46 ?_
        obtain ⟨g19, h⟩ := zGd_e h
        refine zr_iald (pc := 47) cx hP nM_3 sM_3 g19 dX12_readSight_47 ?_
        refine lv_aload_n (pc := 48) hx hb dX12_readSight_48 rfl (lv_at hl 1 rfl) ?_
        refine zr_getI (pc := 49) cx lk_X12_79 hP nM_0 sM_0 rfl dX12_readSight_49 ?_
        obtain ⟨r21, k20, h⟩ := zBd_e h
        refine zr_SI (pc := 52) (rest := []) cx cv_X12_181 (mX12_has k20) ⟨⟨rfl, rfl⟩, Nat.le_of_ble_eq_true rfl, Nat.le_of_ble_eq_true rfl⟩ ⟨Nat.le_of_ble_eq_true rfl, Nat.le_of_ble_eq_true rfl⟩ (zr_preK cx) hl.1 rfl rfl (Nat.le_of_ble_eq_true rfl) dX12_readSight_52 ?_
        refine lv_if_eq (pc := 55) (tgt := 64) hx hb dX12_readSight_55 (by decide) (fun c22 => ?_) (fun c22 => ?_)
        · replace h := zBr_t c22 h
          refine lv_aload_n (pc := 64) hx hb dX12_readSight_64 rfl (lv_at hl 1 rfl) ?_
          refine zr_getR (pc := 65) (t := 3) cx lk_X12_101 hP nM_0 sM_0 rfl dX12_readSight_65 ?_
          refine lv_bipush (pc := 68) hx hb dX12_readSight_68 zb_6 ?_
          refine lv_iload_n (pc := 70) hx hb dX12_readSight_70 rfl (lv_at hl 0 rfl) ?_
          refine lv_iadd (pc := 71) hx hb dX12_readSight_71 ?_
          refine lv_dup2_11 (pc := 72) hx hb dX12_readSight_72 rfl rfl ?_
          obtain ⟨g23, h⟩ := zGd_e h
          refine zr_iald (pc := 73) cx hP nM_3 sM_3 g23 dX12_readSight_73 ?_
          refine lv_iconst (pc := 74) hx hb dX12_readSight_74 zc_1 ?_
          refine lv_aload_n (pc := 75) hx hb dX12_readSight_75 rfl (lv_at hl 1 rfl) ?_
          refine zr_getI (pc := 76) cx lk_X12_79 hP nM_0 sM_0 rfl dX12_readSight_76 ?_
          refine lv_ishl (pc := 79) hx hb dX12_readSight_79 ?_
          refine lv_ior (pc := 80) hx hb dX12_readSight_80 ?_
          obtain ⟨g24, h⟩ := zGd_e h
          obtain ⟨S25, eS25, h⟩ := zLt_e h
          refine zr_iast (pc := 81) cx hq hP hS nM_3 sM_3 g24 dX12_readSight_81 (fun H locs hP hS => ?_)
          rw [← eS25] at hP
          refine lv_aload_n (pc := 82) hx hb dX12_readSight_82 rfl (lv_at hl 1 rfl) ?_
          refine zr_getR (pc := 83) (t := 3) cx lk_X12_101 hP nM_0 sM_0 rfl dX12_readSight_83 ?_
          refine lv_bipush (pc := 86) hx hb dX12_readSight_86 zb_6 ?_
          refine lv_aload_n (pc := 88) hx hb dX12_readSight_88 rfl (lv_at hl 1 rfl) ?_
          refine zr_getI (pc := 89) cx lk_X12_79 hP nM_0 sM_0 rfl dX12_readSight_89 ?_
          refine lv_iadd (pc := 92) hx hb dX12_readSight_92 ?_
          refine lv_dup2_11 (pc := 93) hx hb dX12_readSight_93 rfl rfl ?_
          obtain ⟨g26, h⟩ := zGd_e h
          refine zr_iald (pc := 94) cx hP nM_3 sM_3 g26 dX12_readSight_94 ?_
          refine lv_iconst (pc := 95) hx hb dX12_readSight_95 zc_1 ?_
          refine lv_iload_n (pc := 96) hx hb dX12_readSight_96 rfl (lv_at hl 0 rfl) ?_
          refine lv_ishl (pc := 97) hx hb dX12_readSight_97 ?_
          refine lv_ior (pc := 98) hx hb dX12_readSight_98 ?_
          obtain ⟨g27, h⟩ := zGd_e h
          obtain ⟨S28, eS28, h⟩ := zLt_e h
          refine zr_iast (pc := 99) cx hq hP hS nM_3 sM_3 g27 dX12_readSight_99 (fun H locs hP hS => ?_)
          rw [← eS28] at hP
          refine lv_aload_n (pc := 100) hx hb dX12_readSight_100 rfl (lv_at hl 1 rfl) ?_
          obtain ⟨S30, k29, h⟩ := zBd_e h
          refine zr_VV (pc := 101) (rest := []) cx cv_X12_82 (mX12_go hq k29) ⟨⟨rfl, rfl⟩, Nat.le_of_ble_eq_true rfl, Nat.le_of_ble_eq_true rfl⟩ ⟨Nat.le_of_ble_eq_true rfl, Nat.le_of_ble_eq_true rfl⟩ hP hS nM_0 sM_0 rfl hl.1 rfl rfl (Nat.le_of_ble_eq_true rfl) dX12_readSight_101 (fun H locs hP hS => ?_)
          refine lv_iconst (pc := 104) hx hb dX12_readSight_104 zc_1 ?_
          have hz := Option.some.inj h
          exact zr_rqZ (pc := 105) cx hr hlk hP hS hz (by decide) dX12_readSight_105
        · replace h := zBr_f c22 h
          exact kX12_readSight_58 cx hr hlk hq h hP hS (lv_sub hl [1] rfl)
    · replace h := zBr_t c13 h
      refine lv_iconst (pc := 29) hx hb dX12_readSight_29 zc_0 ?_
      have hz := Option.some.inj h
      exact zr_rqZ (pc := 30) cx hr hlk hP hS hz (by decide) dX12_readSight_30
  · replace h := zBr_t c6 h
    refine lv_iconst (pc := 11) hx hb dX12_readSight_11 zc_0 ?_
    have hz := Option.some.inj h
    exact zr_rqZ (pc := 12) cx hr hlk hP hS hz (by decide) dX12_readSight_12
-- X12_readLine
abbrev rmX12_readLine : Room := { frames := 5, cells := 0, slots := 0, locals := 113 }
def fX12_readLine (S : zSt) : Option (Int32 × zSt) :=
  zBd (fX12_isWord S (0 : Int32)) (fun r2 => zBr (r2 = 0) (zBd (fX12_isWord S (1 : Int32)) (fun r5 => zBr (r5 = 0) (zBd (fX12_isWord S (2 : Int32)) (fun r8 => zBr (r8 = 0) (zBd (fX12_isWord S (3 : Int32)) (fun r11 => zBr (r11 = 0) (zBd (fX12_isWord S (4 : Int32)) (fun r14 => zBr (r14 = 0) (zBd (fX12_isWord S (5 : Int32)) (fun r17 => zBr (r17 = 0) (zBd (fX12_isWord S (6 : Int32)) (fun r20 => zBr (r20 = 0) (zBp (fX12_bad S (1 : Int32)) (fun r24 S23 => zGd (zBo r24) (some (r24, S23)))) (zBp (fX12_readOnce S (1 : Int32) (5 : Int32) (6 : Int32)) (fun r28 S27 => zGd (zBo r28) (some (r28, S27)))))) (zBp (fX12_readOnce S (0 : Int32) (4 : Int32) (60 : Int32)) (fun r32 S31 => zGd (zBo r32) (some (r32, S31)))))) (zBp (fX12_readPlain S (3 : Int32) (5 : Int32) (15 : Int32)) (fun r36 S35 => zGd (zBo r36) (some (r36, S35)))))) (zBp (fX12_readPlain S (2 : Int32) (4 : Int32) (11 : Int32)) (fun r40 S39 => zGd (zBo r40) (some (r40, S39)))))) (zBp (fX12_readPlant S) (fun r44 S43 => zGd (zBo r44) (some (r44, S43)))))) (zBp (fX12_readSight S) (fun r48 S47 => zGd (zBo r48) (some (r48, S47)))))) (zBp (fX12_readPlain S (0 : Int32) (5 : Int32) (0 : Int32)) (fun r52 S51 => zGd (zBo r52) (some (r52, S51)))))
set_option maxHeartbeats 4000000 in
set_option maxRecDepth 100000 in
theorem mX12_readLine {l : Launch} {D : va_G} {cy : Nat → ClassId} {q : Nat → Nat} {A : Nat → Prop} {S : zSt} (hq : zQ A q zNM) {z : (Int32 × zSt)} (h : fX12_readLine S = some z) : zMq l yX12_readLine cX12_readLine 1 (some .boolean) rmX12_readLine [.ref (q 0)] zshM zNM D cy q A S z := by
  refine Met.ofW (cc := cX12_readLine) (maxL := 1) (ret := (some .boolean)) (by decide) rfl ?_
  intro p e s m args below meth c s₁ B hml hv
  obtain ⟨rfl, hP, hK⟩ := hv
  have cx : zX RX12 cX12_readLine 1 p s m ([.ref (q 0)]).toArray c D cy := ⟨B.exec, B.bytes, hml, findClass_of_methodNamed B.named, fun w hw => atoms_spec (ws := Cond.code yX12_readLine cX12_readLine 1 (some .boolean) :: zTB) B.pre w (List.mem_cons_of_mem _ hw), hK⟩
  have hx := cx.1
  have hb := cx.2.1
  have hr := B.returns
  have hlk := B.notSynchronized
  have hS : va_S A s.heap s.heap [] := va_S.rf
  have hl := lv_entry ([.ref (q 0)]) (n := 1) (Nat.le_of_ble_eq_true rfl)
  rw [lg_entry_eq]
  generalize (lg_sl ([.ref (q 0)]) ++ List.replicate (1 - (lg_sl ([.ref (q 0)])).length) Slot.unset).toArray = ls at hl ⊢
  have hl : lv_has ls 1 [(0, .ref (q 0))] := hl
  unfold fX12_readLine at h
  refine lv_aload_n (pc := 0) hx hb dX12_readLine_0 rfl (lv_at hl 0 rfl) ?_
  refine lv_iconst (pc := 1) hx hb dX12_readLine_1 zc_0 ?_
  obtain ⟨r2, k1, h⟩ := zBd_e h
  refine zr_VI (pc := 2) (rest := []) cx cv_X12_191 (mX12_isWord k1) ⟨⟨rfl, rfl⟩, Nat.le_of_ble_eq_true rfl, Nat.le_of_ble_eq_true rfl⟩ ⟨Nat.le_of_ble_eq_true rfl, Nat.le_of_ble_eq_true rfl⟩ hP nM_0 sM_0 rfl hl.1 rfl rfl (Nat.le_of_ble_eq_true rfl) dX12_readLine_2 ?_
  refine lv_if_eq (pc := 5) (tgt := 16) hx hb dX12_readLine_5 (by decide) (fun c3 => ?_) (fun c3 => ?_)
  · replace h := zBr_t c3 h
    refine lv_aload_n (pc := 16) hx hb dX12_readLine_16 rfl (lv_at hl 0 rfl) ?_
    refine lv_iconst (pc := 17) hx hb dX12_readLine_17 zc_1 ?_
    obtain ⟨r5, k4, h⟩ := zBd_e h
    refine zr_VI (pc := 18) (rest := []) cx cv_X12_191 (mX12_isWord k4) ⟨⟨rfl, rfl⟩, Nat.le_of_ble_eq_true rfl, Nat.le_of_ble_eq_true rfl⟩ ⟨Nat.le_of_ble_eq_true rfl, Nat.le_of_ble_eq_true rfl⟩ hP nM_0 sM_0 rfl hl.1 rfl rfl (Nat.le_of_ble_eq_true rfl) dX12_readLine_18 ?_
    refine lv_if_eq (pc := 21) (tgt := 29) hx hb dX12_readLine_21 (by decide) (fun c6 => ?_) (fun c6 => ?_)
    · replace h := zBr_t c6 h
      refine lv_aload_n (pc := 29) hx hb dX12_readLine_29 rfl (lv_at hl 0 rfl) ?_
      refine lv_iconst (pc := 30) hx hb dX12_readLine_30 zc_2 ?_
      obtain ⟨r8, k7, h⟩ := zBd_e h
      refine zr_VI (pc := 31) (rest := []) cx cv_X12_191 (mX12_isWord k7) ⟨⟨rfl, rfl⟩, Nat.le_of_ble_eq_true rfl, Nat.le_of_ble_eq_true rfl⟩ ⟨Nat.le_of_ble_eq_true rfl, Nat.le_of_ble_eq_true rfl⟩ hP nM_0 sM_0 rfl hl.1 rfl rfl (Nat.le_of_ble_eq_true rfl) dX12_readLine_31 ?_
      refine lv_if_eq (pc := 34) (tgt := 42) hx hb dX12_readLine_34 (by decide) (fun c9 => ?_) (fun c9 => ?_)
      · replace h := zBr_t c9 h
        refine lv_aload_n (pc := 42) hx hb dX12_readLine_42 rfl (lv_at hl 0 rfl) ?_
        refine lv_iconst (pc := 43) hx hb dX12_readLine_43 zc_3 ?_
        obtain ⟨r11, k10, h⟩ := zBd_e h
        refine zr_VI (pc := 44) (rest := []) cx cv_X12_191 (mX12_isWord k10) ⟨⟨rfl, rfl⟩, Nat.le_of_ble_eq_true rfl, Nat.le_of_ble_eq_true rfl⟩ ⟨Nat.le_of_ble_eq_true rfl, Nat.le_of_ble_eq_true rfl⟩ hP nM_0 sM_0 rfl hl.1 rfl rfl (Nat.le_of_ble_eq_true rfl) dX12_readLine_44 ?_
        refine lv_if_eq (pc := 47) (tgt := 59) hx hb dX12_readLine_47 (by decide) (fun c12 => ?_) (fun c12 => ?_)
        · replace h := zBr_t c12 h
          refine lv_aload_n (pc := 59) hx hb dX12_readLine_59 rfl (lv_at hl 0 rfl) ?_
          refine lv_iconst (pc := 60) hx hb dX12_readLine_60 zc_4 ?_
          obtain ⟨r14, k13, h⟩ := zBd_e h
          refine zr_VI (pc := 61) (rest := []) cx cv_X12_191 (mX12_isWord k13) ⟨⟨rfl, rfl⟩, Nat.le_of_ble_eq_true rfl, Nat.le_of_ble_eq_true rfl⟩ ⟨Nat.le_of_ble_eq_true rfl, Nat.le_of_ble_eq_true rfl⟩ hP nM_0 sM_0 rfl hl.1 rfl rfl (Nat.le_of_ble_eq_true rfl) dX12_readLine_61 ?_
          refine lv_if_eq (pc := 64) (tgt := 76) hx hb dX12_readLine_64 (by decide) (fun c15 => ?_) (fun c15 => ?_)
          · replace h := zBr_t c15 h
            refine lv_aload_n (pc := 76) hx hb dX12_readLine_76 rfl (lv_at hl 0 rfl) ?_
            refine lv_iconst (pc := 77) hx hb dX12_readLine_77 zc_5 ?_
            obtain ⟨r17, k16, h⟩ := zBd_e h
            refine zr_VI (pc := 78) (rest := []) cx cv_X12_191 (mX12_isWord k16) ⟨⟨rfl, rfl⟩, Nat.le_of_ble_eq_true rfl, Nat.le_of_ble_eq_true rfl⟩ ⟨Nat.le_of_ble_eq_true rfl, Nat.le_of_ble_eq_true rfl⟩ hP nM_0 sM_0 rfl hl.1 rfl rfl (Nat.le_of_ble_eq_true rfl) dX12_readLine_78 ?_
            refine lv_if_eq (pc := 81) (tgt := 93) hx hb dX12_readLine_81 (by decide) (fun c18 => ?_) (fun c18 => ?_)
            · replace h := zBr_t c18 h
              refine lv_aload_n (pc := 93) hx hb dX12_readLine_93 rfl (lv_at hl 0 rfl) ?_
              refine lv_bipush (pc := 94) hx hb dX12_readLine_94 zb_6 ?_
              obtain ⟨r20, k19, h⟩ := zBd_e h
              refine zr_VI (pc := 96) (rest := []) cx cv_X12_191 (mX12_isWord k19) ⟨⟨rfl, rfl⟩, Nat.le_of_ble_eq_true rfl, Nat.le_of_ble_eq_true rfl⟩ ⟨Nat.le_of_ble_eq_true rfl, Nat.le_of_ble_eq_true rfl⟩ hP nM_0 sM_0 rfl hl.1 rfl rfl (Nat.le_of_ble_eq_true rfl) dX12_readLine_96 ?_
              refine lv_if_eq (pc := 99) (tgt := 113) hx hb dX12_readLine_99 (by decide) (fun c21 => ?_) (fun c21 => ?_)
              · replace h := zBr_t c21 h
                refine lv_aload_n (pc := 113) hx hb dX12_readLine_113 rfl (lv_at hl 0 rfl) ?_
                refine lv_iconst (pc := 114) hx hb dX12_readLine_114 zc_1 ?_
                obtain ⟨r24, S23, k22, h⟩ := zBp_e h
                refine zr_VQ (pc := 115) (rest := []) cx cv_X12_72 (mX12_bad hq k22) ⟨⟨rfl, rfl⟩, Nat.le_of_ble_eq_true rfl, Nat.le_of_ble_eq_true rfl⟩ ⟨Nat.le_of_ble_eq_true rfl, Nat.le_of_ble_eq_true rfl⟩ hP hS nM_0 sM_0 rfl hl.1 rfl rfl (Nat.le_of_ble_eq_true rfl) dX12_readLine_115 (fun H locs hP hS => ?_)
                obtain ⟨g25, h⟩ := zGd_e h
                have hz := Option.some.inj h
                exact zr_rqZ (pc := 118) cx hr hlk hP hS hz g25 dX12_readLine_118
              · replace h := zBr_f c21 h
                refine lv_aload_n (pc := 102) hx hb dX12_readLine_102 rfl (lv_at hl 0 rfl) ?_
                refine lv_iconst (pc := 103) hx hb dX12_readLine_103 zc_1 ?_
                refine lv_iconst (pc := 104) hx hb dX12_readLine_104 zc_5 ?_
                refine lv_bipush (pc := 105) hx hb dX12_readLine_105 zb_6 ?_
                obtain ⟨r28, S27, k26, h⟩ := zBp_e h
                refine zr_VQ (pc := 107) (rest := []) cx cv_X12_203 (mX12_readOnce hq k26) ⟨⟨rfl, rfl⟩, Nat.le_of_ble_eq_true rfl, Nat.le_of_ble_eq_true rfl⟩ ⟨Nat.le_of_ble_eq_true rfl, Nat.le_of_ble_eq_true rfl⟩ hP hS nM_0 sM_0 rfl hl.1 rfl rfl (Nat.le_of_ble_eq_true rfl) dX12_readLine_107 (fun H locs hP hS => ?_)
                refine lv_goto (pc := 110) (tgt := 118) hx hb dX12_readLine_110 (by decide) ?_
                obtain ⟨g29, h⟩ := zGd_e h
                have hz := Option.some.inj h
                exact zr_rqZ (pc := 118) cx hr hlk hP hS hz g29 dX12_readLine_118
            · replace h := zBr_f c18 h
              refine lv_aload_n (pc := 84) hx hb dX12_readLine_84 rfl (lv_at hl 0 rfl) ?_
              refine lv_iconst (pc := 85) hx hb dX12_readLine_85 zc_0 ?_
              refine lv_iconst (pc := 86) hx hb dX12_readLine_86 zc_4 ?_
              refine lv_bipush (pc := 87) hx hb dX12_readLine_87 zb_60 ?_
              obtain ⟨r32, S31, k30, h⟩ := zBp_e h
              refine zr_VQ (pc := 89) (rest := []) cx cv_X12_203 (mX12_readOnce hq k30) ⟨⟨rfl, rfl⟩, Nat.le_of_ble_eq_true rfl, Nat.le_of_ble_eq_true rfl⟩ ⟨Nat.le_of_ble_eq_true rfl, Nat.le_of_ble_eq_true rfl⟩ hP hS nM_0 sM_0 rfl hl.1 rfl rfl (Nat.le_of_ble_eq_true rfl) dX12_readLine_89 (fun H locs hP hS => ?_)
              obtain ⟨g33, h⟩ := zGd_e h
              have hz := Option.some.inj h
              exact zr_rqZ (pc := 92) cx hr hlk hP hS hz g33 dX12_readLine_92
          · replace h := zBr_f c15 h
            refine lv_aload_n (pc := 67) hx hb dX12_readLine_67 rfl (lv_at hl 0 rfl) ?_
            refine lv_iconst (pc := 68) hx hb dX12_readLine_68 zc_3 ?_
            refine lv_iconst (pc := 69) hx hb dX12_readLine_69 zc_5 ?_
            refine lv_bipush (pc := 70) hx hb dX12_readLine_70 zb_15 ?_
            obtain ⟨r36, S35, k34, h⟩ := zBp_e h
            refine zr_VQ (pc := 72) (rest := []) cx cv_X12_194 (mX12_readPlain hq k34) ⟨⟨rfl, rfl⟩, Nat.le_of_ble_eq_true rfl, Nat.le_of_ble_eq_true rfl⟩ ⟨Nat.le_of_ble_eq_true rfl, Nat.le_of_ble_eq_true rfl⟩ hP hS nM_0 sM_0 rfl hl.1 rfl rfl (Nat.le_of_ble_eq_true rfl) dX12_readLine_72 (fun H locs hP hS => ?_)
            obtain ⟨g37, h⟩ := zGd_e h
            have hz := Option.some.inj h
            exact zr_rqZ (pc := 75) cx hr hlk hP hS hz g37 dX12_readLine_75
        · replace h := zBr_f c12 h
          refine lv_aload_n (pc := 50) hx hb dX12_readLine_50 rfl (lv_at hl 0 rfl) ?_
          refine lv_iconst (pc := 51) hx hb dX12_readLine_51 zc_2 ?_
          refine lv_iconst (pc := 52) hx hb dX12_readLine_52 zc_4 ?_
          refine lv_bipush (pc := 53) hx hb dX12_readLine_53 zb_11 ?_
          obtain ⟨r40, S39, k38, h⟩ := zBp_e h
          refine zr_VQ (pc := 55) (rest := []) cx cv_X12_194 (mX12_readPlain hq k38) ⟨⟨rfl, rfl⟩, Nat.le_of_ble_eq_true rfl, Nat.le_of_ble_eq_true rfl⟩ ⟨Nat.le_of_ble_eq_true rfl, Nat.le_of_ble_eq_true rfl⟩ hP hS nM_0 sM_0 rfl hl.1 rfl rfl (Nat.le_of_ble_eq_true rfl) dX12_readLine_55 (fun H locs hP hS => ?_)
          obtain ⟨g41, h⟩ := zGd_e h
          have hz := Option.some.inj h
          exact zr_rqZ (pc := 58) cx hr hlk hP hS hz g41 dX12_readLine_58
      · replace h := zBr_f c9 h
        refine lv_aload_n (pc := 37) hx hb dX12_readLine_37 rfl (lv_at hl 0 rfl) ?_
        obtain ⟨r44, S43, k42, h⟩ := zBp_e h
        refine zr_VQ (pc := 38) (rest := []) cx cv_X12_200 (mX12_readPlant hq k42) ⟨⟨rfl, rfl⟩, Nat.le_of_ble_eq_true rfl, Nat.le_of_ble_eq_true rfl⟩ ⟨Nat.le_of_ble_eq_true rfl, Nat.le_of_ble_eq_true rfl⟩ hP hS nM_0 sM_0 rfl hl.1 rfl rfl (Nat.le_of_ble_eq_true rfl) dX12_readLine_38 (fun H locs hP hS => ?_)
        obtain ⟨g45, h⟩ := zGd_e h
        have hz := Option.some.inj h
        exact zr_rqZ (pc := 41) cx hr hlk hP hS hz g45 dX12_readLine_41
    · replace h := zBr_f c6 h
      refine lv_aload_n (pc := 24) hx hb dX12_readLine_24 rfl (lv_at hl 0 rfl) ?_
      obtain ⟨r48, S47, k46, h⟩ := zBp_e h
      refine zr_VQ (pc := 25) (rest := []) cx cv_X12_197 (mX12_readSight hq k46) ⟨⟨rfl, rfl⟩, Nat.le_of_ble_eq_true rfl, Nat.le_of_ble_eq_true rfl⟩ ⟨Nat.le_of_ble_eq_true rfl, Nat.le_of_ble_eq_true rfl⟩ hP hS nM_0 sM_0 rfl hl.1 rfl rfl (Nat.le_of_ble_eq_true rfl) dX12_readLine_25 (fun H locs hP hS => ?_)
      obtain ⟨g49, h⟩ := zGd_e h
      have hz := Option.some.inj h
      exact zr_rqZ (pc := 28) cx hr hlk hP hS hz g49 dX12_readLine_28
  · replace h := zBr_f c3 h
    refine lv_aload_n (pc := 8) hx hb dX12_readLine_8 rfl (lv_at hl 0 rfl) ?_
    refine lv_iconst (pc := 9) hx hb dX12_readLine_9 zc_0 ?_
    refine lv_iconst (pc := 10) hx hb dX12_readLine_10 zc_5 ?_
    refine lv_iconst (pc := 11) hx hb dX12_readLine_11 zc_0 ?_
    obtain ⟨r52, S51, k50, h⟩ := zBp_e h
    refine zr_VQ (pc := 12) (rest := []) cx cv_X12_194 (mX12_readPlain hq k50) ⟨⟨rfl, rfl⟩, Nat.le_of_ble_eq_true rfl, Nat.le_of_ble_eq_true rfl⟩ ⟨Nat.le_of_ble_eq_true rfl, Nat.le_of_ble_eq_true rfl⟩ hP hS nM_0 sM_0 rfl hl.1 rfl rfl (Nat.le_of_ble_eq_true rfl) dX12_readLine_12 (fun H locs hP hS => ?_)
    obtain ⟨g53, h⟩ := zGd_e h
    have hz := Option.some.inj h
    exact zr_rqZ (pc := 15) cx hr hlk hP hS hz g53 dX12_readLine_15
