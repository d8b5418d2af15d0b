theorem wd_1487 : (Jvm.Cond.fieldLink "ParlourLeavesModel" (11 : Nat) "ParlourLeavesModel" "taped" "I") ∈ zTB := List.mem_filter.mpr ⟨List.mem_append_right _ (List.mem_append_right _ (List.mem_append_right _ (List.mem_append_right _ (List.mem_append_right _ (List.mem_append_right _ (List.mem_append_right _ (List.mem_append_left _ (List.mem_of_getElem? (i := 47) rfl)))))))), rfl⟩
theorem wd_1503 : (Jvm.Cond.fieldLink "ParlourLeavesModel" (110 : Nat) "ParlourLeavesModel" "aside" "[I") ∈ zTB := List.mem_filter.mpr ⟨List.mem_append_right _ (List.mem_append_right _ (List.mem_append_right _ (List.mem_append_right _ (List.mem_append_right _ (List.mem_append_right _ (List.mem_append_right _ (List.mem_append_left _ (List.mem_of_getElem? (i := 63) rfl)))))))), rfl⟩
theorem wd_1521 : (Jvm.Cond.fieldLink "ParlourLeavesModel" (148 : Nat) "ParlourLeavesModel" "line" "[I") ∈ zTB := List.mem_filter.mpr ⟨List.mem_append_right _ (List.mem_append_right _ (List.mem_append_right _ (List.mem_append_right _ (List.mem_append_right _ (List.mem_append_right _ (List.mem_append_right _ (List.mem_append_left _ (List.mem_of_getElem? (i := 81) rfl)))))))), rfl⟩
theorem wd_1629 : (Jvm.Cond.methodLink "ParlourLeavesModel" (89 : Nat) ({ cls := "ParlourLeavesModel", name := "take", desc := "()I" } : Jvm.MethodName)) ∈ zTB := List.mem_filter.mpr ⟨List.mem_append_right _ (List.mem_append_right _ (List.mem_append_right _ (List.mem_append_right _ (List.mem_append_right _ (List.mem_append_right _ (List.mem_append_right _ (List.mem_append_left _ (List.mem_of_getElem? (i := 189) rfl)))))))), rfl⟩
theorem wd_1631 : (Jvm.Cond.instanceMethod ({ cls := "ParlourLeavesModel", name := "take", desc := "()I" } : Jvm.MethodName)) ∈ zTB := List.mem_filter.mpr ⟨List.mem_append_right _ (List.mem_append_right _ (List.mem_append_right _ (List.mem_append_right _ (List.mem_append_right _ (List.mem_append_right _ (List.mem_append_right _ (List.mem_append_left _ (List.mem_of_getElem? (i := 191) rfl)))))))), rfl⟩
theorem wd_1632 : (Jvm.Cond.code ({ cls := "ParlourLeavesModel", name := "take", desc := "()I" } : Jvm.MethodName) prog_14_method_6_code (2 : Nat) (Option.some Jvm.ClassFile.FieldType.int)) ∈ zTB := List.mem_filter.mpr ⟨List.mem_append_right _ (List.mem_append_right _ (List.mem_append_right _ (List.mem_append_right _ (List.mem_append_right _ (List.mem_append_right _ (List.mem_append_right _ (List.mem_append_left _ (List.mem_of_getElem? (i := 192) rfl)))))))), rfl⟩
theorem wd_1633 : (Jvm.Cond.methodLink "ParlourLeavesModel" (82 : Nat) ({ cls := "ParlourLeavesModel", name := "go", desc := "()V" } : Jvm.MethodName)) ∈ zTB := List.mem_filter.mpr ⟨List.mem_append_right _ (List.mem_append_right _ (List.mem_append_right _ (List.mem_append_right _ (List.mem_append_right _ (List.mem_append_right _ (List.mem_append_right _ (List.mem_append_left _ (List.mem_of_getElem? (i := 193) rfl)))))))), rfl⟩
theorem wd_1635 : (Jvm.Cond.instanceMethod ({ cls := "ParlourLeavesModel", name := "go", desc := "()V" } : Jvm.MethodName)) ∈ zTB := List.mem_filter.mpr ⟨List.mem_append_right _ (List.mem_append_right _ (List.mem_append_right _ (List.mem_append_right _ (List.mem_append_right _ (List.mem_append_right _ (List.mem_append_right _ (List.mem_append_left _ (List.mem_of_getElem? (i := 195) rfl)))))))), rfl⟩
theorem wd_1636 : (Jvm.Cond.code ({ cls := "ParlourLeavesModel", name := "go", desc := "()V" } : Jvm.MethodName) prog_14_method_16_code (5 : Nat) (Option.none : Option Jvm.ClassFile.FieldType)) ∈ zTB := List.mem_filter.mpr ⟨List.mem_append_right _ (List.mem_append_right _ (List.mem_append_right _ (List.mem_append_right _ (List.mem_append_right _ (List.mem_append_right _ (List.mem_append_right _ (List.mem_append_left _ (List.mem_of_getElem? (i := 196) rfl)))))))), rfl⟩
theorem wd_1660 : (Jvm.Cond.methodLink "ParlourLeavesModel" (58 : Nat) ({ cls := "ParlourLeavesModel", name := "spelt", desc := "(IIIIIII)J" } : Jvm.MethodName)) ∈ zTB := List.mem_filter.mpr ⟨List.mem_append_right _ (List.mem_append_right _ (List.mem_append_right _ (List.mem_append_right _ (List.mem_append_right _ (List.mem_append_right _ (List.mem_append_right _ (List.mem_append_left _ (List.mem_of_getElem? (i := 220) rfl)))))))), rfl⟩
theorem wd_1661 : (Jvm.Cond.static ({ cls := "ParlourLeavesModel", name := "spelt", desc := "(IIIIIII)J" } : Jvm.MethodName)) ∈ zTB := List.mem_filter.mpr ⟨List.mem_append_right _ (List.mem_append_right _ (List.mem_append_right _ (List.mem_append_right _ (List.mem_append_right _ (List.mem_append_right _ (List.mem_append_right _ (List.mem_append_left _ (List.mem_of_getElem? (i := 221) rfl)))))))), rfl⟩
theorem wd_1662 : (Jvm.Cond.code ({ cls := "ParlourLeavesModel", name := "spelt", desc := "(IIIIIII)J" } : Jvm.MethodName) prog_14_method_17_code (9 : Nat) (Option.some Jvm.ClassFile.FieldType.long)) ∈ zTB := List.mem_filter.mpr ⟨List.mem_append_right _ (List.mem_append_right _ (List.mem_append_right _ (List.mem_append_right _ (List.mem_append_right _ (List.mem_append_right _ (List.mem_append_right _ (List.mem_append_left _ (List.mem_of_getElem? (i := 222) rfl)))))))), rfl⟩
theorem wd_1698 : (Jvm.Cond.methodLink "ParlourLeavesModel" (181 : Nat) ({ cls := "ParlourLeavesModel", name := "has", desc := "(II)Z" } : Jvm.MethodName)) ∈ zTB := List.mem_filter.mpr ⟨List.mem_append_right _ (List.mem_append_right _ (List.mem_append_right _ (List.mem_append_right _ (List.mem_append_right _ (List.mem_append_right _ (List.mem_append_right _ (List.mem_append_right _ (List.mem_append_left _ (List.mem_of_getElem? (i := 18) rfl))))))))), rfl⟩
theorem wd_1699 : (Jvm.Cond.static ({ cls := "ParlourLeavesModel", name := "has", desc := "(II)Z" } : Jvm.MethodName)) ∈ zTB := List.mem_filter.mpr ⟨List.mem_append_right _ (List.mem_append_right _ (List.mem_append_right _ (List.mem_append_right _ (List.mem_append_right _ (List.mem_append_right _ (List.mem_append_right _ (List.mem_append_right _ (List.mem_append_left _ (List.mem_of_getElem? (i := 19) rfl))))))))), rfl⟩
theorem wd_1700 : (Jvm.Cond.code ({ cls := "ParlourLeavesModel", name := "has", desc := "(II)Z" } : Jvm.MethodName) prog_14_method_8_code (2 : Nat) (Option.some Jvm.ClassFile.FieldType.boolean)) ∈ zTB := List.mem_filter.mpr ⟨List.mem_append_right _ (List.mem_append_right _ (List.mem_append_right _ (List.mem_append_right _ (List.mem_append_right _ (List.mem_append_right _ (List.mem_append_right _ (List.mem_append_right _ (List.mem_append_left _ (List.mem_of_getElem? (i := 20) rfl))))))))), rfl⟩
theorem wd_1744 : (Jvm.Cond.methodLink "ParlourLeavesModel" (218 : Nat) ({ cls := "ParlourLeavesModel", name := "isFern", desc := "(I)Z" } : Jvm.MethodName)) ∈ zTB := List.mem_filter.mpr ⟨List.mem_append_right _ (List.mem_append_right _ (List.mem_append_right _ (List.mem_append_right _ (List.mem_append_right _ (List.mem_append_right _ (List.mem_append_right _ (List.mem_append_right _ (List.mem_append_left _ (List.mem_of_getElem? (i := 64) rfl))))))))), rfl⟩
theorem wd_1746 : (Jvm.Cond.instanceMethod ({ cls := "ParlourLeavesModel", name := "isFern", desc := "(I)Z" } : Jvm.MethodName)) ∈ zTB := List.mem_filter.mpr ⟨List.mem_append_right _ (List.mem_append_right _ (List.mem_append_right _ (List.mem_append_right _ (List.mem_append_right _ (List.mem_append_right _ (List.mem_append_right _ (List.mem_append_right _ (List.mem_append_left _ (List.mem_of_getElem? (i := 66) rfl))))))))), rfl⟩
theorem wd_1747 : (Jvm.Cond.code ({ cls := "ParlourLeavesModel", name := "isFern", desc := "(I)Z" } : Jvm.MethodName) prog_14_method_46_code (2 : Nat) (Option.some Jvm.ClassFile.FieldType.boolean)) ∈ zTB := List.mem_filter.mpr ⟨List.mem_append_right _ (List.mem_append_right _ (List.mem_append_right _ (List.mem_append_right _ (List.mem_append_right _ (List.mem_append_right _ (List.mem_append_right _ (List.mem_append_right _ (List.mem_append_left _ (List.mem_of_getElem? (i := 67) rfl))))))))), rfl⟩
theorem wd_1748 : (Jvm.Cond.methodLink "ParlourLeavesModel" (250 : Nat) ({ cls := "ParlourLeavesModel", name := "seesOf", desc := "(II)I" } : Jvm.MethodName)) ∈ zTB := List.mem_filter.mpr ⟨List.mem_append_right _ (List.mem_append_right _ (List.mem_append_right _ (List.mem_append_right _ (List.mem_append_right _ (List.mem_append_right _ (List.mem_append_right _ (List.mem_append_right _ (List.mem_append_left _ (List.mem_of_getElem? (i := 68) rfl))))))))), rfl⟩
theorem wd_1750 : (Jvm.Cond.instanceMethod ({ cls := "ParlourLeavesModel", name := "seesOf", desc := "(II)I" } : Jvm.MethodName)) ∈ zTB := List.mem_filter.mpr ⟨List.mem_append_right _ (List.mem_append_right _ (List.mem_append_right _ (List.mem_append_right _ (List.mem_append_right _ (List.mem_append_right _ (List.mem_append_right _ (List.mem_append_right _ (List.mem_append_left _ (List.mem_of_getElem? (i := 70) rfl))))))))), rfl⟩
theorem wd_1751 : (Jvm.Cond.code ({ cls := "ParlourLeavesModel", name := "seesOf", desc := "(II)I" } : Jvm.MethodName) prog_14_method_48_code (3 : Nat) (Option.some Jvm.ClassFile.FieldType.int)) ∈ zTB := List.mem_filter.mpr ⟨List.mem_append_right _ (List.mem_append_right _ (List.mem_append_right _ (List.mem_append_right _ (List.mem_append_right _ (List.mem_append_right _ (List.mem_append_right _ (List.mem_append_right _ (List.mem_append_left _ (List.mem_of_getElem? (i := 71) rfl))))))))), rfl⟩
theorem wd_1752 : (Jvm.Cond.methodLink "ParlourLeavesModel" (221 : Nat) ({ cls := "ParlourLeavesModel", name := "around", desc := "(I)I" } : Jvm.MethodName)) ∈ zTB := List.mem_filter.mpr ⟨List.mem_append_right _ (List.mem_append_right _ (List.mem_append_right _ (List.mem_append_right _ (List.mem_append_right _ (List.mem_append_right _ (List.mem_append_right _ (List.mem_append_right _ (List.mem_append_left _ (List.mem_of_getElem? (i := 72) rfl))))))))), rfl⟩
theorem wd_1754 : (Jvm.Cond.instanceMethod ({ cls := "ParlourLeavesModel", name := "around", desc := "(I)I" } : Jvm.MethodName)) ∈ zTB := List.mem_filter.mpr ⟨List.mem_append_right _ (List.mem_append_right _ (List.mem_append_right _ (List.mem_append_right _ (List.mem_append_right _ (List.mem_append_right _ (List.mem_append_right _ (List.mem_append_right _ (List.mem_append_left _ (List.mem_of_getElem? (i := 74) rfl))))))))), rfl⟩
theorem wd_1755 : (Jvm.Cond.code ({ cls := "ParlourLeavesModel", name := "around", desc := "(I)I" } : Jvm.MethodName) prog_14_method_47_code (2 : Nat) (Option.some Jvm.ClassFile.FieldType.int)) ∈ zTB := List.mem_filter.mpr ⟨List.mem_append_right _ (List.mem_append_right _ (List.mem_append_right _ (List.mem_append_right _ (List.mem_append_right _ (List.mem_append_right _ (List.mem_append_right _ (List.mem_append_right _ (List.mem_append_left _ (List.mem_of_getElem? (i := 75) rfl))))))))), rfl⟩
theorem wd_1831 : (Jvm.Cond.methodLink "ParlourLeavesModel" (275 : Nat) ({ cls := "ParlourLeavesModel", name := "why", desc := "(III)I" } : Jvm.MethodName)) ∈ zTB := List.mem_filter.mpr ⟨List.mem_append_right _ (List.mem_append_right _ (List.mem_append_right _ (List.mem_append_right _ (List.mem_append_right _ (List.mem_append_right _ (List.mem_append_right _ (List.mem_append_right _ (List.mem_append_left _ (List.mem_of_getElem? (i := 151) rfl))))))))), rfl⟩
theorem wd_1833 : (Jvm.Cond.instanceMethod ({ cls := "ParlourLeavesModel", name := "why", desc := "(III)I" } : Jvm.MethodName)) ∈ zTB := List.mem_filter.mpr ⟨List.mem_append_right _ (List.mem_append_right _ (List.mem_append_right _ (List.mem_append_right _ (List.mem_append_right _ (List.mem_append_right _ (List.mem_append_right _ (List.mem_append_right _ (List.mem_append_left _ (List.mem_of_getElem? (i := 153) rfl))))))))), rfl⟩
theorem wd_1834 : (Jvm.Cond.code ({ cls := "ParlourLeavesModel", name := "why", desc := "(III)I" } : Jvm.MethodName) prog_14_method_63_code (4 : Nat) (Option.some Jvm.ClassFile.FieldType.int)) ∈ zTB := List.mem_filter.mpr ⟨List.mem_append_right _ (List.mem_append_right _ (List.mem_append_right _ (List.mem_append_right _ (List.mem_append_right _ (List.mem_append_right _ (List.mem_append_right _ (List.mem_append_right _ (List.mem_append_left _ (List.mem_of_getElem? (i := 154) rfl))))))))), rfl⟩
theorem wd_1839 : (Jvm.Cond.methodLink "ParlourLeavesModel" (282 : Nat) ({ cls := "ParlourLeavesModel", name := "live", desc := "(IIII)V" } : Jvm.MethodName)) ∈ zTB := List.mem_filter.mpr ⟨List.mem_append_right _ (List.mem_append_right _ (List.mem_append_right _ (List.mem_append_right _ (List.mem_append_right _ (List.mem_append_right _ (List.mem_append_right _ (List.mem_append_right _ (List.mem_append_left _ (List.mem_of_getElem? (i := 159) rfl))))))))), rfl⟩
theorem wd_1841 : (Jvm.Cond.instanceMethod ({ cls := "ParlourLeavesModel", name := "live", desc := "(IIII)V" } : Jvm.MethodName)) ∈ zTB := List.mem_filter.mpr ⟨List.mem_append_right _ (List.mem_append_right _ (List.mem_append_right _ (List.mem_append_right _ (List.mem_append_right _ (List.mem_append_right _ (List.mem_append_right _ (List.mem_append_right _ (List.mem_append_left _ (List.mem_of_getElem? (i := 161) rfl))))))))), rfl⟩
theorem wd_1842 : (Jvm.Cond.code ({ cls := "ParlourLeavesModel", name := "live", desc := "(IIII)V" } : Jvm.MethodName) prog_14_method_66_code (5 : Nat) (Option.none : Option Jvm.ClassFile.FieldType)) ∈ zTB := List.mem_filter.mpr ⟨List.mem_append_right _ (List.mem_append_right _ (List.mem_append_right _ (List.mem_append_right _ (List.mem_append_right _ (List.mem_append_right _ (List.mem_append_right _ (List.mem_append_right _ (List.mem_append_left _ (List.mem_of_getElem? (i := 162) rfl))))))))), rfl⟩
theorem wd_1843 : (Jvm.Cond.methodLink "ParlourLeavesModel" (271 : Nat) ({ cls := "ParlourLeavesModel", name := "doDeed", desc := "(III)V" } : Jvm.MethodName)) ∈ zTB := List.mem_filter.mpr ⟨List.mem_append_right _ (List.mem_append_right _ (List.mem_append_right _ (List.mem_append_right _ (List.mem_append_right _ (List.mem_append_right _ (List.mem_append_right _ (List.mem_append_right _ (List.mem_append_left _ (List.mem_of_getElem? (i := 163) rfl))))))))), rfl⟩
theorem wd_1845 : (Jvm.Cond.instanceMethod ({ cls := "ParlourLeavesModel", name := "doDeed", desc := "(III)V" } : Jvm.MethodName)) ∈ zTB := List.mem_filter.mpr ⟨List.mem_append_right _ (List.mem_append_right _ (List.mem_append_right _ (List.mem_append_right _ (List.mem_append_right _ (List.mem_append_right _ (List.mem_append_right _ (List.mem_append_right _ (List.mem_append_left _ (List.mem_of_getElem? (i := 165) rfl))))))))), rfl⟩
theorem wd_1846 : (Jvm.Cond.code ({ cls := "ParlourLeavesModel", name := "doDeed", desc := "(III)V" } : Jvm.MethodName) prog_14_method_65_code (6 : Nat) (Option.none : Option Jvm.ClassFile.FieldType)) ∈ zTB := List.mem_filter.mpr ⟨List.mem_append_right _ (List.mem_append_right _ (List.mem_append_right _ (List.mem_append_right _ (List.mem_append_right _ (List.mem_append_right _ (List.mem_append_right _ (List.mem_append_right _ (List.mem_append_left _ (List.mem_of_getElem? (i := 166) rfl))))))))), rfl⟩
theorem wd_1847 : (Jvm.Cond.methodLink "ParlourLeavesModel" (268 : Nat) ({ cls := "ParlourLeavesModel", name := "nextLeaf", desc := "(I)I" } : Jvm.MethodName)) ∈ zTB := List.mem_filter.mpr ⟨List.mem_append_right _ (List.mem_append_right _ (List.mem_append_right _ (List.mem_append_right _ (List.mem_append_right _ (List.mem_append_right _ (List.mem_append_right _ (List.mem_append_right _ (List.mem_append_left _ (List.mem_of_getElem? (i := 167) rfl))))))))), rfl⟩
theorem wd_1849 : (Jvm.Cond.instanceMethod ({ cls := "ParlourLeavesModel", name := "nextLeaf", desc := "(I)I" } : Jvm.MethodName)) ∈ zTB := List.mem_filter.mpr ⟨List.mem_append_right _ (List.mem_append_right _ (List.mem_append_right _ (List.mem_append_right _ (List.mem_append_right _ (List.mem_append_right _ (List.mem_append_right _ (List.mem_append_right _ (List.mem_append_left _ (List.mem_of_getElem? (i := 169) rfl))))))))), rfl⟩
theorem wd_1850 : (Jvm.Cond.code ({ cls := "ParlourLeavesModel", name := "nextLeaf", desc := "(I)I" } : Jvm.MethodName) prog_14_method_64_code (2 : Nat) (Option.some Jvm.ClassFile.FieldType.int)) ∈ zTB := List.mem_filter.mpr ⟨List.mem_append_right _ (List.mem_append_right _ (List.mem_append_right _ (List.mem_append_right _ (List.mem_append_right _ (List.mem_append_right _ (List.mem_append_right _ (List.mem_append_right _ (List.mem_append_left _ (List.mem_of_getElem? (i := 170) rfl))))))))), rfl⟩
theorem wd_1867 : (Jvm.Cond.methodLink "ParlourLeavesModel" (302 : Nat) ({ cls := "ParlourLeavesModel", name := "passDays", desc := "(I)I" } : Jvm.MethodName)) ∈ zTB := List.mem_filter.mpr ⟨List.mem_append_right _ (List.mem_append_right _ (List.mem_append_right _ (List.mem_append_right _ (List.mem_append_right _ (List.mem_append_right _ (List.mem_append_right _ (List.mem_append_right _ (List.mem_append_left _ (List.mem_of_getElem? (i := 187) rfl))))))))), rfl⟩
theorem wd_1869 : (Jvm.Cond.instanceMethod ({ cls := "ParlourLeavesModel", name := "passDays", desc := "(I)I" } : Jvm.MethodName)) ∈ zTB := List.mem_filter.mpr ⟨List.mem_append_right _ (List.mem_append_right _ (List.mem_append_right _ (List.mem_append_right _ (List.mem_append_right _ (List.mem_append_right _ (List.mem_append_right _ (List.mem_append_right _ (List.mem_append_left _ (List.mem_of_getElem? (i := 189) rfl))))))))), rfl⟩
theorem wd_1870 : (Jvm.Cond.code ({ cls := "ParlourLeavesModel", name := "passDays", desc := "(I)I" } : Jvm.MethodName) prog_14_method_73_code (4 : Nat) (Option.some Jvm.ClassFile.FieldType.int)) ∈ zTB := List.mem_filter.mpr ⟨List.mem_append_right _ (List.mem_append_right _ (List.mem_append_right _ (List.mem_append_right _ (List.mem_append_right _ (List.mem_append_right _ (List.mem_append_right _ (List.mem_append_right _ (List.mem_append_left _ (List.mem_of_getElem? (i := 190) rfl))))))))), rfl⟩
theorem wd_1871 : (Jvm.Cond.methodLink "ParlourLeavesModel" (296 : Nat) ({ cls := "ParlourLeavesModel", name := "least", desc := "(II)I" } : Jvm.MethodName)) ∈ zTB := List.mem_filter.mpr ⟨List.mem_append_right _ (List.mem_append_right _ (List.mem_append_right _ (List.mem_append_right _ (List.mem_append_right _ (List.mem_append_right _ (List.mem_append_right _ (List.mem_append_right _ (List.mem_append_left _ (List.mem_of_getElem? (i := 191) rfl))))))))), rfl⟩
theorem wd_1872 : (Jvm.Cond.static ({ cls := "ParlourLeavesModel", name := "least", desc := "(II)I" } : Jvm.MethodName)) ∈ zTB := List.mem_filter.mpr ⟨List.mem_append_right _ (List.mem_append_right _ (List.mem_append_right _ (List.mem_append_right _ (List.mem_append_right _ (List.mem_append_right _ (List.mem_append_right _ (List.mem_append_right _ (List.mem_append_left _ (List.mem_of_getElem? (i := 192) rfl))))))))), rfl⟩
theorem wd_1873 : (Jvm.Cond.code ({ cls := "ParlourLeavesModel", name := "least", desc := "(II)I" } : Jvm.MethodName) prog_14_method_10_code (2 : Nat) (Option.some Jvm.ClassFile.FieldType.int)) ∈ zTB := List.mem_filter.mpr ⟨List.mem_append_right _ (List.mem_append_right _ (List.mem_append_right _ (List.mem_append_right _ (List.mem_append_right _ (List.mem_append_right _ (List.mem_append_right _ (List.mem_append_right _ (List.mem_append_left _ (List.mem_of_getElem? (i := 193) rfl))))))))), rfl⟩
theorem wd_1874 : (Jvm.Cond.methodLink "ParlourLeavesModel" (299 : Nat) ({ cls := "ParlourLeavesModel", name := "oneDay", desc := "()V" } : Jvm.MethodName)) ∈ zTB := List.mem_filter.mpr ⟨List.mem_append_right _ (List.mem_append_right _ (List.mem_append_right _ (List.mem_append_right _ (List.mem_append_right _ (List.mem_append_right _ (List.mem_append_right _ (List.mem_append_right _ (List.mem_append_left _ (List.mem_of_getElem? (i := 194) rfl))))))))), rfl⟩
theorem wd_1876 : (Jvm.Cond.instanceMethod ({ cls := "ParlourLeavesModel", name := "oneDay", desc := "()V" } : Jvm.MethodName)) ∈ zTB := List.mem_filter.mpr ⟨List.mem_append_right _ (List.mem_append_right _ (List.mem_append_right _ (List.mem_append_right _ (List.mem_append_right _ (List.mem_append_right _ (List.mem_append_right _ (List.mem_append_right _ (List.mem_append_left _ (List.mem_of_getElem? (i := 196) rfl))))))))), rfl⟩
theorem wd_1877 : (Jvm.Cond.code ({ cls := "ParlourLeavesModel", name := "oneDay", desc := "()V" } : Jvm.MethodName) prog_14_method_72_code (2 : Nat) (Option.none : Option Jvm.ClassFile.FieldType)) ∈ zTB := List.mem_filter.mpr ⟨List.mem_append_right _ (List.mem_append_right _ (List.mem_append_right _ (List.mem_append_right _ (List.mem_append_right _ (List.mem_append_right _ (List.mem_append_right _ (List.mem_append_right _ (List.mem_append_left _ (List.mem_of_getElem? (i := 197) rfl))))))))), rfl⟩
theorem wp_4_8 : Cond.selects "ParlourLeavesModel" (⟨"ParlourLeavesModel", "around", "(I)I"⟩ : MethodName) (⟨"ParlourLeavesModel", "around", "(I)I"⟩ : MethodName) ∈ zTB := List.mem_filter.mpr ⟨List.mem_append_left _ (List.mem_map.mpr ⟨((⟨"ParlourLeavesModel", "around", "(I)I"⟩ : MethodName), 45), (List.mem_append_right _ (List.mem_append_right _ (List.mem_append_right _ (List.mem_append_left _ (List.mem_of_getElem? (i := 8) rfl))))), rfl⟩), rfl⟩
theorem wp_5_9 : Cond.selects "ParlourLeavesModel" (⟨"ParlourLeavesModel", "doDeed", "(III)V"⟩ : MethodName) (⟨"ParlourLeavesModel", "doDeed", "(III)V"⟩ : MethodName) ∈ zTB := List.mem_filter.mpr ⟨List.mem_append_left _ (List.mem_map.mpr ⟨((⟨"ParlourLeavesModel", "doDeed", "(III)V"⟩ : MethodName), 45), (List.mem_append_right _ (List.mem_append_right _ (List.mem_append_right _ (List.mem_append_right _ (List.mem_append_left _ (List.mem_of_getElem? (i := 9) rfl)))))), rfl⟩), rfl⟩
theorem wp_3_2 : Cond.selects "ParlourLeavesModel" (⟨"ParlourLeavesModel", "go", "()V"⟩ : MethodName) (⟨"ParlourLeavesModel", "go", "()V"⟩ : MethodName) ∈ zTB := List.mem_filter.mpr ⟨List.mem_append_left _ (List.mem_map.mpr ⟨((⟨"ParlourLeavesModel", "go", "()V"⟩ : MethodName), 45), (List.mem_append_right _ (List.mem_append_right _ (List.mem_append_left _ (List.mem_of_getElem? (i := 2) rfl)))), rfl⟩), rfl⟩
theorem wp_4_6 : Cond.selects "ParlourLeavesModel" (⟨"ParlourLeavesModel", "isFern", "(I)Z"⟩ : MethodName) (⟨"ParlourLeavesModel", "isFern", "(I)Z"⟩ : MethodName) ∈ zTB := List.mem_filter.mpr ⟨List.mem_append_left _ (List.mem_map.mpr ⟨((⟨"ParlourLeavesModel", "isFern", "(I)Z"⟩ : MethodName), 45), (List.mem_append_right _ (List.mem_append_right _ (List.mem_append_right _ (List.mem_append_left _ (List.mem_of_getElem? (i := 6) rfl))))), rfl⟩), rfl⟩
theorem wp_5_8 : Cond.selects "ParlourLeavesModel" (⟨"ParlourLeavesModel", "live", "(IIII)V"⟩ : MethodName) (⟨"ParlourLeavesModel", "live", "(IIII)V"⟩ : MethodName) ∈ zTB := List.mem_filter.mpr ⟨List.mem_append_left _ (List.mem_map.mpr ⟨((⟨"ParlourLeavesModel", "live", "(IIII)V"⟩ : MethodName), 45), (List.mem_append_right _ (List.mem_append_right _ (List.mem_append_right _ (List.mem_append_right _ (List.mem_append_left _ (List.mem_of_getElem? (i := 8) rfl)))))), rfl⟩), rfl⟩
theorem wp_5_10 : Cond.selects "ParlourLeavesModel" (⟨"ParlourLeavesModel", "nextLeaf", "(I)I"⟩ : MethodName) (⟨"ParlourLeavesModel", "nextLeaf", "(I)I"⟩ : MethodName) ∈ zTB := List.mem_filter.mpr ⟨List.mem_append_left _ (List.mem_map.mpr ⟨((⟨"ParlourLeavesModel", "nextLeaf", "(I)I"⟩ : MethodName), 45), (List.mem_append_right _ (List.mem_append_right _ (List.mem_append_right _ (List.mem_append_right _ (List.mem_append_left _ (List.mem_of_getElem? (i := 10) rfl)))))), rfl⟩), rfl⟩
theorem wp_5_12 : Cond.selects "ParlourLeavesModel" (⟨"ParlourLeavesModel", "oneDay", "()V"⟩ : MethodName) (⟨"ParlourLeavesModel", "oneDay", "()V"⟩ : MethodName) ∈ zTB := List.mem_filter.mpr ⟨List.mem_append_left _ (List.mem_map.mpr ⟨((⟨"ParlourLeavesModel", "oneDay", "()V"⟩ : MethodName), 45), (List.mem_append_right _ (List.mem_append_right _ (List.mem_append_right _ (List.mem_append_right _ (List.mem_append_left _ (List.mem_of_getElem? (i := 12) rfl)))))), rfl⟩), rfl⟩
theorem wp_5_11 : Cond.selects "ParlourLeavesModel" (⟨"ParlourLeavesModel", "passDays", "(I)I"⟩ : MethodName) (⟨"ParlourLeavesModel", "passDays", "(I)I"⟩ : MethodName) ∈ zTB := List.mem_filter.mpr ⟨List.mem_append_left _ (List.mem_map.mpr ⟨((⟨"ParlourLeavesModel", "passDays", "(I)I"⟩ : MethodName), 45), (List.mem_append_right _ (List.mem_append_right _ (List.mem_append_right _ (List.mem_append_right _ (List.mem_append_left _ (List.mem_of_getElem? (i := 11) rfl)))))), rfl⟩), rfl⟩
theorem wp_4_7 : Cond.selects "ParlourLeavesModel" (⟨"ParlourLeavesModel", "seesOf", "(II)I"⟩ : MethodName) (⟨"ParlourLeavesModel", "seesOf", "(II)I"⟩ : MethodName) ∈ zTB := List.mem_filter.mpr ⟨List.mem_append_left _ (List.mem_map.mpr ⟨((⟨"ParlourLeavesModel", "seesOf", "(II)I"⟩ : MethodName), 45), (List.mem_append_right _ (List.mem_append_right _ (List.mem_append_right _ (List.mem_append_left _ (List.mem_of_getElem? (i := 7) rfl))))), rfl⟩), rfl⟩
theorem wp_3_1 : Cond.selects "ParlourLeavesModel" (⟨"ParlourLeavesModel", "take", "()I"⟩ : MethodName) (⟨"ParlourLeavesModel", "take", "()I"⟩ : MethodName) ∈ zTB := List.mem_filter.mpr ⟨List.mem_append_left _ (List.mem_map.mpr ⟨((⟨"ParlourLeavesModel", "take", "()I"⟩ : MethodName), 45), (List.mem_append_right _ (List.mem_append_right _ (List.mem_append_left _ (List.mem_of_getElem? (i := 1) rfl)))), rfl⟩), rfl⟩
theorem wp_5_6 : Cond.selects "ParlourLeavesModel" (⟨"ParlourLeavesModel", "why", "(III)I"⟩ : MethodName) (⟨"ParlourLeavesModel", "why", "(III)I"⟩ : MethodName) ∈ zTB := List.mem_filter.mpr ⟨List.mem_append_left _ (List.mem_map.mpr ⟨((⟨"ParlourLeavesModel", "why", "(III)I"⟩ : MethodName), 45), (List.mem_append_right _ (List.mem_append_right _ (List.mem_append_right _ (List.mem_append_right _ (List.mem_append_left _ (List.mem_of_getElem? (i := 6) rfl)))))), rfl⟩), rfl⟩
theorem dn_X12_take : zDn yX12_take 0 := ⟨by decide, by decide, by decide +kernel⟩
theorem dn_X12_go : zDn yX12_go 0 := ⟨by decide, by decide, by decide +kernel⟩
theorem zs_158 : (Int16.ofInt (158)).toInt32 = (158 : Int32) := by decide
theorem zb_17 : (Int8.ofInt (17)).toInt32 = (17 : Int32) := by decide
theorem zb_23 : (Int8.ofInt (23)).toInt32 = (23 : Int32) := by decide
theorem dn_X12_has : zDn yX12_has 2 := ⟨by decide, by decide, by decide +kernel⟩
theorem dn_X12_isFern : zDn yX12_isFern 1 := ⟨by decide, by decide, by decide +kernel⟩
theorem zb_26 : (Int8.ofInt (26)).toInt32 = (26 : Int32) := by decide
theorem dn_X12_around : zDn yX12_around 1 := ⟨by decide, by decide, by decide +kernel⟩
theorem dn_X12_seesOf : zDn yX12_seesOf 2 := ⟨by decide, by decide, by decide +kernel⟩
theorem dn_X12_nextLeaf : zDn yX12_nextLeaf 1 := ⟨by decide, by decide, by decide +kernel⟩
theorem dn_X12_doDeed : zDn yX12_doDeed 3 := ⟨by decide, by decide, by decide +kernel⟩
theorem dn_X12_least : zDn yX12_least 2 := ⟨by decide, by decide, by decide +kernel⟩
theorem dn_X12_oneDay : zDn yX12_oneDay 0 := ⟨by decide, by decide, by decide +kernel⟩
theorem dn_X12_why : zDn yX12_why 3 := ⟨by decide, by decide, by decide +kernel⟩
theorem dn_X12_live : zDn yX12_live 4 := ⟨by decide, by decide, by decide +kernel⟩
theorem dn_X12_passDays : zDn yX12_passDays 1 := ⟨by decide, by decide, by decide +kernel⟩
theorem zs_140 : (Int16.ofInt (140)).toInt32 = (140 : Int32) := by decide
theorem zb_112 : (Int8.ofInt (112)).toInt32 = (112 : Int32) := by decide
theorem zb_114 : (Int8.ofInt (114)).toInt32 = (114 : Int32) := by decide
theorem zb_108 : (Int8.ofInt (108)).toInt32 = (108 : Int32) := by decide
theorem zb_111 : (Int8.ofInt (111)).toInt32 = (111 : Int32) := by decide
theorem zb_117 : (Int8.ofInt (117)).toInt32 = (117 : Int32) := by decide
theorem dn_X12_spelt : zDn yX12_spelt 7 := ⟨by decide, by decide, by decide +kernel⟩
theorem zb_115 : (Int8.ofInt (115)).toInt32 = (115 : Int32) := by decide
theorem zb_105 : (Int8.ofInt (105)).toInt32 = (105 : Int32) := by decide
theorem zb_104 : (Int8.ofInt (104)).toInt32 = (104 : Int32) := by decide
theorem zb_116 : (Int8.ofInt (116)).toInt32 = (116 : Int32) := by decide
theorem zb_110 : (Int8.ofInt (110)).toInt32 = (110 : Int32) := by decide
theorem zb_121 : (Int8.ofInt (121)).toInt32 = (121 : Int32) := by decide
theorem zb_98 : (Int8.ofInt (98)).toInt32 = (98 : Int32) := by decide
theorem zb_118 : (Int8.ofInt (118)).toInt32 = (118 : Int32) := by decide
theorem zb_109 : (Int8.ofInt (109)).toInt32 = (109 : Int32) := by decide
theorem lk_X12_11 : zLk RX12 11 13 2 := ⟨"ParlourLeavesModel", RX12, TX12, 45, rfl, by decide, wsin_X12, wd_1487, rfl⟩
theorem lq_X12_11 : zLq RX12 11 13 2 .int := ⟨"ParlourLeavesModel", RX12, TX12, 45, tyX12, rfl, by decide, wsin_X12, wd_1487, rfl, rfl, by decide +kernel, tyX12_ok, nmX12⟩
theorem cv_X12_89 : zCV RX12 RX12 89 yX12_take cX12_take 2 (some .int) 0 := ⟨rfl, dn_X12_take, wd_1629, wd_1631, wp_3_1, wd_19, wd_1632⟩
theorem lq_X12_18 : zLq RX12 18 13 3 .int := ⟨"ParlourLeavesModel", RX12, TX12, 45, tyX12, rfl, by decide, wsin_X12, wd_1488, rfl, rfl, by decide +kernel, tyX12_ok, nmX12⟩
theorem lq_X12_27 : zLq RX12 27 13 4 .int := ⟨"ParlourLeavesModel", RX12, TX12, 45, tyX12, rfl, by decide, wsin_X12, wd_1489, rfl, rfl, by decide +kernel, tyX12_ok, nmX12⟩
theorem cv_X12_82 : zCV RX12 RX12 82 yX12_go cX12_go 5 none 0 := ⟨rfl, dn_X12_go, wd_1633, wd_1635, wp_3_2, wd_19, wd_1636⟩
theorem cv_X12_181 : zCS RX12 181 yX12_has cX12_has 2 (some .boolean) 2 := ⟨dn_X12_has, wd_1698, wd_1699, wd_19, wd_1700⟩
theorem cv_X12_218 : zCV RX12 RX12 218 yX12_isFern cX12_isFern 2 (some .boolean) 1 := ⟨rfl, dn_X12_isFern, wd_1744, wd_1746, wp_4_6, wd_19, wd_1747⟩
theorem cv_X12_221 : zCV RX12 RX12 221 yX12_around cX12_around 2 (some .int) 1 := ⟨rfl, dn_X12_around, wd_1752, wd_1754, wp_4_8, wd_19, wd_1755⟩
theorem cv_X12_250 : zCV RX12 RX12 250 yX12_seesOf cX12_seesOf 3 (some .int) 2 := ⟨rfl, dn_X12_seesOf, wd_1748, wd_1750, wp_4_7, wd_19, wd_1751⟩
theorem cv_X12_268 : zCV RX12 RX12 268 yX12_nextLeaf cX12_nextLeaf 2 (some .int) 1 := ⟨rfl, dn_X12_nextLeaf, wd_1847, wd_1849, wp_5_10, wd_19, wd_1850⟩
theorem cv_X12_271 : zCV RX12 RX12 271 yX12_doDeed cX12_doDeed 6 none 3 := ⟨rfl, dn_X12_doDeed, wd_1843, wd_1845, wp_5_9, wd_19, wd_1846⟩
theorem cv_X12_296 : zCS RX12 296 yX12_least cX12_least 2 (some .int) 2 := ⟨dn_X12_least, wd_1871, wd_1872, wd_19, wd_1873⟩
theorem cv_X12_299 : zCV RX12 RX12 299 yX12_oneDay cX12_oneDay 2 none 0 := ⟨rfl, dn_X12_oneDay, wd_1874, wd_1876, wp_5_12, wd_19, wd_1877⟩
theorem lk_X12_148 : zLk RX12 148 13 36 := ⟨"ParlourLeavesModel", RX12, TX12, 45, rfl, by decide, wsin_X12, wd_1521, rfl⟩
theorem cv_X12_275 : zCV RX12 RX12 275 yX12_why cX12_why 4 (some .int) 3 := ⟨rfl, dn_X12_why, wd_1831, wd_1833, wp_5_6, wd_19, wd_1834⟩
theorem cv_X12_282 : zCV RX12 RX12 282 yX12_live cX12_live 5 none 4 := ⟨rfl, dn_X12_live, wd_1839, wd_1841, wp_5_8, wd_19, wd_1842⟩
theorem cv_X12_302 : zCV RX12 RX12 302 yX12_passDays cX12_passDays 4 (some .int) 1 := ⟨rfl, dn_X12_passDays, wd_1867, wd_1869, wp_5_11, wd_19, wd_1870⟩
theorem lk_X12_110 : zLk RX12 110 13 18 := ⟨"ParlourLeavesModel", RX12, TX12, 45, rfl, by decide, wsin_X12, wd_1503, rfl⟩
theorem cv_X12_58 : zCS RX12 58 yX12_spelt cX12_spelt 9 (some .long) 7 := ⟨dn_X12_spelt, wd_1660, wd_1661, wd_19, wd_1662⟩
theorem dX12_take_0 : decode cX12_take 0 = .ok (.aload_n 0, 1) := by decide +kernel
theorem dX12_take_1 : decode cX12_take 1 = .ok (.getfield 11, 3) := by decide +kernel
theorem dX12_take_4 : decode cX12_take 4 = .ok (.istore_n 1, 1) := by decide +kernel
theorem dX12_take_5 : decode cX12_take 5 = .ok (.aload_n 0, 1) := by decide +kernel
theorem dX12_take_6 : decode cX12_take 6 = .ok (.iconst 0, 1) := by decide +kernel
theorem dX12_take_7 : decode cX12_take 7 = .ok (.putfield 11, 3) := by decide +kernel
theorem dX12_take_10 : decode cX12_take 10 = .ok (.iload_n 1, 1) := by decide +kernel
theorem dX12_take_11 : decode cX12_take 11 = .ok (.ireturn, 1) := by decide +kernel
theorem dX12_begin_0 : decode cX12_begin 0 = .ok (.aload_n 0, 1) := by decide +kernel
theorem dX12_begin_1 : decode cX12_begin 1 = .ok (.iconst 0, 1) := by decide +kernel
theorem dX12_begin_2 : decode cX12_begin 2 = .ok (.putfield 1, 3) := by decide +kernel
theorem dX12_begin_5 : decode cX12_begin 5 = .ok (.aload_n 0, 1) := by decide +kernel
theorem dX12_begin_6 : decode cX12_begin 6 = .ok (.aload_n 0, 1) := by decide +kernel
theorem dX12_begin_7 : decode cX12_begin 7 = .ok (.invokevirtual 89, 3) := by decide +kernel
theorem dX12_begin_10 : decode cX12_begin 10 = .ok (.putfield 18, 3) := by decide +kernel
theorem dX12_begin_13 : decode cX12_begin 13 = .ok (.aload_n 0, 1) := by decide +kernel
theorem dX12_begin_14 : decode cX12_begin 14 = .ok (.iload_n 1, 1) := by decide +kernel
theorem dX12_begin_15 : decode cX12_begin 15 = .ok (.putfield 27, 3) := by decide +kernel
theorem dX12_begin_18 : decode cX12_begin 18 = .ok (.aload_n 0, 1) := by decide +kernel
theorem dX12_begin_19 : decode cX12_begin 19 = .ok (.iconst 0, 1) := by decide +kernel
theorem dX12_begin_20 : decode cX12_begin 20 = .ok (.putfield 66, 3) := by decide +kernel
theorem dX12_begin_23 : decode cX12_begin 23 = .ok (.aload_n 0, 1) := by decide +kernel
theorem dX12_begin_24 : decode cX12_begin 24 = .ok (.iconst 0, 1) := by decide +kernel
theorem dX12_begin_25 : decode cX12_begin 25 = .ok (.putfield 21, 3) := by decide +kernel
theorem dX12_begin_28 : decode cX12_begin 28 = .ok (.aload_n 0, 1) := by decide +kernel
theorem dX12_begin_29 : decode cX12_begin 29 = .ok (.invokevirtual 82, 3) := by decide +kernel
theorem dX12_begin_32 : decode cX12_begin 32 = .ok (.return_, 1) := by decide +kernel
theorem dX12_has_0 : decode cX12_has 0 = .ok (.iload_n 0, 1) := by decide +kernel
theorem dX12_has_1 : decode cX12_has 1 = .ok (.iload_n 1, 1) := by decide +kernel
theorem dX12_has_2 : decode cX12_has 2 = .ok (.ishr, 1) := by decide +kernel
theorem dX12_has_3 : decode cX12_has 3 = .ok (.iconst 1, 1) := by decide +kernel
theorem dX12_has_4 : decode cX12_has 4 = .ok (.iand, 1) := by decide +kernel
theorem dX12_has_5 : decode cX12_has 5 = .ok (.iconst 1, 1) := by decide +kernel
theorem dX12_has_6 : decode cX12_has 6 = .ok (.if_icmp .ne 7, 3) := by decide +kernel
theorem dX12_has_9 : decode cX12_has 9 = .ok (.iconst 1, 1) := by decide +kernel
theorem dX12_has_10 : decode cX12_has 10 = .ok (.goto 4, 3) := by decide +kernel
theorem dX12_has_13 : decode cX12_has 13 = .ok (.iconst 0, 1) := by decide +kernel
theorem dX12_has_14 : decode cX12_has 14 = .ok (.ireturn, 1) := by decide +kernel
theorem dX12_nextLeaf_0 : decode cX12_nextLeaf 0 = .ok (.aload_n 0, 1) := by decide +kernel
theorem dX12_nextLeaf_1 : decode cX12_nextLeaf 1 = .ok (.getfield 98, 3) := by decide +kernel
theorem dX12_nextLeaf_4 : decode cX12_nextLeaf 4 = .ok (.sipush 158, 3) := by decide +kernel
theorem dX12_nextLeaf_7 : decode cX12_nextLeaf 7 = .ok (.iload_n 1, 1) := by decide +kernel
theorem dX12_nextLeaf_8 : decode cX12_nextLeaf 8 = .ok (.iadd, 1) := by decide +kernel
theorem dX12_nextLeaf_9 : decode cX12_nextLeaf 9 = .ok (.iaload, 1) := by decide +kernel
theorem dX12_nextLeaf_10 : decode cX12_nextLeaf 10 = .ok (.aload_n 0, 1) := by decide +kernel
theorem dX12_nextLeaf_11 : decode cX12_nextLeaf 11 = .ok (.getfield 98, 3) := by decide +kernel
theorem dX12_nextLeaf_14 : decode cX12_nextLeaf 14 = .ok (.bipush 24, 2) := by decide +kernel
theorem dX12_nextLeaf_16 : decode cX12_nextLeaf 16 = .ok (.iaload, 1) := by decide +kernel
theorem dX12_nextLeaf_17 : decode cX12_nextLeaf 17 = .ok (.if_icmp .le 16, 3) := by decide +kernel
theorem dX12_nextLeaf_20 : decode cX12_nextLeaf 20 = .ok (.aload_n 0, 1) := by decide +kernel
theorem dX12_nextLeaf_21 : decode cX12_nextLeaf 21 = .ok (.getfield 98, 3) := by decide +kernel
theorem dX12_nextLeaf_24 : decode cX12_nextLeaf 24 = .ok (.sipush 158, 3) := by decide +kernel
theorem dX12_nextLeaf_27 : decode cX12_nextLeaf 27 = .ok (.iload_n 1, 1) := by decide +kernel
theorem dX12_nextLeaf_28 : decode cX12_nextLeaf 28 = .ok (.iadd, 1) := by decide +kernel
theorem dX12_nextLeaf_29 : decode cX12_nextLeaf 29 = .ok (.iaload, 1) := by decide +kernel
theorem dX12_nextLeaf_30 : decode cX12_nextLeaf 30 = .ok (.goto 10, 3) := by decide +kernel
theorem dX12_nextLeaf_33 : decode cX12_nextLeaf 33 = .ok (.aload_n 0, 1) := by decide +kernel
theorem dX12_nextLeaf_34 : decode cX12_nextLeaf 34 = .ok (.getfield 98, 3) := by decide +kernel
theorem dX12_nextLeaf_37 : decode cX12_nextLeaf 37 = .ok (.bipush 24, 2) := by decide +kernel
theorem dX12_nextLeaf_39 : decode cX12_nextLeaf 39 = .ok (.iaload, 1) := by decide +kernel
theorem dX12_nextLeaf_40 : decode cX12_nextLeaf 40 = .ok (.aload_n 0, 1) := by decide +kernel
theorem dX12_nextLeaf_41 : decode cX12_nextLeaf 41 = .ok (.getfield 98, 3) := by decide +kernel
theorem dX12_nextLeaf_44 : decode cX12_nextLeaf 44 = .ok (.bipush 17, 2) := by decide +kernel
theorem dX12_nextLeaf_46 : decode cX12_nextLeaf 46 = .ok (.iload_n 1, 1) := by decide +kernel
theorem dX12_nextLeaf_47 : decode cX12_nextLeaf 47 = .ok (.iadd, 1) := by decide +kernel
theorem dX12_nextLeaf_48 : decode cX12_nextLeaf 48 = .ok (.iaload, 1) := by decide +kernel
theorem dX12_nextLeaf_49 : decode cX12_nextLeaf 49 = .ok (.iadd, 1) := by decide +kernel
theorem dX12_nextLeaf_50 : decode cX12_nextLeaf 50 = .ok (.ireturn, 1) := by decide +kernel
theorem dX12_isFern_0 : decode cX12_isFern 0 = .ok (.aload_n 0, 1) := by decide +kernel
theorem dX12_isFern_1 : decode cX12_isFern 1 = .ok (.getfield 98, 3) := by decide +kernel
theorem dX12_isFern_4 : decode cX12_isFern 4 = .ok (.bipush 23, 2) := by decide +kernel
theorem dX12_isFern_6 : decode cX12_isFern 6 = .ok (.iaload, 1) := by decide +kernel
theorem dX12_isFern_7 : decode cX12_isFern 7 = .ok (.iload_n 1, 1) := by decide +kernel
theorem dX12_isFern_8 : decode cX12_isFern 8 = .ok (.invokestatic 181, 3) := by decide +kernel
theorem dX12_isFern_11 : decode cX12_isFern 11 = .ok (.ireturn, 1) := by decide +kernel
theorem dX12_seesOf_0 : decode cX12_seesOf 0 = .ok (.aload_n 0, 1) := by decide +kernel
theorem dX12_seesOf_1 : decode cX12_seesOf 1 = .ok (.iload_n 1, 1) := by decide +kernel
theorem dX12_seesOf_2 : decode cX12_seesOf 2 = .ok (.invokevirtual 218, 3) := by decide +kernel
theorem dX12_seesOf_5 : decode cX12_seesOf 5 = .ok (.ifCond .ne 23, 3) := by decide +kernel
theorem dX12_seesOf_8 : decode cX12_seesOf 8 = .ok (.aload_n 0, 1) := by decide +kernel
theorem dX12_seesOf_9 : decode cX12_seesOf 9 = .ok (.getfield 98, 3) := by decide +kernel
theorem dX12_seesOf_12 : decode cX12_seesOf 12 = .ok (.bipush 32, 2) := by decide +kernel
theorem dX12_seesOf_14 : decode cX12_seesOf 14 = .ok (.iload_n 1, 1) := by decide +kernel
theorem dX12_seesOf_15 : decode cX12_seesOf 15 = .ok (.iadd, 1) := by decide +kernel
theorem dX12_seesOf_16 : decode cX12_seesOf 16 = .ok (.iaload, 1) := by decide +kernel
theorem dX12_seesOf_17 : decode cX12_seesOf 17 = .ok (.iload_n 2, 1) := by decide +kernel
theorem dX12_seesOf_18 : decode cX12_seesOf 18 = .ok (.iadd, 1) := by decide +kernel
theorem dX12_seesOf_19 : decode cX12_seesOf 19 = .ok (.aload_n 0, 1) := by decide +kernel
theorem dX12_seesOf_20 : decode cX12_seesOf 20 = .ok (.getfield 98, 3) := by decide +kernel
theorem dX12_seesOf_23 : decode cX12_seesOf 23 = .ok (.iconst 4, 1) := by decide +kernel
theorem dX12_seesOf_24 : decode cX12_seesOf 24 = .ok (.iaload, 1) := by decide +kernel
theorem dX12_seesOf_25 : decode cX12_seesOf 25 = .ok (.if_icmp .lt 7, 3) := by decide +kernel
theorem dX12_seesOf_28 : decode cX12_seesOf 28 = .ok (.iconst 0, 1) := by decide +kernel
theorem dX12_seesOf_29 : decode cX12_seesOf 29 = .ok (.goto 16, 3) := by decide +kernel
theorem dX12_seesOf_32 : decode cX12_seesOf 32 = .ok (.aload_n 0, 1) := by decide +kernel
theorem dX12_seesOf_33 : decode cX12_seesOf 33 = .ok (.aload_n 0, 1) := by decide +kernel
theorem dX12_seesOf_34 : decode cX12_seesOf 34 = .ok (.getfield 98, 3) := by decide +kernel
theorem dX12_seesOf_37 : decode cX12_seesOf 37 = .ok (.bipush 26, 2) := by decide +kernel
theorem dX12_seesOf_39 : decode cX12_seesOf 39 = .ok (.iload_n 1, 1) := by decide +kernel
theorem dX12_seesOf_40 : decode cX12_seesOf 40 = .ok (.iadd, 1) := by decide +kernel
theorem dX12_seesOf_41 : decode cX12_seesOf 41 = .ok (.iaload, 1) := by decide +kernel
theorem dX12_seesOf_42 : decode cX12_seesOf 42 = .ok (.invokevirtual 221, 3) := by decide +kernel
theorem dX12_seesOf_45 : decode cX12_seesOf 45 = .ok (.ireturn, 1) := by decide +kernel
theorem dX12_doDeed_0 : decode cX12_doDeed 0 = .ok (.aload_n 0, 1) := by decide +kernel
theorem dX12_doDeed_1 : decode cX12_doDeed 1 = .ok (.getfield 98, 3) := by decide +kernel
theorem dX12_doDeed_4 : decode cX12_doDeed 4 = .ok (.bipush 25, 2) := by decide +kernel
theorem dX12_doDeed_6 : decode cX12_doDeed 6 = .ok (.iaload, 1) := by decide +kernel
theorem dX12_doDeed_7 : decode cX12_doDeed 7 = .ok (.istore 4, 2) := by decide +kernel
theorem dX12_doDeed_9 : decode cX12_doDeed 9 = .ok (.aload_n 0, 1) := by decide +kernel
theorem dX12_doDeed_10 : decode cX12_doDeed 10 = .ok (.getfield 98, 3) := by decide +kernel
theorem dX12_doDeed_13 : decode cX12_doDeed 13 = .ok (.bipush 38, 2) := by decide +kernel
theorem dX12_doDeed_15 : decode cX12_doDeed 15 = .ok (.iload 4, 2) := by decide +kernel
theorem dX12_doDeed_17 : decode cX12_doDeed 17 = .ok (.iadd, 1) := by decide +kernel
theorem dX12_doDeed_18 : decode cX12_doDeed 18 = .ok (.iload_n 1, 1) := by decide +kernel
theorem dX12_doDeed_19 : decode cX12_doDeed 19 = .ok (.iastore, 1) := by decide +kernel
theorem dX12_doDeed_20 : decode cX12_doDeed 20 = .ok (.aload_n 0, 1) := by decide +kernel
theorem dX12_doDeed_21 : decode cX12_doDeed 21 = .ok (.getfield 98, 3) := by decide +kernel
theorem dX12_doDeed_24 : decode cX12_doDeed 24 = .ok (.bipush 50, 2) := by decide +kernel
theorem dX12_doDeed_26 : decode cX12_doDeed 26 = .ok (.iload 4, 2) := by decide +kernel
theorem dX12_doDeed_28 : decode cX12_doDeed 28 = .ok (.iadd, 1) := by decide +kernel
theorem dX12_doDeed_29 : decode cX12_doDeed 29 = .ok (.iload_n 2, 1) := by decide +kernel
theorem dX12_doDeed_30 : decode cX12_doDeed 30 = .ok (.iastore, 1) := by decide +kernel
theorem dX12_doDeed_31 : decode cX12_doDeed 31 = .ok (.aload_n 0, 1) := by decide +kernel
theorem dX12_doDeed_32 : decode cX12_doDeed 32 = .ok (.getfield 98, 3) := by decide +kernel
theorem dX12_doDeed_35 : decode cX12_doDeed 35 = .ok (.bipush 62, 2) := by decide +kernel
theorem dX12_doDeed_37 : decode cX12_doDeed 37 = .ok (.iload 4, 2) := by decide +kernel
theorem dX12_doDeed_39 : decode cX12_doDeed 39 = .ok (.iadd, 1) := by decide +kernel
theorem dX12_doDeed_40 : decode cX12_doDeed 40 = .ok (.iload_n 3, 1) := by decide +kernel
theorem dX12_doDeed_41 : decode cX12_doDeed 41 = .ok (.iastore, 1) := by decide +kernel
theorem dX12_doDeed_42 : decode cX12_doDeed 42 = .ok (.aload_n 0, 1) := by decide +kernel
theorem dX12_doDeed_43 : decode cX12_doDeed 43 = .ok (.getfield 98, 3) := by decide +kernel
theorem dX12_doDeed_46 : decode cX12_doDeed 46 = .ok (.bipush 74, 2) := by decide +kernel
theorem dX12_doDeed_48 : decode cX12_doDeed 48 = .ok (.iload 4, 2) := by decide +kernel
theorem dX12_doDeed_50 : decode cX12_doDeed 50 = .ok (.iadd, 1) := by decide +kernel
theorem dX12_doDeed_51 : decode cX12_doDeed 51 = .ok (.aload_n 0, 1) := by decide +kernel
theorem dX12_doDeed_52 : decode cX12_doDeed 52 = .ok (.getfield 98, 3) := by decide +kernel
theorem dX12_doDeed_55 : decode cX12_doDeed 55 = .ok (.bipush 24, 2) := by decide +kernel
theorem dX12_doDeed_57 : decode cX12_doDeed 57 = .ok (.iaload, 1) := by decide +kernel
theorem dX12_doDeed_58 : decode cX12_doDeed 58 = .ok (.iastore, 1) := by decide +kernel
theorem dX12_doDeed_59 : decode cX12_doDeed 59 = .ok (.aload_n 0, 1) := by decide +kernel
theorem dX12_doDeed_60 : decode cX12_doDeed 60 = .ok (.getfield 98, 3) := by decide +kernel
theorem dX12_doDeed_63 : decode cX12_doDeed 63 = .ok (.bipush 25, 2) := by decide +kernel
theorem dX12_doDeed_65 : decode cX12_doDeed 65 = .ok (.dup2, 1) := by decide +kernel
theorem dX12_doDeed_66 : decode cX12_doDeed 66 = .ok (.iaload, 1) := by decide +kernel
theorem dX12_doDeed_67 : decode cX12_doDeed 67 = .ok (.iconst 1, 1) := by decide +kernel
theorem dX12_doDeed_68 : decode cX12_doDeed 68 = .ok (.iadd, 1) := by decide +kernel
theorem dX12_doDeed_69 : decode cX12_doDeed 69 = .ok (.iastore, 1) := by decide +kernel
theorem dX12_doDeed_70 : decode cX12_doDeed 70 = .ok (.iconst 0, 1) := by decide +kernel
theorem dX12_doDeed_71 : decode cX12_doDeed 71 = .ok (.istore 5, 2) := by decide +kernel
theorem dX12_doDeed_73 : decode cX12_doDeed 73 = .ok (.iload 5, 2) := by decide +kernel
theorem dX12_doDeed_75 : decode cX12_doDeed 75 = .ok (.aload_n 0, 1) := by decide +kernel
theorem dX12_doDeed_76 : decode cX12_doDeed 76 = .ok (.getfield 98, 3) := by decide +kernel
theorem dX12_doDeed_79 : decode cX12_doDeed 79 = .ok (.iconst 1, 1) := by decide +kernel
theorem dX12_doDeed_80 : decode cX12_doDeed 80 = .ok (.iaload, 1) := by decide +kernel
theorem dX12_doDeed_81 : decode cX12_doDeed 81 = .ok (.if_icmp .ge 70, 3) := by decide +kernel
theorem dX12_doDeed_84 : decode cX12_doDeed 84 = .ok (.aload_n 0, 1) := by decide +kernel
theorem dX12_doDeed_85 : decode cX12_doDeed 85 = .ok (.iload 5, 2) := by decide +kernel
theorem dX12_doDeed_87 : decode cX12_doDeed 87 = .ok (.iconst 0, 1) := by decide +kernel
theorem dX12_doDeed_88 : decode cX12_doDeed 88 = .ok (.invokevirtual 250, 3) := by decide +kernel
theorem dX12_doDeed_91 : decode cX12_doDeed 91 = .ok (.iload_n 3, 1) := by decide +kernel
theorem dX12_doDeed_92 : decode cX12_doDeed 92 = .ok (.invokestatic 181, 3) := by decide +kernel
theorem dX12_doDeed_95 : decode cX12_doDeed 95 = .ok (.ifCond .ne 6, 3) := by decide +kernel
theorem dX12_doDeed_98 : decode cX12_doDeed 98 = .ok (.goto 47, 3) := by decide +kernel
theorem dX12_doDeed_101 : decode cX12_doDeed 101 = .ok (.aload_n 0, 1) := by decide +kernel
theorem dX12_doDeed_102 : decode cX12_doDeed 102 = .ok (.getfield 98, 3) := by decide +kernel
theorem dX12_doDeed_105 : decode cX12_doDeed 105 = .ok (.sipush 158, 3) := by decide +kernel
theorem dX12_doDeed_108 : decode cX12_doDeed 108 = .ok (.iload 5, 2) := by decide +kernel
theorem dX12_doDeed_110 : decode cX12_doDeed 110 = .ok (.iadd, 1) := by decide +kernel
theorem dX12_doDeed_111 : decode cX12_doDeed 111 = .ok (.aload_n 0, 1) := by decide +kernel
theorem dX12_doDeed_112 : decode cX12_doDeed 112 = .ok (.iload 5, 2) := by decide +kernel
theorem dX12_doDeed_114 : decode cX12_doDeed 114 = .ok (.invokevirtual 268, 3) := by decide +kernel
theorem dX12_doDeed_117 : decode cX12_doDeed 117 = .ok (.iastore, 1) := by decide +kernel
theorem dX12_doDeed_118 : decode cX12_doDeed 118 = .ok (.aload_n 0, 1) := by decide +kernel
theorem dX12_doDeed_119 : decode cX12_doDeed 119 = .ok (.getfield 98, 3) := by decide +kernel
theorem dX12_doDeed_122 : decode cX12_doDeed 122 = .ok (.bipush 86, 2) := by decide +kernel
theorem dX12_doDeed_124 : decode cX12_doDeed 124 = .ok (.bipush 12, 2) := by decide +kernel
theorem dX12_doDeed_126 : decode cX12_doDeed 126 = .ok (.iload 5, 2) := by decide +kernel
theorem dX12_doDeed_128 : decode cX12_doDeed 128 = .ok (.imul, 1) := by decide +kernel
theorem dX12_doDeed_129 : decode cX12_doDeed 129 = .ok (.iadd, 1) := by decide +kernel
theorem dX12_doDeed_130 : decode cX12_doDeed 130 = .ok (.iload 4, 2) := by decide +kernel
theorem dX12_doDeed_132 : decode cX12_doDeed 132 = .ok (.iadd, 1) := by decide +kernel
theorem dX12_doDeed_133 : decode cX12_doDeed 133 = .ok (.aload_n 0, 1) := by decide +kernel
theorem dX12_doDeed_134 : decode cX12_doDeed 134 = .ok (.getfield 98, 3) := by decide +kernel
theorem dX12_doDeed_137 : decode cX12_doDeed 137 = .ok (.sipush 158, 3) := by decide +kernel
theorem dX12_doDeed_140 : decode cX12_doDeed 140 = .ok (.iload 5, 2) := by decide +kernel
theorem dX12_doDeed_142 : decode cX12_doDeed 142 = .ok (.iadd, 1) := by decide +kernel
theorem dX12_doDeed_143 : decode cX12_doDeed 143 = .ok (.iaload, 1) := by decide +kernel
theorem dX12_doDeed_144 : decode cX12_doDeed 144 = .ok (.iastore, 1) := by decide +kernel
theorem dX12_doDeed_145 : decode cX12_doDeed 145 = .ok (.iinc 5 1, 3) := by decide +kernel
theorem dX12_doDeed_148 : decode cX12_doDeed 148 = .ok (.goto (-75), 3) := by decide +kernel
theorem dX12_doDeed_151 : decode cX12_doDeed 151 = .ok (.return_, 1) := by decide +kernel
theorem dX12_live_0 : decode cX12_live 0 = .ok (.iload_n 1, 1) := by decide +kernel
theorem dX12_live_1 : decode cX12_live 1 = .ok (.lookupswitch 47 #[(0, 27), (1, 36)], 27) := by decide +kernel
theorem dX12_live_28 : decode cX12_live 28 = .ok (.aload_n 0, 1) := by decide +kernel
theorem dX12_live_29 : decode cX12_live 29 = .ok (.iload_n 2, 1) := by decide +kernel
theorem dX12_live_30 : decode cX12_live 30 = .ok (.iload_n 3, 1) := by decide +kernel
theorem dX12_live_31 : decode cX12_live 31 = .ok (.iload 4, 2) := by decide +kernel
theorem dX12_live_33 : decode cX12_live 33 = .ok (.invokevirtual 271, 3) := by decide +kernel
theorem dX12_live_36 : decode cX12_live 36 = .ok (.return_, 1) := by decide +kernel
theorem dX12_live_37 : decode cX12_live 37 = .ok (.aload_n 0, 1) := by decide +kernel
theorem dX12_live_38 : decode cX12_live 38 = .ok (.getfield 98, 3) := by decide +kernel
theorem dX12_live_41 : decode cX12_live 41 = .ok (.bipush 32, 2) := by decide +kernel
theorem dX12_live_43 : decode cX12_live 43 = .ok (.iload_n 2, 1) := by decide +kernel
theorem dX12_live_44 : decode cX12_live 44 = .ok (.iadd, 1) := by decide +kernel
theorem dX12_live_45 : decode cX12_live 45 = .ok (.iconst 0, 1) := by decide +kernel
theorem dX12_live_46 : decode cX12_live 46 = .ok (.iastore, 1) := by decide +kernel
theorem dX12_live_47 : decode cX12_live 47 = .ok (.return_, 1) := by decide +kernel
theorem dX12_live_48 : decode cX12_live 48 = .ok (.aload_n 0, 1) := by decide +kernel
theorem dX12_live_49 : decode cX12_live 49 = .ok (.getfield 98, 3) := by decide +kernel
theorem dX12_live_52 : decode cX12_live 52 = .ok (.bipush 26, 2) := by decide +kernel
theorem dX12_live_54 : decode cX12_live 54 = .ok (.iload_n 2, 1) := by decide +kernel
theorem dX12_live_55 : decode cX12_live 55 = .ok (.iadd, 1) := by decide +kernel
theorem dX12_live_56 : decode cX12_live 56 = .ok (.iload_n 3, 1) := by decide +kernel
theorem dX12_live_57 : decode cX12_live 57 = .ok (.iastore, 1) := by decide +kernel
theorem dX12_live_58 : decode cX12_live 58 = .ok (.return_, 1) := by decide +kernel
theorem dX12_least_0 : decode cX12_least 0 = .ok (.iload_n 0, 1) := by decide +kernel
theorem dX12_least_1 : decode cX12_least 1 = .ok (.iload_n 1, 1) := by decide +kernel
theorem dX12_least_2 : decode cX12_least 2 = .ok (.if_icmp .ge 7, 3) := by decide +kernel
theorem dX12_least_5 : decode cX12_least 5 = .ok (.iload_n 0, 1) := by decide +kernel
theorem dX12_least_6 : decode cX12_least 6 = .ok (.goto 4, 3) := by decide +kernel
theorem dX12_least_9 : decode cX12_least 9 = .ok (.iload_n 1, 1) := by decide +kernel
theorem dX12_least_10 : decode cX12_least 10 = .ok (.ireturn, 1) := by decide +kernel
theorem dX12_oneDay_0 : decode cX12_oneDay 0 = .ok (.iconst 0, 1) := by decide +kernel
theorem dX12_oneDay_1 : decode cX12_oneDay 1 = .ok (.istore_n 1, 1) := by decide +kernel
theorem dX12_oneDay_2 : decode cX12_oneDay 2 = .ok (.iload_n 1, 1) := by decide +kernel
theorem dX12_oneDay_3 : decode cX12_oneDay 3 = .ok (.aload_n 0, 1) := by decide +kernel
theorem dX12_oneDay_4 : decode cX12_oneDay 4 = .ok (.getfield 98, 3) := by decide +kernel
theorem dX12_oneDay_7 : decode cX12_oneDay 7 = .ok (.iconst 1, 1) := by decide +kernel
theorem dX12_oneDay_8 : decode cX12_oneDay 8 = .ok (.iaload, 1) := by decide +kernel
theorem dX12_oneDay_9 : decode cX12_oneDay 9 = .ok (.if_icmp .ge 34, 3) := by decide +kernel
theorem dX12_oneDay_12 : decode cX12_oneDay 12 = .ok (.aload_n 0, 1) := by decide +kernel
theorem dX12_oneDay_13 : decode cX12_oneDay 13 = .ok (.getfield 98, 3) := by decide +kernel
theorem dX12_oneDay_16 : decode cX12_oneDay 16 = .ok (.bipush 32, 2) := by decide +kernel
theorem dX12_oneDay_18 : decode cX12_oneDay 18 = .ok (.iload_n 1, 1) := by decide +kernel
theorem dX12_oneDay_19 : decode cX12_oneDay 19 = .ok (.iadd, 1) := by decide +kernel
theorem dX12_oneDay_20 : decode cX12_oneDay 20 = .ok (.bipush 99, 2) := by decide +kernel
theorem dX12_oneDay_22 : decode cX12_oneDay 22 = .ok (.aload_n 0, 1) := by decide +kernel
theorem dX12_oneDay_23 : decode cX12_oneDay 23 = .ok (.getfield 98, 3) := by decide +kernel
theorem dX12_oneDay_26 : decode cX12_oneDay 26 = .ok (.bipush 32, 2) := by decide +kernel
theorem dX12_oneDay_28 : decode cX12_oneDay 28 = .ok (.iload_n 1, 1) := by decide +kernel
theorem dX12_oneDay_29 : decode cX12_oneDay 29 = .ok (.iadd, 1) := by decide +kernel
theorem dX12_oneDay_30 : decode cX12_oneDay 30 = .ok (.iaload, 1) := by decide +kernel
theorem dX12_oneDay_31 : decode cX12_oneDay 31 = .ok (.iconst 1, 1) := by decide +kernel
theorem dX12_oneDay_32 : decode cX12_oneDay 32 = .ok (.iadd, 1) := by decide +kernel
theorem dX12_oneDay_33 : decode cX12_oneDay 33 = .ok (.invokestatic 296, 3) := by decide +kernel
theorem dX12_oneDay_36 : decode cX12_oneDay 36 = .ok (.iastore, 1) := by decide +kernel
theorem dX12_oneDay_37 : decode cX12_oneDay 37 = .ok (.iinc 1 1, 3) := by decide +kernel
theorem dX12_oneDay_40 : decode cX12_oneDay 40 = .ok (.goto (-38), 3) := by decide +kernel
theorem dX12_oneDay_43 : decode cX12_oneDay 43 = .ok (.aload_n 0, 1) := by decide +kernel
theorem dX12_oneDay_44 : decode cX12_oneDay 44 = .ok (.getfield 98, 3) := by decide +kernel
theorem dX12_oneDay_47 : decode cX12_oneDay 47 = .ok (.bipush 24, 2) := by decide +kernel
theorem dX12_oneDay_49 : decode cX12_oneDay 49 = .ok (.dup2, 1) := by decide +kernel
theorem dX12_oneDay_50 : decode cX12_oneDay 50 = .ok (.iaload, 1) := by decide +kernel
theorem dX12_oneDay_51 : decode cX12_oneDay 51 = .ok (.iconst 1, 1) := by decide +kernel
theorem dX12_oneDay_52 : decode cX12_oneDay 52 = .ok (.iadd, 1) := by decide +kernel
theorem dX12_oneDay_53 : decode cX12_oneDay 53 = .ok (.iastore, 1) := by decide +kernel
theorem dX12_oneDay_54 : decode cX12_oneDay 54 = .ok (.return_, 1) := by decide +kernel
theorem dX12_passDays_0 : decode cX12_passDays 0 = .ok (.iload_n 1, 1) := by decide +kernel
theorem dX12_passDays_1 : decode cX12_passDays 1 = .ok (.sipush 400, 3) := by decide +kernel
theorem dX12_passDays_4 : decode cX12_passDays 4 = .ok (.aload_n 0, 1) := by decide +kernel
theorem dX12_passDays_5 : decode cX12_passDays 5 = .ok (.getfield 98, 3) := by decide +kernel
theorem dX12_passDays_8 : decode cX12_passDays 8 = .ok (.bipush 24, 2) := by decide +kernel
theorem dX12_passDays_10 : decode cX12_passDays 10 = .ok (.iaload, 1) := by decide +kernel
theorem dX12_passDays_11 : decode cX12_passDays 11 = .ok (.isub, 1) := by decide +kernel
theorem dX12_passDays_12 : decode cX12_passDays 12 = .ok (.invokestatic 296, 3) := by decide +kernel
theorem dX12_passDays_15 : decode cX12_passDays 15 = .ok (.istore_n 2, 1) := by decide +kernel
theorem dX12_passDays_16 : decode cX12_passDays 16 = .ok (.iconst 0, 1) := by decide +kernel
theorem dX12_passDays_17 : decode cX12_passDays 17 = .ok (.istore_n 3, 1) := by decide +kernel
theorem dX12_passDays_18 : decode cX12_passDays 18 = .ok (.iload_n 3, 1) := by decide +kernel
theorem dX12_passDays_19 : decode cX12_passDays 19 = .ok (.iload_n 2, 1) := by decide +kernel
theorem dX12_passDays_20 : decode cX12_passDays 20 = .ok (.if_icmp .ge 13, 3) := by decide +kernel
theorem dX12_passDays_23 : decode cX12_passDays 23 = .ok (.aload_n 0, 1) := by decide +kernel
theorem dX12_passDays_24 : decode cX12_passDays 24 = .ok (.invokevirtual 299, 3) := by decide +kernel
theorem dX12_passDays_27 : decode cX12_passDays 27 = .ok (.iinc 3 1, 3) := by decide +kernel
theorem dX12_passDays_30 : decode cX12_passDays 30 = .ok (.goto (-12), 3) := by decide +kernel
theorem dX12_passDays_33 : decode cX12_passDays 33 = .ok (.iload_n 2, 1) := by decide +kernel
theorem dX12_passDays_34 : decode cX12_passDays 34 = .ok (.ireturn, 1) := by decide +kernel
theorem dX12_why_0 : decode cX12_why 0 = .ok (.iload_n 1, 1) := by decide +kernel
theorem dX12_why_1 : decode cX12_why 1 = .ok (.lookupswitch 63 #[(0, 27), (1, 45)], 27) := by decide +kernel
theorem dX12_why_28 : decode cX12_why 28 = .ok (.aload_n 0, 1) := by decide +kernel
theorem dX12_why_29 : decode cX12_why 29 = .ok (.getfield 98, 3) := by decide +kernel
theorem dX12_why_32 : decode cX12_why 32 = .ok (.bipush 25, 2) := by decide +kernel
theorem dX12_why_34 : decode cX12_why 34 = .ok (.iaload, 1) := by decide +kernel
theorem dX12_why_35 : decode cX12_why 35 = .ok (.bipush 12, 2) := by decide +kernel
theorem dX12_why_37 : decode cX12_why 37 = .ok (.if_icmp .ne 7, 3) := by decide +kernel
theorem dX12_why_40 : decode cX12_why 40 = .ok (.iconst 1, 1) := by decide +kernel
theorem dX12_why_41 : decode cX12_why 41 = .ok (.goto 4, 3) := by decide +kernel
theorem dX12_why_44 : decode cX12_why 44 = .ok (.iconst 0, 1) := by decide +kernel
theorem dX12_why_45 : decode cX12_why 45 = .ok (.ireturn, 1) := by decide +kernel
theorem dX12_why_46 : decode cX12_why 46 = .ok (.aload_n 0, 1) := by decide +kernel
theorem dX12_why_47 : decode cX12_why 47 = .ok (.getfield 98, 3) := by decide +kernel
theorem dX12_why_50 : decode cX12_why 50 = .ok (.bipush 32, 2) := by decide +kernel
theorem dX12_why_52 : decode cX12_why 52 = .ok (.iload_n 2, 1) := by decide +kernel
theorem dX12_why_53 : decode cX12_why 53 = .ok (.iadd, 1) := by decide +kernel
theorem dX12_why_54 : decode cX12_why 54 = .ok (.iaload, 1) := by decide +kernel
theorem dX12_why_55 : decode cX12_why 55 = .ok (.ifCond .ne 7, 3) := by decide +kernel
theorem dX12_why_58 : decode cX12_why 58 = .ok (.iconst 1, 1) := by decide +kernel
theorem dX12_why_59 : decode cX12_why 59 = .ok (.goto 4, 3) := by decide +kernel
theorem dX12_why_62 : decode cX12_why 62 = .ok (.iconst 0, 1) := by decide +kernel
theorem dX12_why_63 : decode cX12_why 63 = .ok (.ireturn, 1) := by decide +kernel
theorem dX12_why_64 : decode cX12_why 64 = .ok (.aload_n 0, 1) := by decide +kernel
theorem dX12_why_65 : decode cX12_why 65 = .ok (.getfield 98, 3) := by decide +kernel
theorem dX12_why_68 : decode cX12_why 68 = .ok (.bipush 26, 2) := by decide +kernel
theorem dX12_why_70 : decode cX12_why 70 = .ok (.iload_n 2, 1) := by decide +kernel
theorem dX12_why_71 : decode cX12_why 71 = .ok (.iadd, 1) := by decide +kernel
theorem dX12_why_72 : decode cX12_why 72 = .ok (.iaload, 1) := by decide +kernel
theorem dX12_why_73 : decode cX12_why 73 = .ok (.iload_n 3, 1) := by decide +kernel
theorem dX12_why_74 : decode cX12_why 74 = .ok (.if_icmp .ne 7, 3) := by decide +kernel
theorem dX12_why_77 : decode cX12_why 77 = .ok (.iconst 1, 1) := by decide +kernel
theorem dX12_why_78 : decode cX12_why 78 = .ok (.goto 4, 3) := by decide +kernel
theorem dX12_why_81 : decode cX12_why 81 = .ok (.iconst 0, 1) := by decide +kernel
theorem dX12_why_82 : decode cX12_why 82 = .ok (.ireturn, 1) := by decide +kernel
theorem dX12_goBy_0 : decode cX12_goBy 0 = .ok (.aload_n 0, 1) := by decide +kernel
theorem dX12_goBy_1 : decode cX12_goBy 1 = .ok (.getfield 148, 3) := by decide +kernel
theorem dX12_goBy_4 : decode cX12_goBy 4 = .ok (.iload_n 1, 1) := by decide +kernel
theorem dX12_goBy_5 : decode cX12_goBy 5 = .ok (.iconst 1, 1) := by decide +kernel
theorem dX12_goBy_6 : decode cX12_goBy 6 = .ok (.iadd, 1) := by decide +kernel
theorem dX12_goBy_7 : decode cX12_goBy 7 = .ok (.iaload, 1) := by decide +kernel
theorem dX12_goBy_8 : decode cX12_goBy 8 = .ok (.istore_n 2, 1) := by decide +kernel
theorem dX12_goBy_9 : decode cX12_goBy 9 = .ok (.aload_n 0, 1) := by decide +kernel
theorem dX12_goBy_10 : decode cX12_goBy 10 = .ok (.getfield 148, 3) := by decide +kernel
theorem dX12_goBy_13 : decode cX12_goBy 13 = .ok (.iload_n 1, 1) := by decide +kernel
theorem dX12_goBy_14 : decode cX12_goBy 14 = .ok (.iaload, 1) := by decide +kernel
theorem dX12_goBy_15 : decode cX12_goBy 15 = .ok (.iconst 3, 1) := by decide +kernel
theorem dX12_goBy_16 : decode cX12_goBy 16 = .ok (.if_icmp .ne 29, 3) := by decide +kernel
theorem dX12_goBy_19 : decode cX12_goBy 19 = .ok (.aload_n 0, 1) := by decide +kernel
theorem dX12_goBy_20 : decode cX12_goBy 20 = .ok (.getfield 98, 3) := by decide +kernel
theorem dX12_goBy_23 : decode cX12_goBy 23 = .ok (.bipush 24, 2) := by decide +kernel
theorem dX12_goBy_25 : decode cX12_goBy 25 = .ok (.iaload, 1) := by decide +kernel
theorem dX12_goBy_26 : decode cX12_goBy 26 = .ok (.iload_n 2, 1) := by decide +kernel
theorem dX12_goBy_27 : decode cX12_goBy 27 = .ok (.iadd, 1) := by decide +kernel
theorem dX12_goBy_28 : decode cX12_goBy 28 = .ok (.sipush 400, 3) := by decide +kernel
theorem dX12_goBy_31 : decode cX12_goBy 31 = .ok (.if_icmp .le 6, 3) := by decide +kernel
theorem dX12_goBy_34 : decode cX12_goBy 34 = .ok (.bipush 31, 2) := by decide +kernel
theorem dX12_goBy_36 : decode cX12_goBy 36 = .ok (.ireturn, 1) := by decide +kernel
theorem dX12_goBy_37 : decode cX12_goBy 37 = .ok (.aload_n 0, 1) := by decide +kernel
theorem dX12_goBy_38 : decode cX12_goBy 38 = .ok (.iload_n 2, 1) := by decide +kernel
theorem dX12_goBy_39 : decode cX12_goBy 39 = .ok (.invokevirtual 302, 3) := by decide +kernel
theorem dX12_goBy_42 : decode cX12_goBy 42 = .ok (.pop, 1) := by decide +kernel
theorem dX12_goBy_43 : decode cX12_goBy 43 = .ok (.iconst 0, 1) := by decide +kernel
theorem dX12_goBy_44 : decode cX12_goBy 44 = .ok (.ireturn, 1) := by decide +kernel
theorem dX12_goBy_45 : decode cX12_goBy 45 = .ok (.aload_n 0, 1) := by decide +kernel
theorem dX12_goBy_46 : decode cX12_goBy 46 = .ok (.aload_n 0, 1) := by decide +kernel
theorem dX12_goBy_47 : decode cX12_goBy 47 = .ok (.getfield 148, 3) := by decide +kernel
theorem dX12_goBy_50 : decode cX12_goBy 50 = .ok (.iload_n 1, 1) := by decide +kernel
theorem dX12_goBy_51 : decode cX12_goBy 51 = .ok (.iaload, 1) := by decide +kernel
theorem dX12_goBy_52 : decode cX12_goBy 52 = .ok (.iload_n 2, 1) := by decide +kernel
theorem dX12_goBy_53 : decode cX12_goBy 53 = .ok (.aload_n 0, 1) := by decide +kernel
theorem dX12_goBy_54 : decode cX12_goBy 54 = .ok (.getfield 148, 3) := by decide +kernel
theorem dX12_goBy_57 : decode cX12_goBy 57 = .ok (.iload_n 1, 1) := by decide +kernel
theorem dX12_goBy_58 : decode cX12_goBy 58 = .ok (.iconst 2, 1) := by decide +kernel
theorem dX12_goBy_59 : decode cX12_goBy 59 = .ok (.iadd, 1) := by decide +kernel
theorem dX12_goBy_60 : decode cX12_goBy 60 = .ok (.iaload, 1) := by decide +kernel
theorem dX12_goBy_61 : decode cX12_goBy 61 = .ok (.invokevirtual 275, 3) := by decide +kernel
theorem dX12_goBy_64 : decode cX12_goBy 64 = .ok (.istore_n 3, 1) := by decide +kernel
theorem dX12_goBy_65 : decode cX12_goBy 65 = .ok (.iload_n 3, 1) := by decide +kernel
theorem dX12_goBy_66 : decode cX12_goBy 66 = .ok (.ifCond .eq 15, 3) := by decide +kernel
theorem dX12_goBy_69 : decode cX12_goBy 69 = .ok (.bipush 10, 2) := by decide +kernel
theorem dX12_goBy_71 : decode cX12_goBy 71 = .ok (.aload_n 0, 1) := by decide +kernel
theorem dX12_goBy_72 : decode cX12_goBy 72 = .ok (.getfield 148, 3) := by decide +kernel
theorem dX12_goBy_75 : decode cX12_goBy 75 = .ok (.iload_n 1, 1) := by decide +kernel
theorem dX12_goBy_76 : decode cX12_goBy 76 = .ok (.iaload, 1) := by decide +kernel
theorem dX12_goBy_77 : decode cX12_goBy 77 = .ok (.imul, 1) := by decide +kernel
theorem dX12_goBy_78 : decode cX12_goBy 78 = .ok (.iload_n 3, 1) := by decide +kernel
theorem dX12_goBy_79 : decode cX12_goBy 79 = .ok (.iadd, 1) := by decide +kernel
theorem dX12_goBy_80 : decode cX12_goBy 80 = .ok (.ireturn, 1) := by decide +kernel
theorem dX12_goBy_81 : decode cX12_goBy 81 = .ok (.aload_n 0, 1) := by decide +kernel
theorem dX12_goBy_82 : decode cX12_goBy 82 = .ok (.aload_n 0, 1) := by decide +kernel
theorem dX12_goBy_83 : decode cX12_goBy 83 = .ok (.getfield 148, 3) := by decide +kernel
theorem dX12_goBy_86 : decode cX12_goBy 86 = .ok (.iload_n 1, 1) := by decide +kernel
theorem dX12_goBy_87 : decode cX12_goBy 87 = .ok (.iaload, 1) := by decide +kernel
theorem dX12_goBy_88 : decode cX12_goBy 88 = .ok (.iload_n 2, 1) := by decide +kernel
theorem dX12_goBy_89 : decode cX12_goBy 89 = .ok (.aload_n 0, 1) := by decide +kernel
theorem dX12_goBy_90 : decode cX12_goBy 90 = .ok (.getfield 148, 3) := by decide +kernel
theorem dX12_goBy_93 : decode cX12_goBy 93 = .ok (.iload_n 1, 1) := by decide +kernel
theorem dX12_goBy_94 : decode cX12_goBy 94 = .ok (.iconst 2, 1) := by decide +kernel
theorem dX12_goBy_95 : decode cX12_goBy 95 = .ok (.iadd, 1) := by decide +kernel
theorem dX12_goBy_96 : decode cX12_goBy 96 = .ok (.iaload, 1) := by decide +kernel
theorem dX12_goBy_97 : decode cX12_goBy 97 = .ok (.aload_n 0, 1) := by decide +kernel
theorem dX12_goBy_98 : decode cX12_goBy 98 = .ok (.getfield 148, 3) := by decide +kernel
theorem dX12_goBy_101 : decode cX12_goBy 101 = .ok (.iload_n 1, 1) := by decide +kernel
theorem dX12_goBy_102 : decode cX12_goBy 102 = .ok (.iconst 3, 1) := by decide +kernel
theorem dX12_goBy_103 : decode cX12_goBy 103 = .ok (.iadd, 1) := by decide +kernel
theorem dX12_goBy_104 : decode cX12_goBy 104 = .ok (.iaload, 1) := by decide +kernel
theorem dX12_goBy_105 : decode cX12_goBy 105 = .ok (.invokevirtual 282, 3) := by decide +kernel
theorem dX12_goBy_108 : decode cX12_goBy 108 = .ok (.iconst 0, 1) := by decide +kernel
theorem dX12_goBy_109 : decode cX12_goBy 109 = .ok (.ireturn, 1) := by decide +kernel
theorem dX12_layAside_0 : decode cX12_layAside 0 = .ok (.iconst 0, 1) := by decide +kernel
theorem dX12_layAside_1 : decode cX12_layAside 1 = .ok (.istore_n 1, 1) := by decide +kernel
theorem dX12_layAside_2 : decode cX12_layAside 2 = .ok (.iload_n 1, 1) := by decide +kernel
theorem dX12_layAside_3 : decode cX12_layAside 3 = .ok (.sipush 140, 3) := by decide +kernel
theorem dX12_layAside_6 : decode cX12_layAside 6 = .ok (.if_icmp .ge 24, 3) := by decide +kernel
theorem dX12_layAside_9 : decode cX12_layAside 9 = .ok (.aload_n 0, 1) := by decide +kernel
theorem dX12_layAside_10 : decode cX12_layAside 10 = .ok (.getfield 110, 3) := by decide +kernel
theorem dX12_layAside_13 : decode cX12_layAside 13 = .ok (.iload_n 1, 1) := by decide +kernel
theorem dX12_layAside_14 : decode cX12_layAside 14 = .ok (.aload_n 0, 1) := by decide +kernel
theorem dX12_layAside_15 : decode cX12_layAside 15 = .ok (.getfield 98, 3) := by decide +kernel
theorem dX12_layAside_18 : decode cX12_layAside 18 = .ok (.bipush 24, 2) := by decide +kernel
theorem dX12_layAside_20 : decode cX12_layAside 20 = .ok (.iload_n 1, 1) := by decide +kernel
theorem dX12_layAside_21 : decode cX12_layAside 21 = .ok (.iadd, 1) := by decide +kernel
theorem dX12_layAside_22 : decode cX12_layAside 22 = .ok (.iaload, 1) := by decide +kernel
theorem dX12_layAside_23 : decode cX12_layAside 23 = .ok (.iastore, 1) := by decide +kernel
theorem dX12_layAside_24 : decode cX12_layAside 24 = .ok (.iinc 1 1, 3) := by decide +kernel
theorem dX12_layAside_27 : decode cX12_layAside 27 = .ok (.goto (-25), 3) := by decide +kernel
theorem dX12_layAside_30 : decode cX12_layAside 30 = .ok (.return_, 1) := by decide +kernel
theorem dX12_proved_0 : decode cX12_proved 0 = .ok (.iconst 0, 1) := by decide +kernel
theorem dX12_proved_1 : decode cX12_proved 1 = .ok (.istore_n 1, 1) := by decide +kernel
theorem dX12_proved_2 : decode cX12_proved 2 = .ok (.iconst 0, 1) := by decide +kernel
theorem dX12_proved_3 : decode cX12_proved 3 = .ok (.istore_n 2, 1) := by decide +kernel
theorem dX12_proved_4 : decode cX12_proved 4 = .ok (.iload_n 2, 1) := by decide +kernel
theorem dX12_proved_5 : decode cX12_proved 5 = .ok (.aload_n 0, 1) := by decide +kernel
theorem dX12_proved_6 : decode cX12_proved 6 = .ok (.getfield 98, 3) := by decide +kernel
theorem dX12_proved_9 : decode cX12_proved 9 = .ok (.bipush 25, 2) := by decide +kernel
theorem dX12_proved_11 : decode cX12_proved 11 = .ok (.iaload, 1) := by decide +kernel
theorem dX12_proved_12 : decode cX12_proved 12 = .ok (.if_icmp .ge 23, 3) := by decide +kernel
theorem dX12_proved_15 : decode cX12_proved 15 = .ok (.aload_n 0, 1) := by decide +kernel
theorem dX12_proved_16 : decode cX12_proved 16 = .ok (.iload_n 2, 1) := by decide +kernel
theorem dX12_proved_17 : decode cX12_proved 17 = .ok (.invokevirtual 241, 3) := by decide +kernel
theorem dX12_proved_20 : decode cX12_proved 20 = .ok (.ifCond .eq 9, 3) := by decide +kernel
theorem dX12_proved_23 : decode cX12_proved 23 = .ok (.iload_n 1, 1) := by decide +kernel
theorem dX12_proved_24 : decode cX12_proved 24 = .ok (.iconst 1, 1) := by decide +kernel
theorem dX12_proved_25 : decode cX12_proved 25 = .ok (.iload_n 2, 1) := by decide +kernel
theorem dX12_proved_26 : decode cX12_proved 26 = .ok (.ishl, 1) := by decide +kernel
theorem dX12_proved_27 : decode cX12_proved 27 = .ok (.ior, 1) := by decide +kernel
theorem dX12_proved_28 : decode cX12_proved 28 = .ok (.istore_n 1, 1) := by decide +kernel
theorem dX12_proved_29 : decode cX12_proved 29 = .ok (.iinc 2 1, 3) := by decide +kernel
theorem dX12_proved_32 : decode cX12_proved 32 = .ok (.goto (-28), 3) := by decide +kernel
theorem dX12_proved_35 : decode cX12_proved 35 = .ok (.iload_n 1, 1) := by decide +kernel
theorem dX12_proved_36 : decode cX12_proved 36 = .ok (.ireturn, 1) := by decide +kernel
theorem dX12_findIn_0 : decode cX12_findIn 0 = .ok (.iconst 0, 1) := by decide +kernel
theorem dX12_findIn_1 : decode cX12_findIn 1 = .ok (.istore 5, 2) := by decide +kernel
theorem dX12_findIn_3 : decode cX12_findIn 3 = .ok (.iload 5, 2) := by decide +kernel
theorem dX12_findIn_5 : decode cX12_findIn 5 = .ok (.iload_n 2, 1) := by decide +kernel
theorem dX12_findIn_6 : decode cX12_findIn 6 = .ok (.if_icmp .ge 23, 3) := by decide +kernel
theorem dX12_findIn_9 : decode cX12_findIn 9 = .ok (.aload_n 0, 1) := by decide +kernel
theorem dX12_findIn_10 : decode cX12_findIn 10 = .ok (.iload_n 1, 1) := by decide +kernel
theorem dX12_findIn_11 : decode cX12_findIn 11 = .ok (.iload 5, 2) := by decide +kernel
theorem dX12_findIn_13 : decode cX12_findIn 13 = .ok (.iadd, 1) := by decide +kernel
theorem dX12_findIn_14 : decode cX12_findIn 14 = .ok (.laload, 1) := by decide +kernel
theorem dX12_findIn_15 : decode cX12_findIn 15 = .ok (.lload_n 3, 1) := by decide +kernel
theorem dX12_findIn_16 : decode cX12_findIn 16 = .ok (.lcmp, 1) := by decide +kernel
theorem dX12_findIn_17 : decode cX12_findIn 17 = .ok (.ifCond .ne 6, 3) := by decide +kernel
theorem dX12_findIn_20 : decode cX12_findIn 20 = .ok (.iload 5, 2) := by decide +kernel
theorem dX12_findIn_22 : decode cX12_findIn 22 = .ok (.ireturn, 1) := by decide +kernel
theorem dX12_findIn_23 : decode cX12_findIn 23 = .ok (.iinc 5 1, 3) := by decide +kernel
theorem dX12_findIn_26 : decode cX12_findIn 26 = .ok (.goto (-23), 3) := by decide +kernel
theorem dX12_findIn_29 : decode cX12_findIn 29 = .ok (.iconst (-1), 1) := by decide +kernel
theorem dX12_findIn_30 : decode cX12_findIn 30 = .ok (.ireturn, 1) := by decide +kernel
theorem dX12_spelt_0 : decode cX12_spelt 0 = .ok (.iload_n 0, 1) := by decide +kernel
theorem dX12_spelt_1 : decode cX12_spelt 1 = .ok (.i2l, 1) := by decide +kernel
theorem dX12_spelt_2 : decode cX12_spelt 2 = .ok (.ldc2_w 56, 3) := by decide +kernel
theorem dX12_spelt_5 : decode cX12_spelt 5 = .ok (.lsub, 1) := by decide +kernel
theorem dX12_spelt_6 : decode cX12_spelt 6 = .ok (.lstore 7, 2) := by decide +kernel
theorem dX12_spelt_8 : decode cX12_spelt 8 = .ok (.iload_n 1, 1) := by decide +kernel
theorem dX12_spelt_9 : decode cX12_spelt 9 = .ok (.ifCond .le 18, 3) := by decide +kernel
theorem dX12_spelt_12 : decode cX12_spelt 12 = .ok (.ldc2_w 54, 3) := by decide +kernel
theorem dX12_spelt_15 : decode cX12_spelt 15 = .ok (.lload 7, 2) := by decide +kernel
theorem dX12_spelt_17 : decode cX12_spelt 17 = .ok (.lmul, 1) := by decide +kernel
theorem dX12_spelt_18 : decode cX12_spelt 18 = .ok (.iload_n 1, 1) := by decide +kernel
theorem dX12_spelt_19 : decode cX12_spelt 19 = .ok (.i2l, 1) := by decide +kernel
theorem dX12_spelt_20 : decode cX12_spelt 20 = .ok (.ladd, 1) := by decide +kernel
theorem dX12_spelt_21 : decode cX12_spelt 21 = .ok (.ldc2_w 56, 3) := by decide +kernel
theorem dX12_spelt_24 : decode cX12_spelt 24 = .ok (.lsub, 1) := by decide +kernel
theorem dX12_spelt_25 : decode cX12_spelt 25 = .ok (.lstore 7, 2) := by decide +kernel
theorem dX12_spelt_27 : decode cX12_spelt 27 = .ok (.iload_n 2, 1) := by decide +kernel
theorem dX12_spelt_28 : decode cX12_spelt 28 = .ok (.ifCond .le 18, 3) := by decide +kernel
theorem dX12_spelt_31 : decode cX12_spelt 31 = .ok (.ldc2_w 54, 3) := by decide +kernel
theorem dX12_spelt_34 : decode cX12_spelt 34 = .ok (.lload 7, 2) := by decide +kernel
theorem dX12_spelt_36 : decode cX12_spelt 36 = .ok (.lmul, 1) := by decide +kernel
theorem dX12_spelt_37 : decode cX12_spelt 37 = .ok (.iload_n 2, 1) := by decide +kernel
theorem dX12_spelt_38 : decode cX12_spelt 38 = .ok (.i2l, 1) := by decide +kernel
theorem dX12_spelt_39 : decode cX12_spelt 39 = .ok (.ladd, 1) := by decide +kernel
theorem dX12_spelt_40 : decode cX12_spelt 40 = .ok (.ldc2_w 56, 3) := by decide +kernel
theorem dX12_spelt_43 : decode cX12_spelt 43 = .ok (.lsub, 1) := by decide +kernel
theorem dX12_spelt_44 : decode cX12_spelt 44 = .ok (.lstore 7, 2) := by decide +kernel
theorem dX12_spelt_46 : decode cX12_spelt 46 = .ok (.iload_n 3, 1) := by decide +kernel
theorem dX12_spelt_47 : decode cX12_spelt 47 = .ok (.ifCond .le 18, 3) := by decide +kernel
theorem dX12_spelt_50 : decode cX12_spelt 50 = .ok (.ldc2_w 54, 3) := by decide +kernel
theorem dX12_spelt_53 : decode cX12_spelt 53 = .ok (.lload 7, 2) := by decide +kernel
theorem dX12_spelt_55 : decode cX12_spelt 55 = .ok (.lmul, 1) := by decide +kernel
theorem dX12_spelt_56 : decode cX12_spelt 56 = .ok (.iload_n 3, 1) := by decide +kernel
theorem dX12_spelt_57 : decode cX12_spelt 57 = .ok (.i2l, 1) := by decide +kernel
theorem dX12_spelt_58 : decode cX12_spelt 58 = .ok (.ladd, 1) := by decide +kernel
theorem dX12_spelt_59 : decode cX12_spelt 59 = .ok (.ldc2_w 56, 3) := by decide +kernel
theorem dX12_spelt_62 : decode cX12_spelt 62 = .ok (.lsub, 1) := by decide +kernel
theorem dX12_spelt_63 : decode cX12_spelt 63 = .ok (.lstore 7, 2) := by decide +kernel
theorem dX12_spelt_65 : decode cX12_spelt 65 = .ok (.iload 4, 2) := by decide +kernel
theorem dX12_spelt_67 : decode cX12_spelt 67 = .ok (.ifCond .le 19, 3) := by decide +kernel
theorem dX12_spelt_70 : decode cX12_spelt 70 = .ok (.ldc2_w 54, 3) := by decide +kernel
theorem dX12_spelt_73 : decode cX12_spelt 73 = .ok (.lload 7, 2) := by decide +kernel
theorem dX12_spelt_75 : decode cX12_spelt 75 = .ok (.lmul, 1) := by decide +kernel
theorem dX12_spelt_76 : decode cX12_spelt 76 = .ok (.iload 4, 2) := by decide +kernel
theorem dX12_spelt_78 : decode cX12_spelt 78 = .ok (.i2l, 1) := by decide +kernel
theorem dX12_spelt_79 : decode cX12_spelt 79 = .ok (.ladd, 1) := by decide +kernel
theorem dX12_spelt_80 : decode cX12_spelt 80 = .ok (.ldc2_w 56, 3) := by decide +kernel
theorem dX12_spelt_83 : decode cX12_spelt 83 = .ok (.lsub, 1) := by decide +kernel
theorem dX12_spelt_84 : decode cX12_spelt 84 = .ok (.lstore 7, 2) := by decide +kernel
theorem dX12_spelt_86 : decode cX12_spelt 86 = .ok (.iload 5, 2) := by decide +kernel
theorem dX12_spelt_88 : decode cX12_spelt 88 = .ok (.ifCond .le 19, 3) := by decide +kernel
theorem dX12_spelt_91 : decode cX12_spelt 91 = .ok (.ldc2_w 54, 3) := by decide +kernel
theorem dX12_spelt_94 : decode cX12_spelt 94 = .ok (.lload 7, 2) := by decide +kernel
theorem dX12_spelt_96 : decode cX12_spelt 96 = .ok (.lmul, 1) := by decide +kernel
theorem dX12_spelt_97 : decode cX12_spelt 97 = .ok (.iload 5, 2) := by decide +kernel
theorem dX12_spelt_99 : decode cX12_spelt 99 = .ok (.i2l, 1) := by decide +kernel
theorem dX12_spelt_100 : decode cX12_spelt 100 = .ok (.ladd, 1) := by decide +kernel
theorem dX12_spelt_101 : decode cX12_spelt 101 = .ok (.ldc2_w 56, 3) := by decide +kernel
theorem dX12_spelt_104 : decode cX12_spelt 104 = .ok (.lsub, 1) := by decide +kernel
theorem dX12_spelt_105 : decode cX12_spelt 105 = .ok (.lstore 7, 2) := by decide +kernel
theorem dX12_spelt_107 : decode cX12_spelt 107 = .ok (.iload 6, 2) := by decide +kernel
theorem dX12_spelt_109 : decode cX12_spelt 109 = .ok (.ifCond .le 19, 3) := by decide +kernel
theorem dX12_spelt_112 : decode cX12_spelt 112 = .ok (.ldc2_w 54, 3) := by decide +kernel
theorem dX12_spelt_115 : decode cX12_spelt 115 = .ok (.lload 7, 2) := by decide +kernel
theorem dX12_spelt_117 : decode cX12_spelt 117 = .ok (.lmul, 1) := by decide +kernel
theorem dX12_spelt_118 : decode cX12_spelt 118 = .ok (.iload 6, 2) := by decide +kernel
theorem dX12_spelt_120 : decode cX12_spelt 120 = .ok (.i2l, 1) := by decide +kernel
theorem dX12_spelt_121 : decode cX12_spelt 121 = .ok (.ladd, 1) := by decide +kernel
theorem dX12_spelt_122 : decode cX12_spelt 122 = .ok (.ldc2_w 56, 3) := by decide +kernel
theorem dX12_spelt_125 : decode cX12_spelt 125 = .ok (.lsub, 1) := by decide +kernel
theorem dX12_spelt_126 : decode cX12_spelt 126 = .ok (.lstore 7, 2) := by decide +kernel
theorem dX12_spelt_128 : decode cX12_spelt 128 = .ok (.lload 7, 2) := by decide +kernel
theorem dX12_spelt_130 : decode cX12_spelt 130 = .ok (.lreturn, 1) := by decide +kernel
theorem dX12_wordOf_0 : decode cX12_wordOf 0 = .ok (.iload_n 0, 1) := by decide +kernel
theorem dX12_wordOf_1 : decode cX12_wordOf 1 = .ok (.tableswitch 423 0 20 #[99, 117, 133, 149, 166, 181, 197, 213, 228, 245, 261, 275, 288, 302, 316, 332, 347, 360, 375, 391, 408], 99) := by decide +kernel
theorem dX12_wordOf_100 : decode cX12_wordOf 100 = .ok (.bipush 112, 2) := by decide +kernel
theorem dX12_wordOf_102 : decode cX12_wordOf 102 = .ok (.bipush 97, 2) := by decide +kernel
theorem dX12_wordOf_104 : decode cX12_wordOf 104 = .ok (.bipush 114, 2) := by decide +kernel
theorem dX12_wordOf_106 : decode cX12_wordOf 106 = .ok (.bipush 108, 2) := by decide +kernel
theorem dX12_wordOf_108 : decode cX12_wordOf 108 = .ok (.bipush 111, 2) := by decide +kernel
theorem dX12_wordOf_110 : decode cX12_wordOf 110 = .ok (.bipush 117, 2) := by decide +kernel
theorem dX12_wordOf_112 : decode cX12_wordOf 112 = .ok (.bipush 114, 2) := by decide +kernel
theorem dX12_wordOf_114 : decode cX12_wordOf 114 = .ok (.invokestatic 58, 3) := by decide +kernel
theorem dX12_wordOf_117 : decode cX12_wordOf 117 = .ok (.lreturn, 1) := by decide +kernel
theorem dX12_wordOf_118 : decode cX12_wordOf 118 = .ok (.bipush 115, 2) := by decide +kernel
theorem dX12_wordOf_120 : decode cX12_wordOf 120 = .ok (.bipush 105, 2) := by decide +kernel
theorem dX12_wordOf_122 : decode cX12_wordOf 122 = .ok (.bipush 103, 2) := by decide +kernel
theorem dX12_wordOf_124 : decode cX12_wordOf 124 = .ok (.bipush 104, 2) := by decide +kernel
theorem dX12_wordOf_126 : decode cX12_wordOf 126 = .ok (.bipush 116, 2) := by decide +kernel
theorem dX12_wordOf_128 : decode cX12_wordOf 128 = .ok (.iconst 0, 1) := by decide +kernel
theorem dX12_wordOf_129 : decode cX12_wordOf 129 = .ok (.iconst 0, 1) := by decide +kernel
theorem dX12_wordOf_130 : decode cX12_wordOf 130 = .ok (.invokestatic 58, 3) := by decide +kernel
theorem dX12_wordOf_133 : decode cX12_wordOf 133 = .ok (.lreturn, 1) := by decide +kernel
theorem dX12_wordOf_134 : decode cX12_wordOf 134 = .ok (.bipush 112, 2) := by decide +kernel
theorem dX12_wordOf_136 : decode cX12_wordOf 136 = .ok (.bipush 108, 2) := by decide +kernel
theorem dX12_wordOf_138 : decode cX12_wordOf 138 = .ok (.bipush 97, 2) := by decide +kernel
theorem dX12_wordOf_140 : decode cX12_wordOf 140 = .ok (.bipush 110, 2) := by decide +kernel
theorem dX12_wordOf_142 : decode cX12_wordOf 142 = .ok (.bipush 116, 2) := by decide +kernel
theorem dX12_wordOf_144 : decode cX12_wordOf 144 = .ok (.iconst 0, 1) := by decide +kernel
theorem dX12_wordOf_145 : decode cX12_wordOf 145 = .ok (.iconst 0, 1) := by decide +kernel
theorem dX12_wordOf_146 : decode cX12_wordOf 146 = .ok (.invokestatic 58, 3) := by decide +kernel
theorem dX12_wordOf_149 : decode cX12_wordOf 149 = .ok (.lreturn, 1) := by decide +kernel
theorem dX12_wordOf_150 : decode cX12_wordOf 150 = .ok (.bipush 112, 2) := by decide +kernel
theorem dX12_wordOf_152 : decode cX12_wordOf 152 = .ok (.bipush 101, 2) := by decide +kernel
theorem dX12_wordOf_154 : decode cX12_wordOf 154 = .ok (.bipush 114, 2) := by decide +kernel
theorem dX12_wordOf_156 : decode cX12_wordOf 156 = .ok (.bipush 115, 2) := by decide +kernel
theorem dX12_wordOf_158 : decode cX12_wordOf 158 = .ok (.bipush 111, 2) := by decide +kernel
theorem dX12_wordOf_160 : decode cX12_wordOf 160 = .ok (.bipush 110, 2) := by decide +kernel
theorem dX12_wordOf_162 : decode cX12_wordOf 162 = .ok (.iconst 0, 1) := by decide +kernel
theorem dX12_wordOf_163 : decode cX12_wordOf 163 = .ok (.invokestatic 58, 3) := by decide +kernel
theorem dX12_wordOf_166 : decode cX12_wordOf 166 = .ok (.lreturn, 1) := by decide +kernel
theorem dX12_wordOf_167 : decode cX12_wordOf 167 = .ok (.bipush 100, 2) := by decide +kernel
theorem dX12_wordOf_169 : decode cX12_wordOf 169 = .ok (.bipush 101, 2) := by decide +kernel
theorem dX12_wordOf_171 : decode cX12_wordOf 171 = .ok (.bipush 101, 2) := by decide +kernel
theorem dX12_wordOf_173 : decode cX12_wordOf 173 = .ok (.bipush 100, 2) := by decide +kernel
theorem dX12_wordOf_175 : decode cX12_wordOf 175 = .ok (.iconst 0, 1) := by decide +kernel
theorem dX12_wordOf_176 : decode cX12_wordOf 176 = .ok (.iconst 0, 1) := by decide +kernel
theorem dX12_wordOf_177 : decode cX12_wordOf 177 = .ok (.iconst 0, 1) := by decide +kernel
theorem dX12_wordOf_178 : decode cX12_wordOf 178 = .ok (.invokestatic 58, 3) := by decide +kernel
theorem dX12_wordOf_181 : decode cX12_wordOf 181 = .ok (.lreturn, 1) := by decide +kernel
theorem dX12_wordOf_182 : decode cX12_wordOf 182 = .ok (.bipush 100, 2) := by decide +kernel
theorem dX12_wordOf_184 : decode cX12_wordOf 184 = .ok (.bipush 117, 2) := by decide +kernel
theorem dX12_wordOf_186 : decode cX12_wordOf 186 = .ok (.bipush 115, 2) := by decide +kernel
theorem dX12_wordOf_188 : decode cX12_wordOf 188 = .ok (.bipush 116, 2) := by decide +kernel
theorem dX12_wordOf_190 : decode cX12_wordOf 190 = .ok (.bipush 121, 2) := by decide +kernel
theorem dX12_wordOf_192 : decode cX12_wordOf 192 = .ok (.iconst 0, 1) := by decide +kernel
theorem dX12_wordOf_193 : decode cX12_wordOf 193 = .ok (.iconst 0, 1) := by decide +kernel
theorem dX12_wordOf_194 : decode cX12_wordOf 194 = .ok (.invokestatic 58, 3) := by decide +kernel
theorem dX12_wordOf_197 : decode cX12_wordOf 197 = .ok (.lreturn, 1) := by decide +kernel
theorem dX12_wordOf_198 : decode cX12_wordOf 198 = .ok (.bipush 112, 2) := by decide +kernel
theorem dX12_wordOf_200 : decode cX12_wordOf 200 = .ok (.bipush 114, 2) := by decide +kernel
theorem dX12_wordOf_202 : decode cX12_wordOf 202 = .ok (.bipush 111, 2) := by decide +kernel
theorem dX12_wordOf_204 : decode cX12_wordOf 204 = .ok (.bipush 111, 2) := by decide +kernel
theorem dX12_wordOf_206 : decode cX12_wordOf 206 = .ok (.bipush 102, 2) := by decide +kernel
theorem dX12_wordOf_208 : decode cX12_wordOf 208 = .ok (.iconst 0, 1) := by decide +kernel
theorem dX12_wordOf_209 : decode cX12_wordOf 209 = .ok (.iconst 0, 1) := by decide +kernel
theorem dX12_wordOf_210 : decode cX12_wordOf 210 = .ok (.invokestatic 58, 3) := by decide +kernel
theorem dX12_wordOf_213 : decode cX12_wordOf 213 = .ok (.lreturn, 1) := by decide +kernel
theorem dX12_wordOf_214 : decode cX12_wordOf 214 = .ok (.bipush 100, 2) := by decide +kernel
theorem dX12_wordOf_216 : decode cX12_wordOf 216 = .ok (.bipush 111, 2) := by decide +kernel
theorem dX12_wordOf_218 : decode cX12_wordOf 218 = .ok (.bipush 101, 2) := by decide +kernel
theorem dX12_wordOf_220 : decode cX12_wordOf 220 = .ok (.bipush 115, 2) := by decide +kernel
theorem dX12_wordOf_222 : decode cX12_wordOf 222 = .ok (.iconst 0, 1) := by decide +kernel
theorem dX12_wordOf_223 : decode cX12_wordOf 223 = .ok (.iconst 0, 1) := by decide +kernel
theorem dX12_wordOf_224 : decode cX12_wordOf 224 = .ok (.iconst 0, 1) := by decide +kernel
theorem dX12_wordOf_225 : decode cX12_wordOf 225 = .ok (.invokestatic 58, 3) := by decide +kernel
theorem dX12_wordOf_228 : decode cX12_wordOf 228 = .ok (.lreturn, 1) := by decide +kernel
theorem dX12_wordOf_229 : decode cX12_wordOf 229 = .ok (.bipush 115, 2) := by decide +kernel
theorem dX12_wordOf_231 : decode cX12_wordOf 231 = .ok (.bipush 112, 2) := by decide +kernel
theorem dX12_wordOf_233 : decode cX12_wordOf 233 = .ok (.bipush 111, 2) := by decide +kernel
theorem dX12_wordOf_235 : decode cX12_wordOf 235 = .ok (.bipush 110, 2) := by decide +kernel
theorem dX12_wordOf_237 : decode cX12_wordOf 237 = .ok (.bipush 103, 2) := by decide +kernel
theorem dX12_wordOf_239 : decode cX12_wordOf 239 = .ok (.bipush 101, 2) := by decide +kernel
theorem dX12_wordOf_241 : decode cX12_wordOf 241 = .ok (.iconst 0, 1) := by decide +kernel
theorem dX12_wordOf_242 : decode cX12_wordOf 242 = .ok (.invokestatic 58, 3) := by decide +kernel
theorem dX12_wordOf_245 : decode cX12_wordOf 245 = .ok (.lreturn, 1) := by decide +kernel
theorem dX12_wordOf_246 : decode cX12_wordOf 246 = .ok (.bipush 99, 2) := by decide +kernel
theorem dX12_wordOf_248 : decode cX12_wordOf 248 = .ok (.bipush 97, 2) := by decide +kernel
theorem dX12_wordOf_250 : decode cX12_wordOf 250 = .ok (.bipush 114, 2) := by decide +kernel
theorem dX12_wordOf_252 : decode cX12_wordOf 252 = .ok (.bipush 114, 2) := by decide +kernel
theorem dX12_wordOf_254 : decode cX12_wordOf 254 = .ok (.bipush 121, 2) := by decide +kernel
theorem dX12_wordOf_256 : decode cX12_wordOf 256 = .ok (.iconst 0, 1) := by decide +kernel
theorem dX12_wordOf_257 : decode cX12_wordOf 257 = .ok (.iconst 0, 1) := by decide +kernel
theorem dX12_wordOf_258 : decode cX12_wordOf 258 = .ok (.invokestatic 58, 3) := by decide +kernel
theorem dX12_wordOf_261 : decode cX12_wordOf 261 = .ok (.lreturn, 1) := by decide +kernel
theorem dX12_wordOf_262 : decode cX12_wordOf 262 = .ok (.bipush 100, 2) := by decide +kernel
theorem dX12_wordOf_264 : decode cX12_wordOf 264 = .ok (.bipush 97, 2) := by decide +kernel
theorem dX12_wordOf_266 : decode cX12_wordOf 266 = .ok (.bipush 121, 2) := by decide +kernel
theorem dX12_wordOf_268 : decode cX12_wordOf 268 = .ok (.iconst 0, 1) := by decide +kernel
theorem dX12_wordOf_269 : decode cX12_wordOf 269 = .ok (.iconst 0, 1) := by decide +kernel
theorem dX12_wordOf_270 : decode cX12_wordOf 270 = .ok (.iconst 0, 1) := by decide +kernel
theorem dX12_wordOf_271 : decode cX12_wordOf 271 = .ok (.iconst 0, 1) := by decide +kernel
theorem dX12_wordOf_272 : decode cX12_wordOf 272 = .ok (.invokestatic 58, 3) := by decide +kernel
theorem dX12_wordOf_275 : decode cX12_wordOf 275 = .ok (.lreturn, 1) := by decide +kernel
theorem dX12_wordOf_276 : decode cX12_wordOf 276 = .ok (.bipush 111, 2) := by decide +kernel
theorem dX12_wordOf_278 : decode cX12_wordOf 278 = .ok (.bipush 114, 2) := by decide +kernel
theorem dX12_wordOf_280 : decode cX12_wordOf 280 = .ok (.iconst 0, 1) := by decide +kernel
theorem dX12_wordOf_281 : decode cX12_wordOf 281 = .ok (.iconst 0, 1) := by decide +kernel
theorem dX12_wordOf_282 : decode cX12_wordOf 282 = .ok (.iconst 0, 1) := by decide +kernel
theorem dX12_wordOf_283 : decode cX12_wordOf 283 = .ok (.iconst 0, 1) := by decide +kernel
theorem dX12_wordOf_284 : decode cX12_wordOf 284 = .ok (.iconst 0, 1) := by decide +kernel
theorem dX12_wordOf_285 : decode cX12_wordOf 285 = .ok (.invokestatic 58, 3) := by decide +kernel
theorem dX12_wordOf_288 : decode cX12_wordOf 288 = .ok (.lreturn, 1) := by decide +kernel
theorem dX12_wordOf_289 : decode cX12_wordOf 289 = .ok (.bipush 97, 2) := by decide +kernel
theorem dX12_wordOf_291 : decode cX12_wordOf 291 = .ok (.bipush 110, 2) := by decide +kernel
theorem dX12_wordOf_293 : decode cX12_wordOf 293 = .ok (.bipush 100, 2) := by decide +kernel
theorem dX12_wordOf_295 : decode cX12_wordOf 295 = .ok (.iconst 0, 1) := by decide +kernel
theorem dX12_wordOf_296 : decode cX12_wordOf 296 = .ok (.iconst 0, 1) := by decide +kernel
theorem dX12_wordOf_297 : decode cX12_wordOf 297 = .ok (.iconst 0, 1) := by decide +kernel
theorem dX12_wordOf_298 : decode cX12_wordOf 298 = .ok (.iconst 0, 1) := by decide +kernel
theorem dX12_wordOf_299 : decode cX12_wordOf 299 = .ok (.invokestatic 58, 3) := by decide +kernel
theorem dX12_wordOf_302 : decode cX12_wordOf 302 = .ok (.lreturn, 1) := by decide +kernel
theorem dX12_wordOf_303 : decode cX12_wordOf 303 = .ok (.bipush 110, 2) := by decide +kernel
theorem dX12_wordOf_305 : decode cX12_wordOf 305 = .ok (.bipush 111, 2) := by decide +kernel
theorem dX12_wordOf_307 : decode cX12_wordOf 307 = .ok (.bipush 116, 2) := by decide +kernel
theorem dX12_wordOf_309 : decode cX12_wordOf 309 = .ok (.iconst 0, 1) := by decide +kernel
theorem dX12_wordOf_310 : decode cX12_wordOf 310 = .ok (.iconst 0, 1) := by decide +kernel
theorem dX12_wordOf_311 : decode cX12_wordOf 311 = .ok (.iconst 0, 1) := by decide +kernel
theorem dX12_wordOf_312 : decode cX12_wordOf 312 = .ok (.iconst 0, 1) := by decide +kernel
theorem dX12_wordOf_313 : decode cX12_wordOf 313 = .ok (.invokestatic 58, 3) := by decide +kernel
theorem dX12_wordOf_316 : decode cX12_wordOf 316 = .ok (.lreturn, 1) := by decide +kernel
theorem dX12_wordOf_317 : decode cX12_wordOf 317 = .ok (.bipush 98, 2) := by decide +kernel
theorem dX12_wordOf_319 : decode cX12_wordOf 319 = .ok (.bipush 108, 2) := by decide +kernel
theorem dX12_wordOf_321 : decode cX12_wordOf 321 = .ok (.bipush 105, 2) := by decide +kernel
theorem dX12_wordOf_323 : decode cX12_wordOf 323 = .ok (.bipush 110, 2) := by decide +kernel
theorem dX12_wordOf_325 : decode cX12_wordOf 325 = .ok (.bipush 100, 2) := by decide +kernel
theorem dX12_wordOf_327 : decode cX12_wordOf 327 = .ok (.iconst 0, 1) := by decide +kernel
theorem dX12_wordOf_328 : decode cX12_wordOf 328 = .ok (.iconst 0, 1) := by decide +kernel
theorem dX12_wordOf_329 : decode cX12_wordOf 329 = .ok (.invokestatic 58, 3) := by decide +kernel
theorem dX12_wordOf_332 : decode cX12_wordOf 332 = .ok (.lreturn, 1) := by decide +kernel
theorem dX12_wordOf_333 : decode cX12_wordOf 333 = .ok (.bipush 102, 2) := by decide +kernel
theorem dX12_wordOf_335 : decode cX12_wordOf 335 = .ok (.bipush 101, 2) := by decide +kernel
theorem dX12_wordOf_337 : decode cX12_wordOf 337 = .ok (.bipush 114, 2) := by decide +kernel
theorem dX12_wordOf_339 : decode cX12_wordOf 339 = .ok (.bipush 110, 2) := by decide +kernel
theorem dX12_wordOf_341 : decode cX12_wordOf 341 = .ok (.iconst 0, 1) := by decide +kernel
theorem dX12_wordOf_342 : decode cX12_wordOf 342 = .ok (.iconst 0, 1) := by decide +kernel
theorem dX12_wordOf_343 : decode cX12_wordOf 343 = .ok (.iconst 0, 1) := by decide +kernel
theorem dX12_wordOf_344 : decode cX12_wordOf 344 = .ok (.invokestatic 58, 3) := by decide +kernel
theorem dX12_wordOf_347 : decode cX12_wordOf 347 = .ok (.lreturn, 1) := by decide +kernel
theorem dX12_wordOf_348 : decode cX12_wordOf 348 = .ok (.bipush 105, 2) := by decide +kernel
theorem dX12_wordOf_350 : decode cX12_wordOf 350 = .ok (.bipush 110, 2) := by decide +kernel
theorem dX12_wordOf_352 : decode cX12_wordOf 352 = .ok (.iconst 0, 1) := by decide +kernel
theorem dX12_wordOf_353 : decode cX12_wordOf 353 = .ok (.iconst 0, 1) := by decide +kernel
theorem dX12_wordOf_354 : decode cX12_wordOf 354 = .ok (.iconst 0, 1) := by decide +kernel
theorem dX12_wordOf_355 : decode cX12_wordOf 355 = .ok (.iconst 0, 1) := by decide +kernel
theorem dX12_wordOf_356 : decode cX12_wordOf 356 = .ok (.iconst 0, 1) := by decide +kernel
theorem dX12_wordOf_357 : decode cX12_wordOf 357 = .ok (.invokestatic 58, 3) := by decide +kernel
theorem dX12_wordOf_360 : decode cX12_wordOf 360 = .ok (.lreturn, 1) := by decide +kernel
theorem dX12_wordOf_361 : decode cX12_wordOf 361 = .ok (.bipush 115, 2) := by decide +kernel
theorem dX12_wordOf_363 : decode cX12_wordOf 363 = .ok (.bipush 101, 2) := by decide +kernel
theorem dX12_wordOf_365 : decode cX12_wordOf 365 = .ok (.bipush 101, 2) := by decide +kernel
theorem dX12_wordOf_367 : decode cX12_wordOf 367 = .ok (.bipush 115, 2) := by decide +kernel
theorem dX12_wordOf_369 : decode cX12_wordOf 369 = .ok (.iconst 0, 1) := by decide +kernel
theorem dX12_wordOf_370 : decode cX12_wordOf 370 = .ok (.iconst 0, 1) := by decide +kernel
theorem dX12_wordOf_371 : decode cX12_wordOf 371 = .ok (.iconst 0, 1) := by decide +kernel
theorem dX12_wordOf_372 : decode cX12_wordOf 372 = .ok (.invokestatic 58, 3) := by decide +kernel
theorem dX12_wordOf_375 : decode cX12_wordOf 375 = .ok (.lreturn, 1) := by decide +kernel
theorem dX12_wordOf_376 : decode cX12_wordOf 376 = .ok (.bipush 116, 2) := by decide +kernel
theorem dX12_wordOf_378 : decode cX12_wordOf 378 = .ok (.bipush 101, 2) := by decide +kernel
theorem dX12_wordOf_380 : decode cX12_wordOf 380 = .ok (.bipush 108, 2) := by decide +kernel
theorem dX12_wordOf_382 : decode cX12_wordOf 382 = .ok (.bipush 108, 2) := by decide +kernel
theorem dX12_wordOf_384 : decode cX12_wordOf 384 = .ok (.bipush 115, 2) := by decide +kernel
theorem dX12_wordOf_386 : decode cX12_wordOf 386 = .ok (.iconst 0, 1) := by decide +kernel
theorem dX12_wordOf_387 : decode cX12_wordOf 387 = .ok (.iconst 0, 1) := by decide +kernel
theorem dX12_wordOf_388 : decode cX12_wordOf 388 = .ok (.invokestatic 58, 3) := by decide +kernel
theorem dX12_wordOf_391 : decode cX12_wordOf 391 = .ok (.lreturn, 1) := by decide +kernel
theorem dX12_wordOf_392 : decode cX12_wordOf 392 = .ok (.bipush 108, 2) := by decide +kernel
theorem dX12_wordOf_394 : decode cX12_wordOf 394 = .ok (.bipush 101, 2) := by decide +kernel
theorem dX12_wordOf_396 : decode cX12_wordOf 396 = .ok (.bipush 97, 2) := by decide +kernel
theorem dX12_wordOf_398 : decode cX12_wordOf 398 = .ok (.bipush 118, 2) := by decide +kernel
theorem dX12_wordOf_400 : decode cX12_wordOf 400 = .ok (.bipush 101, 2) := by decide +kernel
theorem dX12_wordOf_402 : decode cX12_wordOf 402 = .ok (.bipush 115, 2) := by decide +kernel
theorem dX12_wordOf_404 : decode cX12_wordOf 404 = .ok (.iconst 0, 1) := by decide +kernel
theorem dX12_wordOf_405 : decode cX12_wordOf 405 = .ok (.invokestatic 58, 3) := by decide +kernel
theorem dX12_wordOf_408 : decode cX12_wordOf 408 = .ok (.lreturn, 1) := by decide +kernel
theorem dX12_wordOf_409 : decode cX12_wordOf 409 = .ok (.bipush 100, 2) := by decide +kernel
theorem dX12_wordOf_411 : decode cX12_wordOf 411 = .ok (.bipush 117, 2) := by decide +kernel
theorem dX12_wordOf_413 : decode cX12_wordOf 413 = .ok (.bipush 115, 2) := by decide +kernel
theorem dX12_wordOf_415 : decode cX12_wordOf 415 = .ok (.bipush 116, 2) := by decide +kernel
theorem dX12_wordOf_417 : decode cX12_wordOf 417 = .ok (.iconst 0, 1) := by decide +kernel
theorem dX12_wordOf_418 : decode cX12_wordOf 418 = .ok (.iconst 0, 1) := by decide +kernel
theorem dX12_wordOf_419 : decode cX12_wordOf 419 = .ok (.iconst 0, 1) := by decide +kernel
theorem dX12_wordOf_420 : decode cX12_wordOf 420 = .ok (.invokestatic 58, 3) := by decide +kernel
theorem dX12_wordOf_423 : decode cX12_wordOf 423 = .ok (.lreturn, 1) := by decide +kernel
theorem dX12_wordOf_424 : decode cX12_wordOf 424 = .ok (.bipush 110, 2) := by decide +kernel
theorem dX12_wordOf_426 : decode cX12_wordOf 426 = .ok (.bipush 117, 2) := by decide +kernel
theorem dX12_wordOf_428 : decode cX12_wordOf 428 = .ok (.bipush 109, 2) := by decide +kernel
theorem dX12_wordOf_430 : decode cX12_wordOf 430 = .ok (.bipush 98, 2) := by decide +kernel
theorem dX12_wordOf_432 : decode cX12_wordOf 432 = .ok (.bipush 101, 2) := by decide +kernel
theorem dX12_wordOf_434 : decode cX12_wordOf 434 = .ok (.bipush 114, 2) := by decide +kernel
theorem dX12_wordOf_436 : decode cX12_wordOf 436 = .ok (.iconst 0, 1) := by decide +kernel
theorem dX12_wordOf_437 : decode cX12_wordOf 437 = .ok (.invokestatic 58, 3) := by decide +kernel
theorem dX12_wordOf_440 : decode cX12_wordOf 440 = .ok (.lreturn, 1) := by decide +kernel
-- X12_take
abbrev rmX12_take : Room := { frames := 0, cells := 0, slots := 0, locals := 0 }
def fX12_take (S : zSt) : Option (Int32 × zSt) :=
  zLt (S.1 0 2) (fun x1 => zLt (zI S 0 2 (0 : Int32)) (fun S2 => some (x1, S2)))
set_option maxHeartbeats 4000000 in
set_option maxRecDepth 100000 in
theorem mX12_take {l : Launch} {D : va_G} {cy : Nat → ClassId} {q : Nat → Nat} {A : Nat → Prop} {S : zSt} (hq : zQ A q zNM) {z : (Int32 × zSt)} (h : fX12_take S = some z) : zMq l yX12_take cX12_take 2 (some .int) rmX12_take [.ref (q 0)] zshM zNM D cy q A S z := by
  refine Met.ofW (cc := cX12_take) (maxL := 2) (ret := (some .int)) (by decide) rfl ?_
  intro p e s m args below meth c s₁ B hml hv
  obtain ⟨rfl, hP, hK⟩ := hv
  have cx : zX RX12 cX12_take 2 p s m ([.ref (q 0)]).toArray c D cy := ⟨B.exec, B.bytes, hml, findClass_of_methodNamed B.named, fun w hw => atoms_spec (ws := Cond.code yX12_take cX12_take 2 (some .int) :: zTB) B.pre w (List.mem_cons_of_mem _ hw), hK⟩
  have hx := cx.1
  have hb := cx.2.1
  have hr := B.returns
  have hlk := B.notSynchronized
  have hS : va_S A s.heap s.heap [] := va_S.rf
  have hl := lv_entry ([.ref (q 0)]) (n := 2) (Nat.le_of_ble_eq_true rfl)
  rw [lg_entry_eq]
  generalize (lg_sl ([.ref (q 0)]) ++ List.replicate (2 - (lg_sl ([.ref (q 0)])).length) Slot.unset).toArray = ls at hl ⊢
  have hl : lv_has ls 2 [(0, .ref (q 0))] := hl
  unfold fX12_take at h
  refine lv_aload_n (pc := 0) hx hb dX12_take_0 rfl (lv_at hl 0 rfl) ?_
  refine zr_getI (pc := 1) cx lk_X12_11 hP nM_0 sM_0 rfl dX12_take_1 ?_
  obtain ⟨x1, ex1, h⟩ := zLt_e h
  refine zr_nmI ex1 ?_
  refine lv_istore_n (lv' := [(1, .int x1), (0, .ref (q 0))]) (pc := 4) hx hb dX12_take_4 rfl hl (by decide) rfl (fun ls hl => ?_)
  refine lv_aload_n (pc := 5) hx hb dX12_take_5 rfl (lv_at hl 1 rfl) ?_
  refine lv_iconst (pc := 6) hx hb dX12_take_6 zc_0 ?_
  obtain ⟨S2, eS2, h⟩ := zLt_e h
  refine zr_putI (pc := 7) cx lq_X12_11 hq hP hS nM_0 sM_0 rfl rfl rfl dX12_take_7 (fun H locs hP hS => ?_)
  rw [← eS2] at hP
  refine lv_iload_n (pc := 10) hx hb dX12_take_10 rfl (lv_at hl 0 rfl) ?_
  have hz := Option.some.inj h
  exact zr_rqI (pc := 11) cx hr hlk hP hS hz dX12_take_11
-- X12_begin
abbrev rmX12_begin : Room := { frames := 2, cells := 0, slots := 0, locals := 45 }
def fX12_begin (S : zSt) (v1 : Int32) : Option zSt :=
  zLt (zI S 0 0 (0 : Int32)) (fun S1 => zBp (fX12_take S1) (fun r4 S3 => zLt (zI S3 0 3 r4) (fun S5 => zLt (zI S5 0 4 v1) (fun S6 => zLt (zI S6 0 10 (0 : Int32)) (fun S7 => zLt (zI S7 0 5 (0 : Int32)) (fun S8 => zBd (fX12_go S8) (fun S10 => some S10)))))))
set_option maxHeartbeats 4000000 in
set_option maxRecDepth 100000 in
theorem mX12_begin {l : Launch} {D : va_G} {cy : Nat → ClassId} {q : Nat → Nat} {A : Nat → Prop} {S : zSt} {v1 : Int32} (hq : zQ A q zNM) {z : zSt} (h : fX12_begin S v1 = some z) : zMv l yX12_begin cX12_begin 2 none rmX12_begin [.ref (q 0), .int v1] zshM zNM D cy q A S z := by
  refine Met.ofW (cc := cX12_begin) (maxL := 2) (ret := none) (by decide) rfl ?_
  intro p e s m args below meth c s₁ B hml hv
  obtain ⟨rfl, hP, hK⟩ := hv
  have cx : zX RX12 cX12_begin 2 p s m ([.ref (q 0), .int v1]).toArray c D cy := ⟨B.exec, B.bytes, hml, findClass_of_methodNamed B.named, fun w hw => atoms_spec (ws := Cond.code yX12_begin cX12_begin 2 none :: zTB) B.pre w (List.mem_cons_of_mem _ hw), hK⟩
  have hx := cx.1
  have hb := cx.2.1
  have hr := B.returns
  have hlk := B.notSynchronized
  have hS : va_S A s.heap s.heap [] := va_S.rf
  have hl := lv_entry ([.ref (q 0), .int v1]) (n := 2) (Nat.le_of_ble_eq_true rfl)
  rw [lg_entry_eq]
  generalize (lg_sl ([.ref (q 0), .int v1]) ++ List.replicate (2 - (lg_sl ([.ref (q 0), .int v1])).length) Slot.unset).toArray = ls at hl ⊢
  have hl : lv_has ls 2 [(0, .ref (q 0)), (1, .int v1)] := hl
  unfold fX12_begin at h
  refine lv_aload_n (pc := 0) hx hb dX12_begin_0 rfl (lv_at hl 0 rfl) ?_
  refine lv_iconst (pc := 1) hx hb dX12_begin_1 zc_0 ?_
  obtain ⟨S1, eS1, h⟩ := zLt_e h
  refine zr_putI (pc := 2) cx lq_X12_1 hq hP hS nM_0 sM_0 rfl rfl rfl dX12_begin_2 (fun H locs hP hS => ?_)
  rw [← eS1] at hP
  refine lv_aload_n (pc := 5) hx hb dX12_begin_5 rfl (lv_at hl 0 rfl) ?_
  refine lv_aload_n (pc := 6) hx hb dX12_begin_6 rfl (lv_at hl 0 rfl) ?_
  obtain ⟨r4, S3, k2, h⟩ := zBp_e h
  refine zr_VQ (pc := 7) (rest := [.ref (q 0)]) cx cv_X12_89 (mX12_take hq k2) ⟨⟨rfl, rfl⟩, Nat.le_of_ble_eq_true rfl, Nat.le_of_ble_eq_true rfl⟩ ⟨Nat.le_of_ble_eq_true rfl, Nat.le_of_ble_eq_true rfl⟩ hP hS nM_0 sM_0 rfl hl.1 rfl rfl (Nat.le_of_ble_eq_true rfl) dX12_begin_7 (fun H locs hP hS => ?_)
  obtain ⟨S5, eS5, h⟩ := zLt_e h
  refine zr_putI (pc := 10) cx lq_X12_18 hq hP hS nM_0 sM_0 rfl rfl rfl dX12_begin_10 (fun H locs hP hS => ?_)
  rw [← eS5] at hP
  refine lv_aload_n (pc := 13) hx hb dX12_begin_13 rfl (lv_at hl 0 rfl) ?_
  refine lv_iload_n (pc := 14) hx hb dX12_begin_14 rfl (lv_at hl 1 rfl) ?_
  obtain ⟨S6, eS6, h⟩ := zLt_e h
  refine zr_putI (pc := 15) cx lq_X12_27 hq hP hS nM_0 sM_0 rfl rfl rfl dX12_begin_15 (fun H locs hP hS => ?_)
  rw [← eS6] at hP
  refine lv_aload_n (pc := 18) hx hb dX12_begin_18 rfl (lv_at hl 0 rfl) ?_
  refine lv_iconst (pc := 19) hx hb dX12_begin_19 zc_0 ?_
  obtain ⟨S7, eS7, h⟩ := zLt_e h
  refine zr_putI (pc := 20) cx lq_X12_66 hq hP hS nM_0 sM_0 rfl rfl rfl dX12_begin_20 (fun H locs hP hS => ?_)
  rw [← eS7] at hP
  refine lv_aload_n (pc := 23) hx hb dX12_begin_23 rfl (lv_at hl 0 rfl) ?_
  refine lv_iconst (pc := 24) hx hb dX12_begin_24 zc_0 ?_
  obtain ⟨S8, eS8, h⟩ := zLt_e h
  refine zr_putI (pc := 25) cx lq_X12_21 hq hP hS nM_0 sM_0 rfl rfl rfl dX12_begin_25 (fun H locs hP hS => ?_)
  rw [← eS8] at hP
  refine lv_aload_n (pc := 28) hx hb dX12_begin_28 rfl (lv_at hl 0 rfl) ?_
  obtain ⟨S10, k9, h⟩ := zBd_e h
  refine zr_VV (pc := 29) (rest := []) cx cv_X12_82 (mX12_go hq k9) ⟨⟨rfl, rfl⟩, Nat.le_of_ble_eq_true rfl, Nat.le_of_ble_eq_true rfl⟩ ⟨Nat.le_of_ble_eq_true rfl, Nat.le_of_ble_eq_true rfl⟩ hP hS nM_0 sM_0 rfl hl.1 rfl rfl (Nat.le_of_ble_eq_true rfl) dX12_begin_29 (fun H locs hP hS => ?_)
  have hz := Option.some.inj h
  exact zr_rqV (pc := 32) cx hr hlk hP hS hz dX12_begin_32
-- X12_has
abbrev rmX12_has : Room := { frames := 0, cells := 0, slots := 0, locals := 0 }
def fX12_has (v0 : Int32) (v1 : Int32) : Option Int32 :=
  zBr (((v0 >>> (v1 &&& 31)) &&& (1 : Int32)) = (1 : Int32)) (some (1 : Int32)) (some (0 : Int32))
set_option maxHeartbeats 4000000 in
set_option maxRecDepth 100000 in
theorem mX12_has {l : Launch} {D : va_G} {cy : Nat → ClassId} {v0 : Int32} {v1 : Int32} {z : Int32} (h : fX12_has v0 v1 = some z) : zMi l yX12_has cX12_has 2 (some .boolean) rmX12_has [.int v0, .int v1] (zPk D cy) z := by
  refine Met.ofW (cc := cX12_has) (maxL := 2) (ret := (some .boolean)) (by decide) rfl ?_
  intro p e s m args below meth c s₁ B hml hv
  obtain ⟨rfl, hK⟩ := hv
  have cx : zX RX12 cX12_has 2 p s m ([.int v0, .int v1]).toArray c D cy := ⟨B.exec, B.bytes, hml, findClass_of_methodNamed B.named, fun w hw => atoms_spec (ws := Cond.code yX12_has cX12_has 2 (some .boolean) :: zTB) B.pre w (List.mem_cons_of_mem _ hw), hK⟩
  have hx := cx.1
  have hb := cx.2.1
  have hr := B.returns
  have hlk := B.notSynchronized
  have hl := lv_entry ([.int v0, .int v1]) (n := 2) (Nat.le_of_ble_eq_true rfl)
  rw [lg_entry_eq]
  generalize (lg_sl ([.int v0, .int v1]) ++ List.replicate (2 - (lg_sl ([.int v0, .int v1])).length) Slot.unset).toArray = ls at hl ⊢
  have hl : lv_has ls 2 [(0, .int v0), (1, .int v1)] := hl
  unfold fX12_has at h
  refine lv_iload_n (pc := 0) hx hb dX12_has_0 rfl (lv_at hl 0 rfl) ?_
  refine lv_iload_n (pc := 1) hx hb dX12_has_1 rfl (lv_at hl 1 rfl) ?_
  refine lv_ishr (pc := 2) hx hb dX12_has_2 ?_
  refine lv_iconst (pc := 3) hx hb dX12_has_3 zc_1 ?_
  refine lv_iand (pc := 4) hx hb dX12_has_4 ?_
  refine lv_iconst (pc := 5) hx hb dX12_has_5 zc_1 ?_
  refine lv_icmp_ne (pc := 6) (tgt := 13) hx hb dX12_has_6 (by decide) (fun c1 => ?_) (fun c1 => ?_)
  · replace h := zBr_f c1 h
    refine lv_iconst (pc := 13) hx hb dX12_has_13 zc_0 ?_
    have hz := Option.some.inj h
    exact zr_reZ (pc := 14) cx hr hlk hz (by decide) dX12_has_14
  · replace h := zBr_t c1 h
    refine lv_iconst (pc := 9) hx hb dX12_has_9 zc_1 ?_
    refine lv_goto (pc := 10) (tgt := 14) hx hb dX12_has_10 (by decide) ?_
    have hz := Option.some.inj h
    exact zr_reZ (pc := 14) cx hr hlk hz (by decide) dX12_has_14
-- X12_nextLeaf
abbrev rmX12_nextLeaf : Room := { frames := 0, cells := 0, slots := 0, locals := 0 }
def fX12_nextLeaf_40 (S : zSt)  (v1 : Int32) (t0 : Int32) : Option Int32 :=
  zGd (zIx ((17 : Int32) + v1) 406) (some (t0 + (S.1 2 ((17 : Int32) + v1).toNatClampNeg)))
set_option maxHeartbeats 4000000 in
set_option maxRecDepth 100000 in
theorem kX12_nextLeaf_40 {p : Program} {l : Launch} {e : Env} {s : State} {m : MethodId} {args : Array Value} {below : List Frame} {meth : Method} {c : Code} {D : va_G} {cy : Nat → ClassId} {q : Nat → Nat} (cx : zX RX12 cX12_nextLeaf 2 p s m args c D cy) (hr : meth.sig.returnType = (some .int)) (hlk : meth.locks = false) {z : Int32} {S : zSt} {v1 : Int32} {t0 : Int32} (hP : va_P D vwCl (zW zshM zNM cy q S) s.heap) (h : fX12_nextLeaf_40 S v1 t0 = some z) {ls : Array Slot} (hl : lv_has ls 2 [(0, .ref (q 0)), (1, .int v1)]) : W p l e rmX12_nextLeaf s m args below meth c s.heap [] 0 0 (MQ below (vp_Si (fun x => x = z)) args s 0 0 (fun _ => False)) (F0 m 40 ls [.int t0]) := by
  have hx := cx.1
  have hb := cx.2.1
  unfold fX12_nextLeaf_40 at h
  refine lv_aload_n (pc := 40) hx hb dX12_nextLeaf_40 rfl (lv_at hl 0 rfl) ?_
  refine zr_getR (pc := 41) (t := 2) cx lk_X12_98 hP nM_0 sM_0 rfl dX12_nextLeaf_41 ?_
  refine lv_bipush (pc := 44) hx hb dX12_nextLeaf_44 zb_17 ?_
  refine lv_iload_n (pc := 46) hx hb dX12_nextLeaf_46 rfl (lv_at hl 1 rfl) ?_
  refine lv_iadd (pc := 47) hx hb dX12_nextLeaf_47 ?_
  obtain ⟨g5, h⟩ := zGd_e h
  refine zr_iald (pc := 48) cx hP nM_2 sM_2 g5 dX12_nextLeaf_48 ?_
  refine lv_iadd (pc := 49) hx hb dX12_nextLeaf_49 ?_
  have hz := Option.some.inj h
  exact zr_reI (pc := 50) cx hr hlk hz dX12_nextLeaf_50
def fX12_nextLeaf (S : zSt) (v1 : Int32) : Option Int32 :=
  zGd (zIx ((158 : Int32) + v1) 406) (zGd (zIx (24 : Int32) 406) (zBr ((S.1 2 ((158 : Int32) + v1).toNatClampNeg) ≤ (S.1 2 (24 : Int32).toNatClampNeg)) (zGd (zIx (24 : Int32) 406) (fX12_nextLeaf_40 S v1 (S.1 2 (24 : Int32).toNatClampNeg))) (zGd (zIx ((158 : Int32) + v1) 406) (fX12_nextLeaf_40 S v1 (S.1 2 ((158 : Int32) + v1).toNatClampNeg)))))
set_option maxHeartbeats 4000000 in
set_option maxRecDepth 100000 in
theorem mX12_nextLeaf {l : Launch} {D : va_G} {cy : Nat → ClassId} {q : Nat → Nat} {S : zSt} {v1 : Int32} {z : Int32} (h : fX12_nextLeaf S v1 = some z) : zMi l yX12_nextLeaf cX12_nextLeaf 2 (some .int) rmX12_nextLeaf [.ref (q 0), .int v1] (zPr zshM zNM D cy q S) z := by
  refine Met.ofW (cc := cX12_nextLeaf) (maxL := 2) (ret := (some .int)) (by decide) rfl ?_
  intro p e s m args below meth c s₁ B hml hv
  obtain ⟨rfl, hP, hK⟩ := hv
  have cx : zX RX12 cX12_nextLeaf 2 p s m ([.ref (q 0), .int v1]).toArray c D cy := ⟨B.exec, B.bytes, hml, findClass_of_methodNamed B.named, fun w hw => atoms_spec (ws := Cond.code yX12_nextLeaf cX12_nextLeaf 2 (some .int) :: zTB) B.pre w (List.mem_cons_of_mem _ hw), hK⟩
  have hx := cx.1
  have hb := cx.2.1
  have hr := B.returns
  have hlk := B.notSynchronized
  have hl := lv_entry ([.ref (q 0), .int v1]) (n := 2) (Nat.le_of_ble_eq_true rfl)
  rw [lg_entry_eq]
  generalize (lg_sl ([.ref (q 0), .int v1]) ++ List.replicate (2 - (lg_sl ([.ref (q 0), .int v1])).length) Slot.unset).toArray = ls at hl ⊢
  have hl : lv_has ls 2 [(0, .ref (q 0)), (1, .int v1)] := hl
  unfold fX12_nextLeaf at h
  refine lv_aload_n (pc := 0) hx hb dX12_nextLeaf_0 rfl (lv_at hl 0 rfl) ?_
  refine zr_getR (pc := 1) (t := 2) cx lk_X12_98 hP nM_0 sM_0 rfl dX12_nextLeaf_1 ?_
  refine lv_sipush (pc := 4) hx hb dX12_nextLeaf_4 zs_158 ?_
  refine lv_iload_n (pc := 7) hx hb dX12_nextLeaf_7 rfl (lv_at hl 1 rfl) ?_
  refine lv_iadd (pc := 8) hx hb dX12_nextLeaf_8 ?_
  obtain ⟨g1, h⟩ := zGd_e h
  refine zr_iald (pc := 9) cx hP nM_2 sM_2 g1 dX12_nextLeaf_9 ?_
  refine lv_aload_n (pc := 10) hx hb dX12_nextLeaf_10 rfl (lv_at hl 0 rfl) ?_
  refine zr_getR (pc := 11) (t := 2) cx lk_X12_98 hP nM_0 sM_0 rfl dX12_nextLeaf_11 ?_
  refine lv_bipush (pc := 14) hx hb dX12_nextLeaf_14 zb_24 ?_
  obtain ⟨g2, h⟩ := zGd_e h
  refine zr_iald (pc := 16) cx hP nM_2 sM_2 g2 dX12_nextLeaf_16 ?_
  refine lv_icmp_le (pc := 17) (tgt := 33) hx hb dX12_nextLeaf_17 (by decide) (fun c3 => ?_) (fun c3 => ?_)
  · replace h := zBr_t c3 h
    refine lv_aload_n (pc := 33) hx hb dX12_nextLeaf_33 rfl (lv_at hl 0 rfl) ?_
    refine zr_getR (pc := 34) (t := 2) cx lk_X12_98 hP nM_0 sM_0 rfl dX12_nextLeaf_34 ?_
    refine lv_bipush (pc := 37) hx hb dX12_nextLeaf_37 zb_24 ?_
    obtain ⟨g4, h⟩ := zGd_e h
    refine zr_iald (pc := 39) cx hP nM_2 sM_2 g4 dX12_nextLeaf_39 ?_
    exact kX12_nextLeaf_40 cx hr hlk hP h (lv_sub hl [0, 1] rfl)
  · replace h := zBr_f c3 h
    refine lv_aload_n (pc := 20) hx hb dX12_nextLeaf_20 rfl (lv_at hl 0 rfl) ?_
    refine zr_getR (pc := 21) (t := 2) cx lk_X12_98 hP nM_0 sM_0 rfl dX12_nextLeaf_21 ?_
    refine lv_sipush (pc := 24) hx hb dX12_nextLeaf_24 zs_158 ?_
    refine lv_iload_n (pc := 27) hx hb dX12_nextLeaf_27 rfl (lv_at hl 1 rfl) ?_
    refine lv_iadd (pc := 28) hx hb dX12_nextLeaf_28 ?_
    obtain ⟨g6, h⟩ := zGd_e h
    refine zr_iald (pc := 29) cx hP nM_2 sM_2 g6 dX12_nextLeaf_29 ?_
    refine lv_goto (pc := 30) (tgt := 40) hx hb dX12_nextLeaf_30 (by decide) ?_
    exact kX12_nextLeaf_40 cx hr hlk hP h (lv_sub hl [0, 1] rfl)
-- X12_isFern
abbrev rmX12_isFern : Room := { frames := 1, cells := 0, slots := 0, locals := 21 }
def fX12_isFern (S : zSt) (v1 : Int32) : Option Int32 :=
  zGd (zIx (23 : Int32) 406) (zBd (fX12_has (S.1 2 (23 : Int32).toNatClampNeg) v1) (fun r3 => zGd (zBo r3) (some r3)))
set_option maxHeartbeats 4000000 in
set_option maxRecDepth 100000 in
theorem mX12_isFern {l : Launch} {D : va_G} {cy : Nat → ClassId} {q : Nat → Nat} {S : zSt} {v1 : Int32} {z : Int32} (h : fX12_isFern S v1 = some z) : zMi l yX12_isFern cX12_isFern 2 (some .boolean) rmX12_isFern [.ref (q 0), .int v1] (zPr zshM zNM D cy q S) z := by
  refine Met.ofW (cc := cX12_isFern) (maxL := 2) (ret := (some .boolean)) (by decide) rfl ?_
  intro p e s m args below meth c s₁ B hml hv
  obtain ⟨rfl, hP, hK⟩ := hv
  have cx : zX RX12 cX12_isFern 2 p s m ([.ref (q 0), .int v1]).toArray c D cy := ⟨B.exec, B.bytes, hml, findClass_of_methodNamed B.named, fun w hw => atoms_spec (ws := Cond.code yX12_isFern cX12_isFern 2 (some .boolean) :: zTB) B.pre w (List.mem_cons_of_mem _ hw), hK⟩
  have hx := cx.1
  have hb := cx.2.1
  have hr := B.returns
  have hlk := B.notSynchronized
  have hl := lv_entry ([.ref (q 0), .int v1]) (n := 2) (Nat.le_of_ble_eq_true rfl)
  rw [lg_entry_eq]
  generalize (lg_sl ([.ref (q 0), .int v1]) ++ List.replicate (2 - (lg_sl ([.ref (q 0), .int v1])).length) Slot.unset).toArray = ls at hl ⊢
  have hl : lv_has ls 2 [(0, .ref (q 0)), (1, .int v1)] := hl
  unfold fX12_isFern at h
  refine lv_aload_n (pc := 0) hx hb dX12_isFern_0 rfl (lv_at hl 0 rfl) ?_
  refine zr_getR (pc := 1) (t := 2) cx lk_X12_98 hP nM_0 sM_0 rfl dX12_isFern_1 ?_
  refine lv_bipush (pc := 4) hx hb dX12_isFern_4 zb_23 ?_
  obtain ⟨g1, h⟩ := zGd_e h
  refine zr_iald (pc := 6) cx hP nM_2 sM_2 g1 dX12_isFern_6 ?_
  refine lv_iload_n (pc := 7) hx hb dX12_isFern_7 rfl (lv_at hl 1 rfl) ?_
  obtain ⟨r3, k2, h⟩ := zBd_e h
  refine zr_SI (pc := 8) (rest := []) cx cv_X12_181 (mX12_has k2) ⟨⟨rfl, rfl⟩, Nat.le_of_ble_eq_true rfl, Nat.le_of_ble_eq_true rfl⟩ ⟨Nat.le_of_ble_eq_true rfl, Nat.le_of_ble_eq_true rfl⟩ (zr_preK cx) hl.1 rfl rfl (Nat.le_of_ble_eq_true rfl) dX12_isFern_8 ?_
  obtain ⟨g4, h⟩ := zGd_e h
  have hz := Option.some.inj h
  exact zr_reZ (pc := 11) cx hr hlk hz g4 dX12_isFern_11
-- X12_seesOf
abbrev rmX12_seesOf : Room := { frames := 2, cells := 0, slots := 0, locals := 42 }
def fX12_seesOf (S : zSt) (v1 : Int32) (v2 : Int32) : Option Int32 :=
  zBd (fX12_isFern S v1) (fun r2 => zBr (r2 = 0) (zGd (zIx ((32 : Int32) + v1) 406) (zGd (zIx (4 : Int32) 406) (zBr (((S.1 2 ((32 : Int32) + v1).toNatClampNeg) + v2) < (S.1 2 (4 : Int32).toNatClampNeg)) (zGd (zIx ((26 : Int32) + v1) 406) (zBd (fX12_around S (S.1 2 ((26 : Int32) + v1).toNatClampNeg)) (fun r9 => some r9))) (some (0 : Int32))))) (some (0 : Int32)))
set_option maxHeartbeats 4000000 in
set_option maxRecDepth 100000 in
theorem mX12_seesOf {l : Launch} {D : va_G} {cy : Nat → ClassId} {q : Nat → Nat} {S : zSt} {v1 : Int32} {v2 : Int32} {z : Int32} (h : fX12_seesOf S v1 v2 = some z) : zMi l yX12_seesOf cX12_seesOf 3 (some .int) rmX12_seesOf [.ref (q 0), .int v1, .int v2] (zPr zshM zNM D cy q S) z := by
  refine Met.ofW (cc := cX12_seesOf) (maxL := 3) (ret := (some .int)) (by decide) rfl ?_
  intro p e s m args below meth c s₁ B hml hv
  obtain ⟨rfl, hP, hK⟩ := hv
  have cx : zX RX12 cX12_seesOf 3 p s m ([.ref (q 0), .int v1, .int v2]).toArray c D cy := ⟨B.exec, B.bytes, hml, findClass_of_methodNamed B.named, fun w hw => atoms_spec (ws := Cond.code yX12_seesOf cX12_seesOf 3 (some .int) :: zTB) B.pre w (List.mem_cons_of_mem _ hw), hK⟩
  have hx := cx.1
  have hb := cx.2.1
  have hr := B.returns
  have hlk := B.notSynchronized
  have hl := lv_entry ([.ref (q 0), .int v1, .int v2]) (n := 3) (Nat.le_of_ble_eq_true rfl)
  rw [lg_entry_eq]
  generalize (lg_sl ([.ref (q 0), .int v1, .int v2]) ++ List.replicate (3 - (lg_sl ([.ref (q 0), .int v1, .int v2])).length) Slot.unset).toArray = ls at hl ⊢
  have hl : lv_has ls 3 [(0, .ref (q 0)), (1, .int v1), (2, .int v2)] := hl
  unfold fX12_seesOf at h
  refine lv_aload_n (pc := 0) hx hb dX12_seesOf_0 rfl (lv_at hl 0 rfl) ?_
  refine lv_iload_n (pc := 1) hx hb dX12_seesOf_1 rfl (lv_at hl 1 rfl) ?_
  obtain ⟨r2, k1, h⟩ := zBd_e h
  refine zr_VI (pc := 2) (rest := []) cx cv_X12_218 (mX12_isFern k1) ⟨⟨rfl, rfl⟩, Nat.le_of_ble_eq_true rfl, Nat.le_of_ble_eq_true rfl⟩ ⟨Nat.le_of_ble_eq_true rfl, Nat.le_of_ble_eq_true rfl⟩ hP nM_0 sM_0 rfl hl.1 rfl rfl (Nat.le_of_ble_eq_true rfl) dX12_seesOf_2 ?_
  refine lv_if_ne (pc := 5) (tgt := 28) hx hb dX12_seesOf_5 (by decide) (fun c3 => ?_) (fun c3 => ?_)
  · replace h := zBr_f c3 h
    refine lv_iconst (pc := 28) hx hb dX12_seesOf_28 zc_0 ?_
    refine lv_goto (pc := 29) (tgt := 45) hx hb dX12_seesOf_29 (by decide) ?_
    have hz := Option.some.inj h
    exact zr_reI (pc := 45) cx hr hlk hz dX12_seesOf_45
  · replace h := zBr_t c3 h
    refine lv_aload_n (pc := 8) hx hb dX12_seesOf_8 rfl (lv_at hl 0 rfl) ?_
    refine zr_getR (pc := 9) (t := 2) cx lk_X12_98 hP nM_0 sM_0 rfl dX12_seesOf_9 ?_
    refine lv_bipush (pc := 12) hx hb dX12_seesOf_12 zb_32 ?_
    refine lv_iload_n (pc := 14) hx hb dX12_seesOf_14 rfl (lv_at hl 1 rfl) ?_
    refine lv_iadd (pc := 15) hx hb dX12_seesOf_15 ?_
    obtain ⟨g4, h⟩ := zGd_e h
    refine zr_iald (pc := 16) cx hP nM_2 sM_2 g4 dX12_seesOf_16 ?_
    refine lv_iload_n (pc := 17) hx hb dX12_seesOf_17 rfl (lv_at hl 2 rfl) ?_
    refine lv_iadd (pc := 18) hx hb dX12_seesOf_18 ?_
    refine lv_aload_n (pc := 19) hx hb dX12_seesOf_19 rfl (lv_at hl 0 rfl) ?_
    refine zr_getR (pc := 20) (t := 2) cx lk_X12_98 hP nM_0 sM_0 rfl dX12_seesOf_20 ?_
    refine lv_iconst (pc := 23) hx hb dX12_seesOf_23 zc_4 ?_
    obtain ⟨g5, h⟩ := zGd_e h
    refine zr_iald (pc := 24) cx hP nM_2 sM_2 g5 dX12_seesOf_24 ?_
    refine lv_icmp_lt (pc := 25) (tgt := 32) hx hb dX12_seesOf_25 (by decide) (fun c6 => ?_) (fun c6 => ?_)
    · replace h := zBr_t c6 h
      refine lv_aload_n (pc := 32) hx hb dX12_seesOf_32 rfl (lv_at hl 0 rfl) ?_
      refine lv_aload_n (pc := 33) hx hb dX12_seesOf_33 rfl (lv_at hl 0 rfl) ?_
      refine zr_getR (pc := 34) (t := 2) cx lk_X12_98 hP nM_0 sM_0 rfl dX12_seesOf_34 ?_
      refine lv_bipush (pc := 37) hx hb dX12_seesOf_37 zb_26 ?_
      refine lv_iload_n (pc := 39) hx hb dX12_seesOf_39 rfl (lv_at hl 1 rfl) ?_
      refine lv_iadd (pc := 40) hx hb dX12_seesOf_40 ?_
      obtain ⟨g7, h⟩ := zGd_e h
      refine zr_iald (pc := 41) cx hP nM_2 sM_2 g7 dX12_seesOf_41 ?_
      obtain ⟨r9, k8, h⟩ := zBd_e h
      refine zr_VI (pc := 42) (rest := []) cx cv_X12_221 (mX12_around k8) ⟨⟨rfl, rfl⟩, Nat.le_of_ble_eq_true rfl, Nat.le_of_ble_eq_true rfl⟩ ⟨Nat.le_of_ble_eq_true rfl, Nat.le_of_ble_eq_true rfl⟩ hP nM_0 sM_0 rfl hl.1 rfl rfl (Nat.le_of_ble_eq_true rfl) dX12_seesOf_42 ?_
      have hz := Option.some.inj h
      exact zr_reI (pc := 45) cx hr hlk hz dX12_seesOf_45
    · replace h := zBr_f c6 h
      refine lv_iconst (pc := 28) hx hb dX12_seesOf_28 zc_0 ?_
      refine lv_goto (pc := 29) (tgt := 45) hx hb dX12_seesOf_29 (by decide) ?_
      have hz := Option.some.inj h
      exact zr_reI (pc := 45) cx hr hlk hz dX12_seesOf_45
-- X12_doDeed
abbrev rmX12_doDeed : Room := { frames := 3, cells := 0, slots := 0, locals := 64 }
def fX12_doDeed_145 (S : zSt)  (v3 : Int32) (v4 : Int32) (v5 : Int32) : Option ((zSt × Int32) ⊕ zSt) :=
  zLt (v5 + (1 : Int32)) (fun x30 => some (.inl (S, x30)))
set_option maxHeartbeats 4000000 in
set_option maxRecDepth 100000 in
theorem kX12_doDeed_145 {p : Program} {l : Launch} {e : Env} {s : State} {m : MethodId} {args : Array Value} {below : List Frame} {meth : Method} {c : Code} {D : va_G} {cy : Nat → ClassId} {q : Nat → Nat} {A : Nat → Prop} (cx : zX RX12 cX12_doDeed 6 p s m args c D cy) (hr : meth.sig.returnType = none) (hlk : meth.locks = false) (hq : zQ A q zNM) {z : zSt} {S : zSt} {v3 : Int32} {v4 : Int32} {v5 : Int32} {C1 : ((zSt × Int32) ⊕ zSt) → Prop} (hb1 : ∀ (S : zSt) (v5 : Int32), C1 (.inl (S, v5)) → ∀ (H : Heap) (locs : List Loc), va_P D vwCl (zW zshM zNM cy q S) H → va_S A s.heap H locs → ∀ (ls : Array Slot), lv_has ls 6 [(0, .ref (q 0)), (3, .int v3), (4, .int v4), (5, .int v5)] → W p l e rmX12_doDeed s m args below meth c H locs 0 0 (MQ below (va_Qv (fun (u : zSt) => u = z) (fun u t => va_P D vwCl (zW zshM zNM cy q u) t.heap) A) args s 0 0 A) (F0 m 73 ls [])) (hx1 : ∀ a, C1 (.inr a) → a = z) {x : ((zSt × Int32) ⊕ zSt)} (h : fX12_doDeed_145 S v3 v4 v5 = some x) (hc : C1 x) {H : Heap} {locs : List Loc} (hP : va_P D vwCl (zW zshM zNM cy q S) H) (hS : va_S A s.heap H locs) {ls : Array Slot} (hl : lv_has ls 6 [(0, .ref (q 0)), (3, .int v3), (4, .int v4), (5, .int v5)]) : W p l e rmX12_doDeed s m args below meth c H locs 0 0 (MQ below (va_Qv (fun (u : zSt) => u = z) (fun u t => va_P D vwCl (zW zshM zNM cy q u) t.heap) A) args s 0 0 A) (F0 m 145 ls []) := by
  have hx := cx.1
  have hb := cx.2.1
  unfold fX12_doDeed_145 at h
  obtain ⟨x30, ex30, h⟩ := zLt_e h
  refine lv_iinc (v := x30) (lv' := [(5, .int x30), (0, .ref (q 0)), (3, .int v3), (4, .int v4)]) (pc := 145) hx hb dX12_doDeed_145 hl (k := 3) rfl (by rw [zc_1]; exact ex30.symm) (by decide) rfl (fun ls hl => ?_)
  refine lv_goto (pc := 148) (tgt := 73) hx hb dX12_doDeed_148 (by decide) ?_
  cases h
  exact hb1 _ _ hc _ _ hP hS _ (lv_sub hl [1, 2, 3, 0] rfl)
def fX12_doDeed_73  (v3 : Int32) (v4 : Int32) (t : (zSt × Int32)) : Option ((zSt × Int32) ⊕ zSt) :=
  match t with
  | (S, v5) => zGd (zIx (1 : Int32) 406) (zBr ((S.1 2 (1 : Int32).toNatClampNeg) ≤ v5) (zXr (some S)) (zBd (fX12_seesOf S v5 (0 : Int32)) (fun r19 => zBd (fX12_has r19 v3) (fun r21 => zBr (r21 = 0) (fX12_doDeed_145 S v3 v4 v5) (zBd (fX12_nextLeaf S v5) (fun r24 => zGd (zIx ((158 : Int32) + v5) 406) (zLt (zI S 2 ((158 : Int32) + v5).toNatClampNeg r24) (fun S26 => zGd (zIx ((158 : Int32) + v5) 406) (zGd (zIx (((86 : Int32) + ((12 : Int32) * v5)) + v4) 406) (zLt (zI S26 2 (((86 : Int32) + ((12 : Int32) * v5)) + v4).toNatClampNeg (S26.1 2 ((158 : Int32) + v5).toNatClampNeg)) (fun S29 => fX12_doDeed_145 S29 v3 v4 v5)))))))))))
set_option maxHeartbeats 4000000 in
set_option maxRecDepth 100000 in
theorem kX12_doDeed_73B {p : Program} {l : Launch} {e : Env} {s : State} {m : MethodId} {args : Array Value} {below : List Frame} {meth : Method} {c : Code} {D : va_G} {cy : Nat → ClassId} {q : Nat → Nat} {A : Nat → Prop} (cx : zX RX12 cX12_doDeed 6 p s m args c D cy) (hr : meth.sig.returnType = none) (hlk : meth.locks = false) (hq : zQ A q zNM) {z : zSt} {S : zSt} {v3 : Int32} {v4 : Int32} {v5 : Int32} {C1 : ((zSt × Int32) ⊕ zSt) → Prop} (hb1 : ∀ (S : zSt) (v5 : Int32), C1 (.inl (S, v5)) → ∀ (H : Heap) (locs : List Loc), va_P D vwCl (zW zshM zNM cy q S) H → va_S A s.heap H locs → ∀ (ls : Array Slot), lv_has ls 6 [(0, .ref (q 0)), (3, .int v3), (4, .int v4), (5, .int v5)] → W p l e rmX12_doDeed s m args below meth c H locs 0 0 (MQ below (va_Qv (fun (u : zSt) => u = z) (fun u t => va_P D vwCl (zW zshM zNM cy q u) t.heap) A) args s 0 0 A) (F0 m 73 ls [])) (hx1 : ∀ a, C1 (.inr a) → a = z) {x : ((zSt × Int32) ⊕ zSt)} (h : fX12_doDeed_73 v3 v4 (S, v5) = some x) (hc : C1 x) {H : Heap} {locs : List Loc} (hP : va_P D vwCl (zW zshM zNM cy q S) H) (hS : va_S A s.heap H locs) {ls : Array Slot} (hl : lv_has ls 6 [(0, .ref (q 0)), (3, .int v3), (4, .int v4), (5, .int v5)]) : W p l e rmX12_doDeed s m args below meth c H locs 0 0 (MQ below (va_Qv (fun (u : zSt) => u = z) (fun u t => va_P D vwCl (zW zshM zNM cy q u) t.heap) A) args s 0 0 A) (F0 m 73 ls []) := by
  have hx := cx.1
  have hb := cx.2.1
  unfold fX12_doDeed_73 at h
  dsimp only at h
  refine lv_iload (pc := 73) hx hb dX12_doDeed_73 (lv_at hl 3 rfl) ?_
  refine lv_aload_n (pc := 75) hx hb dX12_doDeed_75 rfl (lv_at hl 0 rfl) ?_
  refine zr_getR (pc := 76) (t := 2) cx lk_X12_98 hP nM_0 sM_0 rfl dX12_doDeed_76 ?_
  refine lv_iconst (pc := 79) hx hb dX12_doDeed_79 zc_1 ?_
  obtain ⟨g15, h⟩ := zGd_e h
  refine zr_iald (pc := 80) cx hP nM_2 sM_2 g15 dX12_doDeed_80 ?_
  refine lv_icmp_ge (pc := 81) (tgt := 151) hx hb dX12_doDeed_81 (by decide) (fun c16 => ?_) (fun c16 => ?_)
  · replace h := zBr_t c16 h
    obtain ⟨y17, h, ex⟩ := zXr_e h
    have hc := hx1 y17 (by rw [ex] at hc; exact hc)
    rw [hc] at h
    have hz := Option.some.inj h
    exact zr_rqV (pc := 151) cx hr hlk hP hS hz dX12_doDeed_151
  · replace h := zBr_f c16 h
    refine lv_aload_n (pc := 84) hx hb dX12_doDeed_84 rfl (lv_at hl 0 rfl) ?_
    refine lv_iload (pc := 85) hx hb dX12_doDeed_85 (lv_at hl 3 rfl) ?_
    refine lv_iconst (pc := 87) hx hb dX12_doDeed_87 zc_0 ?_
    obtain ⟨r19, k18, h⟩ := zBd_e h
    refine zr_VI (pc := 88) (rest := []) cx cv_X12_250 (mX12_seesOf k18) ⟨⟨rfl, rfl⟩, Nat.le_of_ble_eq_true rfl, Nat.le_of_ble_eq_true rfl⟩ ⟨Nat.le_of_ble_eq_true rfl, Nat.le_of_ble_eq_true rfl⟩ hP nM_0 sM_0 rfl hl.1 rfl rfl (Nat.le_of_ble_eq_true rfl) dX12_doDeed_88 ?_
    refine lv_iload_n (pc := 91) hx hb dX12_doDeed_91 rfl (lv_at hl 1 rfl) ?_
    obtain ⟨r21, k20, h⟩ := zBd_e h
    refine zr_SI (pc := 92) (rest := []) cx cv_X12_181 (mX12_has k20) ⟨⟨rfl, rfl⟩, Nat.le_of_ble_eq_true rfl, Nat.le_of_ble_eq_true rfl⟩ ⟨Nat.le_of_ble_eq_true rfl, Nat.le_of_ble_eq_true rfl⟩ (zr_preK cx) hl.1 rfl rfl (Nat.le_of_ble_eq_true rfl) dX12_doDeed_92 ?_
    refine lv_if_ne (pc := 95) (tgt := 101) hx hb dX12_doDeed_95 (by decide) (fun c22 => ?_) (fun c22 => ?_)
    · replace h := zBr_f c22 h
      refine lv_aload_n (pc := 101) hx hb dX12_doDeed_101 rfl (lv_at hl 0 rfl) ?_
      refine zr_getR (pc := 102) (t := 2) cx lk_X12_98 hP nM_0 sM_0 rfl dX12_doDeed_102 ?_
      refine lv_sipush (pc := 105) hx hb dX12_doDeed_105 zs_158 ?_
      refine lv_iload (pc := 108) hx hb dX12_doDeed_108 (lv_at hl 3 rfl) ?_
      refine lv_iadd (pc := 110) hx hb dX12_doDeed_110 ?_
      refine lv_aload_n (pc := 111) hx hb dX12_doDeed_111 rfl (lv_at hl 0 rfl) ?_
      refine lv_iload (pc := 112) hx hb dX12_doDeed_112 (lv_at hl 3 rfl) ?_
      obtain ⟨r24, k23, h⟩ := zBd_e h
      refine zr_VI (pc := 114) (rest := [.int ((158 : Int32) + v5), .ref (q 2)]) cx cv_X12_268 (mX12_nextLeaf k23) ⟨⟨rfl, rfl⟩, Nat.le_of_ble_eq_true rfl, Nat.le_of_ble_eq_true rfl⟩ ⟨Nat.le_of_ble_eq_true rfl, Nat.le_of_ble_eq_true rfl⟩ hP nM_0 sM_0 rfl hl.1 rfl rfl (Nat.le_of_ble_eq_true rfl) dX12_doDeed_114 ?_
      obtain ⟨g25, h⟩ := zGd_e h
      obtain ⟨S26, eS26, h⟩ := zLt_e h
      refine zr_iast (pc := 117) cx hq hP hS nM_2 sM_2 g25 dX12_doDeed_117 (fun H locs hP hS => ?_)
      rw [← eS26] at hP
      refine lv_aload_n (pc := 118) hx hb dX12_doDeed_118 rfl (lv_at hl 0 rfl) ?_
      refine zr_getR (pc := 119) (t := 2) cx lk_X12_98 hP nM_0 sM_0 rfl dX12_doDeed_119 ?_
      refine lv_bipush (pc := 122) hx hb dX12_doDeed_122 zb_86 ?_
      refine lv_bipush (pc := 124) hx hb dX12_doDeed_124 zb_12 ?_
      refine lv_iload (pc := 126) hx hb dX12_doDeed_126 (lv_at hl 3 rfl) ?_
      refine lv_imul (pc := 128) hx hb dX12_doDeed_128 ?_
      refine lv_iadd (pc := 129) hx hb dX12_doDeed_129 ?_
      refine lv_iload (pc := 130) hx hb dX12_doDeed_130 (lv_at hl 2 rfl) ?_
      refine lv_iadd (pc := 132) hx hb dX12_doDeed_132 ?_
      refine lv_aload_n (pc := 133) hx hb dX12_doDeed_133 rfl (lv_at hl 0 rfl) ?_
      refine zr_getR (pc := 134) (t := 2) cx lk_X12_98 hP nM_0 sM_0 rfl dX12_doDeed_134 ?_
      refine lv_sipush (pc := 137) hx hb dX12_doDeed_137 zs_158 ?_
      refine lv_iload (pc := 140) hx hb dX12_doDeed_140 (lv_at hl 3 rfl) ?_
      refine lv_iadd (pc := 142) hx hb dX12_doDeed_142 ?_
      obtain ⟨g27, h⟩ := zGd_e h
      refine zr_iald (pc := 143) cx hP nM_2 sM_2 g27 dX12_doDeed_143 ?_
      obtain ⟨g28, h⟩ := zGd_e h
      obtain ⟨S29, eS29, h⟩ := zLt_e h
      refine zr_iast (pc := 144) cx hq hP hS nM_2 sM_2 g28 dX12_doDeed_144 (fun H locs hP hS => ?_)
      rw [← eS29] at hP
      exact kX12_doDeed_145 cx hr hlk hq hb1 hx1 h hc hP hS (lv_sub hl [0, 1, 2, 3] rfl)
    · replace h := zBr_t c22 h
      refine lv_goto (pc := 98) (tgt := 145) hx hb dX12_doDeed_98 (by decide) ?_
      exact kX12_doDeed_145 cx hr hlk hq hb1 hx1 h hc hP hS (lv_sub hl [0, 1, 2, 3] rfl)
set_option maxHeartbeats 4000000 in
set_option maxRecDepth 100000 in
theorem kX12_doDeed_73 {p : Program} {l : Launch} {e : Env} {s : State} {m : MethodId} {args : Array Value} {below : List Frame} {meth : Method} {c : Code} {D : va_G} {cy : Nat → ClassId} {q : Nat → Nat} {A : Nat → Prop} (cx : zX RX12 cX12_doDeed 6 p s m args c D cy) (hr : meth.sig.returnType = none) (hlk : meth.locks = false) (hq : zQ A q zNM) {z : zSt} {v3 : Int32} {v4 : Int32} : ∀ (n : Nat) (S : zSt) (v5 : Int32), zLp (fX12_doDeed_73 v3 v4) n (S, v5) = some z → ∀ (H : Heap) (locs : List Loc), va_P D vwCl (zW zshM zNM cy q S) H → va_S A s.heap H locs → ∀ (ls : Array Slot), lv_has ls 6 [(0, .ref (q 0)), (3, .int v3), (4, .int v4), (5, .int v5)] → W p l e rmX12_doDeed s m args below meth c H locs 0 0 (MQ below (va_Qv (fun (u : zSt) => u = z) (fun u t => va_P D vwCl (zW zshM zNM cy q u) t.heap) A) args s 0 0 A) (F0 m 73 ls []) := by
  intro n
  induction n with
  | zero =>
    intro S v5 h
    cases h
  | succ n ih =>
    intro S v5 h H locs hP hS ls hl
    obtain ⟨x, h, hk⟩ := zLp_e h
    exact kX12_doDeed_73B cx hr hlk hq  (C1 := zKt (fun t => zLp (fX12_doDeed_73 v3 v4) n t = some z) (fun a => a = z)) (fun S v5 ht H locs hP hS ls hl => ih S v5 ht H locs hP hS ls hl) (fun a ha => ha) h hk hP hS hl
def fX12_doDeed (S : zSt) (v1 : Int32) (v2 : Int32) (v3 : Int32) : Option zSt :=
  zGd (zIx (25 : Int32) 406) (zLt (S.1 2 (25 : Int32).toNatClampNeg) (fun x2 => zGd (zIx ((38 : Int32) + x2) 406) (zLt (zI S 2 ((38 : Int32) + x2).toNatClampNeg v1) (fun S4 => zGd (zIx ((50 : Int32) + x2) 406) (zLt (zI S4 2 ((50 : Int32) + x2).toNatClampNeg v2) (fun S6 => zGd (zIx ((62 : Int32) + x2) 406) (zLt (zI S6 2 ((62 : Int32) + x2).toNatClampNeg v3) (fun S8 => zGd (zIx (24 : Int32) 406) (zGd (zIx ((74 : Int32) + x2) 406) (zLt (zI S8 2 ((74 : Int32) + x2).toNatClampNeg (S8.1 2 (24 : Int32).toNatClampNeg)) (fun S11 => zGd (zIx (25 : Int32) 406) (zGd (zIx (25 : Int32) 406) (zLt (zI S11 2 (25 : Int32).toNatClampNeg ((S11.1 2 (25 : Int32).toNatClampNeg) + (1 : Int32))) (fun S14 => zLp (fX12_doDeed_73 v3 x2) 2000 (S14, (0 : Int32))))))))))))))))
set_option maxHeartbeats 4000000 in
set_option maxRecDepth 100000 in
theorem mX12_doDeed {l : Launch} {D : va_G} {cy : Nat → ClassId} {q : Nat → Nat} {A : Nat → Prop} {S : zSt} {v1 : Int32} {v2 : Int32} {v3 : Int32} (hq : zQ A q zNM) {z : zSt} (h : fX12_doDeed S v1 v2 v3 = some z) : zMv l yX12_doDeed cX12_doDeed 6 none rmX12_doDeed [.ref (q 0), .int v1, .int v2, .int v3] zshM zNM D cy q A S z := by
  refine Met.ofW (cc := cX12_doDeed) (maxL := 6) (ret := none) (by decide) rfl ?_
  intro p e s m args below meth c s₁ B hml hv
  obtain ⟨rfl, hP, hK⟩ := hv
  have cx : zX RX12 cX12_doDeed 6 p s m ([.ref (q 0), .int v1, .int v2, .int v3]).toArray c D cy := ⟨B.exec, B.bytes, hml, findClass_of_methodNamed B.named, fun w hw => atoms_spec (ws := Cond.code yX12_doDeed cX12_doDeed 6 none :: zTB) B.pre w (List.mem_cons_of_mem _ hw), hK⟩
  have hx := cx.1
  have hb := cx.2.1
  have hr := B.returns
  have hlk := B.notSynchronized
  have hS : va_S A s.heap s.heap [] := va_S.rf
  have hl := lv_entry ([.ref (q 0), .int v1, .int v2, .int v3]) (n := 6) (Nat.le_of_ble_eq_true rfl)
  rw [lg_entry_eq]
  generalize (lg_sl ([.ref (q 0), .int v1, .int v2, .int v3]) ++ List.replicate (6 - (lg_sl ([.ref (q 0), .int v1, .int v2, .int v3])).length) Slot.unset).toArray = ls at hl ⊢
  have hl : lv_has ls 6 [(0, .ref (q 0)), (1, .int v1), (2, .int v2), (3, .int v3)] := hl
  unfold fX12_doDeed at h
  refine lv_aload_n (pc := 0) hx hb dX12_doDeed_0 rfl (lv_at hl 0 rfl) ?_
  refine zr_getR (pc := 1) (t := 2) cx lk_X12_98 hP nM_0 sM_0 rfl dX12_doDeed_1 ?_
  refine lv_bipush (pc := 4) hx hb dX12_doDeed_4 zb_25 ?_
  obtain ⟨g1, h⟩ := zGd_e h
  refine zr_iald (pc := 6) cx hP nM_2 sM_2 g1 dX12_doDeed_6 ?_
  obtain ⟨x2, ex2, h⟩ := zLt_e h
  refine zr_nmI ex2 ?_
  refine lv_istore (lv' := [(4, .int x2), (0, .ref (q 0)), (1, .int v1), (2, .int v2), (3, .int v3)]) (pc := 7) hx hb dX12_doDeed_7 hl (by decide) rfl (fun ls hl => ?_)
  refine lv_aload_n (pc := 9) hx hb dX12_doDeed_9 rfl (lv_at hl 1 rfl) ?_
  refine zr_getR (pc := 10) (t := 2) cx lk_X12_98 hP nM_0 sM_0 rfl dX12_doDeed_10 ?_
  refine lv_bipush (pc := 13) hx hb dX12_doDeed_13 zb_38 ?_
  refine lv_iload (pc := 15) hx hb dX12_doDeed_15 (lv_at hl 0 rfl) ?_
  refine lv_iadd (pc := 17) hx hb dX12_doDeed_17 ?_
  refine lv_iload_n (pc := 18) hx hb dX12_doDeed_18 rfl (lv_at hl 2 rfl) ?_
  obtain ⟨g3, h⟩ := zGd_e h
  obtain ⟨S4, eS4, h⟩ := zLt_e h
  refine zr_iast (pc := 19) cx hq hP hS nM_2 sM_2 g3 dX12_doDeed_19 (fun H locs hP hS => ?_)
  rw [← eS4] at hP
  refine lv_aload_n (pc := 20) hx hb dX12_doDeed_20 rfl (lv_at hl 1 rfl) ?_
  refine zr_getR (pc := 21) (t := 2) cx lk_X12_98 hP nM_0 sM_0 rfl dX12_doDeed_21 ?_
  refine lv_bipush (pc := 24) hx hb dX12_doDeed_24 zb_50 ?_
  refine lv_iload (pc := 26) hx hb dX12_doDeed_26 (lv_at hl 0 rfl) ?_
  refine lv_iadd (pc := 28) hx hb dX12_doDeed_28 ?_
  refine lv_iload_n (pc := 29) hx hb dX12_doDeed_29 rfl (lv_at hl 3 rfl) ?_
  obtain ⟨g5, h⟩ := zGd_e h
  obtain ⟨S6, eS6, h⟩ := zLt_e h
  refine zr_iast (pc := 30) cx hq hP hS nM_2 sM_2 g5 dX12_doDeed_30 (fun H locs hP hS => ?_)
  rw [← eS6] at hP
  refine lv_aload_n (pc := 31) hx hb dX12_doDeed_31 rfl (lv_at hl 1 rfl) ?_
  refine zr_getR (pc := 32) (t := 2) cx lk_X12_98 hP nM_0 sM_0 rfl dX12_doDeed_32 ?_
  refine lv_bipush (pc := 35) hx hb dX12_doDeed_35 zb_62 ?_
  refine lv_iload (pc := 37) hx hb dX12_doDeed_37 (lv_at hl 0 rfl) ?_
  refine lv_iadd (pc := 39) hx hb dX12_doDeed_39 ?_
  refine lv_iload_n (pc := 40) hx hb dX12_doDeed_40 rfl (lv_at hl 4 rfl) ?_
  obtain ⟨g7, h⟩ := zGd_e h
  obtain ⟨S8, eS8, h⟩ := zLt_e h
  refine zr_iast (pc := 41) cx hq hP hS nM_2 sM_2 g7 dX12_doDeed_41 (fun H locs hP hS => ?_)
  rw [← eS8] at hP
  refine lv_aload_n (pc := 42) hx hb dX12_doDeed_42 rfl (lv_at hl 1 rfl) ?_
  refine zr_getR (pc := 43) (t := 2) cx lk_X12_98 hP nM_0 sM_0 rfl dX12_doDeed_43 ?_
  refine lv_bipush (pc := 46) hx hb dX12_doDeed_46 zb_74 ?_
  refine lv_iload (pc := 48) hx hb dX12_doDeed_48 (lv_at hl 0 rfl) ?_
  refine lv_iadd (pc := 50) hx hb dX12_doDeed_50 ?_
  refine lv_aload_n (pc := 51) hx hb dX12_doDeed_51 rfl (lv_at hl 1 rfl) ?_
  refine zr_getR (pc := 52) (t := 2) cx lk_X12_98 hP nM_0 sM_0 rfl dX12_doDeed_52 ?_
  refine lv_bipush (pc := 55) hx hb dX12_doDeed_55 zb_24 ?_
  obtain ⟨g9, h⟩ := zGd_e h
  refine zr_iald (pc := 57) cx hP nM_2 sM_2 g9 dX12_doDeed_57 ?_
  obtain ⟨g10, h⟩ := zGd_e h
  obtain ⟨S11, eS11, h⟩ := zLt_e h
  refine zr_iast (pc := 58) cx hq hP hS nM_2 sM_2 g10 dX12_doDeed_58 (fun H locs hP hS => ?_)
  rw [← eS11] at hP
  refine lv_aload_n (pc := 59) hx hb dX12_doDeed_59 rfl (lv_at hl 1 rfl) ?_
  refine zr_getR (pc := 60) (t := 2) cx lk_X12_98 hP nM_0 sM_0 rfl dX12_doDeed_60 ?_
  refine lv_bipush (pc := 63) hx hb dX12_doDeed_63 zb_25 ?_
  refine lv_dup2_11 (pc := 65) hx hb dX12_doDeed_65 rfl rfl ?_
  obtain ⟨g12, h⟩ := zGd_e h
  refine zr_iald (pc := 66) cx hP nM_2 sM_2 g12 dX12_doDeed_66 ?_
  refine lv_iconst (pc := 67) hx hb dX12_doDeed_67 zc_1 ?_
  refine lv_iadd (pc := 68) hx hb dX12_doDeed_68 ?_
  obtain ⟨g13, h⟩ := zGd_e h
  obtain ⟨S14, eS14, h⟩ := zLt_e h
  refine zr_iast (pc := 69) cx hq hP hS nM_2 sM_2 g13 dX12_doDeed_69 (fun H locs hP hS => ?_)
  rw [← eS14] at hP
  refine lv_iconst (pc := 70) hx hb dX12_doDeed_70 zc_0 ?_
  refine lv_istore (lv' := [(5, .int (0 : Int32)), (4, .int x2), (0, .ref (q 0)), (1, .int v1), (2, .int v2), (3, .int v3)]) (pc := 71) hx hb dX12_doDeed_71 hl (by decide) rfl (fun ls hl => ?_)
  exact kX12_doDeed_73 cx hr hlk hq 2000 _ _ h _ _ hP hS _ (lv_sub hl [2, 5, 1, 0] rfl)
-- X12_live
abbrev rmX12_live : Room := { frames := 4, cells := 0, slots := 0, locals := 89 }
def fX12_live (S : zSt) (v1 : Int32) (v2 : Int32) (v3 : Int32) (v4 : Int32) : Option zSt :=
  zBr (v1 = 0) (zBd (fX12_doDeed S v2 v3 v4) (fun S4 => some S4)) (zBr (v1 = 1) (zGd (zIx ((32 : Int32) + v2) 406) (zLt (zI S 2 ((32 : Int32) + v2).toNatClampNeg (0 : Int32)) (fun S6 => some S6))) (zGd (zIx ((26 : Int32) + v2) 406) (zLt (zI S 2 ((26 : Int32) + v2).toNatClampNeg v3) (fun S8 => some S8))))
set_option maxHeartbeats 4000000 in
set_option maxRecDepth 100000 in
theorem mX12_live {l : Launch} {D : va_G} {cy : Nat → ClassId} {q : Nat → Nat} {A : Nat → Prop} {S : zSt} {v1 : Int32} {v2 : Int32} {v3 : Int32} {v4 : Int32} (hq : zQ A q zNM) {z : zSt} (h : fX12_live S v1 v2 v3 v4 = some z) : zMv l yX12_live cX12_live 5 none rmX12_live [.ref (q 0), .int v1, .int v2, .int v3, .int v4] zshM zNM D cy q A S z := by
  refine Met.ofW (cc := cX12_live) (maxL := 5) (ret := none) (by decide) rfl ?_
  intro p e s m args below meth c s₁ B hml hv
  obtain ⟨rfl, hP, hK⟩ := hv
  have cx : zX RX12 cX12_live 5 p s m ([.ref (q 0), .int v1, .int v2, .int v3, .int v4]).toArray c D cy := ⟨B.exec, B.bytes, hml, findClass_of_methodNamed B.named, fun w hw => atoms_spec (ws := Cond.code yX12_live cX12_live 5 none :: zTB) B.pre w (List.mem_cons_of_mem _ hw), hK⟩
  have hx := cx.1
  have hb := cx.2.1
  have hr := B.returns
  have hlk := B.notSynchronized
  have hS : va_S A s.heap s.heap [] := va_S.rf
  have hl := lv_entry ([.ref (q 0), .int v1, .int v2, .int v3, .int v4]) (n := 5) (Nat.le_of_ble_eq_true rfl)
  rw [lg_entry_eq]
  generalize (lg_sl ([.ref (q 0), .int v1, .int v2, .int v3, .int v4]) ++ List.replicate (5 - (lg_sl ([.ref (q 0), .int v1, .int v2, .int v3, .int v4])).length) Slot.unset).toArray = ls at hl ⊢
  have hl : lv_has ls 5 [(0, .ref (q 0)), (1, .int v1), (2, .int v2), (3, .int v3), (4, .int v4)] := hl
  unfold fX12_live at h
  refine lv_iload_n (pc := 0) hx hb dX12_live_0 rfl (lv_at hl 1 rfl) ?_
  by_cases c1 : v1 = 0
  · replace h := zBr_t c1 h
    refine lv_lookup (pc := 1) (off := 27) (tgt := 28) hx hb dX12_live_1 rfl (by rw [c1]; rfl) (by decide) ?_
    refine lv_aload_n (pc := 28) hx hb dX12_live_28 rfl (lv_at hl 0 rfl) ?_
    refine lv_iload_n (pc := 29) hx hb dX12_live_29 rfl (lv_at hl 2 rfl) ?_
    refine lv_iload_n (pc := 30) hx hb dX12_live_30 rfl (lv_at hl 3 rfl) ?_
    refine lv_iload (pc := 31) hx hb dX12_live_31 (lv_at hl 4 rfl) ?_
    obtain ⟨S4, k3, h⟩ := zBd_e h
    refine zr_VV (pc := 33) (rest := []) cx cv_X12_271 (mX12_doDeed hq k3) ⟨⟨rfl, rfl⟩, Nat.le_of_ble_eq_true rfl, Nat.le_of_ble_eq_true rfl⟩ ⟨Nat.le_of_ble_eq_true rfl, Nat.le_of_ble_eq_true rfl⟩ hP hS nM_0 sM_0 rfl hl.1 rfl rfl (Nat.le_of_ble_eq_true rfl) dX12_live_33 (fun H locs hP hS => ?_)
    have hz := Option.some.inj h
    exact zr_rqV (pc := 36) cx hr hlk hP hS hz dX12_live_36
  · replace h := zBr_f c1 h
    by_cases c2 : v1 = 1
    · replace h := zBr_t c2 h
      refine lv_lookup (pc := 1) (off := 36) (tgt := 37) hx hb dX12_live_1 rfl (by rw [c2]; rfl) (by decide) ?_
      refine lv_aload_n (pc := 37) hx hb dX12_live_37 rfl (lv_at hl 0 rfl) ?_
      refine zr_getR (pc := 38) (t := 2) cx lk_X12_98 hP nM_0 sM_0 rfl dX12_live_38 ?_
      refine lv_bipush (pc := 41) hx hb dX12_live_41 zb_32 ?_
      refine lv_iload_n (pc := 43) hx hb dX12_live_43 rfl (lv_at hl 2 rfl) ?_
      refine lv_iadd (pc := 44) hx hb dX12_live_44 ?_
      refine lv_iconst (pc := 45) hx hb dX12_live_45 zc_0 ?_
      obtain ⟨g5, h⟩ := zGd_e h
      obtain ⟨S6, eS6, h⟩ := zLt_e h
      refine zr_iast (pc := 46) cx hq hP hS nM_2 sM_2 g5 dX12_live_46 (fun H locs hP hS => ?_)
      rw [← eS6] at hP
      have hz := Option.some.inj h
      exact zr_rqV (pc := 47) cx hr hlk hP hS hz dX12_live_47
    · replace h := zBr_f c2 h
      refine lv_lookup (pc := 1) (off := 47) (tgt := 48) hx hb dX12_live_1 rfl (by show Op.lookupswitch.offset [(0, 27), (1, 36)] 47 _ = _; rw [lv_osw c1 (by decide), lv_osw c2 (by decide)]; rfl) (by decide) ?_
      refine lv_aload_n (pc := 48) hx hb dX12_live_48 rfl (lv_at hl 0 rfl) ?_
      refine zr_getR (pc := 49) (t := 2) cx lk_X12_98 hP nM_0 sM_0 rfl dX12_live_49 ?_
      refine lv_bipush (pc := 52) hx hb dX12_live_52 zb_26 ?_
      refine lv_iload_n (pc := 54) hx hb dX12_live_54 rfl (lv_at hl 2 rfl) ?_
      refine lv_iadd (pc := 55) hx hb dX12_live_55 ?_
      refine lv_iload_n (pc := 56) hx hb dX12_live_56 rfl (lv_at hl 3 rfl) ?_
      obtain ⟨g7, h⟩ := zGd_e h
      obtain ⟨S8, eS8, h⟩ := zLt_e h
      refine zr_iast (pc := 57) cx hq hP hS nM_2 sM_2 g7 dX12_live_57 (fun H locs hP hS => ?_)
      rw [← eS8] at hP
      have hz := Option.some.inj h
      exact zr_rqV (pc := 58) cx hr hlk hP hS hz dX12_live_58
-- X12_least
abbrev rmX12_least : Room := { frames := 0, cells := 0, slots := 0, locals := 0 }
def fX12_least (v0 : Int32) (v1 : Int32) : Option Int32 :=
  zBr (v1 ≤ v0) (some v1) (some v0)
set_option maxHeartbeats 4000000 in
set_option maxRecDepth 100000 in
theorem mX12_least {l : Launch} {D : va_G} {cy : Nat → ClassId} {v0 : Int32} {v1 : Int32} {z : Int32} (h : fX12_least v0 v1 = some z) : zMi l yX12_least cX12_least 2 (some .int) rmX12_least [.int v0, .int v1] (zPk D cy) z := by
  refine Met.ofW (cc := cX12_least) (maxL := 2) (ret := (some .int)) (by decide) rfl ?_
  intro p e s m args below meth c s₁ B hml hv
  obtain ⟨rfl, hK⟩ := hv
  have cx : zX RX12 cX12_least 2 p s m ([.int v0, .int v1]).toArray c D cy := ⟨B.exec, B.bytes, hml, findClass_of_methodNamed B.named, fun w hw => atoms_spec (ws := Cond.code yX12_least cX12_least 2 (some .int) :: zTB) B.pre w (List.mem_cons_of_mem _ hw), hK⟩
  have hx := cx.1
  have hb := cx.2.1
  have hr := B.returns
  have hlk := B.notSynchronized
  have hl := lv_entry ([.int v0, .int v1]) (n := 2) (Nat.le_of_ble_eq_true rfl)
  rw [lg_entry_eq]
  generalize (lg_sl ([.int v0, .int v1]) ++ List.replicate (2 - (lg_sl ([.int v0, .int v1])).length) Slot.unset).toArray = ls at hl ⊢
  have hl : lv_has ls 2 [(0, .int v0), (1, .int v1)] := hl
  unfold fX12_least at h
  refine lv_iload_n (pc := 0) hx hb dX12_least_0 rfl (lv_at hl 0 rfl) ?_
  refine lv_iload_n (pc := 1) hx hb dX12_least_1 rfl (lv_at hl 1 rfl) ?_
  refine lv_icmp_ge (pc := 2) (tgt := 9) hx hb dX12_least_2 (by decide) (fun c1 => ?_) (fun c1 => ?_)
  · replace h := zBr_t c1 h
    refine lv_iload_n (pc := 9) hx hb dX12_least_9 rfl (lv_at hl 1 rfl) ?_
    have hz := Option.some.inj h
    exact zr_reI (pc := 10) cx hr hlk hz dX12_least_10
  · replace h := zBr_f c1 h
    refine lv_iload_n (pc := 5) hx hb dX12_least_5 rfl (lv_at hl 0 rfl) ?_
    refine lv_goto (pc := 6) (tgt := 10) hx hb dX12_least_6 (by decide) ?_
    have hz := Option.some.inj h
    exact zr_reI (pc := 10) cx hr hlk hz dX12_least_10
-- X12_oneDay
abbrev rmX12_oneDay : Room := { frames := 1, cells := 0, slots := 0, locals := 21 }
def fX12_oneDay_2  (t : (zSt × Int32)) : Option ((zSt × Int32) ⊕ zSt) :=
  match t with
  | (S, v1) => zGd (zIx (1 : Int32) 406) (zBr ((S.1 2 (1 : Int32).toNatClampNeg) ≤ v1) (zXr (zGd (zIx (24 : Int32) 406) (zGd (zIx (24 : Int32) 406) (zLt (zI S 2 (24 : Int32).toNatClampNeg ((S.1 2 (24 : Int32).toNatClampNeg) + (1 : Int32))) (fun S6 => some S6))))) (zGd (zIx ((32 : Int32) + v1) 406) (zBd (fX12_least (99 : Int32) ((S.1 2 ((32 : Int32) + v1).toNatClampNeg) + (1 : Int32))) (fun r9 => zGd (zIx ((32 : Int32) + v1) 406) (zLt (zI S 2 ((32 : Int32) + v1).toNatClampNeg r9) (fun S11 => zLt (v1 + (1 : Int32)) (fun x12 => some (.inl (S11, x12)))))))))
set_option maxHeartbeats 4000000 in
set_option maxRecDepth 100000 in
theorem kX12_oneDay_2B {p : Program} {l : Launch} {e : Env} {s : State} {m : MethodId} {args : Array Value} {below : List Frame} {meth : Method} {c : Code} {D : va_G} {cy : Nat → ClassId} {q : Nat → Nat} {A : Nat → Prop} (cx : zX RX12 cX12_oneDay 2 p s m args c D cy) (hr : meth.sig.returnType = none) (hlk : meth.locks = false) (hq : zQ A q zNM) {z : zSt} {S : zSt} {v1 : Int32} {C1 : ((zSt × Int32) ⊕ zSt) → Prop} (hb1 : ∀ (S : zSt) (v1 : Int32), C1 (.inl (S, v1)) → ∀ (H : Heap) (locs : List Loc), va_P D vwCl (zW zshM zNM cy q S) H → va_S A s.heap H locs → ∀ (ls : Array Slot), lv_has ls 2 [(0, .ref (q 0)), (1, .int v1)] → W p l e rmX12_oneDay s m args below meth c H locs 0 0 (MQ below (va_Qv (fun (u : zSt) => u = z) (fun u t => va_P D vwCl (zW zshM zNM cy q u) t.heap) A) args s 0 0 A) (F0 m 2 ls [])) (hx1 : ∀ a, C1 (.inr a) → a = z) {x : ((zSt × Int32) ⊕ zSt)} (h : fX12_oneDay_2 (S, v1) = some x) (hc : C1 x) {H : Heap} {locs : List Loc} (hP : va_P D vwCl (zW zshM zNM cy q S) H) (hS : va_S A s.heap H locs) {ls : Array Slot} (hl : lv_has ls 2 [(0, .ref (q 0)), (1, .int v1)]) : W p l e rmX12_oneDay s m args below meth c H locs 0 0 (MQ below (va_Qv (fun (u : zSt) => u = z) (fun u t => va_P D vwCl (zW zshM zNM cy q u) t.heap) A) args s 0 0 A) (F0 m 2 ls []) := by
  have hx := cx.1
  have hb := cx.2.1
  unfold fX12_oneDay_2 at h
  dsimp only at h
  refine lv_iload_n (pc := 2) hx hb dX12_oneDay_2 rfl (lv_at hl 1 rfl) ?_
  refine lv_aload_n (pc := 3) hx hb dX12_oneDay_3 rfl (lv_at hl 0 rfl) ?_
  refine zr_getR (pc := 4) (t := 2) cx lk_X12_98 hP nM_0 sM_0 rfl dX12_oneDay_4 ?_
  refine lv_iconst (pc := 7) hx hb dX12_oneDay_7 zc_1 ?_
  obtain ⟨g1, h⟩ := zGd_e h
  refine zr_iald (pc := 8) cx hP nM_2 sM_2 g1 dX12_oneDay_8 ?_
  refine lv_icmp_ge (pc := 9) (tgt := 43) hx hb dX12_oneDay_9 (by decide) (fun c2 => ?_) (fun c2 => ?_)
  · replace h := zBr_t c2 h
    obtain ⟨y3, h, ex⟩ := zXr_e h
    have hc := hx1 y3 (by rw [ex] at hc; exact hc)
    rw [hc] at h
    refine lv_aload_n (pc := 43) hx hb dX12_oneDay_43 rfl (lv_at hl 0 rfl) ?_
    refine zr_getR (pc := 44) (t := 2) cx lk_X12_98 hP nM_0 sM_0 rfl dX12_oneDay_44 ?_
    refine lv_bipush (pc := 47) hx hb dX12_oneDay_47 zb_24 ?_
    refine lv_dup2_11 (pc := 49) hx hb dX12_oneDay_49 rfl rfl ?_
    obtain ⟨g4, h⟩ := zGd_e h
    refine zr_iald (pc := 50) cx hP nM_2 sM_2 g4 dX12_oneDay_50 ?_
    refine lv_iconst (pc := 51) hx hb dX12_oneDay_51 zc_1 ?_
    refine lv_iadd (pc := 52) hx hb dX12_oneDay_52 ?_
    obtain ⟨g5, h⟩ := zGd_e h
    obtain ⟨S6, eS6, h⟩ := zLt_e h
    refine zr_iast (pc := 53) cx hq hP hS nM_2 sM_2 g5 dX12_oneDay_53 (fun H locs hP hS => ?_)
    rw [← eS6] at hP
    have hz := Option.some.inj h
    exact zr_rqV (pc := 54) cx hr hlk hP hS hz dX12_oneDay_54
  · replace h := zBr_f c2 h
    refine lv_aload_n (pc := 12) hx hb dX12_oneDay_12 rfl (lv_at hl 0 rfl) ?_
    refine zr_getR (pc := 13) (t := 2) cx lk_X12_98 hP nM_0 sM_0 rfl dX12_oneDay_13 ?_
    refine lv_bipush (pc := 16) hx hb dX12_oneDay_16 zb_32 ?_
    refine lv_iload_n (pc := 18) hx hb dX12_oneDay_18 rfl (lv_at hl 1 rfl) ?_
    refine lv_iadd (pc := 19) hx hb dX12_oneDay_19 ?_
    refine lv_bipush (pc := 20) hx hb dX12_oneDay_20 zb_99 ?_
    refine lv_aload_n (pc := 22) hx hb dX12_oneDay_22 rfl (lv_at hl 0 rfl) ?_
    refine zr_getR (pc := 23) (t := 2) cx lk_X12_98 hP nM_0 sM_0 rfl dX12_oneDay_23 ?_
    refine lv_bipush (pc := 26) hx hb dX12_oneDay_26 zb_32 ?_
    refine lv_iload_n (pc := 28) hx hb dX12_oneDay_28 rfl (lv_at hl 1 rfl) ?_
    refine lv_iadd (pc := 29) hx hb dX12_oneDay_29 ?_
    obtain ⟨g7, h⟩ := zGd_e h
    refine zr_iald (pc := 30) cx hP nM_2 sM_2 g7 dX12_oneDay_30 ?_
    refine lv_iconst (pc := 31) hx hb dX12_oneDay_31 zc_1 ?_
    refine lv_iadd (pc := 32) hx hb dX12_oneDay_32 ?_
    obtain ⟨r9, k8, h⟩ := zBd_e h
    refine zr_SI (pc := 33) (rest := [.int ((32 : Int32) + v1), .ref (q 2)]) cx cv_X12_296 (mX12_least k8) ⟨⟨rfl, rfl⟩, Nat.le_of_ble_eq_true rfl, Nat.le_of_ble_eq_true rfl⟩ ⟨Nat.le_of_ble_eq_true rfl, Nat.le_of_ble_eq_true rfl⟩ (zr_preK cx) hl.1 rfl rfl (Nat.le_of_ble_eq_true rfl) dX12_oneDay_33 ?_
    obtain ⟨g10, h⟩ := zGd_e h
    obtain ⟨S11, eS11, h⟩ := zLt_e h
    refine zr_iast (pc := 36) cx hq hP hS nM_2 sM_2 g10 dX12_oneDay_36 (fun H locs hP hS => ?_)
    rw [← eS11] at hP
    obtain ⟨x12, ex12, h⟩ := zLt_e h
    refine lv_iinc (v := x12) (lv' := [(1, .int x12), (0, .ref (q 0))]) (pc := 37) hx hb dX12_oneDay_37 hl (k := 1) rfl (by rw [zc_1]; exact ex12.symm) (by decide) rfl (fun ls hl => ?_)
    refine lv_goto (pc := 40) (tgt := 2) hx hb dX12_oneDay_40 (by decide) ?_
    cases h
    exact hb1 _ _ hc _ _ hP hS _ (lv_sub hl [1, 0] rfl)
set_option maxHeartbeats 4000000 in
set_option maxRecDepth 100000 in
theorem kX12_oneDay_2 {p : Program} {l : Launch} {e : Env} {s : State} {m : MethodId} {args : Array Value} {below : List Frame} {meth : Method} {c : Code} {D : va_G} {cy : Nat → ClassId} {q : Nat → Nat} {A : Nat → Prop} (cx : zX RX12 cX12_oneDay 2 p s m args c D cy) (hr : meth.sig.returnType = none) (hlk : meth.locks = false) (hq : zQ A q zNM) {z : zSt} : ∀ (n : Nat) (S : zSt) (v1 : Int32), zLp (fX12_oneDay_2) n (S, v1) = some z → ∀ (H : Heap) (locs : List Loc), va_P D vwCl (zW zshM zNM cy q S) H → va_S A s.heap H locs → ∀ (ls : Array Slot), lv_has ls 2 [(0, .ref (q 0)), (1, .int v1)] → W p l e rmX12_oneDay s m args below meth c H locs 0 0 (MQ below (va_Qv (fun (u : zSt) => u = z) (fun u t => va_P D vwCl (zW zshM zNM cy q u) t.heap) A) args s 0 0 A) (F0 m 2 ls []) := by
  intro n
  induction n with
  | zero =>
    intro S v1 h
    cases h
  | succ n ih =>
    intro S v1 h H locs hP hS ls hl
    obtain ⟨x, h, hk⟩ := zLp_e h
    exact kX12_oneDay_2B cx hr hlk hq  (C1 := zKt (fun t => zLp (fX12_oneDay_2) n t = some z) (fun a => a = z)) (fun S v1 ht H locs hP hS ls hl => ih S v1 ht H locs hP hS ls hl) (fun a ha => ha) h hk hP hS hl
def fX12_oneDay (S : zSt) : Option zSt :=
  zLp (fX12_oneDay_2) 2000 (S, (0 : Int32))
set_option maxHeartbeats 4000000 in
set_option maxRecDepth 100000 in
theorem mX12_oneDay {l : Launch} {D : va_G} {cy : Nat → ClassId} {q : Nat → Nat} {A : Nat → Prop} {S : zSt} (hq : zQ A q zNM) {z : zSt} (h : fX12_oneDay S = some z) : zMv l yX12_oneDay cX12_oneDay 2 none rmX12_oneDay [.ref (q 0)] zshM zNM D cy q A S z := by
  refine Met.ofW (cc := cX12_oneDay) (maxL := 2) (ret := none) (by decide) rfl ?_
  intro p e s m args below meth c s₁ B hml hv
  obtain ⟨rfl, hP, hK⟩ := hv
  have cx : zX RX12 cX12_oneDay 2 p s m ([.ref (q 0)]).toArray c D cy := ⟨B.exec, B.bytes, hml, findClass_of_methodNamed B.named, fun w hw => atoms_spec (ws := Cond.code yX12_oneDay cX12_oneDay 2 none :: zTB) B.pre w (List.mem_cons_of_mem _ hw), hK⟩
  have hx := cx.1
  have hb := cx.2.1
  have hr := B.returns
  have hlk := B.notSynchronized
  have hS : va_S A s.heap s.heap [] := va_S.rf
  have hl := lv_entry ([.ref (q 0)]) (n := 2) (Nat.le_of_ble_eq_true rfl)
  rw [lg_entry_eq]
  generalize (lg_sl ([.ref (q 0)]) ++ List.replicate (2 - (lg_sl ([.ref (q 0)])).length) Slot.unset).toArray = ls at hl ⊢
  have hl : lv_has ls 2 [(0, .ref (q 0))] := hl
  unfold fX12_oneDay at h
  refine lv_iconst (pc := 0) hx hb dX12_oneDay_0 zc_0 ?_
  refine lv_istore_n (lv' := [(1, .int (0 : Int32)), (0, .ref (q 0))]) (pc := 1) hx hb dX12_oneDay_1 rfl hl (by decide) rfl (fun ls hl => ?_)
  exact kX12_oneDay_2 cx hr hlk hq 2000 _ _ h _ _ hP hS _ (lv_sub hl [1, 0] rfl)
-- X12_passDays
abbrev rmX12_passDays : Room := { frames := 2, cells := 0, slots := 0, locals := 42 }
def fX12_passDays_18  (v2 : Int32) (t : (zSt × Int32)) : Option ((zSt × Int32) ⊕ (Int32 × zSt)) :=
  match t with
  | (S, v3) => zBr (v2 ≤ v3) (zXr (some (v2, S))) (zBd (fX12_oneDay S) (fun S7 => zLt (v3 + (1 : Int32)) (fun x8 => some (.inl (S7, x8)))))
set_option maxHeartbeats 4000000 in
set_option maxRecDepth 100000 in
theorem kX12_passDays_18B {p : Program} {l : Launch} {e : Env} {s : State} {m : MethodId} {args : Array Value} {below : List Frame} {meth : Method} {c : Code} {D : va_G} {cy : Nat → ClassId} {q : Nat → Nat} {A : Nat → Prop} (cx : zX RX12 cX12_passDays 4 p s m args c D cy) (hr : meth.sig.returnType = (some .int)) (hlk : meth.locks = false) (hq : zQ A q zNM) {z : (Int32 × zSt)} {S : zSt} {v2 : Int32} {v3 : Int32} {C1 : ((zSt × Int32) ⊕ (Int32 × zSt)) → Prop} (hb1 : ∀ (S : zSt) (v3 : Int32), C1 (.inl (S, v3)) → ∀ (H : Heap) (locs : List Loc), va_P D vwCl (zW zshM zNM cy q S) H → va_S A s.heap H locs → ∀ (ls : Array Slot), lv_has ls 4 [(0, .ref (q 0)), (2, .int v2), (3, .int v3)] → W p l e rmX12_passDays s m args below meth c H locs 0 0 (MQ below (va_Qi (fun (r : Int32) (u : zSt) => (r, u) = z) (fun u t => va_P D vwCl (zW zshM zNM cy q u) t.heap) A) args s 0 0 A) (F0 m 18 ls [])) (hx1 : ∀ a, C1 (.inr a) → a = z) {x : ((zSt × Int32) ⊕ (Int32 × zSt))} (h : fX12_passDays_18 v2 (S, v3) = some x) (hc : C1 x) {H : Heap} {locs : List Loc} (hP : va_P D vwCl (zW zshM zNM cy q S) H) (hS : va_S A s.heap H locs) {ls : Array Slot} (hl : lv_has ls 4 [(0, .ref (q 0)), (2, .int v2), (3, .int v3)]) : W p l e rmX12_passDays s m args below meth c H locs 0 0 (MQ below (va_Qi (fun (r : Int32) (u : zSt) => (r, u) = z) (fun u t => va_P D vwCl (zW zshM zNM cy q u) t.heap) A) args s 0 0 A) (F0 m 18 ls []) := by
  have hx := cx.1
  have hb := cx.2.1
  unfold fX12_passDays_18 at h
  dsimp only at h
  refine lv_iload_n (pc := 18) hx hb dX12_passDays_18 rfl (lv_at hl 2 rfl) ?_
  refine lv_iload_n (pc := 19) hx hb dX12_passDays_19 rfl (lv_at hl 1 rfl) ?_
  refine lv_icmp_ge (pc := 20) (tgt := 33) hx hb dX12_passDays_20 (by decide) (fun c4 => ?_) (fun c4 => ?_)
  · replace h := zBr_t c4 h
    obtain ⟨y5, h, ex⟩ := zXr_e h
    have hc := hx1 y5 (by rw [ex] at hc; exact hc)
    rw [hc] at h
    refine lv_iload_n (pc := 33) hx hb dX12_passDays_33 rfl (lv_at hl 1 rfl) ?_
    have hz := Option.some.inj h
    exact zr_rqI (pc := 34) cx hr hlk hP hS hz dX12_passDays_34
  · replace h := zBr_f c4 h
    refine lv_aload_n (pc := 23) hx hb dX12_passDays_23 rfl (lv_at hl 0 rfl) ?_
    obtain ⟨S7, k6, h⟩ := zBd_e h
    refine zr_VV (pc := 24) (rest := []) cx cv_X12_299 (mX12_oneDay hq k6) ⟨⟨rfl, rfl⟩, Nat.le_of_ble_eq_true rfl, Nat.le_of_ble_eq_true rfl⟩ ⟨Nat.le_of_ble_eq_true rfl, Nat.le_of_ble_eq_true rfl⟩ hP hS nM_0 sM_0 rfl hl.1 rfl rfl (Nat.le_of_ble_eq_true rfl) dX12_passDays_24 (fun H locs hP hS => ?_)
    obtain ⟨x8, ex8, h⟩ := zLt_e h
    refine lv_iinc (v := x8) (lv' := [(3, .int x8), (0, .ref (q 0)), (2, .int v2)]) (pc := 27) hx hb dX12_passDays_27 hl (k := 2) rfl (by rw [zc_1]; exact ex8.symm) (by decide) rfl (fun ls hl => ?_)
    refine lv_goto (pc := 30) (tgt := 18) hx hb dX12_passDays_30 (by decide) ?_
    cases h
    exact hb1 _ _ hc _ _ hP hS _ (lv_sub hl [1, 2, 0] rfl)
set_option maxHeartbeats 4000000 in
set_option maxRecDepth 100000 in
theorem kX12_passDays_18 {p : Program} {l : Launch} {e : Env} {s : State} {m : MethodId} {args : Array Value} {below : List Frame} {meth : Method} {c : Code} {D : va_G} {cy : Nat → ClassId} {q : Nat → Nat} {A : Nat → Prop} (cx : zX RX12 cX12_passDays 4 p s m args c D cy) (hr : meth.sig.returnType = (some .int)) (hlk : meth.locks = false) (hq : zQ A q zNM) {z : (Int32 × zSt)} {v2 : Int32} : ∀ (n : Nat) (S : zSt) (v3 : Int32), zLp (fX12_passDays_18 v2) n (S, v3) = some z → ∀ (H : Heap) (locs : List Loc), va_P D vwCl (zW zshM zNM cy q S) H → va_S A s.heap H locs → ∀ (ls : Array Slot), lv_has ls 4 [(0, .ref (q 0)), (2, .int v2), (3, .int v3)] → W p l e rmX12_passDays s m args below meth c H locs 0 0 (MQ below (va_Qi (fun (r : Int32) (u : zSt) => (r, u) = z) (fun u t => va_P D vwCl (zW zshM zNM cy q u) t.heap) A) args s 0 0 A) (F0 m 18 ls []) := by
  intro n
  induction n with
  | zero =>
    intro S v3 h
    cases h
  | succ n ih =>
    intro S v3 h H locs hP hS ls hl
    obtain ⟨x, h, hk⟩ := zLp_e h
    exact kX12_passDays_18B cx hr hlk hq  (C1 := zKt (fun t => zLp (fX12_passDays_18 v2) n t = some z) (fun a => a = z)) (fun S v3 ht H locs hP hS ls hl => ih S v3 ht H locs hP hS ls hl) (fun a ha => ha) h hk hP hS hl
def fX12_passDays (S : zSt) (v1 : Int32) : Option (Int32 × zSt) :=
  zGd (zIx (24 : Int32) 406) (zBd (fX12_least v1 ((400 : Int32) - (S.1 2 (24 : Int32).toNatClampNeg))) (fun r3 => zLp (fX12_passDays_18 r3) 2000 (S, (0 : Int32))))
set_option maxHeartbeats 4000000 in
set_option maxRecDepth 100000 in
theorem mX12_passDays {l : Launch} {D : va_G} {cy : Nat → ClassId} {q : Nat → Nat} {A : Nat → Prop} {S : zSt} {v1 : Int32} (hq : zQ A q zNM) {z : (Int32 × zSt)} (h : fX12_passDays S v1 = some z) : zMq l yX12_passDays cX12_passDays 4 (some .int) rmX12_passDays [.ref (q 0), .int v1] zshM zNM D cy q A S z := by
  refine Met.ofW (cc := cX12_passDays) (maxL := 4) (ret := (some .int)) (by decide) rfl ?_
  intro p e s m args below meth c s₁ B hml hv
  obtain ⟨rfl, hP, hK⟩ := hv
  have cx : zX RX12 cX12_passDays 4 p s m ([.ref (q 0), .int v1]).toArray c D cy := ⟨B.exec, B.bytes, hml, findClass_of_methodNamed B.named, fun w hw => atoms_spec (ws := Cond.code yX12_passDays cX12_passDays 4 (some .int) :: zTB) B.pre w (List.mem_cons_of_mem _ hw), hK⟩
  have hx := cx.1
  have hb := cx.2.1
  have hr := B.returns
  have hlk := B.notSynchronized
  have hS : va_S A s.heap s.heap [] := va_S.rf
  have hl := lv_entry ([.ref (q 0), .int v1]) (n := 4) (Nat.le_of_ble_eq_true rfl)
  rw [lg_entry_eq]
  generalize (lg_sl ([.ref (q 0), .int v1]) ++ List.replicate (4 - (lg_sl ([.ref (q 0), .int v1])).length) Slot.unset).toArray = ls at hl ⊢
  have hl : lv_has ls 4 [(0, .ref (q 0)), (1, .int v1)] := hl
  unfold fX12_passDays at h
  refine lv_iload_n (pc := 0) hx hb dX12_passDays_0 rfl (lv_at hl 1 rfl) ?_
  refine lv_sipush (pc := 1) hx hb dX12_passDays_1 zs_400 ?_
  refine lv_aload_n (pc := 4) hx hb dX12_passDays_4 rfl (lv_at hl 0 rfl) ?_
  refine zr_getR (pc := 5) (t := 2) cx lk_X12_98 hP nM_0 sM_0 rfl dX12_passDays_5 ?_
  refine lv_bipush (pc := 8) hx hb dX12_passDays_8 zb_24 ?_
  obtain ⟨g1, h⟩ := zGd_e h
  refine zr_iald (pc := 10) cx hP nM_2 sM_2 g1 dX12_passDays_10 ?_
  refine lv_isub (pc := 11) hx hb dX12_passDays_11 ?_
  obtain ⟨r3, k2, h⟩ := zBd_e h
  refine zr_SI (pc := 12) (rest := []) cx cv_X12_296 (mX12_least k2) ⟨⟨rfl, rfl⟩, Nat.le_of_ble_eq_true rfl, Nat.le_of_ble_eq_true rfl⟩ ⟨Nat.le_of_ble_eq_true rfl, Nat.le_of_ble_eq_true rfl⟩ (zr_preK cx) hl.1 rfl rfl (Nat.le_of_ble_eq_true rfl) dX12_passDays_12 ?_
  refine lv_istore_n (lv' := [(2, .int r3), (0, .ref (q 0)), (1, .int v1)]) (pc := 15) hx hb dX12_passDays_15 rfl hl (by decide) rfl (fun ls hl => ?_)
  refine lv_iconst (pc := 16) hx hb dX12_passDays_16 zc_0 ?_
  refine lv_istore_n (lv' := [(3, .int (0 : Int32)), (2, .int r3), (0, .ref (q 0)), (1, .int v1)]) (pc := 17) hx hb dX12_passDays_17 rfl hl (by decide) rfl (fun ls hl => ?_)
  exact kX12_passDays_18 cx hr hlk hq 2000 _ _ h _ _ hP hS _ (lv_sub hl [2, 1, 0] rfl)
-- X12_why
abbrev rmX12_why : Room := { frames := 0, cells := 0, slots := 0, locals := 0 }
def fX12_why (S : zSt) (v1 : Int32) (v2 : Int32) (v3 : Int32) : Option Int32 :=
  zBr (v1 = 0) (zGd (zIx (25 : Int32) 406) (zBr ((S.1 2 (25 : Int32).toNatClampNeg) = (12 : Int32)) (some (1 : Int32)) (some (0 : Int32)))) (zBr (v1 = 1) (zGd (zIx ((32 : Int32) + v2) 406) (zBr ((S.1 2 ((32 : Int32) + v2).toNatClampNeg) = 0) (some (1 : Int32)) (some (0 : Int32)))) (zGd (zIx ((26 : Int32) + v2) 406) (zBr ((S.1 2 ((26 : Int32) + v2).toNatClampNeg) = v3) (some (1 : Int32)) (some (0 : Int32)))))
set_option maxHeartbeats 4000000 in
set_option maxRecDepth 100000 in
theorem mX12_why {l : Launch} {D : va_G} {cy : Nat → ClassId} {q : Nat → Nat} {S : zSt} {v1 : Int32} {v2 : Int32} {v3 : Int32} {z : Int32} (h : fX12_why S v1 v2 v3 = some z) : zMi l yX12_why cX12_why 4 (some .int) rmX12_why [.ref (q 0), .int v1, .int v2, .int v3] (zPr zshM zNM D cy q S) z := by
  refine Met.ofW (cc := cX12_why) (maxL := 4) (ret := (some .int)) (by decide) rfl ?_
  intro p e s m args below meth c s₁ B hml hv
  obtain ⟨rfl, hP, hK⟩ := hv
  have cx : zX RX12 cX12_why 4 p s m ([.ref (q 0), .int v1, .int v2, .int v3]).toArray c D cy := ⟨B.exec, B.bytes, hml, findClass_of_methodNamed B.named, fun w hw => atoms_spec (ws := Cond.code yX12_why cX12_why 4 (some .int) :: zTB) B.pre w (List.mem_cons_of_mem _ hw), hK⟩
  have hx := cx.1
  have hb := cx.2.1
  have hr := B.returns
  have hlk := B.notSynchronized
  have hl := lv_entry ([.ref (q 0), .int v1, .int v2, .int v3]) (n := 4) (Nat.le_of_ble_eq_true rfl)
  rw [lg_entry_eq]
  generalize (lg_sl ([.ref (q 0), .int v1, .int v2, .int v3]) ++ List.replicate (4 - (lg_sl ([.ref (q 0), .int v1, .int v2, .int v3])).length) Slot.unset).toArray = ls at hl ⊢
  have hl : lv_has ls 4 [(0, .ref (q 0)), (1, .int v1), (2, .int v2), (3, .int v3)] := hl
  unfold fX12_why at h
  refine lv_iload_n (pc := 0) hx hb dX12_why_0 rfl (lv_at hl 1 rfl) ?_
  by_cases c1 : v1 = 0
  · replace h := zBr_t c1 h
    refine lv_lookup (pc := 1) (off := 27) (tgt := 28) hx hb dX12_why_1 rfl (by rw [c1]; rfl) (by decide) ?_
    refine lv_aload_n (pc := 28) hx hb dX12_why_28 rfl (lv_at hl 0 rfl) ?_
    refine zr_getR (pc := 29) (t := 2) cx lk_X12_98 hP nM_0 sM_0 rfl dX12_why_29 ?_
    refine lv_bipush (pc := 32) hx hb dX12_why_32 zb_25 ?_
    obtain ⟨g3, h⟩ := zGd_e h
    refine zr_iald (pc := 34) cx hP nM_2 sM_2 g3 dX12_why_34 ?_
    refine lv_bipush (pc := 35) hx hb dX12_why_35 zb_12 ?_
    refine lv_icmp_ne (pc := 37) (tgt := 44) hx hb dX12_why_37 (by decide) (fun c4 => ?_) (fun c4 => ?_)
    · replace h := zBr_f c4 h
      refine lv_iconst (pc := 44) hx hb dX12_why_44 zc_0 ?_
      have hz := Option.some.inj h
      exact zr_reI (pc := 45) cx hr hlk hz dX12_why_45
    · replace h := zBr_t c4 h
      refine lv_iconst (pc := 40) hx hb dX12_why_40 zc_1 ?_
      refine lv_goto (pc := 41) (tgt := 45) hx hb dX12_why_41 (by decide) ?_
      have hz := Option.some.inj h
      exact zr_reI (pc := 45) cx hr hlk hz dX12_why_45
  · replace h := zBr_f c1 h
    by_cases c2 : v1 = 1
    · replace h := zBr_t c2 h
      refine lv_lookup (pc := 1) (off := 45) (tgt := 46) hx hb dX12_why_1 rfl (by rw [c2]; rfl) (by decide) ?_
      refine lv_aload_n (pc := 46) hx hb dX12_why_46 rfl (lv_at hl 0 rfl) ?_
      refine zr_getR (pc := 47) (t := 2) cx lk_X12_98 hP nM_0 sM_0 rfl dX12_why_47 ?_
      refine lv_bipush (pc := 50) hx hb dX12_why_50 zb_32 ?_
      refine lv_iload_n (pc := 52) hx hb dX12_why_52 rfl (lv_at hl 2 rfl) ?_
      refine lv_iadd (pc := 53) hx hb dX12_why_53 ?_
      obtain ⟨g5, h⟩ := zGd_e h
      refine zr_iald (pc := 54) cx hP nM_2 sM_2 g5 dX12_why_54 ?_
      refine lv_if_ne (pc := 55) (tgt := 62) hx hb dX12_why_55 (by decide) (fun c6 => ?_) (fun c6 => ?_)
      · replace h := zBr_f c6 h
        refine lv_iconst (pc := 62) hx hb dX12_why_62 zc_0 ?_
        have hz := Option.some.inj h
        exact zr_reI (pc := 63) cx hr hlk hz dX12_why_63
      · replace h := zBr_t c6 h
        refine lv_iconst (pc := 58) hx hb dX12_why_58 zc_1 ?_
        refine lv_goto (pc := 59) (tgt := 63) hx hb dX12_why_59 (by decide) ?_
        have hz := Option.some.inj h
        exact zr_reI (pc := 63) cx hr hlk hz dX12_why_63
    · replace h := zBr_f c2 h
      refine lv_lookup (pc := 1) (off := 63) (tgt := 64) hx hb dX12_why_1 rfl (by show Op.lookupswitch.offset [(0, 27), (1, 45)] 63 _ = _; rw [lv_osw c1 (by decide), lv_osw c2 (by decide)]; rfl) (by decide) ?_
      refine lv_aload_n (pc := 64) hx hb dX12_why_64 rfl (lv_at hl 0 rfl) ?_
      refine zr_getR (pc := 65) (t := 2) cx lk_X12_98 hP nM_0 sM_0 rfl dX12_why_65 ?_
      refine lv_bipush (pc := 68) hx hb dX12_why_68 zb_26 ?_
      refine lv_iload_n (pc := 70) hx hb dX12_why_70 rfl (lv_at hl 2 rfl) ?_
      refine lv_iadd (pc := 71) hx hb dX12_why_71 ?_
      obtain ⟨g7, h⟩ := zGd_e h
      refine zr_iald (pc := 72) cx hP nM_2 sM_2 g7 dX12_why_72 ?_
      refine lv_iload_n (pc := 73) hx hb dX12_why_73 rfl (lv_at hl 3 rfl) ?_
      refine lv_icmp_ne (pc := 74) (tgt := 81) hx hb dX12_why_74 (by decide) (fun c8 => ?_) (fun c8 => ?_)
      · replace h := zBr_f c8 h
        refine lv_iconst (pc := 81) hx hb dX12_why_81 zc_0 ?_
        have hz := Option.some.inj h
        exact zr_reI (pc := 82) cx hr hlk hz dX12_why_82
      · replace h := zBr_t c8 h
        refine lv_iconst (pc := 77) hx hb dX12_why_77 zc_1 ?_
        refine lv_goto (pc := 78) (tgt := 82) hx hb dX12_why_78 (by decide) ?_
        have hz := Option.some.inj h
        exact zr_reI (pc := 82) cx hr hlk hz dX12_why_82
-- X12_goBy
abbrev rmX12_goBy : Room := { frames := 5, cells := 0, slots := 0, locals := 113 }
def fX12_goBy (S : zSt) (v1 : Int32) : Option (Int32 × zSt) :=
  zGd (zIx (v1 + (1 : Int32)) 160) (zLt (S.1 16 (v1 + (1 : Int32)).toNatClampNeg) (fun x2 => zGd (zIx v1 160) (zBr ((S.1 16 v1.toNatClampNeg) = (3 : Int32)) (zGd (zIx (24 : Int32) 406) (zBr (((S.1 2 (24 : Int32).toNatClampNeg) + x2) ≤ (400 : Int32)) (zBp (fX12_passDays S x2) (fun r20 S19 => some ((0 : Int32), S19))) (some ((31 : Int32), S)))) (zGd (zIx v1 160) (zGd (zIx (v1 + (2 : Int32)) 160) (zBd (fX12_why S (S.1 16 v1.toNatClampNeg) x2 (S.1 16 (v1 + (2 : Int32)).toNatClampNeg)) (fun r8 => zBr (r8 = 0) (zGd (zIx v1 160) (zGd (zIx (v1 + (2 : Int32)) 160) (zGd (zIx (v1 + (3 : Int32)) 160) (zBd (fX12_live S (S.1 16 v1.toNatClampNeg) x2 (S.1 16 (v1 + (2 : Int32)).toNatClampNeg) (S.1 16 (v1 + (3 : Int32)).toNatClampNeg)) (fun S14 => some ((0 : Int32), S14)))))) (zGd (zIx v1 160) (some ((((10 : Int32) * (S.1 16 v1.toNatClampNeg)) + r8), S))))))))))
set_option maxHeartbeats 4000000 in
set_option maxRecDepth 100000 in
theorem mX12_goBy {l : Launch} {D : va_G} {cy : Nat → ClassId} {q : Nat → Nat} {A : Nat → Prop} {S : zSt} {v1 : Int32} (hq : zQ A q zNM) {z : (Int32 × zSt)} (h : fX12_goBy S v1 = some z) : zMq l yX12_goBy cX12_goBy 4 (some .int) rmX12_goBy [.ref (q 0), .int v1] zshM zNM D cy q A S z := by
  refine Met.ofW (cc := cX12_goBy) (maxL := 4) (ret := (some .int)) (by decide) rfl ?_
  intro p e s m args below meth c s₁ B hml hv
  obtain ⟨rfl, hP, hK⟩ := hv
  have cx : zX RX12 cX12_goBy 4 p s m ([.ref (q 0), .int v1]).toArray c D cy := ⟨B.exec, B.bytes, hml, findClass_of_methodNamed B.named, fun w hw => atoms_spec (ws := Cond.code yX12_goBy cX12_goBy 4 (some .int) :: zTB) B.pre w (List.mem_cons_of_mem _ hw), hK⟩
  have hx := cx.1
  have hb := cx.2.1
  have hr := B.returns
  have hlk := B.notSynchronized
  have hS : va_S A s.heap s.heap [] := va_S.rf
  have hl := lv_entry ([.ref (q 0), .int v1]) (n := 4) (Nat.le_of_ble_eq_true rfl)
  rw [lg_entry_eq]
  generalize (lg_sl ([.ref (q 0), .int v1]) ++ List.replicate (4 - (lg_sl ([.ref (q 0), .int v1])).length) Slot.unset).toArray = ls at hl ⊢
  have hl : lv_has ls 4 [(0, .ref (q 0)), (1, .int v1)] := hl
  unfold fX12_goBy at h
  refine lv_aload_n (pc := 0) hx hb dX12_goBy_0 rfl (lv_at hl 0 rfl) ?_
  refine zr_getR (pc := 1) (t := 16) cx lk_X12_148 hP nM_0 sM_0 rfl dX12_goBy_1 ?_
  refine lv_iload_n (pc := 4) hx hb dX12_goBy_4 rfl (lv_at hl 1 rfl) ?_
  refine lv_iconst (pc := 5) hx hb dX12_goBy_5 zc_1 ?_
  refine lv_iadd (pc := 6) hx hb dX12_goBy_6 ?_
  obtain ⟨g1, h⟩ := zGd_e h
  refine zr_iald (pc := 7) cx hP nM_16 sM_16 g1 dX12_goBy_7 ?_
  obtain ⟨x2, ex2, h⟩ := zLt_e h
  refine zr_nmI ex2 ?_
  refine lv_istore_n (lv' := [(2, .int x2), (0, .ref (q 0)), (1, .int v1)]) (pc := 8) hx hb dX12_goBy_8 rfl hl (by decide) rfl (fun ls hl => ?_)
  refine lv_aload_n (pc := 9) hx hb dX12_goBy_9 rfl (lv_at hl 1 rfl) ?_
  refine zr_getR (pc := 10) (t := 16) cx lk_X12_148 hP nM_0 sM_0 rfl dX12_goBy_10 ?_
  refine lv_iload_n (pc := 13) hx hb dX12_goBy_13 rfl (lv_at hl 2 rfl) ?_
  obtain ⟨g3, h⟩ := zGd_e h
  refine zr_iald (pc := 14) cx hP nM_16 sM_16 g3 dX12_goBy_14 ?_
  refine lv_iconst (pc := 15) hx hb dX12_goBy_15 zc_3 ?_
  refine lv_icmp_ne (pc := 16) (tgt := 45) hx hb dX12_goBy_16 (by decide) (fun c4 => ?_) (fun c4 => ?_)
  · replace h := zBr_f c4 h
    refine lv_aload_n (pc := 45) hx hb dX12_goBy_45 rfl (lv_at hl 1 rfl) ?_
    refine lv_aload_n (pc := 46) hx hb dX12_goBy_46 rfl (lv_at hl 1 rfl) ?_
    refine zr_getR (pc := 47) (t := 16) cx lk_X12_148 hP nM_0 sM_0 rfl dX12_goBy_47 ?_
    refine lv_iload_n (pc := 50) hx hb dX12_goBy_50 rfl (lv_at hl 2 rfl) ?_
    obtain ⟨g5, h⟩ := zGd_e h
    refine zr_iald (pc := 51) cx hP nM_16 sM_16 g5 dX12_goBy_51 ?_
    refine lv_iload_n (pc := 52) hx hb dX12_goBy_52 rfl (lv_at hl 0 rfl) ?_
    refine lv_aload_n (pc := 53) hx hb dX12_goBy_53 rfl (lv_at hl 1 rfl) ?_
    refine zr_getR (pc := 54) (t := 16) cx lk_X12_148 hP nM_0 sM_0 rfl dX12_goBy_54 ?_
    refine lv_iload_n (pc := 57) hx hb dX12_goBy_57 rfl (lv_at hl 2 rfl) ?_
    refine lv_iconst (pc := 58) hx hb dX12_goBy_58 zc_2 ?_
    refine lv_iadd (pc := 59) hx hb dX12_goBy_59 ?_
    obtain ⟨g6, h⟩ := zGd_e h
    refine zr_iald (pc := 60) cx hP nM_16 sM_16 g6 dX12_goBy_60 ?_
    obtain ⟨r8, k7, h⟩ := zBd_e h
    refine zr_VI (pc := 61) (rest := []) cx cv_X12_275 (mX12_why k7) ⟨⟨rfl, rfl⟩, Nat.le_of_ble_eq_true rfl, Nat.le_of_ble_eq_true rfl⟩ ⟨Nat.le_of_ble_eq_true rfl, Nat.le_of_ble_eq_true rfl⟩ hP nM_0 sM_0 rfl hl.1 rfl rfl (Nat.le_of_ble_eq_true rfl) dX12_goBy_61 ?_
    refine lv_istore_n (lv' := [(3, .int r8), (2, .int x2), (0, .ref (q 0)), (1, .int v1)]) (pc := 64) hx hb dX12_goBy_64 rfl hl (by decide) rfl (fun ls hl => ?_)
    refine lv_iload_n (pc := 65) hx hb dX12_goBy_65 rfl (lv_at hl 0 rfl) ?_
    refine lv_if_eq (pc := 66) (tgt := 81) hx hb dX12_goBy_66 (by decide) (fun c9 => ?_) (fun c9 => ?_)
    · replace h := zBr_t c9 h
      refine lv_aload_n (pc := 81) hx hb dX12_goBy_81 rfl (lv_at hl 2 rfl) ?_
      refine lv_aload_n (pc := 82) hx hb dX12_goBy_82 rfl (lv_at hl 2 rfl) ?_
      refine zr_getR (pc := 83) (t := 16) cx lk_X12_148 hP nM_0 sM_0 rfl dX12_goBy_83 ?_
      refine lv_iload_n (pc := 86) hx hb dX12_goBy_86 rfl (lv_at hl 3 rfl) ?_
      obtain ⟨g10, h⟩ := zGd_e h
      refine zr_iald (pc := 87) cx hP nM_16 sM_16 g10 dX12_goBy_87 ?_
      refine lv_iload_n (pc := 88) hx hb dX12_goBy_88 rfl (lv_at hl 1 rfl) ?_
      refine lv_aload_n (pc := 89) hx hb dX12_goBy_89 rfl (lv_at hl 2 rfl) ?_
      refine zr_getR (pc := 90) (t := 16) cx lk_X12_148 hP nM_0 sM_0 rfl dX12_goBy_90 ?_
      refine lv_iload_n (pc := 93) hx hb dX12_goBy_93 rfl (lv_at hl 3 rfl) ?_
      refine lv_iconst (pc := 94) hx hb dX12_goBy_94 zc_2 ?_
      refine lv_iadd (pc := 95) hx hb dX12_goBy_95 ?_
      obtain ⟨g11, h⟩ := zGd_e h
      refine zr_iald (pc := 96) cx hP nM_16 sM_16 g11 dX12_goBy_96 ?_
      refine lv_aload_n (pc := 97) hx hb dX12_goBy_97 rfl (lv_at hl 2 rfl) ?_
      refine zr_getR (pc := 98) (t := 16) cx lk_X12_148 hP nM_0 sM_0 rfl dX12_goBy_98 ?_
      refine lv_iload_n (pc := 101) hx hb dX12_goBy_101 rfl (lv_at hl 3 rfl) ?_
      refine lv_iconst (pc := 102) hx hb dX12_goBy_102 zc_3 ?_
      refine lv_iadd (pc := 103) hx hb dX12_goBy_103 ?_
      obtain ⟨g12, h⟩ := zGd_e h
      refine zr_iald (pc := 104) cx hP nM_16 sM_16 g12 dX12_goBy_104 ?_
      obtain ⟨S14, k13, h⟩ := zBd_e h
      refine zr_VV (pc := 105) (rest := []) cx cv_X12_282 (mX12_live hq k13) ⟨⟨rfl, rfl⟩, Nat.le_of_ble_eq_true rfl, Nat.le_of_ble_eq_true rfl⟩ ⟨Nat.le_of_ble_eq_true rfl, Nat.le_of_ble_eq_true rfl⟩ hP hS nM_0 sM_0 rfl hl.1 rfl rfl (Nat.le_of_ble_eq_true rfl) dX12_goBy_105 (fun H locs hP hS => ?_)
      refine lv_iconst (pc := 108) hx hb dX12_goBy_108 zc_0 ?_
      have hz := Option.some.inj h
      exact zr_rqI (pc := 109) cx hr hlk hP hS hz dX12_goBy_109
    · replace h := zBr_f c9 h
      refine lv_bipush (pc := 69) hx hb dX12_goBy_69 zb_10 ?_
      refine lv_aload_n (pc := 71) hx hb dX12_goBy_71 rfl (lv_at hl 2 rfl) ?_
      refine zr_getR (pc := 72) (t := 16) cx lk_X12_148 hP nM_0 sM_0 rfl dX12_goBy_72 ?_
      refine lv_iload_n (pc := 75) hx hb dX12_goBy_75 rfl (lv_at hl 3 rfl) ?_
      obtain ⟨g15, h⟩ := zGd_e h
      refine zr_iald (pc := 76) cx hP nM_16 sM_16 g15 dX12_goBy_76 ?_
      refine lv_imul (pc := 77) hx hb dX12_goBy_77 ?_
      refine lv_iload_n (pc := 78) hx hb dX12_goBy_78 rfl (lv_at hl 0 rfl) ?_
      refine lv_iadd (pc := 79) hx hb dX12_goBy_79 ?_
      have hz := Option.some.inj h
      exact zr_rqI (pc := 80) cx hr hlk hP hS hz dX12_goBy_80
  · replace h := zBr_t c4 h
    refine lv_aload_n (pc := 19) hx hb dX12_goBy_19 rfl (lv_at hl 1 rfl) ?_
    refine zr_getR (pc := 20) (t := 2) cx lk_X12_98 hP nM_0 sM_0 rfl dX12_goBy_20 ?_
    refine lv_bipush (pc := 23) hx hb dX12_goBy_23 zb_24 ?_
    obtain ⟨g16, h⟩ := zGd_e h
    refine zr_iald (pc := 25) cx hP nM_2 sM_2 g16 dX12_goBy_25 ?_
    refine lv_iload_n (pc := 26) hx hb dX12_goBy_26 rfl (lv_at hl 0 rfl) ?_
    refine lv_iadd (pc := 27) hx hb dX12_goBy_27 ?_
    refine lv_sipush (pc := 28) hx hb dX12_goBy_28 zs_400 ?_
    refine lv_icmp_le (pc := 31) (tgt := 37) hx hb dX12_goBy_31 (by decide) (fun c17 => ?_) (fun c17 => ?_)
    · replace h := zBr_t c17 h
      refine lv_aload_n (pc := 37) hx hb dX12_goBy_37 rfl (lv_at hl 1 rfl) ?_
      refine lv_iload_n (pc := 38) hx hb dX12_goBy_38 rfl (lv_at hl 0 rfl) ?_
      obtain ⟨r20, S19, k18, h⟩ := zBp_e h
      refine zr_VQ (pc := 39) (rest := []) cx cv_X12_302 (mX12_passDays hq k18) ⟨⟨rfl, rfl⟩, Nat.le_of_ble_eq_true rfl, Nat.le_of_ble_eq_true rfl⟩ ⟨Nat.le_of_ble_eq_true rfl, Nat.le_of_ble_eq_true rfl⟩ hP hS nM_0 sM_0 rfl hl.1 rfl rfl (Nat.le_of_ble_eq_true rfl) dX12_goBy_39 (fun H locs hP hS => ?_)
      refine lv_pop (pc := 42) hx hb dX12_goBy_42 rfl ?_
      refine lv_iconst (pc := 43) hx hb dX12_goBy_43 zc_0 ?_
      have hz := Option.some.inj h
      exact zr_rqI (pc := 44) cx hr hlk hP hS hz dX12_goBy_44
    · replace h := zBr_f c17 h
      refine lv_bipush (pc := 34) hx hb dX12_goBy_34 zb_31 ?_
      have hz := Option.some.inj h
      exact zr_rqI (pc := 36) cx hr hlk hP hS hz dX12_goBy_36
-- X12_layAside
abbrev rmX12_layAside : Room := { frames := 0, cells := 0, slots := 0, locals := 0 }
def fX12_layAside_2  (t : (zSt × Int32)) : Option ((zSt × Int32) ⊕ zSt) :=
  match t with
  | (S, v1) => zBr ((140 : Int32) ≤ v1) (zXr (some S)) (zGd (zIx ((24 : Int32) + v1) 406) (zGd (zIx v1 140) (zLt (zI S 6 v1.toNatClampNeg (S.1 2 ((24 : Int32) + v1).toNatClampNeg)) (fun S5 => zLt (v1 + (1 : Int32)) (fun x6 => some (.inl (S5, x6)))))))
set_option maxHeartbeats 4000000 in
set_option maxRecDepth 100000 in
theorem kX12_layAside_2B {p : Program} {l : Launch} {e : Env} {s : State} {m : MethodId} {args : Array Value} {below : List Frame} {meth : Method} {c : Code} {D : va_G} {cy : Nat → ClassId} {q : Nat → Nat} {A : Nat → Prop} (cx : zX RX12 cX12_layAside 2 p s m args c D cy) (hr : meth.sig.returnType = none) (hlk : meth.locks = false) (hq : zQ A q zNM) {z : zSt} {S : zSt} {v1 : Int32} {C1 : ((zSt × Int32) ⊕ zSt) → Prop} (hb1 : ∀ (S : zSt) (v1 : Int32), C1 (.inl (S, v1)) → ∀ (H : Heap) (locs : List Loc), va_P D vwCl (zW zshM zNM cy q S) H → va_S A s.heap H locs → ∀ (ls : Array Slot), lv_has ls 2 [(0, .ref (q 0)), (1, .int v1)] → W p l e rmX12_layAside s m args below meth c H locs 0 0 (MQ below (va_Qv (fun (u : zSt) => u = z) (fun u t => va_P D vwCl (zW zshM zNM cy q u) t.heap) A) args s 0 0 A) (F0 m 2 ls [])) (hx1 : ∀ a, C1 (.inr a) → a = z) {x : ((zSt × Int32) ⊕ zSt)} (h : fX12_layAside_2 (S, v1) = some x) (hc : C1 x) {H : Heap} {locs : List Loc} (hP : va_P D vwCl (zW zshM zNM cy q S) H) (hS : va_S A s.heap H locs) {ls : Array Slot} (hl : lv_has ls 2 [(0, .ref (q 0)), (1, .int v1)]) : W p l e rmX12_layAside s m args below meth c H locs 0 0 (MQ below (va_Qv (fun (u : zSt) => u = z) (fun u t => va_P D vwCl (zW zshM zNM cy q u) t.heap) A) args s 0 0 A) (F0 m 2 ls []) := by
  have hx := cx.1
  have hb := cx.2.1
  unfold fX12_layAside_2 at h
  dsimp only at h
  refine lv_iload_n (pc := 2) hx hb dX12_layAside_2 rfl (lv_at hl 1 rfl) ?_
  refine lv_sipush (pc := 3) hx hb dX12_layAside_3 zs_140 ?_
  refine lv_icmp_ge (pc := 6) (tgt := 30) hx hb dX12_layAside_6 (by decide) (fun c1 => ?_) (fun c1 => ?_)
  · replace h := zBr_t c1 h
    obtain ⟨y2, h, ex⟩ := zXr_e h
    have hc := hx1 y2 (by rw [ex] at hc; exact hc)
    rw [hc] at h
    have hz := Option.some.inj h
    exact zr_rqV (pc := 30) cx hr hlk hP hS hz dX12_layAside_30
  · replace h := zBr_f c1 h
    refine lv_aload_n (pc := 9) hx hb dX12_layAside_9 rfl (lv_at hl 0 rfl) ?_
    refine zr_getR (pc := 10) (t := 6) cx lk_X12_110 hP nM_0 sM_0 rfl dX12_layAside_10 ?_
    refine lv_iload_n (pc := 13) hx hb dX12_layAside_13 rfl (lv_at hl 1 rfl) ?_
    refine lv_aload_n (pc := 14) hx hb dX12_layAside_14 rfl (lv_at hl 0 rfl) ?_
    refine zr_getR (pc := 15) (t := 2) cx lk_X12_98 hP nM_0 sM_0 rfl dX12_layAside_15 ?_
    refine lv_bipush (pc := 18) hx hb dX12_layAside_18 zb_24 ?_
    refine lv_iload_n (pc := 20) hx hb dX12_layAside_20 rfl (lv_at hl 1 rfl) ?_
    refine lv_iadd (pc := 21) hx hb dX12_layAside_21 ?_
    obtain ⟨g3, h⟩ := zGd_e h
    refine zr_iald (pc := 22) cx hP nM_2 sM_2 g3 dX12_layAside_22 ?_
    obtain ⟨g4, h⟩ := zGd_e h
    obtain ⟨S5, eS5, h⟩ := zLt_e h
    refine zr_iast (pc := 23) cx hq hP hS nM_6 sM_6 g4 dX12_layAside_23 (fun H locs hP hS => ?_)
    rw [← eS5] at hP
    obtain ⟨x6, ex6, h⟩ := zLt_e h
    refine lv_iinc (v := x6) (lv' := [(1, .int x6), (0, .ref (q 0))]) (pc := 24) hx hb dX12_layAside_24 hl (k := 1) rfl (by rw [zc_1]; exact ex6.symm) (by decide) rfl (fun ls hl => ?_)
    refine lv_goto (pc := 27) (tgt := 2) hx hb dX12_layAside_27 (by decide) ?_
    cases h
    exact hb1 _ _ hc _ _ hP hS _ (lv_sub hl [1, 0] rfl)
set_option maxHeartbeats 4000000 in
set_option maxRecDepth 100000 in
theorem kX12_layAside_2 {p : Program} {l : Launch} {e : Env} {s : State} {m : MethodId} {args : Array Value} {below : List Frame} {meth : Method} {c : Code} {D : va_G} {cy : Nat → ClassId} {q : Nat → Nat} {A : Nat → Prop} (cx : zX RX12 cX12_layAside 2 p s m args c D cy) (hr : meth.sig.returnType = none) (hlk : meth.locks = false) (hq : zQ A q zNM) {z : zSt} : ∀ (n : Nat) (S : zSt) (v1 : Int32), zLp (fX12_layAside_2) n (S, v1) = some z → ∀ (H : Heap) (locs : List Loc), va_P D vwCl (zW zshM zNM cy q S) H → va_S A s.heap H locs → ∀ (ls : Array Slot), lv_has ls 2 [(0, .ref (q 0)), (1, .int v1)] → W p l e rmX12_layAside s m args below meth c H locs 0 0 (MQ below (va_Qv (fun (u : zSt) => u = z) (fun u t => va_P D vwCl (zW zshM zNM cy q u) t.heap) A) args s 0 0 A) (F0 m 2 ls []) := by
  intro n
  induction n with
  | zero =>
    intro S v1 h
    cases h
  | succ n ih =>
    intro S v1 h H locs hP hS ls hl
    obtain ⟨x, h, hk⟩ := zLp_e h
    exact kX12_layAside_2B cx hr hlk hq  (C1 := zKt (fun t => zLp (fX12_layAside_2) n t = some z) (fun a => a = z)) (fun S v1 ht H locs hP hS ls hl => ih S v1 ht H locs hP hS ls hl) (fun a ha => ha) h hk hP hS hl
def fX12_layAside (S : zSt) : Option zSt :=
  zLp (fX12_layAside_2) 2000 (S, (0 : Int32))
set_option maxHeartbeats 4000000 in
set_option maxRecDepth 100000 in
theorem mX12_layAside {l : Launch} {D : va_G} {cy : Nat → ClassId} {q : Nat → Nat} {A : Nat → Prop} {S : zSt} (hq : zQ A q zNM) {z : zSt} (h : fX12_layAside S = some z) : zMv l yX12_layAside cX12_layAside 2 none rmX12_layAside [.ref (q 0)] zshM zNM D cy q A S z := by
  refine Met.ofW (cc := cX12_layAside) (maxL := 2) (ret := none) (by decide) rfl ?_
  intro p e s m args below meth c s₁ B hml hv
  obtain ⟨rfl, hP, hK⟩ := hv
  have cx : zX RX12 cX12_layAside 2 p s m ([.ref (q 0)]).toArray c D cy := ⟨B.exec, B.bytes, hml, findClass_of_methodNamed B.named, fun w hw => atoms_spec (ws := Cond.code yX12_layAside cX12_layAside 2 none :: zTB) B.pre w (List.mem_cons_of_mem _ hw), hK⟩
  have hx := cx.1
  have hb := cx.2.1
  have hr := B.returns
  have hlk := B.notSynchronized
  have hS : va_S A s.heap s.heap [] := va_S.rf
  have hl := lv_entry ([.ref (q 0)]) (n := 2) (Nat.le_of_ble_eq_true rfl)
  rw [lg_entry_eq]
  generalize (lg_sl ([.ref (q 0)]) ++ List.replicate (2 - (lg_sl ([.ref (q 0)])).length) Slot.unset).toArray = ls at hl ⊢
  have hl : lv_has ls 2 [(0, .ref (q 0))] := hl
  unfold fX12_layAside at h
  refine lv_iconst (pc := 0) hx hb dX12_layAside_0 zc_0 ?_
  refine lv_istore_n (lv' := [(1, .int (0 : Int32)), (0, .ref (q 0))]) (pc := 1) hx hb dX12_layAside_1 rfl hl (by decide) rfl (fun ls hl => ?_)
  exact kX12_layAside_2 cx hr hlk hq 2000 _ _ h _ _ hP hS _ (lv_sub hl [1, 0] rfl)
-- X12_proved
abbrev rmX12_proved : Room := { frames := 4, cells := 0, slots := 0, locals := 89 }
def fX12_proved_29 (S : zSt)  (v1 : Int32) (v2 : Int32) : Option ((Int32 × Int32) ⊕ Int32) :=
  zLt (v2 + (1 : Int32)) (fun x7 => some (.inl (v1, x7)))
set_option maxHeartbeats 4000000 in
set_option maxRecDepth 100000 in
theorem kX12_proved_29 {p : Program} {l : Launch} {e : Env} {s : State} {m : MethodId} {args : Array Value} {below : List Frame} {meth : Method} {c : Code} {D : va_G} {cy : Nat → ClassId} {q : Nat → Nat} (cx : zX RX12 cX12_proved 3 p s m args c D cy) (hr : meth.sig.returnType = (some .int)) (hlk : meth.locks = false) {z : Int32} {S : zSt} {v1 : Int32} {v2 : Int32} {C1 : ((Int32 × Int32) ⊕ Int32) → Prop} (hb1 : ∀ (v1 : Int32) (v2 : Int32), C1 (.inl (v1, v2)) → ∀ (ls : Array Slot), lv_has ls 3 [(0, .ref (q 0)), (1, .int v1), (2, .int v2)] → W p l e rmX12_proved s m args below meth c s.heap [] 0 0 (MQ below (vp_Si (fun x => x = z)) args s 0 0 (fun _ => False)) (F0 m 4 ls [])) (hx1 : ∀ a, C1 (.inr a) → a = z) (hP : va_P D vwCl (zW zshM zNM cy q S) s.heap) {x : ((Int32 × Int32) ⊕ Int32)} (h : fX12_proved_29 S v1 v2 = some x) (hc : C1 x) {ls : Array Slot} (hl : lv_has ls 3 [(0, .ref (q 0)), (1, .int v1), (2, .int v2)]) : W p l e rmX12_proved s m args below meth c s.heap [] 0 0 (MQ below (vp_Si (fun x => x = z)) args s 0 0 (fun _ => False)) (F0 m 29 ls []) := by
  have hx := cx.1
  have hb := cx.2.1
  unfold fX12_proved_29 at h
  obtain ⟨x7, ex7, h⟩ := zLt_e h
  refine lv_iinc (v := x7) (lv' := [(2, .int x7), (0, .ref (q 0)), (1, .int v1)]) (pc := 29) hx hb dX12_proved_29 hl (k := 2) rfl (by rw [zc_1]; exact ex7.symm) (by decide) rfl (fun ls hl => ?_)
  refine lv_goto (pc := 32) (tgt := 4) hx hb dX12_proved_32 (by decide) ?_
  cases h
  exact hb1 _ _ hc _ (lv_sub hl [1, 2, 0] rfl)
def fX12_proved_4 (S : zSt)  (t : (Int32 × Int32)) : Option ((Int32 × Int32) ⊕ Int32) :=
  match t with
  | (v1, v2) => zGd (zIx (25 : Int32) 406) (zBr ((S.1 2 (25 : Int32).toNatClampNeg) ≤ v2) (zXr (some v1)) (zBd (fX12_isProved S v2) (fun r5 => zBr (r5 = 0) (fX12_proved_29 S v1 v2) (zLt (v1 ||| ((1 : Int32) <<< (v2 &&& 31))) (fun x8 => fX12_proved_29 S x8 v2)))))
set_option maxHeartbeats 4000000 in
set_option maxRecDepth 100000 in
theorem kX12_proved_4B {p : Program} {l : Launch} {e : Env} {s : State} {m : MethodId} {args : Array Value} {below : List Frame} {meth : Method} {c : Code} {D : va_G} {cy : Nat → ClassId} {q : Nat → Nat} (cx : zX RX12 cX12_proved 3 p s m args c D cy) (hr : meth.sig.returnType = (some .int)) (hlk : meth.locks = false) {z : Int32} {S : zSt} {v1 : Int32} {v2 : Int32} {C1 : ((Int32 × Int32) ⊕ Int32) → Prop} (hb1 : ∀ (v1 : Int32) (v2 : Int32), C1 (.inl (v1, v2)) → ∀ (ls : Array Slot), lv_has ls 3 [(0, .ref (q 0)), (1, .int v1), (2, .int v2)] → W p l e rmX12_proved s m args below meth c s.heap [] 0 0 (MQ below (vp_Si (fun x => x = z)) args s 0 0 (fun _ => False)) (F0 m 4 ls [])) (hx1 : ∀ a, C1 (.inr a) → a = z) (hP : va_P D vwCl (zW zshM zNM cy q S) s.heap) {x : ((Int32 × Int32) ⊕ Int32)} (h : fX12_proved_4 S (v1, v2) = some x) (hc : C1 x) {ls : Array Slot} (hl : lv_has ls 3 [(0, .ref (q 0)), (1, .int v1), (2, .int v2)]) : W p l e rmX12_proved s m args below meth c s.heap [] 0 0 (MQ below (vp_Si (fun x => x = z)) args s 0 0 (fun _ => False)) (F0 m 4 ls []) := by
  have hx := cx.1
  have hb := cx.2.1
  unfold fX12_proved_4 at h
  dsimp only at h
  refine lv_iload_n (pc := 4) hx hb dX12_proved_4 rfl (lv_at hl 2 rfl) ?_
  refine lv_aload_n (pc := 5) hx hb dX12_proved_5 rfl (lv_at hl 0 rfl) ?_
  refine zr_getR (pc := 6) (t := 2) cx lk_X12_98 hP nM_0 sM_0 rfl dX12_proved_6 ?_
  refine lv_bipush (pc := 9) hx hb dX12_proved_9 zb_25 ?_
  obtain ⟨g1, h⟩ := zGd_e h
  refine zr_iald (pc := 11) cx hP nM_2 sM_2 g1 dX12_proved_11 ?_
  refine lv_icmp_ge (pc := 12) (tgt := 35) hx hb dX12_proved_12 (by decide) (fun c2 => ?_) (fun c2 => ?_)
  · replace h := zBr_t c2 h
    obtain ⟨y3, h, ex⟩ := zXr_e h
    have hc := hx1 y3 (by rw [ex] at hc; exact hc)
    rw [hc] at h
    refine lv_iload_n (pc := 35) hx hb dX12_proved_35 rfl (lv_at hl 1 rfl) ?_
    have hz := Option.some.inj h
    exact zr_reI (pc := 36) cx hr hlk hz dX12_proved_36
  · replace h := zBr_f c2 h
    refine lv_aload_n (pc := 15) hx hb dX12_proved_15 rfl (lv_at hl 0 rfl) ?_
    refine lv_iload_n (pc := 16) hx hb dX12_proved_16 rfl (lv_at hl 2 rfl) ?_
    obtain ⟨r5, k4, h⟩ := zBd_e h
    refine zr_VI (pc := 17) (rest := []) cx cv_X12_241 (mX12_isProved k4) ⟨⟨rfl, rfl⟩, Nat.le_of_ble_eq_true rfl, Nat.le_of_ble_eq_true rfl⟩ ⟨Nat.le_of_ble_eq_true rfl, Nat.le_of_ble_eq_true rfl⟩ hP nM_0 sM_0 rfl hl.1 rfl rfl (Nat.le_of_ble_eq_true rfl) dX12_proved_17 ?_
    refine lv_if_eq (pc := 20) (tgt := 29) hx hb dX12_proved_20 (by decide) (fun c6 => ?_) (fun c6 => ?_)
    · replace h := zBr_t c6 h
      exact kX12_proved_29 cx hr hlk hb1 hx1 hP h hc (lv_sub hl [0, 1, 2] rfl)
    · replace h := zBr_f c6 h
      refine lv_iload_n (pc := 23) hx hb dX12_proved_23 rfl (lv_at hl 1 rfl) ?_
      refine lv_iconst (pc := 24) hx hb dX12_proved_24 zc_1 ?_
      refine lv_iload_n (pc := 25) hx hb dX12_proved_25 rfl (lv_at hl 2 rfl) ?_
      refine lv_ishl (pc := 26) hx hb dX12_proved_26 ?_
      refine lv_ior (pc := 27) hx hb dX12_proved_27 ?_
      obtain ⟨x8, ex8, h⟩ := zLt_e h
      refine zr_nmI ex8 ?_
      refine lv_istore_n (lv' := [(1, .int x8), (0, .ref (q 0)), (2, .int v2)]) (pc := 28) hx hb dX12_proved_28 rfl hl (by decide) rfl (fun ls hl => ?_)
      exact kX12_proved_29 cx hr hlk hb1 hx1 hP h hc (lv_sub hl [1, 0, 2] rfl)
set_option maxHeartbeats 4000000 in
set_option maxRecDepth 100000 in
theorem kX12_proved_4 {p : Program} {l : Launch} {e : Env} {s : State} {m : MethodId} {args : Array Value} {below : List Frame} {meth : Method} {c : Code} {D : va_G} {cy : Nat → ClassId} {q : Nat → Nat} (cx : zX RX12 cX12_proved 3 p s m args c D cy) (hr : meth.sig.returnType = (some .int)) (hlk : meth.locks = false) {z : Int32} {S : zSt} (hP : va_P D vwCl (zW zshM zNM cy q S) s.heap) : ∀ (n : Nat) (v1 : Int32) (v2 : Int32), zLp (fX12_proved_4 S) n (v1, v2) = some z → ∀ (ls : Array Slot), lv_has ls 3 [(0, .ref (q 0)), (1, .int v1), (2, .int v2)] → W p l e rmX12_proved s m args below meth c s.heap [] 0 0 (MQ below (vp_Si (fun x => x = z)) args s 0 0 (fun _ => False)) (F0 m 4 ls []) := by
  intro n
  induction n with
  | zero =>
    intro v1 v2 h
    cases h
  | succ n ih =>
    intro v1 v2 h ls hl
    obtain ⟨x, h, hk⟩ := zLp_e h
    exact kX12_proved_4B cx hr hlk  (C1 := zKt (fun t => zLp (fX12_proved_4 S) n t = some z) (fun a => a = z)) (fun v1 v2 ht ls hl => ih v1 v2 ht ls hl) (fun a ha => ha) hP h hk hl
def fX12_proved (S : zSt) : Option Int32 :=
  zLp (fX12_proved_4 S) 2000 ((0 : Int32), (0 : Int32))
set_option maxHeartbeats 4000000 in
set_option maxRecDepth 100000 in
theorem mX12_proved {l : Launch} {D : va_G} {cy : Nat → ClassId} {q : Nat → Nat} {S : zSt} {z : Int32} (h : fX12_proved S = some z) : zMi l yX12_proved cX12_proved 3 (some .int) rmX12_proved [.ref (q 0)] (zPr zshM zNM D cy q S) z := by
  refine Met.ofW (cc := cX12_proved) (maxL := 3) (ret := (some .int)) (by decide) rfl ?_
  intro p e s m args below meth c s₁ B hml hv
  obtain ⟨rfl, hP, hK⟩ := hv
  have cx : zX RX12 cX12_proved 3 p s m ([.ref (q 0)]).toArray c D cy := ⟨B.exec, B.bytes, hml, findClass_of_methodNamed B.named, fun w hw => atoms_spec (ws := Cond.code yX12_proved cX12_proved 3 (some .int) :: zTB) B.pre w (List.mem_cons_of_mem _ hw), hK⟩
  have hx := cx.1
  have hb := cx.2.1
  have hr := B.returns
  have hlk := B.notSynchronized
  have hl := lv_entry ([.ref (q 0)]) (n := 3) (Nat.le_of_ble_eq_true rfl)
  rw [lg_entry_eq]
  generalize (lg_sl ([.ref (q 0)]) ++ List.replicate (3 - (lg_sl ([.ref (q 0)])).length) Slot.unset).toArray = ls at hl ⊢
  have hl : lv_has ls 3 [(0, .ref (q 0))] := hl
  unfold fX12_proved at h
  refine lv_iconst (pc := 0) hx hb dX12_proved_0 zc_0 ?_
  refine lv_istore_n (lv' := [(1, .int (0 : Int32)), (0, .ref (q 0))]) (pc := 1) hx hb dX12_proved_1 rfl hl (by decide) rfl (fun ls hl => ?_)
  refine lv_iconst (pc := 2) hx hb dX12_proved_2 zc_0 ?_
  refine lv_istore_n (lv' := [(2, .int (0 : Int32)), (1, .int (0 : Int32)), (0, .ref (q 0))]) (pc := 3) hx hb dX12_proved_3 rfl hl (by decide) rfl (fun ls hl => ?_)
  exact kX12_proved_4 cx hr hlk hP 2000 _ _ h _ (lv_sub hl [2, 1, 0] rfl)
-- X12_findIn
abbrev rmX12_findIn : Room := { frames := 0, cells := 0, slots := 0, locals := 0 }
def fX12_findIn_3 (S : zSt) (a0 : Nat) (v1 : Int32) (v2 : Int32) (v3 : Int64) (t : Int32) : Option (Int32 ⊕ Int32) :=
  match t with
  | v5 => zBr (v2 ≤ v5) (zXr (some (-1 : Int32))) (zGd (zIx (v1 + v5) 20) (zBr ((lg_cmp (S.2 a0 (v1 + v5).toNatClampNeg) v3) = 0) (zXr (some v5)) (zLt (v5 + (1 : Int32)) (fun x5 => some (.inl (x5))))))
set_option maxHeartbeats 4000000 in
set_option maxRecDepth 100000 in
theorem kX12_findIn_3B {p : Program} {l : Launch} {e : Env} {s : State} {m : MethodId} {args : Array Value} {below : List Frame} {meth : Method} {c : Code} {D : va_G} {cy : Nat → ClassId} {q : Nat → Nat} (cx : zX RX12 cX12_findIn 6 p s m args c D cy) (hr : meth.sig.returnType = (some .int)) (hlk : meth.locks = false) {a0 : Nat} (ha0 : zNm a0) {z : Int32} {S : zSt} {v1 : Int32} {v2 : Int32} {v3 : Int64} {v5 : Int32} {C1 : (Int32 ⊕ Int32) → Prop} (hb1 : ∀ (v5 : Int32), C1 (.inl (v5)) → ∀ (ls : Array Slot), lv_has ls 6 [(0, .ref (q a0)), (1, .int v1), (2, .int v2), (3, .long v3), (5, .int v5)] → W p l e rmX12_findIn s m args below meth c s.heap [] 0 0 (MQ below (vp_Si (fun x => x = z)) args s 0 0 (fun _ => False)) (F0 m 3 ls [])) (hx1 : ∀ a, C1 (.inr a) → a = z) (hP : va_P D vwCl (zW zshM zNM cy q S) s.heap) {x : (Int32 ⊕ Int32)} (h : fX12_findIn_3 S a0 v1 v2 v3 (v5) = some x) (hc : C1 x) {ls : Array Slot} (hl : lv_has ls 6 [(0, .ref (q a0)), (1, .int v1), (2, .int v2), (3, .long v3), (5, .int v5)]) : W p l e rmX12_findIn s m args below meth c s.heap [] 0 0 (MQ below (vp_Si (fun x => x = z)) args s 0 0 (fun _ => False)) (F0 m 3 ls []) := by
  have hx := cx.1
  have hb := cx.2.1
  unfold fX12_findIn_3 at h
  dsimp only at h
  refine lv_iload (pc := 3) hx hb dX12_findIn_3 (lv_at hl 4 rfl) ?_
  refine lv_iload_n (pc := 5) hx hb dX12_findIn_5 rfl (lv_at hl 2 rfl) ?_
  refine lv_icmp_ge (pc := 6) (tgt := 29) hx hb dX12_findIn_6 (by decide) (fun c1 => ?_) (fun c1 => ?_)
  · replace h := zBr_t c1 h
    obtain ⟨y2, h, ex⟩ := zXr_e h
    have hc := hx1 y2 (by rw [ex] at hc; exact hc)
    rw [hc] at h
    refine lv_iconst (pc := 29) hx hb dX12_findIn_29 zc_m1 ?_
    have hz := Option.some.inj h
    exact zr_reI (pc := 30) cx hr hlk hz dX12_findIn_30
  · replace h := zBr_f c1 h
    refine lv_aload_n (pc := 9) hx hb dX12_findIn_9 rfl (lv_at hl 0 rfl) ?_
    refine lv_iload_n (pc := 10) hx hb dX12_findIn_10 rfl (lv_at hl 1 rfl) ?_
    refine lv_iload (pc := 11) hx hb dX12_findIn_11 (lv_at hl 4 rfl) ?_
    refine lv_iadd (pc := 13) hx hb dX12_findIn_13 ?_
    obtain ⟨g3, h⟩ := zGd_e h
    refine zr_lald (pc := 14) cx hP ha0.2 ha0.1 g3 dX12_findIn_14 ?_
    refine lv_lload_n (pc := 15) hx hb dX12_findIn_15 rfl (lv_at hl 3 rfl) ?_
    refine W.lcmp (pc := 16) hx hb dX12_findIn_16 ?_
    refine lv_if_ne (pc := 17) (tgt := 23) hx hb dX12_findIn_17 (by decide) (fun c4 => ?_) (fun c4 => ?_)
    · replace h := zBr_f c4 h
      obtain ⟨x5, ex5, h⟩ := zLt_e h
      refine lv_iinc (v := x5) (lv' := [(5, .int x5), (0, .ref (q a0)), (1, .int v1), (2, .int v2), (3, .long v3)]) (pc := 23) hx hb dX12_findIn_23 hl (k := 4) rfl (by rw [zc_1]; exact ex5.symm) (by decide) rfl (fun ls hl => ?_)
      refine lv_goto (pc := 26) (tgt := 3) hx hb dX12_findIn_26 (by decide) ?_
      cases h
      exact hb1 _ hc _ (lv_sub hl [1, 2, 3, 4, 0] rfl)
    · replace h := zBr_t c4 h
      obtain ⟨y6, h, ex⟩ := zXr_e h
      have hc := hx1 y6 (by rw [ex] at hc; exact hc)
      rw [hc] at h
      refine lv_iload (pc := 20) hx hb dX12_findIn_20 (lv_at hl 4 rfl) ?_
      have hz := Option.some.inj h
      exact zr_reI (pc := 22) cx hr hlk hz dX12_findIn_22
set_option maxHeartbeats 4000000 in
set_option maxRecDepth 100000 in
theorem kX12_findIn_3 {p : Program} {l : Launch} {e : Env} {s : State} {m : MethodId} {args : Array Value} {below : List Frame} {meth : Method} {c : Code} {D : va_G} {cy : Nat → ClassId} {q : Nat → Nat} (cx : zX RX12 cX12_findIn 6 p s m args c D cy) (hr : meth.sig.returnType = (some .int)) (hlk : meth.locks = false) {a0 : Nat} (ha0 : zNm a0) {z : Int32} {S : zSt} {v1 : Int32} {v2 : Int32} {v3 : Int64} (hP : va_P D vwCl (zW zshM zNM cy q S) s.heap) : ∀ (n : Nat) (v5 : Int32), zLp (fX12_findIn_3 S a0 v1 v2 v3) n (v5) = some z → ∀ (ls : Array Slot), lv_has ls 6 [(0, .ref (q a0)), (1, .int v1), (2, .int v2), (3, .long v3), (5, .int v5)] → W p l e rmX12_findIn s m args below meth c s.heap [] 0 0 (MQ below (vp_Si (fun x => x = z)) args s 0 0 (fun _ => False)) (F0 m 3 ls []) := by
  intro n
  induction n with
  | zero =>
    intro v5 h
    cases h
  | succ n ih =>
    intro v5 h ls hl
    obtain ⟨x, h, hk⟩ := zLp_e h
    exact kX12_findIn_3B cx hr hlk ha0  (C1 := zKt (fun t => zLp (fX12_findIn_3 S a0 v1 v2 v3) n t = some z) (fun a => a = z)) (fun v5 ht ls hl => ih v5 ht ls hl) (fun a ha => ha) hP h hk hl
def fX12_findIn (S : zSt) (a0 : Nat) (v1 : Int32) (v2 : Int32) (v3 : Int64) : Option Int32 :=
  zLp (fX12_findIn_3 S a0 v1 v2 v3) 2000 ((0 : Int32))
set_option maxHeartbeats 4000000 in
set_option maxRecDepth 100000 in
theorem mX12_findIn {l : Launch} {D : va_G} {cy : Nat → ClassId} {q : Nat → Nat} {S : zSt} {a0 : Nat} {v1 : Int32} {v2 : Int32} {v3 : Int64} (ha0 : zNm a0) {z : Int32} (h : fX12_findIn S a0 v1 v2 v3 = some z) : zMi l yX12_findIn cX12_findIn 6 (some .int) rmX12_findIn [.ref (q a0), .int v1, .int v2, .long v3] (zPr zshM zNM D cy q S) z := by
  refine Met.ofW (cc := cX12_findIn) (maxL := 6) (ret := (some .int)) (by decide) rfl ?_
  intro p e s m args below meth c s₁ B hml hv
  obtain ⟨rfl, hP, hK⟩ := hv
  have cx : zX RX12 cX12_findIn 6 p s m ([.ref (q a0), .int v1, .int v2, .long v3]).toArray c D cy := ⟨B.exec, B.bytes, hml, findClass_of_methodNamed B.named, fun w hw => atoms_spec (ws := Cond.code yX12_findIn cX12_findIn 6 (some .int) :: zTB) B.pre w (List.mem_cons_of_mem _ hw), hK⟩
  have hx := cx.1
  have hb := cx.2.1
  have hr := B.returns
  have hlk := B.notSynchronized
  have hl := lv_entry ([.ref (q a0), .int v1, .int v2, .long v3]) (n := 6) (Nat.le_of_ble_eq_true rfl)
  rw [lg_entry_eq]
  generalize (lg_sl ([.ref (q a0), .int v1, .int v2, .long v3]) ++ List.replicate (6 - (lg_sl ([.ref (q a0), .int v1, .int v2, .long v3])).length) Slot.unset).toArray = ls at hl ⊢
  have hl : lv_has ls 6 [(0, .ref (q a0)), (1, .int v1), (2, .int v2), (3, .long v3)] := hl
  unfold fX12_findIn at h
  refine lv_iconst (pc := 0) hx hb dX12_findIn_0 zc_0 ?_
  refine lv_istore (lv' := [(5, .int (0 : Int32)), (0, .ref (q a0)), (1, .int v1), (2, .int v2), (3, .long v3)]) (pc := 1) hx hb dX12_findIn_1 hl (by decide) rfl (fun ls hl => ?_)
  exact kX12_findIn_3 cx hr hlk ha0 hP 2000 _ h _ (lv_sub hl [1, 2, 3, 4, 0] rfl)
-- X12_spelt
abbrev rmX12_spelt : Room := { frames := 0, cells := 0, slots := 0, locals := 0 }
def fX12_spelt_107  (v6 : Int32) (v7 : Int64) : Option Int64 :=
  zBr (v6 ≤ 0) (some v7) (zLt ((((27 : Int64) * v7) + ((v6).toInt64)) - (96 : Int64)) (fun x8 => some x8))
set_option maxHeartbeats 4000000 in
set_option maxRecDepth 100000 in
theorem kX12_spelt_107 {p : Program} {l : Launch} {e : Env} {s : State} {m : MethodId} {args : Array Value} {below : List Frame} {meth : Method} {c : Code} {D : va_G} {cy : Nat → ClassId} (cx : zX RX12 cX12_spelt 9 p s m args c D cy) (hr : meth.sig.returnType = (some .long)) (hlk : meth.locks = false) {z : Int64} {v6 : Int32} {v7 : Int64} (h : fX12_spelt_107 v6 v7 = some z) {ls : Array Slot} (hl : lv_has ls 9 [(6, .int v6), (7, .long v7)]) : W p l e rmX12_spelt s m args below meth c s.heap [] 0 0 (MQ below (vp_Sl (fun x => x = z)) args s 0 0 (fun _ => False)) (F0 m 107 ls []) := by
  have hx := cx.1
  have hb := cx.2.1
  unfold fX12_spelt_107 at h
  refine lv_iload (pc := 107) hx hb dX12_spelt_107 (lv_at hl 0 rfl) ?_
  refine lv_if_le (pc := 109) (tgt := 128) hx hb dX12_spelt_109 (by decide) (fun c7 => ?_) (fun c7 => ?_)
  · replace h := zBr_t c7 h
    refine lv_lload (pc := 128) hx hb dX12_spelt_128 (lv_at hl 1 rfl) ?_
    have hz := Option.some.inj h
    exact zr_reJ (pc := 130) cx hr hlk hz dX12_spelt_130
  · replace h := zBr_f c7 h
    refine lv_ldc2 (pc := 112) hx hb cx.2.2.2.1 (cx.2.2.2.2.1 _ wd_1647) dX12_spelt_112 ?_
    refine lv_lload (pc := 115) hx hb dX12_spelt_115 (lv_at hl 1 rfl) ?_
    refine lv_lmul (pc := 117) hx hb dX12_spelt_117 ?_
    refine lv_iload (pc := 118) hx hb dX12_spelt_118 (lv_at hl 0 rfl) ?_
    refine lv_i2l (v := ((v6).toInt64)) (pc := 120) hx hb dX12_spelt_120 rfl ?_
    refine lv_ladd (pc := 121) hx hb dX12_spelt_121 ?_
    refine lv_ldc2 (pc := 122) hx hb cx.2.2.2.1 (cx.2.2.2.2.1 _ wd_1648) dX12_spelt_122 ?_
    refine lv_lsub (pc := 125) hx hb dX12_spelt_125 ?_
    obtain ⟨x8, ex8, h⟩ := zLt_e h
    refine zr_nmJ ex8 ?_
    refine lv_lstore (lv' := [(7, .long x8), (6, .int v6)]) (pc := 126) hx hb dX12_spelt_126 hl (by decide) rfl (fun ls hl => ?_)
    refine lv_lload (pc := 128) hx hb dX12_spelt_128 (lv_at hl 0 rfl) ?_
    have hz := Option.some.inj h
    exact zr_reJ (pc := 130) cx hr hlk hz dX12_spelt_130
def fX12_spelt_86  (v5 : Int32) (v6 : Int32) (v7 : Int64) : Option Int64 :=
  zBr (v5 ≤ 0) (fX12_spelt_107 v6 v7) (zLt ((((27 : Int64) * v7) + ((v5).toInt64)) - (96 : Int64)) (fun x9 => fX12_spelt_107 v6 x9))
set_option maxHeartbeats 4000000 in
set_option maxRecDepth 100000 in
theorem kX12_spelt_86 {p : Program} {l : Launch} {e : Env} {s : State} {m : MethodId} {args : Array Value} {below : List Frame} {meth : Method} {c : Code} {D : va_G} {cy : Nat → ClassId} (cx : zX RX12 cX12_spelt 9 p s m args c D cy) (hr : meth.sig.returnType = (some .long)) (hlk : meth.locks = false) {z : Int64} {v5 : Int32} {v6 : Int32} {v7 : Int64} (h : fX12_spelt_86 v5 v6 v7 = some z) {ls : Array Slot} (hl : lv_has ls 9 [(5, .int v5), (6, .int v6), (7, .long v7)]) : W p l e rmX12_spelt s m args below meth c s.heap [] 0 0 (MQ below (vp_Sl (fun x => x = z)) args s 0 0 (fun _ => False)) (F0 m 86 ls []) := by
  have hx := cx.1
  have hb := cx.2.1
  unfold fX12_spelt_86 at h
  refine lv_iload (pc := 86) hx hb dX12_spelt_86 (lv_at hl 0 rfl) ?_
  refine lv_if_le (pc := 88) (tgt := 107) hx hb dX12_spelt_88 (by decide) (fun c6 => ?_) (fun c6 => ?_)
  · replace h := zBr_t c6 h
    exact kX12_spelt_107 cx hr hlk h (lv_sub hl [1, 2] rfl)
  · replace h := zBr_f c6 h
    refine lv_ldc2 (pc := 91) hx hb cx.2.2.2.1 (cx.2.2.2.2.1 _ wd_1647) dX12_spelt_91 ?_
    refine lv_lload (pc := 94) hx hb dX12_spelt_94 (lv_at hl 2 rfl) ?_
    refine lv_lmul (pc := 96) hx hb dX12_spelt_96 ?_
    refine lv_iload (pc := 97) hx hb dX12_spelt_97 (lv_at hl 0 rfl) ?_
    refine lv_i2l (v := ((v5).toInt64)) (pc := 99) hx hb dX12_spelt_99 rfl ?_
    refine lv_ladd (pc := 100) hx hb dX12_spelt_100 ?_
    refine lv_ldc2 (pc := 101) hx hb cx.2.2.2.1 (cx.2.2.2.2.1 _ wd_1648) dX12_spelt_101 ?_
    refine lv_lsub (pc := 104) hx hb dX12_spelt_104 ?_
    obtain ⟨x9, ex9, h⟩ := zLt_e h
    refine zr_nmJ ex9 ?_
    refine lv_lstore (lv' := [(7, .long x9), (5, .int v5), (6, .int v6)]) (pc := 105) hx hb dX12_spelt_105 hl (by decide) rfl (fun ls hl => ?_)
    exact kX12_spelt_107 cx hr hlk h (lv_sub hl [2, 0] rfl)
def fX12_spelt_65  (v4 : Int32) (v5 : Int32) (v6 : Int32) (v7 : Int64) : Option Int64 :=
  zBr (v4 ≤ 0) (fX12_spelt_86 v5 v6 v7) (zLt ((((27 : Int64) * v7) + ((v4).toInt64)) - (96 : Int64)) (fun x10 => fX12_spelt_86 v5 v6 x10))
set_option maxHeartbeats 4000000 in
set_option maxRecDepth 100000 in
theorem kX12_spelt_65 {p : Program} {l : Launch} {e : Env} {s : State} {m : MethodId} {args : Array Value} {below : List Frame} {meth : Method} {c : Code} {D : va_G} {cy : Nat → ClassId} (cx : zX RX12 cX12_spelt 9 p s m args c D cy) (hr : meth.sig.returnType = (some .long)) (hlk : meth.locks = false) {z : Int64} {v4 : Int32} {v5 : Int32} {v6 : Int32} {v7 : Int64} (h : fX12_spelt_65 v4 v5 v6 v7 = some z) {ls : Array Slot} (hl : lv_has ls 9 [(4, .int v4), (5, .int v5), (6, .int v6), (7, .long v7)]) : W p l e rmX12_spelt s m args below meth c s.heap [] 0 0 (MQ below (vp_Sl (fun x => x = z)) args s 0 0 (fun _ => False)) (F0 m 65 ls []) := by
  have hx := cx.1
  have hb := cx.2.1
  unfold fX12_spelt_65 at h
  refine lv_iload (pc := 65) hx hb dX12_spelt_65 (lv_at hl 0 rfl) ?_
  refine lv_if_le (pc := 67) (tgt := 86) hx hb dX12_spelt_67 (by decide) (fun c5 => ?_) (fun c5 => ?_)
  · replace h := zBr_t c5 h
    exact kX12_spelt_86 cx hr hlk h (lv_sub hl [1, 2, 3] rfl)
  · replace h := zBr_f c5 h
    refine lv_ldc2 (pc := 70) hx hb cx.2.2.2.1 (cx.2.2.2.2.1 _ wd_1647) dX12_spelt_70 ?_
    refine lv_lload (pc := 73) hx hb dX12_spelt_73 (lv_at hl 3 rfl) ?_
    refine lv_lmul (pc := 75) hx hb dX12_spelt_75 ?_
    refine lv_iload (pc := 76) hx hb dX12_spelt_76 (lv_at hl 0 rfl) ?_
    refine lv_i2l (v := ((v4).toInt64)) (pc := 78) hx hb dX12_spelt_78 rfl ?_
    refine lv_ladd (pc := 79) hx hb dX12_spelt_79 ?_
    refine lv_ldc2 (pc := 80) hx hb cx.2.2.2.1 (cx.2.2.2.2.1 _ wd_1648) dX12_spelt_80 ?_
    refine lv_lsub (pc := 83) hx hb dX12_spelt_83 ?_
    obtain ⟨x10, ex10, h⟩ := zLt_e h
    refine zr_nmJ ex10 ?_
    refine lv_lstore (lv' := [(7, .long x10), (4, .int v4), (5, .int v5), (6, .int v6)]) (pc := 84) hx hb dX12_spelt_84 hl (by decide) rfl (fun ls hl => ?_)
    exact kX12_spelt_86 cx hr hlk h (lv_sub hl [2, 3, 0] rfl)
def fX12_spelt_46  (v3 : Int32) (v4 : Int32) (v5 : Int32) (v6 : Int32) (v7 : Int64) : Option Int64 :=
  zBr (v3 ≤ 0) (fX12_spelt_65 v4 v5 v6 v7) (zLt ((((27 : Int64) * v7) + ((v3).toInt64)) - (96 : Int64)) (fun x11 => fX12_spelt_65 v4 v5 v6 x11))
set_option maxHeartbeats 4000000 in
set_option maxRecDepth 100000 in
theorem kX12_spelt_46 {p : Program} {l : Launch} {e : Env} {s : State} {m : MethodId} {args : Array Value} {below : List Frame} {meth : Method} {c : Code} {D : va_G} {cy : Nat → ClassId} (cx : zX RX12 cX12_spelt 9 p s m args c D cy) (hr : meth.sig.returnType = (some .long)) (hlk : meth.locks = false) {z : Int64} {v3 : Int32} {v4 : Int32} {v5 : Int32} {v6 : Int32} {v7 : Int64} (h : fX12_spelt_46 v3 v4 v5 v6 v7 = some z) {ls : Array Slot} (hl : lv_has ls 9 [(3, .int v3), (4, .int v4), (5, .int v5), (6, .int v6), (7, .long v7)]) : W p l e rmX12_spelt s m args below meth c s.heap [] 0 0 (MQ below (vp_Sl (fun x => x = z)) args s 0 0 (fun _ => False)) (F0 m 46 ls []) := by
  have hx := cx.1
  have hb := cx.2.1
  unfold fX12_spelt_46 at h
  refine lv_iload_n (pc := 46) hx hb dX12_spelt_46 rfl (lv_at hl 0 rfl) ?_
  refine lv_if_le (pc := 47) (tgt := 65) hx hb dX12_spelt_47 (by decide) (fun c4 => ?_) (fun c4 => ?_)
  · replace h := zBr_t c4 h
    exact kX12_spelt_65 cx hr hlk h (lv_sub hl [1, 2, 3, 4] rfl)
  · replace h := zBr_f c4 h
    refine lv_ldc2 (pc := 50) hx hb cx.2.2.2.1 (cx.2.2.2.2.1 _ wd_1647) dX12_spelt_50 ?_
    refine lv_lload (pc := 53) hx hb dX12_spelt_53 (lv_at hl 4 rfl) ?_
    refine lv_lmul (pc := 55) hx hb dX12_spelt_55 ?_
    refine lv_iload_n (pc := 56) hx hb dX12_spelt_56 rfl (lv_at hl 0 rfl) ?_
    refine lv_i2l (v := ((v3).toInt64)) (pc := 57) hx hb dX12_spelt_57 rfl ?_
    refine lv_ladd (pc := 58) hx hb dX12_spelt_58 ?_
    refine lv_ldc2 (pc := 59) hx hb cx.2.2.2.1 (cx.2.2.2.2.1 _ wd_1648) dX12_spelt_59 ?_
    refine lv_lsub (pc := 62) hx hb dX12_spelt_62 ?_
    obtain ⟨x11, ex11, h⟩ := zLt_e h
    refine zr_nmJ ex11 ?_
    refine lv_lstore (lv' := [(7, .long x11), (3, .int v3), (4, .int v4), (5, .int v5), (6, .int v6)]) (pc := 63) hx hb dX12_spelt_63 hl (by decide) rfl (fun ls hl => ?_)
    exact kX12_spelt_65 cx hr hlk h (lv_sub hl [2, 3, 4, 0] rfl)
def fX12_spelt_27  (v2 : Int32) (v3 : Int32) (v4 : Int32) (v5 : Int32) (v6 : Int32) (v7 : Int64) : Option Int64 :=
  zBr (v2 ≤ 0) (fX12_spelt_46 v3 v4 v5 v6 v7) (zLt ((((27 : Int64) * v7) + ((v2).toInt64)) - (96 : Int64)) (fun x12 => fX12_spelt_46 v3 v4 v5 v6 x12))
set_option maxHeartbeats 4000000 in
set_option maxRecDepth 100000 in
theorem kX12_spelt_27 {p : Program} {l : Launch} {e : Env} {s : State} {m : MethodId} {args : Array Value} {below : List Frame} {meth : Method} {c : Code} {D : va_G} {cy : Nat → ClassId} (cx : zX RX12 cX12_spelt 9 p s m args c D cy) (hr : meth.sig.returnType = (some .long)) (hlk : meth.locks = false) {z : Int64} {v2 : Int32} {v3 : Int32} {v4 : Int32} {v5 : Int32} {v6 : Int32} {v7 : Int64} (h : fX12_spelt_27 v2 v3 v4 v5 v6 v7 = some z) {ls : Array Slot} (hl : lv_has ls 9 [(2, .int v2), (3, .int v3), (4, .int v4), (5, .int v5), (6, .int v6), (7, .long v7)]) : W p l e rmX12_spelt s m args below meth c s.heap [] 0 0 (MQ below (vp_Sl (fun x => x = z)) args s 0 0 (fun _ => False)) (F0 m 27 ls []) := by
  have hx := cx.1
  have hb := cx.2.1
  unfold fX12_spelt_27 at h
  refine lv_iload_n (pc := 27) hx hb dX12_spelt_27 rfl (lv_at hl 0 rfl) ?_
  refine lv_if_le (pc := 28) (tgt := 46) hx hb dX12_spelt_28 (by decide) (fun c3 => ?_) (fun c3 => ?_)
  · replace h := zBr_t c3 h
    exact kX12_spelt_46 cx hr hlk h (lv_sub hl [1, 2, 3, 4, 5] rfl)
  · replace h := zBr_f c3 h
    refine lv_ldc2 (pc := 31) hx hb cx.2.2.2.1 (cx.2.2.2.2.1 _ wd_1647) dX12_spelt_31 ?_
    refine lv_lload (pc := 34) hx hb dX12_spelt_34 (lv_at hl 5 rfl) ?_
    refine lv_lmul (pc := 36) hx hb dX12_spelt_36 ?_
    refine lv_iload_n (pc := 37) hx hb dX12_spelt_37 rfl (lv_at hl 0 rfl) ?_
    refine lv_i2l (v := ((v2).toInt64)) (pc := 38) hx hb dX12_spelt_38 rfl ?_
    refine lv_ladd (pc := 39) hx hb dX12_spelt_39 ?_
    refine lv_ldc2 (pc := 40) hx hb cx.2.2.2.1 (cx.2.2.2.2.1 _ wd_1648) dX12_spelt_40 ?_
    refine lv_lsub (pc := 43) hx hb dX12_spelt_43 ?_
    obtain ⟨x12, ex12, h⟩ := zLt_e h
    refine zr_nmJ ex12 ?_
    refine lv_lstore (lv' := [(7, .long x12), (2, .int v2), (3, .int v3), (4, .int v4), (5, .int v5), (6, .int v6)]) (pc := 44) hx hb dX12_spelt_44 hl (by decide) rfl (fun ls hl => ?_)
    exact kX12_spelt_46 cx hr hlk h (lv_sub hl [2, 3, 4, 5, 0] rfl)
def fX12_spelt (v0 : Int32) (v1 : Int32) (v2 : Int32) (v3 : Int32) (v4 : Int32) (v5 : Int32) (v6 : Int32) : Option Int64 :=
  zLt (((v0).toInt64) - (96 : Int64)) (fun x1 => zBr (v1 ≤ 0) (fX12_spelt_27 v2 v3 v4 v5 v6 x1) (zLt ((((27 : Int64) * x1) + ((v1).toInt64)) - (96 : Int64)) (fun x13 => fX12_spelt_27 v2 v3 v4 v5 v6 x13)))
set_option maxHeartbeats 4000000 in
set_option maxRecDepth 100000 in
theorem mX12_spelt {l : Launch} {D : va_G} {cy : Nat → ClassId} {v0 : Int32} {v1 : Int32} {v2 : Int32} {v3 : Int32} {v4 : Int32} {v5 : Int32} {v6 : Int32} {z : Int64} (h : fX12_spelt v0 v1 v2 v3 v4 v5 v6 = some z) : zMj l yX12_spelt cX12_spelt 9 (some .long) rmX12_spelt [.int v0, .int v1, .int v2, .int v3, .int v4, .int v5, .int v6] (zPk D cy) z := by
  refine Met.ofW (cc := cX12_spelt) (maxL := 9) (ret := (some .long)) (by decide) rfl ?_
  intro p e s m args below meth c s₁ B hml hv
  obtain ⟨rfl, hK⟩ := hv
  have cx : zX RX12 cX12_spelt 9 p s m ([.int v0, .int v1, .int v2, .int v3, .int v4, .int v5, .int v6]).toArray c D cy := ⟨B.exec, B.bytes, hml, findClass_of_methodNamed B.named, fun w hw => atoms_spec (ws := Cond.code yX12_spelt cX12_spelt 9 (some .long) :: zTB) B.pre w (List.mem_cons_of_mem _ hw), hK⟩
  have hx := cx.1
  have hb := cx.2.1
  have hr := B.returns
  have hlk := B.notSynchronized
  have hl := lv_entry ([.int v0, .int v1, .int v2, .int v3, .int v4, .int v5, .int v6]) (n := 9) (Nat.le_of_ble_eq_true rfl)
  rw [lg_entry_eq]
  generalize (lg_sl ([.int v0, .int v1, .int v2, .int v3, .int v4, .int v5, .int v6]) ++ List.replicate (9 - (lg_sl ([.int v0, .int v1, .int v2, .int v3, .int v4, .int v5, .int v6])).length) Slot.unset).toArray = ls at hl ⊢
  have hl : lv_has ls 9 [(0, .int v0), (1, .int v1), (2, .int v2), (3, .int v3), (4, .int v4), (5, .int v5), (6, .int v6)] := hl
  unfold fX12_spelt at h
  refine lv_iload_n (pc := 0) hx hb dX12_spelt_0 rfl (lv_at hl 0 rfl) ?_
  refine lv_i2l (v := ((v0).toInt64)) (pc := 1) hx hb dX12_spelt_1 rfl ?_
  refine lv_ldc2 (pc := 2) hx hb cx.2.2.2.1 (cx.2.2.2.2.1 _ wd_1648) dX12_spelt_2 ?_
  refine lv_lsub (pc := 5) hx hb dX12_spelt_5 ?_
  obtain ⟨x1, ex1, h⟩ := zLt_e h
  refine zr_nmJ ex1 ?_
  refine lv_lstore (lv' := [(7, .long x1), (0, .int v0), (1, .int v1), (2, .int v2), (3, .int v3), (4, .int v4), (5, .int v5), (6, .int v6)]) (pc := 6) hx hb dX12_spelt_6 hl (by decide) rfl (fun ls hl => ?_)
  refine lv_iload_n (pc := 8) hx hb dX12_spelt_8 rfl (lv_at hl 2 rfl) ?_
  refine lv_if_le (pc := 9) (tgt := 27) hx hb dX12_spelt_9 (by decide) (fun c2 => ?_) (fun c2 => ?_)
  · replace h := zBr_t c2 h
    exact kX12_spelt_27 cx hr hlk h (lv_sub hl [3, 4, 5, 6, 7, 0] rfl)
  · replace h := zBr_f c2 h
    refine lv_ldc2 (pc := 12) hx hb cx.2.2.2.1 (cx.2.2.2.2.1 _ wd_1647) dX12_spelt_12 ?_
    refine lv_lload (pc := 15) hx hb dX12_spelt_15 (lv_at hl 0 rfl) ?_
    refine lv_lmul (pc := 17) hx hb dX12_spelt_17 ?_
    refine lv_iload_n (pc := 18) hx hb dX12_spelt_18 rfl (lv_at hl 2 rfl) ?_
    refine lv_i2l (v := ((v1).toInt64)) (pc := 19) hx hb dX12_spelt_19 rfl ?_
    refine lv_ladd (pc := 20) hx hb dX12_spelt_20 ?_
    refine lv_ldc2 (pc := 21) hx hb cx.2.2.2.1 (cx.2.2.2.2.1 _ wd_1648) dX12_spelt_21 ?_
    refine lv_lsub (pc := 24) hx hb dX12_spelt_24 ?_
    obtain ⟨x13, ex13, h⟩ := zLt_e h
    refine zr_nmJ ex13 ?_
    refine lv_lstore (lv' := [(7, .long x13), (0, .int v0), (1, .int v1), (2, .int v2), (3, .int v3), (4, .int v4), (5, .int v5), (6, .int v6)]) (pc := 25) hx hb dX12_spelt_25 hl (by decide) rfl (fun ls hl => ?_)
    exact kX12_spelt_27 cx hr hlk h (lv_sub hl [3, 4, 5, 6, 7, 0] rfl)
-- X12_wordOf
abbrev rmX12_wordOf : Room := { frames := 1, cells := 0, slots := 0, locals := 28 }
def fX12_wordOf (v0 : Int32) : Option Int64 :=
  zBr (v0 = 0) (zBd (fX12_spelt (112 : Int32) (97 : Int32) (114 : Int32) (108 : Int32) (111 : Int32) (117 : Int32) (114 : Int32)) (fun r23 => some r23)) (zBr (v0 = 1) (zBd (fX12_spelt (115 : Int32) (105 : Int32) (103 : Int32) (104 : Int32) (116 : Int32) (0 : Int32) (0 : Int32)) (fun r25 => some r25)) (zBr (v0 = 2) (zBd (fX12_spelt (112 : Int32) (108 : Int32) (97 : Int32) (110 : Int32) (116 : Int32) (0 : Int32) (0 : Int32)) (fun r27 => some r27)) (zBr (v0 = 3) (zBd (fX12_spelt (112 : Int32) (101 : Int32) (114 : Int32) (115 : Int32) (111 : Int32) (110 : Int32) (0 : Int32)) (fun r29 => some r29)) (zBr (v0 = 4) (zBd (fX12_spelt (100 : Int32) (101 : Int32) (101 : Int32) (100 : Int32) (0 : Int32) (0 : Int32) (0 : Int32)) (fun r31 => some r31)) (zBr (v0 = 5) (zBd (fX12_spelt (100 : Int32) (117 : Int32) (115 : Int32) (116 : Int32) (121 : Int32) (0 : Int32) (0 : Int32)) (fun r33 => some r33)) (zBr (v0 = 6) (zBd (fX12_spelt (112 : Int32) (114 : Int32) (111 : Int32) (111 : Int32) (102 : Int32) (0 : Int32) (0 : Int32)) (fun r35 => some r35)) (zBr (v0 = 7) (zBd (fX12_spelt (100 : Int32) (111 : Int32) (101 : Int32) (115 : Int32) (0 : Int32) (0 : Int32) (0 : Int32)) (fun r37 => some r37)) (zBr (v0 = 8) (zBd (fX12_spelt (115 : Int32) (112 : Int32) (111 : Int32) (110 : Int32) (103 : Int32) (101 : Int32) (0 : Int32)) (fun r39 => some r39)) (zBr (v0 = 9) (zBd (fX12_spelt (99 : Int32) (97 : Int32) (114 : Int32) (114 : Int32) (121 : Int32) (0 : Int32) (0 : Int32)) (fun r41 => some r41)) (zBr (v0 = 10) (zBd (fX12_spelt (100 : Int32) (97 : Int32) (121 : Int32) (0 : Int32) (0 : Int32) (0 : Int32) (0 : Int32)) (fun r43 => some r43)) (zBr (v0 = 11) (zBd (fX12_spelt (111 : Int32) (114 : Int32) (0 : Int32) (0 : Int32) (0 : Int32) (0 : Int32) (0 : Int32)) (fun r45 => some r45)) (zBr (v0 = 12) (zBd (fX12_spelt (97 : Int32) (110 : Int32) (100 : Int32) (0 : Int32) (0 : Int32) (0 : Int32) (0 : Int32)) (fun r47 => some r47)) (zBr (v0 = 13) (zBd (fX12_spelt (110 : Int32) (111 : Int32) (116 : Int32) (0 : Int32) (0 : Int32) (0 : Int32) (0 : Int32)) (fun r49 => some r49)) (zBr (v0 = 14) (zBd (fX12_spelt (98 : Int32) (108 : Int32) (105 : Int32) (110 : Int32) (100 : Int32) (0 : Int32) (0 : Int32)) (fun r51 => some r51)) (zBr (v0 = 15) (zBd (fX12_spelt (102 : Int32) (101 : Int32) (114 : Int32) (110 : Int32) (0 : Int32) (0 : Int32) (0 : Int32)) (fun r53 => some r53)) (zBr (v0 = 16) (zBd (fX12_spelt (105 : Int32) (110 : Int32) (0 : Int32) (0 : Int32) (0 : Int32) (0 : Int32) (0 : Int32)) (fun r55 => some r55)) (zBr (v0 = 17) (zBd (fX12_spelt (115 : Int32) (101 : Int32) (101 : Int32) (115 : Int32) (0 : Int32) (0 : Int32) (0 : Int32)) (fun r57 => some r57)) (zBr (v0 = 18) (zBd (fX12_spelt (116 : Int32) (101 : Int32) (108 : Int32) (108 : Int32) (115 : Int32) (0 : Int32) (0 : Int32)) (fun r59 => some r59)) (zBr (v0 = 19) (zBd (fX12_spelt (108 : Int32) (101 : Int32) (97 : Int32) (118 : Int32) (101 : Int32) (115 : Int32) (0 : Int32)) (fun r61 => some r61)) (zBr (v0 = 20) (zBd (fX12_spelt (100 : Int32) (117 : Int32) (115 : Int32) (116 : Int32) (0 : Int32) (0 : Int32) (0 : Int32)) (fun r63 => some r63)) (zBd (fX12_spelt (110 : Int32) (117 : Int32) (109 : Int32) (98 : Int32) (101 : Int32) (114 : Int32) (0 : Int32)) (fun r65 => some r65))))))))))))))))))))))
set_option maxHeartbeats 4000000 in
set_option maxRecDepth 100000 in
theorem mX12_wordOf {l : Launch} {D : va_G} {cy : Nat → ClassId} {v0 : Int32} {z : Int64} (h : fX12_wordOf v0 = some z) : zMj l yX12_wordOf cX12_wordOf 1 (some .long) rmX12_wordOf [.int v0] (zPk D cy) z := by
  refine Met.ofW (cc := cX12_wordOf) (maxL := 1) (ret := (some .long)) (by decide) rfl ?_
  intro p e s m args below meth c s₁ B hml hv
  obtain ⟨rfl, hK⟩ := hv
  have cx : zX RX12 cX12_wordOf 1 p s m ([.int v0]).toArray c D cy := ⟨B.exec, B.bytes, hml, findClass_of_methodNamed B.named, fun w hw => atoms_spec (ws := Cond.code yX12_wordOf cX12_wordOf 1 (some .long) :: zTB) B.pre w (List.mem_cons_of_mem _ hw), hK⟩
  have hx := cx.1
  have hb := cx.2.1
  have hr := B.returns
  have hlk := B.notSynchronized
  have hl := lv_entry ([.int v0]) (n := 1) (Nat.le_of_ble_eq_true rfl)
  rw [lg_entry_eq]
  generalize (lg_sl ([.int v0]) ++ List.replicate (1 - (lg_sl ([.int v0])).length) Slot.unset).toArray = ls at hl ⊢
  have hl : lv_has ls 1 [(0, .int v0)] := hl
  unfold fX12_wordOf at h
  refine lv_iload_n (pc := 0) hx hb dX12_wordOf_0 rfl (lv_at hl 0 rfl) ?_
  by_cases c1 : v0 = 0
  · replace h := zBr_t c1 h
    refine lv_tableIn (pc := 1) (off := 99) (tgt := 100) hx hb dX12_wordOf_1 (by rw [c1]; decide) (by rw [c1]; decide) (by rw [c1]; rfl) (by decide) ?_
    refine lv_bipush (pc := 100) hx hb dX12_wordOf_100 zb_112 ?_
    refine lv_bipush (pc := 102) hx hb dX12_wordOf_102 zb_97 ?_
    refine lv_bipush (pc := 104) hx hb dX12_wordOf_104 zb_114 ?_
    refine lv_bipush (pc := 106) hx hb dX12_wordOf_106 zb_108 ?_
    refine lv_bipush (pc := 108) hx hb dX12_wordOf_108 zb_111 ?_
    refine lv_bipush (pc := 110) hx hb dX12_wordOf_110 zb_117 ?_
    refine lv_bipush (pc := 112) hx hb dX12_wordOf_112 zb_114 ?_
    obtain ⟨r23, k22, h⟩ := zBd_e h
    refine zr_SJ (pc := 114) (rest := []) cx cv_X12_58 (mX12_spelt k22) ⟨⟨rfl, rfl⟩, Nat.le_of_ble_eq_true rfl, Nat.le_of_ble_eq_true rfl⟩ ⟨Nat.le_of_ble_eq_true rfl, Nat.le_of_ble_eq_true rfl⟩ (zr_preK cx) hl.1 rfl rfl (Nat.le_of_ble_eq_true rfl) dX12_wordOf_114 ?_
    have hz := Option.some.inj h
    exact zr_reJ (pc := 117) cx hr hlk hz dX12_wordOf_117
  · replace h := zBr_f c1 h
    by_cases c2 : v0 = 1
    · replace h := zBr_t c2 h
      refine lv_tableIn (pc := 1) (off := 117) (tgt := 118) hx hb dX12_wordOf_1 (by rw [c2]; decide) (by rw [c2]; decide) (by rw [c2]; rfl) (by decide) ?_
      refine lv_bipush (pc := 118) hx hb dX12_wordOf_118 zb_115 ?_
      refine lv_bipush (pc := 120) hx hb dX12_wordOf_120 zb_105 ?_
      refine lv_bipush (pc := 122) hx hb dX12_wordOf_122 zb_103 ?_
      refine lv_bipush (pc := 124) hx hb dX12_wordOf_124 zb_104 ?_
      refine lv_bipush (pc := 126) hx hb dX12_wordOf_126 zb_116 ?_
      refine lv_iconst (pc := 128) hx hb dX12_wordOf_128 zc_0 ?_
      refine lv_iconst (pc := 129) hx hb dX12_wordOf_129 zc_0 ?_
      obtain ⟨r25, k24, h⟩ := zBd_e h
      refine zr_SJ (pc := 130) (rest := []) cx cv_X12_58 (mX12_spelt k24) ⟨⟨rfl, rfl⟩, Nat.le_of_ble_eq_true rfl, Nat.le_of_ble_eq_true rfl⟩ ⟨Nat.le_of_ble_eq_true rfl, Nat.le_of_ble_eq_true rfl⟩ (zr_preK cx) hl.1 rfl rfl (Nat.le_of_ble_eq_true rfl) dX12_wordOf_130 ?_
      have hz := Option.some.inj h
      exact zr_reJ (pc := 133) cx hr hlk hz dX12_wordOf_133
    · replace h := zBr_f c2 h
      by_cases c3 : v0 = 2
      · replace h := zBr_t c3 h
        refine lv_tableIn (pc := 1) (off := 133) (tgt := 134) hx hb dX12_wordOf_1 (by rw [c3]; decide) (by rw [c3]; decide) (by rw [c3]; rfl) (by decide) ?_
        refine lv_bipush (pc := 134) hx hb dX12_wordOf_134 zb_112 ?_
        refine lv_bipush (pc := 136) hx hb dX12_wordOf_136 zb_108 ?_
        refine lv_bipush (pc := 138) hx hb dX12_wordOf_138 zb_97 ?_
        refine lv_bipush (pc := 140) hx hb dX12_wordOf_140 zb_110 ?_
        refine lv_bipush (pc := 142) hx hb dX12_wordOf_142 zb_116 ?_
        refine lv_iconst (pc := 144) hx hb dX12_wordOf_144 zc_0 ?_
        refine lv_iconst (pc := 145) hx hb dX12_wordOf_145 zc_0 ?_
        obtain ⟨r27, k26, h⟩ := zBd_e h
        refine zr_SJ (pc := 146) (rest := []) cx cv_X12_58 (mX12_spelt k26) ⟨⟨rfl, rfl⟩, Nat.le_of_ble_eq_true rfl, Nat.le_of_ble_eq_true rfl⟩ ⟨Nat.le_of_ble_eq_true rfl, Nat.le_of_ble_eq_true rfl⟩ (zr_preK cx) hl.1 rfl rfl (Nat.le_of_ble_eq_true rfl) dX12_wordOf_146 ?_
        have hz := Option.some.inj h
        exact zr_reJ (pc := 149) cx hr hlk hz dX12_wordOf_149
      · replace h := zBr_f c3 h
        by_cases c4 : v0 = 3
        · replace h := zBr_t c4 h
          refine lv_tableIn (pc := 1) (off := 149) (tgt := 150) hx hb dX12_wordOf_1 (by rw [c4]; decide) (by rw [c4]; decide) (by rw [c4]; rfl) (by decide) ?_
          refine lv_bipush (pc := 150) hx hb dX12_wordOf_150 zb_112 ?_
          refine lv_bipush (pc := 152) hx hb dX12_wordOf_152 zb_101 ?_
          refine lv_bipush (pc := 154) hx hb dX12_wordOf_154 zb_114 ?_
          refine lv_bipush (pc := 156) hx hb dX12_wordOf_156 zb_115 ?_
          refine lv_bipush (pc := 158) hx hb dX12_wordOf_158 zb_111 ?_
          refine lv_bipush (pc := 160) hx hb dX12_wordOf_160 zb_110 ?_
          refine lv_iconst (pc := 162) hx hb dX12_wordOf_162 zc_0 ?_
          obtain ⟨r29, k28, h⟩ := zBd_e h
          refine zr_SJ (pc := 163) (rest := []) cx cv_X12_58 (mX12_spelt k28) ⟨⟨rfl, rfl⟩, Nat.le_of_ble_eq_true rfl, Nat.le_of_ble_eq_true rfl⟩ ⟨Nat.le_of_ble_eq_true rfl, Nat.le_of_ble_eq_true rfl⟩ (zr_preK cx) hl.1 rfl rfl (Nat.le_of_ble_eq_true rfl) dX12_wordOf_163 ?_
          have hz := Option.some.inj h
          exact zr_reJ (pc := 166) cx hr hlk hz dX12_wordOf_166
        · replace h := zBr_f c4 h
          by_cases c5 : v0 = 4
          · replace h := zBr_t c5 h
            refine lv_tableIn (pc := 1) (off := 166) (tgt := 167) hx hb dX12_wordOf_1 (by rw [c5]; decide) (by rw [c5]; decide) (by rw [c5]; rfl) (by decide) ?_
            refine lv_bipush (pc := 167) hx hb dX12_wordOf_167 zb_100 ?_
            refine lv_bipush (pc := 169) hx hb dX12_wordOf_169 zb_101 ?_
            refine lv_bipush (pc := 171) hx hb dX12_wordOf_171 zb_101 ?_
            refine lv_bipush (pc := 173) hx hb dX12_wordOf_173 zb_100 ?_
            refine lv_iconst (pc := 175) hx hb dX12_wordOf_175 zc_0 ?_
            refine lv_iconst (pc := 176) hx hb dX12_wordOf_176 zc_0 ?_
            refine lv_iconst (pc := 177) hx hb dX12_wordOf_177 zc_0 ?_
            obtain ⟨r31, k30, h⟩ := zBd_e h
            refine zr_SJ (pc := 178) (rest := []) cx cv_X12_58 (mX12_spelt k30) ⟨⟨rfl, rfl⟩, Nat.le_of_ble_eq_true rfl, Nat.le_of_ble_eq_true rfl⟩ ⟨Nat.le_of_ble_eq_true rfl, Nat.le_of_ble_eq_true rfl⟩ (zr_preK cx) hl.1 rfl rfl (Nat.le_of_ble_eq_true rfl) dX12_wordOf_178 ?_
            have hz := Option.some.inj h
            exact zr_reJ (pc := 181) cx hr hlk hz dX12_wordOf_181
          · replace h := zBr_f c5 h
            by_cases c6 : v0 = 5
            · replace h := zBr_t c6 h
              refine lv_tableIn (pc := 1) (off := 181) (tgt := 182) hx hb dX12_wordOf_1 (by rw [c6]; decide) (by rw [c6]; decide) (by rw [c6]; rfl) (by decide) ?_
              refine lv_bipush (pc := 182) hx hb dX12_wordOf_182 zb_100 ?_
              refine lv_bipush (pc := 184) hx hb dX12_wordOf_184 zb_117 ?_
              refine lv_bipush (pc := 186) hx hb dX12_wordOf_186 zb_115 ?_
              refine lv_bipush (pc := 188) hx hb dX12_wordOf_188 zb_116 ?_
              refine lv_bipush (pc := 190) hx hb dX12_wordOf_190 zb_121 ?_
              refine lv_iconst (pc := 192) hx hb dX12_wordOf_192 zc_0 ?_
              refine lv_iconst (pc := 193) hx hb dX12_wordOf_193 zc_0 ?_
              obtain ⟨r33, k32, h⟩ := zBd_e h
              refine zr_SJ (pc := 194) (rest := []) cx cv_X12_58 (mX12_spelt k32) ⟨⟨rfl, rfl⟩, Nat.le_of_ble_eq_true rfl, Nat.le_of_ble_eq_true rfl⟩ ⟨Nat.le_of_ble_eq_true rfl, Nat.le_of_ble_eq_true rfl⟩ (zr_preK cx) hl.1 rfl rfl (Nat.le_of_ble_eq_true rfl) dX12_wordOf_194 ?_
              have hz := Option.some.inj h
              exact zr_reJ (pc := 197) cx hr hlk hz dX12_wordOf_197
            · replace h := zBr_f c6 h
              by_cases c7 : v0 = 6
              · replace h := zBr_t c7 h
                refine lv_tableIn (pc := 1) (off := 197) (tgt := 198) hx hb dX12_wordOf_1 (by rw [c7]; decide) (by rw [c7]; decide) (by rw [c7]; rfl) (by decide) ?_
                refine lv_bipush (pc := 198) hx hb dX12_wordOf_198 zb_112 ?_
                refine lv_bipush (pc := 200) hx hb dX12_wordOf_200 zb_114 ?_
                refine lv_bipush (pc := 202) hx hb dX12_wordOf_202 zb_111 ?_
                refine lv_bipush (pc := 204) hx hb dX12_wordOf_204 zb_111 ?_
                refine lv_bipush (pc := 206) hx hb dX12_wordOf_206 zb_102 ?_
                refine lv_iconst (pc := 208) hx hb dX12_wordOf_208 zc_0 ?_
                refine lv_iconst (pc := 209) hx hb dX12_wordOf_209 zc_0 ?_
                obtain ⟨r35, k34, h⟩ := zBd_e h
                refine zr_SJ (pc := 210) (rest := []) cx cv_X12_58 (mX12_spelt k34) ⟨⟨rfl, rfl⟩, Nat.le_of_ble_eq_true rfl, Nat.le_of_ble_eq_true rfl⟩ ⟨Nat.le_of_ble_eq_true rfl, Nat.le_of_ble_eq_true rfl⟩ (zr_preK cx) hl.1 rfl rfl (Nat.le_of_ble_eq_true rfl) dX12_wordOf_210 ?_
                have hz := Option.some.inj h
                exact zr_reJ (pc := 213) cx hr hlk hz dX12_wordOf_213
              · replace h := zBr_f c7 h
                by_cases c8 : v0 = 7
                · replace h := zBr_t c8 h
                  refine lv_tableIn (pc := 1) (off := 213) (tgt := 214) hx hb dX12_wordOf_1 (by rw [c8]; decide) (by rw [c8]; decide) (by rw [c8]; rfl) (by decide) ?_
                  refine lv_bipush (pc := 214) hx hb dX12_wordOf_214 zb_100 ?_
                  refine lv_bipush (pc := 216) hx hb dX12_wordOf_216 zb_111 ?_
                  refine lv_bipush (pc := 218) hx hb dX12_wordOf_218 zb_101 ?_
                  refine lv_bipush (pc := 220) hx hb dX12_wordOf_220 zb_115 ?_
                  refine lv_iconst (pc := 222) hx hb dX12_wordOf_222 zc_0 ?_
                  refine lv_iconst (pc := 223) hx hb dX12_wordOf_223 zc_0 ?_
                  refine lv_iconst (pc := 224) hx hb dX12_wordOf_224 zc_0 ?_
                  obtain ⟨r37, k36, h⟩ := zBd_e h
                  refine zr_SJ (pc := 225) (rest := []) cx cv_X12_58 (mX12_spelt k36) ⟨⟨rfl, rfl⟩, Nat.le_of_ble_eq_true rfl, Nat.le_of_ble_eq_true rfl⟩ ⟨Nat.le_of_ble_eq_true rfl, Nat.le_of_ble_eq_true rfl⟩ (zr_preK cx) hl.1 rfl rfl (Nat.le_of_ble_eq_true rfl) dX12_wordOf_225 ?_
                  have hz := Option.some.inj h
                  exact zr_reJ (pc := 228) cx hr hlk hz dX12_wordOf_228
                · replace h := zBr_f c8 h
                  by_cases c9 : v0 = 8
                  · replace h := zBr_t c9 h
                    refine lv_tableIn (pc := 1) (off := 228) (tgt := 229) hx hb dX12_wordOf_1 (by rw [c9]; decide) (by rw [c9]; decide) (by rw [c9]; rfl) (by decide) ?_
                    refine lv_bipush (pc := 229) hx hb dX12_wordOf_229 zb_115 ?_
                    refine lv_bipush (pc := 231) hx hb dX12_wordOf_231 zb_112 ?_
                    refine lv_bipush (pc := 233) hx hb dX12_wordOf_233 zb_111 ?_
                    refine lv_bipush (pc := 235) hx hb dX12_wordOf_235 zb_110 ?_
                    refine lv_bipush (pc := 237) hx hb dX12_wordOf_237 zb_103 ?_
                    refine lv_bipush (pc := 239) hx hb dX12_wordOf_239 zb_101 ?_
                    refine lv_iconst (pc := 241) hx hb dX12_wordOf_241 zc_0 ?_
                    obtain ⟨r39, k38, h⟩ := zBd_e h
                    refine zr_SJ (pc := 242) (rest := []) cx cv_X12_58 (mX12_spelt k38) ⟨⟨rfl, rfl⟩, Nat.le_of_ble_eq_true rfl, Nat.le_of_ble_eq_true rfl⟩ ⟨Nat.le_of_ble_eq_true rfl, Nat.le_of_ble_eq_true rfl⟩ (zr_preK cx) hl.1 rfl rfl (Nat.le_of_ble_eq_true rfl) dX12_wordOf_242 ?_
                    have hz := Option.some.inj h
                    exact zr_reJ (pc := 245) cx hr hlk hz dX12_wordOf_245
                  · replace h := zBr_f c9 h
                    by_cases c10 : v0 = 9
                    · replace h := zBr_t c10 h
                      refine lv_tableIn (pc := 1) (off := 245) (tgt := 246) hx hb dX12_wordOf_1 (by rw [c10]; decide) (by rw [c10]; decide) (by rw [c10]; rfl) (by decide) ?_
                      refine lv_bipush (pc := 246) hx hb dX12_wordOf_246 zb_99 ?_
                      refine lv_bipush (pc := 248) hx hb dX12_wordOf_248 zb_97 ?_
                      refine lv_bipush (pc := 250) hx hb dX12_wordOf_250 zb_114 ?_
                      refine lv_bipush (pc := 252) hx hb dX12_wordOf_252 zb_114 ?_
                      refine lv_bipush (pc := 254) hx hb dX12_wordOf_254 zb_121 ?_
                      refine lv_iconst (pc := 256) hx hb dX12_wordOf_256 zc_0 ?_
                      refine lv_iconst (pc := 257) hx hb dX12_wordOf_257 zc_0 ?_
                      obtain ⟨r41, k40, h⟩ := zBd_e h
                      refine zr_SJ (pc := 258) (rest := []) cx cv_X12_58 (mX12_spelt k40) ⟨⟨rfl, rfl⟩, Nat.le_of_ble_eq_true rfl, Nat.le_of_ble_eq_true rfl⟩ ⟨Nat.le_of_ble_eq_true rfl, Nat.le_of_ble_eq_true rfl⟩ (zr_preK cx) hl.1 rfl rfl (Nat.le_of_ble_eq_true rfl) dX12_wordOf_258 ?_
                      have hz := Option.some.inj h
                      exact zr_reJ (pc := 261) cx hr hlk hz dX12_wordOf_261
                    · replace h := zBr_f c10 h
                      by_cases c11 : v0 = 10
                      · replace h := zBr_t c11 h
                        refine lv_tableIn (pc := 1) (off := 261) (tgt := 262) hx hb dX12_wordOf_1 (by rw [c11]; decide) (by rw [c11]; decide) (by rw [c11]; rfl) (by decide) ?_
                        refine lv_bipush (pc := 262) hx hb dX12_wordOf_262 zb_100 ?_
                        refine lv_bipush (pc := 264) hx hb dX12_wordOf_264 zb_97 ?_
                        refine lv_bipush (pc := 266) hx hb dX12_wordOf_266 zb_121 ?_
                        refine lv_iconst (pc := 268) hx hb dX12_wordOf_268 zc_0 ?_
                        refine lv_iconst (pc := 269) hx hb dX12_wordOf_269 zc_0 ?_
                        refine lv_iconst (pc := 270) hx hb dX12_wordOf_270 zc_0 ?_
                        refine lv_iconst (pc := 271) hx hb dX12_wordOf_271 zc_0 ?_
                        obtain ⟨r43, k42, h⟩ := zBd_e h
                        refine zr_SJ (pc := 272) (rest := []) cx cv_X12_58 (mX12_spelt k42) ⟨⟨rfl, rfl⟩, Nat.le_of_ble_eq_true rfl, Nat.le_of_ble_eq_true rfl⟩ ⟨Nat.le_of_ble_eq_true rfl, Nat.le_of_ble_eq_true rfl⟩ (zr_preK cx) hl.1 rfl rfl (Nat.le_of_ble_eq_true rfl) dX12_wordOf_272 ?_
                        have hz := Option.some.inj h
                        exact zr_reJ (pc := 275) cx hr hlk hz dX12_wordOf_275
                      · replace h := zBr_f c11 h
                        by_cases c12 : v0 = 11
                        · replace h := zBr_t c12 h
                          refine lv_tableIn (pc := 1) (off := 275) (tgt := 276) hx hb dX12_wordOf_1 (by rw [c12]; decide) (by rw [c12]; decide) (by rw [c12]; rfl) (by decide) ?_
                          refine lv_bipush (pc := 276) hx hb dX12_wordOf_276 zb_111 ?_
                          refine lv_bipush (pc := 278) hx hb dX12_wordOf_278 zb_114 ?_
                          refine lv_iconst (pc := 280) hx hb dX12_wordOf_280 zc_0 ?_
                          refine lv_iconst (pc := 281) hx hb dX12_wordOf_281 zc_0 ?_
                          refine lv_iconst (pc := 282) hx hb dX12_wordOf_282 zc_0 ?_
                          refine lv_iconst (pc := 283) hx hb dX12_wordOf_283 zc_0 ?_
                          refine lv_iconst (pc := 284) hx hb dX12_wordOf_284 zc_0 ?_
                          obtain ⟨r45, k44, h⟩ := zBd_e h
                          refine zr_SJ (pc := 285) (rest := []) cx cv_X12_58 (mX12_spelt k44) ⟨⟨rfl, rfl⟩, Nat.le_of_ble_eq_true rfl, Nat.le_of_ble_eq_true rfl⟩ ⟨Nat.le_of_ble_eq_true rfl, Nat.le_of_ble_eq_true rfl⟩ (zr_preK cx) hl.1 rfl rfl (Nat.le_of_ble_eq_true rfl) dX12_wordOf_285 ?_
                          have hz := Option.some.inj h
                          exact zr_reJ (pc := 288) cx hr hlk hz dX12_wordOf_288
                        · replace h := zBr_f c12 h
                          by_cases c13 : v0 = 12
                          · replace h := zBr_t c13 h
                            refine lv_tableIn (pc := 1) (off := 288) (tgt := 289) hx hb dX12_wordOf_1 (by rw [c13]; decide) (by rw [c13]; decide) (by rw [c13]; rfl) (by decide) ?_
                            refine lv_bipush (pc := 289) hx hb dX12_wordOf_289 zb_97 ?_
                            refine lv_bipush (pc := 291) hx hb dX12_wordOf_291 zb_110 ?_
                            refine lv_bipush (pc := 293) hx hb dX12_wordOf_293 zb_100 ?_
                            refine lv_iconst (pc := 295) hx hb dX12_wordOf_295 zc_0 ?_
                            refine lv_iconst (pc := 296) hx hb dX12_wordOf_296 zc_0 ?_
                            refine lv_iconst (pc := 297) hx hb dX12_wordOf_297 zc_0 ?_
                            refine lv_iconst (pc := 298) hx hb dX12_wordOf_298 zc_0 ?_
                            obtain ⟨r47, k46, h⟩ := zBd_e h
                            refine zr_SJ (pc := 299) (rest := []) cx cv_X12_58 (mX12_spelt k46) ⟨⟨rfl, rfl⟩, Nat.le_of_ble_eq_true rfl, Nat.le_of_ble_eq_true rfl⟩ ⟨Nat.le_of_ble_eq_true rfl, Nat.le_of_ble_eq_true rfl⟩ (zr_preK cx) hl.1 rfl rfl (Nat.le_of_ble_eq_true rfl) dX12_wordOf_299 ?_
                            have hz := Option.some.inj h
                            exact zr_reJ (pc := 302) cx hr hlk hz dX12_wordOf_302
                          · replace h := zBr_f c13 h
                            by_cases c14 : v0 = 13
                            · replace h := zBr_t c14 h
                              refine lv_tableIn (pc := 1) (off := 302) (tgt := 303) hx hb dX12_wordOf_1 (by rw [c14]; decide) (by rw [c14]; decide) (by rw [c14]; rfl) (by decide) ?_
                              refine lv_bipush (pc := 303) hx hb dX12_wordOf_303 zb_110 ?_
                              refine lv_bipush (pc := 305) hx hb dX12_wordOf_305 zb_111 ?_
                              refine lv_bipush (pc := 307) hx hb dX12_wordOf_307 zb_116 ?_
                              refine lv_iconst (pc := 309) hx hb dX12_wordOf_309 zc_0 ?_
                              refine lv_iconst (pc := 310) hx hb dX12_wordOf_310 zc_0 ?_
                              refine lv_iconst (pc := 311) hx hb dX12_wordOf_311 zc_0 ?_
                              refine lv_iconst (pc := 312) hx hb dX12_wordOf_312 zc_0 ?_
                              obtain ⟨r49, k48, h⟩ := zBd_e h
                              refine zr_SJ (pc := 313) (rest := []) cx cv_X12_58 (mX12_spelt k48) ⟨⟨rfl, rfl⟩, Nat.le_of_ble_eq_true rfl, Nat.le_of_ble_eq_true rfl⟩ ⟨Nat.le_of_ble_eq_true rfl, Nat.le_of_ble_eq_true rfl⟩ (zr_preK cx) hl.1 rfl rfl (Nat.le_of_ble_eq_true rfl) dX12_wordOf_313 ?_
                              have hz := Option.some.inj h
                              exact zr_reJ (pc := 316) cx hr hlk hz dX12_wordOf_316
                            · replace h := zBr_f c14 h
                              by_cases c15 : v0 = 14
                              · replace h := zBr_t c15 h
                                refine lv_tableIn (pc := 1) (off := 316) (tgt := 317) hx hb dX12_wordOf_1 (by rw [c15]; decide) (by rw [c15]; decide) (by rw [c15]; rfl) (by decide) ?_
                                refine lv_bipush (pc := 317) hx hb dX12_wordOf_317 zb_98 ?_
                                refine lv_bipush (pc := 319) hx hb dX12_wordOf_319 zb_108 ?_
                                refine lv_bipush (pc := 321) hx hb dX12_wordOf_321 zb_105 ?_
                                refine lv_bipush (pc := 323) hx hb dX12_wordOf_323 zb_110 ?_
                                refine lv_bipush (pc := 325) hx hb dX12_wordOf_325 zb_100 ?_
                                refine lv_iconst (pc := 327) hx hb dX12_wordOf_327 zc_0 ?_
                                refine lv_iconst (pc := 328) hx hb dX12_wordOf_328 zc_0 ?_
                                obtain ⟨r51, k50, h⟩ := zBd_e h
                                refine zr_SJ (pc := 329) (rest := []) cx cv_X12_58 (mX12_spelt k50) ⟨⟨rfl, rfl⟩, Nat.le_of_ble_eq_true rfl, Nat.le_of_ble_eq_true rfl⟩ ⟨Nat.le_of_ble_eq_true rfl, Nat.le_of_ble_eq_true rfl⟩ (zr_preK cx) hl.1 rfl rfl (Nat.le_of_ble_eq_true rfl) dX12_wordOf_329 ?_
                                have hz := Option.some.inj h
                                exact zr_reJ (pc := 332) cx hr hlk hz dX12_wordOf_332
                              · replace h := zBr_f c15 h
                                by_cases c16 : v0 = 15
                                · replace h := zBr_t c16 h
                                  refine lv_tableIn (pc := 1) (off := 332) (tgt := 333) hx hb dX12_wordOf_1 (by rw [c16]; decide) (by rw [c16]; decide) (by rw [c16]; rfl) (by decide) ?_
                                  refine lv_bipush (pc := 333) hx hb dX12_wordOf_333 zb_102 ?_
                                  refine lv_bipush (pc := 335) hx hb dX12_wordOf_335 zb_101 ?_
                                  refine lv_bipush (pc := 337) hx hb dX12_wordOf_337 zb_114 ?_
                                  refine lv_bipush (pc := 339) hx hb dX12_wordOf_339 zb_110 ?_
                                  refine lv_iconst (pc := 341) hx hb dX12_wordOf_341 zc_0 ?_
                                  refine lv_iconst (pc := 342) hx hb dX12_wordOf_342 zc_0 ?_
                                  refine lv_iconst (pc := 343) hx hb dX12_wordOf_343 zc_0 ?_
                                  obtain ⟨r53, k52, h⟩ := zBd_e h
                                  refine zr_SJ (pc := 344) (rest := []) cx cv_X12_58 (mX12_spelt k52) ⟨⟨rfl, rfl⟩, Nat.le_of_ble_eq_true rfl, Nat.le_of_ble_eq_true rfl⟩ ⟨Nat.le_of_ble_eq_true rfl, Nat.le_of_ble_eq_true rfl⟩ (zr_preK cx) hl.1 rfl rfl (Nat.le_of_ble_eq_true rfl) dX12_wordOf_344 ?_
                                  have hz := Option.some.inj h
                                  exact zr_reJ (pc := 347) cx hr hlk hz dX12_wordOf_347
                                · replace h := zBr_f c16 h
                                  by_cases c17 : v0 = 16
                                  · replace h := zBr_t c17 h
                                    refine lv_tableIn (pc := 1) (off := 347) (tgt := 348) hx hb dX12_wordOf_1 (by rw [c17]; decide) (by rw [c17]; decide) (by rw [c17]; rfl) (by decide) ?_
                                    refine lv_bipush (pc := 348) hx hb dX12_wordOf_348 zb_105 ?_
                                    refine lv_bipush (pc := 350) hx hb dX12_wordOf_350 zb_110 ?_
                                    refine lv_iconst (pc := 352) hx hb dX12_wordOf_352 zc_0 ?_
                                    refine lv_iconst (pc := 353) hx hb dX12_wordOf_353 zc_0 ?_
                                    refine lv_iconst (pc := 354) hx hb dX12_wordOf_354 zc_0 ?_
                                    refine lv_iconst (pc := 355) hx hb dX12_wordOf_355 zc_0 ?_
                                    refine lv_iconst (pc := 356) hx hb dX12_wordOf_356 zc_0 ?_
                                    obtain ⟨r55, k54, h⟩ := zBd_e h
                                    refine zr_SJ (pc := 357) (rest := []) cx cv_X12_58 (mX12_spelt k54) ⟨⟨rfl, rfl⟩, Nat.le_of_ble_eq_true rfl, Nat.le_of_ble_eq_true rfl⟩ ⟨Nat.le_of_ble_eq_true rfl, Nat.le_of_ble_eq_true rfl⟩ (zr_preK cx) hl.1 rfl rfl (Nat.le_of_ble_eq_true rfl) dX12_wordOf_357 ?_
                                    have hz := Option.some.inj h
                                    exact zr_reJ (pc := 360) cx hr hlk hz dX12_wordOf_360
                                  · replace h := zBr_f c17 h
                                    by_cases c18 : v0 = 17
                                    · replace h := zBr_t c18 h
                                      refine lv_tableIn (pc := 1) (off := 360) (tgt := 361) hx hb dX12_wordOf_1 (by rw [c18]; decide) (by rw [c18]; decide) (by rw [c18]; rfl) (by decide) ?_
                                      refine lv_bipush (pc := 361) hx hb dX12_wordOf_361 zb_115 ?_
                                      refine lv_bipush (pc := 363) hx hb dX12_wordOf_363 zb_101 ?_
                                      refine lv_bipush (pc := 365) hx hb dX12_wordOf_365 zb_101 ?_
                                      refine lv_bipush (pc := 367) hx hb dX12_wordOf_367 zb_115 ?_
                                      refine lv_iconst (pc := 369) hx hb dX12_wordOf_369 zc_0 ?_
                                      refine lv_iconst (pc := 370) hx hb dX12_wordOf_370 zc_0 ?_
                                      refine lv_iconst (pc := 371) hx hb dX12_wordOf_371 zc_0 ?_
                                      obtain ⟨r57, k56, h⟩ := zBd_e h
                                      refine zr_SJ (pc := 372) (rest := []) cx cv_X12_58 (mX12_spelt k56) ⟨⟨rfl, rfl⟩, Nat.le_of_ble_eq_true rfl, Nat.le_of_ble_eq_true rfl⟩ ⟨Nat.le_of_ble_eq_true rfl, Nat.le_of_ble_eq_true rfl⟩ (zr_preK cx) hl.1 rfl rfl (Nat.le_of_ble_eq_true rfl) dX12_wordOf_372 ?_
                                      have hz := Option.some.inj h
                                      exact zr_reJ (pc := 375) cx hr hlk hz dX12_wordOf_375
                                    · replace h := zBr_f c18 h
                                      by_cases c19 : v0 = 18
                                      · replace h := zBr_t c19 h
                                        refine lv_tableIn (pc := 1) (off := 375) (tgt := 376) hx hb dX12_wordOf_1 (by rw [c19]; decide) (by rw [c19]; decide) (by rw [c19]; rfl) (by decide) ?_
                                        refine lv_bipush (pc := 376) hx hb dX12_wordOf_376 zb_116 ?_
                                        refine lv_bipush (pc := 378) hx hb dX12_wordOf_378 zb_101 ?_
                                        refine lv_bipush (pc := 380) hx hb dX12_wordOf_380 zb_108 ?_
                                        refine lv_bipush (pc := 382) hx hb dX12_wordOf_382 zb_108 ?_
                                        refine lv_bipush (pc := 384) hx hb dX12_wordOf_384 zb_115 ?_
                                        refine lv_iconst (pc := 386) hx hb dX12_wordOf_386 zc_0 ?_
                                        refine lv_iconst (pc := 387) hx hb dX12_wordOf_387 zc_0 ?_
                                        obtain ⟨r59, k58, h⟩ := zBd_e h
                                        refine zr_SJ (pc := 388) (rest := []) cx cv_X12_58 (mX12_spelt k58) ⟨⟨rfl, rfl⟩, Nat.le_of_ble_eq_true rfl, Nat.le_of_ble_eq_true rfl⟩ ⟨Nat.le_of_ble_eq_true rfl, Nat.le_of_ble_eq_true rfl⟩ (zr_preK cx) hl.1 rfl rfl (Nat.le_of_ble_eq_true rfl) dX12_wordOf_388 ?_
                                        have hz := Option.some.inj h
                                        exact zr_reJ (pc := 391) cx hr hlk hz dX12_wordOf_391
                                      · replace h := zBr_f c19 h
                                        by_cases c20 : v0 = 19
                                        · replace h := zBr_t c20 h
                                          refine lv_tableIn (pc := 1) (off := 391) (tgt := 392) hx hb dX12_wordOf_1 (by rw [c20]; decide) (by rw [c20]; decide) (by rw [c20]; rfl) (by decide) ?_
                                          refine lv_bipush (pc := 392) hx hb dX12_wordOf_392 zb_108 ?_
                                          refine lv_bipush (pc := 394) hx hb dX12_wordOf_394 zb_101 ?_
                                          refine lv_bipush (pc := 396) hx hb dX12_wordOf_396 zb_97 ?_
                                          refine lv_bipush (pc := 398) hx hb dX12_wordOf_398 zb_118 ?_
                                          refine lv_bipush (pc := 400) hx hb dX12_wordOf_400 zb_101 ?_
                                          refine lv_bipush (pc := 402) hx hb dX12_wordOf_402 zb_115 ?_
                                          refine lv_iconst (pc := 404) hx hb dX12_wordOf_404 zc_0 ?_
                                          obtain ⟨r61, k60, h⟩ := zBd_e h
                                          refine zr_SJ (pc := 405) (rest := []) cx cv_X12_58 (mX12_spelt k60) ⟨⟨rfl, rfl⟩, Nat.le_of_ble_eq_true rfl, Nat.le_of_ble_eq_true rfl⟩ ⟨Nat.le_of_ble_eq_true rfl, Nat.le_of_ble_eq_true rfl⟩ (zr_preK cx) hl.1 rfl rfl (Nat.le_of_ble_eq_true rfl) dX12_wordOf_405 ?_
                                          have hz := Option.some.inj h
                                          exact zr_reJ (pc := 408) cx hr hlk hz dX12_wordOf_408
                                        · replace h := zBr_f c20 h
                                          by_cases c21 : v0 = 20
                                          · replace h := zBr_t c21 h
                                            refine lv_tableIn (pc := 1) (off := 408) (tgt := 409) hx hb dX12_wordOf_1 (by rw [c21]; decide) (by rw [c21]; decide) (by rw [c21]; rfl) (by decide) ?_
                                            refine lv_bipush (pc := 409) hx hb dX12_wordOf_409 zb_100 ?_
                                            refine lv_bipush (pc := 411) hx hb dX12_wordOf_411 zb_117 ?_
                                            refine lv_bipush (pc := 413) hx hb dX12_wordOf_413 zb_115 ?_
                                            refine lv_bipush (pc := 415) hx hb dX12_wordOf_415 zb_116 ?_
                                            refine lv_iconst (pc := 417) hx hb dX12_wordOf_417 zc_0 ?_
                                            refine lv_iconst (pc := 418) hx hb dX12_wordOf_418 zc_0 ?_
                                            refine lv_iconst (pc := 419) hx hb dX12_wordOf_419 zc_0 ?_
                                            obtain ⟨r63, k62, h⟩ := zBd_e h
                                            refine zr_SJ (pc := 420) (rest := []) cx cv_X12_58 (mX12_spelt k62) ⟨⟨rfl, rfl⟩, Nat.le_of_ble_eq_true rfl, Nat.le_of_ble_eq_true rfl⟩ ⟨Nat.le_of_ble_eq_true rfl, Nat.le_of_ble_eq_true rfl⟩ (zr_preK cx) hl.1 rfl rfl (Nat.le_of_ble_eq_true rfl) dX12_wordOf_420 ?_
                                            have hz := Option.some.inj h
                                            exact zr_reJ (pc := 423) cx hr hlk hz dX12_wordOf_423
                                          · replace h := zBr_f c21 h
                                            refine zr_tsD (pc := 1) (tgt := 424) hx hb dX12_wordOf_1 (fun h1 h2 => ?_) (by decide) ?_
                                            · rcases (show (v0).toInt = 0 ∨ (v0).toInt = 1 ∨ (v0).toInt = 2 ∨ (v0).toInt = 3 ∨ (v0).toInt = 4 ∨ (v0).toInt = 5 ∨ (v0).toInt = 6 ∨ (v0).toInt = 7 ∨ (v0).toInt = 8 ∨ (v0).toInt = 9 ∨ (v0).toInt = 10 ∨ (v0).toInt = 11 ∨ (v0).toInt = 12 ∨ (v0).toInt = 13 ∨ (v0).toInt = 14 ∨ (v0).toInt = 15 ∨ (v0).toInt = 16 ∨ (v0).toInt = 17 ∨ (v0).toInt = 18 ∨ (v0).toInt = 19 ∨ (v0).toInt = 20 by omega) with e9 | e9 | e9 | e9 | e9 | e9 | e9 | e9 | e9 | e9 | e9 | e9 | e9 | e9 | e9 | e9 | e9 | e9 | e9 | e9 | e9
                                              · exact absurd (Int32.toInt_inj.mp (e9.trans (by decide))) c1
                                              · exact absurd (Int32.toInt_inj.mp (e9.trans (by decide))) c2
                                              · exact absurd (Int32.toInt_inj.mp (e9.trans (by decide))) c3
                                              · exact absurd (Int32.toInt_inj.mp (e9.trans (by decide))) c4
                                              · exact absurd (Int32.toInt_inj.mp (e9.trans (by decide))) c5
                                              · exact absurd (Int32.toInt_inj.mp (e9.trans (by decide))) c6
                                              · exact absurd (Int32.toInt_inj.mp (e9.trans (by decide))) c7
                                              · exact absurd (Int32.toInt_inj.mp (e9.trans (by decide))) c8
                                              · exact absurd (Int32.toInt_inj.mp (e9.trans (by decide))) c9
                                              · exact absurd (Int32.toInt_inj.mp (e9.trans (by decide))) c10
                                              · exact absurd (Int32.toInt_inj.mp (e9.trans (by decide))) c11
                                              · exact absurd (Int32.toInt_inj.mp (e9.trans (by decide))) c12
                                              · exact absurd (Int32.toInt_inj.mp (e9.trans (by decide))) c13
                                              · exact absurd (Int32.toInt_inj.mp (e9.trans (by decide))) c14
                                              · exact absurd (Int32.toInt_inj.mp (e9.trans (by decide))) c15
                                              · exact absurd (Int32.toInt_inj.mp (e9.trans (by decide))) c16
                                              · exact absurd (Int32.toInt_inj.mp (e9.trans (by decide))) c17
                                              · exact absurd (Int32.toInt_inj.mp (e9.trans (by decide))) c18
                                              · exact absurd (Int32.toInt_inj.mp (e9.trans (by decide))) c19
                                              · exact absurd (Int32.toInt_inj.mp (e9.trans (by decide))) c20
                                              · exact absurd (Int32.toInt_inj.mp (e9.trans (by decide))) c21
                                            · skip
                                              refine lv_bipush (pc := 424) hx hb dX12_wordOf_424 zb_110 ?_
                                              refine lv_bipush (pc := 426) hx hb dX12_wordOf_426 zb_117 ?_
                                              refine lv_bipush (pc := 428) hx hb dX12_wordOf_428 zb_109 ?_
                                              refine lv_bipush (pc := 430) hx hb dX12_wordOf_430 zb_98 ?_
                                              refine lv_bipush (pc := 432) hx hb dX12_wordOf_432 zb_101 ?_
                                              refine lv_bipush (pc := 434) hx hb dX12_wordOf_434 zb_114 ?_
                                              refine lv_iconst (pc := 436) hx hb dX12_wordOf_436 zc_0 ?_
                                              obtain ⟨r65, k64, h⟩ := zBd_e h
                                              refine zr_SJ (pc := 437) (rest := []) cx cv_X12_58 (mX12_spelt k64) ⟨⟨rfl, rfl⟩, Nat.le_of_ble_eq_true rfl, Nat.le_of_ble_eq_true rfl⟩ ⟨Nat.le_of_ble_eq_true rfl, Nat.le_of_ble_eq_true rfl⟩ (zr_preK cx) hl.1 rfl rfl (Nat.le_of_ble_eq_true rfl) dX12_wordOf_437 ?_
                                              have hz := Option.some.inj h
                                              exact zr_reJ (pc := 440) cx hr hlk hz dX12_wordOf_440
