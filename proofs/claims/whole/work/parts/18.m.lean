theorem wd_1511 : (Jvm.Cond.fieldLink "ParlourLeavesModel" (133 : Nat) "ParlourLeavesModel" "covering" "I") ∈ zTB := List.mem_filter.mpr ⟨List.mem_append_right _ (List.mem_append_right _ (List.mem_append_right _ (List.mem_append_right _ (List.mem_append_right _ (List.mem_append_right _ (List.mem_append_right _ (List.mem_append_left _ (List.mem_of_getElem? (i := 71) rfl)))))))), rfl⟩
theorem wd_1516 : (Jvm.Cond.fieldLink "ParlourLeavesModel" (330 : Nat) "ParlourLeavesModel" "hasChosen" "Z") ∈ zTB := List.mem_filter.mpr ⟨List.mem_append_right _ (List.mem_append_right _ (List.mem_append_right _ (List.mem_append_right _ (List.mem_append_right _ (List.mem_append_right _ (List.mem_append_right _ (List.mem_append_left _ (List.mem_of_getElem? (i := 76) rfl)))))))), rfl⟩
theorem wd_1520 : (Jvm.Cond.fieldLink "ParlourLeavesModel" (350 : Nat) "ParlourLeavesModel" "seed" "I") ∈ zTB := List.mem_filter.mpr ⟨List.mem_append_right _ (List.mem_append_right _ (List.mem_append_right _ (List.mem_append_right _ (List.mem_append_right _ (List.mem_append_right _ (List.mem_append_right _ (List.mem_append_left _ (List.mem_of_getElem? (i := 80) rfl)))))))), rfl⟩
theorem wd_1756 : (Jvm.Cond.methodLink "ParlourLeavesModel" (253 : Nat) ({ cls := "ParlourLeavesModel", name := "shownBy", desc := "(IZ)I" } : Jvm.MethodName)) ∈ zTB := List.mem_filter.mpr ⟨List.mem_append_right _ (List.mem_append_right _ (List.mem_append_right _ (List.mem_append_right _ (List.mem_append_right _ (List.mem_append_right _ (List.mem_append_right _ (List.mem_append_right _ (List.mem_append_left _ (List.mem_of_getElem? (i := 76) rfl))))))))), rfl⟩
theorem wd_1758 : (Jvm.Cond.instanceMethod ({ cls := "ParlourLeavesModel", name := "shownBy", desc := "(IZ)I" } : Jvm.MethodName)) ∈ zTB := List.mem_filter.mpr ⟨List.mem_append_right _ (List.mem_append_right _ (List.mem_append_right _ (List.mem_append_right _ (List.mem_append_right _ (List.mem_append_right _ (List.mem_append_right _ (List.mem_append_right _ (List.mem_append_left _ (List.mem_of_getElem? (i := 78) rfl))))))))), rfl⟩
theorem wd_1759 : (Jvm.Cond.code ({ cls := "ParlourLeavesModel", name := "shownBy", desc := "(IZ)I" } : Jvm.MethodName) prog_14_method_52_code (5 : Nat) (Option.some Jvm.ClassFile.FieldType.int)) ∈ zTB := List.mem_filter.mpr ⟨List.mem_append_right _ (List.mem_append_right _ (List.mem_append_right _ (List.mem_append_right _ (List.mem_append_right _ (List.mem_append_right _ (List.mem_append_right _ (List.mem_append_right _ (List.mem_append_left _ (List.mem_of_getElem? (i := 79) rfl))))))))), rfl⟩
theorem wd_1811 : (Jvm.Cond.methodLink "ParlourLeavesModel" (265 : Nat) ({ cls := "ParlourLeavesModel", name := "unseen", desc := "(I)I" } : Jvm.MethodName)) ∈ zTB := List.mem_filter.mpr ⟨List.mem_append_right _ (List.mem_append_right _ (List.mem_append_right _ (List.mem_append_right _ (List.mem_append_right _ (List.mem_append_right _ (List.mem_append_right _ (List.mem_append_right _ (List.mem_append_left _ (List.mem_of_getElem? (i := 131) rfl))))))))), rfl⟩
theorem wd_1813 : (Jvm.Cond.instanceMethod ({ cls := "ParlourLeavesModel", name := "unseen", desc := "(I)I" } : Jvm.MethodName)) ∈ zTB := List.mem_filter.mpr ⟨List.mem_append_right _ (List.mem_append_right _ (List.mem_append_right _ (List.mem_append_right _ (List.mem_append_right _ (List.mem_append_right _ (List.mem_append_right _ (List.mem_append_right _ (List.mem_append_left _ (List.mem_of_getElem? (i := 133) rfl))))))))), rfl⟩
theorem wd_1814 : (Jvm.Cond.code ({ cls := "ParlourLeavesModel", name := "unseen", desc := "(I)I" } : Jvm.MethodName) prog_14_method_60_code (4 : Nat) (Option.some Jvm.ClassFile.FieldType.int)) ∈ zTB := List.mem_filter.mpr ⟨List.mem_append_right _ (List.mem_append_right _ (List.mem_append_right _ (List.mem_append_right _ (List.mem_append_right _ (List.mem_append_right _ (List.mem_append_right _ (List.mem_append_right _ (List.mem_append_left _ (List.mem_of_getElem? (i := 134) rfl))))))))), rfl⟩
theorem wd_1819 : (Jvm.Cond.methodLink "ParlourLeavesModel" (286 : Nat) ({ cls := "ParlourLeavesModel", name := "isPerson", desc := "(I)Z" } : Jvm.MethodName)) ∈ zTB := List.mem_filter.mpr ⟨List.mem_append_right _ (List.mem_append_right _ (List.mem_append_right _ (List.mem_append_right _ (List.mem_append_right _ (List.mem_append_right _ (List.mem_append_right _ (List.mem_append_right _ (List.mem_append_left _ (List.mem_of_getElem? (i := 139) rfl))))))))), rfl⟩
theorem wd_1821 : (Jvm.Cond.instanceMethod ({ cls := "ParlourLeavesModel", name := "isPerson", desc := "(I)Z" } : Jvm.MethodName)) ∈ zTB := List.mem_filter.mpr ⟨List.mem_append_right _ (List.mem_append_right _ (List.mem_append_right _ (List.mem_append_right _ (List.mem_append_right _ (List.mem_append_right _ (List.mem_append_right _ (List.mem_append_right _ (List.mem_append_left _ (List.mem_of_getElem? (i := 141) rfl))))))))), rfl⟩
theorem wd_1822 : (Jvm.Cond.code ({ cls := "ParlourLeavesModel", name := "isPerson", desc := "(I)Z" } : Jvm.MethodName) prog_14_method_43_code (2 : Nat) (Option.some Jvm.ClassFile.FieldType.boolean)) ∈ zTB := List.mem_filter.mpr ⟨List.mem_append_right _ (List.mem_append_right _ (List.mem_append_right _ (List.mem_append_right _ (List.mem_append_right _ (List.mem_append_right _ (List.mem_append_right _ (List.mem_append_right _ (List.mem_append_left _ (List.mem_of_getElem? (i := 142) rfl))))))))), rfl⟩
theorem wd_1823 : (Jvm.Cond.methodLink "ParlourLeavesModel" (289 : Nat) ({ cls := "ParlourLeavesModel", name := "isDeed", desc := "(I)Z" } : Jvm.MethodName)) ∈ zTB := List.mem_filter.mpr ⟨List.mem_append_right _ (List.mem_append_right _ (List.mem_append_right _ (List.mem_append_right _ (List.mem_append_right _ (List.mem_append_right _ (List.mem_append_right _ (List.mem_append_right _ (List.mem_append_left _ (List.mem_of_getElem? (i := 143) rfl))))))))), rfl⟩
theorem wd_1825 : (Jvm.Cond.instanceMethod ({ cls := "ParlourLeavesModel", name := "isDeed", desc := "(I)Z" } : Jvm.MethodName)) ∈ zTB := List.mem_filter.mpr ⟨List.mem_append_right _ (List.mem_append_right _ (List.mem_append_right _ (List.mem_append_right _ (List.mem_append_right _ (List.mem_append_right _ (List.mem_append_right _ (List.mem_append_right _ (List.mem_append_left _ (List.mem_of_getElem? (i := 145) rfl))))))))), rfl⟩
theorem wd_1826 : (Jvm.Cond.code ({ cls := "ParlourLeavesModel", name := "isDeed", desc := "(I)Z" } : Jvm.MethodName) prog_14_method_44_code (2 : Nat) (Option.some Jvm.ClassFile.FieldType.boolean)) ∈ zTB := List.mem_filter.mpr ⟨List.mem_append_right _ (List.mem_append_right _ (List.mem_append_right _ (List.mem_append_right _ (List.mem_append_right _ (List.mem_append_right _ (List.mem_append_right _ (List.mem_append_right _ (List.mem_append_left _ (List.mem_of_getElem? (i := 146) rfl))))))))), rfl⟩
theorem wd_1898 : (Jvm.Cond.constant "ParlourLeavesModel" (305 : Nat) (100000 : Int32)) ∈ zTB := List.mem_filter.mpr ⟨List.mem_append_right _ (List.mem_append_right _ (List.mem_append_right _ (List.mem_append_right _ (List.mem_append_right _ (List.mem_append_right _ (List.mem_append_right _ (List.mem_append_right _ (List.mem_append_left _ (List.mem_of_getElem? (i := 218) rfl))))))))), rfl⟩
theorem wd_1910 : (Jvm.Cond.methodLink "ParlourLeavesModel" (308 : Nat) ({ cls := "ParlourLeavesModel", name := "seenFrom", desc := "(I)I" } : Jvm.MethodName)) ∈ zTB := List.mem_filter.mpr ⟨List.mem_append_right _ (List.mem_append_right _ (List.mem_append_right _ (List.mem_append_right _ (List.mem_append_right _ (List.mem_append_right _ (List.mem_append_right _ (List.mem_append_right _ (List.mem_append_left _ (List.mem_of_getElem? (i := 230) rfl))))))))), rfl⟩
theorem wd_1912 : (Jvm.Cond.instanceMethod ({ cls := "ParlourLeavesModel", name := "seenFrom", desc := "(I)I" } : Jvm.MethodName)) ∈ zTB := List.mem_filter.mpr ⟨List.mem_append_right _ (List.mem_append_right _ (List.mem_append_right _ (List.mem_append_right _ (List.mem_append_right _ (List.mem_append_right _ (List.mem_append_right _ (List.mem_append_right _ (List.mem_append_left _ (List.mem_of_getElem? (i := 232) rfl))))))))), rfl⟩
theorem wd_1913 : (Jvm.Cond.code ({ cls := "ParlourLeavesModel", name := "seenFrom", desc := "(I)I" } : Jvm.MethodName) prog_14_method_81_code (4 : Nat) (Option.some Jvm.ClassFile.FieldType.int)) ∈ zTB := List.mem_filter.mpr ⟨List.mem_append_right _ (List.mem_append_right _ (List.mem_append_right _ (List.mem_append_right _ (List.mem_append_right _ (List.mem_append_right _ (List.mem_append_right _ (List.mem_append_right _ (List.mem_append_left _ (List.mem_of_getElem? (i := 233) rfl))))))))), rfl⟩
theorem wd_1937 : (Jvm.Cond.methodLink "ParlourLeavesModel" (323 : Nat) ({ cls := "ParlourLeavesModel", name := "fewestSee", desc := "()I" } : Jvm.MethodName)) ∈ zTB := List.mem_filter.mpr ⟨List.mem_append_right _ (List.mem_append_right _ (List.mem_append_right _ (List.mem_append_right _ (List.mem_append_right _ (List.mem_append_right _ (List.mem_append_right _ (List.mem_append_right _ (List.mem_append_right _ (List.mem_of_getElem? (i := 17) rfl))))))))), rfl⟩
theorem wd_1939 : (Jvm.Cond.instanceMethod ({ cls := "ParlourLeavesModel", name := "fewestSee", desc := "()I" } : Jvm.MethodName)) ∈ zTB := List.mem_filter.mpr ⟨List.mem_append_right _ (List.mem_append_right _ (List.mem_append_right _ (List.mem_append_right _ (List.mem_append_right _ (List.mem_append_right _ (List.mem_append_right _ (List.mem_append_right _ (List.mem_append_right _ (List.mem_of_getElem? (i := 19) rfl))))))))), rfl⟩
theorem wd_1940 : (Jvm.Cond.code ({ cls := "ParlourLeavesModel", name := "fewestSee", desc := "()I" } : Jvm.MethodName) prog_14_method_88_code (5 : Nat) (Option.some Jvm.ClassFile.FieldType.int)) ∈ zTB := List.mem_filter.mpr ⟨List.mem_append_right _ (List.mem_append_right _ (List.mem_append_right _ (List.mem_append_right _ (List.mem_append_right _ (List.mem_append_right _ (List.mem_append_right _ (List.mem_append_right _ (List.mem_append_right _ (List.mem_of_getElem? (i := 20) rfl))))))))), rfl⟩
theorem wd_1941 : (Jvm.Cond.methodLink "ParlourLeavesModel" (326 : Nat) ({ cls := "ParlourLeavesModel", name := "choose", desc := "(II)V" } : Jvm.MethodName)) ∈ zTB := List.mem_filter.mpr ⟨List.mem_append_right _ (List.mem_append_right _ (List.mem_append_right _ (List.mem_append_right _ (List.mem_append_right _ (List.mem_append_right _ (List.mem_append_right _ (List.mem_append_right _ (List.mem_append_right _ (List.mem_of_getElem? (i := 21) rfl))))))))), rfl⟩
theorem wd_1943 : (Jvm.Cond.instanceMethod ({ cls := "ParlourLeavesModel", name := "choose", desc := "(II)V" } : Jvm.MethodName)) ∈ zTB := List.mem_filter.mpr ⟨List.mem_append_right _ (List.mem_append_right _ (List.mem_append_right _ (List.mem_append_right _ (List.mem_append_right _ (List.mem_append_right _ (List.mem_append_right _ (List.mem_append_right _ (List.mem_append_right _ (List.mem_of_getElem? (i := 23) rfl))))))))), rfl⟩
theorem wd_1944 : (Jvm.Cond.code ({ cls := "ParlourLeavesModel", name := "choose", desc := "(II)V" } : Jvm.MethodName) prog_14_method_89_code (3 : Nat) (Option.none : Option Jvm.ClassFile.FieldType)) ∈ zTB := List.mem_filter.mpr ⟨List.mem_append_right _ (List.mem_append_right _ (List.mem_append_right _ (List.mem_append_right _ (List.mem_append_right _ (List.mem_append_right _ (List.mem_append_right _ (List.mem_append_right _ (List.mem_append_right _ (List.mem_of_getElem? (i := 24) rfl))))))))), rfl⟩
theorem wd_1981 : (Jvm.Cond.methodLink "ParlourLeavesModel" (360 : Nat) ({ cls := "ParlourLeavesModel", name := "drawDays", desc := "(II)I" } : Jvm.MethodName)) ∈ zTB := List.mem_filter.mpr ⟨List.mem_append_right _ (List.mem_append_right _ (List.mem_append_right _ (List.mem_append_right _ (List.mem_append_right _ (List.mem_append_right _ (List.mem_append_right _ (List.mem_append_right _ (List.mem_append_right _ (List.mem_of_getElem? (i := 61) rfl))))))))), rfl⟩
theorem wd_1983 : (Jvm.Cond.instanceMethod ({ cls := "ParlourLeavesModel", name := "drawDays", desc := "(II)I" } : Jvm.MethodName)) ∈ zTB := List.mem_filter.mpr ⟨List.mem_append_right _ (List.mem_append_right _ (List.mem_append_right _ (List.mem_append_right _ (List.mem_append_right _ (List.mem_append_right _ (List.mem_append_right _ (List.mem_append_right _ (List.mem_append_right _ (List.mem_of_getElem? (i := 63) rfl))))))))), rfl⟩
theorem wd_1984 : (Jvm.Cond.code ({ cls := "ParlourLeavesModel", name := "drawDays", desc := "(II)I" } : Jvm.MethodName) prog_14_method_101_code (6 : Nat) (Option.some Jvm.ClassFile.FieldType.int)) ∈ zTB := List.mem_filter.mpr ⟨List.mem_append_right _ (List.mem_append_right _ (List.mem_append_right _ (List.mem_append_right _ (List.mem_append_right _ (List.mem_append_right _ (List.mem_append_right _ (List.mem_append_right _ (List.mem_append_right _ (List.mem_of_getElem? (i := 64) rfl))))))))), rfl⟩
theorem wd_1985 : (Jvm.Cond.methodLink "ParlourLeavesModel" (357 : Nat) ({ cls := "ParlourLeavesModel", name := "drawsFor", desc := "(I)V" } : Jvm.MethodName)) ∈ zTB := List.mem_filter.mpr ⟨List.mem_append_right _ (List.mem_append_right _ (List.mem_append_right _ (List.mem_append_right _ (List.mem_append_right _ (List.mem_append_right _ (List.mem_append_right _ (List.mem_append_right _ (List.mem_append_right _ (List.mem_of_getElem? (i := 65) rfl))))))))), rfl⟩
theorem wd_1987 : (Jvm.Cond.instanceMethod ({ cls := "ParlourLeavesModel", name := "drawsFor", desc := "(I)V" } : Jvm.MethodName)) ∈ zTB := List.mem_filter.mpr ⟨List.mem_append_right _ (List.mem_append_right _ (List.mem_append_right _ (List.mem_append_right _ (List.mem_append_right _ (List.mem_append_right _ (List.mem_append_right _ (List.mem_append_right _ (List.mem_append_right _ (List.mem_of_getElem? (i := 67) rfl))))))))), rfl⟩
theorem wd_1988 : (Jvm.Cond.code ({ cls := "ParlourLeavesModel", name := "drawsFor", desc := "(I)V" } : Jvm.MethodName) prog_14_method_100_code (5 : Nat) (Option.none : Option Jvm.ClassFile.FieldType)) ∈ zTB := List.mem_filter.mpr ⟨List.mem_append_right _ (List.mem_append_right _ (List.mem_append_right _ (List.mem_append_right _ (List.mem_append_right _ (List.mem_append_right _ (List.mem_append_right _ (List.mem_append_right _ (List.mem_append_right _ (List.mem_of_getElem? (i := 68) rfl))))))))), rfl⟩
theorem wd_1989 : (Jvm.Cond.methodLink "ParlourLeavesModel" (354 : Nat) ({ cls := "ParlourLeavesModel", name := "draw", desc := "(I)I" } : Jvm.MethodName)) ∈ zTB := List.mem_filter.mpr ⟨List.mem_append_right _ (List.mem_append_right _ (List.mem_append_right _ (List.mem_append_right _ (List.mem_append_right _ (List.mem_append_right _ (List.mem_append_right _ (List.mem_append_right _ (List.mem_append_right _ (List.mem_of_getElem? (i := 69) rfl))))))))), rfl⟩
theorem wd_1991 : (Jvm.Cond.instanceMethod ({ cls := "ParlourLeavesModel", name := "draw", desc := "(I)I" } : Jvm.MethodName)) ∈ zTB := List.mem_filter.mpr ⟨List.mem_append_right _ (List.mem_append_right _ (List.mem_append_right _ (List.mem_append_right _ (List.mem_append_right _ (List.mem_append_right _ (List.mem_append_right _ (List.mem_append_right _ (List.mem_append_right _ (List.mem_of_getElem? (i := 71) rfl))))))))), rfl⟩
theorem wd_1992 : (Jvm.Cond.code ({ cls := "ParlourLeavesModel", name := "draw", desc := "(I)I" } : Jvm.MethodName) prog_14_method_99_code (2 : Nat) (Option.some Jvm.ClassFile.FieldType.int)) ∈ zTB := List.mem_filter.mpr ⟨List.mem_append_right _ (List.mem_append_right _ (List.mem_append_right _ (List.mem_append_right _ (List.mem_append_right _ (List.mem_append_right _ (List.mem_append_right _ (List.mem_append_right _ (List.mem_append_right _ (List.mem_of_getElem? (i := 72) rfl))))))))), rfl⟩
theorem wd_1993 : (Jvm.Cond.constant "ParlourLeavesModel" (353 : Nat) (1103515245 : Int32)) ∈ zTB := List.mem_filter.mpr ⟨List.mem_append_right _ (List.mem_append_right _ (List.mem_append_right _ (List.mem_append_right _ (List.mem_append_right _ (List.mem_append_right _ (List.mem_append_right _ (List.mem_append_right _ (List.mem_append_right _ (List.mem_of_getElem? (i := 73) rfl))))))))), rfl⟩
theorem wp_6_0 : Cond.selects "ParlourLeavesModel" (⟨"ParlourLeavesModel", "choose", "(II)V"⟩ : MethodName) (⟨"ParlourLeavesModel", "choose", "(II)V"⟩ : MethodName) ∈ zTB := List.mem_filter.mpr ⟨List.mem_append_left _ (List.mem_map.mpr ⟨((⟨"ParlourLeavesModel", "choose", "(II)V"⟩ : MethodName), 45), (List.mem_append_right _ (List.mem_append_right _ (List.mem_append_right _ (List.mem_append_right _ (List.mem_append_right _ (List.mem_append_left _ (List.mem_of_getElem? (i := 0) rfl))))))), rfl⟩), rfl⟩
theorem wp_6_7 : Cond.selects "ParlourLeavesModel" (⟨"ParlourLeavesModel", "draw", "(I)I"⟩ : MethodName) (⟨"ParlourLeavesModel", "draw", "(I)I"⟩ : MethodName) ∈ zTB := List.mem_filter.mpr ⟨List.mem_append_left _ (List.mem_map.mpr ⟨((⟨"ParlourLeavesModel", "draw", "(I)I"⟩ : MethodName), 45), (List.mem_append_right _ (List.mem_append_right _ (List.mem_append_right _ (List.mem_append_right _ (List.mem_append_right _ (List.mem_append_left _ (List.mem_of_getElem? (i := 7) rfl))))))), rfl⟩), rfl⟩
theorem wp_6_5 : Cond.selects "ParlourLeavesModel" (⟨"ParlourLeavesModel", "drawDays", "(II)I"⟩ : MethodName) (⟨"ParlourLeavesModel", "drawDays", "(II)I"⟩ : MethodName) ∈ zTB := List.mem_filter.mpr ⟨List.mem_append_left _ (List.mem_map.mpr ⟨((⟨"ParlourLeavesModel", "drawDays", "(II)I"⟩ : MethodName), 45), (List.mem_append_right _ (List.mem_append_right _ (List.mem_append_right _ (List.mem_append_right _ (List.mem_append_right _ (List.mem_append_left _ (List.mem_of_getElem? (i := 5) rfl))))))), rfl⟩), rfl⟩
theorem wp_6_6 : Cond.selects "ParlourLeavesModel" (⟨"ParlourLeavesModel", "drawsFor", "(I)V"⟩ : MethodName) (⟨"ParlourLeavesModel", "drawsFor", "(I)V"⟩ : MethodName) ∈ zTB := List.mem_filter.mpr ⟨List.mem_append_left _ (List.mem_map.mpr ⟨((⟨"ParlourLeavesModel", "drawsFor", "(I)V"⟩ : MethodName), 45), (List.mem_append_right _ (List.mem_append_right _ (List.mem_append_right _ (List.mem_append_right _ (List.mem_append_right _ (List.mem_append_left _ (List.mem_of_getElem? (i := 6) rfl))))))), rfl⟩), rfl⟩
theorem wp_5_15 : Cond.selects "ParlourLeavesModel" (⟨"ParlourLeavesModel", "fewestSee", "()I"⟩ : MethodName) (⟨"ParlourLeavesModel", "fewestSee", "()I"⟩ : MethodName) ∈ zTB := List.mem_filter.mpr ⟨List.mem_append_left _ (List.mem_map.mpr ⟨((⟨"ParlourLeavesModel", "fewestSee", "()I"⟩ : MethodName), 45), (List.mem_append_right _ (List.mem_append_right _ (List.mem_append_right _ (List.mem_append_right _ (List.mem_append_left _ (List.mem_of_getElem? (i := 15) rfl)))))), rfl⟩), rfl⟩
theorem wp_5_4 : Cond.selects "ParlourLeavesModel" (⟨"ParlourLeavesModel", "isDeed", "(I)Z"⟩ : MethodName) (⟨"ParlourLeavesModel", "isDeed", "(I)Z"⟩ : MethodName) ∈ zTB := List.mem_filter.mpr ⟨List.mem_append_left _ (List.mem_map.mpr ⟨((⟨"ParlourLeavesModel", "isDeed", "(I)Z"⟩ : MethodName), 45), (List.mem_append_right _ (List.mem_append_right _ (List.mem_append_right _ (List.mem_append_right _ (List.mem_append_left _ (List.mem_of_getElem? (i := 4) rfl)))))), rfl⟩), rfl⟩
theorem wp_5_3 : Cond.selects "ParlourLeavesModel" (⟨"ParlourLeavesModel", "isPerson", "(I)Z"⟩ : MethodName) (⟨"ParlourLeavesModel", "isPerson", "(I)Z"⟩ : MethodName) ∈ zTB := List.mem_filter.mpr ⟨List.mem_append_left _ (List.mem_map.mpr ⟨((⟨"ParlourLeavesModel", "isPerson", "(I)Z"⟩ : MethodName), 45), (List.mem_append_right _ (List.mem_append_right _ (List.mem_append_right _ (List.mem_append_right _ (List.mem_append_left _ (List.mem_of_getElem? (i := 3) rfl)))))), rfl⟩), rfl⟩
theorem wp_5_13 : Cond.selects "ParlourLeavesModel" (⟨"ParlourLeavesModel", "seenFrom", "(I)I"⟩ : MethodName) (⟨"ParlourLeavesModel", "seenFrom", "(I)I"⟩ : MethodName) ∈ zTB := List.mem_filter.mpr ⟨List.mem_append_left _ (List.mem_map.mpr ⟨((⟨"ParlourLeavesModel", "seenFrom", "(I)I"⟩ : MethodName), 45), (List.mem_append_right _ (List.mem_append_right _ (List.mem_append_right _ (List.mem_append_right _ (List.mem_append_left _ (List.mem_of_getElem? (i := 13) rfl)))))), rfl⟩), rfl⟩
theorem wp_4_9 : Cond.selects "ParlourLeavesModel" (⟨"ParlourLeavesModel", "shownBy", "(IZ)I"⟩ : MethodName) (⟨"ParlourLeavesModel", "shownBy", "(IZ)I"⟩ : MethodName) ∈ zTB := List.mem_filter.mpr ⟨List.mem_append_left _ (List.mem_map.mpr ⟨((⟨"ParlourLeavesModel", "shownBy", "(IZ)I"⟩ : MethodName), 45), (List.mem_append_right _ (List.mem_append_right _ (List.mem_append_right _ (List.mem_append_left _ (List.mem_of_getElem? (i := 9) rfl))))), rfl⟩), rfl⟩
theorem wp_5_2 : Cond.selects "ParlourLeavesModel" (⟨"ParlourLeavesModel", "unseen", "(I)I"⟩ : MethodName) (⟨"ParlourLeavesModel", "unseen", "(I)I"⟩ : MethodName) ∈ zTB := List.mem_filter.mpr ⟨List.mem_append_left _ (List.mem_map.mpr ⟨((⟨"ParlourLeavesModel", "unseen", "(I)I"⟩ : MethodName), 45), (List.mem_append_right _ (List.mem_append_right _ (List.mem_append_right _ (List.mem_append_right _ (List.mem_append_left _ (List.mem_of_getElem? (i := 2) rfl)))))), rfl⟩), rfl⟩
theorem dn_X12_fewestSee : zDn yX12_fewestSee 0 := ⟨by decide, by decide, by decide +kernel⟩
theorem dn_X12_choose : zDn yX12_choose 2 := ⟨by decide, by decide, by decide +kernel⟩
theorem dn_X12_seenFrom : zDn yX12_seenFrom 1 := ⟨by decide, by decide, by decide +kernel⟩
theorem dn_X12_unseen : zDn yX12_unseen 1 := ⟨by decide, by decide, by decide +kernel⟩
theorem dn_X12_isPerson : zDn yX12_isPerson 1 := ⟨by decide, by decide, by decide +kernel⟩
theorem dn_X12_isDeed : zDn yX12_isDeed 1 := ⟨by decide, by decide, by decide +kernel⟩
theorem dn_X12_draw : zDn yX12_draw 1 := ⟨by decide, by decide, by decide +kernel⟩
theorem dn_X12_drawsFor : zDn yX12_drawsFor 1 := ⟨by decide, by decide, by decide +kernel⟩
theorem dn_X12_drawDays : zDn yX12_drawDays 2 := ⟨by decide, by decide, by decide +kernel⟩
theorem dn_X12_shownBy : zDn yX12_shownBy 2 := ⟨by decide, by decide, by decide +kernel⟩
theorem lq_X12_320 : zLq RX12 320 13 32 .int := ⟨"ParlourLeavesModel", RX12, TX12, 45, tyX12, rfl, by decide, wsin_X12, wd_1517, rfl, rfl, by decide +kernel, tyX12_ok, nmX12⟩
theorem cv_X12_323 : zCV RX12 RX12 323 yX12_fewestSee cX12_fewestSee 5 (some .int) 0 := ⟨rfl, dn_X12_fewestSee, wd_1937, wd_1939, wp_5_15, wd_19, wd_1940⟩
theorem cv_X12_326 : zCV RX12 RX12 326 yX12_choose cX12_choose 3 none 2 := ⟨rfl, dn_X12_choose, wd_1941, wd_1943, wp_6_0, wd_19, wd_1944⟩
theorem lq_X12_330 : zLq RX12 330 13 31 .boolean := ⟨"ParlourLeavesModel", RX12, TX12, 45, tyX12, rfl, by decide, wsin_X12, wd_1516, rfl, rfl, by decide +kernel, tyX12_ok, nmX12⟩
theorem lk_X12_330 : zLk RX12 330 13 31 := ⟨"ParlourLeavesModel", RX12, TX12, 45, rfl, by decide, wsin_X12, wd_1516, rfl⟩
theorem lq_X12_133 : zLq RX12 133 13 26 .int := ⟨"ParlourLeavesModel", RX12, TX12, 45, tyX12, rfl, by decide, wsin_X12, wd_1511, rfl, rfl, by decide +kernel, tyX12_ok, nmX12⟩
theorem cv_X12_308 : zCV RX12 RX12 308 yX12_seenFrom cX12_seenFrom 4 (some .int) 1 := ⟨rfl, dn_X12_seenFrom, wd_1910, wd_1912, wp_5_13, wd_19, wd_1913⟩
theorem lk_X12_133 : zLk RX12 133 13 26 := ⟨"ParlourLeavesModel", RX12, TX12, 45, rfl, by decide, wsin_X12, wd_1511, rfl⟩
theorem cv_X12_265 : zCV RX12 RX12 265 yX12_unseen cX12_unseen 4 (some .int) 1 := ⟨rfl, dn_X12_unseen, wd_1811, wd_1813, wp_5_2, wd_19, wd_1814⟩
theorem cv_X12_286 : zCV RX12 RX12 286 yX12_isPerson cX12_isPerson 2 (some .boolean) 1 := ⟨rfl, dn_X12_isPerson, wd_1819, wd_1821, wp_5_3, wd_19, wd_1822⟩
theorem cv_X12_289 : zCV RX12 RX12 289 yX12_isDeed cX12_isDeed 2 (some .boolean) 1 := ⟨rfl, dn_X12_isDeed, wd_1823, wd_1825, wp_5_4, wd_19, wd_1826⟩
theorem lk_X12_350 : zLk RX12 350 13 35 := ⟨"ParlourLeavesModel", RX12, TX12, 45, rfl, by decide, wsin_X12, wd_1520, rfl⟩
theorem lq_X12_350 : zLq RX12 350 13 35 .int := ⟨"ParlourLeavesModel", RX12, TX12, 45, tyX12, rfl, by decide, wsin_X12, wd_1520, rfl, rfl, by decide +kernel, tyX12_ok, nmX12⟩
theorem cv_X12_354 : zCV RX12 RX12 354 yX12_draw cX12_draw 2 (some .int) 1 := ⟨rfl, dn_X12_draw, wd_1989, wd_1991, wp_6_7, wd_19, wd_1992⟩
theorem cv_X12_357 : zCV RX12 RX12 357 yX12_drawsFor cX12_drawsFor 5 none 1 := ⟨rfl, dn_X12_drawsFor, wd_1985, wd_1987, wp_6_6, wd_19, wd_1988⟩
theorem cv_X12_360 : zCV RX12 RX12 360 yX12_drawDays cX12_drawDays 6 (some .int) 2 := ⟨rfl, dn_X12_drawDays, wd_1981, wd_1983, wp_6_5, wd_19, wd_1984⟩
theorem cv_X12_253 : zCV RX12 RX12 253 yX12_shownBy cX12_shownBy 5 (some .int) 2 := ⟨rfl, dn_X12_shownBy, wd_1756, wd_1758, wp_4_9, wd_19, wd_1759⟩
theorem dX12_fewestSee_0 : decode cX12_fewestSee 0 = .ok (.ldc_w 305, 3) := by decide +kernel
theorem dX12_fewestSee_3 : decode cX12_fewestSee 3 = .ok (.istore_n 1, 1) := by decide +kernel
theorem dX12_fewestSee_4 : decode cX12_fewestSee 4 = .ok (.iconst 0, 1) := by decide +kernel
theorem dX12_fewestSee_5 : decode cX12_fewestSee 5 = .ok (.istore_n 2, 1) := by decide +kernel
theorem dX12_fewestSee_6 : decode cX12_fewestSee 6 = .ok (.iload_n 2, 1) := by decide +kernel
theorem dX12_fewestSee_7 : decode cX12_fewestSee 7 = .ok (.aload_n 0, 1) := by decide +kernel
theorem dX12_fewestSee_8 : decode cX12_fewestSee 8 = .ok (.getfield 98, 3) := by decide +kernel
theorem dX12_fewestSee_11 : decode cX12_fewestSee 11 = .ok (.iconst 0, 1) := by decide +kernel
theorem dX12_fewestSee_12 : decode cX12_fewestSee 12 = .ok (.iaload, 1) := by decide +kernel
theorem dX12_fewestSee_13 : decode cX12_fewestSee 13 = .ok (.if_icmp .ge 63, 3) := by decide +kernel
theorem dX12_fewestSee_16 : decode cX12_fewestSee 16 = .ok (.iconst 0, 1) := by decide +kernel
theorem dX12_fewestSee_17 : decode cX12_fewestSee 17 = .ok (.istore_n 3, 1) := by decide +kernel
theorem dX12_fewestSee_18 : decode cX12_fewestSee 18 = .ok (.iconst 0, 1) := by decide +kernel
theorem dX12_fewestSee_19 : decode cX12_fewestSee 19 = .ok (.istore 4, 2) := by decide +kernel
theorem dX12_fewestSee_21 : decode cX12_fewestSee 21 = .ok (.iload 4, 2) := by decide +kernel
theorem dX12_fewestSee_23 : decode cX12_fewestSee 23 = .ok (.aload_n 0, 1) := by decide +kernel
theorem dX12_fewestSee_24 : decode cX12_fewestSee 24 = .ok (.getfield 98, 3) := by decide +kernel
theorem dX12_fewestSee_27 : decode cX12_fewestSee 27 = .ok (.iconst 1, 1) := by decide +kernel
theorem dX12_fewestSee_28 : decode cX12_fewestSee 28 = .ok (.iaload, 1) := by decide +kernel
theorem dX12_fewestSee_29 : decode cX12_fewestSee 29 = .ok (.if_icmp .ge 26, 3) := by decide +kernel
theorem dX12_fewestSee_32 : decode cX12_fewestSee 32 = .ok (.aload_n 0, 1) := by decide +kernel
theorem dX12_fewestSee_33 : decode cX12_fewestSee 33 = .ok (.iload 4, 2) := by decide +kernel
theorem dX12_fewestSee_35 : decode cX12_fewestSee 35 = .ok (.iconst 0, 1) := by decide +kernel
theorem dX12_fewestSee_36 : decode cX12_fewestSee 36 = .ok (.invokevirtual 250, 3) := by decide +kernel
theorem dX12_fewestSee_39 : decode cX12_fewestSee 39 = .ok (.iload_n 2, 1) := by decide +kernel
theorem dX12_fewestSee_40 : decode cX12_fewestSee 40 = .ok (.invokestatic 181, 3) := by decide +kernel
theorem dX12_fewestSee_43 : decode cX12_fewestSee 43 = .ok (.ifCond .eq 6, 3) := by decide +kernel
theorem dX12_fewestSee_46 : decode cX12_fewestSee 46 = .ok (.iinc 3 1, 3) := by decide +kernel
theorem dX12_fewestSee_49 : decode cX12_fewestSee 49 = .ok (.iinc 4 1, 3) := by decide +kernel
theorem dX12_fewestSee_52 : decode cX12_fewestSee 52 = .ok (.goto (-31), 3) := by decide +kernel
theorem dX12_fewestSee_55 : decode cX12_fewestSee 55 = .ok (.iload_n 3, 1) := by decide +kernel
theorem dX12_fewestSee_56 : decode cX12_fewestSee 56 = .ok (.iload_n 1, 1) := by decide +kernel
theorem dX12_fewestSee_57 : decode cX12_fewestSee 57 = .ok (.if_icmp .lt 6, 3) := by decide +kernel
theorem dX12_fewestSee_60 : decode cX12_fewestSee 60 = .ok (.goto 10, 3) := by decide +kernel
theorem dX12_fewestSee_63 : decode cX12_fewestSee 63 = .ok (.iload_n 3, 1) := by decide +kernel
theorem dX12_fewestSee_64 : decode cX12_fewestSee 64 = .ok (.istore_n 1, 1) := by decide +kernel
theorem dX12_fewestSee_65 : decode cX12_fewestSee 65 = .ok (.aload_n 0, 1) := by decide +kernel
theorem dX12_fewestSee_66 : decode cX12_fewestSee 66 = .ok (.iload_n 2, 1) := by decide +kernel
theorem dX12_fewestSee_67 : decode cX12_fewestSee 67 = .ok (.putfield 320, 3) := by decide +kernel
theorem dX12_fewestSee_70 : decode cX12_fewestSee 70 = .ok (.iinc 2 1, 3) := by decide +kernel
theorem dX12_fewestSee_73 : decode cX12_fewestSee 73 = .ok (.goto (-67), 3) := by decide +kernel
theorem dX12_fewestSee_76 : decode cX12_fewestSee 76 = .ok (.iload_n 1, 1) := by decide +kernel
theorem dX12_fewestSee_77 : decode cX12_fewestSee 77 = .ok (.ireturn, 1) := by decide +kernel
theorem dX12_choice_0 : decode cX12_choice 0 = .ok (.aload_n 0, 1) := by decide +kernel
theorem dX12_choice_1 : decode cX12_choice 1 = .ok (.iconst 0, 1) := by decide +kernel
theorem dX12_choice_2 : decode cX12_choice 2 = .ok (.putfield 1, 3) := by decide +kernel
theorem dX12_choice_5 : decode cX12_choice 5 = .ok (.aload_n 0, 1) := by decide +kernel
theorem dX12_choice_6 : decode cX12_choice 6 = .ok (.getfield 98, 3) := by decide +kernel
theorem dX12_choice_9 : decode cX12_choice 9 = .ok (.iconst 0, 1) := by decide +kernel
theorem dX12_choice_10 : decode cX12_choice 10 = .ok (.iaload, 1) := by decide +kernel
theorem dX12_choice_11 : decode cX12_choice 11 = .ok (.ifCond .ne 5, 3) := by decide +kernel
theorem dX12_choice_14 : decode cX12_choice 14 = .ok (.iconst (-1), 1) := by decide +kernel
theorem dX12_choice_15 : decode cX12_choice 15 = .ok (.ireturn, 1) := by decide +kernel
theorem dX12_choice_16 : decode cX12_choice 16 = .ok (.aload_n 0, 1) := by decide +kernel
theorem dX12_choice_17 : decode cX12_choice 17 = .ok (.invokevirtual 323, 3) := by decide +kernel
theorem dX12_choice_20 : decode cX12_choice 20 = .ok (.istore_n 1, 1) := by decide +kernel
theorem dX12_choice_21 : decode cX12_choice 21 = .ok (.aload_n 0, 1) := by decide +kernel
theorem dX12_choice_22 : decode cX12_choice 22 = .ok (.iconst (-1), 1) := by decide +kernel
theorem dX12_choice_23 : decode cX12_choice 23 = .ok (.iconst (-1), 1) := by decide +kernel
theorem dX12_choice_24 : decode cX12_choice 24 = .ok (.invokevirtual 326, 3) := by decide +kernel
theorem dX12_choice_27 : decode cX12_choice 27 = .ok (.aload_n 0, 1) := by decide +kernel
theorem dX12_choice_28 : decode cX12_choice 28 = .ok (.iconst 1, 1) := by decide +kernel
theorem dX12_choice_29 : decode cX12_choice 29 = .ok (.putfield 330, 3) := by decide +kernel
theorem dX12_choice_32 : decode cX12_choice 32 = .ok (.iconst 0, 1) := by decide +kernel
theorem dX12_choice_33 : decode cX12_choice 33 = .ok (.istore_n 2, 1) := by decide +kernel
theorem dX12_choice_34 : decode cX12_choice 34 = .ok (.iload_n 2, 1) := by decide +kernel
theorem dX12_choice_35 : decode cX12_choice 35 = .ok (.aload_n 0, 1) := by decide +kernel
theorem dX12_choice_36 : decode cX12_choice 36 = .ok (.getfield 98, 3) := by decide +kernel
theorem dX12_choice_39 : decode cX12_choice 39 = .ok (.iconst 1, 1) := by decide +kernel
theorem dX12_choice_40 : decode cX12_choice 40 = .ok (.iaload, 1) := by decide +kernel
theorem dX12_choice_41 : decode cX12_choice 41 = .ok (.if_icmp .ge 94, 3) := by decide +kernel
theorem dX12_choice_44 : decode cX12_choice 44 = .ok (.aload_n 0, 1) := by decide +kernel
theorem dX12_choice_45 : decode cX12_choice 45 = .ok (.getfield 98, 3) := by decide +kernel
theorem dX12_choice_48 : decode cX12_choice 48 = .ok (.bipush 26, 2) := by decide +kernel
theorem dX12_choice_50 : decode cX12_choice 50 = .ok (.iload_n 2, 1) := by decide +kernel
theorem dX12_choice_51 : decode cX12_choice 51 = .ok (.iadd, 1) := by decide +kernel
theorem dX12_choice_52 : decode cX12_choice 52 = .ok (.iaload, 1) := by decide +kernel
theorem dX12_choice_53 : decode cX12_choice 53 = .ok (.istore_n 3, 1) := by decide +kernel
theorem dX12_choice_54 : decode cX12_choice 54 = .ok (.iconst 0, 1) := by decide +kernel
theorem dX12_choice_55 : decode cX12_choice 55 = .ok (.istore 4, 2) := by decide +kernel
theorem dX12_choice_57 : decode cX12_choice 57 = .ok (.iload 4, 2) := by decide +kernel
theorem dX12_choice_59 : decode cX12_choice 59 = .ok (.aload_n 0, 1) := by decide +kernel
theorem dX12_choice_60 : decode cX12_choice 60 = .ok (.getfield 98, 3) := by decide +kernel
theorem dX12_choice_63 : decode cX12_choice 63 = .ok (.iconst 0, 1) := by decide +kernel
theorem dX12_choice_64 : decode cX12_choice 64 = .ok (.iaload, 1) := by decide +kernel
theorem dX12_choice_65 : decode cX12_choice 65 = .ok (.if_icmp .ge 54, 3) := by decide +kernel
theorem dX12_choice_68 : decode cX12_choice 68 = .ok (.iload 4, 2) := by decide +kernel
theorem dX12_choice_70 : decode cX12_choice 70 = .ok (.iload_n 3, 1) := by decide +kernel
theorem dX12_choice_71 : decode cX12_choice 71 = .ok (.if_icmp .ne 6, 3) := by decide +kernel
theorem dX12_choice_74 : decode cX12_choice 74 = .ok (.goto 39, 3) := by decide +kernel
theorem dX12_choice_77 : decode cX12_choice 77 = .ok (.aload_n 0, 1) := by decide +kernel
theorem dX12_choice_78 : decode cX12_choice 78 = .ok (.getfield 98, 3) := by decide +kernel
theorem dX12_choice_81 : decode cX12_choice 81 = .ok (.bipush 26, 2) := by decide +kernel
theorem dX12_choice_83 : decode cX12_choice 83 = .ok (.iload_n 2, 1) := by decide +kernel
theorem dX12_choice_84 : decode cX12_choice 84 = .ok (.iadd, 1) := by decide +kernel
theorem dX12_choice_85 : decode cX12_choice 85 = .ok (.iload 4, 2) := by decide +kernel
theorem dX12_choice_87 : decode cX12_choice 87 = .ok (.iastore, 1) := by decide +kernel
theorem dX12_choice_88 : decode cX12_choice 88 = .ok (.aload_n 0, 1) := by decide +kernel
theorem dX12_choice_89 : decode cX12_choice 89 = .ok (.invokevirtual 323, 3) := by decide +kernel
theorem dX12_choice_92 : decode cX12_choice 92 = .ok (.istore 5, 2) := by decide +kernel
theorem dX12_choice_94 : decode cX12_choice 94 = .ok (.iload 5, 2) := by decide +kernel
theorem dX12_choice_96 : decode cX12_choice 96 = .ok (.iload_n 1, 1) := by decide +kernel
theorem dX12_choice_97 : decode cX12_choice 97 = .ok (.if_icmp .gt 6, 3) := by decide +kernel
theorem dX12_choice_100 : decode cX12_choice 100 = .ok (.goto 13, 3) := by decide +kernel
theorem dX12_choice_103 : decode cX12_choice 103 = .ok (.iload 5, 2) := by decide +kernel
theorem dX12_choice_105 : decode cX12_choice 105 = .ok (.istore_n 1, 1) := by decide +kernel
theorem dX12_choice_106 : decode cX12_choice 106 = .ok (.aload_n 0, 1) := by decide +kernel
theorem dX12_choice_107 : decode cX12_choice 107 = .ok (.iload_n 2, 1) := by decide +kernel
theorem dX12_choice_108 : decode cX12_choice 108 = .ok (.iload 4, 2) := by decide +kernel
theorem dX12_choice_110 : decode cX12_choice 110 = .ok (.invokevirtual 326, 3) := by decide +kernel
theorem dX12_choice_113 : decode cX12_choice 113 = .ok (.iinc 4 1, 3) := by decide +kernel
theorem dX12_choice_116 : decode cX12_choice 116 = .ok (.goto (-59), 3) := by decide +kernel
theorem dX12_choice_119 : decode cX12_choice 119 = .ok (.aload_n 0, 1) := by decide +kernel
theorem dX12_choice_120 : decode cX12_choice 120 = .ok (.getfield 98, 3) := by decide +kernel
theorem dX12_choice_123 : decode cX12_choice 123 = .ok (.bipush 26, 2) := by decide +kernel
theorem dX12_choice_125 : decode cX12_choice 125 = .ok (.iload_n 2, 1) := by decide +kernel
theorem dX12_choice_126 : decode cX12_choice 126 = .ok (.iadd, 1) := by decide +kernel
theorem dX12_choice_127 : decode cX12_choice 127 = .ok (.iload_n 3, 1) := by decide +kernel
theorem dX12_choice_128 : decode cX12_choice 128 = .ok (.iastore, 1) := by decide +kernel
theorem dX12_choice_129 : decode cX12_choice 129 = .ok (.iinc 2 1, 3) := by decide +kernel
theorem dX12_choice_132 : decode cX12_choice 132 = .ok (.goto (-98), 3) := by decide +kernel
theorem dX12_choice_135 : decode cX12_choice 135 = .ok (.iload_n 1, 1) := by decide +kernel
theorem dX12_choice_136 : decode cX12_choice 136 = .ok (.ireturn, 1) := by decide +kernel
theorem dX12_chosen_0 : decode cX12_chosen 0 = .ok (.aload_n 0, 1) := by decide +kernel
theorem dX12_chosen_1 : decode cX12_chosen 1 = .ok (.iconst 0, 1) := by decide +kernel
theorem dX12_chosen_2 : decode cX12_chosen 2 = .ok (.putfield 1, 3) := by decide +kernel
theorem dX12_chosen_5 : decode cX12_chosen 5 = .ok (.aload_n 0, 1) := by decide +kernel
theorem dX12_chosen_6 : decode cX12_chosen 6 = .ok (.getfield 330, 3) := by decide +kernel
theorem dX12_chosen_9 : decode cX12_chosen 9 = .ok (.ifCond .eq 21, 3) := by decide +kernel
theorem dX12_chosen_12 : decode cX12_chosen 12 = .ok (.iload_n 1, 1) := by decide +kernel
theorem dX12_chosen_13 : decode cX12_chosen 13 = .ok (.iconst 0, 1) := by decide +kernel
theorem dX12_chosen_14 : decode cX12_chosen 14 = .ok (.iconst 2, 1) := by decide +kernel
theorem dX12_chosen_15 : decode cX12_chosen 15 = .ok (.invokestatic 75, 3) := by decide +kernel
theorem dX12_chosen_18 : decode cX12_chosen 18 = .ok (.ifCond .eq 12, 3) := by decide +kernel
theorem dX12_chosen_21 : decode cX12_chosen 21 = .ok (.aload_n 0, 1) := by decide +kernel
theorem dX12_chosen_22 : decode cX12_chosen 22 = .ok (.getfield 142, 3) := by decide +kernel
theorem dX12_chosen_25 : decode cX12_chosen 25 = .ok (.iload_n 1, 1) := by decide +kernel
theorem dX12_chosen_26 : decode cX12_chosen 26 = .ok (.iaload, 1) := by decide +kernel
theorem dX12_chosen_27 : decode cX12_chosen 27 = .ok (.goto 4, 3) := by decide +kernel
theorem dX12_chosen_30 : decode cX12_chosen 30 = .ok (.iconst (-1), 1) := by decide +kernel
theorem dX12_chosen_31 : decode cX12_chosen 31 = .ok (.ireturn, 1) := by decide +kernel
theorem dX12_come_0 : decode cX12_come 0 = .ok (.bipush 24, 2) := by decide +kernel
theorem dX12_come_2 : decode cX12_come 2 = .ok (.istore_n 2, 1) := by decide +kernel
theorem dX12_come_3 : decode cX12_come 3 = .ok (.iload_n 2, 1) := by decide +kernel
theorem dX12_come_4 : decode cX12_come 4 = .ok (.ifCond .lt 35, 3) := by decide +kernel
theorem dX12_come_7 : decode cX12_come 7 = .ok (.aload_n 0, 1) := by decide +kernel
theorem dX12_come_8 : decode cX12_come 8 = .ok (.getfield 7, 3) := by decide +kernel
theorem dX12_come_11 : decode cX12_come 11 = .ok (.aload_n 0, 1) := by decide +kernel
theorem dX12_come_12 : decode cX12_come 12 = .ok (.getfield 11, 3) := by decide +kernel
theorem dX12_come_15 : decode cX12_come 15 = .ok (.iload_n 1, 1) := by decide +kernel
theorem dX12_come_16 : decode cX12_come 16 = .ok (.iload_n 2, 1) := by decide +kernel
theorem dX12_come_17 : decode cX12_come 17 = .ok (.iushr, 1) := by decide +kernel
theorem dX12_come_18 : decode cX12_come 18 = .ok (.sipush 255, 3) := by decide +kernel
theorem dX12_come_21 : decode cX12_come 21 = .ok (.iand, 1) := by decide +kernel
theorem dX12_come_22 : decode cX12_come 22 = .ok (.iastore, 1) := by decide +kernel
theorem dX12_come_23 : decode cX12_come 23 = .ok (.aload_n 0, 1) := by decide +kernel
theorem dX12_come_24 : decode cX12_come 24 = .ok (.dup, 1) := by decide +kernel
theorem dX12_come_25 : decode cX12_come 25 = .ok (.getfield 11, 3) := by decide +kernel
theorem dX12_come_28 : decode cX12_come 28 = .ok (.iconst 1, 1) := by decide +kernel
theorem dX12_come_29 : decode cX12_come 29 = .ok (.iadd, 1) := by decide +kernel
theorem dX12_come_30 : decode cX12_come 30 = .ok (.putfield 11, 3) := by decide +kernel
theorem dX12_come_33 : decode cX12_come 33 = .ok (.iinc 2 (-8), 3) := by decide +kernel
theorem dX12_come_36 : decode cX12_come 36 = .ok (.goto (-33), 3) := by decide +kernel
theorem dX12_come_39 : decode cX12_come 39 = .ok (.return_, 1) := by decide +kernel
theorem dX12_comes_0 : decode cX12_comes 0 = .ok (.aload_n 0, 1) := by decide +kernel
theorem dX12_comes_1 : decode cX12_comes 1 = .ok (.iconst 0, 1) := by decide +kernel
theorem dX12_comes_2 : decode cX12_comes 2 = .ok (.putfield 1, 3) := by decide +kernel
theorem dX12_comes_5 : decode cX12_comes 5 = .ok (.aload_n 0, 1) := by decide +kernel
theorem dX12_comes_6 : decode cX12_comes 6 = .ok (.iload_n 1, 1) := by decide +kernel
theorem dX12_comes_7 : decode cX12_comes 7 = .ok (.invokevirtual 244, 3) := by decide +kernel
theorem dX12_comes_10 : decode cX12_comes 10 = .ok (.ifCond .eq 20, 3) := by decide +kernel
theorem dX12_comes_13 : decode cX12_comes 13 = .ok (.aload_n 0, 1) := by decide +kernel
theorem dX12_comes_14 : decode cX12_comes 14 = .ok (.iload_n 2, 1) := by decide +kernel
theorem dX12_comes_15 : decode cX12_comes 15 = .ok (.invokevirtual 256, 3) := by decide +kernel
theorem dX12_comes_18 : decode cX12_comes 18 = .ok (.ifCond .eq 12, 3) := by decide +kernel
theorem dX12_comes_21 : decode cX12_comes 21 = .ok (.aload_n 0, 1) := by decide +kernel
theorem dX12_comes_22 : decode cX12_comes 22 = .ok (.iload_n 1, 1) := by decide +kernel
theorem dX12_comes_23 : decode cX12_comes 23 = .ok (.iload_n 2, 1) := by decide +kernel
theorem dX12_comes_24 : decode cX12_comes 24 = .ok (.invokevirtual 224, 3) := by decide +kernel
theorem dX12_comes_27 : decode cX12_comes 27 = .ok (.goto 4, 3) := by decide +kernel
theorem dX12_comes_30 : decode cX12_comes 30 = .ok (.iconst (-1), 1) := by decide +kernel
theorem dX12_comes_31 : decode cX12_comes 31 = .ok (.ireturn, 1) := by decide +kernel
theorem dX12_count_0 : decode cX12_count 0 = .ok (.aload_n 0, 1) := by decide +kernel
theorem dX12_count_1 : decode cX12_count 1 = .ok (.iconst 0, 1) := by decide +kernel
theorem dX12_count_2 : decode cX12_count 2 = .ok (.putfield 1, 3) := by decide +kernel
theorem dX12_count_5 : decode cX12_count 5 = .ok (.iload_n 1, 1) := by decide +kernel
theorem dX12_count_6 : decode cX12_count 6 = .ok (.tableswitch 89 0 6 #[42, 49, 56, 63, 70, 77, 84], 42) := by decide +kernel
theorem dX12_count_48 : decode cX12_count 48 = .ok (.aload_n 0, 1) := by decide +kernel
theorem dX12_count_49 : decode cX12_count 49 = .ok (.getfield 98, 3) := by decide +kernel
theorem dX12_count_52 : decode cX12_count 52 = .ok (.iconst 0, 1) := by decide +kernel
theorem dX12_count_53 : decode cX12_count 53 = .ok (.iaload, 1) := by decide +kernel
theorem dX12_count_54 : decode cX12_count 54 = .ok (.ireturn, 1) := by decide +kernel
theorem dX12_count_55 : decode cX12_count 55 = .ok (.aload_n 0, 1) := by decide +kernel
theorem dX12_count_56 : decode cX12_count 56 = .ok (.getfield 98, 3) := by decide +kernel
theorem dX12_count_59 : decode cX12_count 59 = .ok (.iconst 1, 1) := by decide +kernel
theorem dX12_count_60 : decode cX12_count 60 = .ok (.iaload, 1) := by decide +kernel
theorem dX12_count_61 : decode cX12_count 61 = .ok (.ireturn, 1) := by decide +kernel
theorem dX12_count_62 : decode cX12_count 62 = .ok (.aload_n 0, 1) := by decide +kernel
theorem dX12_count_63 : decode cX12_count 63 = .ok (.getfield 98, 3) := by decide +kernel
theorem dX12_count_66 : decode cX12_count 66 = .ok (.iconst 2, 1) := by decide +kernel
theorem dX12_count_67 : decode cX12_count 67 = .ok (.iaload, 1) := by decide +kernel
theorem dX12_count_68 : decode cX12_count 68 = .ok (.ireturn, 1) := by decide +kernel
theorem dX12_count_69 : decode cX12_count 69 = .ok (.aload_n 0, 1) := by decide +kernel
theorem dX12_count_70 : decode cX12_count 70 = .ok (.getfield 98, 3) := by decide +kernel
theorem dX12_count_73 : decode cX12_count 73 = .ok (.iconst 3, 1) := by decide +kernel
theorem dX12_count_74 : decode cX12_count 74 = .ok (.iaload, 1) := by decide +kernel
theorem dX12_count_75 : decode cX12_count 75 = .ok (.ireturn, 1) := by decide +kernel
theorem dX12_count_76 : decode cX12_count 76 = .ok (.aload_n 0, 1) := by decide +kernel
theorem dX12_count_77 : decode cX12_count 77 = .ok (.getfield 98, 3) := by decide +kernel
theorem dX12_count_80 : decode cX12_count 80 = .ok (.iconst 4, 1) := by decide +kernel
theorem dX12_count_81 : decode cX12_count 81 = .ok (.iaload, 1) := by decide +kernel
theorem dX12_count_82 : decode cX12_count 82 = .ok (.ireturn, 1) := by decide +kernel
theorem dX12_count_83 : decode cX12_count 83 = .ok (.aload_n 0, 1) := by decide +kernel
theorem dX12_count_84 : decode cX12_count 84 = .ok (.getfield 98, 3) := by decide +kernel
theorem dX12_count_87 : decode cX12_count 87 = .ok (.iconst 5, 1) := by decide +kernel
theorem dX12_count_88 : decode cX12_count 88 = .ok (.iaload, 1) := by decide +kernel
theorem dX12_count_89 : decode cX12_count 89 = .ok (.ireturn, 1) := by decide +kernel
theorem dX12_count_90 : decode cX12_count 90 = .ok (.aload_n 0, 1) := by decide +kernel
theorem dX12_count_91 : decode cX12_count 91 = .ok (.getfield 11, 3) := by decide +kernel
theorem dX12_count_94 : decode cX12_count 94 = .ok (.ireturn, 1) := by decide +kernel
theorem dX12_count_95 : decode cX12_count 95 = .ok (.iconst (-1), 1) := by decide +kernel
theorem dX12_count_96 : decode cX12_count 96 = .ok (.ireturn, 1) := by decide +kernel
theorem dX12_seenFrom_0 : decode cX12_seenFrom 0 = .ok (.iconst 0, 1) := by decide +kernel
theorem dX12_seenFrom_1 : decode cX12_seenFrom 1 = .ok (.istore_n 2, 1) := by decide +kernel
theorem dX12_seenFrom_2 : decode cX12_seenFrom 2 = .ok (.iconst 0, 1) := by decide +kernel
theorem dX12_seenFrom_3 : decode cX12_seenFrom 3 = .ok (.istore_n 3, 1) := by decide +kernel
theorem dX12_seenFrom_4 : decode cX12_seenFrom 4 = .ok (.iload_n 3, 1) := by decide +kernel
theorem dX12_seenFrom_5 : decode cX12_seenFrom 5 = .ok (.iconst 5, 1) := by decide +kernel
theorem dX12_seenFrom_6 : decode cX12_seenFrom 6 = .ok (.if_icmp .ge 25, 3) := by decide +kernel
theorem dX12_seenFrom_9 : decode cX12_seenFrom 9 = .ok (.iload_n 1, 1) := by decide +kernel
theorem dX12_seenFrom_10 : decode cX12_seenFrom 10 = .ok (.iload_n 3, 1) := by decide +kernel
theorem dX12_seenFrom_11 : decode cX12_seenFrom 11 = .ok (.invokestatic 181, 3) := by decide +kernel
theorem dX12_seenFrom_14 : decode cX12_seenFrom 14 = .ok (.ifCond .eq 11, 3) := by decide +kernel
theorem dX12_seenFrom_17 : decode cX12_seenFrom 17 = .ok (.iload_n 2, 1) := by decide +kernel
theorem dX12_seenFrom_18 : decode cX12_seenFrom 18 = .ok (.aload_n 0, 1) := by decide +kernel
theorem dX12_seenFrom_19 : decode cX12_seenFrom 19 = .ok (.iload_n 3, 1) := by decide +kernel
theorem dX12_seenFrom_20 : decode cX12_seenFrom 20 = .ok (.invokevirtual 221, 3) := by decide +kernel
theorem dX12_seenFrom_23 : decode cX12_seenFrom 23 = .ok (.ior, 1) := by decide +kernel
theorem dX12_seenFrom_24 : decode cX12_seenFrom 24 = .ok (.istore_n 2, 1) := by decide +kernel
theorem dX12_seenFrom_25 : decode cX12_seenFrom 25 = .ok (.iinc 3 1, 3) := by decide +kernel
theorem dX12_seenFrom_28 : decode cX12_seenFrom 28 = .ok (.goto (-24), 3) := by decide +kernel
theorem dX12_seenFrom_31 : decode cX12_seenFrom 31 = .ok (.iload_n 2, 1) := by decide +kernel
theorem dX12_seenFrom_32 : decode cX12_seenFrom 32 = .ok (.ireturn, 1) := by decide +kernel
theorem dX12_cover_0 : decode cX12_cover 0 = .ok (.aload_n 0, 1) := by decide +kernel
theorem dX12_cover_1 : decode cX12_cover 1 = .ok (.iconst 0, 1) := by decide +kernel
theorem dX12_cover_2 : decode cX12_cover 2 = .ok (.putfield 1, 3) := by decide +kernel
theorem dX12_cover_5 : decode cX12_cover 5 = .ok (.iconst 1, 1) := by decide +kernel
theorem dX12_cover_6 : decode cX12_cover 6 = .ok (.aload_n 0, 1) := by decide +kernel
theorem dX12_cover_7 : decode cX12_cover 7 = .ok (.getfield 98, 3) := by decide +kernel
theorem dX12_cover_10 : decode cX12_cover 10 = .ok (.iconst 0, 1) := by decide +kernel
theorem dX12_cover_11 : decode cX12_cover 11 = .ok (.iaload, 1) := by decide +kernel
theorem dX12_cover_12 : decode cX12_cover 12 = .ok (.ishl, 1) := by decide +kernel
theorem dX12_cover_13 : decode cX12_cover 13 = .ok (.iconst 1, 1) := by decide +kernel
theorem dX12_cover_14 : decode cX12_cover 14 = .ok (.isub, 1) := by decide +kernel
theorem dX12_cover_15 : decode cX12_cover 15 = .ok (.istore_n 1, 1) := by decide +kernel
theorem dX12_cover_16 : decode cX12_cover 16 = .ok (.iload_n 1, 1) := by decide +kernel
theorem dX12_cover_17 : decode cX12_cover 17 = .ok (.istore_n 2, 1) := by decide +kernel
theorem dX12_cover_18 : decode cX12_cover 18 = .ok (.iload_n 1, 1) := by decide +kernel
theorem dX12_cover_19 : decode cX12_cover 19 = .ok (.istore_n 3, 1) := by decide +kernel
theorem dX12_cover_20 : decode cX12_cover 20 = .ok (.iload_n 3, 1) := by decide +kernel
theorem dX12_cover_21 : decode cX12_cover 21 = .ok (.ifCond .lt 31, 3) := by decide +kernel
theorem dX12_cover_24 : decode cX12_cover 24 = .ok (.aload_n 0, 1) := by decide +kernel
theorem dX12_cover_25 : decode cX12_cover 25 = .ok (.iload_n 3, 1) := by decide +kernel
theorem dX12_cover_26 : decode cX12_cover 26 = .ok (.invokevirtual 308, 3) := by decide +kernel
theorem dX12_cover_29 : decode cX12_cover 29 = .ok (.iload_n 1, 1) := by decide +kernel
theorem dX12_cover_30 : decode cX12_cover 30 = .ok (.if_icmp .ne 16, 3) := by decide +kernel
theorem dX12_cover_33 : decode cX12_cover 33 = .ok (.iload_n 3, 1) := by decide +kernel
theorem dX12_cover_34 : decode cX12_cover 34 = .ok (.invokestatic 238, 3) := by decide +kernel
theorem dX12_cover_37 : decode cX12_cover 37 = .ok (.iload_n 2, 1) := by decide +kernel
theorem dX12_cover_38 : decode cX12_cover 38 = .ok (.invokestatic 238, 3) := by decide +kernel
theorem dX12_cover_41 : decode cX12_cover 41 = .ok (.if_icmp .gt 5, 3) := by decide +kernel
theorem dX12_cover_44 : decode cX12_cover 44 = .ok (.iload_n 3, 1) := by decide +kernel
theorem dX12_cover_45 : decode cX12_cover 45 = .ok (.istore_n 2, 1) := by decide +kernel
theorem dX12_cover_46 : decode cX12_cover 46 = .ok (.iinc 3 (-1), 3) := by decide +kernel
theorem dX12_cover_49 : decode cX12_cover 49 = .ok (.goto (-29), 3) := by decide +kernel
theorem dX12_cover_52 : decode cX12_cover 52 = .ok (.aload_n 0, 1) := by decide +kernel
theorem dX12_cover_53 : decode cX12_cover 53 = .ok (.iload_n 2, 1) := by decide +kernel
theorem dX12_cover_54 : decode cX12_cover 54 = .ok (.putfield 133, 3) := by decide +kernel
theorem dX12_cover_57 : decode cX12_cover 57 = .ok (.iload_n 2, 1) := by decide +kernel
theorem dX12_cover_58 : decode cX12_cover 58 = .ok (.invokestatic 238, 3) := by decide +kernel
theorem dX12_cover_61 : decode cX12_cover 61 = .ok (.ireturn, 1) := by decide +kernel
theorem dX12_covering_0 : decode cX12_covering 0 = .ok (.aload_n 0, 1) := by decide +kernel
theorem dX12_covering_1 : decode cX12_covering 1 = .ok (.iconst 0, 1) := by decide +kernel
theorem dX12_covering_2 : decode cX12_covering 2 = .ok (.putfield 1, 3) := by decide +kernel
theorem dX12_covering_5 : decode cX12_covering 5 = .ok (.aload_n 0, 1) := by decide +kernel
theorem dX12_covering_6 : decode cX12_covering 6 = .ok (.getfield 133, 3) := by decide +kernel
theorem dX12_covering_9 : decode cX12_covering 9 = .ok (.ireturn, 1) := by decide +kernel
theorem dX12_unseen_0 : decode cX12_unseen 0 = .ok (.iconst 1, 1) := by decide +kernel
theorem dX12_unseen_1 : decode cX12_unseen 1 = .ok (.aload_n 0, 1) := by decide +kernel
theorem dX12_unseen_2 : decode cX12_unseen 2 = .ok (.getfield 98, 3) := by decide +kernel
theorem dX12_unseen_5 : decode cX12_unseen 5 = .ok (.iconst 0, 1) := by decide +kernel
theorem dX12_unseen_6 : decode cX12_unseen 6 = .ok (.iaload, 1) := by decide +kernel
theorem dX12_unseen_7 : decode cX12_unseen 7 = .ok (.ishl, 1) := by decide +kernel
theorem dX12_unseen_8 : decode cX12_unseen 8 = .ok (.iconst 1, 1) := by decide +kernel
theorem dX12_unseen_9 : decode cX12_unseen 9 = .ok (.isub, 1) := by decide +kernel
theorem dX12_unseen_10 : decode cX12_unseen 10 = .ok (.istore_n 2, 1) := by decide +kernel
theorem dX12_unseen_11 : decode cX12_unseen 11 = .ok (.iconst 0, 1) := by decide +kernel
theorem dX12_unseen_12 : decode cX12_unseen 12 = .ok (.istore_n 3, 1) := by decide +kernel
theorem dX12_unseen_13 : decode cX12_unseen 13 = .ok (.iload_n 3, 1) := by decide +kernel
theorem dX12_unseen_14 : decode cX12_unseen 14 = .ok (.aload_n 0, 1) := by decide +kernel
theorem dX12_unseen_15 : decode cX12_unseen 15 = .ok (.getfield 98, 3) := by decide +kernel
theorem dX12_unseen_18 : decode cX12_unseen 18 = .ok (.iconst 1, 1) := by decide +kernel
theorem dX12_unseen_19 : decode cX12_unseen 19 = .ok (.iaload, 1) := by decide +kernel
theorem dX12_unseen_20 : decode cX12_unseen 20 = .ok (.if_icmp .ge 20, 3) := by decide +kernel
theorem dX12_unseen_23 : decode cX12_unseen 23 = .ok (.iload_n 2, 1) := by decide +kernel
theorem dX12_unseen_24 : decode cX12_unseen 24 = .ok (.aload_n 0, 1) := by decide +kernel
theorem dX12_unseen_25 : decode cX12_unseen 25 = .ok (.iload_n 3, 1) := by decide +kernel
theorem dX12_unseen_26 : decode cX12_unseen 26 = .ok (.iload_n 1, 1) := by decide +kernel
theorem dX12_unseen_27 : decode cX12_unseen 27 = .ok (.invokevirtual 250, 3) := by decide +kernel
theorem dX12_unseen_30 : decode cX12_unseen 30 = .ok (.iconst (-1), 1) := by decide +kernel
theorem dX12_unseen_31 : decode cX12_unseen 31 = .ok (.ixor, 1) := by decide +kernel
theorem dX12_unseen_32 : decode cX12_unseen 32 = .ok (.iand, 1) := by decide +kernel
theorem dX12_unseen_33 : decode cX12_unseen 33 = .ok (.istore_n 2, 1) := by decide +kernel
theorem dX12_unseen_34 : decode cX12_unseen 34 = .ok (.iinc 3 1, 3) := by decide +kernel
theorem dX12_unseen_37 : decode cX12_unseen 37 = .ok (.goto (-24), 3) := by decide +kernel
theorem dX12_unseen_40 : decode cX12_unseen 40 = .ok (.iload_n 2, 1) := by decide +kernel
theorem dX12_unseen_41 : decode cX12_unseen 41 = .ok (.ireturn, 1) := by decide +kernel
theorem dX12_dark_0 : decode cX12_dark 0 = .ok (.aload_n 0, 1) := by decide +kernel
theorem dX12_dark_1 : decode cX12_dark 1 = .ok (.iconst 0, 1) := by decide +kernel
theorem dX12_dark_2 : decode cX12_dark 2 = .ok (.putfield 1, 3) := by decide +kernel
theorem dX12_dark_5 : decode cX12_dark 5 = .ok (.aload_n 0, 1) := by decide +kernel
theorem dX12_dark_6 : decode cX12_dark 6 = .ok (.iload_n 1, 1) := by decide +kernel
theorem dX12_dark_7 : decode cX12_dark 7 = .ok (.invokevirtual 259, 3) := by decide +kernel
theorem dX12_dark_10 : decode cX12_dark 10 = .ok (.ifCond .ne 5, 3) := by decide +kernel
theorem dX12_dark_13 : decode cX12_dark 13 = .ok (.iconst (-1), 1) := by decide +kernel
theorem dX12_dark_14 : decode cX12_dark 14 = .ok (.ireturn, 1) := by decide +kernel
theorem dX12_dark_15 : decode cX12_dark 15 = .ok (.iconst 0, 1) := by decide +kernel
theorem dX12_dark_16 : decode cX12_dark 16 = .ok (.istore_n 2, 1) := by decide +kernel
theorem dX12_dark_17 : decode cX12_dark 17 = .ok (.iload_n 2, 1) := by decide +kernel
theorem dX12_dark_18 : decode cX12_dark 18 = .ok (.bipush 60, 2) := by decide +kernel
theorem dX12_dark_20 : decode cX12_dark 20 = .ok (.if_icmp .gt 38, 3) := by decide +kernel
theorem dX12_dark_23 : decode cX12_dark 23 = .ok (.aload_n 0, 1) := by decide +kernel
theorem dX12_dark_24 : decode cX12_dark 24 = .ok (.getfield 98, 3) := by decide +kernel
theorem dX12_dark_27 : decode cX12_dark 27 = .ok (.bipush 24, 2) := by decide +kernel
theorem dX12_dark_29 : decode cX12_dark 29 = .ok (.iaload, 1) := by decide +kernel
theorem dX12_dark_30 : decode cX12_dark 30 = .ok (.iload_n 2, 1) := by decide +kernel
theorem dX12_dark_31 : decode cX12_dark 31 = .ok (.iadd, 1) := by decide +kernel
theorem dX12_dark_32 : decode cX12_dark 32 = .ok (.sipush 400, 3) := by decide +kernel
theorem dX12_dark_35 : decode cX12_dark 35 = .ok (.if_icmp .gt 23, 3) := by decide +kernel
theorem dX12_dark_38 : decode cX12_dark 38 = .ok (.aload_n 0, 1) := by decide +kernel
theorem dX12_dark_39 : decode cX12_dark 39 = .ok (.iload_n 2, 1) := by decide +kernel
theorem dX12_dark_40 : decode cX12_dark 40 = .ok (.invokevirtual 265, 3) := by decide +kernel
theorem dX12_dark_43 : decode cX12_dark 43 = .ok (.iload_n 1, 1) := by decide +kernel
theorem dX12_dark_44 : decode cX12_dark 44 = .ok (.invokestatic 181, 3) := by decide +kernel
theorem dX12_dark_47 : decode cX12_dark 47 = .ok (.ifCond .eq 5, 3) := by decide +kernel
theorem dX12_dark_50 : decode cX12_dark 50 = .ok (.iload_n 2, 1) := by decide +kernel
theorem dX12_dark_51 : decode cX12_dark 51 = .ok (.ireturn, 1) := by decide +kernel
theorem dX12_dark_52 : decode cX12_dark 52 = .ok (.iinc 2 1, 3) := by decide +kernel
theorem dX12_dark_55 : decode cX12_dark 55 = .ok (.goto (-38), 3) := by decide +kernel
theorem dX12_dark_58 : decode cX12_dark 58 = .ok (.iconst (-1), 1) := by decide +kernel
theorem dX12_dark_59 : decode cX12_dark 59 = .ok (.ireturn, 1) := by decide +kernel
theorem dX12_days_0 : decode cX12_days 0 = .ok (.aload_n 0, 1) := by decide +kernel
theorem dX12_days_1 : decode cX12_days 1 = .ok (.iconst 0, 1) := by decide +kernel
theorem dX12_days_2 : decode cX12_days 2 = .ok (.putfield 1, 3) := by decide +kernel
theorem dX12_days_5 : decode cX12_days 5 = .ok (.iload_n 1, 1) := by decide +kernel
theorem dX12_days_6 : decode cX12_days 6 = .ok (.iconst 1, 1) := by decide +kernel
theorem dX12_days_7 : decode cX12_days 7 = .ok (.bipush 60, 2) := by decide +kernel
theorem dX12_days_9 : decode cX12_days 9 = .ok (.invokestatic 75, 3) := by decide +kernel
theorem dX12_days_12 : decode cX12_days 12 = .ok (.ifCond .ne 5, 3) := by decide +kernel
theorem dX12_days_15 : decode cX12_days 15 = .ok (.iconst (-1), 1) := by decide +kernel
theorem dX12_days_16 : decode cX12_days 16 = .ok (.ireturn, 1) := by decide +kernel
theorem dX12_days_17 : decode cX12_days 17 = .ok (.aload_n 0, 1) := by decide +kernel
theorem dX12_days_18 : decode cX12_days 18 = .ok (.getfield 98, 3) := by decide +kernel
theorem dX12_days_21 : decode cX12_days 21 = .ok (.bipush 24, 2) := by decide +kernel
theorem dX12_days_23 : decode cX12_days 23 = .ok (.iaload, 1) := by decide +kernel
theorem dX12_days_24 : decode cX12_days 24 = .ok (.sipush 400, 3) := by decide +kernel
theorem dX12_days_27 : decode cX12_days 27 = .ok (.if_icmp .ne 5, 3) := by decide +kernel
theorem dX12_days_30 : decode cX12_days 30 = .ok (.iconst 0, 1) := by decide +kernel
theorem dX12_days_31 : decode cX12_days 31 = .ok (.ireturn, 1) := by decide +kernel
theorem dX12_days_32 : decode cX12_days 32 = .ok (.aload_n 0, 1) := by decide +kernel
theorem dX12_days_33 : decode cX12_days 33 = .ok (.invokevirtual 279, 3) := by decide +kernel
theorem dX12_days_36 : decode cX12_days 36 = .ok (.aload_n 0, 1) := by decide +kernel
theorem dX12_days_37 : decode cX12_days 37 = .ok (.iload_n 1, 1) := by decide +kernel
theorem dX12_days_38 : decode cX12_days 38 = .ok (.invokevirtual 302, 3) := by decide +kernel
theorem dX12_days_41 : decode cX12_days 41 = .ok (.ireturn, 1) := by decide +kernel
theorem dX12_isDeed_0 : decode cX12_isDeed 0 = .ok (.iload_n 1, 1) := by decide +kernel
theorem dX12_isDeed_1 : decode cX12_isDeed 1 = .ok (.iconst 0, 1) := by decide +kernel
theorem dX12_isDeed_2 : decode cX12_isDeed 2 = .ok (.aload_n 0, 1) := by decide +kernel
theorem dX12_isDeed_3 : decode cX12_isDeed 3 = .ok (.getfield 98, 3) := by decide +kernel
theorem dX12_isDeed_6 : decode cX12_isDeed 6 = .ok (.iconst 3, 1) := by decide +kernel
theorem dX12_isDeed_7 : decode cX12_isDeed 7 = .ok (.iaload, 1) := by decide +kernel
theorem dX12_isDeed_8 : decode cX12_isDeed 8 = .ok (.iconst 1, 1) := by decide +kernel
theorem dX12_isDeed_9 : decode cX12_isDeed 9 = .ok (.isub, 1) := by decide +kernel
theorem dX12_isDeed_10 : decode cX12_isDeed 10 = .ok (.invokestatic 75, 3) := by decide +kernel
theorem dX12_isDeed_13 : decode cX12_isDeed 13 = .ok (.ireturn, 1) := by decide +kernel
theorem dX12_isPerson_0 : decode cX12_isPerson 0 = .ok (.iload_n 1, 1) := by decide +kernel
theorem dX12_isPerson_1 : decode cX12_isPerson 1 = .ok (.iconst 0, 1) := by decide +kernel
theorem dX12_isPerson_2 : decode cX12_isPerson 2 = .ok (.aload_n 0, 1) := by decide +kernel
theorem dX12_isPerson_3 : decode cX12_isPerson 3 = .ok (.getfield 98, 3) := by decide +kernel
theorem dX12_isPerson_6 : decode cX12_isPerson 6 = .ok (.iconst 2, 1) := by decide +kernel
theorem dX12_isPerson_7 : decode cX12_isPerson 7 = .ok (.iaload, 1) := by decide +kernel
theorem dX12_isPerson_8 : decode cX12_isPerson 8 = .ok (.iconst 1, 1) := by decide +kernel
theorem dX12_isPerson_9 : decode cX12_isPerson 9 = .ok (.isub, 1) := by decide +kernel
theorem dX12_isPerson_10 : decode cX12_isPerson 10 = .ok (.invokestatic 75, 3) := by decide +kernel
theorem dX12_isPerson_13 : decode cX12_isPerson 13 = .ok (.ireturn, 1) := by decide +kernel
theorem dX12_does_0 : decode cX12_does 0 = .ok (.aload_n 0, 1) := by decide +kernel
theorem dX12_does_1 : decode cX12_does 1 = .ok (.iconst 0, 1) := by decide +kernel
theorem dX12_does_2 : decode cX12_does 2 = .ok (.putfield 1, 3) := by decide +kernel
theorem dX12_does_5 : decode cX12_does 5 = .ok (.aload_n 0, 1) := by decide +kernel
theorem dX12_does_6 : decode cX12_does 6 = .ok (.iconst 0, 1) := by decide +kernel
theorem dX12_does_7 : decode cX12_does 7 = .ok (.iload_n 1, 1) := by decide +kernel
theorem dX12_does_8 : decode cX12_does 8 = .ok (.iload_n 2, 1) := by decide +kernel
theorem dX12_does_9 : decode cX12_does 9 = .ok (.iload_n 3, 1) := by decide +kernel
theorem dX12_does_10 : decode cX12_does 10 = .ok (.aload_n 0, 1) := by decide +kernel
theorem dX12_does_11 : decode cX12_does 11 = .ok (.iload_n 1, 1) := by decide +kernel
theorem dX12_does_12 : decode cX12_does 12 = .ok (.invokevirtual 286, 3) := by decide +kernel
theorem dX12_does_15 : decode cX12_does 15 = .ok (.ifCond .eq 23, 3) := by decide +kernel
theorem dX12_does_18 : decode cX12_does 18 = .ok (.aload_n 0, 1) := by decide +kernel
theorem dX12_does_19 : decode cX12_does 19 = .ok (.iload_n 2, 1) := by decide +kernel
theorem dX12_does_20 : decode cX12_does 20 = .ok (.invokevirtual 289, 3) := by decide +kernel
theorem dX12_does_23 : decode cX12_does 23 = .ok (.ifCond .eq 15, 3) := by decide +kernel
theorem dX12_does_26 : decode cX12_does 26 = .ok (.aload_n 0, 1) := by decide +kernel
theorem dX12_does_27 : decode cX12_does 27 = .ok (.iload_n 3, 1) := by decide +kernel
theorem dX12_does_28 : decode cX12_does 28 = .ok (.invokevirtual 259, 3) := by decide +kernel
theorem dX12_does_31 : decode cX12_does 31 = .ok (.ifCond .eq 7, 3) := by decide +kernel
theorem dX12_does_34 : decode cX12_does 34 = .ok (.iconst 1, 1) := by decide +kernel
theorem dX12_does_35 : decode cX12_does 35 = .ok (.goto 4, 3) := by decide +kernel
theorem dX12_does_38 : decode cX12_does 38 = .ok (.iconst 0, 1) := by decide +kernel
theorem dX12_does_39 : decode cX12_does 39 = .ok (.invokevirtual 292, 3) := by decide +kernel
theorem dX12_does_42 : decode cX12_does 42 = .ok (.ireturn, 1) := by decide +kernel
theorem dX12_draw_0 : decode cX12_draw 0 = .ok (.aload_n 0, 1) := by decide +kernel
theorem dX12_draw_1 : decode cX12_draw 1 = .ok (.aload_n 0, 1) := by decide +kernel
theorem dX12_draw_2 : decode cX12_draw 2 = .ok (.getfield 350, 3) := by decide +kernel
theorem dX12_draw_5 : decode cX12_draw 5 = .ok (.ldc_w 353, 3) := by decide +kernel
theorem dX12_draw_8 : decode cX12_draw 8 = .ok (.imul, 1) := by decide +kernel
theorem dX12_draw_9 : decode cX12_draw 9 = .ok (.sipush 12345, 3) := by decide +kernel
theorem dX12_draw_12 : decode cX12_draw 12 = .ok (.iadd, 1) := by decide +kernel
theorem dX12_draw_13 : decode cX12_draw 13 = .ok (.putfield 350, 3) := by decide +kernel
theorem dX12_draw_16 : decode cX12_draw 16 = .ok (.aload_n 0, 1) := by decide +kernel
theorem dX12_draw_17 : decode cX12_draw 17 = .ok (.getfield 350, 3) := by decide +kernel
theorem dX12_draw_20 : decode cX12_draw 20 = .ok (.bipush 8, 2) := by decide +kernel
theorem dX12_draw_22 : decode cX12_draw 22 = .ok (.iushr, 1) := by decide +kernel
theorem dX12_draw_23 : decode cX12_draw 23 = .ok (.iload_n 1, 1) := by decide +kernel
theorem dX12_draw_24 : decode cX12_draw 24 = .ok (.irem, 1) := by decide +kernel
theorem dX12_draw_25 : decode cX12_draw 25 = .ok (.ireturn, 1) := by decide +kernel
theorem dX12_drawsFor_0 : decode cX12_drawsFor 0 = .ok (.aload_n 0, 1) := by decide +kernel
theorem dX12_drawsFor_1 : decode cX12_drawsFor 1 = .ok (.bipush 6, 2) := by decide +kernel
theorem dX12_drawsFor_3 : decode cX12_drawsFor 3 = .ok (.invokevirtual 354, 3) := by decide +kernel
theorem dX12_drawsFor_6 : decode cX12_drawsFor 6 = .ok (.istore_n 2, 1) := by decide +kernel
theorem dX12_drawsFor_7 : decode cX12_drawsFor 7 = .ok (.iload_n 2, 1) := by decide +kernel
theorem dX12_drawsFor_8 : decode cX12_drawsFor 8 = .ok (.ifCond .ne 63, 3) := by decide +kernel
theorem dX12_drawsFor_11 : decode cX12_drawsFor 11 = .ok (.aload_n 0, 1) := by decide +kernel
theorem dX12_drawsFor_12 : decode cX12_drawsFor 12 = .ok (.getfield 98, 3) := by decide +kernel
theorem dX12_drawsFor_15 : decode cX12_drawsFor 15 = .ok (.iconst 3, 1) := by decide +kernel
theorem dX12_drawsFor_16 : decode cX12_drawsFor 16 = .ok (.iaload, 1) := by decide +kernel
theorem dX12_drawsFor_17 : decode cX12_drawsFor 17 = .ok (.ifCond .le 54, 3) := by decide +kernel
theorem dX12_drawsFor_20 : decode cX12_drawsFor 20 = .ok (.aload_n 0, 1) := by decide +kernel
theorem dX12_drawsFor_21 : decode cX12_drawsFor 21 = .ok (.getfield 98, 3) := by decide +kernel
theorem dX12_drawsFor_24 : decode cX12_drawsFor 24 = .ok (.iconst 0, 1) := by decide +kernel
theorem dX12_drawsFor_25 : decode cX12_drawsFor 25 = .ok (.iaload, 1) := by decide +kernel
theorem dX12_drawsFor_26 : decode cX12_drawsFor 26 = .ok (.ifCond .le 45, 3) := by decide +kernel
theorem dX12_drawsFor_29 : decode cX12_drawsFor 29 = .ok (.aload_n 0, 1) := by decide +kernel
theorem dX12_drawsFor_30 : decode cX12_drawsFor 30 = .ok (.aload_n 0, 1) := by decide +kernel
theorem dX12_drawsFor_31 : decode cX12_drawsFor 31 = .ok (.getfield 98, 3) := by decide +kernel
theorem dX12_drawsFor_34 : decode cX12_drawsFor 34 = .ok (.iconst 3, 1) := by decide +kernel
theorem dX12_drawsFor_35 : decode cX12_drawsFor 35 = .ok (.iaload, 1) := by decide +kernel
theorem dX12_drawsFor_36 : decode cX12_drawsFor 36 = .ok (.invokevirtual 354, 3) := by decide +kernel
theorem dX12_drawsFor_39 : decode cX12_drawsFor 39 = .ok (.istore_n 3, 1) := by decide +kernel
theorem dX12_drawsFor_40 : decode cX12_drawsFor 40 = .ok (.aload_n 0, 1) := by decide +kernel
theorem dX12_drawsFor_41 : decode cX12_drawsFor 41 = .ok (.aload_n 0, 1) := by decide +kernel
theorem dX12_drawsFor_42 : decode cX12_drawsFor 42 = .ok (.getfield 98, 3) := by decide +kernel
theorem dX12_drawsFor_45 : decode cX12_drawsFor 45 = .ok (.iconst 0, 1) := by decide +kernel
theorem dX12_drawsFor_46 : decode cX12_drawsFor 46 = .ok (.iaload, 1) := by decide +kernel
theorem dX12_drawsFor_47 : decode cX12_drawsFor 47 = .ok (.invokevirtual 354, 3) := by decide +kernel
theorem dX12_drawsFor_50 : decode cX12_drawsFor 50 = .ok (.istore 4, 2) := by decide +kernel
theorem dX12_drawsFor_52 : decode cX12_drawsFor 52 = .ok (.aload_n 0, 1) := by decide +kernel
theorem dX12_drawsFor_53 : decode cX12_drawsFor 53 = .ok (.iconst 0, 1) := by decide +kernel
theorem dX12_drawsFor_54 : decode cX12_drawsFor 54 = .ok (.iload_n 1, 1) := by decide +kernel
theorem dX12_drawsFor_55 : decode cX12_drawsFor 55 = .ok (.iload_n 3, 1) := by decide +kernel
theorem dX12_drawsFor_56 : decode cX12_drawsFor 56 = .ok (.invokevirtual 275, 3) := by decide +kernel
theorem dX12_drawsFor_59 : decode cX12_drawsFor 59 = .ok (.ifCond .ne 12, 3) := by decide +kernel
theorem dX12_drawsFor_62 : decode cX12_drawsFor 62 = .ok (.aload_n 0, 1) := by decide +kernel
theorem dX12_drawsFor_63 : decode cX12_drawsFor 63 = .ok (.iconst 0, 1) := by decide +kernel
theorem dX12_drawsFor_64 : decode cX12_drawsFor 64 = .ok (.iload_n 1, 1) := by decide +kernel
theorem dX12_drawsFor_65 : decode cX12_drawsFor 65 = .ok (.iload_n 3, 1) := by decide +kernel
theorem dX12_drawsFor_66 : decode cX12_drawsFor 66 = .ok (.iload 4, 2) := by decide +kernel
theorem dX12_drawsFor_68 : decode cX12_drawsFor 68 = .ok (.invokevirtual 282, 3) := by decide +kernel
theorem dX12_drawsFor_71 : decode cX12_drawsFor 71 = .ok (.iload_n 2, 1) := by decide +kernel
theorem dX12_drawsFor_72 : decode cX12_drawsFor 72 = .ok (.iconst 1, 1) := by decide +kernel
theorem dX12_drawsFor_73 : decode cX12_drawsFor 73 = .ok (.if_icmp .eq 8, 3) := by decide +kernel
theorem dX12_drawsFor_76 : decode cX12_drawsFor 76 = .ok (.iload_n 2, 1) := by decide +kernel
theorem dX12_drawsFor_77 : decode cX12_drawsFor 77 = .ok (.iconst 2, 1) := by decide +kernel
theorem dX12_drawsFor_78 : decode cX12_drawsFor 78 = .ok (.if_icmp .ne 12, 3) := by decide +kernel
theorem dX12_drawsFor_81 : decode cX12_drawsFor 81 = .ok (.aload_n 0, 1) := by decide +kernel
theorem dX12_drawsFor_82 : decode cX12_drawsFor 82 = .ok (.getfield 98, 3) := by decide +kernel
theorem dX12_drawsFor_85 : decode cX12_drawsFor 85 = .ok (.iconst 1, 1) := by decide +kernel
theorem dX12_drawsFor_86 : decode cX12_drawsFor 86 = .ok (.iaload, 1) := by decide +kernel
theorem dX12_drawsFor_87 : decode cX12_drawsFor 87 = .ok (.ifCond .ne 4, 3) := by decide +kernel
theorem dX12_drawsFor_90 : decode cX12_drawsFor 90 = .ok (.return_, 1) := by decide +kernel
theorem dX12_drawsFor_91 : decode cX12_drawsFor 91 = .ok (.aload_n 0, 1) := by decide +kernel
theorem dX12_drawsFor_92 : decode cX12_drawsFor 92 = .ok (.aload_n 0, 1) := by decide +kernel
theorem dX12_drawsFor_93 : decode cX12_drawsFor 93 = .ok (.getfield 98, 3) := by decide +kernel
theorem dX12_drawsFor_96 : decode cX12_drawsFor 96 = .ok (.iconst 1, 1) := by decide +kernel
theorem dX12_drawsFor_97 : decode cX12_drawsFor 97 = .ok (.iaload, 1) := by decide +kernel
theorem dX12_drawsFor_98 : decode cX12_drawsFor 98 = .ok (.invokevirtual 354, 3) := by decide +kernel
theorem dX12_drawsFor_101 : decode cX12_drawsFor 101 = .ok (.istore_n 3, 1) := by decide +kernel
theorem dX12_drawsFor_102 : decode cX12_drawsFor 102 = .ok (.iload_n 2, 1) := by decide +kernel
theorem dX12_drawsFor_103 : decode cX12_drawsFor 103 = .ok (.iconst 1, 1) := by decide +kernel
theorem dX12_drawsFor_104 : decode cX12_drawsFor 104 = .ok (.if_icmp .ne 12, 3) := by decide +kernel
theorem dX12_drawsFor_107 : decode cX12_drawsFor 107 = .ok (.aload_n 0, 1) := by decide +kernel
theorem dX12_drawsFor_108 : decode cX12_drawsFor 108 = .ok (.iconst 1, 1) := by decide +kernel
theorem dX12_drawsFor_109 : decode cX12_drawsFor 109 = .ok (.iload_n 3, 1) := by decide +kernel
theorem dX12_drawsFor_110 : decode cX12_drawsFor 110 = .ok (.iconst 0, 1) := by decide +kernel
theorem dX12_drawsFor_111 : decode cX12_drawsFor 111 = .ok (.iconst 0, 1) := by decide +kernel
theorem dX12_drawsFor_112 : decode cX12_drawsFor 112 = .ok (.invokevirtual 282, 3) := by decide +kernel
theorem dX12_drawsFor_115 : decode cX12_drawsFor 115 = .ok (.return_, 1) := by decide +kernel
theorem dX12_drawsFor_116 : decode cX12_drawsFor 116 = .ok (.aload_n 0, 1) := by decide +kernel
theorem dX12_drawsFor_117 : decode cX12_drawsFor 117 = .ok (.iconst 2, 1) := by decide +kernel
theorem dX12_drawsFor_118 : decode cX12_drawsFor 118 = .ok (.iload_n 3, 1) := by decide +kernel
theorem dX12_drawsFor_119 : decode cX12_drawsFor 119 = .ok (.aload_n 0, 1) := by decide +kernel
theorem dX12_drawsFor_120 : decode cX12_drawsFor 120 = .ok (.aload_n 0, 1) := by decide +kernel
theorem dX12_drawsFor_121 : decode cX12_drawsFor 121 = .ok (.getfield 98, 3) := by decide +kernel
theorem dX12_drawsFor_124 : decode cX12_drawsFor 124 = .ok (.iconst 0, 1) := by decide +kernel
theorem dX12_drawsFor_125 : decode cX12_drawsFor 125 = .ok (.iaload, 1) := by decide +kernel
theorem dX12_drawsFor_126 : decode cX12_drawsFor 126 = .ok (.invokevirtual 354, 3) := by decide +kernel
theorem dX12_drawsFor_129 : decode cX12_drawsFor 129 = .ok (.iconst 0, 1) := by decide +kernel
theorem dX12_drawsFor_130 : decode cX12_drawsFor 130 = .ok (.invokevirtual 282, 3) := by decide +kernel
theorem dX12_drawsFor_133 : decode cX12_drawsFor 133 = .ok (.return_, 1) := by decide +kernel
theorem dX12_drawDays_0 : decode cX12_drawDays 0 = .ok (.aload_n 0, 1) := by decide +kernel
theorem dX12_drawDays_1 : decode cX12_drawDays 1 = .ok (.iload_n 2, 1) := by decide +kernel
theorem dX12_drawDays_2 : decode cX12_drawDays 2 = .ok (.putfield 350, 3) := by decide +kernel
theorem dX12_drawDays_5 : decode cX12_drawDays 5 = .ok (.iload_n 1, 1) := by decide +kernel
theorem dX12_drawDays_6 : decode cX12_drawDays 6 = .ok (.sipush 400, 3) := by decide +kernel
theorem dX12_drawDays_9 : decode cX12_drawDays 9 = .ok (.aload_n 0, 1) := by decide +kernel
theorem dX12_drawDays_10 : decode cX12_drawDays 10 = .ok (.getfield 98, 3) := by decide +kernel
theorem dX12_drawDays_13 : decode cX12_drawDays 13 = .ok (.bipush 24, 2) := by decide +kernel
theorem dX12_drawDays_15 : decode cX12_drawDays 15 = .ok (.iaload, 1) := by decide +kernel
theorem dX12_drawDays_16 : decode cX12_drawDays 16 = .ok (.isub, 1) := by decide +kernel
theorem dX12_drawDays_17 : decode cX12_drawDays 17 = .ok (.invokestatic 296, 3) := by decide +kernel
theorem dX12_drawDays_20 : decode cX12_drawDays 20 = .ok (.istore_n 3, 1) := by decide +kernel
theorem dX12_drawDays_21 : decode cX12_drawDays 21 = .ok (.iconst 0, 1) := by decide +kernel
theorem dX12_drawDays_22 : decode cX12_drawDays 22 = .ok (.istore 4, 2) := by decide +kernel
theorem dX12_drawDays_24 : decode cX12_drawDays 24 = .ok (.iload 4, 2) := by decide +kernel
theorem dX12_drawDays_26 : decode cX12_drawDays 26 = .ok (.iload_n 3, 1) := by decide +kernel
theorem dX12_drawDays_27 : decode cX12_drawDays 27 = .ok (.if_icmp .ge 39, 3) := by decide +kernel
theorem dX12_drawDays_30 : decode cX12_drawDays 30 = .ok (.iconst 0, 1) := by decide +kernel
theorem dX12_drawDays_31 : decode cX12_drawDays 31 = .ok (.istore 5, 2) := by decide +kernel
theorem dX12_drawDays_33 : decode cX12_drawDays 33 = .ok (.iload 5, 2) := by decide +kernel
theorem dX12_drawDays_35 : decode cX12_drawDays 35 = .ok (.aload_n 0, 1) := by decide +kernel
theorem dX12_drawDays_36 : decode cX12_drawDays 36 = .ok (.getfield 98, 3) := by decide +kernel
theorem dX12_drawDays_39 : decode cX12_drawDays 39 = .ok (.iconst 2, 1) := by decide +kernel
theorem dX12_drawDays_40 : decode cX12_drawDays 40 = .ok (.iaload, 1) := by decide +kernel
theorem dX12_drawDays_41 : decode cX12_drawDays 41 = .ok (.if_icmp .ge 15, 3) := by decide +kernel
theorem dX12_drawDays_44 : decode cX12_drawDays 44 = .ok (.aload_n 0, 1) := by decide +kernel
theorem dX12_drawDays_45 : decode cX12_drawDays 45 = .ok (.iload 5, 2) := by decide +kernel
theorem dX12_drawDays_47 : decode cX12_drawDays 47 = .ok (.invokevirtual 357, 3) := by decide +kernel
theorem dX12_drawDays_50 : decode cX12_drawDays 50 = .ok (.iinc 5 1, 3) := by decide +kernel
theorem dX12_drawDays_53 : decode cX12_drawDays 53 = .ok (.goto (-20), 3) := by decide +kernel
theorem dX12_drawDays_56 : decode cX12_drawDays 56 = .ok (.aload_n 0, 1) := by decide +kernel
theorem dX12_drawDays_57 : decode cX12_drawDays 57 = .ok (.invokevirtual 299, 3) := by decide +kernel
theorem dX12_drawDays_60 : decode cX12_drawDays 60 = .ok (.iinc 4 1, 3) := by decide +kernel
theorem dX12_drawDays_63 : decode cX12_drawDays 63 = .ok (.goto (-39), 3) := by decide +kernel
theorem dX12_drawDays_66 : decode cX12_drawDays 66 = .ok (.iload_n 3, 1) := by decide +kernel
theorem dX12_drawDays_67 : decode cX12_drawDays 67 = .ok (.ireturn, 1) := by decide +kernel
theorem dX12_drawn_0 : decode cX12_drawn 0 = .ok (.aload_n 0, 1) := by decide +kernel
theorem dX12_drawn_1 : decode cX12_drawn 1 = .ok (.iconst 0, 1) := by decide +kernel
theorem dX12_drawn_2 : decode cX12_drawn 2 = .ok (.putfield 1, 3) := by decide +kernel
theorem dX12_drawn_5 : decode cX12_drawn 5 = .ok (.iload_n 1, 1) := by decide +kernel
theorem dX12_drawn_6 : decode cX12_drawn 6 = .ok (.iconst 1, 1) := by decide +kernel
theorem dX12_drawn_7 : decode cX12_drawn 7 = .ok (.bipush 60, 2) := by decide +kernel
theorem dX12_drawn_9 : decode cX12_drawn 9 = .ok (.invokestatic 75, 3) := by decide +kernel
theorem dX12_drawn_12 : decode cX12_drawn 12 = .ok (.ifCond .ne 5, 3) := by decide +kernel
theorem dX12_drawn_15 : decode cX12_drawn 15 = .ok (.iconst (-1), 1) := by decide +kernel
theorem dX12_drawn_16 : decode cX12_drawn 16 = .ok (.ireturn, 1) := by decide +kernel
theorem dX12_drawn_17 : decode cX12_drawn 17 = .ok (.aload_n 0, 1) := by decide +kernel
theorem dX12_drawn_18 : decode cX12_drawn 18 = .ok (.getfield 98, 3) := by decide +kernel
theorem dX12_drawn_21 : decode cX12_drawn 21 = .ok (.bipush 24, 2) := by decide +kernel
theorem dX12_drawn_23 : decode cX12_drawn 23 = .ok (.iaload, 1) := by decide +kernel
theorem dX12_drawn_24 : decode cX12_drawn 24 = .ok (.sipush 400, 3) := by decide +kernel
theorem dX12_drawn_27 : decode cX12_drawn 27 = .ok (.if_icmp .ne 5, 3) := by decide +kernel
theorem dX12_drawn_30 : decode cX12_drawn 30 = .ok (.iconst 0, 1) := by decide +kernel
theorem dX12_drawn_31 : decode cX12_drawn 31 = .ok (.ireturn, 1) := by decide +kernel
theorem dX12_drawn_32 : decode cX12_drawn 32 = .ok (.aload_n 0, 1) := by decide +kernel
theorem dX12_drawn_33 : decode cX12_drawn 33 = .ok (.invokevirtual 279, 3) := by decide +kernel
theorem dX12_drawn_36 : decode cX12_drawn 36 = .ok (.aload_n 0, 1) := by decide +kernel
theorem dX12_drawn_37 : decode cX12_drawn 37 = .ok (.iload_n 1, 1) := by decide +kernel
theorem dX12_drawn_38 : decode cX12_drawn 38 = .ok (.iload_n 2, 1) := by decide +kernel
theorem dX12_drawn_39 : decode cX12_drawn 39 = .ok (.invokevirtual 360, 3) := by decide +kernel
theorem dX12_drawn_42 : decode cX12_drawn 42 = .ok (.ireturn, 1) := by decide +kernel
theorem dX12_shownBy_0 : decode cX12_shownBy 0 = .ok (.iconst 0, 1) := by decide +kernel
theorem dX12_shownBy_1 : decode cX12_shownBy 1 = .ok (.istore_n 3, 1) := by decide +kernel
theorem dX12_shownBy_2 : decode cX12_shownBy 2 = .ok (.iconst 0, 1) := by decide +kernel
theorem dX12_shownBy_3 : decode cX12_shownBy 3 = .ok (.istore 4, 2) := by decide +kernel
theorem dX12_shownBy_5 : decode cX12_shownBy 5 = .ok (.iload 4, 2) := by decide +kernel
theorem dX12_shownBy_7 : decode cX12_shownBy 7 = .ok (.aload_n 0, 1) := by decide +kernel
theorem dX12_shownBy_8 : decode cX12_shownBy 8 = .ok (.getfield 98, 3) := by decide +kernel
theorem dX12_shownBy_11 : decode cX12_shownBy 11 = .ok (.bipush 25, 2) := by decide +kernel
theorem dX12_shownBy_13 : decode cX12_shownBy 13 = .ok (.iaload, 1) := by decide +kernel
theorem dX12_shownBy_14 : decode cX12_shownBy 14 = .ok (.if_icmp .ge 43, 3) := by decide +kernel
theorem dX12_shownBy_17 : decode cX12_shownBy 17 = .ok (.iload_n 2, 1) := by decide +kernel
theorem dX12_shownBy_18 : decode cX12_shownBy 18 = .ok (.ifCond .eq 16, 3) := by decide +kernel
theorem dX12_shownBy_21 : decode cX12_shownBy 21 = .ok (.aload_n 0, 1) := by decide +kernel
theorem dX12_shownBy_22 : decode cX12_shownBy 22 = .ok (.iload_n 1, 1) := by decide +kernel
theorem dX12_shownBy_23 : decode cX12_shownBy 23 = .ok (.iload 4, 2) := by decide +kernel
theorem dX12_shownBy_25 : decode cX12_shownBy 25 = .ok (.invokevirtual 228, 3) := by decide +kernel
theorem dX12_shownBy_28 : decode cX12_shownBy 28 = .ok (.ifCond .eq 23, 3) := by decide +kernel
theorem dX12_shownBy_31 : decode cX12_shownBy 31 = .ok (.goto 13, 3) := by decide +kernel
theorem dX12_shownBy_34 : decode cX12_shownBy 34 = .ok (.aload_n 0, 1) := by decide +kernel
theorem dX12_shownBy_35 : decode cX12_shownBy 35 = .ok (.iload_n 1, 1) := by decide +kernel
theorem dX12_shownBy_36 : decode cX12_shownBy 36 = .ok (.iload 4, 2) := by decide +kernel
theorem dX12_shownBy_38 : decode cX12_shownBy 38 = .ok (.invokevirtual 231, 3) := by decide +kernel
theorem dX12_shownBy_41 : decode cX12_shownBy 41 = .ok (.ifCond .eq 10, 3) := by decide +kernel
theorem dX12_shownBy_44 : decode cX12_shownBy 44 = .ok (.iload_n 3, 1) := by decide +kernel
theorem dX12_shownBy_45 : decode cX12_shownBy 45 = .ok (.iconst 1, 1) := by decide +kernel
theorem dX12_shownBy_46 : decode cX12_shownBy 46 = .ok (.iload 4, 2) := by decide +kernel
theorem dX12_shownBy_48 : decode cX12_shownBy 48 = .ok (.ishl, 1) := by decide +kernel
theorem dX12_shownBy_49 : decode cX12_shownBy 49 = .ok (.ior, 1) := by decide +kernel
theorem dX12_shownBy_50 : decode cX12_shownBy 50 = .ok (.istore_n 3, 1) := by decide +kernel
theorem dX12_shownBy_51 : decode cX12_shownBy 51 = .ok (.iinc 4 1, 3) := by decide +kernel
theorem dX12_shownBy_54 : decode cX12_shownBy 54 = .ok (.goto (-49), 3) := by decide +kernel
theorem dX12_shownBy_57 : decode cX12_shownBy 57 = .ok (.iload_n 3, 1) := by decide +kernel
theorem dX12_shownBy_58 : decode cX12_shownBy 58 = .ok (.ireturn, 1) := by decide +kernel
theorem dX12_elder_0 : decode cX12_elder 0 = .ok (.aload_n 0, 1) := by decide +kernel
theorem dX12_elder_1 : decode cX12_elder 1 = .ok (.iconst 0, 1) := by decide +kernel
theorem dX12_elder_2 : decode cX12_elder 2 = .ok (.putfield 1, 3) := by decide +kernel
theorem dX12_elder_5 : decode cX12_elder 5 = .ok (.iconst (-1), 1) := by decide +kernel
theorem dX12_elder_6 : decode cX12_elder 6 = .ok (.istore_n 1, 1) := by decide +kernel
theorem dX12_elder_7 : decode cX12_elder 7 = .ok (.iconst 0, 1) := by decide +kernel
theorem dX12_elder_8 : decode cX12_elder 8 = .ok (.istore_n 2, 1) := by decide +kernel
theorem dX12_elder_9 : decode cX12_elder 9 = .ok (.iconst 0, 1) := by decide +kernel
theorem dX12_elder_10 : decode cX12_elder 10 = .ok (.istore_n 3, 1) := by decide +kernel
theorem dX12_elder_11 : decode cX12_elder 11 = .ok (.iload_n 3, 1) := by decide +kernel
theorem dX12_elder_12 : decode cX12_elder 12 = .ok (.aload_n 0, 1) := by decide +kernel
theorem dX12_elder_13 : decode cX12_elder 13 = .ok (.getfield 98, 3) := by decide +kernel
theorem dX12_elder_16 : decode cX12_elder 16 = .ok (.iconst 1, 1) := by decide +kernel
theorem dX12_elder_17 : decode cX12_elder 17 = .ok (.iaload, 1) := by decide +kernel
theorem dX12_elder_18 : decode cX12_elder 18 = .ok (.if_icmp .ge 34, 3) := by decide +kernel
theorem dX12_elder_21 : decode cX12_elder 21 = .ok (.aload_n 0, 1) := by decide +kernel
theorem dX12_elder_22 : decode cX12_elder 22 = .ok (.iload_n 3, 1) := by decide +kernel
theorem dX12_elder_23 : decode cX12_elder 23 = .ok (.iconst 1, 1) := by decide +kernel
theorem dX12_elder_24 : decode cX12_elder 24 = .ok (.invokevirtual 253, 3) := by decide +kernel
theorem dX12_elder_27 : decode cX12_elder 27 = .ok (.invokestatic 238, 3) := by decide +kernel
theorem dX12_elder_30 : decode cX12_elder 30 = .ok (.istore 4, 2) := by decide +kernel
theorem dX12_elder_32 : decode cX12_elder 32 = .ok (.iload 4, 2) := by decide +kernel
theorem dX12_elder_34 : decode cX12_elder 34 = .ok (.iload_n 2, 1) := by decide +kernel
theorem dX12_elder_35 : decode cX12_elder 35 = .ok (.if_icmp .gt 6, 3) := by decide +kernel
theorem dX12_elder_38 : decode cX12_elder 38 = .ok (.goto 8, 3) := by decide +kernel
theorem dX12_elder_41 : decode cX12_elder 41 = .ok (.iload 4, 2) := by decide +kernel
theorem dX12_elder_43 : decode cX12_elder 43 = .ok (.istore_n 2, 1) := by decide +kernel
theorem dX12_elder_44 : decode cX12_elder 44 = .ok (.iload_n 3, 1) := by decide +kernel
theorem dX12_elder_45 : decode cX12_elder 45 = .ok (.istore_n 1, 1) := by decide +kernel
theorem dX12_elder_46 : decode cX12_elder 46 = .ok (.iinc 3 1, 3) := by decide +kernel
theorem dX12_elder_49 : decode cX12_elder 49 = .ok (.goto (-38), 3) := by decide +kernel
theorem dX12_elder_52 : decode cX12_elder 52 = .ok (.iload_n 1, 1) := by decide +kernel
theorem dX12_elder_53 : decode cX12_elder 53 = .ok (.ireturn, 1) := by decide +kernel
theorem dX12_end_0 : decode cX12_end 0 = .ok (.aload_n 0, 1) := by decide +kernel
theorem dX12_end_1 : decode cX12_end 1 = .ok (.iconst 0, 1) := by decide +kernel
theorem dX12_end_2 : decode cX12_end 2 = .ok (.putfield 1, 3) := by decide +kernel
theorem dX12_end_5 : decode cX12_end 5 = .ok (.iload_n 1, 1) := by decide +kernel
theorem dX12_end_6 : decode cX12_end 6 = .ok (.ifCond .lt 11, 3) := by decide +kernel
theorem dX12_end_9 : decode cX12_end 9 = .ok (.iload_n 1, 1) := by decide +kernel
theorem dX12_end_10 : decode cX12_end 10 = .ok (.aload_n 0, 1) := by decide +kernel
theorem dX12_end_11 : decode cX12_end 11 = .ok (.getfield 11, 3) := by decide +kernel
theorem dX12_end_14 : decode cX12_end 14 = .ok (.if_icmp .le 5, 3) := by decide +kernel
theorem dX12_end_17 : decode cX12_end 17 = .ok (.iconst 0, 1) := by decide +kernel
theorem dX12_end_18 : decode cX12_end 18 = .ok (.ireturn, 1) := by decide +kernel
theorem dX12_end_19 : decode cX12_end 19 = .ok (.aload_n 0, 1) := by decide +kernel
theorem dX12_end_20 : decode cX12_end 20 = .ok (.iload_n 1, 1) := by decide +kernel
theorem dX12_end_21 : decode cX12_end 21 = .ok (.putfield 11, 3) := by decide +kernel
theorem dX12_end_24 : decode cX12_end 24 = .ok (.iconst 1, 1) := by decide +kernel
theorem dX12_end_25 : decode cX12_end 25 = .ok (.ireturn, 1) := by decide +kernel
-- X12_fewestSee
abbrev rmX12_fewestSee : Room := { frames := 3, cells := 0, slots := 0, locals := 64 }
def fX12_fewestSee_70 (S : zSt)  (v1 : Int32) (v2 : Int32) : Option ((zSt × Int32 × Int32) ⊕ (Int32 × zSt)) :=
  zLt (v2 + (1 : Int32)) (fun x9 => some (.inl (S, v1, x9)))
set_option maxHeartbeats 4000000 in
set_option maxRecDepth 100000 in
theorem kX12_fewestSee_70 {p : Program} {l : Launch} {e : Env} {s : State} {m : MethodId} {args : Array Value} {below : List Frame} {meth : Method} {c : Code} {D : va_G} {cy : Nat → ClassId} {q : Nat → Nat} {A : Nat → Prop} (cx : zX RX12 cX12_fewestSee 5 p s m args c D cy) (hr : meth.sig.returnType = (some .int)) (hlk : meth.locks = false) (hq : zQ A q zNM) {z : (Int32 × zSt)} {S : zSt} {v1 : Int32} {v2 : Int32} {C1 : ((zSt × Int32 × Int32) ⊕ (Int32 × zSt)) → Prop} (hb1 : ∀ (S : zSt) (v1 : Int32) (v2 : Int32), C1 (.inl (S, v1, v2)) → ∀ (H : Heap) (locs : List Loc), va_P D vwCl (zW zshM zNM cy q S) H → va_S A s.heap H locs → ∀ (ls : Array Slot), lv_has ls 5 [(0, .ref (q 0)), (1, .int v1), (2, .int v2)] → W p l e rmX12_fewestSee s m args below meth c H locs 0 0 (MQ below (va_Qi (fun (r : Int32) (u : zSt) => (r, u) = z) (fun u t => va_P D vwCl (zW zshM zNM cy q u) t.heap) A) args s 0 0 A) (F0 m 6 ls [])) (hx1 : ∀ a, C1 (.inr a) → a = z) {x : ((zSt × Int32 × Int32) ⊕ (Int32 × zSt))} (h : fX12_fewestSee_70 S v1 v2 = some x) (hc : C1 x) {H : Heap} {locs : List Loc} (hP : va_P D vwCl (zW zshM zNM cy q S) H) (hS : va_S A s.heap H locs) {ls : Array Slot} (hl : lv_has ls 5 [(0, .ref (q 0)), (1, .int v1), (2, .int v2)]) : W p l e rmX12_fewestSee s m args below meth c H locs 0 0 (MQ below (va_Qi (fun (r : Int32) (u : zSt) => (r, u) = z) (fun u t => va_P D vwCl (zW zshM zNM cy q u) t.heap) A) args s 0 0 A) (F0 m 70 ls []) := by
  have hx := cx.1
  have hb := cx.2.1
  unfold fX12_fewestSee_70 at h
  obtain ⟨x9, ex9, h⟩ := zLt_e h
  refine lv_iinc (v := x9) (lv' := [(2, .int x9), (0, .ref (q 0)), (1, .int v1)]) (pc := 70) hx hb dX12_fewestSee_70 hl (k := 2) rfl (by rw [zc_1]; exact ex9.symm) (by decide) rfl (fun ls hl => ?_)
  refine lv_goto (pc := 73) (tgt := 6) hx hb dX12_fewestSee_73 (by decide) ?_
  cases h
  exact hb1 _ _ _ hc _ _ hP hS _ (lv_sub hl [1, 2, 0] rfl)
def fX12_fewestSee_49 (S : zSt)  (v1 : Int32) (v2 : Int32) (v3 : Int32) (v4 : Int32) : Option ((Int32 × Int32) ⊕ ((zSt × Int32 × Int32) ⊕ (Int32 × zSt))) :=
  zLt (v4 + (1 : Int32)) (fun x15 => some (.inl (v3, x15)))
set_option maxHeartbeats 4000000 in
set_option maxRecDepth 100000 in
theorem kX12_fewestSee_49 {p : Program} {l : Launch} {e : Env} {s : State} {m : MethodId} {args : Array Value} {below : List Frame} {meth : Method} {c : Code} {D : va_G} {cy : Nat → ClassId} {q : Nat → Nat} {A : Nat → Prop} (cx : zX RX12 cX12_fewestSee 5 p s m args c D cy) (hr : meth.sig.returnType = (some .int)) (hlk : meth.locks = false) (hq : zQ A q zNM) {z : (Int32 × zSt)} {S : zSt} {v1 : Int32} {v2 : Int32} {v3 : Int32} {v4 : Int32} {C1 : ((zSt × Int32 × Int32) ⊕ (Int32 × zSt)) → Prop} (hb1 : ∀ (S : zSt) (v1 : Int32) (v2 : Int32), C1 (.inl (S, v1, v2)) → ∀ (H : Heap) (locs : List Loc), va_P D vwCl (zW zshM zNM cy q S) H → va_S A s.heap H locs → ∀ (ls : Array Slot), lv_has ls 5 [(0, .ref (q 0)), (1, .int v1), (2, .int v2)] → W p l e rmX12_fewestSee s m args below meth c H locs 0 0 (MQ below (va_Qi (fun (r : Int32) (u : zSt) => (r, u) = z) (fun u t => va_P D vwCl (zW zshM zNM cy q u) t.heap) A) args s 0 0 A) (F0 m 6 ls [])) (hx1 : ∀ a, C1 (.inr a) → a = z) {C2 : ((Int32 × Int32) ⊕ ((zSt × Int32 × Int32) ⊕ (Int32 × zSt))) → Prop} (hb2 : ∀ (v3 : Int32) (v4 : Int32), C2 (.inl (v3, v4)) → ∀ (H : Heap) (locs : List Loc), va_P D vwCl (zW zshM zNM cy q S) H → va_S A s.heap H locs → ∀ (ls : Array Slot), lv_has ls 5 [(0, .ref (q 0)), (1, .int v1), (2, .int v2), (3, .int v3), (4, .int v4)] → W p l e rmX12_fewestSee s m args below meth c H locs 0 0 (MQ below (va_Qi (fun (r : Int32) (u : zSt) => (r, u) = z) (fun u t => va_P D vwCl (zW zshM zNM cy q u) t.heap) A) args s 0 0 A) (F0 m 21 ls [])) (hx2 : ∀ a, C2 (.inr a) → C1 a) {x : ((Int32 × Int32) ⊕ ((zSt × Int32 × Int32) ⊕ (Int32 × zSt)))} (h : fX12_fewestSee_49 S v1 v2 v3 v4 = some x) (hc : C2 x) {H : Heap} {locs : List Loc} (hP : va_P D vwCl (zW zshM zNM cy q S) H) (hS : va_S A s.heap H locs) {ls : Array Slot} (hl : lv_has ls 5 [(0, .ref (q 0)), (1, .int v1), (2, .int v2), (3, .int v3), (4, .int v4)]) : W p l e rmX12_fewestSee s m args below meth c H locs 0 0 (MQ below (va_Qi (fun (r : Int32) (u : zSt) => (r, u) = z) (fun u t => va_P D vwCl (zW zshM zNM cy q u) t.heap) A) args s 0 0 A) (F0 m 49 ls []) := by
  have hx := cx.1
  have hb := cx.2.1
  unfold fX12_fewestSee_49 at h
  obtain ⟨x15, ex15, h⟩ := zLt_e h
  refine lv_iinc (v := x15) (lv' := [(4, .int x15), (0, .ref (q 0)), (1, .int v1), (2, .int v2), (3, .int v3)]) (pc := 49) hx hb dX12_fewestSee_49 hl (k := 4) rfl (by rw [zc_1]; exact ex15.symm) (by decide) rfl (fun ls hl => ?_)
  refine lv_goto (pc := 52) (tgt := 21) hx hb dX12_fewestSee_52 (by decide) ?_
  cases h
  exact hb2 _ _ hc _ _ hP hS _ (lv_sub hl [1, 2, 3, 4, 0] rfl)
def fX12_fewestSee_21 (S : zSt)  (v1 : Int32) (v2 : Int32) (t : (Int32 × Int32)) : Option ((Int32 × Int32) ⊕ ((zSt × Int32 × Int32) ⊕ (Int32 × zSt))) :=
  match t with
  | (v3, v4) => zGd (zIx (1 : Int32) 406) (zBr ((S.1 2 (1 : Int32).toNatClampNeg) ≤ v4) (zXr (zBr (v3 < v1) (zLt (zI S 0 32 v2) (fun S8 => fX12_fewestSee_70 S8 v3 v2)) (fX12_fewestSee_70 S v1 v2))) (zBd (fX12_seesOf S v4 (0 : Int32)) (fun r11 => zBd (fX12_has r11 v2) (fun r13 => zBr (r13 = 0) (fX12_fewestSee_49 S v1 v2 v3 v4) (zLt (v3 + (1 : Int32)) (fun x16 => fX12_fewestSee_49 S v1 v2 x16 v4))))))
set_option maxHeartbeats 4000000 in
set_option maxRecDepth 100000 in
theorem kX12_fewestSee_21B {p : Program} {l : Launch} {e : Env} {s : State} {m : MethodId} {args : Array Value} {below : List Frame} {meth : Method} {c : Code} {D : va_G} {cy : Nat → ClassId} {q : Nat → Nat} {A : Nat → Prop} (cx : zX RX12 cX12_fewestSee 5 p s m args c D cy) (hr : meth.sig.returnType = (some .int)) (hlk : meth.locks = false) (hq : zQ A q zNM) {z : (Int32 × zSt)} {S : zSt} {v1 : Int32} {v2 : Int32} {v3 : Int32} {v4 : Int32} {C1 : ((zSt × Int32 × Int32) ⊕ (Int32 × zSt)) → Prop} (hb1 : ∀ (S : zSt) (v1 : Int32) (v2 : Int32), C1 (.inl (S, v1, v2)) → ∀ (H : Heap) (locs : List Loc), va_P D vwCl (zW zshM zNM cy q S) H → va_S A s.heap H locs → ∀ (ls : Array Slot), lv_has ls 5 [(0, .ref (q 0)), (1, .int v1), (2, .int v2)] → W p l e rmX12_fewestSee s m args below meth c H locs 0 0 (MQ below (va_Qi (fun (r : Int32) (u : zSt) => (r, u) = z) (fun u t => va_P D vwCl (zW zshM zNM cy q u) t.heap) A) args s 0 0 A) (F0 m 6 ls [])) (hx1 : ∀ a, C1 (.inr a) → a = z) {C2 : ((Int32 × Int32) ⊕ ((zSt × Int32 × Int32) ⊕ (Int32 × zSt))) → Prop} (hb2 : ∀ (v3 : Int32) (v4 : Int32), C2 (.inl (v3, v4)) → ∀ (H : Heap) (locs : List Loc), va_P D vwCl (zW zshM zNM cy q S) H → va_S A s.heap H locs → ∀ (ls : Array Slot), lv_has ls 5 [(0, .ref (q 0)), (1, .int v1), (2, .int v2), (3, .int v3), (4, .int v4)] → W p l e rmX12_fewestSee s m args below meth c H locs 0 0 (MQ below (va_Qi (fun (r : Int32) (u : zSt) => (r, u) = z) (fun u t => va_P D vwCl (zW zshM zNM cy q u) t.heap) A) args s 0 0 A) (F0 m 21 ls [])) (hx2 : ∀ a, C2 (.inr a) → C1 a) {x : ((Int32 × Int32) ⊕ ((zSt × Int32 × Int32) ⊕ (Int32 × zSt)))} (h : fX12_fewestSee_21 S v1 v2 (v3, v4) = some x) (hc : C2 x) {H : Heap} {locs : List Loc} (hP : va_P D vwCl (zW zshM zNM cy q S) H) (hS : va_S A s.heap H locs) {ls : Array Slot} (hl : lv_has ls 5 [(0, .ref (q 0)), (1, .int v1), (2, .int v2), (3, .int v3), (4, .int v4)]) : W p l e rmX12_fewestSee s m args below meth c H locs 0 0 (MQ below (va_Qi (fun (r : Int32) (u : zSt) => (r, u) = z) (fun u t => va_P D vwCl (zW zshM zNM cy q u) t.heap) A) args s 0 0 A) (F0 m 21 ls []) := by
  have hx := cx.1
  have hb := cx.2.1
  unfold fX12_fewestSee_21 at h
  dsimp only at h
  refine lv_iload (pc := 21) hx hb dX12_fewestSee_21 (lv_at hl 4 rfl) ?_
  refine lv_aload_n (pc := 23) hx hb dX12_fewestSee_23 rfl (lv_at hl 0 rfl) ?_
  refine zr_getR (pc := 24) (t := 2) cx lk_X12_98 hP nM_0 sM_0 rfl dX12_fewestSee_24 ?_
  refine lv_iconst (pc := 27) hx hb dX12_fewestSee_27 zc_1 ?_
  obtain ⟨g4, h⟩ := zGd_e h
  refine zr_iald (pc := 28) cx hP nM_2 sM_2 g4 dX12_fewestSee_28 ?_
  refine lv_icmp_ge (pc := 29) (tgt := 55) hx hb dX12_fewestSee_29 (by decide) (fun c5 => ?_) (fun c5 => ?_)
  · replace h := zBr_t c5 h
    obtain ⟨y6, h, ex⟩ := zXr_e h
    have hc := hx2 y6 (by rw [ex] at hc; exact hc)
    refine lv_iload_n (pc := 55) hx hb dX12_fewestSee_55 rfl (lv_at hl 3 rfl) ?_
    refine lv_iload_n (pc := 56) hx hb dX12_fewestSee_56 rfl (lv_at hl 1 rfl) ?_
    refine lv_icmp_lt (pc := 57) (tgt := 63) hx hb dX12_fewestSee_57 (by decide) (fun c7 => ?_) (fun c7 => ?_)
    · replace h := zBr_t c7 h
      refine lv_iload_n (pc := 63) hx hb dX12_fewestSee_63 rfl (lv_at hl 3 rfl) ?_
      refine lv_istore_n (lv' := [(1, .int v3), (0, .ref (q 0)), (2, .int v2), (3, .int v3), (4, .int v4)]) (pc := 64) hx hb dX12_fewestSee_64 rfl hl (by decide) rfl (fun ls hl => ?_)
      refine lv_aload_n (pc := 65) hx hb dX12_fewestSee_65 rfl (lv_at hl 1 rfl) ?_
      refine lv_iload_n (pc := 66) hx hb dX12_fewestSee_66 rfl (lv_at hl 2 rfl) ?_
      obtain ⟨S8, eS8, h⟩ := zLt_e h
      refine zr_putI (pc := 67) cx lq_X12_320 hq hP hS nM_0 sM_0 rfl rfl rfl dX12_fewestSee_67 (fun H locs hP hS => ?_)
      rw [← eS8] at hP
      exact kX12_fewestSee_70 cx hr hlk hq hb1 hx1 h hc hP hS (lv_sub hl [1, 0, 2] rfl)
    · replace h := zBr_f c7 h
      refine lv_goto (pc := 60) (tgt := 70) hx hb dX12_fewestSee_60 (by decide) ?_
      exact kX12_fewestSee_70 cx hr hlk hq hb1 hx1 h hc hP hS (lv_sub hl [0, 1, 2] rfl)
  · replace h := zBr_f c5 h
    refine lv_aload_n (pc := 32) hx hb dX12_fewestSee_32 rfl (lv_at hl 0 rfl) ?_
    refine lv_iload (pc := 33) hx hb dX12_fewestSee_33 (lv_at hl 4 rfl) ?_
    refine lv_iconst (pc := 35) hx hb dX12_fewestSee_35 zc_0 ?_
    obtain ⟨r11, k10, h⟩ := zBd_e h
    refine zr_VI (pc := 36) (rest := []) cx cv_X12_250 (mX12_seesOf k10) ⟨⟨rfl, rfl⟩, Nat.le_of_ble_eq_true rfl, Nat.le_of_ble_eq_true rfl⟩ ⟨Nat.le_of_ble_eq_true rfl, Nat.le_of_ble_eq_true rfl⟩ hP nM_0 sM_0 rfl hl.1 rfl rfl (Nat.le_of_ble_eq_true rfl) dX12_fewestSee_36 ?_
    refine lv_iload_n (pc := 39) hx hb dX12_fewestSee_39 rfl (lv_at hl 2 rfl) ?_
    obtain ⟨r13, k12, h⟩ := zBd_e h
    refine zr_SI (pc := 40) (rest := []) cx cv_X12_181 (mX12_has k12) ⟨⟨rfl, rfl⟩, Nat.le_of_ble_eq_true rfl, Nat.le_of_ble_eq_true rfl⟩ ⟨Nat.le_of_ble_eq_true rfl, Nat.le_of_ble_eq_true rfl⟩ (zr_preK cx) hl.1 rfl rfl (Nat.le_of_ble_eq_true rfl) dX12_fewestSee_40 ?_
    refine lv_if_eq (pc := 43) (tgt := 49) hx hb dX12_fewestSee_43 (by decide) (fun c14 => ?_) (fun c14 => ?_)
    · replace h := zBr_t c14 h
      exact kX12_fewestSee_49 cx hr hlk hq hb1 hx1 hb2 hx2 h hc hP hS (lv_sub hl [0, 1, 2, 3, 4] rfl)
    · replace h := zBr_f c14 h
      obtain ⟨x16, ex16, h⟩ := zLt_e h
      refine lv_iinc (v := x16) (lv' := [(3, .int x16), (0, .ref (q 0)), (1, .int v1), (2, .int v2), (4, .int v4)]) (pc := 46) hx hb dX12_fewestSee_46 hl (k := 3) rfl (by rw [zc_1]; exact ex16.symm) (by decide) rfl (fun ls hl => ?_)
      exact kX12_fewestSee_49 cx hr hlk hq hb1 hx1 hb2 hx2 h hc hP hS (lv_sub hl [1, 2, 3, 0, 4] rfl)
set_option maxHeartbeats 4000000 in
set_option maxRecDepth 100000 in
theorem kX12_fewestSee_21 {p : Program} {l : Launch} {e : Env} {s : State} {m : MethodId} {args : Array Value} {below : List Frame} {meth : Method} {c : Code} {D : va_G} {cy : Nat → ClassId} {q : Nat → Nat} {A : Nat → Prop} (cx : zX RX12 cX12_fewestSee 5 p s m args c D cy) (hr : meth.sig.returnType = (some .int)) (hlk : meth.locks = false) (hq : zQ A q zNM) {z : (Int32 × zSt)} {S : zSt} {v1 : Int32} {v2 : Int32} {C1 : ((zSt × Int32 × Int32) ⊕ (Int32 × zSt)) → Prop} (hb1 : ∀ (S : zSt) (v1 : Int32) (v2 : Int32), C1 (.inl (S, v1, v2)) → ∀ (H : Heap) (locs : List Loc), va_P D vwCl (zW zshM zNM cy q S) H → va_S A s.heap H locs → ∀ (ls : Array Slot), lv_has ls 5 [(0, .ref (q 0)), (1, .int v1), (2, .int v2)] → W p l e rmX12_fewestSee s m args below meth c H locs 0 0 (MQ below (va_Qi (fun (r : Int32) (u : zSt) => (r, u) = z) (fun u t => va_P D vwCl (zW zshM zNM cy q u) t.heap) A) args s 0 0 A) (F0 m 6 ls [])) (hx1 : ∀ a, C1 (.inr a) → a = z) {xo : ((zSt × Int32 × Int32) ⊕ (Int32 × zSt))} (hc : C1 xo) : ∀ (n : Nat) (v3 : Int32) (v4 : Int32), zLp (fX12_fewestSee_21 S v1 v2) n (v3, v4) = some xo → ∀ (H : Heap) (locs : List Loc), va_P D vwCl (zW zshM zNM cy q S) H → va_S A s.heap H locs → ∀ (ls : Array Slot), lv_has ls 5 [(0, .ref (q 0)), (1, .int v1), (2, .int v2), (3, .int v3), (4, .int v4)] → W p l e rmX12_fewestSee s m args below meth c H locs 0 0 (MQ below (va_Qi (fun (r : Int32) (u : zSt) => (r, u) = z) (fun u t => va_P D vwCl (zW zshM zNM cy q u) t.heap) A) args s 0 0 A) (F0 m 21 ls []) := by
  intro n
  induction n with
  | zero =>
    intro v3 v4 h
    cases h
  | succ n ih =>
    intro v3 v4 h H locs hP hS ls hl
    obtain ⟨x, h, hk⟩ := zLp_e h
    exact kX12_fewestSee_21B cx hr hlk hq hb1 hx1 (C2 := zKt (fun t => zLp (fX12_fewestSee_21 S v1 v2) n t = some xo) (fun a => a = xo)) (fun v3 v4 ht H locs hP hS ls hl => ih v3 v4 ht H locs hP hS ls hl) (fun a ha => ha ▸ hc) h hk hP hS hl
def fX12_fewestSee_6  (t : (zSt × Int32 × Int32)) : Option ((zSt × Int32 × Int32) ⊕ (Int32 × zSt)) :=
  match t with
  | (S, v1, v2) => zGd (zIx (0 : Int32) 406) (zBr ((S.1 2 (0 : Int32).toNatClampNeg) ≤ v2) (zXr (some (v1, S))) (zLp (fX12_fewestSee_21 S v1 v2) 2000 ((0 : Int32), (0 : Int32))))
set_option maxHeartbeats 4000000 in
set_option maxRecDepth 100000 in
theorem kX12_fewestSee_6B {p : Program} {l : Launch} {e : Env} {s : State} {m : MethodId} {args : Array Value} {below : List Frame} {meth : Method} {c : Code} {D : va_G} {cy : Nat → ClassId} {q : Nat → Nat} {A : Nat → Prop} (cx : zX RX12 cX12_fewestSee 5 p s m args c D cy) (hr : meth.sig.returnType = (some .int)) (hlk : meth.locks = false) (hq : zQ A q zNM) {z : (Int32 × zSt)} {S : zSt} {v1 : Int32} {v2 : Int32} {C1 : ((zSt × Int32 × Int32) ⊕ (Int32 × zSt)) → Prop} (hb1 : ∀ (S : zSt) (v1 : Int32) (v2 : Int32), C1 (.inl (S, v1, v2)) → ∀ (H : Heap) (locs : List Loc), va_P D vwCl (zW zshM zNM cy q S) H → va_S A s.heap H locs → ∀ (ls : Array Slot), lv_has ls 5 [(0, .ref (q 0)), (1, .int v1), (2, .int v2)] → W p l e rmX12_fewestSee s m args below meth c H locs 0 0 (MQ below (va_Qi (fun (r : Int32) (u : zSt) => (r, u) = z) (fun u t => va_P D vwCl (zW zshM zNM cy q u) t.heap) A) args s 0 0 A) (F0 m 6 ls [])) (hx1 : ∀ a, C1 (.inr a) → a = z) {x : ((zSt × Int32 × Int32) ⊕ (Int32 × zSt))} (h : fX12_fewestSee_6 (S, v1, v2) = some x) (hc : C1 x) {H : Heap} {locs : List Loc} (hP : va_P D vwCl (zW zshM zNM cy q S) H) (hS : va_S A s.heap H locs) {ls : Array Slot} (hl : lv_has ls 5 [(0, .ref (q 0)), (1, .int v1), (2, .int v2)]) : W p l e rmX12_fewestSee s m args below meth c H locs 0 0 (MQ below (va_Qi (fun (r : Int32) (u : zSt) => (r, u) = z) (fun u t => va_P D vwCl (zW zshM zNM cy q u) t.heap) A) args s 0 0 A) (F0 m 6 ls []) := by
  have hx := cx.1
  have hb := cx.2.1
  unfold fX12_fewestSee_6 at h
  dsimp only at h
  refine lv_iload_n (pc := 6) hx hb dX12_fewestSee_6 rfl (lv_at hl 2 rfl) ?_
  refine lv_aload_n (pc := 7) hx hb dX12_fewestSee_7 rfl (lv_at hl 0 rfl) ?_
  refine zr_getR (pc := 8) (t := 2) cx lk_X12_98 hP nM_0 sM_0 rfl dX12_fewestSee_8 ?_
  refine lv_iconst (pc := 11) hx hb dX12_fewestSee_11 zc_0 ?_
  obtain ⟨g1, h⟩ := zGd_e h
  refine zr_iald (pc := 12) cx hP nM_2 sM_2 g1 dX12_fewestSee_12 ?_
  refine lv_icmp_ge (pc := 13) (tgt := 76) hx hb dX12_fewestSee_13 (by decide) (fun c2 => ?_) (fun c2 => ?_)
  · replace h := zBr_t c2 h
    obtain ⟨y3, h, ex⟩ := zXr_e h
    have hc := hx1 y3 (by rw [ex] at hc; exact hc)
    rw [hc] at h
    refine lv_iload_n (pc := 76) hx hb dX12_fewestSee_76 rfl (lv_at hl 1 rfl) ?_
    have hz := Option.some.inj h
    exact zr_rqI (pc := 77) cx hr hlk hP hS hz dX12_fewestSee_77
  · replace h := zBr_f c2 h
    refine lv_iconst (pc := 16) hx hb dX12_fewestSee_16 zc_0 ?_
    refine lv_istore_n (lv' := [(3, .int (0 : Int32)), (0, .ref (q 0)), (1, .int v1), (2, .int v2)]) (pc := 17) hx hb dX12_fewestSee_17 rfl hl (by decide) rfl (fun ls hl => ?_)
    refine lv_iconst (pc := 18) hx hb dX12_fewestSee_18 zc_0 ?_
    refine lv_istore (lv' := [(4, .int (0 : Int32)), (3, .int (0 : Int32)), (0, .ref (q 0)), (1, .int v1), (2, .int v2)]) (pc := 19) hx hb dX12_fewestSee_19 hl (by decide) rfl (fun ls hl => ?_)
    exact kX12_fewestSee_21 cx hr hlk hq hb1 hx1 hc 2000 _ _ h _ _ hP hS _ (lv_sub hl [2, 3, 4, 1, 0] rfl)
set_option maxHeartbeats 4000000 in
set_option maxRecDepth 100000 in
theorem kX12_fewestSee_6 {p : Program} {l : Launch} {e : Env} {s : State} {m : MethodId} {args : Array Value} {below : List Frame} {meth : Method} {c : Code} {D : va_G} {cy : Nat → ClassId} {q : Nat → Nat} {A : Nat → Prop} (cx : zX RX12 cX12_fewestSee 5 p s m args c D cy) (hr : meth.sig.returnType = (some .int)) (hlk : meth.locks = false) (hq : zQ A q zNM) {z : (Int32 × zSt)} : ∀ (n : Nat) (S : zSt) (v1 : Int32) (v2 : Int32), zLp (fX12_fewestSee_6) n (S, v1, v2) = some z → ∀ (H : Heap) (locs : List Loc), va_P D vwCl (zW zshM zNM cy q S) H → va_S A s.heap H locs → ∀ (ls : Array Slot), lv_has ls 5 [(0, .ref (q 0)), (1, .int v1), (2, .int v2)] → W p l e rmX12_fewestSee s m args below meth c H locs 0 0 (MQ below (va_Qi (fun (r : Int32) (u : zSt) => (r, u) = z) (fun u t => va_P D vwCl (zW zshM zNM cy q u) t.heap) A) args s 0 0 A) (F0 m 6 ls []) := by
  intro n
  induction n with
  | zero =>
    intro S v1 v2 h
    cases h
  | succ n ih =>
    intro S v1 v2 h H locs hP hS ls hl
    obtain ⟨x, h, hk⟩ := zLp_e h
    exact kX12_fewestSee_6B cx hr hlk hq  (C1 := zKt (fun t => zLp (fX12_fewestSee_6) n t = some z) (fun a => a = z)) (fun S v1 v2 ht H locs hP hS ls hl => ih S v1 v2 ht H locs hP hS ls hl) (fun a ha => ha) h hk hP hS hl
def fX12_fewestSee (S : zSt) : Option (Int32 × zSt) :=
  zLp (fX12_fewestSee_6) 2000 (S, (100000 : Int32), (0 : Int32))
set_option maxHeartbeats 4000000 in
set_option maxRecDepth 100000 in
theorem mX12_fewestSee {l : Launch} {D : va_G} {cy : Nat → ClassId} {q : Nat → Nat} {A : Nat → Prop} {S : zSt} (hq : zQ A q zNM) {z : (Int32 × zSt)} (h : fX12_fewestSee S = some z) : zMq l yX12_fewestSee cX12_fewestSee 5 (some .int) rmX12_fewestSee [.ref (q 0)] zshM zNM D cy q A S z := by
  refine Met.ofW (cc := cX12_fewestSee) (maxL := 5) (ret := (some .int)) (by decide) rfl ?_
  intro p e s m args below meth c s₁ B hml hv
  obtain ⟨rfl, hP, hK⟩ := hv
  have cx : zX RX12 cX12_fewestSee 5 p s m ([.ref (q 0)]).toArray c D cy := ⟨B.exec, B.bytes, hml, findClass_of_methodNamed B.named, fun w hw => atoms_spec (ws := Cond.code yX12_fewestSee cX12_fewestSee 5 (some .int) :: zTB) B.pre w (List.mem_cons_of_mem _ hw), hK⟩
  have hx := cx.1
  have hb := cx.2.1
  have hr := B.returns
  have hlk := B.notSynchronized
  have hS : va_S A s.heap s.heap [] := va_S.rf
  have hl := lv_entry ([.ref (q 0)]) (n := 5) (Nat.le_of_ble_eq_true rfl)
  rw [lg_entry_eq]
  generalize (lg_sl ([.ref (q 0)]) ++ List.replicate (5 - (lg_sl ([.ref (q 0)])).length) Slot.unset).toArray = ls at hl ⊢
  have hl : lv_has ls 5 [(0, .ref (q 0))] := hl
  unfold fX12_fewestSee at h
  refine lv_ldcw (pc := 0) hx hb cx.2.2.2.1 (cx.2.2.2.2.1 _ wd_1898) dX12_fewestSee_0 ?_
  refine lv_istore_n (lv' := [(1, .int (100000 : Int32)), (0, .ref (q 0))]) (pc := 3) hx hb dX12_fewestSee_3 rfl hl (by decide) rfl (fun ls hl => ?_)
  refine lv_iconst (pc := 4) hx hb dX12_fewestSee_4 zc_0 ?_
  refine lv_istore_n (lv' := [(2, .int (0 : Int32)), (1, .int (100000 : Int32)), (0, .ref (q 0))]) (pc := 5) hx hb dX12_fewestSee_5 rfl hl (by decide) rfl (fun ls hl => ?_)
  exact kX12_fewestSee_6 cx hr hlk hq 2000 _ _ _ h _ _ hP hS _ (lv_sub hl [2, 1, 0] rfl)
-- X12_choice
abbrev rmX12_choice : Room := { frames := 4, cells := 0, slots := 0, locals := 88 }
def fX12_choice_113 (S : zSt)  (v1 : Int32) (v2 : Int32) (v3 : Int32) (v4 : Int32) : Option ((zSt × Int32 × Int32) ⊕ ((zSt × Int32 × Int32) ⊕ (Int32 × zSt))) :=
  zLt (v4 + (1 : Int32)) (fun x31 => some (.inl (S, v1, x31)))
set_option maxHeartbeats 4000000 in
set_option maxRecDepth 100000 in
theorem kX12_choice_113 {p : Program} {l : Launch} {e : Env} {s : State} {m : MethodId} {args : Array Value} {below : List Frame} {meth : Method} {c : Code} {D : va_G} {cy : Nat → ClassId} {q : Nat → Nat} {A : Nat → Prop} (cx : zX RX12 cX12_choice 6 p s m args c D cy) (hr : meth.sig.returnType = (some .int)) (hlk : meth.locks = false) (hq : zQ A q zNM) {z : (Int32 × zSt)} {S : zSt} {v1 : Int32} {v2 : Int32} {v3 : Int32} {v4 : Int32} {C1 : ((zSt × Int32 × Int32) ⊕ (Int32 × zSt)) → Prop} (hb1 : ∀ (S : zSt) (v1 : Int32) (v2 : Int32), C1 (.inl (S, v1, v2)) → ∀ (H : Heap) (locs : List Loc), va_P D vwCl (zW zshM zNM cy q S) H → va_S A s.heap H locs → ∀ (ls : Array Slot), lv_has ls 6 [(0, .ref (q 0)), (1, .int v1), (2, .int v2)] → W p l e rmX12_choice s m args below meth c H locs 0 0 (MQ below (va_Qi (fun (r : Int32) (u : zSt) => (r, u) = z) (fun u t => va_P D vwCl (zW zshM zNM cy q u) t.heap) A) args s 0 0 A) (F0 m 34 ls [])) (hx1 : ∀ a, C1 (.inr a) → a = z) {C2 : ((zSt × Int32 × Int32) ⊕ ((zSt × Int32 × Int32) ⊕ (Int32 × zSt))) → Prop} (hb2 : ∀ (S : zSt) (v1 : Int32) (v4 : Int32), C2 (.inl (S, v1, v4)) → ∀ (H : Heap) (locs : List Loc), va_P D vwCl (zW zshM zNM cy q S) H → va_S A s.heap H locs → ∀ (ls : Array Slot), lv_has ls 6 [(0, .ref (q 0)), (1, .int v1), (2, .int v2), (3, .int v3), (4, .int v4)] → W p l e rmX12_choice s m args below meth c H locs 0 0 (MQ below (va_Qi (fun (r : Int32) (u : zSt) => (r, u) = z) (fun u t => va_P D vwCl (zW zshM zNM cy q u) t.heap) A) args s 0 0 A) (F0 m 57 ls [])) (hx2 : ∀ a, C2 (.inr a) → C1 a) {x : ((zSt × Int32 × Int32) ⊕ ((zSt × Int32 × Int32) ⊕ (Int32 × zSt)))} (h : fX12_choice_113 S v1 v2 v3 v4 = some x) (hc : C2 x) {H : Heap} {locs : List Loc} (hP : va_P D vwCl (zW zshM zNM cy q S) H) (hS : va_S A s.heap H locs) {ls : Array Slot} (hl : lv_has ls 6 [(0, .ref (q 0)), (1, .int v1), (2, .int v2), (3, .int v3), (4, .int v4)]) : W p l e rmX12_choice s m args below meth c H locs 0 0 (MQ below (va_Qi (fun (r : Int32) (u : zSt) => (r, u) = z) (fun u t => va_P D vwCl (zW zshM zNM cy q u) t.heap) A) args s 0 0 A) (F0 m 113 ls []) := by
  have hx := cx.1
  have hb := cx.2.1
  unfold fX12_choice_113 at h
  obtain ⟨x31, ex31, h⟩ := zLt_e h
  refine lv_iinc (v := x31) (lv' := [(4, .int x31), (0, .ref (q 0)), (1, .int v1), (2, .int v2), (3, .int v3)]) (pc := 113) hx hb dX12_choice_113 hl (k := 4) rfl (by rw [zc_1]; exact ex31.symm) (by decide) rfl (fun ls hl => ?_)
  refine lv_goto (pc := 116) (tgt := 57) hx hb dX12_choice_116 (by decide) ?_
  cases h
  exact hb2 _ _ _ hc _ _ hP hS _ (lv_sub hl [1, 2, 3, 4, 0] rfl)
def fX12_choice_57  (v2 : Int32) (v3 : Int32) (t : (zSt × Int32 × Int32)) : Option ((zSt × Int32 × Int32) ⊕ ((zSt × Int32 × Int32) ⊕ (Int32 × zSt))) :=
  match t with
  | (S, v1, v4) => zGd (zIx (0 : Int32) 406) (zBr ((S.1 2 (0 : Int32).toNatClampNeg) ≤ v4) (zXr (zGd (zIx ((26 : Int32) + v2) 406) (zLt (zI S 2 ((26 : Int32) + v2).toNatClampNeg v3) (fun S20 => zLt (v2 + (1 : Int32)) (fun x21 => some (.inl (S20, v1, x21))))))) (zBr (v4 = v3) (fX12_choice_113 S v1 v2 v3 v4) (zGd (zIx ((26 : Int32) + v2) 406) (zLt (zI S 2 ((26 : Int32) + v2).toNatClampNeg v4) (fun S24 => zBp (fX12_fewestSee S24) (fun r27 S26 => zBr (v1 < r27) (zBd (fX12_choose S26 v2 v4) (fun S30 => fX12_choice_113 S30 r27 v2 v3 v4)) (fX12_choice_113 S26 v1 v2 v3 v4)))))))
set_option maxHeartbeats 4000000 in
set_option maxRecDepth 100000 in
theorem kX12_choice_57B {p : Program} {l : Launch} {e : Env} {s : State} {m : MethodId} {args : Array Value} {below : List Frame} {meth : Method} {c : Code} {D : va_G} {cy : Nat → ClassId} {q : Nat → Nat} {A : Nat → Prop} (cx : zX RX12 cX12_choice 6 p s m args c D cy) (hr : meth.sig.returnType = (some .int)) (hlk : meth.locks = false) (hq : zQ A q zNM) {z : (Int32 × zSt)} {S : zSt} {v1 : Int32} {v2 : Int32} {v3 : Int32} {v4 : Int32} {C1 : ((zSt × Int32 × Int32) ⊕ (Int32 × zSt)) → Prop} (hb1 : ∀ (S : zSt) (v1 : Int32) (v2 : Int32), C1 (.inl (S, v1, v2)) → ∀ (H : Heap) (locs : List Loc), va_P D vwCl (zW zshM zNM cy q S) H → va_S A s.heap H locs → ∀ (ls : Array Slot), lv_has ls 6 [(0, .ref (q 0)), (1, .int v1), (2, .int v2)] → W p l e rmX12_choice s m args below meth c H locs 0 0 (MQ below (va_Qi (fun (r : Int32) (u : zSt) => (r, u) = z) (fun u t => va_P D vwCl (zW zshM zNM cy q u) t.heap) A) args s 0 0 A) (F0 m 34 ls [])) (hx1 : ∀ a, C1 (.inr a) → a = z) {C2 : ((zSt × Int32 × Int32) ⊕ ((zSt × Int32 × Int32) ⊕ (Int32 × zSt))) → Prop} (hb2 : ∀ (S : zSt) (v1 : Int32) (v4 : Int32), C2 (.inl (S, v1, v4)) → ∀ (H : Heap) (locs : List Loc), va_P D vwCl (zW zshM zNM cy q S) H → va_S A s.heap H locs → ∀ (ls : Array Slot), lv_has ls 6 [(0, .ref (q 0)), (1, .int v1), (2, .int v2), (3, .int v3), (4, .int v4)] → W p l e rmX12_choice s m args below meth c H locs 0 0 (MQ below (va_Qi (fun (r : Int32) (u : zSt) => (r, u) = z) (fun u t => va_P D vwCl (zW zshM zNM cy q u) t.heap) A) args s 0 0 A) (F0 m 57 ls [])) (hx2 : ∀ a, C2 (.inr a) → C1 a) {x : ((zSt × Int32 × Int32) ⊕ ((zSt × Int32 × Int32) ⊕ (Int32 × zSt)))} (h : fX12_choice_57 v2 v3 (S, v1, v4) = some x) (hc : C2 x) {H : Heap} {locs : List Loc} (hP : va_P D vwCl (zW zshM zNM cy q S) H) (hS : va_S A s.heap H locs) {ls : Array Slot} (hl : lv_has ls 6 [(0, .ref (q 0)), (1, .int v1), (2, .int v2), (3, .int v3), (4, .int v4)]) : W p l e rmX12_choice s m args below meth c H locs 0 0 (MQ below (va_Qi (fun (r : Int32) (u : zSt) => (r, u) = z) (fun u t => va_P D vwCl (zW zshM zNM cy q u) t.heap) A) args s 0 0 A) (F0 m 57 ls []) := by
  have hx := cx.1
  have hb := cx.2.1
  unfold fX12_choice_57 at h
  dsimp only at h
  refine lv_iload (pc := 57) hx hb dX12_choice_57 (lv_at hl 4 rfl) ?_
  refine lv_aload_n (pc := 59) hx hb dX12_choice_59 rfl (lv_at hl 0 rfl) ?_
  refine zr_getR (pc := 60) (t := 2) cx lk_X12_98 hP nM_0 sM_0 rfl dX12_choice_60 ?_
  refine lv_iconst (pc := 63) hx hb dX12_choice_63 zc_0 ?_
  obtain ⟨g16, h⟩ := zGd_e h
  refine zr_iald (pc := 64) cx hP nM_2 sM_2 g16 dX12_choice_64 ?_
  refine lv_icmp_ge (pc := 65) (tgt := 119) hx hb dX12_choice_65 (by decide) (fun c17 => ?_) (fun c17 => ?_)
  · replace h := zBr_t c17 h
    obtain ⟨y18, h, ex⟩ := zXr_e h
    have hc := hx2 y18 (by rw [ex] at hc; exact hc)
    refine lv_aload_n (pc := 119) hx hb dX12_choice_119 rfl (lv_at hl 0 rfl) ?_
    refine zr_getR (pc := 120) (t := 2) cx lk_X12_98 hP nM_0 sM_0 rfl dX12_choice_120 ?_
    refine lv_bipush (pc := 123) hx hb dX12_choice_123 zb_26 ?_
    refine lv_iload_n (pc := 125) hx hb dX12_choice_125 rfl (lv_at hl 2 rfl) ?_
    refine lv_iadd (pc := 126) hx hb dX12_choice_126 ?_
    refine lv_iload_n (pc := 127) hx hb dX12_choice_127 rfl (lv_at hl 3 rfl) ?_
    obtain ⟨g19, h⟩ := zGd_e h
    obtain ⟨S20, eS20, h⟩ := zLt_e h
    refine zr_iast (pc := 128) cx hq hP hS nM_2 sM_2 g19 dX12_choice_128 (fun H locs hP hS => ?_)
    rw [← eS20] at hP
    obtain ⟨x21, ex21, h⟩ := zLt_e h
    refine lv_iinc (v := x21) (lv' := [(2, .int x21), (0, .ref (q 0)), (1, .int v1), (3, .int v3), (4, .int v4)]) (pc := 129) hx hb dX12_choice_129 hl (k := 2) rfl (by rw [zc_1]; exact ex21.symm) (by decide) rfl (fun ls hl => ?_)
    refine lv_goto (pc := 132) (tgt := 34) hx hb dX12_choice_132 (by decide) ?_
    cases h
    exact hb1 _ _ _ hc _ _ hP hS _ (lv_sub hl [1, 2, 0] rfl)
  · replace h := zBr_f c17 h
    refine lv_iload (pc := 68) hx hb dX12_choice_68 (lv_at hl 4 rfl) ?_
    refine lv_iload_n (pc := 70) hx hb dX12_choice_70 rfl (lv_at hl 3 rfl) ?_
    refine lv_icmp_ne (pc := 71) (tgt := 77) hx hb dX12_choice_71 (by decide) (fun c22 => ?_) (fun c22 => ?_)
    · replace h := zBr_f c22 h
      refine lv_aload_n (pc := 77) hx hb dX12_choice_77 rfl (lv_at hl 0 rfl) ?_
      refine zr_getR (pc := 78) (t := 2) cx lk_X12_98 hP nM_0 sM_0 rfl dX12_choice_78 ?_
      refine lv_bipush (pc := 81) hx hb dX12_choice_81 zb_26 ?_
      refine lv_iload_n (pc := 83) hx hb dX12_choice_83 rfl (lv_at hl 2 rfl) ?_
      refine lv_iadd (pc := 84) hx hb dX12_choice_84 ?_
      refine lv_iload (pc := 85) hx hb dX12_choice_85 (lv_at hl 4 rfl) ?_
      obtain ⟨g23, h⟩ := zGd_e h
      obtain ⟨S24, eS24, h⟩ := zLt_e h
      refine zr_iast (pc := 87) cx hq hP hS nM_2 sM_2 g23 dX12_choice_87 (fun H locs hP hS => ?_)
      rw [← eS24] at hP
      refine lv_aload_n (pc := 88) hx hb dX12_choice_88 rfl (lv_at hl 0 rfl) ?_
      obtain ⟨r27, S26, k25, h⟩ := zBp_e h
      refine zr_VQ (pc := 89) (rest := []) cx cv_X12_323 (mX12_fewestSee hq k25) ⟨⟨rfl, rfl⟩, Nat.le_of_ble_eq_true rfl, Nat.le_of_ble_eq_true rfl⟩ ⟨Nat.le_of_ble_eq_true rfl, Nat.le_of_ble_eq_true rfl⟩ hP hS nM_0 sM_0 rfl hl.1 rfl rfl (Nat.le_of_ble_eq_true rfl) dX12_choice_89 (fun H locs hP hS => ?_)
      refine lv_istore (lv' := [(5, .int r27), (0, .ref (q 0)), (1, .int v1), (2, .int v2), (3, .int v3), (4, .int v4)]) (pc := 92) hx hb dX12_choice_92 hl (by decide) rfl (fun ls hl => ?_)
      refine lv_iload (pc := 94) hx hb dX12_choice_94 (lv_at hl 0 rfl) ?_
      refine lv_iload_n (pc := 96) hx hb dX12_choice_96 rfl (lv_at hl 2 rfl) ?_
      refine lv_icmp_gt (pc := 97) (tgt := 103) hx hb dX12_choice_97 (by decide) (fun c28 => ?_) (fun c28 => ?_)
      · replace h := zBr_t c28 h
        refine lv_iload (pc := 103) hx hb dX12_choice_103 (lv_at hl 0 rfl) ?_
        refine lv_istore_n (lv' := [(1, .int r27), (5, .int r27), (0, .ref (q 0)), (2, .int v2), (3, .int v3), (4, .int v4)]) (pc := 105) hx hb dX12_choice_105 rfl hl (by decide) rfl (fun ls hl => ?_)
        refine lv_aload_n (pc := 106) hx hb dX12_choice_106 rfl (lv_at hl 2 rfl) ?_
        refine lv_iload_n (pc := 107) hx hb dX12_choice_107 rfl (lv_at hl 3 rfl) ?_
        refine lv_iload (pc := 108) hx hb dX12_choice_108 (lv_at hl 5 rfl) ?_
        obtain ⟨S30, k29, h⟩ := zBd_e h
        refine zr_VV (pc := 110) (rest := []) cx cv_X12_326 (mX12_choose hq k29) ⟨⟨rfl, rfl⟩, Nat.le_of_ble_eq_true rfl, Nat.le_of_ble_eq_true rfl⟩ ⟨Nat.le_of_ble_eq_true rfl, Nat.le_of_ble_eq_true rfl⟩ hP hS nM_0 sM_0 rfl hl.1 rfl rfl (Nat.le_of_ble_eq_true rfl) dX12_choice_110 (fun H locs hP hS => ?_)
        exact kX12_choice_113 cx hr hlk hq hb1 hx1 hb2 hx2 h hc hP hS (lv_sub hl [2, 0, 3, 4, 5] rfl)
      · replace h := zBr_f c28 h
        refine lv_goto (pc := 100) (tgt := 113) hx hb dX12_choice_100 (by decide) ?_
        exact kX12_choice_113 cx hr hlk hq hb1 hx1 hb2 hx2 h hc hP hS (lv_sub hl [1, 2, 3, 4, 5] rfl)
    · replace h := zBr_t c22 h
      refine lv_goto (pc := 74) (tgt := 113) hx hb dX12_choice_74 (by decide) ?_
      exact kX12_choice_113 cx hr hlk hq hb1 hx1 hb2 hx2 h hc hP hS (lv_sub hl [0, 1, 2, 3, 4] rfl)
set_option maxHeartbeats 4000000 in
set_option maxRecDepth 100000 in
theorem kX12_choice_57 {p : Program} {l : Launch} {e : Env} {s : State} {m : MethodId} {args : Array Value} {below : List Frame} {meth : Method} {c : Code} {D : va_G} {cy : Nat → ClassId} {q : Nat → Nat} {A : Nat → Prop} (cx : zX RX12 cX12_choice 6 p s m args c D cy) (hr : meth.sig.returnType = (some .int)) (hlk : meth.locks = false) (hq : zQ A q zNM) {z : (Int32 × zSt)} {v2 : Int32} {v3 : Int32} {C1 : ((zSt × Int32 × Int32) ⊕ (Int32 × zSt)) → Prop} (hb1 : ∀ (S : zSt) (v1 : Int32) (v2 : Int32), C1 (.inl (S, v1, v2)) → ∀ (H : Heap) (locs : List Loc), va_P D vwCl (zW zshM zNM cy q S) H → va_S A s.heap H locs → ∀ (ls : Array Slot), lv_has ls 6 [(0, .ref (q 0)), (1, .int v1), (2, .int v2)] → W p l e rmX12_choice s m args below meth c H locs 0 0 (MQ below (va_Qi (fun (r : Int32) (u : zSt) => (r, u) = z) (fun u t => va_P D vwCl (zW zshM zNM cy q u) t.heap) A) args s 0 0 A) (F0 m 34 ls [])) (hx1 : ∀ a, C1 (.inr a) → a = z) {xo : ((zSt × Int32 × Int32) ⊕ (Int32 × zSt))} (hc : C1 xo) : ∀ (n : Nat) (S : zSt) (v1 : Int32) (v4 : Int32), zLp (fX12_choice_57 v2 v3) n (S, v1, v4) = some xo → ∀ (H : Heap) (locs : List Loc), va_P D vwCl (zW zshM zNM cy q S) H → va_S A s.heap H locs → ∀ (ls : Array Slot), lv_has ls 6 [(0, .ref (q 0)), (1, .int v1), (2, .int v2), (3, .int v3), (4, .int v4)] → W p l e rmX12_choice s m args below meth c H locs 0 0 (MQ below (va_Qi (fun (r : Int32) (u : zSt) => (r, u) = z) (fun u t => va_P D vwCl (zW zshM zNM cy q u) t.heap) A) args s 0 0 A) (F0 m 57 ls []) := by
  intro n
  induction n with
  | zero =>
    intro S v1 v4 h
    cases h
  | succ n ih =>
    intro S v1 v4 h H locs hP hS ls hl
    obtain ⟨x, h, hk⟩ := zLp_e h
    exact kX12_choice_57B cx hr hlk hq hb1 hx1 (C2 := zKt (fun t => zLp (fX12_choice_57 v2 v3) n t = some xo) (fun a => a = xo)) (fun S v1 v4 ht H locs hP hS ls hl => ih S v1 v4 ht H locs hP hS ls hl) (fun a ha => ha ▸ hc) h hk hP hS hl
def fX12_choice_34  (t : (zSt × Int32 × Int32)) : Option ((zSt × Int32 × Int32) ⊕ (Int32 × zSt)) :=
  match t with
  | (S, v1, v2) => zGd (zIx (1 : Int32) 406) (zBr ((S.1 2 (1 : Int32).toNatClampNeg) ≤ v2) (zXr (some (v1, S))) (zGd (zIx ((26 : Int32) + v2) 406) (zLt (S.1 2 ((26 : Int32) + v2).toNatClampNeg) (fun x15 => zLp (fX12_choice_57 v2 x15) 2000 (S, v1, (0 : Int32))))))
set_option maxHeartbeats 4000000 in
set_option maxRecDepth 100000 in
theorem kX12_choice_34B {p : Program} {l : Launch} {e : Env} {s : State} {m : MethodId} {args : Array Value} {below : List Frame} {meth : Method} {c : Code} {D : va_G} {cy : Nat → ClassId} {q : Nat → Nat} {A : Nat → Prop} (cx : zX RX12 cX12_choice 6 p s m args c D cy) (hr : meth.sig.returnType = (some .int)) (hlk : meth.locks = false) (hq : zQ A q zNM) {z : (Int32 × zSt)} {S : zSt} {v1 : Int32} {v2 : Int32} {C1 : ((zSt × Int32 × Int32) ⊕ (Int32 × zSt)) → Prop} (hb1 : ∀ (S : zSt) (v1 : Int32) (v2 : Int32), C1 (.inl (S, v1, v2)) → ∀ (H : Heap) (locs : List Loc), va_P D vwCl (zW zshM zNM cy q S) H → va_S A s.heap H locs → ∀ (ls : Array Slot), lv_has ls 6 [(0, .ref (q 0)), (1, .int v1), (2, .int v2)] → W p l e rmX12_choice s m args below meth c H locs 0 0 (MQ below (va_Qi (fun (r : Int32) (u : zSt) => (r, u) = z) (fun u t => va_P D vwCl (zW zshM zNM cy q u) t.heap) A) args s 0 0 A) (F0 m 34 ls [])) (hx1 : ∀ a, C1 (.inr a) → a = z) {x : ((zSt × Int32 × Int32) ⊕ (Int32 × zSt))} (h : fX12_choice_34 (S, v1, v2) = some x) (hc : C1 x) {H : Heap} {locs : List Loc} (hP : va_P D vwCl (zW zshM zNM cy q S) H) (hS : va_S A s.heap H locs) {ls : Array Slot} (hl : lv_has ls 6 [(0, .ref (q 0)), (1, .int v1), (2, .int v2)]) : W p l e rmX12_choice s m args below meth c H locs 0 0 (MQ below (va_Qi (fun (r : Int32) (u : zSt) => (r, u) = z) (fun u t => va_P D vwCl (zW zshM zNM cy q u) t.heap) A) args s 0 0 A) (F0 m 34 ls []) := by
  have hx := cx.1
  have hb := cx.2.1
  unfold fX12_choice_34 at h
  dsimp only at h
  refine lv_iload_n (pc := 34) hx hb dX12_choice_34 rfl (lv_at hl 2 rfl) ?_
  refine lv_aload_n (pc := 35) hx hb dX12_choice_35 rfl (lv_at hl 0 rfl) ?_
  refine zr_getR (pc := 36) (t := 2) cx lk_X12_98 hP nM_0 sM_0 rfl dX12_choice_36 ?_
  refine lv_iconst (pc := 39) hx hb dX12_choice_39 zc_1 ?_
  obtain ⟨g11, h⟩ := zGd_e h
  refine zr_iald (pc := 40) cx hP nM_2 sM_2 g11 dX12_choice_40 ?_
  refine lv_icmp_ge (pc := 41) (tgt := 135) hx hb dX12_choice_41 (by decide) (fun c12 => ?_) (fun c12 => ?_)
  · replace h := zBr_t c12 h
    obtain ⟨y13, h, ex⟩ := zXr_e h
    have hc := hx1 y13 (by rw [ex] at hc; exact hc)
    rw [hc] at h
    refine lv_iload_n (pc := 135) hx hb dX12_choice_135 rfl (lv_at hl 1 rfl) ?_
    have hz := Option.some.inj h
    exact zr_rqI (pc := 136) cx hr hlk hP hS hz dX12_choice_136
  · replace h := zBr_f c12 h
    refine lv_aload_n (pc := 44) hx hb dX12_choice_44 rfl (lv_at hl 0 rfl) ?_
    refine zr_getR (pc := 45) (t := 2) cx lk_X12_98 hP nM_0 sM_0 rfl dX12_choice_45 ?_
    refine lv_bipush (pc := 48) hx hb dX12_choice_48 zb_26 ?_
    refine lv_iload_n (pc := 50) hx hb dX12_choice_50 rfl (lv_at hl 2 rfl) ?_
    refine lv_iadd (pc := 51) hx hb dX12_choice_51 ?_
    obtain ⟨g14, h⟩ := zGd_e h
    refine zr_iald (pc := 52) cx hP nM_2 sM_2 g14 dX12_choice_52 ?_
    obtain ⟨x15, ex15, h⟩ := zLt_e h
    refine zr_nmI ex15 ?_
    refine lv_istore_n (lv' := [(3, .int x15), (0, .ref (q 0)), (1, .int v1), (2, .int v2)]) (pc := 53) hx hb dX12_choice_53 rfl hl (by decide) rfl (fun ls hl => ?_)
    refine lv_iconst (pc := 54) hx hb dX12_choice_54 zc_0 ?_
    refine lv_istore (lv' := [(4, .int (0 : Int32)), (3, .int x15), (0, .ref (q 0)), (1, .int v1), (2, .int v2)]) (pc := 55) hx hb dX12_choice_55 hl (by decide) rfl (fun ls hl => ?_)
    exact kX12_choice_57 cx hr hlk hq hb1 hx1 hc 2000 _ _ _ h _ _ hP hS _ (lv_sub hl [2, 3, 4, 1, 0] rfl)
set_option maxHeartbeats 4000000 in
set_option maxRecDepth 100000 in
theorem kX12_choice_34 {p : Program} {l : Launch} {e : Env} {s : State} {m : MethodId} {args : Array Value} {below : List Frame} {meth : Method} {c : Code} {D : va_G} {cy : Nat → ClassId} {q : Nat → Nat} {A : Nat → Prop} (cx : zX RX12 cX12_choice 6 p s m args c D cy) (hr : meth.sig.returnType = (some .int)) (hlk : meth.locks = false) (hq : zQ A q zNM) {z : (Int32 × zSt)} : ∀ (n : Nat) (S : zSt) (v1 : Int32) (v2 : Int32), zLp (fX12_choice_34) n (S, v1, v2) = some z → ∀ (H : Heap) (locs : List Loc), va_P D vwCl (zW zshM zNM cy q S) H → va_S A s.heap H locs → ∀ (ls : Array Slot), lv_has ls 6 [(0, .ref (q 0)), (1, .int v1), (2, .int v2)] → W p l e rmX12_choice s m args below meth c H locs 0 0 (MQ below (va_Qi (fun (r : Int32) (u : zSt) => (r, u) = z) (fun u t => va_P D vwCl (zW zshM zNM cy q u) t.heap) A) args s 0 0 A) (F0 m 34 ls []) := by
  intro n
  induction n with
  | zero =>
    intro S v1 v2 h
    cases h
  | succ n ih =>
    intro S v1 v2 h H locs hP hS ls hl
    obtain ⟨x, h, hk⟩ := zLp_e h
    exact kX12_choice_34B cx hr hlk hq  (C1 := zKt (fun t => zLp (fX12_choice_34) n t = some z) (fun a => a = z)) (fun S v1 v2 ht H locs hP hS ls hl => ih S v1 v2 ht H locs hP hS ls hl) (fun a ha => ha) h hk hP hS hl
def fX12_choice (S : zSt) : Option (Int32 × zSt) :=
  zLt (zI S 0 0 (0 : Int32)) (fun S1 => zGd (zIx (0 : Int32) 406) (zBr ((S1.1 2 (0 : Int32).toNatClampNeg) = 0) (some ((-1 : Int32), S1)) (zBp (fX12_fewestSee S1) (fun r6 S5 => zBd (fX12_choose S5 (-1 : Int32) (-1 : Int32)) (fun S8 => zGd (zBo (1 : Int32)) (zLt (zI S8 0 31 (1 : Int32)) (fun S9 => zLp (fX12_choice_34) 2000 (S9, r6, (0 : Int32)))))))))
set_option maxHeartbeats 4000000 in
set_option maxRecDepth 100000 in
theorem mX12_choice {l : Launch} {D : va_G} {cy : Nat → ClassId} {q : Nat → Nat} {A : Nat → Prop} {S : zSt} (hq : zQ A q zNM) {z : (Int32 × zSt)} (h : fX12_choice S = some z) : zMq l yX12_choice cX12_choice 6 (some .int) rmX12_choice [.ref (q 0)] zshM zNM D cy q A S z := by
  refine Met.ofW (cc := cX12_choice) (maxL := 6) (ret := (some .int)) (by decide) rfl ?_
  intro p e s m args below meth c s₁ B hml hv
  obtain ⟨rfl, hP, hK⟩ := hv
  have cx : zX RX12 cX12_choice 6 p s m ([.ref (q 0)]).toArray c D cy := ⟨B.exec, B.bytes, hml, findClass_of_methodNamed B.named, fun w hw => atoms_spec (ws := Cond.code yX12_choice cX12_choice 6 (some .int) :: zTB) B.pre w (List.mem_cons_of_mem _ hw), hK⟩
  have hx := cx.1
  have hb := cx.2.1
  have hr := B.returns
  have hlk := B.notSynchronized
  have hS : va_S A s.heap s.heap [] := va_S.rf
  have hl := lv_entry ([.ref (q 0)]) (n := 6) (Nat.le_of_ble_eq_true rfl)
  rw [lg_entry_eq]
  generalize (lg_sl ([.ref (q 0)]) ++ List.replicate (6 - (lg_sl ([.ref (q 0)])).length) Slot.unset).toArray = ls at hl ⊢
  have hl : lv_has ls 6 [(0, .ref (q 0))] := hl
  unfold fX12_choice at h
  refine lv_aload_n (pc := 0) hx hb dX12_choice_0 rfl (lv_at hl 0 rfl) ?_
  refine lv_iconst (pc := 1) hx hb dX12_choice_1 zc_0 ?_
  obtain ⟨S1, eS1, h⟩ := zLt_e h
  refine zr_putI (pc := 2) cx lq_X12_1 hq hP hS nM_0 sM_0 rfl rfl rfl dX12_choice_2 (fun H locs hP hS => ?_)
  rw [← eS1] at hP
  refine lv_aload_n (pc := 5) hx hb dX12_choice_5 rfl (lv_at hl 0 rfl) ?_
  refine zr_getR (pc := 6) (t := 2) cx lk_X12_98 hP nM_0 sM_0 rfl dX12_choice_6 ?_
  refine lv_iconst (pc := 9) hx hb dX12_choice_9 zc_0 ?_
  obtain ⟨g2, h⟩ := zGd_e h
  refine zr_iald (pc := 10) cx hP nM_2 sM_2 g2 dX12_choice_10 ?_
  refine lv_if_ne (pc := 11) (tgt := 16) hx hb dX12_choice_11 (by decide) (fun c3 => ?_) (fun c3 => ?_)
  · replace h := zBr_f c3 h
    refine lv_aload_n (pc := 16) hx hb dX12_choice_16 rfl (lv_at hl 0 rfl) ?_
    obtain ⟨r6, S5, k4, h⟩ := zBp_e h
    refine zr_VQ (pc := 17) (rest := []) cx cv_X12_323 (mX12_fewestSee hq k4) ⟨⟨rfl, rfl⟩, Nat.le_of_ble_eq_true rfl, Nat.le_of_ble_eq_true rfl⟩ ⟨Nat.le_of_ble_eq_true rfl, Nat.le_of_ble_eq_true rfl⟩ hP hS nM_0 sM_0 rfl hl.1 rfl rfl (Nat.le_of_ble_eq_true rfl) dX12_choice_17 (fun H locs hP hS => ?_)
    refine lv_istore_n (lv' := [(1, .int r6), (0, .ref (q 0))]) (pc := 20) hx hb dX12_choice_20 rfl hl (by decide) rfl (fun ls hl => ?_)
    refine lv_aload_n (pc := 21) hx hb dX12_choice_21 rfl (lv_at hl 1 rfl) ?_
    refine lv_iconst (pc := 22) hx hb dX12_choice_22 zc_m1 ?_
    refine lv_iconst (pc := 23) hx hb dX12_choice_23 zc_m1 ?_
    obtain ⟨S8, k7, h⟩ := zBd_e h
    refine zr_VV (pc := 24) (rest := []) cx cv_X12_326 (mX12_choose hq k7) ⟨⟨rfl, rfl⟩, Nat.le_of_ble_eq_true rfl, Nat.le_of_ble_eq_true rfl⟩ ⟨Nat.le_of_ble_eq_true rfl, Nat.le_of_ble_eq_true rfl⟩ hP hS nM_0 sM_0 rfl hl.1 rfl rfl (Nat.le_of_ble_eq_true rfl) dX12_choice_24 (fun H locs hP hS => ?_)
    refine lv_aload_n (pc := 27) hx hb dX12_choice_27 rfl (lv_at hl 1 rfl) ?_
    refine lv_iconst (pc := 28) hx hb dX12_choice_28 zc_1 ?_
    obtain ⟨g10, h⟩ := zGd_e h
    obtain ⟨S9, eS9, h⟩ := zLt_e h
    refine zr_putI (pc := 29) cx lq_X12_330 hq hP hS nM_0 sM_0 rfl (zBo_n g10) (zBo_f g10) dX12_choice_29 (fun H locs hP hS => ?_)
    rw [← eS9] at hP
    refine lv_iconst (pc := 32) hx hb dX12_choice_32 zc_0 ?_
    refine lv_istore_n (lv' := [(2, .int (0 : Int32)), (1, .int r6), (0, .ref (q 0))]) (pc := 33) hx hb dX12_choice_33 rfl hl (by decide) rfl (fun ls hl => ?_)
    exact kX12_choice_34 cx hr hlk hq 2000 _ _ _ h _ _ hP hS _ (lv_sub hl [2, 1, 0] rfl)
  · replace h := zBr_t c3 h
    refine lv_iconst (pc := 14) hx hb dX12_choice_14 zc_m1 ?_
    have hz := Option.some.inj h
    exact zr_rqI (pc := 15) cx hr hlk hP hS hz dX12_choice_15
-- X12_chosen
abbrev rmX12_chosen : Room := { frames := 1, cells := 0, slots := 0, locals := 22 }
def fX12_chosen (S : zSt) (v1 : Int32) : Option (Int32 × zSt) :=
  zLt (zI S 0 0 (0 : Int32)) (fun S1 => zBr ((S1.1 0 31) = 0) (some ((-1 : Int32), S1)) (zBd (fX12_isIn v1 (0 : Int32) (2 : Int32)) (fun r4 => zBr (r4 = 0) (some ((-1 : Int32), S1)) (zGd (zIx v1 3) (some ((S1.1 14 v1.toNatClampNeg), S1))))))
set_option maxHeartbeats 4000000 in
set_option maxRecDepth 100000 in
theorem mX12_chosen {l : Launch} {D : va_G} {cy : Nat → ClassId} {q : Nat → Nat} {A : Nat → Prop} {S : zSt} {v1 : Int32} (hq : zQ A q zNM) {z : (Int32 × zSt)} (h : fX12_chosen S v1 = some z) : zMq l yX12_chosen cX12_chosen 2 (some .int) rmX12_chosen [.ref (q 0), .int v1] zshM zNM D cy q A S z := by
  refine Met.ofW (cc := cX12_chosen) (maxL := 2) (ret := (some .int)) (by decide) rfl ?_
  intro p e s m args below meth c s₁ B hml hv
  obtain ⟨rfl, hP, hK⟩ := hv
  have cx : zX RX12 cX12_chosen 2 p s m ([.ref (q 0), .int v1]).toArray c D cy := ⟨B.exec, B.bytes, hml, findClass_of_methodNamed B.named, fun w hw => atoms_spec (ws := Cond.code yX12_chosen cX12_chosen 2 (some .int) :: zTB) B.pre w (List.mem_cons_of_mem _ hw), hK⟩
  have hx := cx.1
  have hb := cx.2.1
  have hr := B.returns
  have hlk := B.notSynchronized
  have hS : va_S A s.heap s.heap [] := va_S.rf
  have hl := lv_entry ([.ref (q 0), .int v1]) (n := 2) (Nat.le_of_ble_eq_true rfl)
  rw [lg_entry_eq]
  generalize (lg_sl ([.ref (q 0), .int v1]) ++ List.replicate (2 - (lg_sl ([.ref (q 0), .int v1])).length) Slot.unset).toArray = ls at hl ⊢
  have hl : lv_has ls 2 [(0, .ref (q 0)), (1, .int v1)] := hl
  unfold fX12_chosen at h
  refine lv_aload_n (pc := 0) hx hb dX12_chosen_0 rfl (lv_at hl 0 rfl) ?_
  refine lv_iconst (pc := 1) hx hb dX12_chosen_1 zc_0 ?_
  obtain ⟨S1, eS1, h⟩ := zLt_e h
  refine zr_putI (pc := 2) cx lq_X12_1 hq hP hS nM_0 sM_0 rfl rfl rfl dX12_chosen_2 (fun H locs hP hS => ?_)
  rw [← eS1] at hP
  refine lv_aload_n (pc := 5) hx hb dX12_chosen_5 rfl (lv_at hl 0 rfl) ?_
  refine zr_getI (pc := 6) cx lk_X12_330 hP nM_0 sM_0 rfl dX12_chosen_6 ?_
  refine lv_if_eq (pc := 9) (tgt := 30) hx hb dX12_chosen_9 (by decide) (fun c2 => ?_) (fun c2 => ?_)
  · replace h := zBr_t c2 h
    refine lv_iconst (pc := 30) hx hb dX12_chosen_30 zc_m1 ?_
    have hz := Option.some.inj h
    exact zr_rqI (pc := 31) cx hr hlk hP hS hz dX12_chosen_31
  · replace h := zBr_f c2 h
    refine lv_iload_n (pc := 12) hx hb dX12_chosen_12 rfl (lv_at hl 1 rfl) ?_
    refine lv_iconst (pc := 13) hx hb dX12_chosen_13 zc_0 ?_
    refine lv_iconst (pc := 14) hx hb dX12_chosen_14 zc_2 ?_
    obtain ⟨r4, k3, h⟩ := zBd_e h
    refine zr_SI (pc := 15) (rest := []) cx cv_X12_75 (mX12_isIn k3) ⟨⟨rfl, rfl⟩, Nat.le_of_ble_eq_true rfl, Nat.le_of_ble_eq_true rfl⟩ ⟨Nat.le_of_ble_eq_true rfl, Nat.le_of_ble_eq_true rfl⟩ (zr_preK cx) hl.1 rfl rfl (Nat.le_of_ble_eq_true rfl) dX12_chosen_15 ?_
    refine lv_if_eq (pc := 18) (tgt := 30) hx hb dX12_chosen_18 (by decide) (fun c5 => ?_) (fun c5 => ?_)
    · replace h := zBr_t c5 h
      refine lv_iconst (pc := 30) hx hb dX12_chosen_30 zc_m1 ?_
      have hz := Option.some.inj h
      exact zr_rqI (pc := 31) cx hr hlk hP hS hz dX12_chosen_31
    · replace h := zBr_f c5 h
      refine lv_aload_n (pc := 21) hx hb dX12_chosen_21 rfl (lv_at hl 0 rfl) ?_
      refine zr_getR (pc := 22) (t := 14) cx lk_X12_142 hP nM_0 sM_0 rfl dX12_chosen_22 ?_
      refine lv_iload_n (pc := 25) hx hb dX12_chosen_25 rfl (lv_at hl 1 rfl) ?_
      obtain ⟨g6, h⟩ := zGd_e h
      refine zr_iald (pc := 26) cx hP nM_14 sM_14 g6 dX12_chosen_26 ?_
      refine lv_goto (pc := 27) (tgt := 31) hx hb dX12_chosen_27 (by decide) ?_
      have hz := Option.some.inj h
      exact zr_rqI (pc := 31) cx hr hlk hP hS hz dX12_chosen_31
-- X12_come
abbrev rmX12_come : Room := { frames := 0, cells := 0, slots := 0, locals := 0 }
def fX12_come_3  (v1 : Int32) (t : (zSt × Int32)) : Option ((zSt × Int32) ⊕ zSt) :=
  match t with
  | (S, v2) => zBr (v2 < 0) (zXr (some S)) (zGd (zIx (S.1 0 2) 940) (zLt (zI S 1 (S.1 0 2).toNatClampNeg ((zUsh v1 v2) &&& (255 : Int32))) (fun S4 => zLt (zI S4 0 2 ((S4.1 0 2) + (1 : Int32))) (fun S5 => zLt (v2 + (-8 : Int32)) (fun x6 => some (.inl (S5, x6)))))))
set_option maxHeartbeats 4000000 in
set_option maxRecDepth 100000 in
theorem kX12_come_3B {p : Program} {l : Launch} {e : Env} {s : State} {m : MethodId} {args : Array Value} {below : List Frame} {meth : Method} {c : Code} {D : va_G} {cy : Nat → ClassId} {q : Nat → Nat} {A : Nat → Prop} (cx : zX RX12 cX12_come 3 p s m args c D cy) (hr : meth.sig.returnType = none) (hlk : meth.locks = false) (hq : zQ A q zNM) {z : zSt} {S : zSt} {v1 : Int32} {v2 : Int32} {C1 : ((zSt × Int32) ⊕ zSt) → Prop} (hb1 : ∀ (S : zSt) (v2 : Int32), C1 (.inl (S, v2)) → ∀ (H : Heap) (locs : List Loc), va_P D vwCl (zW zshM zNM cy q S) H → va_S A s.heap H locs → ∀ (ls : Array Slot), lv_has ls 3 [(0, .ref (q 0)), (1, .int v1), (2, .int v2)] → W p l e rmX12_come s m args below meth c H locs 0 0 (MQ below (va_Qv (fun (u : zSt) => u = z) (fun u t => va_P D vwCl (zW zshM zNM cy q u) t.heap) A) args s 0 0 A) (F0 m 3 ls [])) (hx1 : ∀ a, C1 (.inr a) → a = z) {x : ((zSt × Int32) ⊕ zSt)} (h : fX12_come_3 v1 (S, v2) = some x) (hc : C1 x) {H : Heap} {locs : List Loc} (hP : va_P D vwCl (zW zshM zNM cy q S) H) (hS : va_S A s.heap H locs) {ls : Array Slot} (hl : lv_has ls 3 [(0, .ref (q 0)), (1, .int v1), (2, .int v2)]) : W p l e rmX12_come s m args below meth c H locs 0 0 (MQ below (va_Qv (fun (u : zSt) => u = z) (fun u t => va_P D vwCl (zW zshM zNM cy q u) t.heap) A) args s 0 0 A) (F0 m 3 ls []) := by
  have hx := cx.1
  have hb := cx.2.1
  unfold fX12_come_3 at h
  dsimp only at h
  refine lv_iload_n (pc := 3) hx hb dX12_come_3 rfl (lv_at hl 2 rfl) ?_
  refine lv_if_lt (pc := 4) (tgt := 39) hx hb dX12_come_4 (by decide) (fun c1 => ?_) (fun c1 => ?_)
  · replace h := zBr_t c1 h
    obtain ⟨y2, h, ex⟩ := zXr_e h
    have hc := hx1 y2 (by rw [ex] at hc; exact hc)
    rw [hc] at h
    have hz := Option.some.inj h
    exact zr_rqV (pc := 39) cx hr hlk hP hS hz dX12_come_39
  · replace h := zBr_f c1 h
    refine lv_aload_n (pc := 7) hx hb dX12_come_7 rfl (lv_at hl 0 rfl) ?_
    refine zr_getR (pc := 8) (t := 1) cx lk_X12_7 hP nM_0 sM_0 rfl dX12_come_8 ?_
    refine lv_aload_n (pc := 11) hx hb dX12_come_11 rfl (lv_at hl 0 rfl) ?_
    refine zr_getI (pc := 12) cx lk_X12_11 hP nM_0 sM_0 rfl dX12_come_12 ?_
    refine lv_iload_n (pc := 15) hx hb dX12_come_15 rfl (lv_at hl 1 rfl) ?_
    refine lv_iload_n (pc := 16) hx hb dX12_come_16 rfl (lv_at hl 2 rfl) ?_
    refine lv_iushr (v := (zUsh v1 v2)) (pc := 17) hx hb dX12_come_17 rfl ?_
    refine lv_sipush (pc := 18) hx hb dX12_come_18 zs_255 ?_
    refine lv_iand (pc := 21) hx hb dX12_come_21 ?_
    obtain ⟨g3, h⟩ := zGd_e h
    obtain ⟨S4, eS4, h⟩ := zLt_e h
    refine zr_iast (pc := 22) cx hq hP hS nM_1 sM_1 g3 dX12_come_22 (fun H locs hP hS => ?_)
    rw [← eS4] at hP
    refine lv_aload_n (pc := 23) hx hb dX12_come_23 rfl (lv_at hl 0 rfl) ?_
    refine lv_dup (pc := 24) hx hb dX12_come_24 rfl ?_
    refine zr_getI (pc := 25) cx lk_X12_11 hP nM_0 sM_0 rfl dX12_come_25 ?_
    refine lv_iconst (pc := 28) hx hb dX12_come_28 zc_1 ?_
    refine lv_iadd (pc := 29) hx hb dX12_come_29 ?_
    obtain ⟨S5, eS5, h⟩ := zLt_e h
    refine zr_putI (pc := 30) cx lq_X12_11 hq hP hS nM_0 sM_0 rfl rfl rfl dX12_come_30 (fun H locs hP hS => ?_)
    rw [← eS5] at hP
    obtain ⟨x6, ex6, h⟩ := zLt_e h
    refine lv_iinc (v := x6) (lv' := [(2, .int x6), (0, .ref (q 0)), (1, .int v1)]) (pc := 33) hx hb dX12_come_33 hl (k := 2) rfl (by rw [zc_m8]; exact ex6.symm) (by decide) rfl (fun ls hl => ?_)
    refine lv_goto (pc := 36) (tgt := 3) hx hb dX12_come_36 (by decide) ?_
    cases h
    exact hb1 _ _ hc _ _ hP hS _ (lv_sub hl [1, 2, 0] rfl)
set_option maxHeartbeats 4000000 in
set_option maxRecDepth 100000 in
theorem kX12_come_3 {p : Program} {l : Launch} {e : Env} {s : State} {m : MethodId} {args : Array Value} {below : List Frame} {meth : Method} {c : Code} {D : va_G} {cy : Nat → ClassId} {q : Nat → Nat} {A : Nat → Prop} (cx : zX RX12 cX12_come 3 p s m args c D cy) (hr : meth.sig.returnType = none) (hlk : meth.locks = false) (hq : zQ A q zNM) {z : zSt} {v1 : Int32} : ∀ (n : Nat) (S : zSt) (v2 : Int32), zLp (fX12_come_3 v1) n (S, v2) = some z → ∀ (H : Heap) (locs : List Loc), va_P D vwCl (zW zshM zNM cy q S) H → va_S A s.heap H locs → ∀ (ls : Array Slot), lv_has ls 3 [(0, .ref (q 0)), (1, .int v1), (2, .int v2)] → W p l e rmX12_come s m args below meth c H locs 0 0 (MQ below (va_Qv (fun (u : zSt) => u = z) (fun u t => va_P D vwCl (zW zshM zNM cy q u) t.heap) A) args s 0 0 A) (F0 m 3 ls []) := by
  intro n
  induction n with
  | zero =>
    intro S v2 h
    cases h
  | succ n ih =>
    intro S v2 h H locs hP hS ls hl
    obtain ⟨x, h, hk⟩ := zLp_e h
    exact kX12_come_3B cx hr hlk hq  (C1 := zKt (fun t => zLp (fX12_come_3 v1) n t = some z) (fun a => a = z)) (fun S v2 ht H locs hP hS ls hl => ih S v2 ht H locs hP hS ls hl) (fun a ha => ha) h hk hP hS hl
def fX12_come (S : zSt) (v1 : Int32) : Option zSt :=
  zLp (fX12_come_3 v1) 2000 (S, (24 : Int32))
set_option maxHeartbeats 4000000 in
set_option maxRecDepth 100000 in
theorem mX12_come {l : Launch} {D : va_G} {cy : Nat → ClassId} {q : Nat → Nat} {A : Nat → Prop} {S : zSt} {v1 : Int32} (hq : zQ A q zNM) {z : zSt} (h : fX12_come S v1 = some z) : zMv l yX12_come cX12_come 3 none rmX12_come [.ref (q 0), .int v1] zshM zNM D cy q A S z := by
  refine Met.ofW (cc := cX12_come) (maxL := 3) (ret := none) (by decide) rfl ?_
  intro p e s m args below meth c s₁ B hml hv
  obtain ⟨rfl, hP, hK⟩ := hv
  have cx : zX RX12 cX12_come 3 p s m ([.ref (q 0), .int v1]).toArray c D cy := ⟨B.exec, B.bytes, hml, findClass_of_methodNamed B.named, fun w hw => atoms_spec (ws := Cond.code yX12_come cX12_come 3 none :: zTB) B.pre w (List.mem_cons_of_mem _ hw), hK⟩
  have hx := cx.1
  have hb := cx.2.1
  have hr := B.returns
  have hlk := B.notSynchronized
  have hS : va_S A s.heap s.heap [] := va_S.rf
  have hl := lv_entry ([.ref (q 0), .int v1]) (n := 3) (Nat.le_of_ble_eq_true rfl)
  rw [lg_entry_eq]
  generalize (lg_sl ([.ref (q 0), .int v1]) ++ List.replicate (3 - (lg_sl ([.ref (q 0), .int v1])).length) Slot.unset).toArray = ls at hl ⊢
  have hl : lv_has ls 3 [(0, .ref (q 0)), (1, .int v1)] := hl
  unfold fX12_come at h
  refine lv_bipush (pc := 0) hx hb dX12_come_0 zb_24 ?_
  refine lv_istore_n (lv' := [(2, .int (24 : Int32)), (0, .ref (q 0)), (1, .int v1)]) (pc := 2) hx hb dX12_come_2 rfl hl (by decide) rfl (fun ls hl => ?_)
  exact kX12_come_3 cx hr hlk hq 2000 _ _ h _ _ hP hS _ (lv_sub hl [1, 2, 0] rfl)
-- X12_comes
abbrev rmX12_comes : Room := { frames := 2, cells := 0, slots := 0, locals := 43 }
def fX12_comes (S : zSt) (v1 : Int32) (v2 : Int32) : Option (Int32 × zSt) :=
  zLt (zI S 0 0 (0 : Int32)) (fun S1 => zBd (fX12_isPlant S1 v1) (fun r3 => zBr (r3 = 0) (some ((-1 : Int32), S1)) (zBd (fX12_isAct S1 v2) (fun r6 => zBr (r6 = 0) (some ((-1 : Int32), S1)) (zBd (fX12_leafOf S1 v1 v2) (fun r9 => some (r9, S1)))))))
set_option maxHeartbeats 4000000 in
set_option maxRecDepth 100000 in
theorem mX12_comes {l : Launch} {D : va_G} {cy : Nat → ClassId} {q : Nat → Nat} {A : Nat → Prop} {S : zSt} {v1 : Int32} {v2 : Int32} (hq : zQ A q zNM) {z : (Int32 × zSt)} (h : fX12_comes S v1 v2 = some z) : zMq l yX12_comes cX12_comes 3 (some .int) rmX12_comes [.ref (q 0), .int v1, .int v2] zshM zNM D cy q A S z := by
  refine Met.ofW (cc := cX12_comes) (maxL := 3) (ret := (some .int)) (by decide) rfl ?_
  intro p e s m args below meth c s₁ B hml hv
  obtain ⟨rfl, hP, hK⟩ := hv
  have cx : zX RX12 cX12_comes 3 p s m ([.ref (q 0), .int v1, .int v2]).toArray c D cy := ⟨B.exec, B.bytes, hml, findClass_of_methodNamed B.named, fun w hw => atoms_spec (ws := Cond.code yX12_comes cX12_comes 3 (some .int) :: zTB) B.pre w (List.mem_cons_of_mem _ hw), hK⟩
  have hx := cx.1
  have hb := cx.2.1
  have hr := B.returns
  have hlk := B.notSynchronized
  have hS : va_S A s.heap s.heap [] := va_S.rf
  have hl := lv_entry ([.ref (q 0), .int v1, .int v2]) (n := 3) (Nat.le_of_ble_eq_true rfl)
  rw [lg_entry_eq]
  generalize (lg_sl ([.ref (q 0), .int v1, .int v2]) ++ List.replicate (3 - (lg_sl ([.ref (q 0), .int v1, .int v2])).length) Slot.unset).toArray = ls at hl ⊢
  have hl : lv_has ls 3 [(0, .ref (q 0)), (1, .int v1), (2, .int v2)] := hl
  unfold fX12_comes at h
  refine lv_aload_n (pc := 0) hx hb dX12_comes_0 rfl (lv_at hl 0 rfl) ?_
  refine lv_iconst (pc := 1) hx hb dX12_comes_1 zc_0 ?_
  obtain ⟨S1, eS1, h⟩ := zLt_e h
  refine zr_putI (pc := 2) cx lq_X12_1 hq hP hS nM_0 sM_0 rfl rfl rfl dX12_comes_2 (fun H locs hP hS => ?_)
  rw [← eS1] at hP
  refine lv_aload_n (pc := 5) hx hb dX12_comes_5 rfl (lv_at hl 0 rfl) ?_
  refine lv_iload_n (pc := 6) hx hb dX12_comes_6 rfl (lv_at hl 1 rfl) ?_
  obtain ⟨r3, k2, h⟩ := zBd_e h
  refine zr_VI (pc := 7) (rest := []) cx cv_X12_244 (mX12_isPlant k2) ⟨⟨rfl, rfl⟩, Nat.le_of_ble_eq_true rfl, Nat.le_of_ble_eq_true rfl⟩ ⟨Nat.le_of_ble_eq_true rfl, Nat.le_of_ble_eq_true rfl⟩ hP nM_0 sM_0 rfl hl.1 rfl rfl (Nat.le_of_ble_eq_true rfl) dX12_comes_7 ?_
  refine lv_if_eq (pc := 10) (tgt := 30) hx hb dX12_comes_10 (by decide) (fun c4 => ?_) (fun c4 => ?_)
  · replace h := zBr_t c4 h
    refine lv_iconst (pc := 30) hx hb dX12_comes_30 zc_m1 ?_
    have hz := Option.some.inj h
    exact zr_rqI (pc := 31) cx hr hlk hP hS hz dX12_comes_31
  · replace h := zBr_f c4 h
    refine lv_aload_n (pc := 13) hx hb dX12_comes_13 rfl (lv_at hl 0 rfl) ?_
    refine lv_iload_n (pc := 14) hx hb dX12_comes_14 rfl (lv_at hl 2 rfl) ?_
    obtain ⟨r6, k5, h⟩ := zBd_e h
    refine zr_VI (pc := 15) (rest := []) cx cv_X12_256 (mX12_isAct k5) ⟨⟨rfl, rfl⟩, Nat.le_of_ble_eq_true rfl, Nat.le_of_ble_eq_true rfl⟩ ⟨Nat.le_of_ble_eq_true rfl, Nat.le_of_ble_eq_true rfl⟩ hP nM_0 sM_0 rfl hl.1 rfl rfl (Nat.le_of_ble_eq_true rfl) dX12_comes_15 ?_
    refine lv_if_eq (pc := 18) (tgt := 30) hx hb dX12_comes_18 (by decide) (fun c7 => ?_) (fun c7 => ?_)
    · replace h := zBr_t c7 h
      refine lv_iconst (pc := 30) hx hb dX12_comes_30 zc_m1 ?_
      have hz := Option.some.inj h
      exact zr_rqI (pc := 31) cx hr hlk hP hS hz dX12_comes_31
    · replace h := zBr_f c7 h
      refine lv_aload_n (pc := 21) hx hb dX12_comes_21 rfl (lv_at hl 0 rfl) ?_
      refine lv_iload_n (pc := 22) hx hb dX12_comes_22 rfl (lv_at hl 1 rfl) ?_
      refine lv_iload_n (pc := 23) hx hb dX12_comes_23 rfl (lv_at hl 2 rfl) ?_
      obtain ⟨r9, k8, h⟩ := zBd_e h
      refine zr_VI (pc := 24) (rest := []) cx cv_X12_224 (mX12_leafOf k8) ⟨⟨rfl, rfl⟩, Nat.le_of_ble_eq_true rfl, Nat.le_of_ble_eq_true rfl⟩ ⟨Nat.le_of_ble_eq_true rfl, Nat.le_of_ble_eq_true rfl⟩ hP nM_0 sM_0 rfl hl.1 rfl rfl (Nat.le_of_ble_eq_true rfl) dX12_comes_24 ?_
      refine lv_goto (pc := 27) (tgt := 31) hx hb dX12_comes_27 (by decide) ?_
      have hz := Option.some.inj h
      exact zr_rqI (pc := 31) cx hr hlk hP hS hz dX12_comes_31
-- X12_count
abbrev rmX12_count : Room := { frames := 0, cells := 0, slots := 0, locals := 0 }
def fX12_count (S : zSt) (v1 : Int32) : Option (Int32 × zSt) :=
  zLt (zI S 0 0 (0 : Int32)) (fun S1 => zBr (v1 = 0) (zGd (zIx (0 : Int32) 406) (some ((S1.1 2 (0 : Int32).toNatClampNeg), S1))) (zBr (v1 = 1) (zGd (zIx (1 : Int32) 406) (some ((S1.1 2 (1 : Int32).toNatClampNeg), S1))) (zBr (v1 = 2) (zGd (zIx (2 : Int32) 406) (some ((S1.1 2 (2 : Int32).toNatClampNeg), S1))) (zBr (v1 = 3) (zGd (zIx (3 : Int32) 406) (some ((S1.1 2 (3 : Int32).toNatClampNeg), S1))) (zBr (v1 = 4) (zGd (zIx (4 : Int32) 406) (some ((S1.1 2 (4 : Int32).toNatClampNeg), S1))) (zBr (v1 = 5) (zGd (zIx (5 : Int32) 406) (some ((S1.1 2 (5 : Int32).toNatClampNeg), S1))) (zBr (v1 = 6) (some ((S1.1 0 2), S1)) (some ((-1 : Int32), S1)))))))))
set_option maxHeartbeats 4000000 in
set_option maxRecDepth 100000 in
theorem mX12_count {l : Launch} {D : va_G} {cy : Nat → ClassId} {q : Nat → Nat} {A : Nat → Prop} {S : zSt} {v1 : Int32} (hq : zQ A q zNM) {z : (Int32 × zSt)} (h : fX12_count S v1 = some z) : zMq l yX12_count cX12_count 2 (some .int) rmX12_count [.ref (q 0), .int v1] zshM zNM D cy q A S z := by
  refine Met.ofW (cc := cX12_count) (maxL := 2) (ret := (some .int)) (by decide) rfl ?_
  intro p e s m args below meth c s₁ B hml hv
  obtain ⟨rfl, hP, hK⟩ := hv
  have cx : zX RX12 cX12_count 2 p s m ([.ref (q 0), .int v1]).toArray c D cy := ⟨B.exec, B.bytes, hml, findClass_of_methodNamed B.named, fun w hw => atoms_spec (ws := Cond.code yX12_count cX12_count 2 (some .int) :: zTB) B.pre w (List.mem_cons_of_mem _ hw), hK⟩
  have hx := cx.1
  have hb := cx.2.1
  have hr := B.returns
  have hlk := B.notSynchronized
  have hS : va_S A s.heap s.heap [] := va_S.rf
  have hl := lv_entry ([.ref (q 0), .int v1]) (n := 2) (Nat.le_of_ble_eq_true rfl)
  rw [lg_entry_eq]
  generalize (lg_sl ([.ref (q 0), .int v1]) ++ List.replicate (2 - (lg_sl ([.ref (q 0), .int v1])).length) Slot.unset).toArray = ls at hl ⊢
  have hl : lv_has ls 2 [(0, .ref (q 0)), (1, .int v1)] := hl
  unfold fX12_count at h
  refine lv_aload_n (pc := 0) hx hb dX12_count_0 rfl (lv_at hl 0 rfl) ?_
  refine lv_iconst (pc := 1) hx hb dX12_count_1 zc_0 ?_
  obtain ⟨S1, eS1, h⟩ := zLt_e h
  refine zr_putI (pc := 2) cx lq_X12_1 hq hP hS nM_0 sM_0 rfl rfl rfl dX12_count_2 (fun H locs hP hS => ?_)
  rw [← eS1] at hP
  refine lv_iload_n (pc := 5) hx hb dX12_count_5 rfl (lv_at hl 1 rfl) ?_
  by_cases c2 : v1 = 0
  · replace h := zBr_t c2 h
    refine lv_tableIn (pc := 6) (off := 42) (tgt := 48) hx hb dX12_count_6 (by rw [c2]; decide) (by rw [c2]; decide) (by rw [c2]; rfl) (by decide) ?_
    refine lv_aload_n (pc := 48) hx hb dX12_count_48 rfl (lv_at hl 0 rfl) ?_
    refine zr_getR (pc := 49) (t := 2) cx lk_X12_98 hP nM_0 sM_0 rfl dX12_count_49 ?_
    refine lv_iconst (pc := 52) hx hb dX12_count_52 zc_0 ?_
    obtain ⟨g9, h⟩ := zGd_e h
    refine zr_iald (pc := 53) cx hP nM_2 sM_2 g9 dX12_count_53 ?_
    have hz := Option.some.inj h
    exact zr_rqI (pc := 54) cx hr hlk hP hS hz dX12_count_54
  · replace h := zBr_f c2 h
    by_cases c3 : v1 = 1
    · replace h := zBr_t c3 h
      refine lv_tableIn (pc := 6) (off := 49) (tgt := 55) hx hb dX12_count_6 (by rw [c3]; decide) (by rw [c3]; decide) (by rw [c3]; rfl) (by decide) ?_
      refine lv_aload_n (pc := 55) hx hb dX12_count_55 rfl (lv_at hl 0 rfl) ?_
      refine zr_getR (pc := 56) (t := 2) cx lk_X12_98 hP nM_0 sM_0 rfl dX12_count_56 ?_
      refine lv_iconst (pc := 59) hx hb dX12_count_59 zc_1 ?_
      obtain ⟨g10, h⟩ := zGd_e h
      refine zr_iald (pc := 60) cx hP nM_2 sM_2 g10 dX12_count_60 ?_
      have hz := Option.some.inj h
      exact zr_rqI (pc := 61) cx hr hlk hP hS hz dX12_count_61
    · replace h := zBr_f c3 h
      by_cases c4 : v1 = 2
      · replace h := zBr_t c4 h
        refine lv_tableIn (pc := 6) (off := 56) (tgt := 62) hx hb dX12_count_6 (by rw [c4]; decide) (by rw [c4]; decide) (by rw [c4]; rfl) (by decide) ?_
        refine lv_aload_n (pc := 62) hx hb dX12_count_62 rfl (lv_at hl 0 rfl) ?_
        refine zr_getR (pc := 63) (t := 2) cx lk_X12_98 hP nM_0 sM_0 rfl dX12_count_63 ?_
        refine lv_iconst (pc := 66) hx hb dX12_count_66 zc_2 ?_
        obtain ⟨g11, h⟩ := zGd_e h
        refine zr_iald (pc := 67) cx hP nM_2 sM_2 g11 dX12_count_67 ?_
        have hz := Option.some.inj h
        exact zr_rqI (pc := 68) cx hr hlk hP hS hz dX12_count_68
      · replace h := zBr_f c4 h
        by_cases c5 : v1 = 3
        · replace h := zBr_t c5 h
          refine lv_tableIn (pc := 6) (off := 63) (tgt := 69) hx hb dX12_count_6 (by rw [c5]; decide) (by rw [c5]; decide) (by rw [c5]; rfl) (by decide) ?_
          refine lv_aload_n (pc := 69) hx hb dX12_count_69 rfl (lv_at hl 0 rfl) ?_
          refine zr_getR (pc := 70) (t := 2) cx lk_X12_98 hP nM_0 sM_0 rfl dX12_count_70 ?_
          refine lv_iconst (pc := 73) hx hb dX12_count_73 zc_3 ?_
          obtain ⟨g12, h⟩ := zGd_e h
          refine zr_iald (pc := 74) cx hP nM_2 sM_2 g12 dX12_count_74 ?_
          have hz := Option.some.inj h
          exact zr_rqI (pc := 75) cx hr hlk hP hS hz dX12_count_75
        · replace h := zBr_f c5 h
          by_cases c6 : v1 = 4
          · replace h := zBr_t c6 h
            refine lv_tableIn (pc := 6) (off := 70) (tgt := 76) hx hb dX12_count_6 (by rw [c6]; decide) (by rw [c6]; decide) (by rw [c6]; rfl) (by decide) ?_
            refine lv_aload_n (pc := 76) hx hb dX12_count_76 rfl (lv_at hl 0 rfl) ?_
            refine zr_getR (pc := 77) (t := 2) cx lk_X12_98 hP nM_0 sM_0 rfl dX12_count_77 ?_
            refine lv_iconst (pc := 80) hx hb dX12_count_80 zc_4 ?_
            obtain ⟨g13, h⟩ := zGd_e h
            refine zr_iald (pc := 81) cx hP nM_2 sM_2 g13 dX12_count_81 ?_
            have hz := Option.some.inj h
            exact zr_rqI (pc := 82) cx hr hlk hP hS hz dX12_count_82
          · replace h := zBr_f c6 h
            by_cases c7 : v1 = 5
            · replace h := zBr_t c7 h
              refine lv_tableIn (pc := 6) (off := 77) (tgt := 83) hx hb dX12_count_6 (by rw [c7]; decide) (by rw [c7]; decide) (by rw [c7]; rfl) (by decide) ?_
              refine lv_aload_n (pc := 83) hx hb dX12_count_83 rfl (lv_at hl 0 rfl) ?_
              refine zr_getR (pc := 84) (t := 2) cx lk_X12_98 hP nM_0 sM_0 rfl dX12_count_84 ?_
              refine lv_iconst (pc := 87) hx hb dX12_count_87 zc_5 ?_
              obtain ⟨g14, h⟩ := zGd_e h
              refine zr_iald (pc := 88) cx hP nM_2 sM_2 g14 dX12_count_88 ?_
              have hz := Option.some.inj h
              exact zr_rqI (pc := 89) cx hr hlk hP hS hz dX12_count_89
            · replace h := zBr_f c7 h
              by_cases c8 : v1 = 6
              · replace h := zBr_t c8 h
                refine lv_tableIn (pc := 6) (off := 84) (tgt := 90) hx hb dX12_count_6 (by rw [c8]; decide) (by rw [c8]; decide) (by rw [c8]; rfl) (by decide) ?_
                refine lv_aload_n (pc := 90) hx hb dX12_count_90 rfl (lv_at hl 0 rfl) ?_
                refine zr_getI (pc := 91) cx lk_X12_11 hP nM_0 sM_0 rfl dX12_count_91 ?_
                have hz := Option.some.inj h
                exact zr_rqI (pc := 94) cx hr hlk hP hS hz dX12_count_94
              · replace h := zBr_f c8 h
                refine zr_tsD (pc := 6) (tgt := 95) hx hb dX12_count_6 (fun h1 h2 => ?_) (by decide) ?_
                · rcases (show (v1).toInt = 0 ∨ (v1).toInt = 1 ∨ (v1).toInt = 2 ∨ (v1).toInt = 3 ∨ (v1).toInt = 4 ∨ (v1).toInt = 5 ∨ (v1).toInt = 6 by omega) with e9 | e9 | e9 | e9 | e9 | e9 | e9
                  · exact absurd (Int32.toInt_inj.mp (e9.trans (by decide))) c2
                  · exact absurd (Int32.toInt_inj.mp (e9.trans (by decide))) c3
                  · exact absurd (Int32.toInt_inj.mp (e9.trans (by decide))) c4
                  · exact absurd (Int32.toInt_inj.mp (e9.trans (by decide))) c5
                  · exact absurd (Int32.toInt_inj.mp (e9.trans (by decide))) c6
                  · exact absurd (Int32.toInt_inj.mp (e9.trans (by decide))) c7
                  · exact absurd (Int32.toInt_inj.mp (e9.trans (by decide))) c8
                · skip
                  refine lv_iconst (pc := 95) hx hb dX12_count_95 zc_m1 ?_
                  have hz := Option.some.inj h
                  exact zr_rqI (pc := 96) cx hr hlk hP hS hz dX12_count_96
-- X12_seenFrom
abbrev rmX12_seenFrom : Room := { frames := 1, cells := 0, slots := 0, locals := 21 }
def fX12_seenFrom_25 (S : zSt)  (v1 : Int32) (v2 : Int32) (v3 : Int32) : Option ((Int32 × Int32) ⊕ Int32) :=
  zLt (v3 + (1 : Int32)) (fun x6 => some (.inl (v2, x6)))
set_option maxHeartbeats 4000000 in
set_option maxRecDepth 100000 in
theorem kX12_seenFrom_25 {p : Program} {l : Launch} {e : Env} {s : State} {m : MethodId} {args : Array Value} {below : List Frame} {meth : Method} {c : Code} {D : va_G} {cy : Nat → ClassId} {q : Nat → Nat} (cx : zX RX12 cX12_seenFrom 4 p s m args c D cy) (hr : meth.sig.returnType = (some .int)) (hlk : meth.locks = false) {z : Int32} {S : zSt} {v1 : Int32} {v2 : Int32} {v3 : Int32} {C1 : ((Int32 × Int32) ⊕ Int32) → Prop} (hb1 : ∀ (v2 : Int32) (v3 : Int32), C1 (.inl (v2, v3)) → ∀ (ls : Array Slot), lv_has ls 4 [(0, .ref (q 0)), (1, .int v1), (2, .int v2), (3, .int v3)] → W p l e rmX12_seenFrom s m args below meth c s.heap [] 0 0 (MQ below (vp_Si (fun x => x = z)) args s 0 0 (fun _ => False)) (F0 m 4 ls [])) (hx1 : ∀ a, C1 (.inr a) → a = z) (hP : va_P D vwCl (zW zshM zNM cy q S) s.heap) {x : ((Int32 × Int32) ⊕ Int32)} (h : fX12_seenFrom_25 S v1 v2 v3 = some x) (hc : C1 x) {ls : Array Slot} (hl : lv_has ls 4 [(0, .ref (q 0)), (1, .int v1), (2, .int v2), (3, .int v3)]) : W p l e rmX12_seenFrom s m args below meth c s.heap [] 0 0 (MQ below (vp_Si (fun x => x = z)) args s 0 0 (fun _ => False)) (F0 m 25 ls []) := by
  have hx := cx.1
  have hb := cx.2.1
  unfold fX12_seenFrom_25 at h
  obtain ⟨x6, ex6, h⟩ := zLt_e h
  refine lv_iinc (v := x6) (lv' := [(3, .int x6), (0, .ref (q 0)), (1, .int v1), (2, .int v2)]) (pc := 25) hx hb dX12_seenFrom_25 hl (k := 3) rfl (by rw [zc_1]; exact ex6.symm) (by decide) rfl (fun ls hl => ?_)
  refine lv_goto (pc := 28) (tgt := 4) hx hb dX12_seenFrom_28 (by decide) ?_
  cases h
  exact hb1 _ _ hc _ (lv_sub hl [1, 2, 3, 0] rfl)
def fX12_seenFrom_4 (S : zSt)  (v1 : Int32) (t : (Int32 × Int32)) : Option ((Int32 × Int32) ⊕ Int32) :=
  match t with
  | (v2, v3) => zBr ((5 : Int32) ≤ v3) (zXr (some v2)) (zBd (fX12_has v1 v3) (fun r4 => zBr (r4 = 0) (fX12_seenFrom_25 S v1 v2 v3) (zBd (fX12_around S v3) (fun r8 => zLt (v2 ||| r8) (fun x9 => fX12_seenFrom_25 S v1 x9 v3)))))
set_option maxHeartbeats 4000000 in
set_option maxRecDepth 100000 in
theorem kX12_seenFrom_4B {p : Program} {l : Launch} {e : Env} {s : State} {m : MethodId} {args : Array Value} {below : List Frame} {meth : Method} {c : Code} {D : va_G} {cy : Nat → ClassId} {q : Nat → Nat} (cx : zX RX12 cX12_seenFrom 4 p s m args c D cy) (hr : meth.sig.returnType = (some .int)) (hlk : meth.locks = false) {z : Int32} {S : zSt} {v1 : Int32} {v2 : Int32} {v3 : Int32} {C1 : ((Int32 × Int32) ⊕ Int32) → Prop} (hb1 : ∀ (v2 : Int32) (v3 : Int32), C1 (.inl (v2, v3)) → ∀ (ls : Array Slot), lv_has ls 4 [(0, .ref (q 0)), (1, .int v1), (2, .int v2), (3, .int v3)] → W p l e rmX12_seenFrom s m args below meth c s.heap [] 0 0 (MQ below (vp_Si (fun x => x = z)) args s 0 0 (fun _ => False)) (F0 m 4 ls [])) (hx1 : ∀ a, C1 (.inr a) → a = z) (hP : va_P D vwCl (zW zshM zNM cy q S) s.heap) {x : ((Int32 × Int32) ⊕ Int32)} (h : fX12_seenFrom_4 S v1 (v2, v3) = some x) (hc : C1 x) {ls : Array Slot} (hl : lv_has ls 4 [(0, .ref (q 0)), (1, .int v1), (2, .int v2), (3, .int v3)]) : W p l e rmX12_seenFrom s m args below meth c s.heap [] 0 0 (MQ below (vp_Si (fun x => x = z)) args s 0 0 (fun _ => False)) (F0 m 4 ls []) := by
  have hx := cx.1
  have hb := cx.2.1
  unfold fX12_seenFrom_4 at h
  dsimp only at h
  refine lv_iload_n (pc := 4) hx hb dX12_seenFrom_4 rfl (lv_at hl 3 rfl) ?_
  refine lv_iconst (pc := 5) hx hb dX12_seenFrom_5 zc_5 ?_
  refine lv_icmp_ge (pc := 6) (tgt := 31) hx hb dX12_seenFrom_6 (by decide) (fun c1 => ?_) (fun c1 => ?_)
  · replace h := zBr_t c1 h
    obtain ⟨y2, h, ex⟩ := zXr_e h
    have hc := hx1 y2 (by rw [ex] at hc; exact hc)
    rw [hc] at h
    refine lv_iload_n (pc := 31) hx hb dX12_seenFrom_31 rfl (lv_at hl 2 rfl) ?_
    have hz := Option.some.inj h
    exact zr_reI (pc := 32) cx hr hlk hz dX12_seenFrom_32
  · replace h := zBr_f c1 h
    refine lv_iload_n (pc := 9) hx hb dX12_seenFrom_9 rfl (lv_at hl 1 rfl) ?_
    refine lv_iload_n (pc := 10) hx hb dX12_seenFrom_10 rfl (lv_at hl 3 rfl) ?_
    obtain ⟨r4, k3, h⟩ := zBd_e h
    refine zr_SI (pc := 11) (rest := []) cx cv_X12_181 (mX12_has k3) ⟨⟨rfl, rfl⟩, Nat.le_of_ble_eq_true rfl, Nat.le_of_ble_eq_true rfl⟩ ⟨Nat.le_of_ble_eq_true rfl, Nat.le_of_ble_eq_true rfl⟩ (zr_preK cx) hl.1 rfl rfl (Nat.le_of_ble_eq_true rfl) dX12_seenFrom_11 ?_
    refine lv_if_eq (pc := 14) (tgt := 25) hx hb dX12_seenFrom_14 (by decide) (fun c5 => ?_) (fun c5 => ?_)
    · replace h := zBr_t c5 h
      exact kX12_seenFrom_25 cx hr hlk hb1 hx1 hP h hc (lv_sub hl [0, 1, 2, 3] rfl)
    · replace h := zBr_f c5 h
      refine lv_iload_n (pc := 17) hx hb dX12_seenFrom_17 rfl (lv_at hl 2 rfl) ?_
      refine lv_aload_n (pc := 18) hx hb dX12_seenFrom_18 rfl (lv_at hl 0 rfl) ?_
      refine lv_iload_n (pc := 19) hx hb dX12_seenFrom_19 rfl (lv_at hl 3 rfl) ?_
      obtain ⟨r8, k7, h⟩ := zBd_e h
      refine zr_VI (pc := 20) (rest := [.int v2]) cx cv_X12_221 (mX12_around k7) ⟨⟨rfl, rfl⟩, Nat.le_of_ble_eq_true rfl, Nat.le_of_ble_eq_true rfl⟩ ⟨Nat.le_of_ble_eq_true rfl, Nat.le_of_ble_eq_true rfl⟩ hP nM_0 sM_0 rfl hl.1 rfl rfl (Nat.le_of_ble_eq_true rfl) dX12_seenFrom_20 ?_
      refine lv_ior (pc := 23) hx hb dX12_seenFrom_23 ?_
      obtain ⟨x9, ex9, h⟩ := zLt_e h
      refine zr_nmI ex9 ?_
      refine lv_istore_n (lv' := [(2, .int x9), (0, .ref (q 0)), (1, .int v1), (3, .int v3)]) (pc := 24) hx hb dX12_seenFrom_24 rfl hl (by decide) rfl (fun ls hl => ?_)
      exact kX12_seenFrom_25 cx hr hlk hb1 hx1 hP h hc (lv_sub hl [1, 2, 0, 3] rfl)
set_option maxHeartbeats 4000000 in
set_option maxRecDepth 100000 in
theorem kX12_seenFrom_4 {p : Program} {l : Launch} {e : Env} {s : State} {m : MethodId} {args : Array Value} {below : List Frame} {meth : Method} {c : Code} {D : va_G} {cy : Nat → ClassId} {q : Nat → Nat} (cx : zX RX12 cX12_seenFrom 4 p s m args c D cy) (hr : meth.sig.returnType = (some .int)) (hlk : meth.locks = false) {z : Int32} {S : zSt} {v1 : Int32} (hP : va_P D vwCl (zW zshM zNM cy q S) s.heap) : ∀ (n : Nat) (v2 : Int32) (v3 : Int32), zLp (fX12_seenFrom_4 S v1) n (v2, v3) = some z → ∀ (ls : Array Slot), lv_has ls 4 [(0, .ref (q 0)), (1, .int v1), (2, .int v2), (3, .int v3)] → W p l e rmX12_seenFrom s m args below meth c s.heap [] 0 0 (MQ below (vp_Si (fun x => x = z)) args s 0 0 (fun _ => False)) (F0 m 4 ls []) := by
  intro n
  induction n with
  | zero =>
    intro v2 v3 h
    cases h
  | succ n ih =>
    intro v2 v3 h ls hl
    obtain ⟨x, h, hk⟩ := zLp_e h
    exact kX12_seenFrom_4B cx hr hlk  (C1 := zKt (fun t => zLp (fX12_seenFrom_4 S v1) n t = some z) (fun a => a = z)) (fun v2 v3 ht ls hl => ih v2 v3 ht ls hl) (fun a ha => ha) hP h hk hl
def fX12_seenFrom (S : zSt) (v1 : Int32) : Option Int32 :=
  zLp (fX12_seenFrom_4 S v1) 2000 ((0 : Int32), (0 : Int32))
set_option maxHeartbeats 4000000 in
set_option maxRecDepth 100000 in
theorem mX12_seenFrom {l : Launch} {D : va_G} {cy : Nat → ClassId} {q : Nat → Nat} {S : zSt} {v1 : Int32} {z : Int32} (h : fX12_seenFrom S v1 = some z) : zMi l yX12_seenFrom cX12_seenFrom 4 (some .int) rmX12_seenFrom [.ref (q 0), .int v1] (zPr zshM zNM D cy q S) z := by
  refine Met.ofW (cc := cX12_seenFrom) (maxL := 4) (ret := (some .int)) (by decide) rfl ?_
  intro p e s m args below meth c s₁ B hml hv
  obtain ⟨rfl, hP, hK⟩ := hv
  have cx : zX RX12 cX12_seenFrom 4 p s m ([.ref (q 0), .int v1]).toArray c D cy := ⟨B.exec, B.bytes, hml, findClass_of_methodNamed B.named, fun w hw => atoms_spec (ws := Cond.code yX12_seenFrom cX12_seenFrom 4 (some .int) :: zTB) B.pre w (List.mem_cons_of_mem _ hw), hK⟩
  have hx := cx.1
  have hb := cx.2.1
  have hr := B.returns
  have hlk := B.notSynchronized
  have hl := lv_entry ([.ref (q 0), .int v1]) (n := 4) (Nat.le_of_ble_eq_true rfl)
  rw [lg_entry_eq]
  generalize (lg_sl ([.ref (q 0), .int v1]) ++ List.replicate (4 - (lg_sl ([.ref (q 0), .int v1])).length) Slot.unset).toArray = ls at hl ⊢
  have hl : lv_has ls 4 [(0, .ref (q 0)), (1, .int v1)] := hl
  unfold fX12_seenFrom at h
  refine lv_iconst (pc := 0) hx hb dX12_seenFrom_0 zc_0 ?_
  refine lv_istore_n (lv' := [(2, .int (0 : Int32)), (0, .ref (q 0)), (1, .int v1)]) (pc := 1) hx hb dX12_seenFrom_1 rfl hl (by decide) rfl (fun ls hl => ?_)
  refine lv_iconst (pc := 2) hx hb dX12_seenFrom_2 zc_0 ?_
  refine lv_istore_n (lv' := [(3, .int (0 : Int32)), (2, .int (0 : Int32)), (0, .ref (q 0)), (1, .int v1)]) (pc := 3) hx hb dX12_seenFrom_3 rfl hl (by decide) rfl (fun ls hl => ?_)
  exact kX12_seenFrom_4 cx hr hlk hP 2000 _ _ h _ (lv_sub hl [2, 3, 1, 0] rfl)
-- X12_cover
abbrev rmX12_cover : Room := { frames := 2, cells := 0, slots := 0, locals := 44 }
def fX12_cover_46 (S : zSt)  (v1 : Int32) (v2 : Int32) (v3 : Int32) : Option ((Int32 × Int32) ⊕ (Int32 × zSt)) :=
  zLt (v3 + (-1 : Int32)) (fun x12 => some (.inl (v2, x12)))
set_option maxHeartbeats 4000000 in
set_option maxRecDepth 100000 in
theorem kX12_cover_46 {p : Program} {l : Launch} {e : Env} {s : State} {m : MethodId} {args : Array Value} {below : List Frame} {meth : Method} {c : Code} {D : va_G} {cy : Nat → ClassId} {q : Nat → Nat} {A : Nat → Prop} (cx : zX RX12 cX12_cover 4 p s m args c D cy) (hr : meth.sig.returnType = (some .int)) (hlk : meth.locks = false) (hq : zQ A q zNM) {z : (Int32 × zSt)} {S : zSt} {v1 : Int32} {v2 : Int32} {v3 : Int32} {C1 : ((Int32 × Int32) ⊕ (Int32 × zSt)) → Prop} (hb1 : ∀ (v2 : Int32) (v3 : Int32), C1 (.inl (v2, v3)) → ∀ (H : Heap) (locs : List Loc), va_P D vwCl (zW zshM zNM cy q S) H → va_S A s.heap H locs → ∀ (ls : Array Slot), lv_has ls 4 [(0, .ref (q 0)), (1, .int v1), (2, .int v2), (3, .int v3)] → W p l e rmX12_cover s m args below meth c H locs 0 0 (MQ below (va_Qi (fun (r : Int32) (u : zSt) => (r, u) = z) (fun u t => va_P D vwCl (zW zshM zNM cy q u) t.heap) A) args s 0 0 A) (F0 m 20 ls [])) (hx1 : ∀ a, C1 (.inr a) → a = z) {x : ((Int32 × Int32) ⊕ (Int32 × zSt))} (h : fX12_cover_46 S v1 v2 v3 = some x) (hc : C1 x) {H : Heap} {locs : List Loc} (hP : va_P D vwCl (zW zshM zNM cy q S) H) (hS : va_S A s.heap H locs) {ls : Array Slot} (hl : lv_has ls 4 [(0, .ref (q 0)), (1, .int v1), (2, .int v2), (3, .int v3)]) : W p l e rmX12_cover s m args below meth c H locs 0 0 (MQ below (va_Qi (fun (r : Int32) (u : zSt) => (r, u) = z) (fun u t => va_P D vwCl (zW zshM zNM cy q u) t.heap) A) args s 0 0 A) (F0 m 46 ls []) := by
  have hx := cx.1
  have hb := cx.2.1
  unfold fX12_cover_46 at h
  obtain ⟨x12, ex12, h⟩ := zLt_e h
  refine lv_iinc (v := x12) (lv' := [(3, .int x12), (0, .ref (q 0)), (1, .int v1), (2, .int v2)]) (pc := 46) hx hb dX12_cover_46 hl (k := 3) rfl (by rw [zc_m1]; exact ex12.symm) (by decide) rfl (fun ls hl => ?_)
  refine lv_goto (pc := 49) (tgt := 20) hx hb dX12_cover_49 (by decide) ?_
  cases h
  exact hb1 _ _ hc _ _ hP hS _ (lv_sub hl [1, 2, 3, 0] rfl)
def fX12_cover_20 (S : zSt)  (v1 : Int32) (t : (Int32 × Int32)) : Option ((Int32 × Int32) ⊕ (Int32 × zSt)) :=
  match t with
  | (v2, v3) => zBr (v3 < 0) (zXr (zLt (zI S 0 26 v2) (fun S6 => zBd (fX12_bits v2) (fun r8 => some (r8, S6))))) (zBd (fX12_seenFrom S v3) (fun r10 => zBr (r10 = v1) (zBd (fX12_bits v3) (fun r14 => zBd (fX12_bits v2) (fun r16 => zBr (r16 < r14) (fX12_cover_46 S v1 v2 v3) (fX12_cover_46 S v1 v3 v3)))) (fX12_cover_46 S v1 v2 v3)))
set_option maxHeartbeats 4000000 in
set_option maxRecDepth 100000 in
theorem kX12_cover_20B {p : Program} {l : Launch} {e : Env} {s : State} {m : MethodId} {args : Array Value} {below : List Frame} {meth : Method} {c : Code} {D : va_G} {cy : Nat → ClassId} {q : Nat → Nat} {A : Nat → Prop} (cx : zX RX12 cX12_cover 4 p s m args c D cy) (hr : meth.sig.returnType = (some .int)) (hlk : meth.locks = false) (hq : zQ A q zNM) {z : (Int32 × zSt)} {S : zSt} {v1 : Int32} {v2 : Int32} {v3 : Int32} {C1 : ((Int32 × Int32) ⊕ (Int32 × zSt)) → Prop} (hb1 : ∀ (v2 : Int32) (v3 : Int32), C1 (.inl (v2, v3)) → ∀ (H : Heap) (locs : List Loc), va_P D vwCl (zW zshM zNM cy q S) H → va_S A s.heap H locs → ∀ (ls : Array Slot), lv_has ls 4 [(0, .ref (q 0)), (1, .int v1), (2, .int v2), (3, .int v3)] → W p l e rmX12_cover s m args below meth c H locs 0 0 (MQ below (va_Qi (fun (r : Int32) (u : zSt) => (r, u) = z) (fun u t => va_P D vwCl (zW zshM zNM cy q u) t.heap) A) args s 0 0 A) (F0 m 20 ls [])) (hx1 : ∀ a, C1 (.inr a) → a = z) {x : ((Int32 × Int32) ⊕ (Int32 × zSt))} (h : fX12_cover_20 S v1 (v2, v3) = some x) (hc : C1 x) {H : Heap} {locs : List Loc} (hP : va_P D vwCl (zW zshM zNM cy q S) H) (hS : va_S A s.heap H locs) {ls : Array Slot} (hl : lv_has ls 4 [(0, .ref (q 0)), (1, .int v1), (2, .int v2), (3, .int v3)]) : W p l e rmX12_cover s m args below meth c H locs 0 0 (MQ below (va_Qi (fun (r : Int32) (u : zSt) => (r, u) = z) (fun u t => va_P D vwCl (zW zshM zNM cy q u) t.heap) A) args s 0 0 A) (F0 m 20 ls []) := by
  have hx := cx.1
  have hb := cx.2.1
  unfold fX12_cover_20 at h
  dsimp only at h
  refine lv_iload_n (pc := 20) hx hb dX12_cover_20 rfl (lv_at hl 3 rfl) ?_
  refine lv_if_lt (pc := 21) (tgt := 52) hx hb dX12_cover_21 (by decide) (fun c4 => ?_) (fun c4 => ?_)
  · replace h := zBr_t c4 h
    obtain ⟨y5, h, ex⟩ := zXr_e h
    have hc := hx1 y5 (by rw [ex] at hc; exact hc)
    rw [hc] at h
    refine lv_aload_n (pc := 52) hx hb dX12_cover_52 rfl (lv_at hl 0 rfl) ?_
    refine lv_iload_n (pc := 53) hx hb dX12_cover_53 rfl (lv_at hl 2 rfl) ?_
    obtain ⟨S6, eS6, h⟩ := zLt_e h
    refine zr_putI (pc := 54) cx lq_X12_133 hq hP hS nM_0 sM_0 rfl rfl rfl dX12_cover_54 (fun H locs hP hS => ?_)
    rw [← eS6] at hP
    refine lv_iload_n (pc := 57) hx hb dX12_cover_57 rfl (lv_at hl 2 rfl) ?_
    obtain ⟨r8, k7, h⟩ := zBd_e h
    refine zr_SI (pc := 58) (rest := []) cx cv_X12_238 (mX12_bits k7) ⟨⟨rfl, rfl⟩, Nat.le_of_ble_eq_true rfl, Nat.le_of_ble_eq_true rfl⟩ ⟨Nat.le_of_ble_eq_true rfl, Nat.le_of_ble_eq_true rfl⟩ (zr_preK cx) hl.1 rfl rfl (Nat.le_of_ble_eq_true rfl) dX12_cover_58 ?_
    have hz := Option.some.inj h
    exact zr_rqI (pc := 61) cx hr hlk hP hS hz dX12_cover_61
  · replace h := zBr_f c4 h
    refine lv_aload_n (pc := 24) hx hb dX12_cover_24 rfl (lv_at hl 0 rfl) ?_
    refine lv_iload_n (pc := 25) hx hb dX12_cover_25 rfl (lv_at hl 3 rfl) ?_
    obtain ⟨r10, k9, h⟩ := zBd_e h
    refine zr_VI (pc := 26) (rest := []) cx cv_X12_308 (mX12_seenFrom k9) ⟨⟨rfl, rfl⟩, Nat.le_of_ble_eq_true rfl, Nat.le_of_ble_eq_true rfl⟩ ⟨Nat.le_of_ble_eq_true rfl, Nat.le_of_ble_eq_true rfl⟩ hP nM_0 sM_0 rfl hl.1 rfl rfl (Nat.le_of_ble_eq_true rfl) dX12_cover_26 ?_
    refine lv_iload_n (pc := 29) hx hb dX12_cover_29 rfl (lv_at hl 1 rfl) ?_
    refine lv_icmp_ne (pc := 30) (tgt := 46) hx hb dX12_cover_30 (by decide) (fun c11 => ?_) (fun c11 => ?_)
    · replace h := zBr_f c11 h
      exact kX12_cover_46 cx hr hlk hq hb1 hx1 h hc hP hS (lv_sub hl [0, 1, 2, 3] rfl)
    · replace h := zBr_t c11 h
      refine lv_iload_n (pc := 33) hx hb dX12_cover_33 rfl (lv_at hl 3 rfl) ?_
      obtain ⟨r14, k13, h⟩ := zBd_e h
      refine zr_SI (pc := 34) (rest := []) cx cv_X12_238 (mX12_bits k13) ⟨⟨rfl, rfl⟩, Nat.le_of_ble_eq_true rfl, Nat.le_of_ble_eq_true rfl⟩ ⟨Nat.le_of_ble_eq_true rfl, Nat.le_of_ble_eq_true rfl⟩ (zr_preK cx) hl.1 rfl rfl (Nat.le_of_ble_eq_true rfl) dX12_cover_34 ?_
      refine lv_iload_n (pc := 37) hx hb dX12_cover_37 rfl (lv_at hl 2 rfl) ?_
      obtain ⟨r16, k15, h⟩ := zBd_e h
      refine zr_SI (pc := 38) (rest := [.int r14]) cx cv_X12_238 (mX12_bits k15) ⟨⟨rfl, rfl⟩, Nat.le_of_ble_eq_true rfl, Nat.le_of_ble_eq_true rfl⟩ ⟨Nat.le_of_ble_eq_true rfl, Nat.le_of_ble_eq_true rfl⟩ (zr_preK cx) hl.1 rfl rfl (Nat.le_of_ble_eq_true rfl) dX12_cover_38 ?_
      refine lv_icmp_gt (pc := 41) (tgt := 46) hx hb dX12_cover_41 (by decide) (fun c17 => ?_) (fun c17 => ?_)
      · replace h := zBr_t c17 h
        exact kX12_cover_46 cx hr hlk hq hb1 hx1 h hc hP hS (lv_sub hl [0, 1, 2, 3] rfl)
      · replace h := zBr_f c17 h
        refine lv_iload_n (pc := 44) hx hb dX12_cover_44 rfl (lv_at hl 3 rfl) ?_
        refine lv_istore_n (lv' := [(2, .int v3), (0, .ref (q 0)), (1, .int v1), (3, .int v3)]) (pc := 45) hx hb dX12_cover_45 rfl hl (by decide) rfl (fun ls hl => ?_)
        exact kX12_cover_46 cx hr hlk hq hb1 hx1 h hc hP hS (lv_sub hl [1, 2, 0, 3] rfl)
set_option maxHeartbeats 4000000 in
set_option maxRecDepth 100000 in
theorem kX12_cover_20 {p : Program} {l : Launch} {e : Env} {s : State} {m : MethodId} {args : Array Value} {below : List Frame} {meth : Method} {c : Code} {D : va_G} {cy : Nat → ClassId} {q : Nat → Nat} {A : Nat → Prop} (cx : zX RX12 cX12_cover 4 p s m args c D cy) (hr : meth.sig.returnType = (some .int)) (hlk : meth.locks = false) (hq : zQ A q zNM) {z : (Int32 × zSt)} {S : zSt} {v1 : Int32} : ∀ (n : Nat) (v2 : Int32) (v3 : Int32), zLp (fX12_cover_20 S v1) n (v2, v3) = some z → ∀ (H : Heap) (locs : List Loc), va_P D vwCl (zW zshM zNM cy q S) H → va_S A s.heap H locs → ∀ (ls : Array Slot), lv_has ls 4 [(0, .ref (q 0)), (1, .int v1), (2, .int v2), (3, .int v3)] → W p l e rmX12_cover s m args below meth c H locs 0 0 (MQ below (va_Qi (fun (r : Int32) (u : zSt) => (r, u) = z) (fun u t => va_P D vwCl (zW zshM zNM cy q u) t.heap) A) args s 0 0 A) (F0 m 20 ls []) := by
  intro n
  induction n with
  | zero =>
    intro v2 v3 h
    cases h
  | succ n ih =>
    intro v2 v3 h H locs hP hS ls hl
    obtain ⟨x, h, hk⟩ := zLp_e h
    exact kX12_cover_20B cx hr hlk hq  (C1 := zKt (fun t => zLp (fX12_cover_20 S v1) n t = some z) (fun a => a = z)) (fun v2 v3 ht H locs hP hS ls hl => ih v2 v3 ht H locs hP hS ls hl) (fun a ha => ha) h hk hP hS hl
def fX12_cover (S : zSt) : Option (Int32 × zSt) :=
  zLt (zI S 0 0 (0 : Int32)) (fun S1 => zGd (zIx (0 : Int32) 406) (zLt (((1 : Int32) <<< ((S1.1 2 (0 : Int32).toNatClampNeg) &&& 31)) - (1 : Int32)) (fun x3 => zLp (fX12_cover_20 S1 x3) 2000 (x3, x3))))
set_option maxHeartbeats 4000000 in
set_option maxRecDepth 100000 in
theorem mX12_cover {l : Launch} {D : va_G} {cy : Nat → ClassId} {q : Nat → Nat} {A : Nat → Prop} {S : zSt} (hq : zQ A q zNM) {z : (Int32 × zSt)} (h : fX12_cover S = some z) : zMq l yX12_cover cX12_cover 4 (some .int) rmX12_cover [.ref (q 0)] zshM zNM D cy q A S z := by
  refine Met.ofW (cc := cX12_cover) (maxL := 4) (ret := (some .int)) (by decide) rfl ?_
  intro p e s m args below meth c s₁ B hml hv
  obtain ⟨rfl, hP, hK⟩ := hv
  have cx : zX RX12 cX12_cover 4 p s m ([.ref (q 0)]).toArray c D cy := ⟨B.exec, B.bytes, hml, findClass_of_methodNamed B.named, fun w hw => atoms_spec (ws := Cond.code yX12_cover cX12_cover 4 (some .int) :: zTB) B.pre w (List.mem_cons_of_mem _ hw), hK⟩
  have hx := cx.1
  have hb := cx.2.1
  have hr := B.returns
  have hlk := B.notSynchronized
  have hS : va_S A s.heap s.heap [] := va_S.rf
  have hl := lv_entry ([.ref (q 0)]) (n := 4) (Nat.le_of_ble_eq_true rfl)
  rw [lg_entry_eq]
  generalize (lg_sl ([.ref (q 0)]) ++ List.replicate (4 - (lg_sl ([.ref (q 0)])).length) Slot.unset).toArray = ls at hl ⊢
  have hl : lv_has ls 4 [(0, .ref (q 0))] := hl
  unfold fX12_cover at h
  refine lv_aload_n (pc := 0) hx hb dX12_cover_0 rfl (lv_at hl 0 rfl) ?_
  refine lv_iconst (pc := 1) hx hb dX12_cover_1 zc_0 ?_
  obtain ⟨S1, eS1, h⟩ := zLt_e h
  refine zr_putI (pc := 2) cx lq_X12_1 hq hP hS nM_0 sM_0 rfl rfl rfl dX12_cover_2 (fun H locs hP hS => ?_)
  rw [← eS1] at hP
  refine lv_iconst (pc := 5) hx hb dX12_cover_5 zc_1 ?_
  refine lv_aload_n (pc := 6) hx hb dX12_cover_6 rfl (lv_at hl 0 rfl) ?_
  refine zr_getR (pc := 7) (t := 2) cx lk_X12_98 hP nM_0 sM_0 rfl dX12_cover_7 ?_
  refine lv_iconst (pc := 10) hx hb dX12_cover_10 zc_0 ?_
  obtain ⟨g2, h⟩ := zGd_e h
  refine zr_iald (pc := 11) cx hP nM_2 sM_2 g2 dX12_cover_11 ?_
  refine lv_ishl (pc := 12) hx hb dX12_cover_12 ?_
  refine lv_iconst (pc := 13) hx hb dX12_cover_13 zc_1 ?_
  refine lv_isub (pc := 14) hx hb dX12_cover_14 ?_
  obtain ⟨x3, ex3, h⟩ := zLt_e h
  refine zr_nmI ex3 ?_
  refine lv_istore_n (lv' := [(1, .int x3), (0, .ref (q 0))]) (pc := 15) hx hb dX12_cover_15 rfl hl (by decide) rfl (fun ls hl => ?_)
  refine lv_iload_n (pc := 16) hx hb dX12_cover_16 rfl (lv_at hl 0 rfl) ?_
  refine lv_istore_n (lv' := [(2, .int x3), (1, .int x3), (0, .ref (q 0))]) (pc := 17) hx hb dX12_cover_17 rfl hl (by decide) rfl (fun ls hl => ?_)
  refine lv_iload_n (pc := 18) hx hb dX12_cover_18 rfl (lv_at hl 1 rfl) ?_
  refine lv_istore_n (lv' := [(3, .int x3), (2, .int x3), (1, .int x3), (0, .ref (q 0))]) (pc := 19) hx hb dX12_cover_19 rfl hl (by decide) rfl (fun ls hl => ?_)
  exact kX12_cover_20 cx hr hlk hq 2000 _ _ h _ _ hP hS _ (lv_sub hl [3, 2, 1, 0] rfl)
-- X12_covering
abbrev rmX12_covering : Room := { frames := 0, cells := 0, slots := 0, locals := 0 }
def fX12_covering (S : zSt) : Option (Int32 × zSt) :=
  zLt (zI S 0 0 (0 : Int32)) (fun S1 => some ((S1.1 0 26), S1))
set_option maxHeartbeats 4000000 in
set_option maxRecDepth 100000 in
theorem mX12_covering {l : Launch} {D : va_G} {cy : Nat → ClassId} {q : Nat → Nat} {A : Nat → Prop} {S : zSt} (hq : zQ A q zNM) {z : (Int32 × zSt)} (h : fX12_covering S = some z) : zMq l yX12_covering cX12_covering 1 (some .int) rmX12_covering [.ref (q 0)] zshM zNM D cy q A S z := by
  refine Met.ofW (cc := cX12_covering) (maxL := 1) (ret := (some .int)) (by decide) rfl ?_
  intro p e s m args below meth c s₁ B hml hv
  obtain ⟨rfl, hP, hK⟩ := hv
  have cx : zX RX12 cX12_covering 1 p s m ([.ref (q 0)]).toArray c D cy := ⟨B.exec, B.bytes, hml, findClass_of_methodNamed B.named, fun w hw => atoms_spec (ws := Cond.code yX12_covering cX12_covering 1 (some .int) :: zTB) B.pre w (List.mem_cons_of_mem _ hw), hK⟩
  have hx := cx.1
  have hb := cx.2.1
  have hr := B.returns
  have hlk := B.notSynchronized
  have hS : va_S A s.heap s.heap [] := va_S.rf
  have hl := lv_entry ([.ref (q 0)]) (n := 1) (Nat.le_of_ble_eq_true rfl)
  rw [lg_entry_eq]
  generalize (lg_sl ([.ref (q 0)]) ++ List.replicate (1 - (lg_sl ([.ref (q 0)])).length) Slot.unset).toArray = ls at hl ⊢
  have hl : lv_has ls 1 [(0, .ref (q 0))] := hl
  unfold fX12_covering at h
  refine lv_aload_n (pc := 0) hx hb dX12_covering_0 rfl (lv_at hl 0 rfl) ?_
  refine lv_iconst (pc := 1) hx hb dX12_covering_1 zc_0 ?_
  obtain ⟨S1, eS1, h⟩ := zLt_e h
  refine zr_putI (pc := 2) cx lq_X12_1 hq hP hS nM_0 sM_0 rfl rfl rfl dX12_covering_2 (fun H locs hP hS => ?_)
  rw [← eS1] at hP
  refine lv_aload_n (pc := 5) hx hb dX12_covering_5 rfl (lv_at hl 0 rfl) ?_
  refine zr_getI (pc := 6) cx lk_X12_133 hP nM_0 sM_0 rfl dX12_covering_6 ?_
  have hz := Option.some.inj h
  exact zr_rqI (pc := 9) cx hr hlk hP hS hz dX12_covering_9
-- X12_unseen
abbrev rmX12_unseen : Room := { frames := 3, cells := 0, slots := 0, locals := 64 }
def fX12_unseen_13 (S : zSt)  (v1 : Int32) (t : (Int32 × Int32)) : Option ((Int32 × Int32) ⊕ Int32) :=
  match t with
  | (v2, v3) => zGd (zIx (1 : Int32) 406) (zBr ((S.1 2 (1 : Int32).toNatClampNeg) ≤ v3) (zXr (some v2)) (zBd (fX12_seesOf S v3 v1) (fun r7 => zLt (v2 &&& (r7 ^^^ (-1 : Int32))) (fun x8 => zLt (v3 + (1 : Int32)) (fun x9 => some (.inl (x8, x9)))))))
set_option maxHeartbeats 4000000 in
set_option maxRecDepth 100000 in
theorem kX12_unseen_13B {p : Program} {l : Launch} {e : Env} {s : State} {m : MethodId} {args : Array Value} {below : List Frame} {meth : Method} {c : Code} {D : va_G} {cy : Nat → ClassId} {q : Nat → Nat} (cx : zX RX12 cX12_unseen 4 p s m args c D cy) (hr : meth.sig.returnType = (some .int)) (hlk : meth.locks = false) {z : Int32} {S : zSt} {v1 : Int32} {v2 : Int32} {v3 : Int32} {C1 : ((Int32 × Int32) ⊕ Int32) → Prop} (hb1 : ∀ (v2 : Int32) (v3 : Int32), C1 (.inl (v2, v3)) → ∀ (ls : Array Slot), lv_has ls 4 [(0, .ref (q 0)), (1, .int v1), (2, .int v2), (3, .int v3)] → W p l e rmX12_unseen s m args below meth c s.heap [] 0 0 (MQ below (vp_Si (fun x => x = z)) args s 0 0 (fun _ => False)) (F0 m 13 ls [])) (hx1 : ∀ a, C1 (.inr a) → a = z) (hP : va_P D vwCl (zW zshM zNM cy q S) s.heap) {x : ((Int32 × Int32) ⊕ Int32)} (h : fX12_unseen_13 S v1 (v2, v3) = some x) (hc : C1 x) {ls : Array Slot} (hl : lv_has ls 4 [(0, .ref (q 0)), (1, .int v1), (2, .int v2), (3, .int v3)]) : W p l e rmX12_unseen s m args below meth c s.heap [] 0 0 (MQ below (vp_Si (fun x => x = z)) args s 0 0 (fun _ => False)) (F0 m 13 ls []) := by
  have hx := cx.1
  have hb := cx.2.1
  unfold fX12_unseen_13 at h
  dsimp only at h
  refine lv_iload_n (pc := 13) hx hb dX12_unseen_13 rfl (lv_at hl 3 rfl) ?_
  refine lv_aload_n (pc := 14) hx hb dX12_unseen_14 rfl (lv_at hl 0 rfl) ?_
  refine zr_getR (pc := 15) (t := 2) cx lk_X12_98 hP nM_0 sM_0 rfl dX12_unseen_15 ?_
  refine lv_iconst (pc := 18) hx hb dX12_unseen_18 zc_1 ?_
  obtain ⟨g3, h⟩ := zGd_e h
  refine zr_iald (pc := 19) cx hP nM_2 sM_2 g3 dX12_unseen_19 ?_
  refine lv_icmp_ge (pc := 20) (tgt := 40) hx hb dX12_unseen_20 (by decide) (fun c4 => ?_) (fun c4 => ?_)
  · replace h := zBr_t c4 h
    obtain ⟨y5, h, ex⟩ := zXr_e h
    have hc := hx1 y5 (by rw [ex] at hc; exact hc)
    rw [hc] at h
    refine lv_iload_n (pc := 40) hx hb dX12_unseen_40 rfl (lv_at hl 2 rfl) ?_
    have hz := Option.some.inj h
    exact zr_reI (pc := 41) cx hr hlk hz dX12_unseen_41
  · replace h := zBr_f c4 h
    refine lv_iload_n (pc := 23) hx hb dX12_unseen_23 rfl (lv_at hl 2 rfl) ?_
    refine lv_aload_n (pc := 24) hx hb dX12_unseen_24 rfl (lv_at hl 0 rfl) ?_
    refine lv_iload_n (pc := 25) hx hb dX12_unseen_25 rfl (lv_at hl 3 rfl) ?_
    refine lv_iload_n (pc := 26) hx hb dX12_unseen_26 rfl (lv_at hl 1 rfl) ?_
    obtain ⟨r7, k6, h⟩ := zBd_e h
    refine zr_VI (pc := 27) (rest := [.int v2]) cx cv_X12_250 (mX12_seesOf k6) ⟨⟨rfl, rfl⟩, Nat.le_of_ble_eq_true rfl, Nat.le_of_ble_eq_true rfl⟩ ⟨Nat.le_of_ble_eq_true rfl, Nat.le_of_ble_eq_true rfl⟩ hP nM_0 sM_0 rfl hl.1 rfl rfl (Nat.le_of_ble_eq_true rfl) dX12_unseen_27 ?_
    refine lv_iconst (pc := 30) hx hb dX12_unseen_30 zc_m1 ?_
    refine lv_ixor (pc := 31) hx hb dX12_unseen_31 ?_
    refine lv_iand (pc := 32) hx hb dX12_unseen_32 ?_
    obtain ⟨x8, ex8, h⟩ := zLt_e h
    refine zr_nmI ex8 ?_
    refine lv_istore_n (lv' := [(2, .int x8), (0, .ref (q 0)), (1, .int v1), (3, .int v3)]) (pc := 33) hx hb dX12_unseen_33 rfl hl (by decide) rfl (fun ls hl => ?_)
    obtain ⟨x9, ex9, h⟩ := zLt_e h
    refine lv_iinc (v := x9) (lv' := [(3, .int x9), (2, .int x8), (0, .ref (q 0)), (1, .int v1)]) (pc := 34) hx hb dX12_unseen_34 hl (k := 3) rfl (by rw [zc_1]; exact ex9.symm) (by decide) rfl (fun ls hl => ?_)
    refine lv_goto (pc := 37) (tgt := 13) hx hb dX12_unseen_37 (by decide) ?_
    cases h
    exact hb1 _ _ hc _ (lv_sub hl [2, 3, 1, 0] rfl)
set_option maxHeartbeats 4000000 in
set_option maxRecDepth 100000 in
theorem kX12_unseen_13 {p : Program} {l : Launch} {e : Env} {s : State} {m : MethodId} {args : Array Value} {below : List Frame} {meth : Method} {c : Code} {D : va_G} {cy : Nat → ClassId} {q : Nat → Nat} (cx : zX RX12 cX12_unseen 4 p s m args c D cy) (hr : meth.sig.returnType = (some .int)) (hlk : meth.locks = false) {z : Int32} {S : zSt} {v1 : Int32} (hP : va_P D vwCl (zW zshM zNM cy q S) s.heap) : ∀ (n : Nat) (v2 : Int32) (v3 : Int32), zLp (fX12_unseen_13 S v1) n (v2, v3) = some z → ∀ (ls : Array Slot), lv_has ls 4 [(0, .ref (q 0)), (1, .int v1), (2, .int v2), (3, .int v3)] → W p l e rmX12_unseen s m args below meth c s.heap [] 0 0 (MQ below (vp_Si (fun x => x = z)) args s 0 0 (fun _ => False)) (F0 m 13 ls []) := by
  intro n
  induction n with
  | zero =>
    intro v2 v3 h
    cases h
  | succ n ih =>
    intro v2 v3 h ls hl
    obtain ⟨x, h, hk⟩ := zLp_e h
    exact kX12_unseen_13B cx hr hlk  (C1 := zKt (fun t => zLp (fX12_unseen_13 S v1) n t = some z) (fun a => a = z)) (fun v2 v3 ht ls hl => ih v2 v3 ht ls hl) (fun a ha => ha) hP h hk hl
def fX12_unseen (S : zSt) (v1 : Int32) : Option Int32 :=
  zGd (zIx (0 : Int32) 406) (zLt (((1 : Int32) <<< ((S.1 2 (0 : Int32).toNatClampNeg) &&& 31)) - (1 : Int32)) (fun x2 => zLp (fX12_unseen_13 S v1) 2000 (x2, (0 : Int32))))
set_option maxHeartbeats 4000000 in
set_option maxRecDepth 100000 in
theorem mX12_unseen {l : Launch} {D : va_G} {cy : Nat → ClassId} {q : Nat → Nat} {S : zSt} {v1 : Int32} {z : Int32} (h : fX12_unseen S v1 = some z) : zMi l yX12_unseen cX12_unseen 4 (some .int) rmX12_unseen [.ref (q 0), .int v1] (zPr zshM zNM D cy q S) z := by
  refine Met.ofW (cc := cX12_unseen) (maxL := 4) (ret := (some .int)) (by decide) rfl ?_
  intro p e s m args below meth c s₁ B hml hv
  obtain ⟨rfl, hP, hK⟩ := hv
  have cx : zX RX12 cX12_unseen 4 p s m ([.ref (q 0), .int v1]).toArray c D cy := ⟨B.exec, B.bytes, hml, findClass_of_methodNamed B.named, fun w hw => atoms_spec (ws := Cond.code yX12_unseen cX12_unseen 4 (some .int) :: zTB) B.pre w (List.mem_cons_of_mem _ hw), hK⟩
  have hx := cx.1
  have hb := cx.2.1
  have hr := B.returns
  have hlk := B.notSynchronized
  have hl := lv_entry ([.ref (q 0), .int v1]) (n := 4) (Nat.le_of_ble_eq_true rfl)
  rw [lg_entry_eq]
  generalize (lg_sl ([.ref (q 0), .int v1]) ++ List.replicate (4 - (lg_sl ([.ref (q 0), .int v1])).length) Slot.unset).toArray = ls at hl ⊢
  have hl : lv_has ls 4 [(0, .ref (q 0)), (1, .int v1)] := hl
  unfold fX12_unseen at h
  refine lv_iconst (pc := 0) hx hb dX12_unseen_0 zc_1 ?_
  refine lv_aload_n (pc := 1) hx hb dX12_unseen_1 rfl (lv_at hl 0 rfl) ?_
  refine zr_getR (pc := 2) (t := 2) cx lk_X12_98 hP nM_0 sM_0 rfl dX12_unseen_2 ?_
  refine lv_iconst (pc := 5) hx hb dX12_unseen_5 zc_0 ?_
  obtain ⟨g1, h⟩ := zGd_e h
  refine zr_iald (pc := 6) cx hP nM_2 sM_2 g1 dX12_unseen_6 ?_
  refine lv_ishl (pc := 7) hx hb dX12_unseen_7 ?_
  refine lv_iconst (pc := 8) hx hb dX12_unseen_8 zc_1 ?_
  refine lv_isub (pc := 9) hx hb dX12_unseen_9 ?_
  obtain ⟨x2, ex2, h⟩ := zLt_e h
  refine zr_nmI ex2 ?_
  refine lv_istore_n (lv' := [(2, .int x2), (0, .ref (q 0)), (1, .int v1)]) (pc := 10) hx hb dX12_unseen_10 rfl hl (by decide) rfl (fun ls hl => ?_)
  refine lv_iconst (pc := 11) hx hb dX12_unseen_11 zc_0 ?_
  refine lv_istore_n (lv' := [(3, .int (0 : Int32)), (2, .int x2), (0, .ref (q 0)), (1, .int v1)]) (pc := 12) hx hb dX12_unseen_12 rfl hl (by decide) rfl (fun ls hl => ?_)
  exact kX12_unseen_13 cx hr hlk hP 2000 _ _ h _ (lv_sub hl [2, 3, 1, 0] rfl)
-- X12_dark
abbrev rmX12_dark : Room := { frames := 4, cells := 0, slots := 0, locals := 87 }
def fX12_dark_17 (S : zSt)  (v1 : Int32) (t : Int32) : Option (Int32 ⊕ (Int32 × zSt)) :=
  match t with
  | v2 => zBr ((60 : Int32) < v2) (zXr (some ((-1 : Int32), S))) (zGd (zIx (24 : Int32) 406) (zBr ((400 : Int32) < ((S.1 2 (24 : Int32).toNatClampNeg) + v2)) (zXr (some ((-1 : Int32), S))) (zBd (fX12_unseen S v2) (fun r11 => zBd (fX12_has r11 v1) (fun r13 => zBr (r13 = 0) (zLt (v2 + (1 : Int32)) (fun x15 => some (.inl (x15)))) (zXr (some (v2, S))))))))
set_option maxHeartbeats 4000000 in
set_option maxRecDepth 100000 in
theorem kX12_dark_17B {p : Program} {l : Launch} {e : Env} {s : State} {m : MethodId} {args : Array Value} {below : List Frame} {meth : Method} {c : Code} {D : va_G} {cy : Nat → ClassId} {q : Nat → Nat} {A : Nat → Prop} (cx : zX RX12 cX12_dark 3 p s m args c D cy) (hr : meth.sig.returnType = (some .int)) (hlk : meth.locks = false) (hq : zQ A q zNM) {z : (Int32 × zSt)} {S : zSt} {v1 : Int32} {v2 : Int32} {C1 : (Int32 ⊕ (Int32 × zSt)) → Prop} (hb1 : ∀ (v2 : Int32), C1 (.inl (v2)) → ∀ (H : Heap) (locs : List Loc), va_P D vwCl (zW zshM zNM cy q S) H → va_S A s.heap H locs → ∀ (ls : Array Slot), lv_has ls 3 [(0, .ref (q 0)), (1, .int v1), (2, .int v2)] → W p l e rmX12_dark s m args below meth c H locs 0 0 (MQ below (va_Qi (fun (r : Int32) (u : zSt) => (r, u) = z) (fun u t => va_P D vwCl (zW zshM zNM cy q u) t.heap) A) args s 0 0 A) (F0 m 17 ls [])) (hx1 : ∀ a, C1 (.inr a) → a = z) {x : (Int32 ⊕ (Int32 × zSt))} (h : fX12_dark_17 S v1 (v2) = some x) (hc : C1 x) {H : Heap} {locs : List Loc} (hP : va_P D vwCl (zW zshM zNM cy q S) H) (hS : va_S A s.heap H locs) {ls : Array Slot} (hl : lv_has ls 3 [(0, .ref (q 0)), (1, .int v1), (2, .int v2)]) : W p l e rmX12_dark s m args below meth c H locs 0 0 (MQ below (va_Qi (fun (r : Int32) (u : zSt) => (r, u) = z) (fun u t => va_P D vwCl (zW zshM zNM cy q u) t.heap) A) args s 0 0 A) (F0 m 17 ls []) := by
  have hx := cx.1
  have hb := cx.2.1
  unfold fX12_dark_17 at h
  dsimp only at h
  refine lv_iload_n (pc := 17) hx hb dX12_dark_17 rfl (lv_at hl 2 rfl) ?_
  refine lv_bipush (pc := 18) hx hb dX12_dark_18 zb_60 ?_
  refine lv_icmp_gt (pc := 20) (tgt := 58) hx hb dX12_dark_20 (by decide) (fun c5 => ?_) (fun c5 => ?_)
  · replace h := zBr_t c5 h
    obtain ⟨y6, h, ex⟩ := zXr_e h
    have hc := hx1 y6 (by rw [ex] at hc; exact hc)
    rw [hc] at h
    refine lv_iconst (pc := 58) hx hb dX12_dark_58 zc_m1 ?_
    have hz := Option.some.inj h
    exact zr_rqI (pc := 59) cx hr hlk hP hS hz dX12_dark_59
  · replace h := zBr_f c5 h
    refine lv_aload_n (pc := 23) hx hb dX12_dark_23 rfl (lv_at hl 0 rfl) ?_
    refine zr_getR (pc := 24) (t := 2) cx lk_X12_98 hP nM_0 sM_0 rfl dX12_dark_24 ?_
    refine lv_bipush (pc := 27) hx hb dX12_dark_27 zb_24 ?_
    obtain ⟨g7, h⟩ := zGd_e h
    refine zr_iald (pc := 29) cx hP nM_2 sM_2 g7 dX12_dark_29 ?_
    refine lv_iload_n (pc := 30) hx hb dX12_dark_30 rfl (lv_at hl 2 rfl) ?_
    refine lv_iadd (pc := 31) hx hb dX12_dark_31 ?_
    refine lv_sipush (pc := 32) hx hb dX12_dark_32 zs_400 ?_
    refine lv_icmp_gt (pc := 35) (tgt := 58) hx hb dX12_dark_35 (by decide) (fun c8 => ?_) (fun c8 => ?_)
    · replace h := zBr_t c8 h
      obtain ⟨y9, h, ex⟩ := zXr_e h
      have hc := hx1 y9 (by rw [ex] at hc; exact hc)
      rw [hc] at h
      refine lv_iconst (pc := 58) hx hb dX12_dark_58 zc_m1 ?_
      have hz := Option.some.inj h
      exact zr_rqI (pc := 59) cx hr hlk hP hS hz dX12_dark_59
    · replace h := zBr_f c8 h
      refine lv_aload_n (pc := 38) hx hb dX12_dark_38 rfl (lv_at hl 0 rfl) ?_
      refine lv_iload_n (pc := 39) hx hb dX12_dark_39 rfl (lv_at hl 2 rfl) ?_
      obtain ⟨r11, k10, h⟩ := zBd_e h
      refine zr_VI (pc := 40) (rest := []) cx cv_X12_265 (mX12_unseen k10) ⟨⟨rfl, rfl⟩, Nat.le_of_ble_eq_true rfl, Nat.le_of_ble_eq_true rfl⟩ ⟨Nat.le_of_ble_eq_true rfl, Nat.le_of_ble_eq_true rfl⟩ hP nM_0 sM_0 rfl hl.1 rfl rfl (Nat.le_of_ble_eq_true rfl) dX12_dark_40 ?_
      refine lv_iload_n (pc := 43) hx hb dX12_dark_43 rfl (lv_at hl 1 rfl) ?_
      obtain ⟨r13, k12, h⟩ := zBd_e h
      refine zr_SI (pc := 44) (rest := []) cx cv_X12_181 (mX12_has k12) ⟨⟨rfl, rfl⟩, Nat.le_of_ble_eq_true rfl, Nat.le_of_ble_eq_true rfl⟩ ⟨Nat.le_of_ble_eq_true rfl, Nat.le_of_ble_eq_true rfl⟩ (zr_preK cx) hl.1 rfl rfl (Nat.le_of_ble_eq_true rfl) dX12_dark_44 ?_
      refine lv_if_eq (pc := 47) (tgt := 52) hx hb dX12_dark_47 (by decide) (fun c14 => ?_) (fun c14 => ?_)
      · replace h := zBr_t c14 h
        obtain ⟨x15, ex15, h⟩ := zLt_e h
        refine lv_iinc (v := x15) (lv' := [(2, .int x15), (0, .ref (q 0)), (1, .int v1)]) (pc := 52) hx hb dX12_dark_52 hl (k := 2) rfl (by rw [zc_1]; exact ex15.symm) (by decide) rfl (fun ls hl => ?_)
        refine lv_goto (pc := 55) (tgt := 17) hx hb dX12_dark_55 (by decide) ?_
        cases h
        exact hb1 _ hc _ _ hP hS _ (lv_sub hl [1, 2, 0] rfl)
      · replace h := zBr_f c14 h
        obtain ⟨y16, h, ex⟩ := zXr_e h
        have hc := hx1 y16 (by rw [ex] at hc; exact hc)
        rw [hc] at h
        refine lv_iload_n (pc := 50) hx hb dX12_dark_50 rfl (lv_at hl 2 rfl) ?_
        have hz := Option.some.inj h
        exact zr_rqI (pc := 51) cx hr hlk hP hS hz dX12_dark_51
set_option maxHeartbeats 4000000 in
set_option maxRecDepth 100000 in
theorem kX12_dark_17 {p : Program} {l : Launch} {e : Env} {s : State} {m : MethodId} {args : Array Value} {below : List Frame} {meth : Method} {c : Code} {D : va_G} {cy : Nat → ClassId} {q : Nat → Nat} {A : Nat → Prop} (cx : zX RX12 cX12_dark 3 p s m args c D cy) (hr : meth.sig.returnType = (some .int)) (hlk : meth.locks = false) (hq : zQ A q zNM) {z : (Int32 × zSt)} {S : zSt} {v1 : Int32} : ∀ (n : Nat) (v2 : Int32), zLp (fX12_dark_17 S v1) n (v2) = some z → ∀ (H : Heap) (locs : List Loc), va_P D vwCl (zW zshM zNM cy q S) H → va_S A s.heap H locs → ∀ (ls : Array Slot), lv_has ls 3 [(0, .ref (q 0)), (1, .int v1), (2, .int v2)] → W p l e rmX12_dark s m args below meth c H locs 0 0 (MQ below (va_Qi (fun (r : Int32) (u : zSt) => (r, u) = z) (fun u t => va_P D vwCl (zW zshM zNM cy q u) t.heap) A) args s 0 0 A) (F0 m 17 ls []) := by
  intro n
  induction n with
  | zero =>
    intro v2 h
    cases h
  | succ n ih =>
    intro v2 h H locs hP hS ls hl
    obtain ⟨x, h, hk⟩ := zLp_e h
    exact kX12_dark_17B cx hr hlk hq  (C1 := zKt (fun t => zLp (fX12_dark_17 S v1) n t = some z) (fun a => a = z)) (fun v2 ht H locs hP hS ls hl => ih v2 ht H locs hP hS ls hl) (fun a ha => ha) h hk hP hS hl
def fX12_dark (S : zSt) (v1 : Int32) : Option (Int32 × zSt) :=
  zLt (zI S 0 0 (0 : Int32)) (fun S1 => zBd (fX12_isParlour S1 v1) (fun r3 => zBr (r3 = 0) (some ((-1 : Int32), S1)) (zLp (fX12_dark_17 S1 v1) 2000 ((0 : Int32)))))
set_option maxHeartbeats 4000000 in
set_option maxRecDepth 100000 in
theorem mX12_dark {l : Launch} {D : va_G} {cy : Nat → ClassId} {q : Nat → Nat} {A : Nat → Prop} {S : zSt} {v1 : Int32} (hq : zQ A q zNM) {z : (Int32 × zSt)} (h : fX12_dark S v1 = some z) : zMq l yX12_dark cX12_dark 3 (some .int) rmX12_dark [.ref (q 0), .int v1] zshM zNM D cy q A S z := by
  refine Met.ofW (cc := cX12_dark) (maxL := 3) (ret := (some .int)) (by decide) rfl ?_
  intro p e s m args below meth c s₁ B hml hv
  obtain ⟨rfl, hP, hK⟩ := hv
  have cx : zX RX12 cX12_dark 3 p s m ([.ref (q 0), .int v1]).toArray c D cy := ⟨B.exec, B.bytes, hml, findClass_of_methodNamed B.named, fun w hw => atoms_spec (ws := Cond.code yX12_dark cX12_dark 3 (some .int) :: zTB) B.pre w (List.mem_cons_of_mem _ hw), hK⟩
  have hx := cx.1
  have hb := cx.2.1
  have hr := B.returns
  have hlk := B.notSynchronized
  have hS : va_S A s.heap s.heap [] := va_S.rf
  have hl := lv_entry ([.ref (q 0), .int v1]) (n := 3) (Nat.le_of_ble_eq_true rfl)
  rw [lg_entry_eq]
  generalize (lg_sl ([.ref (q 0), .int v1]) ++ List.replicate (3 - (lg_sl ([.ref (q 0), .int v1])).length) Slot.unset).toArray = ls at hl ⊢
  have hl : lv_has ls 3 [(0, .ref (q 0)), (1, .int v1)] := hl
  unfold fX12_dark at h
  refine lv_aload_n (pc := 0) hx hb dX12_dark_0 rfl (lv_at hl 0 rfl) ?_
  refine lv_iconst (pc := 1) hx hb dX12_dark_1 zc_0 ?_
  obtain ⟨S1, eS1, h⟩ := zLt_e h
  refine zr_putI (pc := 2) cx lq_X12_1 hq hP hS nM_0 sM_0 rfl rfl rfl dX12_dark_2 (fun H locs hP hS => ?_)
  rw [← eS1] at hP
  refine lv_aload_n (pc := 5) hx hb dX12_dark_5 rfl (lv_at hl 0 rfl) ?_
  refine lv_iload_n (pc := 6) hx hb dX12_dark_6 rfl (lv_at hl 1 rfl) ?_
  obtain ⟨r3, k2, h⟩ := zBd_e h
  refine zr_VI (pc := 7) (rest := []) cx cv_X12_259 (mX12_isParlour k2) ⟨⟨rfl, rfl⟩, Nat.le_of_ble_eq_true rfl, Nat.le_of_ble_eq_true rfl⟩ ⟨Nat.le_of_ble_eq_true rfl, Nat.le_of_ble_eq_true rfl⟩ hP nM_0 sM_0 rfl hl.1 rfl rfl (Nat.le_of_ble_eq_true rfl) dX12_dark_7 ?_
  refine lv_if_ne (pc := 10) (tgt := 15) hx hb dX12_dark_10 (by decide) (fun c4 => ?_) (fun c4 => ?_)
  · replace h := zBr_f c4 h
    refine lv_iconst (pc := 15) hx hb dX12_dark_15 zc_0 ?_
    refine lv_istore_n (lv' := [(2, .int (0 : Int32)), (0, .ref (q 0)), (1, .int v1)]) (pc := 16) hx hb dX12_dark_16 rfl hl (by decide) rfl (fun ls hl => ?_)
    exact kX12_dark_17 cx hr hlk hq 2000 _ h _ _ hP hS _ (lv_sub hl [1, 2, 0] rfl)
  · replace h := zBr_t c4 h
    refine lv_iconst (pc := 13) hx hb dX12_dark_13 zc_m1 ?_
    have hz := Option.some.inj h
    exact zr_rqI (pc := 14) cx hr hlk hP hS hz dX12_dark_14
-- X12_days
abbrev rmX12_days : Room := { frames := 3, cells := 0, slots := 0, locals := 65 }
def fX12_days (S : zSt) (v1 : Int32) : Option (Int32 × zSt) :=
  zLt (zI S 0 0 (0 : Int32)) (fun S1 => zBd (fX12_isIn v1 (1 : Int32) (60 : Int32)) (fun r3 => zBr (r3 = 0) (some ((-1 : Int32), S1)) (zGd (zIx (24 : Int32) 406) (zBr ((S1.1 2 (24 : Int32).toNatClampNeg) = (400 : Int32)) (some ((0 : Int32), S1)) (zBd (fX12_snap S1) (fun S8 => zBp (fX12_passDays S8 v1) (fun r11 S10 => some (r11, S10))))))))
set_option maxHeartbeats 4000000 in
set_option maxRecDepth 100000 in
theorem mX12_days {l : Launch} {D : va_G} {cy : Nat → ClassId} {q : Nat → Nat} {A : Nat → Prop} {S : zSt} {v1 : Int32} (hq : zQ A q zNM) {z : (Int32 × zSt)} (h : fX12_days S v1 = some z) : zMq l yX12_days cX12_days 2 (some .int) rmX12_days [.ref (q 0), .int v1] zshM zNM D cy q A S z := by
  refine Met.ofW (cc := cX12_days) (maxL := 2) (ret := (some .int)) (by decide) rfl ?_
  intro p e s m args below meth c s₁ B hml hv
  obtain ⟨rfl, hP, hK⟩ := hv
  have cx : zX RX12 cX12_days 2 p s m ([.ref (q 0), .int v1]).toArray c D cy := ⟨B.exec, B.bytes, hml, findClass_of_methodNamed B.named, fun w hw => atoms_spec (ws := Cond.code yX12_days cX12_days 2 (some .int) :: zTB) B.pre w (List.mem_cons_of_mem _ hw), hK⟩
  have hx := cx.1
  have hb := cx.2.1
  have hr := B.returns
  have hlk := B.notSynchronized
  have hS : va_S A s.heap s.heap [] := va_S.rf
  have hl := lv_entry ([.ref (q 0), .int v1]) (n := 2) (Nat.le_of_ble_eq_true rfl)
  rw [lg_entry_eq]
  generalize (lg_sl ([.ref (q 0), .int v1]) ++ List.replicate (2 - (lg_sl ([.ref (q 0), .int v1])).length) Slot.unset).toArray = ls at hl ⊢
  have hl : lv_has ls 2 [(0, .ref (q 0)), (1, .int v1)] := hl
  unfold fX12_days at h
  refine lv_aload_n (pc := 0) hx hb dX12_days_0 rfl (lv_at hl 0 rfl) ?_
  refine lv_iconst (pc := 1) hx hb dX12_days_1 zc_0 ?_
  obtain ⟨S1, eS1, h⟩ := zLt_e h
  refine zr_putI (pc := 2) cx lq_X12_1 hq hP hS nM_0 sM_0 rfl rfl rfl dX12_days_2 (fun H locs hP hS => ?_)
  rw [← eS1] at hP
  refine lv_iload_n (pc := 5) hx hb dX12_days_5 rfl (lv_at hl 1 rfl) ?_
  refine lv_iconst (pc := 6) hx hb dX12_days_6 zc_1 ?_
  refine lv_bipush (pc := 7) hx hb dX12_days_7 zb_60 ?_
  obtain ⟨r3, k2, h⟩ := zBd_e h
  refine zr_SI (pc := 9) (rest := []) cx cv_X12_75 (mX12_isIn k2) ⟨⟨rfl, rfl⟩, Nat.le_of_ble_eq_true rfl, Nat.le_of_ble_eq_true rfl⟩ ⟨Nat.le_of_ble_eq_true rfl, Nat.le_of_ble_eq_true rfl⟩ (zr_preK cx) hl.1 rfl rfl (Nat.le_of_ble_eq_true rfl) dX12_days_9 ?_
  refine lv_if_ne (pc := 12) (tgt := 17) hx hb dX12_days_12 (by decide) (fun c4 => ?_) (fun c4 => ?_)
  · replace h := zBr_f c4 h
    refine lv_aload_n (pc := 17) hx hb dX12_days_17 rfl (lv_at hl 0 rfl) ?_
    refine zr_getR (pc := 18) (t := 2) cx lk_X12_98 hP nM_0 sM_0 rfl dX12_days_18 ?_
    refine lv_bipush (pc := 21) hx hb dX12_days_21 zb_24 ?_
    obtain ⟨g5, h⟩ := zGd_e h
    refine zr_iald (pc := 23) cx hP nM_2 sM_2 g5 dX12_days_23 ?_
    refine lv_sipush (pc := 24) hx hb dX12_days_24 zs_400 ?_
    refine lv_icmp_ne (pc := 27) (tgt := 32) hx hb dX12_days_27 (by decide) (fun c6 => ?_) (fun c6 => ?_)
    · replace h := zBr_f c6 h
      refine lv_aload_n (pc := 32) hx hb dX12_days_32 rfl (lv_at hl 0 rfl) ?_
      obtain ⟨S8, k7, h⟩ := zBd_e h
      refine zr_VV (pc := 33) (rest := []) cx cv_X12_279 (mX12_snap hq k7) ⟨⟨rfl, rfl⟩, Nat.le_of_ble_eq_true rfl, Nat.le_of_ble_eq_true rfl⟩ ⟨Nat.le_of_ble_eq_true rfl, Nat.le_of_ble_eq_true rfl⟩ hP hS nM_0 sM_0 rfl hl.1 rfl rfl (Nat.le_of_ble_eq_true rfl) dX12_days_33 (fun H locs hP hS => ?_)
      refine lv_aload_n (pc := 36) hx hb dX12_days_36 rfl (lv_at hl 0 rfl) ?_
      refine lv_iload_n (pc := 37) hx hb dX12_days_37 rfl (lv_at hl 1 rfl) ?_
      obtain ⟨r11, S10, k9, h⟩ := zBp_e h
      refine zr_VQ (pc := 38) (rest := []) cx cv_X12_302 (mX12_passDays hq k9) ⟨⟨rfl, rfl⟩, Nat.le_of_ble_eq_true rfl, Nat.le_of_ble_eq_true rfl⟩ ⟨Nat.le_of_ble_eq_true rfl, Nat.le_of_ble_eq_true rfl⟩ hP hS nM_0 sM_0 rfl hl.1 rfl rfl (Nat.le_of_ble_eq_true rfl) dX12_days_38 (fun H locs hP hS => ?_)
      have hz := Option.some.inj h
      exact zr_rqI (pc := 41) cx hr hlk hP hS hz dX12_days_41
    · replace h := zBr_t c6 h
      refine lv_iconst (pc := 30) hx hb dX12_days_30 zc_0 ?_
      have hz := Option.some.inj h
      exact zr_rqI (pc := 31) cx hr hlk hP hS hz dX12_days_31
  · replace h := zBr_t c4 h
    refine lv_iconst (pc := 15) hx hb dX12_days_15 zc_m1 ?_
    have hz := Option.some.inj h
    exact zr_rqI (pc := 16) cx hr hlk hP hS hz dX12_days_16
-- X12_isDeed
abbrev rmX12_isDeed : Room := { frames := 1, cells := 0, slots := 0, locals := 22 }
def fX12_isDeed (S : zSt) (v1 : Int32) : Option Int32 :=
  zGd (zIx (3 : Int32) 406) (zBd (fX12_isIn v1 (0 : Int32) ((S.1 2 (3 : Int32).toNatClampNeg) - (1 : Int32))) (fun r3 => zGd (zBo r3) (some r3)))
set_option maxHeartbeats 4000000 in
set_option maxRecDepth 100000 in
theorem mX12_isDeed {l : Launch} {D : va_G} {cy : Nat → ClassId} {q : Nat → Nat} {S : zSt} {v1 : Int32} {z : Int32} (h : fX12_isDeed S v1 = some z) : zMi l yX12_isDeed cX12_isDeed 2 (some .boolean) rmX12_isDeed [.ref (q 0), .int v1] (zPr zshM zNM D cy q S) z := by
  refine Met.ofW (cc := cX12_isDeed) (maxL := 2) (ret := (some .boolean)) (by decide) rfl ?_
  intro p e s m args below meth c s₁ B hml hv
  obtain ⟨rfl, hP, hK⟩ := hv
  have cx : zX RX12 cX12_isDeed 2 p s m ([.ref (q 0), .int v1]).toArray c D cy := ⟨B.exec, B.bytes, hml, findClass_of_methodNamed B.named, fun w hw => atoms_spec (ws := Cond.code yX12_isDeed cX12_isDeed 2 (some .boolean) :: zTB) B.pre w (List.mem_cons_of_mem _ hw), hK⟩
  have hx := cx.1
  have hb := cx.2.1
  have hr := B.returns
  have hlk := B.notSynchronized
  have hl := lv_entry ([.ref (q 0), .int v1]) (n := 2) (Nat.le_of_ble_eq_true rfl)
  rw [lg_entry_eq]
  generalize (lg_sl ([.ref (q 0), .int v1]) ++ List.replicate (2 - (lg_sl ([.ref (q 0), .int v1])).length) Slot.unset).toArray = ls at hl ⊢
  have hl : lv_has ls 2 [(0, .ref (q 0)), (1, .int v1)] := hl
  unfold fX12_isDeed at h
  refine lv_iload_n (pc := 0) hx hb dX12_isDeed_0 rfl (lv_at hl 1 rfl) ?_
  refine lv_iconst (pc := 1) hx hb dX12_isDeed_1 zc_0 ?_
  refine lv_aload_n (pc := 2) hx hb dX12_isDeed_2 rfl (lv_at hl 0 rfl) ?_
  refine zr_getR (pc := 3) (t := 2) cx lk_X12_98 hP nM_0 sM_0 rfl dX12_isDeed_3 ?_
  refine lv_iconst (pc := 6) hx hb dX12_isDeed_6 zc_3 ?_
  obtain ⟨g1, h⟩ := zGd_e h
  refine zr_iald (pc := 7) cx hP nM_2 sM_2 g1 dX12_isDeed_7 ?_
  refine lv_iconst (pc := 8) hx hb dX12_isDeed_8 zc_1 ?_
  refine lv_isub (pc := 9) hx hb dX12_isDeed_9 ?_
  obtain ⟨r3, k2, h⟩ := zBd_e h
  refine zr_SI (pc := 10) (rest := []) cx cv_X12_75 (mX12_isIn k2) ⟨⟨rfl, rfl⟩, Nat.le_of_ble_eq_true rfl, Nat.le_of_ble_eq_true rfl⟩ ⟨Nat.le_of_ble_eq_true rfl, Nat.le_of_ble_eq_true rfl⟩ (zr_preK cx) hl.1 rfl rfl (Nat.le_of_ble_eq_true rfl) dX12_isDeed_10 ?_
  obtain ⟨g4, h⟩ := zGd_e h
  have hz := Option.some.inj h
  exact zr_reZ (pc := 13) cx hr hlk hz g4 dX12_isDeed_13
-- X12_isPerson
abbrev rmX12_isPerson : Room := { frames := 1, cells := 0, slots := 0, locals := 22 }
def fX12_isPerson (S : zSt) (v1 : Int32) : Option Int32 :=
  zGd (zIx (2 : Int32) 406) (zBd (fX12_isIn v1 (0 : Int32) ((S.1 2 (2 : Int32).toNatClampNeg) - (1 : Int32))) (fun r3 => zGd (zBo r3) (some r3)))
set_option maxHeartbeats 4000000 in
set_option maxRecDepth 100000 in
theorem mX12_isPerson {l : Launch} {D : va_G} {cy : Nat → ClassId} {q : Nat → Nat} {S : zSt} {v1 : Int32} {z : Int32} (h : fX12_isPerson S v1 = some z) : zMi l yX12_isPerson cX12_isPerson 2 (some .boolean) rmX12_isPerson [.ref (q 0), .int v1] (zPr zshM zNM D cy q S) z := by
  refine Met.ofW (cc := cX12_isPerson) (maxL := 2) (ret := (some .boolean)) (by decide) rfl ?_
  intro p e s m args below meth c s₁ B hml hv
  obtain ⟨rfl, hP, hK⟩ := hv
  have cx : zX RX12 cX12_isPerson 2 p s m ([.ref (q 0), .int v1]).toArray c D cy := ⟨B.exec, B.bytes, hml, findClass_of_methodNamed B.named, fun w hw => atoms_spec (ws := Cond.code yX12_isPerson cX12_isPerson 2 (some .boolean) :: zTB) B.pre w (List.mem_cons_of_mem _ hw), hK⟩
  have hx := cx.1
  have hb := cx.2.1
  have hr := B.returns
  have hlk := B.notSynchronized
  have hl := lv_entry ([.ref (q 0), .int v1]) (n := 2) (Nat.le_of_ble_eq_true rfl)
  rw [lg_entry_eq]
  generalize (lg_sl ([.ref (q 0), .int v1]) ++ List.replicate (2 - (lg_sl ([.ref (q 0), .int v1])).length) Slot.unset).toArray = ls at hl ⊢
  have hl : lv_has ls 2 [(0, .ref (q 0)), (1, .int v1)] := hl
  unfold fX12_isPerson at h
  refine lv_iload_n (pc := 0) hx hb dX12_isPerson_0 rfl (lv_at hl 1 rfl) ?_
  refine lv_iconst (pc := 1) hx hb dX12_isPerson_1 zc_0 ?_
  refine lv_aload_n (pc := 2) hx hb dX12_isPerson_2 rfl (lv_at hl 0 rfl) ?_
  refine zr_getR (pc := 3) (t := 2) cx lk_X12_98 hP nM_0 sM_0 rfl dX12_isPerson_3 ?_
  refine lv_iconst (pc := 6) hx hb dX12_isPerson_6 zc_2 ?_
  obtain ⟨g1, h⟩ := zGd_e h
  refine zr_iald (pc := 7) cx hP nM_2 sM_2 g1 dX12_isPerson_7 ?_
  refine lv_iconst (pc := 8) hx hb dX12_isPerson_8 zc_1 ?_
  refine lv_isub (pc := 9) hx hb dX12_isPerson_9 ?_
  obtain ⟨r3, k2, h⟩ := zBd_e h
  refine zr_SI (pc := 10) (rest := []) cx cv_X12_75 (mX12_isIn k2) ⟨⟨rfl, rfl⟩, Nat.le_of_ble_eq_true rfl, Nat.le_of_ble_eq_true rfl⟩ ⟨Nat.le_of_ble_eq_true rfl, Nat.le_of_ble_eq_true rfl⟩ (zr_preK cx) hl.1 rfl rfl (Nat.le_of_ble_eq_true rfl) dX12_isPerson_10 ?_
  obtain ⟨g4, h⟩ := zGd_e h
  have hz := Option.some.inj h
  exact zr_reZ (pc := 13) cx hr hlk hz g4 dX12_isPerson_13
-- X12_does
abbrev rmX12_does : Room := { frames := 6, cells := 0, slots := 0, locals := 139 }
def fX12_does_39 (S : zSt)  (t0 : Int32) (t1 : Int32) (t2 : Int32) (t3 : Int32) (t4 : Int32) : Option (Int32 × zSt) :=
  zBp (fX12_doIt S t4 t3 t2 t1 t0) (fun r7 S6 => some (r7, S6))
set_option maxHeartbeats 4000000 in
set_option maxRecDepth 100000 in
theorem kX12_does_39 {p : Program} {l : Launch} {e : Env} {s : State} {m : MethodId} {args : Array Value} {below : List Frame} {meth : Method} {c : Code} {D : va_G} {cy : Nat → ClassId} {q : Nat → Nat} {A : Nat → Prop} (cx : zX RX12 cX12_does 4 p s m args c D cy) (hr : meth.sig.returnType = (some .int)) (hlk : meth.locks = false) (hq : zQ A q zNM) {z : (Int32 × zSt)} {S : zSt} {t0 : Int32} {t1 : Int32} {t2 : Int32} {t3 : Int32} {t4 : Int32} (h : fX12_does_39 S t0 t1 t2 t3 t4 = some z) {H : Heap} {locs : List Loc} (hP : va_P D vwCl (zW zshM zNM cy q S) H) (hS : va_S A s.heap H locs) {ls : Array Slot} (hl : lv_has ls 4 []) : W p l e rmX12_does s m args below meth c H locs 0 0 (MQ below (va_Qi (fun (r : Int32) (u : zSt) => (r, u) = z) (fun u t => va_P D vwCl (zW zshM zNM cy q u) t.heap) A) args s 0 0 A) (F0 m 39 ls [.int t0, .int t1, .int t2, .int t3, .int t4, .ref (q 0)]) := by
  have hx := cx.1
  have hb := cx.2.1
  unfold fX12_does_39 at h
  obtain ⟨r7, S6, k5, h⟩ := zBp_e h
  refine zr_VQ (pc := 39) (rest := []) cx cv_X12_292 (mX12_doIt hq k5) ⟨⟨rfl, rfl⟩, Nat.le_of_ble_eq_true rfl, Nat.le_of_ble_eq_true rfl⟩ ⟨Nat.le_of_ble_eq_true rfl, Nat.le_of_ble_eq_true rfl⟩ hP hS nM_0 sM_0 rfl hl.1 rfl rfl (Nat.le_of_ble_eq_true rfl) dX12_does_39 (fun H locs hP hS => ?_)
  have hz := Option.some.inj h
  exact zr_rqI (pc := 42) cx hr hlk hP hS hz dX12_does_42
def fX12_does_38 (S : zSt)  (t0 : Int32) (t1 : Int32) (t2 : Int32) (t3 : Int32) : Option (Int32 × zSt) :=
  fX12_does_39 S (0 : Int32) t0 t1 t2 t3
set_option maxHeartbeats 4000000 in
set_option maxRecDepth 100000 in
theorem kX12_does_38 {p : Program} {l : Launch} {e : Env} {s : State} {m : MethodId} {args : Array Value} {below : List Frame} {meth : Method} {c : Code} {D : va_G} {cy : Nat → ClassId} {q : Nat → Nat} {A : Nat → Prop} (cx : zX RX12 cX12_does 4 p s m args c D cy) (hr : meth.sig.returnType = (some .int)) (hlk : meth.locks = false) (hq : zQ A q zNM) {z : (Int32 × zSt)} {S : zSt} {t0 : Int32} {t1 : Int32} {t2 : Int32} {t3 : Int32} (h : fX12_does_38 S t0 t1 t2 t3 = some z) {H : Heap} {locs : List Loc} (hP : va_P D vwCl (zW zshM zNM cy q S) H) (hS : va_S A s.heap H locs) {ls : Array Slot} (hl : lv_has ls 4 []) : W p l e rmX12_does s m args below meth c H locs 0 0 (MQ below (va_Qi (fun (r : Int32) (u : zSt) => (r, u) = z) (fun u t => va_P D vwCl (zW zshM zNM cy q u) t.heap) A) args s 0 0 A) (F0 m 38 ls [.int t0, .int t1, .int t2, .int t3, .ref (q 0)]) := by
  have hx := cx.1
  have hb := cx.2.1
  unfold fX12_does_38 at h
  refine lv_iconst (pc := 38) hx hb dX12_does_38 zc_0 ?_
  exact kX12_does_39 cx hr hlk hq h hP hS (lv_sub hl [] rfl)
def fX12_does (S : zSt) (v1 : Int32) (v2 : Int32) (v3 : Int32) : Option (Int32 × zSt) :=
  zLt (zI S 0 0 (0 : Int32)) (fun S1 => zBd (fX12_isPerson S1 v1) (fun r3 => zBr (r3 = 0) (fX12_does_38 S1 v3 v2 v1 (0 : Int32)) (zBd (fX12_isDeed S1 v2) (fun r9 => zBr (r9 = 0) (fX12_does_38 S1 v3 v2 v1 (0 : Int32)) (zBd (fX12_isParlour S1 v3) (fun r12 => zBr (r12 = 0) (fX12_does_38 S1 v3 v2 v1 (0 : Int32)) (fX12_does_39 S1 (1 : Int32) v3 v2 v1 (0 : Int32))))))))
set_option maxHeartbeats 4000000 in
set_option maxRecDepth 100000 in
theorem mX12_does {l : Launch} {D : va_G} {cy : Nat → ClassId} {q : Nat → Nat} {A : Nat → Prop} {S : zSt} {v1 : Int32} {v2 : Int32} {v3 : Int32} (hq : zQ A q zNM) {z : (Int32 × zSt)} (h : fX12_does S v1 v2 v3 = some z) : zMq l yX12_does cX12_does 4 (some .int) rmX12_does [.ref (q 0), .int v1, .int v2, .int v3] zshM zNM D cy q A S z := by
  refine Met.ofW (cc := cX12_does) (maxL := 4) (ret := (some .int)) (by decide) rfl ?_
  intro p e s m args below meth c s₁ B hml hv
  obtain ⟨rfl, hP, hK⟩ := hv
  have cx : zX RX12 cX12_does 4 p s m ([.ref (q 0), .int v1, .int v2, .int v3]).toArray c D cy := ⟨B.exec, B.bytes, hml, findClass_of_methodNamed B.named, fun w hw => atoms_spec (ws := Cond.code yX12_does cX12_does 4 (some .int) :: zTB) B.pre w (List.mem_cons_of_mem _ hw), hK⟩
  have hx := cx.1
  have hb := cx.2.1
  have hr := B.returns
  have hlk := B.notSynchronized
  have hS : va_S A s.heap s.heap [] := va_S.rf
  have hl := lv_entry ([.ref (q 0), .int v1, .int v2, .int v3]) (n := 4) (Nat.le_of_ble_eq_true rfl)
  rw [lg_entry_eq]
  generalize (lg_sl ([.ref (q 0), .int v1, .int v2, .int v3]) ++ List.replicate (4 - (lg_sl ([.ref (q 0), .int v1, .int v2, .int v3])).length) Slot.unset).toArray = ls at hl ⊢
  have hl : lv_has ls 4 [(0, .ref (q 0)), (1, .int v1), (2, .int v2), (3, .int v3)] := hl
  unfold fX12_does at h
  refine lv_aload_n (pc := 0) hx hb dX12_does_0 rfl (lv_at hl 0 rfl) ?_
  refine lv_iconst (pc := 1) hx hb dX12_does_1 zc_0 ?_
  obtain ⟨S1, eS1, h⟩ := zLt_e h
  refine zr_putI (pc := 2) cx lq_X12_1 hq hP hS nM_0 sM_0 rfl rfl rfl dX12_does_2 (fun H locs hP hS => ?_)
  rw [← eS1] at hP
  refine lv_aload_n (pc := 5) hx hb dX12_does_5 rfl (lv_at hl 0 rfl) ?_
  refine lv_iconst (pc := 6) hx hb dX12_does_6 zc_0 ?_
  refine lv_iload_n (pc := 7) hx hb dX12_does_7 rfl (lv_at hl 1 rfl) ?_
  refine lv_iload_n (pc := 8) hx hb dX12_does_8 rfl (lv_at hl 2 rfl) ?_
  refine lv_iload_n (pc := 9) hx hb dX12_does_9 rfl (lv_at hl 3 rfl) ?_
  refine lv_aload_n (pc := 10) hx hb dX12_does_10 rfl (lv_at hl 0 rfl) ?_
  refine lv_iload_n (pc := 11) hx hb dX12_does_11 rfl (lv_at hl 1 rfl) ?_
  obtain ⟨r3, k2, h⟩ := zBd_e h
  refine zr_VI (pc := 12) (rest := [.int v3, .int v2, .int v1, .int (0 : Int32), .ref (q 0)]) cx cv_X12_286 (mX12_isPerson k2) ⟨⟨rfl, rfl⟩, Nat.le_of_ble_eq_true rfl, Nat.le_of_ble_eq_true rfl⟩ ⟨Nat.le_of_ble_eq_true rfl, Nat.le_of_ble_eq_true rfl⟩ hP nM_0 sM_0 rfl hl.1 rfl rfl (Nat.le_of_ble_eq_true rfl) dX12_does_12 ?_
  refine lv_if_eq (pc := 15) (tgt := 38) hx hb dX12_does_15 (by decide) (fun c4 => ?_) (fun c4 => ?_)
  · replace h := zBr_t c4 h
    exact kX12_does_38 cx hr hlk hq h hP hS (lv_sub hl [] rfl)
  · replace h := zBr_f c4 h
    refine lv_aload_n (pc := 18) hx hb dX12_does_18 rfl (lv_at hl 0 rfl) ?_
    refine lv_iload_n (pc := 19) hx hb dX12_does_19 rfl (lv_at hl 2 rfl) ?_
    obtain ⟨r9, k8, h⟩ := zBd_e h
    refine zr_VI (pc := 20) (rest := [.int v3, .int v2, .int v1, .int (0 : Int32), .ref (q 0)]) cx cv_X12_289 (mX12_isDeed k8) ⟨⟨rfl, rfl⟩, Nat.le_of_ble_eq_true rfl, Nat.le_of_ble_eq_true rfl⟩ ⟨Nat.le_of_ble_eq_true rfl, Nat.le_of_ble_eq_true rfl⟩ hP nM_0 sM_0 rfl hl.1 rfl rfl (Nat.le_of_ble_eq_true rfl) dX12_does_20 ?_
    refine lv_if_eq (pc := 23) (tgt := 38) hx hb dX12_does_23 (by decide) (fun c10 => ?_) (fun c10 => ?_)
    · replace h := zBr_t c10 h
      exact kX12_does_38 cx hr hlk hq h hP hS (lv_sub hl [] rfl)
    · replace h := zBr_f c10 h
      refine lv_aload_n (pc := 26) hx hb dX12_does_26 rfl (lv_at hl 0 rfl) ?_
      refine lv_iload_n (pc := 27) hx hb dX12_does_27 rfl (lv_at hl 3 rfl) ?_
      obtain ⟨r12, k11, h⟩ := zBd_e h
      refine zr_VI (pc := 28) (rest := [.int v3, .int v2, .int v1, .int (0 : Int32), .ref (q 0)]) cx cv_X12_259 (mX12_isParlour k11) ⟨⟨rfl, rfl⟩, Nat.le_of_ble_eq_true rfl, Nat.le_of_ble_eq_true rfl⟩ ⟨Nat.le_of_ble_eq_true rfl, Nat.le_of_ble_eq_true rfl⟩ hP nM_0 sM_0 rfl hl.1 rfl rfl (Nat.le_of_ble_eq_true rfl) dX12_does_28 ?_
      refine lv_if_eq (pc := 31) (tgt := 38) hx hb dX12_does_31 (by decide) (fun c13 => ?_) (fun c13 => ?_)
      · replace h := zBr_t c13 h
        exact kX12_does_38 cx hr hlk hq h hP hS (lv_sub hl [] rfl)
      · replace h := zBr_f c13 h
        refine lv_iconst (pc := 34) hx hb dX12_does_34 zc_1 ?_
        refine lv_goto (pc := 35) (tgt := 39) hx hb dX12_does_35 (by decide) ?_
        exact kX12_does_39 cx hr hlk hq h hP hS (lv_sub hl [] rfl)
-- X12_draw
abbrev rmX12_draw : Room := { frames := 0, cells := 0, slots := 0, locals := 0 }
def fX12_draw (S : zSt) (v1 : Int32) : Option (Int32 × zSt) :=
  zLt (zI S 0 35 (((S.1 0 35) * (1103515245 : Int32)) + (12345 : Int32))) (fun S1 => zGd (decide (¬ v1 = 0)) (some (((zUsh (S1.1 0 35) (8 : Int32)) - (zUsh (S1.1 0 35) (8 : Int32)) / v1 * v1), S1)))
set_option maxHeartbeats 4000000 in
set_option maxRecDepth 100000 in
theorem mX12_draw {l : Launch} {D : va_G} {cy : Nat → ClassId} {q : Nat → Nat} {A : Nat → Prop} {S : zSt} {v1 : Int32} (hq : zQ A q zNM) {z : (Int32 × zSt)} (h : fX12_draw S v1 = some z) : zMq l yX12_draw cX12_draw 2 (some .int) rmX12_draw [.ref (q 0), .int v1] zshM zNM D cy q A S z := by
  refine Met.ofW (cc := cX12_draw) (maxL := 2) (ret := (some .int)) (by decide) rfl ?_
  intro p e s m args below meth c s₁ B hml hv
  obtain ⟨rfl, hP, hK⟩ := hv
  have cx : zX RX12 cX12_draw 2 p s m ([.ref (q 0), .int v1]).toArray c D cy := ⟨B.exec, B.bytes, hml, findClass_of_methodNamed B.named, fun w hw => atoms_spec (ws := Cond.code yX12_draw cX12_draw 2 (some .int) :: zTB) B.pre w (List.mem_cons_of_mem _ hw), hK⟩
  have hx := cx.1
  have hb := cx.2.1
  have hr := B.returns
  have hlk := B.notSynchronized
  have hS : va_S A s.heap s.heap [] := va_S.rf
  have hl := lv_entry ([.ref (q 0), .int v1]) (n := 2) (Nat.le_of_ble_eq_true rfl)
  rw [lg_entry_eq]
  generalize (lg_sl ([.ref (q 0), .int v1]) ++ List.replicate (2 - (lg_sl ([.ref (q 0), .int v1])).length) Slot.unset).toArray = ls at hl ⊢
  have hl : lv_has ls 2 [(0, .ref (q 0)), (1, .int v1)] := hl
  unfold fX12_draw at h
  refine lv_aload_n (pc := 0) hx hb dX12_draw_0 rfl (lv_at hl 0 rfl) ?_
  refine lv_aload_n (pc := 1) hx hb dX12_draw_1 rfl (lv_at hl 0 rfl) ?_
  refine zr_getI (pc := 2) cx lk_X12_350 hP nM_0 sM_0 rfl dX12_draw_2 ?_
  refine lv_ldcw (pc := 5) hx hb cx.2.2.2.1 (cx.2.2.2.2.1 _ wd_1993) dX12_draw_5 ?_
  refine lv_imul (pc := 8) hx hb dX12_draw_8 ?_
  refine lv_sipush (pc := 9) hx hb dX12_draw_9 zs_12345 ?_
  refine lv_iadd (pc := 12) hx hb dX12_draw_12 ?_
  obtain ⟨S1, eS1, h⟩ := zLt_e h
  refine zr_putI (pc := 13) cx lq_X12_350 hq hP hS nM_0 sM_0 rfl rfl rfl dX12_draw_13 (fun H locs hP hS => ?_)
  rw [← eS1] at hP
  refine lv_aload_n (pc := 16) hx hb dX12_draw_16 rfl (lv_at hl 0 rfl) ?_
  refine zr_getI (pc := 17) cx lk_X12_350 hP nM_0 sM_0 rfl dX12_draw_17 ?_
  refine lv_bipush (pc := 20) hx hb dX12_draw_20 zb_8 ?_
  refine lv_iushr (v := (zUsh (S1.1 0 35) (8 : Int32))) (pc := 22) hx hb dX12_draw_22 rfl ?_
  refine lv_iload_n (pc := 23) hx hb dX12_draw_23 rfl (lv_at hl 1 rfl) ?_
  obtain ⟨g2, h⟩ := zGd_e h
  refine lv_irem (pc := 24) hx hb dX12_draw_24 (by simpa using g2) ?_
  have hz := Option.some.inj h
  exact zr_rqI (pc := 25) cx hr hlk hP hS hz dX12_draw_25
-- X12_drawsFor
abbrev rmX12_drawsFor : Room := { frames := 5, cells := 0, slots := 0, locals := 113 }
def fX12_drawsFor_81 (S : zSt)  (v2 : Int32) : Option zSt :=
  zGd (zIx (1 : Int32) 406) (zBr ((S.1 2 (1 : Int32).toNatClampNeg) = 0) (some S) (zGd (zIx (1 : Int32) 406) (zBp (fX12_draw S (S.1 2 (1 : Int32).toNatClampNeg)) (fun r11 S10 => zBr (v2 = (1 : Int32)) (zBd (fX12_live S10 (1 : Int32) r11 (0 : Int32) (0 : Int32)) (fun S20 => some S20)) (zGd (zIx (0 : Int32) 406) (zBp (fX12_draw S10 (S10.1 2 (0 : Int32).toNatClampNeg)) (fun r16 S15 => zBd (fX12_live S15 (2 : Int32) r11 r16 (0 : Int32)) (fun S18 => some S18))))))))
set_option maxHeartbeats 4000000 in
set_option maxRecDepth 100000 in
theorem kX12_drawsFor_81 {p : Program} {l : Launch} {e : Env} {s : State} {m : MethodId} {args : Array Value} {below : List Frame} {meth : Method} {c : Code} {D : va_G} {cy : Nat → ClassId} {q : Nat → Nat} {A : Nat → Prop} (cx : zX RX12 cX12_drawsFor 5 p s m args c D cy) (hr : meth.sig.returnType = none) (hlk : meth.locks = false) (hq : zQ A q zNM) {z : zSt} {S : zSt} {v2 : Int32} (h : fX12_drawsFor_81 S v2 = some z) {H : Heap} {locs : List Loc} (hP : va_P D vwCl (zW zshM zNM cy q S) H) (hS : va_S A s.heap H locs) {ls : Array Slot} (hl : lv_has ls 5 [(0, .ref (q 0)), (2, .int v2)]) : W p l e rmX12_drawsFor s m args below meth c H locs 0 0 (MQ below (va_Qv (fun (u : zSt) => u = z) (fun u t => va_P D vwCl (zW zshM zNM cy q u) t.heap) A) args s 0 0 A) (F0 m 81 ls []) := by
  have hx := cx.1
  have hb := cx.2.1
  unfold fX12_drawsFor_81 at h
  refine lv_aload_n (pc := 81) hx hb dX12_drawsFor_81 rfl (lv_at hl 0 rfl) ?_
  refine zr_getR (pc := 82) (t := 2) cx lk_X12_98 hP nM_0 sM_0 rfl dX12_drawsFor_82 ?_
  refine lv_iconst (pc := 85) hx hb dX12_drawsFor_85 zc_1 ?_
  obtain ⟨g6, h⟩ := zGd_e h
  refine zr_iald (pc := 86) cx hP nM_2 sM_2 g6 dX12_drawsFor_86 ?_
  refine lv_if_ne (pc := 87) (tgt := 91) hx hb dX12_drawsFor_87 (by decide) (fun c7 => ?_) (fun c7 => ?_)
  · replace h := zBr_f c7 h
    refine lv_aload_n (pc := 91) hx hb dX12_drawsFor_91 rfl (lv_at hl 0 rfl) ?_
    refine lv_aload_n (pc := 92) hx hb dX12_drawsFor_92 rfl (lv_at hl 0 rfl) ?_
    refine zr_getR (pc := 93) (t := 2) cx lk_X12_98 hP nM_0 sM_0 rfl dX12_drawsFor_93 ?_
    refine lv_iconst (pc := 96) hx hb dX12_drawsFor_96 zc_1 ?_
    obtain ⟨g8, h⟩ := zGd_e h
    refine zr_iald (pc := 97) cx hP nM_2 sM_2 g8 dX12_drawsFor_97 ?_
    obtain ⟨r11, S10, k9, h⟩ := zBp_e h
    refine zr_VQ (pc := 98) (rest := []) cx cv_X12_354 (mX12_draw hq k9) ⟨⟨rfl, rfl⟩, Nat.le_of_ble_eq_true rfl, Nat.le_of_ble_eq_true rfl⟩ ⟨Nat.le_of_ble_eq_true rfl, Nat.le_of_ble_eq_true rfl⟩ hP hS nM_0 sM_0 rfl hl.1 rfl rfl (Nat.le_of_ble_eq_true rfl) dX12_drawsFor_98 (fun H locs hP hS => ?_)
    refine lv_istore_n (lv' := [(3, .int r11), (0, .ref (q 0)), (2, .int v2)]) (pc := 101) hx hb dX12_drawsFor_101 rfl hl (by decide) rfl (fun ls hl => ?_)
    refine lv_iload_n (pc := 102) hx hb dX12_drawsFor_102 rfl (lv_at hl 2 rfl) ?_
    refine lv_iconst (pc := 103) hx hb dX12_drawsFor_103 zc_1 ?_
    refine lv_icmp_ne (pc := 104) (tgt := 116) hx hb dX12_drawsFor_104 (by decide) (fun c12 => ?_) (fun c12 => ?_)
    · replace h := zBr_f c12 h
      refine lv_aload_n (pc := 116) hx hb dX12_drawsFor_116 rfl (lv_at hl 1 rfl) ?_
      refine lv_iconst (pc := 117) hx hb dX12_drawsFor_117 zc_2 ?_
      refine lv_iload_n (pc := 118) hx hb dX12_drawsFor_118 rfl (lv_at hl 0 rfl) ?_
      refine lv_aload_n (pc := 119) hx hb dX12_drawsFor_119 rfl (lv_at hl 1 rfl) ?_
      refine lv_aload_n (pc := 120) hx hb dX12_drawsFor_120 rfl (lv_at hl 1 rfl) ?_
      refine zr_getR (pc := 121) (t := 2) cx lk_X12_98 hP nM_0 sM_0 rfl dX12_drawsFor_121 ?_
      refine lv_iconst (pc := 124) hx hb dX12_drawsFor_124 zc_0 ?_
      obtain ⟨g13, h⟩ := zGd_e h
      refine zr_iald (pc := 125) cx hP nM_2 sM_2 g13 dX12_drawsFor_125 ?_
      obtain ⟨r16, S15, k14, h⟩ := zBp_e h
      refine zr_VQ (pc := 126) (rest := [.int r11, .int (2 : Int32), .ref (q 0)]) cx cv_X12_354 (mX12_draw hq k14) ⟨⟨rfl, rfl⟩, Nat.le_of_ble_eq_true rfl, Nat.le_of_ble_eq_true rfl⟩ ⟨Nat.le_of_ble_eq_true rfl, Nat.le_of_ble_eq_true rfl⟩ hP hS nM_0 sM_0 rfl hl.1 rfl rfl (Nat.le_of_ble_eq_true rfl) dX12_drawsFor_126 (fun H locs hP hS => ?_)
      refine lv_iconst (pc := 129) hx hb dX12_drawsFor_129 zc_0 ?_
      obtain ⟨S18, k17, h⟩ := zBd_e h
      refine zr_VV (pc := 130) (rest := []) cx cv_X12_282 (mX12_live hq k17) ⟨⟨rfl, rfl⟩, Nat.le_of_ble_eq_true rfl, Nat.le_of_ble_eq_true rfl⟩ ⟨Nat.le_of_ble_eq_true rfl, Nat.le_of_ble_eq_true rfl⟩ hP hS nM_0 sM_0 rfl hl.1 rfl rfl (Nat.le_of_ble_eq_true rfl) dX12_drawsFor_130 (fun H locs hP hS => ?_)
      have hz := Option.some.inj h
      exact zr_rqV (pc := 133) cx hr hlk hP hS hz dX12_drawsFor_133
    · replace h := zBr_t c12 h
      refine lv_aload_n (pc := 107) hx hb dX12_drawsFor_107 rfl (lv_at hl 1 rfl) ?_
      refine lv_iconst (pc := 108) hx hb dX12_drawsFor_108 zc_1 ?_
      refine lv_iload_n (pc := 109) hx hb dX12_drawsFor_109 rfl (lv_at hl 0 rfl) ?_
      refine lv_iconst (pc := 110) hx hb dX12_drawsFor_110 zc_0 ?_
      refine lv_iconst (pc := 111) hx hb dX12_drawsFor_111 zc_0 ?_
      obtain ⟨S20, k19, h⟩ := zBd_e h
      refine zr_VV (pc := 112) (rest := []) cx cv_X12_282 (mX12_live hq k19) ⟨⟨rfl, rfl⟩, Nat.le_of_ble_eq_true rfl, Nat.le_of_ble_eq_true rfl⟩ ⟨Nat.le_of_ble_eq_true rfl, Nat.le_of_ble_eq_true rfl⟩ hP hS nM_0 sM_0 rfl hl.1 rfl rfl (Nat.le_of_ble_eq_true rfl) dX12_drawsFor_112 (fun H locs hP hS => ?_)
      have hz := Option.some.inj h
      exact zr_rqV (pc := 115) cx hr hlk hP hS hz dX12_drawsFor_115
  · replace h := zBr_t c7 h
    have hz := Option.some.inj h
    exact zr_rqV (pc := 90) cx hr hlk hP hS hz dX12_drawsFor_90
def fX12_drawsFor_71 (S : zSt)  (v2 : Int32) : Option zSt :=
  zBr (v2 = (1 : Int32)) (fX12_drawsFor_81 S v2) (zBr (v2 = (2 : Int32)) (fX12_drawsFor_81 S v2) (some S))
set_option maxHeartbeats 4000000 in
set_option maxRecDepth 100000 in
theorem kX12_drawsFor_71 {p : Program} {l : Launch} {e : Env} {s : State} {m : MethodId} {args : Array Value} {below : List Frame} {meth : Method} {c : Code} {D : va_G} {cy : Nat → ClassId} {q : Nat → Nat} {A : Nat → Prop} (cx : zX RX12 cX12_drawsFor 5 p s m args c D cy) (hr : meth.sig.returnType = none) (hlk : meth.locks = false) (hq : zQ A q zNM) {z : zSt} {S : zSt} {v2 : Int32} (h : fX12_drawsFor_71 S v2 = some z) {H : Heap} {locs : List Loc} (hP : va_P D vwCl (zW zshM zNM cy q S) H) (hS : va_S A s.heap H locs) {ls : Array Slot} (hl : lv_has ls 5 [(0, .ref (q 0)), (2, .int v2)]) : W p l e rmX12_drawsFor s m args below meth c H locs 0 0 (MQ below (va_Qv (fun (u : zSt) => u = z) (fun u t => va_P D vwCl (zW zshM zNM cy q u) t.heap) A) args s 0 0 A) (F0 m 71 ls []) := by
  have hx := cx.1
  have hb := cx.2.1
  unfold fX12_drawsFor_71 at h
  refine lv_iload_n (pc := 71) hx hb dX12_drawsFor_71 rfl (lv_at hl 1 rfl) ?_
  refine lv_iconst (pc := 72) hx hb dX12_drawsFor_72 zc_1 ?_
  refine lv_icmp_eq (pc := 73) (tgt := 81) hx hb dX12_drawsFor_73 (by decide) (fun c5 => ?_) (fun c5 => ?_)
  · replace h := zBr_t c5 h
    exact kX12_drawsFor_81 cx hr hlk hq h hP hS (lv_sub hl [0, 1] rfl)
  · replace h := zBr_f c5 h
    refine lv_iload_n (pc := 76) hx hb dX12_drawsFor_76 rfl (lv_at hl 1 rfl) ?_
    refine lv_iconst (pc := 77) hx hb dX12_drawsFor_77 zc_2 ?_
    refine lv_icmp_ne (pc := 78) (tgt := 90) hx hb dX12_drawsFor_78 (by decide) (fun c21 => ?_) (fun c21 => ?_)
    · replace h := zBr_f c21 h
      have hz := Option.some.inj h
      exact zr_rqV (pc := 90) cx hr hlk hP hS hz dX12_drawsFor_90
    · replace h := zBr_t c21 h
      exact kX12_drawsFor_81 cx hr hlk hq h hP hS (lv_sub hl [0, 1] rfl)
def fX12_drawsFor (S : zSt) (v1 : Int32) : Option zSt :=
  zBp (fX12_draw S (6 : Int32)) (fun r3 S2 => zBr (r3 = 0) (zGd (zIx (3 : Int32) 406) (zBr ((S2.1 2 (3 : Int32).toNatClampNeg) ≤ 0) (fX12_drawsFor_71 S2 r3) (zGd (zIx (0 : Int32) 406) (zBr ((S2.1 2 (0 : Int32).toNatClampNeg) ≤ 0) (fX12_drawsFor_71 S2 r3) (zGd (zIx (3 : Int32) 406) (zBp (fX12_draw S2 (S2.1 2 (3 : Int32).toNatClampNeg)) (fun r29 S28 => zGd (zIx (0 : Int32) 406) (zBp (fX12_draw S28 (S28.1 2 (0 : Int32).toNatClampNeg)) (fun r33 S32 => zBd (fX12_why S32 (0 : Int32) v1 r29) (fun r35 => zBr (r35 = 0) (zBd (fX12_live S32 (0 : Int32) v1 r29 r33) (fun S38 => fX12_drawsFor_71 S38 r3)) (fX12_drawsFor_71 S32 r3))))))))))) (fX12_drawsFor_71 S2 r3))
set_option maxHeartbeats 4000000 in
set_option maxRecDepth 100000 in
theorem mX12_drawsFor {l : Launch} {D : va_G} {cy : Nat → ClassId} {q : Nat → Nat} {A : Nat → Prop} {S : zSt} {v1 : Int32} (hq : zQ A q zNM) {z : zSt} (h : fX12_drawsFor S v1 = some z) : zMv l yX12_drawsFor cX12_drawsFor 5 none rmX12_drawsFor [.ref (q 0), .int v1] zshM zNM D cy q A S z := by
  refine Met.ofW (cc := cX12_drawsFor) (maxL := 5) (ret := none) (by decide) rfl ?_
  intro p e s m args below meth c s₁ B hml hv
  obtain ⟨rfl, hP, hK⟩ := hv
  have cx : zX RX12 cX12_drawsFor 5 p s m ([.ref (q 0), .int v1]).toArray c D cy := ⟨B.exec, B.bytes, hml, findClass_of_methodNamed B.named, fun w hw => atoms_spec (ws := Cond.code yX12_drawsFor cX12_drawsFor 5 none :: zTB) B.pre w (List.mem_cons_of_mem _ hw), hK⟩
  have hx := cx.1
  have hb := cx.2.1
  have hr := B.returns
  have hlk := B.notSynchronized
  have hS : va_S A s.heap s.heap [] := va_S.rf
  have hl := lv_entry ([.ref (q 0), .int v1]) (n := 5) (Nat.le_of_ble_eq_true rfl)
  rw [lg_entry_eq]
  generalize (lg_sl ([.ref (q 0), .int v1]) ++ List.replicate (5 - (lg_sl ([.ref (q 0), .int v1])).length) Slot.unset).toArray = ls at hl ⊢
  have hl : lv_has ls 5 [(0, .ref (q 0)), (1, .int v1)] := hl
  unfold fX12_drawsFor at h
  refine lv_aload_n (pc := 0) hx hb dX12_drawsFor_0 rfl (lv_at hl 0 rfl) ?_
  refine lv_bipush (pc := 1) hx hb dX12_drawsFor_1 zb_6 ?_
  obtain ⟨r3, S2, k1, h⟩ := zBp_e h
  refine zr_VQ (pc := 3) (rest := []) cx cv_X12_354 (mX12_draw hq k1) ⟨⟨rfl, rfl⟩, Nat.le_of_ble_eq_true rfl, Nat.le_of_ble_eq_true rfl⟩ ⟨Nat.le_of_ble_eq_true rfl, Nat.le_of_ble_eq_true rfl⟩ hP hS nM_0 sM_0 rfl hl.1 rfl rfl (Nat.le_of_ble_eq_true rfl) dX12_drawsFor_3 (fun H locs hP hS => ?_)
  refine lv_istore_n (lv' := [(2, .int r3), (0, .ref (q 0)), (1, .int v1)]) (pc := 6) hx hb dX12_drawsFor_6 rfl hl (by decide) rfl (fun ls hl => ?_)
  refine lv_iload_n (pc := 7) hx hb dX12_drawsFor_7 rfl (lv_at hl 0 rfl) ?_
  refine lv_if_ne (pc := 8) (tgt := 71) hx hb dX12_drawsFor_8 (by decide) (fun c4 => ?_) (fun c4 => ?_)
  · replace h := zBr_f c4 h
    exact kX12_drawsFor_71 cx hr hlk hq h hP hS (lv_sub hl [1, 0] rfl)
  · replace h := zBr_t c4 h
    refine lv_aload_n (pc := 11) hx hb dX12_drawsFor_11 rfl (lv_at hl 1 rfl) ?_
    refine zr_getR (pc := 12) (t := 2) cx lk_X12_98 hP nM_0 sM_0 rfl dX12_drawsFor_12 ?_
    refine lv_iconst (pc := 15) hx hb dX12_drawsFor_15 zc_3 ?_
    obtain ⟨g22, h⟩ := zGd_e h
    refine zr_iald (pc := 16) cx hP nM_2 sM_2 g22 dX12_drawsFor_16 ?_
    refine lv_if_le (pc := 17) (tgt := 71) hx hb dX12_drawsFor_17 (by decide) (fun c23 => ?_) (fun c23 => ?_)
    · replace h := zBr_t c23 h
      exact kX12_drawsFor_71 cx hr hlk hq h hP hS (lv_sub hl [1, 0] rfl)
    · replace h := zBr_f c23 h
      refine lv_aload_n (pc := 20) hx hb dX12_drawsFor_20 rfl (lv_at hl 1 rfl) ?_
      refine zr_getR (pc := 21) (t := 2) cx lk_X12_98 hP nM_0 sM_0 rfl dX12_drawsFor_21 ?_
      refine lv_iconst (pc := 24) hx hb dX12_drawsFor_24 zc_0 ?_
      obtain ⟨g24, h⟩ := zGd_e h
      refine zr_iald (pc := 25) cx hP nM_2 sM_2 g24 dX12_drawsFor_25 ?_
      refine lv_if_le (pc := 26) (tgt := 71) hx hb dX12_drawsFor_26 (by decide) (fun c25 => ?_) (fun c25 => ?_)
      · replace h := zBr_t c25 h
        exact kX12_drawsFor_71 cx hr hlk hq h hP hS (lv_sub hl [1, 0] rfl)
      · replace h := zBr_f c25 h
        refine lv_aload_n (pc := 29) hx hb dX12_drawsFor_29 rfl (lv_at hl 1 rfl) ?_
        refine lv_aload_n (pc := 30) hx hb dX12_drawsFor_30 rfl (lv_at hl 1 rfl) ?_
        refine zr_getR (pc := 31) (t := 2) cx lk_X12_98 hP nM_0 sM_0 rfl dX12_drawsFor_31 ?_
        refine lv_iconst (pc := 34) hx hb dX12_drawsFor_34 zc_3 ?_
        obtain ⟨g26, h⟩ := zGd_e h
        refine zr_iald (pc := 35) cx hP nM_2 sM_2 g26 dX12_drawsFor_35 ?_
        obtain ⟨r29, S28, k27, h⟩ := zBp_e h
        refine zr_VQ (pc := 36) (rest := []) cx cv_X12_354 (mX12_draw hq k27) ⟨⟨rfl, rfl⟩, Nat.le_of_ble_eq_true rfl, Nat.le_of_ble_eq_true rfl⟩ ⟨Nat.le_of_ble_eq_true rfl, Nat.le_of_ble_eq_true rfl⟩ hP hS nM_0 sM_0 rfl hl.1 rfl rfl (Nat.le_of_ble_eq_true rfl) dX12_drawsFor_36 (fun H locs hP hS => ?_)
        refine lv_istore_n (lv' := [(3, .int r29), (2, .int r3), (0, .ref (q 0)), (1, .int v1)]) (pc := 39) hx hb dX12_drawsFor_39 rfl hl (by decide) rfl (fun ls hl => ?_)
        refine lv_aload_n (pc := 40) hx hb dX12_drawsFor_40 rfl (lv_at hl 2 rfl) ?_
        refine lv_aload_n (pc := 41) hx hb dX12_drawsFor_41 rfl (lv_at hl 2 rfl) ?_
        refine zr_getR (pc := 42) (t := 2) cx lk_X12_98 hP nM_0 sM_0 rfl dX12_drawsFor_42 ?_
        refine lv_iconst (pc := 45) hx hb dX12_drawsFor_45 zc_0 ?_
        obtain ⟨g30, h⟩ := zGd_e h
        refine zr_iald (pc := 46) cx hP nM_2 sM_2 g30 dX12_drawsFor_46 ?_
        obtain ⟨r33, S32, k31, h⟩ := zBp_e h
        refine zr_VQ (pc := 47) (rest := []) cx cv_X12_354 (mX12_draw hq k31) ⟨⟨rfl, rfl⟩, Nat.le_of_ble_eq_true rfl, Nat.le_of_ble_eq_true rfl⟩ ⟨Nat.le_of_ble_eq_true rfl, Nat.le_of_ble_eq_true rfl⟩ hP hS nM_0 sM_0 rfl hl.1 rfl rfl (Nat.le_of_ble_eq_true rfl) dX12_drawsFor_47 (fun H locs hP hS => ?_)
        refine lv_istore (lv' := [(4, .int r33), (3, .int r29), (2, .int r3), (0, .ref (q 0)), (1, .int v1)]) (pc := 50) hx hb dX12_drawsFor_50 hl (by decide) rfl (fun ls hl => ?_)
        refine lv_aload_n (pc := 52) hx hb dX12_drawsFor_52 rfl (lv_at hl 3 rfl) ?_
        refine lv_iconst (pc := 53) hx hb dX12_drawsFor_53 zc_0 ?_
        refine lv_iload_n (pc := 54) hx hb dX12_drawsFor_54 rfl (lv_at hl 4 rfl) ?_
        refine lv_iload_n (pc := 55) hx hb dX12_drawsFor_55 rfl (lv_at hl 1 rfl) ?_
        obtain ⟨r35, k34, h⟩ := zBd_e h
        refine zr_VI (pc := 56) (rest := []) cx cv_X12_275 (mX12_why k34) ⟨⟨rfl, rfl⟩, Nat.le_of_ble_eq_true rfl, Nat.le_of_ble_eq_true rfl⟩ ⟨Nat.le_of_ble_eq_true rfl, Nat.le_of_ble_eq_true rfl⟩ hP nM_0 sM_0 rfl hl.1 rfl rfl (Nat.le_of_ble_eq_true rfl) dX12_drawsFor_56 ?_
        refine lv_if_ne (pc := 59) (tgt := 71) hx hb dX12_drawsFor_59 (by decide) (fun c36 => ?_) (fun c36 => ?_)
        · replace h := zBr_f c36 h
          exact kX12_drawsFor_71 cx hr hlk hq h hP hS (lv_sub hl [3, 2] rfl)
        · replace h := zBr_t c36 h
          refine lv_aload_n (pc := 62) hx hb dX12_drawsFor_62 rfl (lv_at hl 3 rfl) ?_
          refine lv_iconst (pc := 63) hx hb dX12_drawsFor_63 zc_0 ?_
          refine lv_iload_n (pc := 64) hx hb dX12_drawsFor_64 rfl (lv_at hl 4 rfl) ?_
          refine lv_iload_n (pc := 65) hx hb dX12_drawsFor_65 rfl (lv_at hl 1 rfl) ?_
          refine lv_iload (pc := 66) hx hb dX12_drawsFor_66 (lv_at hl 0 rfl) ?_
          obtain ⟨S38, k37, h⟩ := zBd_e h
          refine zr_VV (pc := 68) (rest := []) cx cv_X12_282 (mX12_live hq k37) ⟨⟨rfl, rfl⟩, Nat.le_of_ble_eq_true rfl, Nat.le_of_ble_eq_true rfl⟩ ⟨Nat.le_of_ble_eq_true rfl, Nat.le_of_ble_eq_true rfl⟩ hP hS nM_0 sM_0 rfl hl.1 rfl rfl (Nat.le_of_ble_eq_true rfl) dX12_drawsFor_68 (fun H locs hP hS => ?_)
          exact kX12_drawsFor_71 cx hr hlk hq h hP hS (lv_sub hl [3, 2] rfl)
-- X12_drawDays
abbrev rmX12_drawDays : Room := { frames := 6, cells := 0, slots := 0, locals := 137 }
def fX12_drawDays_33  (v3 : Int32) (v4 : Int32) (t : (zSt × Int32)) : Option ((zSt × Int32) ⊕ ((zSt × Int32) ⊕ (Int32 × zSt))) :=
  match t with
  | (S, v5) => zGd (zIx (2 : Int32) 406) (zBr ((S.1 2 (2 : Int32).toNatClampNeg) ≤ v5) (zXr (zBd (fX12_oneDay S) (fun S11 => zLt (v4 + (1 : Int32)) (fun x12 => some (.inl (S11, x12)))))) (zBd (fX12_drawsFor S v5) (fun S14 => zLt (v5 + (1 : Int32)) (fun x15 => some (.inl (S14, x15))))))
set_option maxHeartbeats 4000000 in
set_option maxRecDepth 100000 in
theorem kX12_drawDays_33B {p : Program} {l : Launch} {e : Env} {s : State} {m : MethodId} {args : Array Value} {below : List Frame} {meth : Method} {c : Code} {D : va_G} {cy : Nat → ClassId} {q : Nat → Nat} {A : Nat → Prop} (cx : zX RX12 cX12_drawDays 6 p s m args c D cy) (hr : meth.sig.returnType = (some .int)) (hlk : meth.locks = false) (hq : zQ A q zNM) {z : (Int32 × zSt)} {S : zSt} {v3 : Int32} {v4 : Int32} {v5 : Int32} {C1 : ((zSt × Int32) ⊕ (Int32 × zSt)) → Prop} (hb1 : ∀ (S : zSt) (v4 : Int32), C1 (.inl (S, v4)) → ∀ (H : Heap) (locs : List Loc), va_P D vwCl (zW zshM zNM cy q S) H → va_S A s.heap H locs → ∀ (ls : Array Slot), lv_has ls 6 [(0, .ref (q 0)), (3, .int v3), (4, .int v4)] → W p l e rmX12_drawDays s m args below meth c H locs 0 0 (MQ below (va_Qi (fun (r : Int32) (u : zSt) => (r, u) = z) (fun u t => va_P D vwCl (zW zshM zNM cy q u) t.heap) A) args s 0 0 A) (F0 m 24 ls [])) (hx1 : ∀ a, C1 (.inr a) → a = z) {C2 : ((zSt × Int32) ⊕ ((zSt × Int32) ⊕ (Int32 × zSt))) → Prop} (hb2 : ∀ (S : zSt) (v5 : Int32), C2 (.inl (S, v5)) → ∀ (H : Heap) (locs : List Loc), va_P D vwCl (zW zshM zNM cy q S) H → va_S A s.heap H locs → ∀ (ls : Array Slot), lv_has ls 6 [(0, .ref (q 0)), (3, .int v3), (4, .int v4), (5, .int v5)] → W p l e rmX12_drawDays s m args below meth c H locs 0 0 (MQ below (va_Qi (fun (r : Int32) (u : zSt) => (r, u) = z) (fun u t => va_P D vwCl (zW zshM zNM cy q u) t.heap) A) args s 0 0 A) (F0 m 33 ls [])) (hx2 : ∀ a, C2 (.inr a) → C1 a) {x : ((zSt × Int32) ⊕ ((zSt × Int32) ⊕ (Int32 × zSt)))} (h : fX12_drawDays_33 v3 v4 (S, v5) = some x) (hc : C2 x) {H : Heap} {locs : List Loc} (hP : va_P D vwCl (zW zshM zNM cy q S) H) (hS : va_S A s.heap H locs) {ls : Array Slot} (hl : lv_has ls 6 [(0, .ref (q 0)), (3, .int v3), (4, .int v4), (5, .int v5)]) : W p l e rmX12_drawDays s m args below meth c H locs 0 0 (MQ below (va_Qi (fun (r : Int32) (u : zSt) => (r, u) = z) (fun u t => va_P D vwCl (zW zshM zNM cy q u) t.heap) A) args s 0 0 A) (F0 m 33 ls []) := by
  have hx := cx.1
  have hb := cx.2.1
  unfold fX12_drawDays_33 at h
  dsimp only at h
  refine lv_iload (pc := 33) hx hb dX12_drawDays_33 (lv_at hl 3 rfl) ?_
  refine lv_aload_n (pc := 35) hx hb dX12_drawDays_35 rfl (lv_at hl 0 rfl) ?_
  refine zr_getR (pc := 36) (t := 2) cx lk_X12_98 hP nM_0 sM_0 rfl dX12_drawDays_36 ?_
  refine lv_iconst (pc := 39) hx hb dX12_drawDays_39 zc_2 ?_
  obtain ⟨g7, h⟩ := zGd_e h
  refine zr_iald (pc := 40) cx hP nM_2 sM_2 g7 dX12_drawDays_40 ?_
  refine lv_icmp_ge (pc := 41) (tgt := 56) hx hb dX12_drawDays_41 (by decide) (fun c8 => ?_) (fun c8 => ?_)
  · replace h := zBr_t c8 h
    obtain ⟨y9, h, ex⟩ := zXr_e h
    have hc := hx2 y9 (by rw [ex] at hc; exact hc)
    refine lv_aload_n (pc := 56) hx hb dX12_drawDays_56 rfl (lv_at hl 0 rfl) ?_
    obtain ⟨S11, k10, h⟩ := zBd_e h
    refine zr_VV (pc := 57) (rest := []) cx cv_X12_299 (mX12_oneDay hq k10) ⟨⟨rfl, rfl⟩, Nat.le_of_ble_eq_true rfl, Nat.le_of_ble_eq_true rfl⟩ ⟨Nat.le_of_ble_eq_true rfl, Nat.le_of_ble_eq_true rfl⟩ hP hS nM_0 sM_0 rfl hl.1 rfl rfl (Nat.le_of_ble_eq_true rfl) dX12_drawDays_57 (fun H locs hP hS => ?_)
    obtain ⟨x12, ex12, h⟩ := zLt_e h
    refine lv_iinc (v := x12) (lv' := [(4, .int x12), (0, .ref (q 0)), (3, .int v3), (5, .int v5)]) (pc := 60) hx hb dX12_drawDays_60 hl (k := 2) rfl (by rw [zc_1]; exact ex12.symm) (by decide) rfl (fun ls hl => ?_)
    refine lv_goto (pc := 63) (tgt := 24) hx hb dX12_drawDays_63 (by decide) ?_
    cases h
    exact hb1 _ _ hc _ _ hP hS _ (lv_sub hl [1, 2, 0] rfl)
  · replace h := zBr_f c8 h
    refine lv_aload_n (pc := 44) hx hb dX12_drawDays_44 rfl (lv_at hl 0 rfl) ?_
    refine lv_iload (pc := 45) hx hb dX12_drawDays_45 (lv_at hl 3 rfl) ?_
    obtain ⟨S14, k13, h⟩ := zBd_e h
    refine zr_VV (pc := 47) (rest := []) cx cv_X12_357 (mX12_drawsFor hq k13) ⟨⟨rfl, rfl⟩, Nat.le_of_ble_eq_true rfl, Nat.le_of_ble_eq_true rfl⟩ ⟨Nat.le_of_ble_eq_true rfl, Nat.le_of_ble_eq_true rfl⟩ hP hS nM_0 sM_0 rfl hl.1 rfl rfl (Nat.le_of_ble_eq_true rfl) dX12_drawDays_47 (fun H locs hP hS => ?_)
    obtain ⟨x15, ex15, h⟩ := zLt_e h
    refine lv_iinc (v := x15) (lv' := [(5, .int x15), (0, .ref (q 0)), (3, .int v3), (4, .int v4)]) (pc := 50) hx hb dX12_drawDays_50 hl (k := 3) rfl (by rw [zc_1]; exact ex15.symm) (by decide) rfl (fun ls hl => ?_)
    refine lv_goto (pc := 53) (tgt := 33) hx hb dX12_drawDays_53 (by decide) ?_
    cases h
    exact hb2 _ _ hc _ _ hP hS _ (lv_sub hl [1, 2, 3, 0] rfl)
set_option maxHeartbeats 4000000 in
set_option maxRecDepth 100000 in
theorem kX12_drawDays_33 {p : Program} {l : Launch} {e : Env} {s : State} {m : MethodId} {args : Array Value} {below : List Frame} {meth : Method} {c : Code} {D : va_G} {cy : Nat → ClassId} {q : Nat → Nat} {A : Nat → Prop} (cx : zX RX12 cX12_drawDays 6 p s m args c D cy) (hr : meth.sig.returnType = (some .int)) (hlk : meth.locks = false) (hq : zQ A q zNM) {z : (Int32 × zSt)} {v3 : Int32} {v4 : Int32} {C1 : ((zSt × Int32) ⊕ (Int32 × zSt)) → Prop} (hb1 : ∀ (S : zSt) (v4 : Int32), C1 (.inl (S, v4)) → ∀ (H : Heap) (locs : List Loc), va_P D vwCl (zW zshM zNM cy q S) H → va_S A s.heap H locs → ∀ (ls : Array Slot), lv_has ls 6 [(0, .ref (q 0)), (3, .int v3), (4, .int v4)] → W p l e rmX12_drawDays s m args below meth c H locs 0 0 (MQ below (va_Qi (fun (r : Int32) (u : zSt) => (r, u) = z) (fun u t => va_P D vwCl (zW zshM zNM cy q u) t.heap) A) args s 0 0 A) (F0 m 24 ls [])) (hx1 : ∀ a, C1 (.inr a) → a = z) {xo : ((zSt × Int32) ⊕ (Int32 × zSt))} (hc : C1 xo) : ∀ (n : Nat) (S : zSt) (v5 : Int32), zLp (fX12_drawDays_33 v3 v4) n (S, v5) = some xo → ∀ (H : Heap) (locs : List Loc), va_P D vwCl (zW zshM zNM cy q S) H → va_S A s.heap H locs → ∀ (ls : Array Slot), lv_has ls 6 [(0, .ref (q 0)), (3, .int v3), (4, .int v4), (5, .int v5)] → W p l e rmX12_drawDays s m args below meth c H locs 0 0 (MQ below (va_Qi (fun (r : Int32) (u : zSt) => (r, u) = z) (fun u t => va_P D vwCl (zW zshM zNM cy q u) t.heap) A) args s 0 0 A) (F0 m 33 ls []) := by
  intro n
  induction n with
  | zero =>
    intro S v5 h
    cases h
  | succ n ih =>
    intro S v5 h H locs hP hS ls hl
    obtain ⟨x, h, hk⟩ := zLp_e h
    exact kX12_drawDays_33B cx hr hlk hq hb1 hx1 (C2 := zKt (fun t => zLp (fX12_drawDays_33 v3 v4) n t = some xo) (fun a => a = xo)) (fun S v5 ht H locs hP hS ls hl => ih S v5 ht H locs hP hS ls hl) (fun a ha => ha ▸ hc) h hk hP hS hl
def fX12_drawDays_24  (v3 : Int32) (t : (zSt × Int32)) : Option ((zSt × Int32) ⊕ (Int32 × zSt)) :=
  match t with
  | (S, v4) => zBr (v3 ≤ v4) (zXr (some (v3, S))) (zLp (fX12_drawDays_33 v3 v4) 2000 (S, (0 : Int32)))
set_option maxHeartbeats 4000000 in
set_option maxRecDepth 100000 in
theorem kX12_drawDays_24B {p : Program} {l : Launch} {e : Env} {s : State} {m : MethodId} {args : Array Value} {below : List Frame} {meth : Method} {c : Code} {D : va_G} {cy : Nat → ClassId} {q : Nat → Nat} {A : Nat → Prop} (cx : zX RX12 cX12_drawDays 6 p s m args c D cy) (hr : meth.sig.returnType = (some .int)) (hlk : meth.locks = false) (hq : zQ A q zNM) {z : (Int32 × zSt)} {S : zSt} {v3 : Int32} {v4 : Int32} {C1 : ((zSt × Int32) ⊕ (Int32 × zSt)) → Prop} (hb1 : ∀ (S : zSt) (v4 : Int32), C1 (.inl (S, v4)) → ∀ (H : Heap) (locs : List Loc), va_P D vwCl (zW zshM zNM cy q S) H → va_S A s.heap H locs → ∀ (ls : Array Slot), lv_has ls 6 [(0, .ref (q 0)), (3, .int v3), (4, .int v4)] → W p l e rmX12_drawDays s m args below meth c H locs 0 0 (MQ below (va_Qi (fun (r : Int32) (u : zSt) => (r, u) = z) (fun u t => va_P D vwCl (zW zshM zNM cy q u) t.heap) A) args s 0 0 A) (F0 m 24 ls [])) (hx1 : ∀ a, C1 (.inr a) → a = z) {x : ((zSt × Int32) ⊕ (Int32 × zSt))} (h : fX12_drawDays_24 v3 (S, v4) = some x) (hc : C1 x) {H : Heap} {locs : List Loc} (hP : va_P D vwCl (zW zshM zNM cy q S) H) (hS : va_S A s.heap H locs) {ls : Array Slot} (hl : lv_has ls 6 [(0, .ref (q 0)), (3, .int v3), (4, .int v4)]) : W p l e rmX12_drawDays s m args below meth c H locs 0 0 (MQ below (va_Qi (fun (r : Int32) (u : zSt) => (r, u) = z) (fun u t => va_P D vwCl (zW zshM zNM cy q u) t.heap) A) args s 0 0 A) (F0 m 24 ls []) := by
  have hx := cx.1
  have hb := cx.2.1
  unfold fX12_drawDays_24 at h
  dsimp only at h
  refine lv_iload (pc := 24) hx hb dX12_drawDays_24 (lv_at hl 2 rfl) ?_
  refine lv_iload_n (pc := 26) hx hb dX12_drawDays_26 rfl (lv_at hl 1 rfl) ?_
  refine lv_icmp_ge (pc := 27) (tgt := 66) hx hb dX12_drawDays_27 (by decide) (fun c5 => ?_) (fun c5 => ?_)
  · replace h := zBr_t c5 h
    obtain ⟨y6, h, ex⟩ := zXr_e h
    have hc := hx1 y6 (by rw [ex] at hc; exact hc)
    rw [hc] at h
    refine lv_iload_n (pc := 66) hx hb dX12_drawDays_66 rfl (lv_at hl 1 rfl) ?_
    have hz := Option.some.inj h
    exact zr_rqI (pc := 67) cx hr hlk hP hS hz dX12_drawDays_67
  · replace h := zBr_f c5 h
    refine lv_iconst (pc := 30) hx hb dX12_drawDays_30 zc_0 ?_
    refine lv_istore (lv' := [(5, .int (0 : Int32)), (0, .ref (q 0)), (3, .int v3), (4, .int v4)]) (pc := 31) hx hb dX12_drawDays_31 hl (by decide) rfl (fun ls hl => ?_)
    exact kX12_drawDays_33 cx hr hlk hq hb1 hx1 hc 2000 _ _ h _ _ hP hS _ (lv_sub hl [1, 2, 3, 0] rfl)
set_option maxHeartbeats 4000000 in
set_option maxRecDepth 100000 in
theorem kX12_drawDays_24 {p : Program} {l : Launch} {e : Env} {s : State} {m : MethodId} {args : Array Value} {below : List Frame} {meth : Method} {c : Code} {D : va_G} {cy : Nat → ClassId} {q : Nat → Nat} {A : Nat → Prop} (cx : zX RX12 cX12_drawDays 6 p s m args c D cy) (hr : meth.sig.returnType = (some .int)) (hlk : meth.locks = false) (hq : zQ A q zNM) {z : (Int32 × zSt)} {v3 : Int32} : ∀ (n : Nat) (S : zSt) (v4 : Int32), zLp (fX12_drawDays_24 v3) n (S, v4) = some z → ∀ (H : Heap) (locs : List Loc), va_P D vwCl (zW zshM zNM cy q S) H → va_S A s.heap H locs → ∀ (ls : Array Slot), lv_has ls 6 [(0, .ref (q 0)), (3, .int v3), (4, .int v4)] → W p l e rmX12_drawDays s m args below meth c H locs 0 0 (MQ below (va_Qi (fun (r : Int32) (u : zSt) => (r, u) = z) (fun u t => va_P D vwCl (zW zshM zNM cy q u) t.heap) A) args s 0 0 A) (F0 m 24 ls []) := by
  intro n
  induction n with
  | zero =>
    intro S v4 h
    cases h
  | succ n ih =>
    intro S v4 h H locs hP hS ls hl
    obtain ⟨x, h, hk⟩ := zLp_e h
    exact kX12_drawDays_24B cx hr hlk hq  (C1 := zKt (fun t => zLp (fX12_drawDays_24 v3) n t = some z) (fun a => a = z)) (fun S v4 ht H locs hP hS ls hl => ih S v4 ht H locs hP hS ls hl) (fun a ha => ha) h hk hP hS hl
def fX12_drawDays (S : zSt) (v1 : Int32) (v2 : Int32) : Option (Int32 × zSt) :=
  zLt (zI S 0 35 v2) (fun S1 => zGd (zIx (24 : Int32) 406) (zBd (fX12_least v1 ((400 : Int32) - (S1.1 2 (24 : Int32).toNatClampNeg))) (fun r4 => zLp (fX12_drawDays_24 r4) 2000 (S1, (0 : Int32)))))
set_option maxHeartbeats 4000000 in
set_option maxRecDepth 100000 in
theorem mX12_drawDays {l : Launch} {D : va_G} {cy : Nat → ClassId} {q : Nat → Nat} {A : Nat → Prop} {S : zSt} {v1 : Int32} {v2 : Int32} (hq : zQ A q zNM) {z : (Int32 × zSt)} (h : fX12_drawDays S v1 v2 = some z) : zMq l yX12_drawDays cX12_drawDays 6 (some .int) rmX12_drawDays [.ref (q 0), .int v1, .int v2] zshM zNM D cy q A S z := by
  refine Met.ofW (cc := cX12_drawDays) (maxL := 6) (ret := (some .int)) (by decide) rfl ?_
  intro p e s m args below meth c s₁ B hml hv
  obtain ⟨rfl, hP, hK⟩ := hv
  have cx : zX RX12 cX12_drawDays 6 p s m ([.ref (q 0), .int v1, .int v2]).toArray c D cy := ⟨B.exec, B.bytes, hml, findClass_of_methodNamed B.named, fun w hw => atoms_spec (ws := Cond.code yX12_drawDays cX12_drawDays 6 (some .int) :: zTB) B.pre w (List.mem_cons_of_mem _ hw), hK⟩
  have hx := cx.1
  have hb := cx.2.1
  have hr := B.returns
  have hlk := B.notSynchronized
  have hS : va_S A s.heap s.heap [] := va_S.rf
  have hl := lv_entry ([.ref (q 0), .int v1, .int v2]) (n := 6) (Nat.le_of_ble_eq_true rfl)
  rw [lg_entry_eq]
  generalize (lg_sl ([.ref (q 0), .int v1, .int v2]) ++ List.replicate (6 - (lg_sl ([.ref (q 0), .int v1, .int v2])).length) Slot.unset).toArray = ls at hl ⊢
  have hl : lv_has ls 6 [(0, .ref (q 0)), (1, .int v1), (2, .int v2)] := hl
  unfold fX12_drawDays at h
  refine lv_aload_n (pc := 0) hx hb dX12_drawDays_0 rfl (lv_at hl 0 rfl) ?_
  refine lv_iload_n (pc := 1) hx hb dX12_drawDays_1 rfl (lv_at hl 2 rfl) ?_
  obtain ⟨S1, eS1, h⟩ := zLt_e h
  refine zr_putI (pc := 2) cx lq_X12_350 hq hP hS nM_0 sM_0 rfl rfl rfl dX12_drawDays_2 (fun H locs hP hS => ?_)
  rw [← eS1] at hP
  refine lv_iload_n (pc := 5) hx hb dX12_drawDays_5 rfl (lv_at hl 1 rfl) ?_
  refine lv_sipush (pc := 6) hx hb dX12_drawDays_6 zs_400 ?_
  refine lv_aload_n (pc := 9) hx hb dX12_drawDays_9 rfl (lv_at hl 0 rfl) ?_
  refine zr_getR (pc := 10) (t := 2) cx lk_X12_98 hP nM_0 sM_0 rfl dX12_drawDays_10 ?_
  refine lv_bipush (pc := 13) hx hb dX12_drawDays_13 zb_24 ?_
  obtain ⟨g2, h⟩ := zGd_e h
  refine zr_iald (pc := 15) cx hP nM_2 sM_2 g2 dX12_drawDays_15 ?_
  refine lv_isub (pc := 16) hx hb dX12_drawDays_16 ?_
  obtain ⟨r4, k3, h⟩ := zBd_e h
  refine zr_SI (pc := 17) (rest := []) cx cv_X12_296 (mX12_least k3) ⟨⟨rfl, rfl⟩, Nat.le_of_ble_eq_true rfl, Nat.le_of_ble_eq_true rfl⟩ ⟨Nat.le_of_ble_eq_true rfl, Nat.le_of_ble_eq_true rfl⟩ (zr_preK cx) hl.1 rfl rfl (Nat.le_of_ble_eq_true rfl) dX12_drawDays_17 ?_
  refine lv_istore_n (lv' := [(3, .int r4), (0, .ref (q 0)), (1, .int v1), (2, .int v2)]) (pc := 20) hx hb dX12_drawDays_20 rfl hl (by decide) rfl (fun ls hl => ?_)
  refine lv_iconst (pc := 21) hx hb dX12_drawDays_21 zc_0 ?_
  refine lv_istore (lv' := [(4, .int (0 : Int32)), (3, .int r4), (0, .ref (q 0)), (1, .int v1), (2, .int v2)]) (pc := 22) hx hb dX12_drawDays_22 hl (by decide) rfl (fun ls hl => ?_)
  exact kX12_drawDays_24 cx hr hlk hq 2000 _ _ h _ _ hP hS _ (lv_sub hl [2, 1, 0] rfl)
-- X12_drawn
abbrev rmX12_drawn : Room := { frames := 7, cells := 0, slots := 0, locals := 162 }
def fX12_drawn (S : zSt) (v1 : Int32) (v2 : Int32) : Option (Int32 × zSt) :=
  zLt (zI S 0 0 (0 : Int32)) (fun S1 => zBd (fX12_isIn v1 (1 : Int32) (60 : Int32)) (fun r3 => zBr (r3 = 0) (some ((-1 : Int32), S1)) (zGd (zIx (24 : Int32) 406) (zBr ((S1.1 2 (24 : Int32).toNatClampNeg) = (400 : Int32)) (some ((0 : Int32), S1)) (zBd (fX12_snap S1) (fun S8 => zBp (fX12_drawDays S8 v1 v2) (fun r11 S10 => some (r11, S10))))))))
set_option maxHeartbeats 4000000 in
set_option maxRecDepth 100000 in
theorem mX12_drawn {l : Launch} {D : va_G} {cy : Nat → ClassId} {q : Nat → Nat} {A : Nat → Prop} {S : zSt} {v1 : Int32} {v2 : Int32} (hq : zQ A q zNM) {z : (Int32 × zSt)} (h : fX12_drawn S v1 v2 = some z) : zMq l yX12_drawn cX12_drawn 3 (some .int) rmX12_drawn [.ref (q 0), .int v1, .int v2] zshM zNM D cy q A S z := by
  refine Met.ofW (cc := cX12_drawn) (maxL := 3) (ret := (some .int)) (by decide) rfl ?_
  intro p e s m args below meth c s₁ B hml hv
  obtain ⟨rfl, hP, hK⟩ := hv
  have cx : zX RX12 cX12_drawn 3 p s m ([.ref (q 0), .int v1, .int v2]).toArray c D cy := ⟨B.exec, B.bytes, hml, findClass_of_methodNamed B.named, fun w hw => atoms_spec (ws := Cond.code yX12_drawn cX12_drawn 3 (some .int) :: zTB) B.pre w (List.mem_cons_of_mem _ hw), hK⟩
  have hx := cx.1
  have hb := cx.2.1
  have hr := B.returns
  have hlk := B.notSynchronized
  have hS : va_S A s.heap s.heap [] := va_S.rf
  have hl := lv_entry ([.ref (q 0), .int v1, .int v2]) (n := 3) (Nat.le_of_ble_eq_true rfl)
  rw [lg_entry_eq]
  generalize (lg_sl ([.ref (q 0), .int v1, .int v2]) ++ List.replicate (3 - (lg_sl ([.ref (q 0), .int v1, .int v2])).length) Slot.unset).toArray = ls at hl ⊢
  have hl : lv_has ls 3 [(0, .ref (q 0)), (1, .int v1), (2, .int v2)] := hl
  unfold fX12_drawn at h
  refine lv_aload_n (pc := 0) hx hb dX12_drawn_0 rfl (lv_at hl 0 rfl) ?_
  refine lv_iconst (pc := 1) hx hb dX12_drawn_1 zc_0 ?_
  obtain ⟨S1, eS1, h⟩ := zLt_e h
  refine zr_putI (pc := 2) cx lq_X12_1 hq hP hS nM_0 sM_0 rfl rfl rfl dX12_drawn_2 (fun H locs hP hS => ?_)
  rw [← eS1] at hP
  refine lv_iload_n (pc := 5) hx hb dX12_drawn_5 rfl (lv_at hl 1 rfl) ?_
  refine lv_iconst (pc := 6) hx hb dX12_drawn_6 zc_1 ?_
  refine lv_bipush (pc := 7) hx hb dX12_drawn_7 zb_60 ?_
  obtain ⟨r3, k2, h⟩ := zBd_e h
  refine zr_SI (pc := 9) (rest := []) cx cv_X12_75 (mX12_isIn k2) ⟨⟨rfl, rfl⟩, Nat.le_of_ble_eq_true rfl, Nat.le_of_ble_eq_true rfl⟩ ⟨Nat.le_of_ble_eq_true rfl, Nat.le_of_ble_eq_true rfl⟩ (zr_preK cx) hl.1 rfl rfl (Nat.le_of_ble_eq_true rfl) dX12_drawn_9 ?_
  refine lv_if_ne (pc := 12) (tgt := 17) hx hb dX12_drawn_12 (by decide) (fun c4 => ?_) (fun c4 => ?_)
  · replace h := zBr_f c4 h
    refine lv_aload_n (pc := 17) hx hb dX12_drawn_17 rfl (lv_at hl 0 rfl) ?_
    refine zr_getR (pc := 18) (t := 2) cx lk_X12_98 hP nM_0 sM_0 rfl dX12_drawn_18 ?_
    refine lv_bipush (pc := 21) hx hb dX12_drawn_21 zb_24 ?_
    obtain ⟨g5, h⟩ := zGd_e h
    refine zr_iald (pc := 23) cx hP nM_2 sM_2 g5 dX12_drawn_23 ?_
    refine lv_sipush (pc := 24) hx hb dX12_drawn_24 zs_400 ?_
    refine lv_icmp_ne (pc := 27) (tgt := 32) hx hb dX12_drawn_27 (by decide) (fun c6 => ?_) (fun c6 => ?_)
    · replace h := zBr_f c6 h
      refine lv_aload_n (pc := 32) hx hb dX12_drawn_32 rfl (lv_at hl 0 rfl) ?_
      obtain ⟨S8, k7, h⟩ := zBd_e h
      refine zr_VV (pc := 33) (rest := []) cx cv_X12_279 (mX12_snap hq k7) ⟨⟨rfl, rfl⟩, Nat.le_of_ble_eq_true rfl, Nat.le_of_ble_eq_true rfl⟩ ⟨Nat.le_of_ble_eq_true rfl, Nat.le_of_ble_eq_true rfl⟩ hP hS nM_0 sM_0 rfl hl.1 rfl rfl (Nat.le_of_ble_eq_true rfl) dX12_drawn_33 (fun H locs hP hS => ?_)
      refine lv_aload_n (pc := 36) hx hb dX12_drawn_36 rfl (lv_at hl 0 rfl) ?_
      refine lv_iload_n (pc := 37) hx hb dX12_drawn_37 rfl (lv_at hl 1 rfl) ?_
      refine lv_iload_n (pc := 38) hx hb dX12_drawn_38 rfl (lv_at hl 2 rfl) ?_
      obtain ⟨r11, S10, k9, h⟩ := zBp_e h
      refine zr_VQ (pc := 39) (rest := []) cx cv_X12_360 (mX12_drawDays hq k9) ⟨⟨rfl, rfl⟩, Nat.le_of_ble_eq_true rfl, Nat.le_of_ble_eq_true rfl⟩ ⟨Nat.le_of_ble_eq_true rfl, Nat.le_of_ble_eq_true rfl⟩ hP hS nM_0 sM_0 rfl hl.1 rfl rfl (Nat.le_of_ble_eq_true rfl) dX12_drawn_39 (fun H locs hP hS => ?_)
      have hz := Option.some.inj h
      exact zr_rqI (pc := 42) cx hr hlk hP hS hz dX12_drawn_42
    · replace h := zBr_t c6 h
      refine lv_iconst (pc := 30) hx hb dX12_drawn_30 zc_0 ?_
      have hz := Option.some.inj h
      exact zr_rqI (pc := 31) cx hr hlk hP hS hz dX12_drawn_31
  · replace h := zBr_t c4 h
    refine lv_iconst (pc := 15) hx hb dX12_drawn_15 zc_m1 ?_
    have hz := Option.some.inj h
    exact zr_rqI (pc := 16) cx hr hlk hP hS hz dX12_drawn_16
-- X12_shownBy
abbrev rmX12_shownBy : Room := { frames := 2, cells := 0, slots := 0, locals := 44 }
def fX12_shownBy_51 (S : zSt)  (v1 : Int32) (v2 : Int32) (v3 : Int32) (v4 : Int32) : Option ((Int32 × Int32) ⊕ Int32) :=
  zLt (v4 + (1 : Int32)) (fun x8 => some (.inl (v3, x8)))
set_option maxHeartbeats 4000000 in
set_option maxRecDepth 100000 in
theorem kX12_shownBy_51 {p : Program} {l : Launch} {e : Env} {s : State} {m : MethodId} {args : Array Value} {below : List Frame} {meth : Method} {c : Code} {D : va_G} {cy : Nat → ClassId} {q : Nat → Nat} (cx : zX RX12 cX12_shownBy 5 p s m args c D cy) (hr : meth.sig.returnType = (some .int)) (hlk : meth.locks = false) {z : Int32} {S : zSt} {v1 : Int32} {v2 : Int32} {v3 : Int32} {v4 : Int32} {C1 : ((Int32 × Int32) ⊕ Int32) → Prop} (hb1 : ∀ (v3 : Int32) (v4 : Int32), C1 (.inl (v3, v4)) → ∀ (ls : Array Slot), lv_has ls 5 [(0, .ref (q 0)), (1, .int v1), (2, .int v2), (3, .int v3), (4, .int v4)] → W p l e rmX12_shownBy s m args below meth c s.heap [] 0 0 (MQ below (vp_Si (fun x => x = z)) args s 0 0 (fun _ => False)) (F0 m 5 ls [])) (hx1 : ∀ a, C1 (.inr a) → a = z) (hP : va_P D vwCl (zW zshM zNM cy q S) s.heap) {x : ((Int32 × Int32) ⊕ Int32)} (h : fX12_shownBy_51 S v1 v2 v3 v4 = some x) (hc : C1 x) {ls : Array Slot} (hl : lv_has ls 5 [(0, .ref (q 0)), (1, .int v1), (2, .int v2), (3, .int v3), (4, .int v4)]) : W p l e rmX12_shownBy s m args below meth c s.heap [] 0 0 (MQ below (vp_Si (fun x => x = z)) args s 0 0 (fun _ => False)) (F0 m 51 ls []) := by
  have hx := cx.1
  have hb := cx.2.1
  unfold fX12_shownBy_51 at h
  obtain ⟨x8, ex8, h⟩ := zLt_e h
  refine lv_iinc (v := x8) (lv' := [(4, .int x8), (0, .ref (q 0)), (1, .int v1), (2, .int v2), (3, .int v3)]) (pc := 51) hx hb dX12_shownBy_51 hl (k := 4) rfl (by rw [zc_1]; exact ex8.symm) (by decide) rfl (fun ls hl => ?_)
  refine lv_goto (pc := 54) (tgt := 5) hx hb dX12_shownBy_54 (by decide) ?_
  cases h
  exact hb1 _ _ hc _ (lv_sub hl [1, 2, 3, 4, 0] rfl)
def fX12_shownBy_44 (S : zSt)  (v1 : Int32) (v2 : Int32) (v3 : Int32) (v4 : Int32) : Option ((Int32 × Int32) ⊕ Int32) :=
  zLt (v3 ||| ((1 : Int32) <<< (v4 &&& 31))) (fun x9 => fX12_shownBy_51 S v1 v2 x9 v4)
set_option maxHeartbeats 4000000 in
set_option maxRecDepth 100000 in
theorem kX12_shownBy_44 {p : Program} {l : Launch} {e : Env} {s : State} {m : MethodId} {args : Array Value} {below : List Frame} {meth : Method} {c : Code} {D : va_G} {cy : Nat → ClassId} {q : Nat → Nat} (cx : zX RX12 cX12_shownBy 5 p s m args c D cy) (hr : meth.sig.returnType = (some .int)) (hlk : meth.locks = false) {z : Int32} {S : zSt} {v1 : Int32} {v2 : Int32} {v3 : Int32} {v4 : Int32} {C1 : ((Int32 × Int32) ⊕ Int32) → Prop} (hb1 : ∀ (v3 : Int32) (v4 : Int32), C1 (.inl (v3, v4)) → ∀ (ls : Array Slot), lv_has ls 5 [(0, .ref (q 0)), (1, .int v1), (2, .int v2), (3, .int v3), (4, .int v4)] → W p l e rmX12_shownBy s m args below meth c s.heap [] 0 0 (MQ below (vp_Si (fun x => x = z)) args s 0 0 (fun _ => False)) (F0 m 5 ls [])) (hx1 : ∀ a, C1 (.inr a) → a = z) (hP : va_P D vwCl (zW zshM zNM cy q S) s.heap) {x : ((Int32 × Int32) ⊕ Int32)} (h : fX12_shownBy_44 S v1 v2 v3 v4 = some x) (hc : C1 x) {ls : Array Slot} (hl : lv_has ls 5 [(0, .ref (q 0)), (1, .int v1), (2, .int v2), (3, .int v3), (4, .int v4)]) : W p l e rmX12_shownBy s m args below meth c s.heap [] 0 0 (MQ below (vp_Si (fun x => x = z)) args s 0 0 (fun _ => False)) (F0 m 44 ls []) := by
  have hx := cx.1
  have hb := cx.2.1
  unfold fX12_shownBy_44 at h
  refine lv_iload_n (pc := 44) hx hb dX12_shownBy_44 rfl (lv_at hl 3 rfl) ?_
  refine lv_iconst (pc := 45) hx hb dX12_shownBy_45 zc_1 ?_
  refine lv_iload (pc := 46) hx hb dX12_shownBy_46 (lv_at hl 4 rfl) ?_
  refine lv_ishl (pc := 48) hx hb dX12_shownBy_48 ?_
  refine lv_ior (pc := 49) hx hb dX12_shownBy_49 ?_
  obtain ⟨x9, ex9, h⟩ := zLt_e h
  refine zr_nmI ex9 ?_
  refine lv_istore_n (lv' := [(3, .int x9), (0, .ref (q 0)), (1, .int v1), (2, .int v2), (4, .int v4)]) (pc := 50) hx hb dX12_shownBy_50 rfl hl (by decide) rfl (fun ls hl => ?_)
  exact kX12_shownBy_51 cx hr hlk hb1 hx1 hP h hc (lv_sub hl [1, 2, 3, 0, 4] rfl)
def fX12_shownBy_5 (S : zSt)  (v1 : Int32) (v2 : Int32) (t : (Int32 × Int32)) : Option ((Int32 × Int32) ⊕ Int32) :=
  match t with
  | (v3, v4) => zGd (zIx (25 : Int32) 406) (zBr ((S.1 2 (25 : Int32).toNatClampNeg) ≤ v4) (zXr (some v3)) (zBr (v2 = 0) (zBd (fX12_willCome S v1 v4) (fun r6 => zBr (r6 = 0) (fX12_shownBy_51 S v1 v2 v3 v4) (fX12_shownBy_44 S v1 v2 v3 v4))) (zBd (fX12_hasCome S v1 v4) (fun r11 => zBr (r11 = 0) (fX12_shownBy_51 S v1 v2 v3 v4) (fX12_shownBy_44 S v1 v2 v3 v4)))))
set_option maxHeartbeats 4000000 in
set_option maxRecDepth 100000 in
theorem kX12_shownBy_5B {p : Program} {l : Launch} {e : Env} {s : State} {m : MethodId} {args : Array Value} {below : List Frame} {meth : Method} {c : Code} {D : va_G} {cy : Nat → ClassId} {q : Nat → Nat} (cx : zX RX12 cX12_shownBy 5 p s m args c D cy) (hr : meth.sig.returnType = (some .int)) (hlk : meth.locks = false) {z : Int32} {S : zSt} {v1 : Int32} {v2 : Int32} {v3 : Int32} {v4 : Int32} {C1 : ((Int32 × Int32) ⊕ Int32) → Prop} (hb1 : ∀ (v3 : Int32) (v4 : Int32), C1 (.inl (v3, v4)) → ∀ (ls : Array Slot), lv_has ls 5 [(0, .ref (q 0)), (1, .int v1), (2, .int v2), (3, .int v3), (4, .int v4)] → W p l e rmX12_shownBy s m args below meth c s.heap [] 0 0 (MQ below (vp_Si (fun x => x = z)) args s 0 0 (fun _ => False)) (F0 m 5 ls [])) (hx1 : ∀ a, C1 (.inr a) → a = z) (hP : va_P D vwCl (zW zshM zNM cy q S) s.heap) {x : ((Int32 × Int32) ⊕ Int32)} (h : fX12_shownBy_5 S v1 v2 (v3, v4) = some x) (hc : C1 x) {ls : Array Slot} (hl : lv_has ls 5 [(0, .ref (q 0)), (1, .int v1), (2, .int v2), (3, .int v3), (4, .int v4)]) : W p l e rmX12_shownBy s m args below meth c s.heap [] 0 0 (MQ below (vp_Si (fun x => x = z)) args s 0 0 (fun _ => False)) (F0 m 5 ls []) := by
  have hx := cx.1
  have hb := cx.2.1
  unfold fX12_shownBy_5 at h
  dsimp only at h
  refine lv_iload (pc := 5) hx hb dX12_shownBy_5 (lv_at hl 4 rfl) ?_
  refine lv_aload_n (pc := 7) hx hb dX12_shownBy_7 rfl (lv_at hl 0 rfl) ?_
  refine zr_getR (pc := 8) (t := 2) cx lk_X12_98 hP nM_0 sM_0 rfl dX12_shownBy_8 ?_
  refine lv_bipush (pc := 11) hx hb dX12_shownBy_11 zb_25 ?_
  obtain ⟨g1, h⟩ := zGd_e h
  refine zr_iald (pc := 13) cx hP nM_2 sM_2 g1 dX12_shownBy_13 ?_
  refine lv_icmp_ge (pc := 14) (tgt := 57) hx hb dX12_shownBy_14 (by decide) (fun c2 => ?_) (fun c2 => ?_)
  · replace h := zBr_t c2 h
    obtain ⟨y3, h, ex⟩ := zXr_e h
    have hc := hx1 y3 (by rw [ex] at hc; exact hc)
    rw [hc] at h
    refine lv_iload_n (pc := 57) hx hb dX12_shownBy_57 rfl (lv_at hl 3 rfl) ?_
    have hz := Option.some.inj h
    exact zr_reI (pc := 58) cx hr hlk hz dX12_shownBy_58
  · replace h := zBr_f c2 h
    refine lv_iload_n (pc := 17) hx hb dX12_shownBy_17 rfl (lv_at hl 2 rfl) ?_
    refine lv_if_eq (pc := 18) (tgt := 34) hx hb dX12_shownBy_18 (by decide) (fun c4 => ?_) (fun c4 => ?_)
    · replace h := zBr_t c4 h
      refine lv_aload_n (pc := 34) hx hb dX12_shownBy_34 rfl (lv_at hl 0 rfl) ?_
      refine lv_iload_n (pc := 35) hx hb dX12_shownBy_35 rfl (lv_at hl 1 rfl) ?_
      refine lv_iload (pc := 36) hx hb dX12_shownBy_36 (lv_at hl 4 rfl) ?_
      obtain ⟨r6, k5, h⟩ := zBd_e h
      refine zr_VI (pc := 38) (rest := []) cx cv_X12_231 (mX12_willCome k5) ⟨⟨rfl, rfl⟩, Nat.le_of_ble_eq_true rfl, Nat.le_of_ble_eq_true rfl⟩ ⟨Nat.le_of_ble_eq_true rfl, Nat.le_of_ble_eq_true rfl⟩ hP nM_0 sM_0 rfl hl.1 rfl rfl (Nat.le_of_ble_eq_true rfl) dX12_shownBy_38 ?_
      refine lv_if_eq (pc := 41) (tgt := 51) hx hb dX12_shownBy_41 (by decide) (fun c7 => ?_) (fun c7 => ?_)
      · replace h := zBr_t c7 h
        exact kX12_shownBy_51 cx hr hlk hb1 hx1 hP h hc (lv_sub hl [0, 1, 2, 3, 4] rfl)
      · replace h := zBr_f c7 h
        exact kX12_shownBy_44 cx hr hlk hb1 hx1 hP h hc (lv_sub hl [0, 1, 2, 3, 4] rfl)
    · replace h := zBr_f c4 h
      refine lv_aload_n (pc := 21) hx hb dX12_shownBy_21 rfl (lv_at hl 0 rfl) ?_
      refine lv_iload_n (pc := 22) hx hb dX12_shownBy_22 rfl (lv_at hl 1 rfl) ?_
      refine lv_iload (pc := 23) hx hb dX12_shownBy_23 (lv_at hl 4 rfl) ?_
      obtain ⟨r11, k10, h⟩ := zBd_e h
      refine zr_VI (pc := 25) (rest := []) cx cv_X12_228 (mX12_hasCome k10) ⟨⟨rfl, rfl⟩, Nat.le_of_ble_eq_true rfl, Nat.le_of_ble_eq_true rfl⟩ ⟨Nat.le_of_ble_eq_true rfl, Nat.le_of_ble_eq_true rfl⟩ hP nM_0 sM_0 rfl hl.1 rfl rfl (Nat.le_of_ble_eq_true rfl) dX12_shownBy_25 ?_
      refine lv_if_eq (pc := 28) (tgt := 51) hx hb dX12_shownBy_28 (by decide) (fun c12 => ?_) (fun c12 => ?_)
      · replace h := zBr_t c12 h
        exact kX12_shownBy_51 cx hr hlk hb1 hx1 hP h hc (lv_sub hl [0, 1, 2, 3, 4] rfl)
      · replace h := zBr_f c12 h
        refine lv_goto (pc := 31) (tgt := 44) hx hb dX12_shownBy_31 (by decide) ?_
        exact kX12_shownBy_44 cx hr hlk hb1 hx1 hP h hc (lv_sub hl [0, 1, 2, 3, 4] rfl)
set_option maxHeartbeats 4000000 in
set_option maxRecDepth 100000 in
theorem kX12_shownBy_5 {p : Program} {l : Launch} {e : Env} {s : State} {m : MethodId} {args : Array Value} {below : List Frame} {meth : Method} {c : Code} {D : va_G} {cy : Nat → ClassId} {q : Nat → Nat} (cx : zX RX12 cX12_shownBy 5 p s m args c D cy) (hr : meth.sig.returnType = (some .int)) (hlk : meth.locks = false) {z : Int32} {S : zSt} {v1 : Int32} {v2 : Int32} (hP : va_P D vwCl (zW zshM zNM cy q S) s.heap) : ∀ (n : Nat) (v3 : Int32) (v4 : Int32), zLp (fX12_shownBy_5 S v1 v2) n (v3, v4) = some z → ∀ (ls : Array Slot), lv_has ls 5 [(0, .ref (q 0)), (1, .int v1), (2, .int v2), (3, .int v3), (4, .int v4)] → W p l e rmX12_shownBy s m args below meth c s.heap [] 0 0 (MQ below (vp_Si (fun x => x = z)) args s 0 0 (fun _ => False)) (F0 m 5 ls []) := by
  intro n
  induction n with
  | zero =>
    intro v3 v4 h
    cases h
  | succ n ih =>
    intro v3 v4 h ls hl
    obtain ⟨x, h, hk⟩ := zLp_e h
    exact kX12_shownBy_5B cx hr hlk  (C1 := zKt (fun t => zLp (fX12_shownBy_5 S v1 v2) n t = some z) (fun a => a = z)) (fun v3 v4 ht ls hl => ih v3 v4 ht ls hl) (fun a ha => ha) hP h hk hl
def fX12_shownBy (S : zSt) (v1 : Int32) (v2 : Int32) : Option Int32 :=
  zLp (fX12_shownBy_5 S v1 v2) 2000 ((0 : Int32), (0 : Int32))
set_option maxHeartbeats 4000000 in
set_option maxRecDepth 100000 in
theorem mX12_shownBy {l : Launch} {D : va_G} {cy : Nat → ClassId} {q : Nat → Nat} {S : zSt} {v1 : Int32} {v2 : Int32} {z : Int32} (h : fX12_shownBy S v1 v2 = some z) : zMi l yX12_shownBy cX12_shownBy 5 (some .int) rmX12_shownBy [.ref (q 0), .int v1, .int v2] (zPr zshM zNM D cy q S) z := by
  refine Met.ofW (cc := cX12_shownBy) (maxL := 5) (ret := (some .int)) (by decide) rfl ?_
  intro p e s m args below meth c s₁ B hml hv
  obtain ⟨rfl, hP, hK⟩ := hv
  have cx : zX RX12 cX12_shownBy 5 p s m ([.ref (q 0), .int v1, .int v2]).toArray c D cy := ⟨B.exec, B.bytes, hml, findClass_of_methodNamed B.named, fun w hw => atoms_spec (ws := Cond.code yX12_shownBy cX12_shownBy 5 (some .int) :: zTB) B.pre w (List.mem_cons_of_mem _ hw), hK⟩
  have hx := cx.1
  have hb := cx.2.1
  have hr := B.returns
  have hlk := B.notSynchronized
  have hl := lv_entry ([.ref (q 0), .int v1, .int v2]) (n := 5) (Nat.le_of_ble_eq_true rfl)
  rw [lg_entry_eq]
  generalize (lg_sl ([.ref (q 0), .int v1, .int v2]) ++ List.replicate (5 - (lg_sl ([.ref (q 0), .int v1, .int v2])).length) Slot.unset).toArray = ls at hl ⊢
  have hl : lv_has ls 5 [(0, .ref (q 0)), (1, .int v1), (2, .int v2)] := hl
  unfold fX12_shownBy at h
  refine lv_iconst (pc := 0) hx hb dX12_shownBy_0 zc_0 ?_
  refine lv_istore_n (lv' := [(3, .int (0 : Int32)), (0, .ref (q 0)), (1, .int v1), (2, .int v2)]) (pc := 1) hx hb dX12_shownBy_1 rfl hl (by decide) rfl (fun ls hl => ?_)
  refine lv_iconst (pc := 2) hx hb dX12_shownBy_2 zc_0 ?_
  refine lv_istore (lv' := [(4, .int (0 : Int32)), (3, .int (0 : Int32)), (0, .ref (q 0)), (1, .int v1), (2, .int v2)]) (pc := 3) hx hb dX12_shownBy_3 hl (by decide) rfl (fun ls hl => ?_)
  exact kX12_shownBy_5 cx hr hlk hP 2000 _ _ h _ (lv_sub hl [2, 3, 4, 1, 0] rfl)
-- X12_elder
abbrev rmX12_elder : Room := { frames := 3, cells := 0, slots := 0, locals := 68 }
def fX12_elder_46 (S : zSt)  (v1 : Int32) (v2 : Int32) (v3 : Int32) : Option ((Int32 × Int32 × Int32) ⊕ (Int32 × zSt)) :=
  zLt (v3 + (1 : Int32)) (fun x10 => some (.inl (v1, v2, x10)))
set_option maxHeartbeats 4000000 in
set_option maxRecDepth 100000 in
theorem kX12_elder_46 {p : Program} {l : Launch} {e : Env} {s : State} {m : MethodId} {args : Array Value} {below : List Frame} {meth : Method} {c : Code} {D : va_G} {cy : Nat → ClassId} {q : Nat → Nat} {A : Nat → Prop} (cx : zX RX12 cX12_elder 5 p s m args c D cy) (hr : meth.sig.returnType = (some .int)) (hlk : meth.locks = false) (hq : zQ A q zNM) {z : (Int32 × zSt)} {S : zSt} {v1 : Int32} {v2 : Int32} {v3 : Int32} {C1 : ((Int32 × Int32 × Int32) ⊕ (Int32 × zSt)) → Prop} (hb1 : ∀ (v1 : Int32) (v2 : Int32) (v3 : Int32), C1 (.inl (v1, v2, v3)) → ∀ (H : Heap) (locs : List Loc), va_P D vwCl (zW zshM zNM cy q S) H → va_S A s.heap H locs → ∀ (ls : Array Slot), lv_has ls 5 [(0, .ref (q 0)), (1, .int v1), (2, .int v2), (3, .int v3)] → W p l e rmX12_elder s m args below meth c H locs 0 0 (MQ below (va_Qi (fun (r : Int32) (u : zSt) => (r, u) = z) (fun u t => va_P D vwCl (zW zshM zNM cy q u) t.heap) A) args s 0 0 A) (F0 m 11 ls [])) (hx1 : ∀ a, C1 (.inr a) → a = z) {x : ((Int32 × Int32 × Int32) ⊕ (Int32 × zSt))} (h : fX12_elder_46 S v1 v2 v3 = some x) (hc : C1 x) {H : Heap} {locs : List Loc} (hP : va_P D vwCl (zW zshM zNM cy q S) H) (hS : va_S A s.heap H locs) {ls : Array Slot} (hl : lv_has ls 5 [(0, .ref (q 0)), (1, .int v1), (2, .int v2), (3, .int v3)]) : W p l e rmX12_elder s m args below meth c H locs 0 0 (MQ below (va_Qi (fun (r : Int32) (u : zSt) => (r, u) = z) (fun u t => va_P D vwCl (zW zshM zNM cy q u) t.heap) A) args s 0 0 A) (F0 m 46 ls []) := by
  have hx := cx.1
  have hb := cx.2.1
  unfold fX12_elder_46 at h
  obtain ⟨x10, ex10, h⟩ := zLt_e h
  refine lv_iinc (v := x10) (lv' := [(3, .int x10), (0, .ref (q 0)), (1, .int v1), (2, .int v2)]) (pc := 46) hx hb dX12_elder_46 hl (k := 3) rfl (by rw [zc_1]; exact ex10.symm) (by decide) rfl (fun ls hl => ?_)
  refine lv_goto (pc := 49) (tgt := 11) hx hb dX12_elder_49 (by decide) ?_
  cases h
  exact hb1 _ _ _ hc _ _ hP hS _ (lv_sub hl [1, 2, 3, 0] rfl)
def fX12_elder_11 (S : zSt)  (t : (Int32 × Int32 × Int32)) : Option ((Int32 × Int32 × Int32) ⊕ (Int32 × zSt)) :=
  match t with
  | (v1, v2, v3) => zGd (zIx (1 : Int32) 406) (zBr ((S.1 2 (1 : Int32).toNatClampNeg) ≤ v3) (zXr (some (v1, S))) (zBd (fX12_shownBy S v3 (1 : Int32)) (fun r6 => zBd (fX12_bits r6) (fun r8 => zBr (v2 < r8) (fX12_elder_46 S v3 r8 v3) (fX12_elder_46 S v1 v2 v3)))))
set_option maxHeartbeats 4000000 in
set_option maxRecDepth 100000 in
theorem kX12_elder_11B {p : Program} {l : Launch} {e : Env} {s : State} {m : MethodId} {args : Array Value} {below : List Frame} {meth : Method} {c : Code} {D : va_G} {cy : Nat → ClassId} {q : Nat → Nat} {A : Nat → Prop} (cx : zX RX12 cX12_elder 5 p s m args c D cy) (hr : meth.sig.returnType = (some .int)) (hlk : meth.locks = false) (hq : zQ A q zNM) {z : (Int32 × zSt)} {S : zSt} {v1 : Int32} {v2 : Int32} {v3 : Int32} {C1 : ((Int32 × Int32 × Int32) ⊕ (Int32 × zSt)) → Prop} (hb1 : ∀ (v1 : Int32) (v2 : Int32) (v3 : Int32), C1 (.inl (v1, v2, v3)) → ∀ (H : Heap) (locs : List Loc), va_P D vwCl (zW zshM zNM cy q S) H → va_S A s.heap H locs → ∀ (ls : Array Slot), lv_has ls 5 [(0, .ref (q 0)), (1, .int v1), (2, .int v2), (3, .int v3)] → W p l e rmX12_elder s m args below meth c H locs 0 0 (MQ below (va_Qi (fun (r : Int32) (u : zSt) => (r, u) = z) (fun u t => va_P D vwCl (zW zshM zNM cy q u) t.heap) A) args s 0 0 A) (F0 m 11 ls [])) (hx1 : ∀ a, C1 (.inr a) → a = z) {x : ((Int32 × Int32 × Int32) ⊕ (Int32 × zSt))} (h : fX12_elder_11 S (v1, v2, v3) = some x) (hc : C1 x) {H : Heap} {locs : List Loc} (hP : va_P D vwCl (zW zshM zNM cy q S) H) (hS : va_S A s.heap H locs) {ls : Array Slot} (hl : lv_has ls 5 [(0, .ref (q 0)), (1, .int v1), (2, .int v2), (3, .int v3)]) : W p l e rmX12_elder s m args below meth c H locs 0 0 (MQ below (va_Qi (fun (r : Int32) (u : zSt) => (r, u) = z) (fun u t => va_P D vwCl (zW zshM zNM cy q u) t.heap) A) args s 0 0 A) (F0 m 11 ls []) := by
  have hx := cx.1
  have hb := cx.2.1
  unfold fX12_elder_11 at h
  dsimp only at h
  refine lv_iload_n (pc := 11) hx hb dX12_elder_11 rfl (lv_at hl 3 rfl) ?_
  refine lv_aload_n (pc := 12) hx hb dX12_elder_12 rfl (lv_at hl 0 rfl) ?_
  refine zr_getR (pc := 13) (t := 2) cx lk_X12_98 hP nM_0 sM_0 rfl dX12_elder_13 ?_
  refine lv_iconst (pc := 16) hx hb dX12_elder_16 zc_1 ?_
  obtain ⟨g2, h⟩ := zGd_e h
  refine zr_iald (pc := 17) cx hP nM_2 sM_2 g2 dX12_elder_17 ?_
  refine lv_icmp_ge (pc := 18) (tgt := 52) hx hb dX12_elder_18 (by decide) (fun c3 => ?_) (fun c3 => ?_)
  · replace h := zBr_t c3 h
    obtain ⟨y4, h, ex⟩ := zXr_e h
    have hc := hx1 y4 (by rw [ex] at hc; exact hc)
    rw [hc] at h
    refine lv_iload_n (pc := 52) hx hb dX12_elder_52 rfl (lv_at hl 1 rfl) ?_
    have hz := Option.some.inj h
    exact zr_rqI (pc := 53) cx hr hlk hP hS hz dX12_elder_53
  · replace h := zBr_f c3 h
    refine lv_aload_n (pc := 21) hx hb dX12_elder_21 rfl (lv_at hl 0 rfl) ?_
    refine lv_iload_n (pc := 22) hx hb dX12_elder_22 rfl (lv_at hl 3 rfl) ?_
    refine lv_iconst (pc := 23) hx hb dX12_elder_23 zc_1 ?_
    obtain ⟨r6, k5, h⟩ := zBd_e h
    refine zr_VI (pc := 24) (rest := []) cx cv_X12_253 (mX12_shownBy k5) ⟨⟨rfl, rfl⟩, Nat.le_of_ble_eq_true rfl, Nat.le_of_ble_eq_true rfl⟩ ⟨Nat.le_of_ble_eq_true rfl, Nat.le_of_ble_eq_true rfl⟩ hP nM_0 sM_0 rfl hl.1 rfl rfl (Nat.le_of_ble_eq_true rfl) dX12_elder_24 ?_
    obtain ⟨r8, k7, h⟩ := zBd_e h
    refine zr_SI (pc := 27) (rest := []) cx cv_X12_238 (mX12_bits k7) ⟨⟨rfl, rfl⟩, Nat.le_of_ble_eq_true rfl, Nat.le_of_ble_eq_true rfl⟩ ⟨Nat.le_of_ble_eq_true rfl, Nat.le_of_ble_eq_true rfl⟩ (zr_preK cx) hl.1 rfl rfl (Nat.le_of_ble_eq_true rfl) dX12_elder_27 ?_
    refine lv_istore (lv' := [(4, .int r8), (0, .ref (q 0)), (1, .int v1), (2, .int v2), (3, .int v3)]) (pc := 30) hx hb dX12_elder_30 hl (by decide) rfl (fun ls hl => ?_)
    refine lv_iload (pc := 32) hx hb dX12_elder_32 (lv_at hl 0 rfl) ?_
    refine lv_iload_n (pc := 34) hx hb dX12_elder_34 rfl (lv_at hl 3 rfl) ?_
    refine lv_icmp_gt (pc := 35) (tgt := 41) hx hb dX12_elder_35 (by decide) (fun c9 => ?_) (fun c9 => ?_)
    · replace h := zBr_t c9 h
      refine lv_iload (pc := 41) hx hb dX12_elder_41 (lv_at hl 0 rfl) ?_
      refine lv_istore_n (lv' := [(2, .int r8), (4, .int r8), (0, .ref (q 0)), (1, .int v1), (3, .int v3)]) (pc := 43) hx hb dX12_elder_43 rfl hl (by decide) rfl (fun ls hl => ?_)
      refine lv_iload_n (pc := 44) hx hb dX12_elder_44 rfl (lv_at hl 4 rfl) ?_
      refine lv_istore_n (lv' := [(1, .int v3), (2, .int r8), (4, .int r8), (0, .ref (q 0)), (3, .int v3)]) (pc := 45) hx hb dX12_elder_45 rfl hl (by decide) rfl (fun ls hl => ?_)
      exact kX12_elder_46 cx hr hlk hq hb1 hx1 h hc hP hS (lv_sub hl [3, 0, 1, 4] rfl)
    · replace h := zBr_f c9 h
      refine lv_goto (pc := 38) (tgt := 46) hx hb dX12_elder_38 (by decide) ?_
      exact kX12_elder_46 cx hr hlk hq hb1 hx1 h hc hP hS (lv_sub hl [1, 2, 3, 4] rfl)
set_option maxHeartbeats 4000000 in
set_option maxRecDepth 100000 in
theorem kX12_elder_11 {p : Program} {l : Launch} {e : Env} {s : State} {m : MethodId} {args : Array Value} {below : List Frame} {meth : Method} {c : Code} {D : va_G} {cy : Nat → ClassId} {q : Nat → Nat} {A : Nat → Prop} (cx : zX RX12 cX12_elder 5 p s m args c D cy) (hr : meth.sig.returnType = (some .int)) (hlk : meth.locks = false) (hq : zQ A q zNM) {z : (Int32 × zSt)} {S : zSt} : ∀ (n : Nat) (v1 : Int32) (v2 : Int32) (v3 : Int32), zLp (fX12_elder_11 S) n (v1, v2, v3) = some z → ∀ (H : Heap) (locs : List Loc), va_P D vwCl (zW zshM zNM cy q S) H → va_S A s.heap H locs → ∀ (ls : Array Slot), lv_has ls 5 [(0, .ref (q 0)), (1, .int v1), (2, .int v2), (3, .int v3)] → W p l e rmX12_elder s m args below meth c H locs 0 0 (MQ below (va_Qi (fun (r : Int32) (u : zSt) => (r, u) = z) (fun u t => va_P D vwCl (zW zshM zNM cy q u) t.heap) A) args s 0 0 A) (F0 m 11 ls []) := by
  intro n
  induction n with
  | zero =>
    intro v1 v2 v3 h
    cases h
  | succ n ih =>
    intro v1 v2 v3 h H locs hP hS ls hl
    obtain ⟨x, h, hk⟩ := zLp_e h
    exact kX12_elder_11B cx hr hlk hq  (C1 := zKt (fun t => zLp (fX12_elder_11 S) n t = some z) (fun a => a = z)) (fun v1 v2 v3 ht H locs hP hS ls hl => ih v1 v2 v3 ht H locs hP hS ls hl) (fun a ha => ha) h hk hP hS hl
def fX12_elder (S : zSt) : Option (Int32 × zSt) :=
  zLt (zI S 0 0 (0 : Int32)) (fun S1 => zLp (fX12_elder_11 S1) 2000 ((-1 : Int32), (0 : Int32), (0 : Int32)))
set_option maxHeartbeats 4000000 in
set_option maxRecDepth 100000 in
theorem mX12_elder {l : Launch} {D : va_G} {cy : Nat → ClassId} {q : Nat → Nat} {A : Nat → Prop} {S : zSt} (hq : zQ A q zNM) {z : (Int32 × zSt)} (h : fX12_elder S = some z) : zMq l yX12_elder cX12_elder 5 (some .int) rmX12_elder [.ref (q 0)] zshM zNM D cy q A S z := by
  refine Met.ofW (cc := cX12_elder) (maxL := 5) (ret := (some .int)) (by decide) rfl ?_
  intro p e s m args below meth c s₁ B hml hv
  obtain ⟨rfl, hP, hK⟩ := hv
  have cx : zX RX12 cX12_elder 5 p s m ([.ref (q 0)]).toArray c D cy := ⟨B.exec, B.bytes, hml, findClass_of_methodNamed B.named, fun w hw => atoms_spec (ws := Cond.code yX12_elder cX12_elder 5 (some .int) :: zTB) B.pre w (List.mem_cons_of_mem _ hw), hK⟩
  have hx := cx.1
  have hb := cx.2.1
  have hr := B.returns
  have hlk := B.notSynchronized
  have hS : va_S A s.heap s.heap [] := va_S.rf
  have hl := lv_entry ([.ref (q 0)]) (n := 5) (Nat.le_of_ble_eq_true rfl)
  rw [lg_entry_eq]
  generalize (lg_sl ([.ref (q 0)]) ++ List.replicate (5 - (lg_sl ([.ref (q 0)])).length) Slot.unset).toArray = ls at hl ⊢
  have hl : lv_has ls 5 [(0, .ref (q 0))] := hl
  unfold fX12_elder at h
  refine lv_aload_n (pc := 0) hx hb dX12_elder_0 rfl (lv_at hl 0 rfl) ?_
  refine lv_iconst (pc := 1) hx hb dX12_elder_1 zc_0 ?_
  obtain ⟨S1, eS1, h⟩ := zLt_e h
  refine zr_putI (pc := 2) cx lq_X12_1 hq hP hS nM_0 sM_0 rfl rfl rfl dX12_elder_2 (fun H locs hP hS => ?_)
  rw [← eS1] at hP
  refine lv_iconst (pc := 5) hx hb dX12_elder_5 zc_m1 ?_
  refine lv_istore_n (lv' := [(1, .int (-1 : Int32)), (0, .ref (q 0))]) (pc := 6) hx hb dX12_elder_6 rfl hl (by decide) rfl (fun ls hl => ?_)
  refine lv_iconst (pc := 7) hx hb dX12_elder_7 zc_0 ?_
  refine lv_istore_n (lv' := [(2, .int (0 : Int32)), (1, .int (-1 : Int32)), (0, .ref (q 0))]) (pc := 8) hx hb dX12_elder_8 rfl hl (by decide) rfl (fun ls hl => ?_)
  refine lv_iconst (pc := 9) hx hb dX12_elder_9 zc_0 ?_
  refine lv_istore_n (lv' := [(3, .int (0 : Int32)), (2, .int (0 : Int32)), (1, .int (-1 : Int32)), (0, .ref (q 0))]) (pc := 10) hx hb dX12_elder_10 rfl hl (by decide) rfl (fun ls hl => ?_)
  exact kX12_elder_11 cx hr hlk hq 2000 _ _ _ h _ _ hP hS _ (lv_sub hl [3, 2, 1, 0] rfl)
-- X12_end
abbrev rmX12_end : Room := { frames := 0, cells := 0, slots := 0, locals := 0 }
def fX12_end (S : zSt) (v1 : Int32) : Option (Int32 × zSt) :=
  zLt (zI S 0 0 (0 : Int32)) (fun S1 => zBr (v1 < 0) (some ((0 : Int32), S1)) (zBr (v1 ≤ (S1.1 0 2)) (zLt (zI S1 0 2 v1) (fun S4 => some ((1 : Int32), S4))) (some ((0 : Int32), S1))))
set_option maxHeartbeats 4000000 in
set_option maxRecDepth 100000 in
theorem mX12_end {l : Launch} {D : va_G} {cy : Nat → ClassId} {q : Nat → Nat} {A : Nat → Prop} {S : zSt} {v1 : Int32} (hq : zQ A q zNM) {z : (Int32 × zSt)} (h : fX12_end S v1 = some z) : zMq l yX12_end cX12_end 2 (some .boolean) rmX12_end [.ref (q 0), .int v1] zshM zNM D cy q A S z := by
  refine Met.ofW (cc := cX12_end) (maxL := 2) (ret := (some .boolean)) (by decide) rfl ?_
  intro p e s m args below meth c s₁ B hml hv
  obtain ⟨rfl, hP, hK⟩ := hv
  have cx : zX RX12 cX12_end 2 p s m ([.ref (q 0), .int v1]).toArray c D cy := ⟨B.exec, B.bytes, hml, findClass_of_methodNamed B.named, fun w hw => atoms_spec (ws := Cond.code yX12_end cX12_end 2 (some .boolean) :: zTB) B.pre w (List.mem_cons_of_mem _ hw), hK⟩
  have hx := cx.1
  have hb := cx.2.1
  have hr := B.returns
  have hlk := B.notSynchronized
  have hS : va_S A s.heap s.heap [] := va_S.rf
  have hl := lv_entry ([.ref (q 0), .int v1]) (n := 2) (Nat.le_of_ble_eq_true rfl)
  rw [lg_entry_eq]
  generalize (lg_sl ([.ref (q 0), .int v1]) ++ List.replicate (2 - (lg_sl ([.ref (q 0), .int v1])).length) Slot.unset).toArray = ls at hl ⊢
  have hl : lv_has ls 2 [(0, .ref (q 0)), (1, .int v1)] := hl
  unfold fX12_end at h
  refine lv_aload_n (pc := 0) hx hb dX12_end_0 rfl (lv_at hl 0 rfl) ?_
  refine lv_iconst (pc := 1) hx hb dX12_end_1 zc_0 ?_
  obtain ⟨S1, eS1, h⟩ := zLt_e h
  refine zr_putI (pc := 2) cx lq_X12_1 hq hP hS nM_0 sM_0 rfl rfl rfl dX12_end_2 (fun H locs hP hS => ?_)
  rw [← eS1] at hP
  refine lv_iload_n (pc := 5) hx hb dX12_end_5 rfl (lv_at hl 1 rfl) ?_
  refine lv_if_lt (pc := 6) (tgt := 17) hx hb dX12_end_6 (by decide) (fun c2 => ?_) (fun c2 => ?_)
  · replace h := zBr_t c2 h
    refine lv_iconst (pc := 17) hx hb dX12_end_17 zc_0 ?_
    have hz := Option.some.inj h
    exact zr_rqZ (pc := 18) cx hr hlk hP hS hz (by decide) dX12_end_18
  · replace h := zBr_f c2 h
    refine lv_iload_n (pc := 9) hx hb dX12_end_9 rfl (lv_at hl 1 rfl) ?_
    refine lv_aload_n (pc := 10) hx hb dX12_end_10 rfl (lv_at hl 0 rfl) ?_
    refine zr_getI (pc := 11) cx lk_X12_11 hP nM_0 sM_0 rfl dX12_end_11 ?_
    refine lv_icmp_le (pc := 14) (tgt := 19) hx hb dX12_end_14 (by decide) (fun c3 => ?_) (fun c3 => ?_)
    · replace h := zBr_t c3 h
      refine lv_aload_n (pc := 19) hx hb dX12_end_19 rfl (lv_at hl 0 rfl) ?_
      refine lv_iload_n (pc := 20) hx hb dX12_end_20 rfl (lv_at hl 1 rfl) ?_
      obtain ⟨S4, eS4, h⟩ := zLt_e h
      refine zr_putI (pc := 21) cx lq_X12_11 hq hP hS nM_0 sM_0 rfl rfl rfl dX12_end_21 (fun H locs hP hS => ?_)
      rw [← eS4] at hP
      refine lv_iconst (pc := 24) hx hb dX12_end_24 zc_1 ?_
      have hz := Option.some.inj h
      exact zr_rqZ (pc := 25) cx hr hlk hP hS hz (by decide) dX12_end_25
    · replace h := zBr_f c3 h
      refine lv_iconst (pc := 17) hx hb dX12_end_17 zc_0 ?_
      have hz := Option.some.inj h
      exact zr_rqZ (pc := 18) cx hr hlk hP hS hz (by decide) dX12_end_18
