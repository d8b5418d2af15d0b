theorem wd_1481 : (Jvm.Cond.methodLink "ParlourLeavesModel" (157 : Nat) ({ cls := "ParlourLeavesModel", name := "startSo", desc := "()V" } : Jvm.MethodName)) ∈ zTB := List.mem_filter.mpr ⟨List.mem_append_right _ (List.mem_append_right _ (List.mem_append_right _ (List.mem_append_right _ (List.mem_append_right _ (List.mem_append_right _ (List.mem_append_right _ (List.mem_append_left _ (List.mem_of_getElem? (i := 41) rfl)))))))), rfl⟩
theorem wd_1483 : (Jvm.Cond.instanceMethod ({ cls := "ParlourLeavesModel", name := "startSo", desc := "()V" } : Jvm.MethodName)) ∈ zTB := List.mem_filter.mpr ⟨List.mem_append_right _ (List.mem_append_right _ (List.mem_append_right _ (List.mem_append_right _ (List.mem_append_right _ (List.mem_append_right _ (List.mem_append_right _ (List.mem_append_left _ (List.mem_of_getElem? (i := 43) rfl)))))))), rfl⟩
theorem wd_1484 : (Jvm.Cond.code ({ cls := "ParlourLeavesModel", name := "startSo", desc := "()V" } : Jvm.MethodName) prog_14_method_27_code (2 : Nat) (Option.none : Option Jvm.ClassFile.FieldType)) ∈ zTB := List.mem_filter.mpr ⟨List.mem_append_right _ (List.mem_append_right _ (List.mem_append_right _ (List.mem_append_right _ (List.mem_append_right _ (List.mem_append_right _ (List.mem_append_right _ (List.mem_append_left _ (List.mem_of_getElem? (i := 44) rfl)))))))), rfl⟩
theorem wd_1501 : (Jvm.Cond.fieldLink "ParlourLeavesModel" (104 : Nat) "ParlourLeavesModel" "kept" "[I") ∈ zTB := List.mem_filter.mpr ⟨List.mem_append_right _ (List.mem_append_right _ (List.mem_append_right _ (List.mem_append_right _ (List.mem_append_right _ (List.mem_append_right _ (List.mem_append_right _ (List.mem_append_left _ (List.mem_of_getElem? (i := 61) rfl)))))))), rfl⟩
theorem wd_1506 : (Jvm.Cond.fieldLink "ParlourLeavesModel" (120 : Nat) "ParlourLeavesModel" "keptName" "[J") ∈ zTB := List.mem_filter.mpr ⟨List.mem_append_right _ (List.mem_append_right _ (List.mem_append_right _ (List.mem_append_right _ (List.mem_append_right _ (List.mem_append_right _ (List.mem_append_right _ (List.mem_append_left _ (List.mem_of_getElem? (i := 66) rfl)))))))), rfl⟩
theorem wd_1507 : (Jvm.Cond.fieldLink "ParlourLeavesModel" (123 : Nat) "ParlourLeavesModel" "isKept" "[Z") ∈ zTB := List.mem_filter.mpr ⟨List.mem_append_right _ (List.mem_append_right _ (List.mem_append_right _ (List.mem_append_right _ (List.mem_append_right _ (List.mem_append_right _ (List.mem_append_right _ (List.mem_append_left _ (List.mem_of_getElem? (i := 67) rfl)))))))), rfl⟩
theorem wd_1512 : (Jvm.Cond.fieldLink "ParlourLeavesModel" (136 : Nat) "ParlourLeavesModel" "steps" "[I") ∈ zTB := List.mem_filter.mpr ⟨List.mem_append_right _ (List.mem_append_right _ (List.mem_append_right _ (List.mem_append_right _ (List.mem_append_right _ (List.mem_append_right _ (List.mem_append_right _ (List.mem_append_left _ (List.mem_of_getElem? (i := 72) rfl)))))))), rfl⟩
theorem wd_1525 : (Jvm.Cond.fieldLink "ParlourLeavesModel" (154 : Nat) "ParlourLeavesModel" "node" "[I") ∈ zTB := List.mem_filter.mpr ⟨List.mem_append_right _ (List.mem_append_right _ (List.mem_append_right _ (List.mem_append_right _ (List.mem_append_right _ (List.mem_append_right _ (List.mem_append_right _ (List.mem_append_left _ (List.mem_of_getElem? (i := 85) rfl)))))))), rfl⟩
theorem wd_1526 : (Jvm.Cond.fieldLink "ParlourLeavesModel" (403 : Nat) "ParlourLeavesModel" "nodes" "I") ∈ zTB := List.mem_filter.mpr ⟨List.mem_append_right _ (List.mem_append_right _ (List.mem_append_right _ (List.mem_append_right _ (List.mem_append_right _ (List.mem_append_right _ (List.mem_append_right _ (List.mem_append_left _ (List.mem_of_getElem? (i := 86) rfl)))))))), rfl⟩
theorem wd_1529 : (Jvm.Cond.fieldLink "ParlourLeavesModel" (409 : Nat) "ParlourLeavesModel" "top" "I") ∈ zTB := List.mem_filter.mpr ⟨List.mem_append_right _ (List.mem_append_right _ (List.mem_append_right _ (List.mem_append_right _ (List.mem_append_right _ (List.mem_append_right _ (List.mem_append_right _ (List.mem_append_left _ (List.mem_of_getElem? (i := 89) rfl)))))))), rfl⟩
theorem wd_1649 : (Jvm.Cond.methodLink "ParlourLeavesModel" (209 : Nat) ({ cls := "ParlourLeavesModel", name := "readLine", desc := "()Z" } : Jvm.MethodName)) ∈ zTB := List.mem_filter.mpr ⟨List.mem_append_right _ (List.mem_append_right _ (List.mem_append_right _ (List.mem_append_right _ (List.mem_append_right _ (List.mem_append_right _ (List.mem_append_right _ (List.mem_append_left _ (List.mem_of_getElem? (i := 209) rfl)))))))), rfl⟩
theorem wd_1651 : (Jvm.Cond.instanceMethod ({ cls := "ParlourLeavesModel", name := "readLine", desc := "()Z" } : Jvm.MethodName)) ∈ zTB := List.mem_filter.mpr ⟨List.mem_append_right _ (List.mem_append_right _ (List.mem_append_right _ (List.mem_append_right _ (List.mem_append_right _ (List.mem_append_right _ (List.mem_append_right _ (List.mem_append_left _ (List.mem_of_getElem? (i := 211) rfl)))))))), rfl⟩
theorem wd_1652 : (Jvm.Cond.code ({ cls := "ParlourLeavesModel", name := "readLine", desc := "()Z" } : Jvm.MethodName) prog_14_method_38_code (1 : Nat) (Option.some Jvm.ClassFile.FieldType.boolean)) ∈ zTB := List.mem_filter.mpr ⟨List.mem_append_right _ (List.mem_append_right _ (List.mem_append_right _ (List.mem_append_right _ (List.mem_append_right _ (List.mem_append_right _ (List.mem_append_right _ (List.mem_append_left _ (List.mem_of_getElem? (i := 212) rfl)))))))), rfl⟩
theorem wd_1926 : (Jvm.Cond.methodLink "ParlourLeavesModel" (311 : Nat) ({ cls := "ParlourLeavesModel", name := "cellOf", desc := "(II)I" } : Jvm.MethodName)) ∈ zTB := List.mem_filter.mpr ⟨List.mem_append_right _ (List.mem_append_right _ (List.mem_append_right _ (List.mem_append_right _ (List.mem_append_right _ (List.mem_append_right _ (List.mem_append_right _ (List.mem_append_right _ (List.mem_append_right _ (List.mem_of_getElem? (i := 6) rfl))))))))), rfl⟩
theorem wd_1927 : (Jvm.Cond.static ({ cls := "ParlourLeavesModel", name := "cellOf", desc := "(II)I" } : Jvm.MethodName)) ∈ zTB := List.mem_filter.mpr ⟨List.mem_append_right _ (List.mem_append_right _ (List.mem_append_right _ (List.mem_append_right _ (List.mem_append_right _ (List.mem_append_right _ (List.mem_append_right _ (List.mem_append_right _ (List.mem_append_right _ (List.mem_of_getElem? (i := 7) rfl))))))))), rfl⟩
theorem wd_1928 : (Jvm.Cond.code ({ cls := "ParlourLeavesModel", name := "cellOf", desc := "(II)I" } : Jvm.MethodName) prog_14_method_84_code (2 : Nat) (Option.some Jvm.ClassFile.FieldType.int)) ∈ zTB := List.mem_filter.mpr ⟨List.mem_append_right _ (List.mem_append_right _ (List.mem_append_right _ (List.mem_append_right _ (List.mem_append_right _ (List.mem_append_right _ (List.mem_append_right _ (List.mem_append_right _ (List.mem_append_right _ (List.mem_of_getElem? (i := 8) rfl))))))))), rfl⟩
theorem wd_2002 : (Jvm.Cond.methodLink "ParlourLeavesModel" (366 : Nat) ({ cls := "ParlourLeavesModel", name := "isProvedOf", desc := "(I)Z" } : Jvm.MethodName)) ∈ zTB := List.mem_filter.mpr ⟨List.mem_append_right _ (List.mem_append_right _ (List.mem_append_right _ (List.mem_append_right _ (List.mem_append_right _ (List.mem_append_right _ (List.mem_append_right _ (List.mem_append_right _ (List.mem_append_right _ (List.mem_of_getElem? (i := 82) rfl))))))))), rfl⟩
theorem wd_2004 : (Jvm.Cond.instanceMethod ({ cls := "ParlourLeavesModel", name := "isProvedOf", desc := "(I)Z" } : Jvm.MethodName)) ∈ zTB := List.mem_filter.mpr ⟨List.mem_append_right _ (List.mem_append_right _ (List.mem_append_right _ (List.mem_append_right _ (List.mem_append_right _ (List.mem_append_right _ (List.mem_append_right _ (List.mem_append_right _ (List.mem_append_right _ (List.mem_of_getElem? (i := 84) rfl))))))))), rfl⟩
theorem wd_2005 : (Jvm.Cond.code ({ cls := "ParlourLeavesModel", name := "isProvedOf", desc := "(I)Z" } : Jvm.MethodName) prog_14_method_105_code (3 : Nat) (Option.some Jvm.ClassFile.FieldType.boolean)) ∈ zTB := List.mem_filter.mpr ⟨List.mem_append_right _ (List.mem_append_right _ (List.mem_append_right _ (List.mem_append_right _ (List.mem_append_right _ (List.mem_append_right _ (List.mem_append_right _ (List.mem_append_right _ (List.mem_append_right _ (List.mem_of_getElem? (i := 85) rfl))))))))), rfl⟩
theorem wd_2074 : (Jvm.Cond.methodLink "ParlourLeavesModel" (412 : Nat) ({ cls := "ParlourLeavesModel", name := "saysOne", desc := "(IIII)I" } : Jvm.MethodName)) ∈ zTB := List.mem_filter.mpr ⟨List.mem_append_right _ (List.mem_append_right _ (List.mem_append_right _ (List.mem_append_right _ (List.mem_append_right _ (List.mem_append_right _ (List.mem_append_right _ (List.mem_append_right _ (List.mem_append_right _ (List.mem_of_getElem? (i := 154) rfl))))))))), rfl⟩
theorem wd_2076 : (Jvm.Cond.instanceMethod ({ cls := "ParlourLeavesModel", name := "saysOne", desc := "(IIII)I" } : Jvm.MethodName)) ∈ zTB := List.mem_filter.mpr ⟨List.mem_append_right _ (List.mem_append_right _ (List.mem_append_right _ (List.mem_append_right _ (List.mem_append_right _ (List.mem_append_right _ (List.mem_append_right _ (List.mem_append_right _ (List.mem_append_right _ (List.mem_of_getElem? (i := 156) rfl))))))))), rfl⟩
theorem wd_2077 : (Jvm.Cond.code ({ cls := "ParlourLeavesModel", name := "saysOne", desc := "(IIII)I" } : Jvm.MethodName) prog_14_method_118_code (6 : Nat) (Option.some Jvm.ClassFile.FieldType.int)) ∈ zTB := List.mem_filter.mpr ⟨List.mem_append_right _ (List.mem_append_right _ (List.mem_append_right _ (List.mem_append_right _ (List.mem_append_right _ (List.mem_append_right _ (List.mem_append_right _ (List.mem_append_right _ (List.mem_append_right _ (List.mem_of_getElem? (i := 157) rfl))))))))), rfl⟩
theorem wp_6_9 : Cond.selects "ParlourLeavesModel" (⟨"ParlourLeavesModel", "isProvedOf", "(I)Z"⟩ : MethodName) (⟨"ParlourLeavesModel", "isProvedOf", "(I)Z"⟩ : MethodName) ∈ zTB := List.mem_filter.mpr ⟨List.mem_append_left _ (List.mem_map.mpr ⟨((⟨"ParlourLeavesModel", "isProvedOf", "(I)Z"⟩ : MethodName), 45), (List.mem_append_right _ (List.mem_append_right _ (List.mem_append_right _ (List.mem_append_right _ (List.mem_append_right _ (List.mem_append_left _ (List.mem_of_getElem? (i := 9) rfl))))))), rfl⟩), rfl⟩
theorem wp_3_4 : Cond.selects "ParlourLeavesModel" (⟨"ParlourLeavesModel", "readLine", "()Z"⟩ : MethodName) (⟨"ParlourLeavesModel", "readLine", "()Z"⟩ : MethodName) ∈ zTB := List.mem_filter.mpr ⟨List.mem_append_left _ (List.mem_map.mpr ⟨((⟨"ParlourLeavesModel", "readLine", "()Z"⟩ : MethodName), 45), (List.mem_append_right _ (List.mem_append_right _ (List.mem_append_left _ (List.mem_of_getElem? (i := 4) rfl)))), rfl⟩), rfl⟩
theorem wp_7_8 : Cond.selects "ParlourLeavesModel" (⟨"ParlourLeavesModel", "saysOne", "(IIII)I"⟩ : MethodName) (⟨"ParlourLeavesModel", "saysOne", "(IIII)I"⟩ : MethodName) ∈ zTB := List.mem_filter.mpr ⟨List.mem_append_left _ (List.mem_map.mpr ⟨((⟨"ParlourLeavesModel", "saysOne", "(IIII)I"⟩ : MethodName), 45), (List.mem_append_right _ (List.mem_append_right _ (List.mem_append_right _ (List.mem_append_right _ (List.mem_append_right _ (List.mem_append_right _ (List.mem_of_getElem? (i := 8) rfl))))))), rfl⟩), rfl⟩
theorem wp_2_15 : Cond.selects "ParlourLeavesModel" (⟨"ParlourLeavesModel", "startSo", "()V"⟩ : MethodName) (⟨"ParlourLeavesModel", "startSo", "()V"⟩ : MethodName) ∈ zTB := List.mem_filter.mpr ⟨List.mem_append_left _ (List.mem_map.mpr ⟨((⟨"ParlourLeavesModel", "startSo", "()V"⟩ : MethodName), 45), (List.mem_append_right _ (List.mem_append_left _ (List.mem_of_getElem? (i := 15) rfl))), rfl⟩), rfl⟩
theorem zs_406 : (Int16.ofInt (406)).toInt32 = (406 : Int32) := by decide
theorem zs_164 : (Int16.ofInt (164)).toInt32 = (164 : Int32) := by decide
theorem zs_900 : (Int16.ofInt (900)).toInt32 = (900 : Int32) := by decide
theorem dn_X12_startSo : zDn yX12_startSo 0 := ⟨by decide, by decide, by decide +kernel⟩
theorem dn_X12_readLine : zDn yX12_readLine 0 := ⟨by decide, by decide, by decide +kernel⟩
theorem dn_X12_cellOf : zDn yX12_cellOf 2 := ⟨by decide, by decide, by decide +kernel⟩
theorem dn_X12_isProvedOf : zDn yX12_isProvedOf 1 := ⟨by decide, by decide, by decide +kernel⟩
theorem zs_999 : (Int16.ofInt (999)).toInt32 = (999 : Int32) := by decide
theorem dn_X12_saysOne : zDn yX12_saysOne 4 := ⟨by decide, by decide, by decide +kernel⟩
theorem cv_X12_157 : zCV RX12 RX12 157 yX12_startSo cX12_startSo 2 none 0 := ⟨rfl, dn_X12_startSo, wd_1481, wd_1483, wp_2_15, wd_19, wd_1484⟩
theorem cv_X12_209 : zCV RX12 RX12 209 yX12_readLine cX12_readLine 1 (some .boolean) 0 := ⟨rfl, dn_X12_readLine, wd_1649, wd_1651, wp_3_4, wd_19, wd_1652⟩
theorem lk_X12_123 : zLk RX12 123 13 22 := ⟨"ParlourLeavesModel", RX12, TX12, 45, rfl, by decide, wsin_X12, wd_1507, rfl⟩
theorem lk_X12_120 : zLk RX12 120 13 21 := ⟨"ParlourLeavesModel", RX12, TX12, 45, rfl, by decide, wsin_X12, wd_1506, rfl⟩
theorem lk_X12_104 : zLk RX12 104 13 16 := ⟨"ParlourLeavesModel", RX12, TX12, 45, rfl, by decide, wsin_X12, wd_1501, rfl⟩
theorem lk_X12_136 : zLk RX12 136 13 27 := ⟨"ParlourLeavesModel", RX12, TX12, 45, rfl, by decide, wsin_X12, wd_1512, rfl⟩
theorem cv_X12_311 : zCS RX12 311 yX12_cellOf cX12_cellOf 2 (some .int) 2 := ⟨dn_X12_cellOf, wd_1926, wd_1927, wd_19, wd_1928⟩
theorem cv_X12_366 : zCV RX12 RX12 366 yX12_isProvedOf cX12_isProvedOf 3 (some .boolean) 1 := ⟨rfl, dn_X12_isProvedOf, wd_2002, wd_2004, wp_6_9, wd_19, wd_2005⟩
theorem lk_X12_403 : zLk RX12 403 13 41 := ⟨"ParlourLeavesModel", RX12, TX12, 45, rfl, by decide, wsin_X12, wd_1526, rfl⟩
theorem lk_X12_154 : zLk RX12 154 13 40 := ⟨"ParlourLeavesModel", RX12, TX12, 45, rfl, by decide, wsin_X12, wd_1525, rfl⟩
theorem lq_X12_403 : zLq RX12 403 13 41 .int := ⟨"ParlourLeavesModel", RX12, TX12, 45, tyX12, rfl, by decide, wsin_X12, wd_1526, rfl, rfl, by decide +kernel, tyX12_ok, nmX12⟩
theorem cv_X12_412 : zCV RX12 RX12 412 yX12_saysOne cX12_saysOne 6 (some .int) 4 := ⟨rfl, dn_X12_saysOne, wd_2074, wd_2076, wp_7_8, wd_19, wd_2077⟩
theorem lq_X12_409 : zLq RX12 409 13 44 .int := ⟨"ParlourLeavesModel", RX12, TX12, 45, tyX12, rfl, by decide, wsin_X12, wd_1529, rfl, rfl, by decide +kernel, tyX12_ok, nmX12⟩
theorem dX12_startSo_0 : decode cX12_startSo 0 = .ok (.bipush 24, 2) := by decide +kernel
theorem dX12_startSo_2 : decode cX12_startSo 2 = .ok (.istore_n 1, 1) := by decide +kernel
theorem dX12_startSo_3 : decode cX12_startSo 3 = .ok (.iload_n 1, 1) := by decide +kernel
theorem dX12_startSo_4 : decode cX12_startSo 4 = .ok (.sipush 406, 3) := by decide +kernel
theorem dX12_startSo_7 : decode cX12_startSo 7 = .ok (.if_icmp .ge 16, 3) := by decide +kernel
theorem dX12_startSo_10 : decode cX12_startSo 10 = .ok (.aload_n 0, 1) := by decide +kernel
theorem dX12_startSo_11 : decode cX12_startSo 11 = .ok (.getfield 98, 3) := by decide +kernel
theorem dX12_startSo_14 : decode cX12_startSo 14 = .ok (.iload_n 1, 1) := by decide +kernel
theorem dX12_startSo_15 : decode cX12_startSo 15 = .ok (.iconst 0, 1) := by decide +kernel
theorem dX12_startSo_16 : decode cX12_startSo 16 = .ok (.iastore, 1) := by decide +kernel
theorem dX12_startSo_17 : decode cX12_startSo 17 = .ok (.iinc 1 1, 3) := by decide +kernel
theorem dX12_startSo_20 : decode cX12_startSo 20 = .ok (.goto (-17), 3) := by decide +kernel
theorem dX12_startSo_23 : decode cX12_startSo 23 = .ok (.bipush 86, 2) := by decide +kernel
theorem dX12_startSo_25 : decode cX12_startSo 25 = .ok (.istore_n 1, 1) := by decide +kernel
theorem dX12_startSo_26 : decode cX12_startSo 26 = .ok (.iload_n 1, 1) := by decide +kernel
theorem dX12_startSo_27 : decode cX12_startSo 27 = .ok (.sipush 164, 3) := by decide +kernel
theorem dX12_startSo_30 : decode cX12_startSo 30 = .ok (.if_icmp .ge 16, 3) := by decide +kernel
theorem dX12_startSo_33 : decode cX12_startSo 33 = .ok (.aload_n 0, 1) := by decide +kernel
theorem dX12_startSo_34 : decode cX12_startSo 34 = .ok (.getfield 98, 3) := by decide +kernel
theorem dX12_startSo_37 : decode cX12_startSo 37 = .ok (.iload_n 1, 1) := by decide +kernel
theorem dX12_startSo_38 : decode cX12_startSo 38 = .ok (.iconst (-1), 1) := by decide +kernel
theorem dX12_startSo_39 : decode cX12_startSo 39 = .ok (.iastore, 1) := by decide +kernel
theorem dX12_startSo_40 : decode cX12_startSo 40 = .ok (.iinc 1 1, 3) := by decide +kernel
theorem dX12_startSo_43 : decode cX12_startSo 43 = .ok (.goto (-17), 3) := by decide +kernel
theorem dX12_startSo_46 : decode cX12_startSo 46 = .ok (.iconst 0, 1) := by decide +kernel
theorem dX12_startSo_47 : decode cX12_startSo 47 = .ok (.istore_n 1, 1) := by decide +kernel
theorem dX12_startSo_48 : decode cX12_startSo 48 = .ok (.iload_n 1, 1) := by decide +kernel
theorem dX12_startSo_49 : decode cX12_startSo 49 = .ok (.bipush 6, 2) := by decide +kernel
theorem dX12_startSo_51 : decode cX12_startSo 51 = .ok (.if_icmp .ge 27, 3) := by decide +kernel
theorem dX12_startSo_54 : decode cX12_startSo 54 = .ok (.aload_n 0, 1) := by decide +kernel
theorem dX12_startSo_55 : decode cX12_startSo 55 = .ok (.getfield 98, 3) := by decide +kernel
theorem dX12_startSo_58 : decode cX12_startSo 58 = .ok (.bipush 26, 2) := by decide +kernel
theorem dX12_startSo_60 : decode cX12_startSo 60 = .ok (.iload_n 1, 1) := by decide +kernel
theorem dX12_startSo_61 : decode cX12_startSo 61 = .ok (.iadd, 1) := by decide +kernel
theorem dX12_startSo_62 : decode cX12_startSo 62 = .ok (.aload_n 0, 1) := by decide +kernel
theorem dX12_startSo_63 : decode cX12_startSo 63 = .ok (.getfield 98, 3) := by decide +kernel
theorem dX12_startSo_66 : decode cX12_startSo 66 = .ok (.bipush 11, 2) := by decide +kernel
theorem dX12_startSo_68 : decode cX12_startSo 68 = .ok (.iload_n 1, 1) := by decide +kernel
theorem dX12_startSo_69 : decode cX12_startSo 69 = .ok (.iadd, 1) := by decide +kernel
theorem dX12_startSo_70 : decode cX12_startSo 70 = .ok (.iaload, 1) := by decide +kernel
theorem dX12_startSo_71 : decode cX12_startSo 71 = .ok (.iastore, 1) := by decide +kernel
theorem dX12_startSo_72 : decode cX12_startSo 72 = .ok (.iinc 1 1, 3) := by decide +kernel
theorem dX12_startSo_75 : decode cX12_startSo 75 = .ok (.goto (-27), 3) := by decide +kernel
theorem dX12_startSo_78 : decode cX12_startSo 78 = .ok (.return_, 1) := by decide +kernel
theorem dX12_house_0 : decode cX12_house 0 = .ok (.aload_n 0, 1) := by decide +kernel
theorem dX12_house_1 : decode cX12_house 1 = .ok (.sipush 900, 3) := by decide +kernel
theorem dX12_house_4 : decode cX12_house 4 = .ok (.invokevirtual 206, 3) := by decide +kernel
theorem dX12_house_7 : decode cX12_house 7 = .ok (.iconst 0, 1) := by decide +kernel
theorem dX12_house_8 : decode cX12_house 8 = .ok (.istore_n 1, 1) := by decide +kernel
theorem dX12_house_9 : decode cX12_house 9 = .ok (.iload_n 1, 1) := by decide +kernel
theorem dX12_house_10 : decode cX12_house 10 = .ok (.bipush 24, 2) := by decide +kernel
theorem dX12_house_12 : decode cX12_house 12 = .ok (.if_icmp .ge 16, 3) := by decide +kernel
theorem dX12_house_15 : decode cX12_house 15 = .ok (.aload_n 0, 1) := by decide +kernel
theorem dX12_house_16 : decode cX12_house 16 = .ok (.getfield 101, 3) := by decide +kernel
theorem dX12_house_19 : decode cX12_house 19 = .ok (.iload_n 1, 1) := by decide +kernel
theorem dX12_house_20 : decode cX12_house 20 = .ok (.iconst 0, 1) := by decide +kernel
theorem dX12_house_21 : decode cX12_house 21 = .ok (.iastore, 1) := by decide +kernel
theorem dX12_house_22 : decode cX12_house 22 = .ok (.iinc 1 1, 3) := by decide +kernel
theorem dX12_house_25 : decode cX12_house 25 = .ok (.goto (-16), 3) := by decide +kernel
theorem dX12_house_28 : decode cX12_house 28 = .ok (.aload_n 0, 1) := by decide +kernel
theorem dX12_house_29 : decode cX12_house 29 = .ok (.getfield 127, 3) := by decide +kernel
theorem dX12_house_32 : decode cX12_house 32 = .ok (.iconst 0, 1) := by decide +kernel
theorem dX12_house_33 : decode cX12_house 33 = .ok (.iconst 0, 1) := by decide +kernel
theorem dX12_house_34 : decode cX12_house 34 = .ok (.bastore, 1) := by decide +kernel
theorem dX12_house_35 : decode cX12_house 35 = .ok (.aload_n 0, 1) := by decide +kernel
theorem dX12_house_36 : decode cX12_house 36 = .ok (.getfield 127, 3) := by decide +kernel
theorem dX12_house_39 : decode cX12_house 39 = .ok (.iconst 1, 1) := by decide +kernel
theorem dX12_house_40 : decode cX12_house 40 = .ok (.iconst 0, 1) := by decide +kernel
theorem dX12_house_41 : decode cX12_house 41 = .ok (.bastore, 1) := by decide +kernel
theorem dX12_house_42 : decode cX12_house 42 = .ok (.aload_n 0, 1) := by decide +kernel
theorem dX12_house_43 : decode cX12_house 43 = .ok (.getfield 101, 3) := by decide +kernel
theorem dX12_house_46 : decode cX12_house 46 = .ok (.iconst 4, 1) := by decide +kernel
theorem dX12_house_47 : decode cX12_house 47 = .ok (.bipush 6, 2) := by decide +kernel
theorem dX12_house_49 : decode cX12_house 49 = .ok (.iastore, 1) := by decide +kernel
theorem dX12_house_50 : decode cX12_house 50 = .ok (.aload_n 0, 1) := by decide +kernel
theorem dX12_house_51 : decode cX12_house 51 = .ok (.getfield 101, 3) := by decide +kernel
theorem dX12_house_54 : decode cX12_house 54 = .ok (.iconst 5, 1) := by decide +kernel
theorem dX12_house_55 : decode cX12_house 55 = .ok (.iconst 2, 1) := by decide +kernel
theorem dX12_house_56 : decode cX12_house 56 = .ok (.iastore, 1) := by decide +kernel
theorem dX12_house_57 : decode cX12_house 57 = .ok (.iconst 0, 1) := by decide +kernel
theorem dX12_house_58 : decode cX12_house 58 = .ok (.istore_n 1, 1) := by decide +kernel
theorem dX12_house_59 : decode cX12_house 59 = .ok (.aload_n 0, 1) := by decide +kernel
theorem dX12_house_60 : decode cX12_house 60 = .ok (.getfield 30, 3) := by decide +kernel
theorem dX12_house_63 : decode cX12_house 63 = .ok (.ifCond .eq 30, 3) := by decide +kernel
theorem dX12_house_66 : decode cX12_house 66 = .ok (.aload_n 0, 1) := by decide +kernel
theorem dX12_house_67 : decode cX12_house 67 = .ok (.invokevirtual 209, 3) := by decide +kernel
theorem dX12_house_70 : decode cX12_house 70 = .ok (.ifCond .eq 10, 3) := by decide +kernel
theorem dX12_house_73 : decode cX12_house 73 = .ok (.aload_n 0, 1) := by decide +kernel
theorem dX12_house_74 : decode cX12_house 74 = .ok (.invokevirtual 212, 3) := by decide +kernel
theorem dX12_house_77 : decode cX12_house 77 = .ok (.ifCond .ne 10, 3) := by decide +kernel
theorem dX12_house_80 : decode cX12_house 80 = .ok (.iconst (-1), 1) := by decide +kernel
theorem dX12_house_81 : decode cX12_house 81 = .ok (.aload_n 0, 1) := by decide +kernel
theorem dX12_house_82 : decode cX12_house 82 = .ok (.getfield 69, 3) := by decide +kernel
theorem dX12_house_85 : decode cX12_house 85 = .ok (.isub, 1) := by decide +kernel
theorem dX12_house_86 : decode cX12_house 86 = .ok (.ireturn, 1) := by decide +kernel
theorem dX12_house_87 : decode cX12_house 87 = .ok (.iinc 1 1, 3) := by decide +kernel
theorem dX12_house_90 : decode cX12_house 90 = .ok (.goto (-31), 3) := by decide +kernel
theorem dX12_house_93 : decode cX12_house 93 = .ok (.iconst 0, 1) := by decide +kernel
theorem dX12_house_94 : decode cX12_house 94 = .ok (.istore_n 2, 1) := by decide +kernel
theorem dX12_house_95 : decode cX12_house 95 = .ok (.iload_n 2, 1) := by decide +kernel
theorem dX12_house_96 : decode cX12_house 96 = .ok (.bipush 24, 2) := by decide +kernel
theorem dX12_house_98 : decode cX12_house 98 = .ok (.if_icmp .ge 21, 3) := by decide +kernel
theorem dX12_house_101 : decode cX12_house 101 = .ok (.aload_n 0, 1) := by decide +kernel
theorem dX12_house_102 : decode cX12_house 102 = .ok (.getfield 98, 3) := by decide +kernel
theorem dX12_house_105 : decode cX12_house 105 = .ok (.iload_n 2, 1) := by decide +kernel
theorem dX12_house_106 : decode cX12_house 106 = .ok (.aload_n 0, 1) := by decide +kernel
theorem dX12_house_107 : decode cX12_house 107 = .ok (.getfield 101, 3) := by decide +kernel
theorem dX12_house_110 : decode cX12_house 110 = .ok (.iload_n 2, 1) := by decide +kernel
theorem dX12_house_111 : decode cX12_house 111 = .ok (.iaload, 1) := by decide +kernel
theorem dX12_house_112 : decode cX12_house 112 = .ok (.iastore, 1) := by decide +kernel
theorem dX12_house_113 : decode cX12_house 113 = .ok (.iinc 2 1, 3) := by decide +kernel
theorem dX12_house_116 : decode cX12_house 116 = .ok (.goto (-21), 3) := by decide +kernel
theorem dX12_house_119 : decode cX12_house 119 = .ok (.iconst 0, 1) := by decide +kernel
theorem dX12_house_120 : decode cX12_house 120 = .ok (.istore_n 2, 1) := by decide +kernel
theorem dX12_house_121 : decode cX12_house 121 = .ok (.iload_n 2, 1) := by decide +kernel
theorem dX12_house_122 : decode cX12_house 122 = .ok (.bipush 20, 2) := by decide +kernel
theorem dX12_house_124 : decode cX12_house 124 = .ok (.if_icmp .ge 21, 3) := by decide +kernel
theorem dX12_house_127 : decode cX12_house 127 = .ok (.aload_n 0, 1) := by decide +kernel
theorem dX12_house_128 : decode cX12_house 128 = .ok (.getfield 113, 3) := by decide +kernel
theorem dX12_house_131 : decode cX12_house 131 = .ok (.iload_n 2, 1) := by decide +kernel
theorem dX12_house_132 : decode cX12_house 132 = .ok (.aload_n 0, 1) := by decide +kernel
theorem dX12_house_133 : decode cX12_house 133 = .ok (.getfield 117, 3) := by decide +kernel
theorem dX12_house_136 : decode cX12_house 136 = .ok (.iload_n 2, 1) := by decide +kernel
theorem dX12_house_137 : decode cX12_house 137 = .ok (.laload, 1) := by decide +kernel
theorem dX12_house_138 : decode cX12_house 138 = .ok (.lastore, 1) := by decide +kernel
theorem dX12_house_139 : decode cX12_house 139 = .ok (.iinc 2 1, 3) := by decide +kernel
theorem dX12_house_142 : decode cX12_house 142 = .ok (.goto (-21), 3) := by decide +kernel
theorem dX12_house_145 : decode cX12_house 145 = .ok (.aload_n 0, 1) := by decide +kernel
theorem dX12_house_146 : decode cX12_house 146 = .ok (.invokevirtual 157, 3) := by decide +kernel
theorem dX12_house_149 : decode cX12_house 149 = .ok (.aload_n 0, 1) := by decide +kernel
theorem dX12_house_150 : decode cX12_house 150 = .ok (.iconst 0, 1) := by decide +kernel
theorem dX12_house_151 : decode cX12_house 151 = .ok (.putfield 215, 3) := by decide +kernel
theorem dX12_house_154 : decode cX12_house 154 = .ok (.iload_n 1, 1) := by decide +kernel
theorem dX12_house_155 : decode cX12_house 155 = .ok (.ireturn, 1) := by decide +kernel
theorem dX12_image_0 : decode cX12_image 0 = .ok (.aload_n 0, 1) := by decide +kernel
theorem dX12_image_1 : decode cX12_image 1 = .ok (.iconst 0, 1) := by decide +kernel
theorem dX12_image_2 : decode cX12_image 2 = .ok (.putfield 1, 3) := by decide +kernel
theorem dX12_image_5 : decode cX12_image 5 = .ok (.iload_n 1, 1) := by decide +kernel
theorem dX12_image_6 : decode cX12_image 6 = .ok (.iconst 0, 1) := by decide +kernel
theorem dX12_image_7 : decode cX12_image 7 = .ok (.iconst 1, 1) := by decide +kernel
theorem dX12_image_8 : decode cX12_image 8 = .ok (.invokestatic 75, 3) := by decide +kernel
theorem dX12_image_11 : decode cX12_image 11 = .ok (.ifCond .ne 5, 3) := by decide +kernel
theorem dX12_image_14 : decode cX12_image 14 = .ok (.iconst 0, 1) := by decide +kernel
theorem dX12_image_15 : decode cX12_image 15 = .ok (.ireturn, 1) := by decide +kernel
theorem dX12_image_16 : decode cX12_image 16 = .ok (.iconst 0, 1) := by decide +kernel
theorem dX12_image_17 : decode cX12_image 17 = .ok (.istore_n 2, 1) := by decide +kernel
theorem dX12_image_18 : decode cX12_image 18 = .ok (.iload_n 2, 1) := by decide +kernel
theorem dX12_image_19 : decode cX12_image 19 = .ok (.sipush 406, 3) := by decide +kernel
theorem dX12_image_22 : decode cX12_image 22 = .ok (.if_icmp .ge 27, 3) := by decide +kernel
theorem dX12_image_25 : decode cX12_image 25 = .ok (.aload_n 0, 1) := by decide +kernel
theorem dX12_image_26 : decode cX12_image 26 = .ok (.getfield 104, 3) := by decide +kernel
theorem dX12_image_29 : decode cX12_image 29 = .ok (.sipush 406, 3) := by decide +kernel
theorem dX12_image_32 : decode cX12_image 32 = .ok (.iload_n 1, 1) := by decide +kernel
theorem dX12_image_33 : decode cX12_image 33 = .ok (.imul, 1) := by decide +kernel
theorem dX12_image_34 : decode cX12_image 34 = .ok (.iload_n 2, 1) := by decide +kernel
theorem dX12_image_35 : decode cX12_image 35 = .ok (.iadd, 1) := by decide +kernel
theorem dX12_image_36 : decode cX12_image 36 = .ok (.aload_n 0, 1) := by decide +kernel
theorem dX12_image_37 : decode cX12_image 37 = .ok (.getfield 98, 3) := by decide +kernel
theorem dX12_image_40 : decode cX12_image 40 = .ok (.iload_n 2, 1) := by decide +kernel
theorem dX12_image_41 : decode cX12_image 41 = .ok (.iaload, 1) := by decide +kernel
theorem dX12_image_42 : decode cX12_image 42 = .ok (.iastore, 1) := by decide +kernel
theorem dX12_image_43 : decode cX12_image 43 = .ok (.iinc 2 1, 3) := by decide +kernel
theorem dX12_image_46 : decode cX12_image 46 = .ok (.goto (-28), 3) := by decide +kernel
theorem dX12_image_49 : decode cX12_image 49 = .ok (.iconst 0, 1) := by decide +kernel
theorem dX12_image_50 : decode cX12_image 50 = .ok (.istore_n 2, 1) := by decide +kernel
theorem dX12_image_51 : decode cX12_image 51 = .ok (.iload_n 2, 1) := by decide +kernel
theorem dX12_image_52 : decode cX12_image 52 = .ok (.bipush 20, 2) := by decide +kernel
theorem dX12_image_54 : decode cX12_image 54 = .ok (.if_icmp .ge 26, 3) := by decide +kernel
theorem dX12_image_57 : decode cX12_image 57 = .ok (.aload_n 0, 1) := by decide +kernel
theorem dX12_image_58 : decode cX12_image 58 = .ok (.getfield 120, 3) := by decide +kernel
theorem dX12_image_61 : decode cX12_image 61 = .ok (.bipush 20, 2) := by decide +kernel
theorem dX12_image_63 : decode cX12_image 63 = .ok (.iload_n 1, 1) := by decide +kernel
theorem dX12_image_64 : decode cX12_image 64 = .ok (.imul, 1) := by decide +kernel
theorem dX12_image_65 : decode cX12_image 65 = .ok (.iload_n 2, 1) := by decide +kernel
theorem dX12_image_66 : decode cX12_image 66 = .ok (.iadd, 1) := by decide +kernel
theorem dX12_image_67 : decode cX12_image 67 = .ok (.aload_n 0, 1) := by decide +kernel
theorem dX12_image_68 : decode cX12_image 68 = .ok (.getfield 113, 3) := by decide +kernel
theorem dX12_image_71 : decode cX12_image 71 = .ok (.iload_n 2, 1) := by decide +kernel
theorem dX12_image_72 : decode cX12_image 72 = .ok (.laload, 1) := by decide +kernel
theorem dX12_image_73 : decode cX12_image 73 = .ok (.lastore, 1) := by decide +kernel
theorem dX12_image_74 : decode cX12_image 74 = .ok (.iinc 2 1, 3) := by decide +kernel
theorem dX12_image_77 : decode cX12_image 77 = .ok (.goto (-26), 3) := by decide +kernel
theorem dX12_image_80 : decode cX12_image 80 = .ok (.aload_n 0, 1) := by decide +kernel
theorem dX12_image_81 : decode cX12_image 81 = .ok (.getfield 123, 3) := by decide +kernel
theorem dX12_image_84 : decode cX12_image 84 = .ok (.iload_n 1, 1) := by decide +kernel
theorem dX12_image_85 : decode cX12_image 85 = .ok (.iconst 1, 1) := by decide +kernel
theorem dX12_image_86 : decode cX12_image 86 = .ok (.bastore, 1) := by decide +kernel
theorem dX12_image_87 : decode cX12_image 87 = .ok (.iconst 1, 1) := by decide +kernel
theorem dX12_image_88 : decode cX12_image 88 = .ok (.ireturn, 1) := by decide +kernel
theorem dX12_isProvedOf_0 : decode cX12_isProvedOf 0 = .ok (.iconst 0, 1) := by decide +kernel
theorem dX12_isProvedOf_1 : decode cX12_isProvedOf 1 = .ok (.istore_n 2, 1) := by decide +kernel
theorem dX12_isProvedOf_2 : decode cX12_isProvedOf 2 = .ok (.iload_n 2, 1) := by decide +kernel
theorem dX12_isProvedOf_3 : decode cX12_isProvedOf 3 = .ok (.aload_n 0, 1) := by decide +kernel
theorem dX12_isProvedOf_4 : decode cX12_isProvedOf 4 = .ok (.getfield 98, 3) := by decide +kernel
theorem dX12_isProvedOf_7 : decode cX12_isProvedOf 7 = .ok (.bipush 25, 2) := by decide +kernel
theorem dX12_isProvedOf_9 : decode cX12_isProvedOf 9 = .ok (.iaload, 1) := by decide +kernel
theorem dX12_isProvedOf_10 : decode cX12_isProvedOf 10 = .ok (.if_icmp .ge 32, 3) := by decide +kernel
theorem dX12_isProvedOf_13 : decode cX12_isProvedOf 13 = .ok (.aload_n 0, 1) := by decide +kernel
theorem dX12_isProvedOf_14 : decode cX12_isProvedOf 14 = .ok (.getfield 98, 3) := by decide +kernel
theorem dX12_isProvedOf_17 : decode cX12_isProvedOf 17 = .ok (.bipush 38, 2) := by decide +kernel
theorem dX12_isProvedOf_19 : decode cX12_isProvedOf 19 = .ok (.iload_n 2, 1) := by decide +kernel
theorem dX12_isProvedOf_20 : decode cX12_isProvedOf 20 = .ok (.iadd, 1) := by decide +kernel
theorem dX12_isProvedOf_21 : decode cX12_isProvedOf 21 = .ok (.iaload, 1) := by decide +kernel
theorem dX12_isProvedOf_22 : decode cX12_isProvedOf 22 = .ok (.iload_n 1, 1) := by decide +kernel
theorem dX12_isProvedOf_23 : decode cX12_isProvedOf 23 = .ok (.if_icmp .ne 13, 3) := by decide +kernel
theorem dX12_isProvedOf_26 : decode cX12_isProvedOf 26 = .ok (.aload_n 0, 1) := by decide +kernel
theorem dX12_isProvedOf_27 : decode cX12_isProvedOf 27 = .ok (.iload_n 2, 1) := by decide +kernel
theorem dX12_isProvedOf_28 : decode cX12_isProvedOf 28 = .ok (.invokevirtual 241, 3) := by decide +kernel
theorem dX12_isProvedOf_31 : decode cX12_isProvedOf 31 = .ok (.ifCond .eq 5, 3) := by decide +kernel
theorem dX12_isProvedOf_34 : decode cX12_isProvedOf 34 = .ok (.iconst 1, 1) := by decide +kernel
theorem dX12_isProvedOf_35 : decode cX12_isProvedOf 35 = .ok (.ireturn, 1) := by decide +kernel
theorem dX12_isProvedOf_36 : decode cX12_isProvedOf 36 = .ok (.iinc 2 1, 3) := by decide +kernel
theorem dX12_isProvedOf_39 : decode cX12_isProvedOf 39 = .ok (.goto (-37), 3) := by decide +kernel
theorem dX12_isProvedOf_42 : decode cX12_isProvedOf 42 = .ok (.iconst 0, 1) := by decide +kernel
theorem dX12_isProvedOf_43 : decode cX12_isProvedOf 43 = .ok (.ireturn, 1) := by decide +kernel
theorem dX12_laySteps_0 : decode cX12_laySteps 0 = .ok (.iconst 0, 1) := by decide +kernel
theorem dX12_laySteps_1 : decode cX12_laySteps 1 = .ok (.istore_n 1, 1) := by decide +kernel
theorem dX12_laySteps_2 : decode cX12_laySteps 2 = .ok (.iload_n 1, 1) := by decide +kernel
theorem dX12_laySteps_3 : decode cX12_laySteps 3 = .ok (.sipush 160, 3) := by decide +kernel
theorem dX12_laySteps_6 : decode cX12_laySteps 6 = .ok (.if_icmp .ge 29, 3) := by decide +kernel
theorem dX12_laySteps_9 : decode cX12_laySteps 9 = .ok (.aload_n 0, 1) := by decide +kernel
theorem dX12_laySteps_10 : decode cX12_laySteps 10 = .ok (.getfield 136, 3) := by decide +kernel
theorem dX12_laySteps_13 : decode cX12_laySteps 13 = .ok (.iload_n 1, 1) := by decide +kernel
theorem dX12_laySteps_14 : decode cX12_laySteps 14 = .ok (.iload_n 1, 1) := by decide +kernel
theorem dX12_laySteps_15 : decode cX12_laySteps 15 = .ok (.bipush 32, 2) := by decide +kernel
theorem dX12_laySteps_17 : decode cX12_laySteps 17 = .ok (.irem, 1) := by decide +kernel
theorem dX12_laySteps_18 : decode cX12_laySteps 18 = .ok (.ifCond .ne 7, 3) := by decide +kernel
theorem dX12_laySteps_21 : decode cX12_laySteps 21 = .ok (.iconst 0, 1) := by decide +kernel
theorem dX12_laySteps_22 : decode cX12_laySteps 22 = .ok (.goto 6, 3) := by decide +kernel
theorem dX12_laySteps_25 : decode cX12_laySteps 25 = .ok (.ldc_w 305, 3) := by decide +kernel
theorem dX12_laySteps_28 : decode cX12_laySteps 28 = .ok (.iastore, 1) := by decide +kernel
theorem dX12_laySteps_29 : decode cX12_laySteps 29 = .ok (.iinc 1 1, 3) := by decide +kernel
theorem dX12_laySteps_32 : decode cX12_laySteps 32 = .ok (.goto (-30), 3) := by decide +kernel
theorem dX12_laySteps_35 : decode cX12_laySteps 35 = .ok (.iconst 1, 1) := by decide +kernel
theorem dX12_laySteps_36 : decode cX12_laySteps 36 = .ok (.istore_n 1, 1) := by decide +kernel
theorem dX12_laySteps_37 : decode cX12_laySteps 37 = .ok (.iload_n 1, 1) := by decide +kernel
theorem dX12_laySteps_38 : decode cX12_laySteps 38 = .ok (.ifCond .eq 134, 3) := by decide +kernel
theorem dX12_laySteps_41 : decode cX12_laySteps 41 = .ok (.iconst 0, 1) := by decide +kernel
theorem dX12_laySteps_42 : decode cX12_laySteps 42 = .ok (.istore_n 1, 1) := by decide +kernel
theorem dX12_laySteps_43 : decode cX12_laySteps 43 = .ok (.iconst 0, 1) := by decide +kernel
theorem dX12_laySteps_44 : decode cX12_laySteps 44 = .ok (.istore_n 2, 1) := by decide +kernel
theorem dX12_laySteps_45 : decode cX12_laySteps 45 = .ok (.iload_n 2, 1) := by decide +kernel
theorem dX12_laySteps_46 : decode cX12_laySteps 46 = .ok (.aload_n 0, 1) := by decide +kernel
theorem dX12_laySteps_47 : decode cX12_laySteps 47 = .ok (.getfield 98, 3) := by decide +kernel
theorem dX12_laySteps_50 : decode cX12_laySteps 50 = .ok (.iconst 0, 1) := by decide +kernel
theorem dX12_laySteps_51 : decode cX12_laySteps 51 = .ok (.iaload, 1) := by decide +kernel
theorem dX12_laySteps_52 : decode cX12_laySteps 52 = .ok (.if_icmp .ge 117, 3) := by decide +kernel
theorem dX12_laySteps_55 : decode cX12_laySteps 55 = .ok (.iconst 1, 1) := by decide +kernel
theorem dX12_laySteps_56 : decode cX12_laySteps 56 = .ok (.istore_n 3, 1) := by decide +kernel
theorem dX12_laySteps_57 : decode cX12_laySteps 57 = .ok (.iload_n 3, 1) := by decide +kernel
theorem dX12_laySteps_58 : decode cX12_laySteps 58 = .ok (.bipush 32, 2) := by decide +kernel
theorem dX12_laySteps_60 : decode cX12_laySteps 60 = .ok (.if_icmp .ge 103, 3) := by decide +kernel
theorem dX12_laySteps_63 : decode cX12_laySteps 63 = .ok (.iconst 0, 1) := by decide +kernel
theorem dX12_laySteps_64 : decode cX12_laySteps 64 = .ok (.istore 4, 2) := by decide +kernel
theorem dX12_laySteps_66 : decode cX12_laySteps 66 = .ok (.iload 4, 2) := by decide +kernel
theorem dX12_laySteps_68 : decode cX12_laySteps 68 = .ok (.aload_n 0, 1) := by decide +kernel
theorem dX12_laySteps_69 : decode cX12_laySteps 69 = .ok (.getfield 98, 3) := by decide +kernel
theorem dX12_laySteps_72 : decode cX12_laySteps 72 = .ok (.iconst 0, 1) := by decide +kernel
theorem dX12_laySteps_73 : decode cX12_laySteps 73 = .ok (.iaload, 1) := by decide +kernel
theorem dX12_laySteps_74 : decode cX12_laySteps 74 = .ok (.if_icmp .ge 83, 3) := by decide +kernel
theorem dX12_laySteps_77 : decode cX12_laySteps 77 = .ok (.aload_n 0, 1) := by decide +kernel
theorem dX12_laySteps_78 : decode cX12_laySteps 78 = .ok (.getfield 98, 3) := by decide +kernel
theorem dX12_laySteps_81 : decode cX12_laySteps 81 = .ok (.bipush 6, 2) := by decide +kernel
theorem dX12_laySteps_83 : decode cX12_laySteps 83 = .ok (.iload_n 2, 1) := by decide +kernel
theorem dX12_laySteps_84 : decode cX12_laySteps 84 = .ok (.iadd, 1) := by decide +kernel
theorem dX12_laySteps_85 : decode cX12_laySteps 85 = .ok (.iaload, 1) := by decide +kernel
theorem dX12_laySteps_86 : decode cX12_laySteps 86 = .ok (.iload 4, 2) := by decide +kernel
theorem dX12_laySteps_88 : decode cX12_laySteps 88 = .ok (.invokestatic 181, 3) := by decide +kernel
theorem dX12_laySteps_91 : decode cX12_laySteps 91 = .ok (.ifCond .ne 6, 3) := by decide +kernel
theorem dX12_laySteps_94 : decode cX12_laySteps 94 = .ok (.goto 57, 3) := by decide +kernel
theorem dX12_laySteps_97 : decode cX12_laySteps 97 = .ok (.aload_n 0, 1) := by decide +kernel
theorem dX12_laySteps_98 : decode cX12_laySteps 98 = .ok (.getfield 136, 3) := by decide +kernel
theorem dX12_laySteps_101 : decode cX12_laySteps 101 = .ok (.iload 4, 2) := by decide +kernel
theorem dX12_laySteps_103 : decode cX12_laySteps 103 = .ok (.iload_n 3, 1) := by decide +kernel
theorem dX12_laySteps_104 : decode cX12_laySteps 104 = .ok (.iconst 1, 1) := by decide +kernel
theorem dX12_laySteps_105 : decode cX12_laySteps 105 = .ok (.iload 4, 2) := by decide +kernel
theorem dX12_laySteps_107 : decode cX12_laySteps 107 = .ok (.ishl, 1) := by decide +kernel
theorem dX12_laySteps_108 : decode cX12_laySteps 108 = .ok (.iconst (-1), 1) := by decide +kernel
theorem dX12_laySteps_109 : decode cX12_laySteps 109 = .ok (.ixor, 1) := by decide +kernel
theorem dX12_laySteps_110 : decode cX12_laySteps 110 = .ok (.iand, 1) := by decide +kernel
theorem dX12_laySteps_111 : decode cX12_laySteps 111 = .ok (.invokestatic 311, 3) := by decide +kernel
theorem dX12_laySteps_114 : decode cX12_laySteps 114 = .ok (.iaload, 1) := by decide +kernel
theorem dX12_laySteps_115 : decode cX12_laySteps 115 = .ok (.iconst 1, 1) := by decide +kernel
theorem dX12_laySteps_116 : decode cX12_laySteps 116 = .ok (.iadd, 1) := by decide +kernel
theorem dX12_laySteps_117 : decode cX12_laySteps 117 = .ok (.istore 5, 2) := by decide +kernel
theorem dX12_laySteps_119 : decode cX12_laySteps 119 = .ok (.iload 5, 2) := by decide +kernel
theorem dX12_laySteps_121 : decode cX12_laySteps 121 = .ok (.aload_n 0, 1) := by decide +kernel
theorem dX12_laySteps_122 : decode cX12_laySteps 122 = .ok (.getfield 136, 3) := by decide +kernel
theorem dX12_laySteps_125 : decode cX12_laySteps 125 = .ok (.iload_n 2, 1) := by decide +kernel
theorem dX12_laySteps_126 : decode cX12_laySteps 126 = .ok (.iload_n 3, 1) := by decide +kernel
theorem dX12_laySteps_127 : decode cX12_laySteps 127 = .ok (.invokestatic 311, 3) := by decide +kernel
theorem dX12_laySteps_130 : decode cX12_laySteps 130 = .ok (.iaload, 1) := by decide +kernel
theorem dX12_laySteps_131 : decode cX12_laySteps 131 = .ok (.if_icmp .lt 6, 3) := by decide +kernel
theorem dX12_laySteps_134 : decode cX12_laySteps 134 = .ok (.goto 17, 3) := by decide +kernel
theorem dX12_laySteps_137 : decode cX12_laySteps 137 = .ok (.aload_n 0, 1) := by decide +kernel
theorem dX12_laySteps_138 : decode cX12_laySteps 138 = .ok (.getfield 136, 3) := by decide +kernel
theorem dX12_laySteps_141 : decode cX12_laySteps 141 = .ok (.iload_n 2, 1) := by decide +kernel
theorem dX12_laySteps_142 : decode cX12_laySteps 142 = .ok (.iload_n 3, 1) := by decide +kernel
theorem dX12_laySteps_143 : decode cX12_laySteps 143 = .ok (.invokestatic 311, 3) := by decide +kernel
theorem dX12_laySteps_146 : decode cX12_laySteps 146 = .ok (.iload 5, 2) := by decide +kernel
theorem dX12_laySteps_148 : decode cX12_laySteps 148 = .ok (.iastore, 1) := by decide +kernel
theorem dX12_laySteps_149 : decode cX12_laySteps 149 = .ok (.iconst 1, 1) := by decide +kernel
theorem dX12_laySteps_150 : decode cX12_laySteps 150 = .ok (.istore_n 1, 1) := by decide +kernel
theorem dX12_laySteps_151 : decode cX12_laySteps 151 = .ok (.iinc 4 1, 3) := by decide +kernel
theorem dX12_laySteps_154 : decode cX12_laySteps 154 = .ok (.goto (-88), 3) := by decide +kernel
theorem dX12_laySteps_157 : decode cX12_laySteps 157 = .ok (.iinc 3 1, 3) := by decide +kernel
theorem dX12_laySteps_160 : decode cX12_laySteps 160 = .ok (.goto (-103), 3) := by decide +kernel
theorem dX12_laySteps_163 : decode cX12_laySteps 163 = .ok (.iinc 2 1, 3) := by decide +kernel
theorem dX12_laySteps_166 : decode cX12_laySteps 166 = .ok (.goto (-121), 3) := by decide +kernel
theorem dX12_laySteps_169 : decode cX12_laySteps 169 = .ok (.goto (-132), 3) := by decide +kernel
theorem dX12_laySteps_172 : decode cX12_laySteps 172 = .ok (.return_, 1) := by decide +kernel
theorem dX12_now_0 : decode cX12_now 0 = .ok (.aload_n 0, 1) := by decide +kernel
theorem dX12_now_1 : decode cX12_now 1 = .ok (.iconst 0, 1) := by decide +kernel
theorem dX12_now_2 : decode cX12_now 2 = .ok (.putfield 1, 3) := by decide +kernel
theorem dX12_now_5 : decode cX12_now 5 = .ok (.iconst 0, 1) := by decide +kernel
theorem dX12_now_6 : decode cX12_now 6 = .ok (.istore_n 2, 1) := by decide +kernel
theorem dX12_now_7 : decode cX12_now 7 = .ok (.iload_n 1, 1) := by decide +kernel
theorem dX12_now_8 : decode cX12_now 8 = .ok (.tableswitch 189 0 7 #[48, 56, 64, 69, 104, 142, 142, 183], 48) := by decide +kernel
theorem dX12_now_56 : decode cX12_now 56 = .ok (.aload_n 0, 1) := by decide +kernel
theorem dX12_now_57 : decode cX12_now 57 = .ok (.getfield 98, 3) := by decide +kernel
theorem dX12_now_60 : decode cX12_now 60 = .ok (.bipush 24, 2) := by decide +kernel
theorem dX12_now_62 : decode cX12_now 62 = .ok (.iaload, 1) := by decide +kernel
theorem dX12_now_63 : decode cX12_now 63 = .ok (.ireturn, 1) := by decide +kernel
theorem dX12_now_64 : decode cX12_now 64 = .ok (.aload_n 0, 1) := by decide +kernel
theorem dX12_now_65 : decode cX12_now 65 = .ok (.getfield 98, 3) := by decide +kernel
theorem dX12_now_68 : decode cX12_now 68 = .ok (.bipush 25, 2) := by decide +kernel
theorem dX12_now_70 : decode cX12_now 70 = .ok (.iaload, 1) := by decide +kernel
theorem dX12_now_71 : decode cX12_now 71 = .ok (.ireturn, 1) := by decide +kernel
theorem dX12_now_72 : decode cX12_now 72 = .ok (.aload_n 0, 1) := by decide +kernel
theorem dX12_now_73 : decode cX12_now 73 = .ok (.invokevirtual 262, 3) := by decide +kernel
theorem dX12_now_76 : decode cX12_now 76 = .ok (.ireturn, 1) := by decide +kernel
theorem dX12_now_77 : decode cX12_now 77 = .ok (.iconst 0, 1) := by decide +kernel
theorem dX12_now_78 : decode cX12_now 78 = .ok (.istore_n 3, 1) := by decide +kernel
theorem dX12_now_79 : decode cX12_now 79 = .ok (.iload_n 3, 1) := by decide +kernel
theorem dX12_now_80 : decode cX12_now 80 = .ok (.aload_n 0, 1) := by decide +kernel
theorem dX12_now_81 : decode cX12_now 81 = .ok (.getfield 98, 3) := by decide +kernel
theorem dX12_now_84 : decode cX12_now 84 = .ok (.iconst 1, 1) := by decide +kernel
theorem dX12_now_85 : decode cX12_now 85 = .ok (.iaload, 1) := by decide +kernel
theorem dX12_now_86 : decode cX12_now 86 = .ok (.if_icmp .ge 24, 3) := by decide +kernel
theorem dX12_now_89 : decode cX12_now 89 = .ok (.aload_n 0, 1) := by decide +kernel
theorem dX12_now_90 : decode cX12_now 90 = .ok (.iload_n 3, 1) := by decide +kernel
theorem dX12_now_91 : decode cX12_now 91 = .ok (.iconst 0, 1) := by decide +kernel
theorem dX12_now_92 : decode cX12_now 92 = .ok (.invokevirtual 250, 3) := by decide +kernel
theorem dX12_now_95 : decode cX12_now 95 = .ok (.ifCond .eq 9, 3) := by decide +kernel
theorem dX12_now_98 : decode cX12_now 98 = .ok (.iload_n 2, 1) := by decide +kernel
theorem dX12_now_99 : decode cX12_now 99 = .ok (.iconst 1, 1) := by decide +kernel
theorem dX12_now_100 : decode cX12_now 100 = .ok (.iload_n 3, 1) := by decide +kernel
theorem dX12_now_101 : decode cX12_now 101 = .ok (.ishl, 1) := by decide +kernel
theorem dX12_now_102 : decode cX12_now 102 = .ok (.ior, 1) := by decide +kernel
theorem dX12_now_103 : decode cX12_now 103 = .ok (.istore_n 2, 1) := by decide +kernel
theorem dX12_now_104 : decode cX12_now 104 = .ok (.iinc 3 1, 3) := by decide +kernel
theorem dX12_now_107 : decode cX12_now 107 = .ok (.goto (-28), 3) := by decide +kernel
theorem dX12_now_110 : decode cX12_now 110 = .ok (.iload_n 2, 1) := by decide +kernel
theorem dX12_now_111 : decode cX12_now 111 = .ok (.ireturn, 1) := by decide +kernel
theorem dX12_now_112 : decode cX12_now 112 = .ok (.iconst 0, 1) := by decide +kernel
theorem dX12_now_113 : decode cX12_now 113 = .ok (.istore_n 3, 1) := by decide +kernel
theorem dX12_now_114 : decode cX12_now 114 = .ok (.iload_n 3, 1) := by decide +kernel
theorem dX12_now_115 : decode cX12_now 115 = .ok (.aload_n 0, 1) := by decide +kernel
theorem dX12_now_116 : decode cX12_now 116 = .ok (.getfield 98, 3) := by decide +kernel
theorem dX12_now_119 : decode cX12_now 119 = .ok (.iconst 1, 1) := by decide +kernel
theorem dX12_now_120 : decode cX12_now 120 = .ok (.iaload, 1) := by decide +kernel
theorem dX12_now_121 : decode cX12_now 121 = .ok (.if_icmp .ge 27, 3) := by decide +kernel
theorem dX12_now_124 : decode cX12_now 124 = .ok (.aload_n 0, 1) := by decide +kernel
theorem dX12_now_125 : decode cX12_now 125 = .ok (.getfield 98, 3) := by decide +kernel
theorem dX12_now_128 : decode cX12_now 128 = .ok (.bipush 32, 2) := by decide +kernel
theorem dX12_now_130 : decode cX12_now 130 = .ok (.iload_n 3, 1) := by decide +kernel
theorem dX12_now_131 : decode cX12_now 131 = .ok (.iadd, 1) := by decide +kernel
theorem dX12_now_132 : decode cX12_now 132 = .ok (.iaload, 1) := by decide +kernel
theorem dX12_now_133 : decode cX12_now 133 = .ok (.ifCond .le 9, 3) := by decide +kernel
theorem dX12_now_136 : decode cX12_now 136 = .ok (.iload_n 2, 1) := by decide +kernel
theorem dX12_now_137 : decode cX12_now 137 = .ok (.iconst 1, 1) := by decide +kernel
theorem dX12_now_138 : decode cX12_now 138 = .ok (.iload_n 3, 1) := by decide +kernel
theorem dX12_now_139 : decode cX12_now 139 = .ok (.ishl, 1) := by decide +kernel
theorem dX12_now_140 : decode cX12_now 140 = .ok (.ior, 1) := by decide +kernel
theorem dX12_now_141 : decode cX12_now 141 = .ok (.istore_n 2, 1) := by decide +kernel
theorem dX12_now_142 : decode cX12_now 142 = .ok (.iinc 3 1, 3) := by decide +kernel
theorem dX12_now_145 : decode cX12_now 145 = .ok (.goto (-31), 3) := by decide +kernel
theorem dX12_now_148 : decode cX12_now 148 = .ok (.iload_n 2, 1) := by decide +kernel
theorem dX12_now_149 : decode cX12_now 149 = .ok (.ireturn, 1) := by decide +kernel
theorem dX12_now_150 : decode cX12_now 150 = .ok (.iconst 0, 1) := by decide +kernel
theorem dX12_now_151 : decode cX12_now 151 = .ok (.istore_n 3, 1) := by decide +kernel
theorem dX12_now_152 : decode cX12_now 152 = .ok (.iload_n 3, 1) := by decide +kernel
theorem dX12_now_153 : decode cX12_now 153 = .ok (.aload_n 0, 1) := by decide +kernel
theorem dX12_now_154 : decode cX12_now 154 = .ok (.getfield 98, 3) := by decide +kernel
theorem dX12_now_157 : decode cX12_now 157 = .ok (.iconst 1, 1) := by decide +kernel
theorem dX12_now_158 : decode cX12_now 158 = .ok (.iaload, 1) := by decide +kernel
theorem dX12_now_159 : decode cX12_now 159 = .ok (.if_icmp .ge 30, 3) := by decide +kernel
theorem dX12_now_162 : decode cX12_now 162 = .ok (.iload_n 2, 1) := by decide +kernel
theorem dX12_now_163 : decode cX12_now 163 = .ok (.aload_n 0, 1) := by decide +kernel
theorem dX12_now_164 : decode cX12_now 164 = .ok (.iload_n 3, 1) := by decide +kernel
theorem dX12_now_165 : decode cX12_now 165 = .ok (.iload_n 1, 1) := by decide +kernel
theorem dX12_now_166 : decode cX12_now 166 = .ok (.iconst 5, 1) := by decide +kernel
theorem dX12_now_167 : decode cX12_now 167 = .ok (.if_icmp .ne 7, 3) := by decide +kernel
theorem dX12_now_170 : decode cX12_now 170 = .ok (.iconst 1, 1) := by decide +kernel
theorem dX12_now_171 : decode cX12_now 171 = .ok (.goto 4, 3) := by decide +kernel
theorem dX12_now_174 : decode cX12_now 174 = .ok (.iconst 0, 1) := by decide +kernel
theorem dX12_now_175 : decode cX12_now 175 = .ok (.invokevirtual 253, 3) := by decide +kernel
theorem dX12_now_178 : decode cX12_now 178 = .ok (.invokestatic 238, 3) := by decide +kernel
theorem dX12_now_181 : decode cX12_now 181 = .ok (.iadd, 1) := by decide +kernel
theorem dX12_now_182 : decode cX12_now 182 = .ok (.istore_n 2, 1) := by decide +kernel
theorem dX12_now_183 : decode cX12_now 183 = .ok (.iinc 3 1, 3) := by decide +kernel
theorem dX12_now_186 : decode cX12_now 186 = .ok (.goto (-34), 3) := by decide +kernel
theorem dX12_now_189 : decode cX12_now 189 = .ok (.iload_n 2, 1) := by decide +kernel
theorem dX12_now_190 : decode cX12_now 190 = .ok (.ireturn, 1) := by decide +kernel
theorem dX12_now_191 : decode cX12_now 191 = .ok (.aload_n 0, 1) := by decide +kernel
theorem dX12_now_192 : decode cX12_now 192 = .ok (.iconst 0, 1) := by decide +kernel
theorem dX12_now_193 : decode cX12_now 193 = .ok (.invokevirtual 265, 3) := by decide +kernel
theorem dX12_now_196 : decode cX12_now 196 = .ok (.ireturn, 1) := by decide +kernel
theorem dX12_now_197 : decode cX12_now 197 = .ok (.iconst (-1), 1) := by decide +kernel
theorem dX12_now_198 : decode cX12_now 198 = .ok (.ireturn, 1) := by decide +kernel
theorem dX12_odds_0 : decode cX12_odds 0 = .ok (.aload_n 0, 1) := by decide +kernel
theorem dX12_odds_1 : decode cX12_odds 1 = .ok (.iconst 0, 1) := by decide +kernel
theorem dX12_odds_2 : decode cX12_odds 2 = .ok (.putfield 1, 3) := by decide +kernel
theorem dX12_odds_5 : decode cX12_odds 5 = .ok (.aload_n 0, 1) := by decide +kernel
theorem dX12_odds_6 : decode cX12_odds 6 = .ok (.iload_n 1, 1) := by decide +kernel
theorem dX12_odds_7 : decode cX12_odds 7 = .ok (.invokevirtual 286, 3) := by decide +kernel
theorem dX12_odds_10 : decode cX12_odds 10 = .ok (.ifCond .eq 13, 3) := by decide +kernel
theorem dX12_odds_13 : decode cX12_odds 13 = .ok (.iload_n 2, 1) := by decide +kernel
theorem dX12_odds_14 : decode cX12_odds 14 = .ok (.iconst 1, 1) := by decide +kernel
theorem dX12_odds_15 : decode cX12_odds 15 = .ok (.bipush 30, 2) := by decide +kernel
theorem dX12_odds_17 : decode cX12_odds 17 = .ok (.invokestatic 75, 3) := by decide +kernel
theorem dX12_odds_20 : decode cX12_odds 20 = .ok (.ifCond .ne 5, 3) := by decide +kernel
theorem dX12_odds_23 : decode cX12_odds 23 = .ok (.iconst (-1), 1) := by decide +kernel
theorem dX12_odds_24 : decode cX12_odds 24 = .ok (.ireturn, 1) := by decide +kernel
theorem dX12_odds_25 : decode cX12_odds 25 = .ok (.aload_n 0, 1) := by decide +kernel
theorem dX12_odds_26 : decode cX12_odds 26 = .ok (.invokevirtual 363, 3) := by decide +kernel
theorem dX12_odds_29 : decode cX12_odds 29 = .ok (.iconst 0, 1) := by decide +kernel
theorem dX12_odds_30 : decode cX12_odds 30 = .ok (.istore 4, 2) := by decide +kernel
theorem dX12_odds_32 : decode cX12_odds 32 = .ok (.iconst 0, 1) := by decide +kernel
theorem dX12_odds_33 : decode cX12_odds 33 = .ok (.istore 5, 2) := by decide +kernel
theorem dX12_odds_35 : decode cX12_odds 35 = .ok (.iload 5, 2) := by decide +kernel
theorem dX12_odds_37 : decode cX12_odds 37 = .ok (.iload_n 2, 1) := by decide +kernel
theorem dX12_odds_38 : decode cX12_odds 38 = .ok (.if_icmp .ge 35, 3) := by decide +kernel
theorem dX12_odds_41 : decode cX12_odds 41 = .ok (.aload_n 0, 1) := by decide +kernel
theorem dX12_odds_42 : decode cX12_odds 42 = .ok (.bipush 20, 2) := by decide +kernel
theorem dX12_odds_44 : decode cX12_odds 44 = .ok (.iload_n 3, 1) := by decide +kernel
theorem dX12_odds_45 : decode cX12_odds 45 = .ok (.iload 5, 2) := by decide +kernel
theorem dX12_odds_47 : decode cX12_odds 47 = .ok (.iadd, 1) := by decide +kernel
theorem dX12_odds_48 : decode cX12_odds 48 = .ok (.invokevirtual 360, 3) := by decide +kernel
theorem dX12_odds_51 : decode cX12_odds 51 = .ok (.pop, 1) := by decide +kernel
theorem dX12_odds_52 : decode cX12_odds 52 = .ok (.aload_n 0, 1) := by decide +kernel
theorem dX12_odds_53 : decode cX12_odds 53 = .ok (.iload_n 1, 1) := by decide +kernel
theorem dX12_odds_54 : decode cX12_odds 54 = .ok (.invokevirtual 366, 3) := by decide +kernel
theorem dX12_odds_57 : decode cX12_odds 57 = .ok (.ifCond .eq 6, 3) := by decide +kernel
theorem dX12_odds_60 : decode cX12_odds 60 = .ok (.iinc 4 1, 3) := by decide +kernel
theorem dX12_odds_63 : decode cX12_odds 63 = .ok (.aload_n 0, 1) := by decide +kernel
theorem dX12_odds_64 : decode cX12_odds 64 = .ok (.invokevirtual 369, 3) := by decide +kernel
theorem dX12_odds_67 : decode cX12_odds 67 = .ok (.iinc 5 1, 3) := by decide +kernel
theorem dX12_odds_70 : decode cX12_odds 70 = .ok (.goto (-35), 3) := by decide +kernel
theorem dX12_odds_73 : decode cX12_odds 73 = .ok (.iload 4, 2) := by decide +kernel
theorem dX12_odds_75 : decode cX12_odds 75 = .ok (.ireturn, 1) := by decide +kernel
theorem dX12_plant_0 : decode cX12_plant 0 = .ok (.aload_n 0, 1) := by decide +kernel
theorem dX12_plant_1 : decode cX12_plant 1 = .ok (.iconst 0, 1) := by decide +kernel
theorem dX12_plant_2 : decode cX12_plant 2 = .ok (.putfield 1, 3) := by decide +kernel
theorem dX12_plant_5 : decode cX12_plant 5 = .ok (.aload_n 0, 1) := by decide +kernel
theorem dX12_plant_6 : decode cX12_plant 6 = .ok (.iload_n 1, 1) := by decide +kernel
theorem dX12_plant_7 : decode cX12_plant 7 = .ok (.invokevirtual 244, 3) := by decide +kernel
theorem dX12_plant_10 : decode cX12_plant 10 = .ok (.ifCond .ne 8, 3) := by decide +kernel
theorem dX12_plant_13 : decode cX12_plant 13 = .ok (.aload_n 0, 1) := by decide +kernel
theorem dX12_plant_14 : decode cX12_plant 14 = .ok (.invokevirtual 247, 3) := by decide +kernel
theorem dX12_plant_17 : decode cX12_plant 17 = .ok (.ireturn, 1) := by decide +kernel
theorem dX12_plant_18 : decode cX12_plant 18 = .ok (.iload_n 2, 1) := by decide +kernel
theorem dX12_plant_19 : decode cX12_plant 19 = .ok (.tableswitch 123 0 7 #[45, 55, 65, 79, 89, 96, 106, 113], 45) := by decide +kernel
theorem dX12_plant_64 : decode cX12_plant 64 = .ok (.aload_n 0, 1) := by decide +kernel
theorem dX12_plant_65 : decode cX12_plant 65 = .ok (.getfield 98, 3) := by decide +kernel
theorem dX12_plant_68 : decode cX12_plant 68 = .ok (.bipush 26, 2) := by decide +kernel
theorem dX12_plant_70 : decode cX12_plant 70 = .ok (.iload_n 1, 1) := by decide +kernel
theorem dX12_plant_71 : decode cX12_plant 71 = .ok (.iadd, 1) := by decide +kernel
theorem dX12_plant_72 : decode cX12_plant 72 = .ok (.iaload, 1) := by decide +kernel
theorem dX12_plant_73 : decode cX12_plant 73 = .ok (.ireturn, 1) := by decide +kernel
theorem dX12_plant_74 : decode cX12_plant 74 = .ok (.aload_n 0, 1) := by decide +kernel
theorem dX12_plant_75 : decode cX12_plant 75 = .ok (.getfield 98, 3) := by decide +kernel
theorem dX12_plant_78 : decode cX12_plant 78 = .ok (.bipush 17, 2) := by decide +kernel
theorem dX12_plant_80 : decode cX12_plant 80 = .ok (.iload_n 1, 1) := by decide +kernel
theorem dX12_plant_81 : decode cX12_plant 81 = .ok (.iadd, 1) := by decide +kernel
theorem dX12_plant_82 : decode cX12_plant 82 = .ok (.iaload, 1) := by decide +kernel
theorem dX12_plant_83 : decode cX12_plant 83 = .ok (.ireturn, 1) := by decide +kernel
theorem dX12_plant_84 : decode cX12_plant 84 = .ok (.aload_n 0, 1) := by decide +kernel
theorem dX12_plant_85 : decode cX12_plant 85 = .ok (.iload_n 1, 1) := by decide +kernel
theorem dX12_plant_86 : decode cX12_plant 86 = .ok (.invokevirtual 218, 3) := by decide +kernel
theorem dX12_plant_89 : decode cX12_plant 89 = .ok (.ifCond .eq 7, 3) := by decide +kernel
theorem dX12_plant_92 : decode cX12_plant 92 = .ok (.iconst 1, 1) := by decide +kernel
theorem dX12_plant_93 : decode cX12_plant 93 = .ok (.goto 4, 3) := by decide +kernel
theorem dX12_plant_96 : decode cX12_plant 96 = .ok (.iconst 0, 1) := by decide +kernel
theorem dX12_plant_97 : decode cX12_plant 97 = .ok (.ireturn, 1) := by decide +kernel
theorem dX12_plant_98 : decode cX12_plant 98 = .ok (.aload_n 0, 1) := by decide +kernel
theorem dX12_plant_99 : decode cX12_plant 99 = .ok (.getfield 98, 3) := by decide +kernel
theorem dX12_plant_102 : decode cX12_plant 102 = .ok (.bipush 32, 2) := by decide +kernel
theorem dX12_plant_104 : decode cX12_plant 104 = .ok (.iload_n 1, 1) := by decide +kernel
theorem dX12_plant_105 : decode cX12_plant 105 = .ok (.iadd, 1) := by decide +kernel
theorem dX12_plant_106 : decode cX12_plant 106 = .ok (.iaload, 1) := by decide +kernel
theorem dX12_plant_107 : decode cX12_plant 107 = .ok (.ireturn, 1) := by decide +kernel
theorem dX12_plant_108 : decode cX12_plant 108 = .ok (.aload_n 0, 1) := by decide +kernel
theorem dX12_plant_109 : decode cX12_plant 109 = .ok (.iload_n 1, 1) := by decide +kernel
theorem dX12_plant_110 : decode cX12_plant 110 = .ok (.iconst 0, 1) := by decide +kernel
theorem dX12_plant_111 : decode cX12_plant 111 = .ok (.invokevirtual 250, 3) := by decide +kernel
theorem dX12_plant_114 : decode cX12_plant 114 = .ok (.ireturn, 1) := by decide +kernel
theorem dX12_plant_115 : decode cX12_plant 115 = .ok (.aload_n 0, 1) := by decide +kernel
theorem dX12_plant_116 : decode cX12_plant 116 = .ok (.iload_n 1, 1) := by decide +kernel
theorem dX12_plant_117 : decode cX12_plant 117 = .ok (.iconst 1, 1) := by decide +kernel
theorem dX12_plant_118 : decode cX12_plant 118 = .ok (.invokevirtual 253, 3) := by decide +kernel
theorem dX12_plant_121 : decode cX12_plant 121 = .ok (.invokestatic 238, 3) := by decide +kernel
theorem dX12_plant_124 : decode cX12_plant 124 = .ok (.ireturn, 1) := by decide +kernel
theorem dX12_plant_125 : decode cX12_plant 125 = .ok (.aload_n 0, 1) := by decide +kernel
theorem dX12_plant_126 : decode cX12_plant 126 = .ok (.iload_n 1, 1) := by decide +kernel
theorem dX12_plant_127 : decode cX12_plant 127 = .ok (.iconst 1, 1) := by decide +kernel
theorem dX12_plant_128 : decode cX12_plant 128 = .ok (.invokevirtual 253, 3) := by decide +kernel
theorem dX12_plant_131 : decode cX12_plant 131 = .ok (.ireturn, 1) := by decide +kernel
theorem dX12_plant_132 : decode cX12_plant 132 = .ok (.aload_n 0, 1) := by decide +kernel
theorem dX12_plant_133 : decode cX12_plant 133 = .ok (.iload_n 1, 1) := by decide +kernel
theorem dX12_plant_134 : decode cX12_plant 134 = .ok (.iconst 0, 1) := by decide +kernel
theorem dX12_plant_135 : decode cX12_plant 135 = .ok (.invokevirtual 253, 3) := by decide +kernel
theorem dX12_plant_138 : decode cX12_plant 138 = .ok (.invokestatic 238, 3) := by decide +kernel
theorem dX12_plant_141 : decode cX12_plant 141 = .ok (.ireturn, 1) := by decide +kernel
theorem dX12_plant_142 : decode cX12_plant 142 = .ok (.aload_n 0, 1) := by decide +kernel
theorem dX12_plant_143 : decode cX12_plant 143 = .ok (.invokevirtual 247, 3) := by decide +kernel
theorem dX12_plant_146 : decode cX12_plant 146 = .ok (.ireturn, 1) := by decide +kernel
theorem dX12_proves_0 : decode cX12_proves 0 = .ok (.aload_n 0, 1) := by decide +kernel
theorem dX12_proves_1 : decode cX12_proves 1 = .ok (.iconst 0, 1) := by decide +kernel
theorem dX12_proves_2 : decode cX12_proves 2 = .ok (.putfield 1, 3) := by decide +kernel
theorem dX12_proves_5 : decode cX12_proves 5 = .ok (.aload_n 0, 1) := by decide +kernel
theorem dX12_proves_6 : decode cX12_proves 6 = .ok (.iload_n 1, 1) := by decide +kernel
theorem dX12_proves_7 : decode cX12_proves 7 = .ok (.invokevirtual 256, 3) := by decide +kernel
theorem dX12_proves_10 : decode cX12_proves 10 = .ok (.ifCond .ne 5, 3) := by decide +kernel
theorem dX12_proves_13 : decode cX12_proves 13 = .ok (.iconst (-1), 1) := by decide +kernel
theorem dX12_proves_14 : decode cX12_proves 14 = .ok (.ireturn, 1) := by decide +kernel
theorem dX12_proves_15 : decode cX12_proves 15 = .ok (.iconst (-1), 1) := by decide +kernel
theorem dX12_proves_16 : decode cX12_proves 16 = .ok (.istore_n 2, 1) := by decide +kernel
theorem dX12_proves_17 : decode cX12_proves 17 = .ok (.iconst 0, 1) := by decide +kernel
theorem dX12_proves_18 : decode cX12_proves 18 = .ok (.istore_n 3, 1) := by decide +kernel
theorem dX12_proves_19 : decode cX12_proves 19 = .ok (.iload_n 3, 1) := by decide +kernel
theorem dX12_proves_20 : decode cX12_proves 20 = .ok (.aload_n 0, 1) := by decide +kernel
theorem dX12_proves_21 : decode cX12_proves 21 = .ok (.getfield 98, 3) := by decide +kernel
theorem dX12_proves_24 : decode cX12_proves 24 = .ok (.iconst 1, 1) := by decide +kernel
theorem dX12_proves_25 : decode cX12_proves 25 = .ok (.iaload, 1) := by decide +kernel
theorem dX12_proves_26 : decode cX12_proves 26 = .ok (.if_icmp .ge 97, 3) := by decide +kernel
theorem dX12_proves_29 : decode cX12_proves 29 = .ok (.aload_n 0, 1) := by decide +kernel
theorem dX12_proves_30 : decode cX12_proves 30 = .ok (.iload_n 3, 1) := by decide +kernel
theorem dX12_proves_31 : decode cX12_proves 31 = .ok (.iload_n 1, 1) := by decide +kernel
theorem dX12_proves_32 : decode cX12_proves 32 = .ok (.invokevirtual 224, 3) := by decide +kernel
theorem dX12_proves_35 : decode cX12_proves 35 = .ok (.istore 4, 2) := by decide +kernel
theorem dX12_proves_37 : decode cX12_proves 37 = .ok (.iconst 0, 1) := by decide +kernel
theorem dX12_proves_38 : decode cX12_proves 38 = .ok (.istore 5, 2) := by decide +kernel
theorem dX12_proves_40 : decode cX12_proves 40 = .ok (.iconst 0, 1) := by decide +kernel
theorem dX12_proves_41 : decode cX12_proves 41 = .ok (.istore 6, 2) := by decide +kernel
theorem dX12_proves_43 : decode cX12_proves 43 = .ok (.iload 6, 2) := by decide +kernel
theorem dX12_proves_45 : decode cX12_proves 45 = .ok (.aload_n 0, 1) := by decide +kernel
theorem dX12_proves_46 : decode cX12_proves 46 = .ok (.getfield 98, 3) := by decide +kernel
theorem dX12_proves_49 : decode cX12_proves 49 = .ok (.iconst 1, 1) := by decide +kernel
theorem dX12_proves_50 : decode cX12_proves 50 = .ok (.iaload, 1) := by decide +kernel
theorem dX12_proves_51 : decode cX12_proves 51 = .ok (.if_icmp .ge 35, 3) := by decide +kernel
theorem dX12_proves_54 : decode cX12_proves 54 = .ok (.aload_n 0, 1) := by decide +kernel
theorem dX12_proves_55 : decode cX12_proves 55 = .ok (.iload 6, 2) := by decide +kernel
theorem dX12_proves_57 : decode cX12_proves 57 = .ok (.iload_n 1, 1) := by decide +kernel
theorem dX12_proves_58 : decode cX12_proves 58 = .ok (.invokevirtual 224, 3) := by decide +kernel
theorem dX12_proves_61 : decode cX12_proves 61 = .ok (.iconst (-1), 1) := by decide +kernel
theorem dX12_proves_62 : decode cX12_proves 62 = .ok (.if_icmp .eq 18, 3) := by decide +kernel
theorem dX12_proves_65 : decode cX12_proves 65 = .ok (.aload_n 0, 1) := by decide +kernel
theorem dX12_proves_66 : decode cX12_proves 66 = .ok (.iload 6, 2) := by decide +kernel
theorem dX12_proves_68 : decode cX12_proves 68 = .ok (.iload_n 1, 1) := by decide +kernel
theorem dX12_proves_69 : decode cX12_proves 69 = .ok (.invokevirtual 224, 3) := by decide +kernel
theorem dX12_proves_72 : decode cX12_proves 72 = .ok (.iload 4, 2) := by decide +kernel
theorem dX12_proves_74 : decode cX12_proves 74 = .ok (.if_icmp .gt 6, 3) := by decide +kernel
theorem dX12_proves_77 : decode cX12_proves 77 = .ok (.iinc 5 1, 3) := by decide +kernel
theorem dX12_proves_80 : decode cX12_proves 80 = .ok (.iinc 6 1, 3) := by decide +kernel
theorem dX12_proves_83 : decode cX12_proves 83 = .ok (.goto (-40), 3) := by decide +kernel
theorem dX12_proves_86 : decode cX12_proves 86 = .ok (.iload 4, 2) := by decide +kernel
theorem dX12_proves_88 : decode cX12_proves 88 = .ok (.iconst (-1), 1) := by decide +kernel
theorem dX12_proves_89 : decode cX12_proves 89 = .ok (.if_icmp .eq 28, 3) := by decide +kernel
theorem dX12_proves_92 : decode cX12_proves 92 = .ok (.iload 5, 2) := by decide +kernel
theorem dX12_proves_94 : decode cX12_proves 94 = .ok (.aload_n 0, 1) := by decide +kernel
theorem dX12_proves_95 : decode cX12_proves 95 = .ok (.getfield 98, 3) := by decide +kernel
theorem dX12_proves_98 : decode cX12_proves 98 = .ok (.iconst 5, 1) := by decide +kernel
theorem dX12_proves_99 : decode cX12_proves 99 = .ok (.iaload, 1) := by decide +kernel
theorem dX12_proves_100 : decode cX12_proves 100 = .ok (.if_icmp .lt 17, 3) := by decide +kernel
theorem dX12_proves_103 : decode cX12_proves 103 = .ok (.iload_n 2, 1) := by decide +kernel
theorem dX12_proves_104 : decode cX12_proves 104 = .ok (.iconst (-1), 1) := by decide +kernel
theorem dX12_proves_105 : decode cX12_proves 105 = .ok (.if_icmp .eq 9, 3) := by decide +kernel
theorem dX12_proves_108 : decode cX12_proves 108 = .ok (.iload 4, 2) := by decide +kernel
theorem dX12_proves_110 : decode cX12_proves 110 = .ok (.iload_n 2, 1) := by decide +kernel
theorem dX12_proves_111 : decode cX12_proves 111 = .ok (.if_icmp .ge 6, 3) := by decide +kernel
theorem dX12_proves_114 : decode cX12_proves 114 = .ok (.iload 4, 2) := by decide +kernel
theorem dX12_proves_116 : decode cX12_proves 116 = .ok (.istore_n 2, 1) := by decide +kernel
theorem dX12_proves_117 : decode cX12_proves 117 = .ok (.iinc 3 1, 3) := by decide +kernel
theorem dX12_proves_120 : decode cX12_proves 120 = .ok (.goto (-101), 3) := by decide +kernel
theorem dX12_proves_123 : decode cX12_proves 123 = .ok (.iload_n 2, 1) := by decide +kernel
theorem dX12_proves_124 : decode cX12_proves 124 = .ok (.sipush 400, 3) := by decide +kernel
theorem dX12_proves_127 : decode cX12_proves 127 = .ok (.if_icmp .le 7, 3) := by decide +kernel
theorem dX12_proves_130 : decode cX12_proves 130 = .ok (.iconst (-1), 1) := by decide +kernel
theorem dX12_proves_131 : decode cX12_proves 131 = .ok (.goto 4, 3) := by decide +kernel
theorem dX12_proves_134 : decode cX12_proves 134 = .ok (.iload_n 2, 1) := by decide +kernel
theorem dX12_proves_135 : decode cX12_proves 135 = .ok (.ireturn, 1) := by decide +kernel
theorem dX12_saysOne_0 : decode cX12_saysOne 0 = .ok (.iconst 4, 1) := by decide +kernel
theorem dX12_saysOne_1 : decode cX12_saysOne 1 = .ok (.aload_n 0, 1) := by decide +kernel
theorem dX12_saysOne_2 : decode cX12_saysOne 2 = .ok (.getfield 403, 3) := by decide +kernel
theorem dX12_saysOne_5 : decode cX12_saysOne 5 = .ok (.imul, 1) := by decide +kernel
theorem dX12_saysOne_6 : decode cX12_saysOne 6 = .ok (.istore 5, 2) := by decide +kernel
theorem dX12_saysOne_8 : decode cX12_saysOne 8 = .ok (.aload_n 0, 1) := by decide +kernel
theorem dX12_saysOne_9 : decode cX12_saysOne 9 = .ok (.getfield 154, 3) := by decide +kernel
theorem dX12_saysOne_12 : decode cX12_saysOne 12 = .ok (.iload 5, 2) := by decide +kernel
theorem dX12_saysOne_14 : decode cX12_saysOne 14 = .ok (.iload_n 1, 1) := by decide +kernel
theorem dX12_saysOne_15 : decode cX12_saysOne 15 = .ok (.iastore, 1) := by decide +kernel
theorem dX12_saysOne_16 : decode cX12_saysOne 16 = .ok (.aload_n 0, 1) := by decide +kernel
theorem dX12_saysOne_17 : decode cX12_saysOne 17 = .ok (.getfield 154, 3) := by decide +kernel
theorem dX12_saysOne_20 : decode cX12_saysOne 20 = .ok (.iload 5, 2) := by decide +kernel
theorem dX12_saysOne_22 : decode cX12_saysOne 22 = .ok (.iconst 1, 1) := by decide +kernel
theorem dX12_saysOne_23 : decode cX12_saysOne 23 = .ok (.iadd, 1) := by decide +kernel
theorem dX12_saysOne_24 : decode cX12_saysOne 24 = .ok (.iload_n 2, 1) := by decide +kernel
theorem dX12_saysOne_25 : decode cX12_saysOne 25 = .ok (.iastore, 1) := by decide +kernel
theorem dX12_saysOne_26 : decode cX12_saysOne 26 = .ok (.aload_n 0, 1) := by decide +kernel
theorem dX12_saysOne_27 : decode cX12_saysOne 27 = .ok (.getfield 154, 3) := by decide +kernel
theorem dX12_saysOne_30 : decode cX12_saysOne 30 = .ok (.iload 5, 2) := by decide +kernel
theorem dX12_saysOne_32 : decode cX12_saysOne 32 = .ok (.iconst 2, 1) := by decide +kernel
theorem dX12_saysOne_33 : decode cX12_saysOne 33 = .ok (.iadd, 1) := by decide +kernel
theorem dX12_saysOne_34 : decode cX12_saysOne 34 = .ok (.iload_n 3, 1) := by decide +kernel
theorem dX12_saysOne_35 : decode cX12_saysOne 35 = .ok (.iastore, 1) := by decide +kernel
theorem dX12_saysOne_36 : decode cX12_saysOne 36 = .ok (.aload_n 0, 1) := by decide +kernel
theorem dX12_saysOne_37 : decode cX12_saysOne 37 = .ok (.getfield 154, 3) := by decide +kernel
theorem dX12_saysOne_40 : decode cX12_saysOne 40 = .ok (.iload 5, 2) := by decide +kernel
theorem dX12_saysOne_42 : decode cX12_saysOne 42 = .ok (.iconst 3, 1) := by decide +kernel
theorem dX12_saysOne_43 : decode cX12_saysOne 43 = .ok (.iadd, 1) := by decide +kernel
theorem dX12_saysOne_44 : decode cX12_saysOne 44 = .ok (.iload 4, 2) := by decide +kernel
theorem dX12_saysOne_46 : decode cX12_saysOne 46 = .ok (.iastore, 1) := by decide +kernel
theorem dX12_saysOne_47 : decode cX12_saysOne 47 = .ok (.aload_n 0, 1) := by decide +kernel
theorem dX12_saysOne_48 : decode cX12_saysOne 48 = .ok (.dup, 1) := by decide +kernel
theorem dX12_saysOne_49 : decode cX12_saysOne 49 = .ok (.getfield 403, 3) := by decide +kernel
theorem dX12_saysOne_52 : decode cX12_saysOne 52 = .ok (.iconst 1, 1) := by decide +kernel
theorem dX12_saysOne_53 : decode cX12_saysOne 53 = .ok (.iadd, 1) := by decide +kernel
theorem dX12_saysOne_54 : decode cX12_saysOne 54 = .ok (.putfield 403, 3) := by decide +kernel
theorem dX12_saysOne_57 : decode cX12_saysOne 57 = .ok (.aload_n 0, 1) := by decide +kernel
theorem dX12_saysOne_58 : decode cX12_saysOne 58 = .ok (.getfield 403, 3) := by decide +kernel
theorem dX12_saysOne_61 : decode cX12_saysOne 61 = .ok (.iconst 1, 1) := by decide +kernel
theorem dX12_saysOne_62 : decode cX12_saysOne 62 = .ok (.isub, 1) := by decide +kernel
theorem dX12_saysOne_63 : decode cX12_saysOne 63 = .ok (.ireturn, 1) := by decide +kernel
theorem dX12_readCompare_0 : decode cX12_readCompare 0 = .ok (.aload_n 0, 1) := by decide +kernel
theorem dX12_readCompare_1 : decode cX12_readCompare 1 = .ok (.bipush 60, 2) := by decide +kernel
theorem dX12_readCompare_3 : decode cX12_readCompare 3 = .ok (.invokevirtual 86, 3) := by decide +kernel
theorem dX12_readCompare_6 : decode cX12_readCompare 6 = .ok (.ifCond .ne 27, 3) := by decide +kernel
theorem dX12_readCompare_9 : decode cX12_readCompare 9 = .ok (.aload_n 0, 1) := by decide +kernel
theorem dX12_readCompare_10 : decode cX12_readCompare 10 = .ok (.bipush 61, 2) := by decide +kernel
theorem dX12_readCompare_12 : decode cX12_readCompare 12 = .ok (.invokevirtual 86, 3) := by decide +kernel
theorem dX12_readCompare_15 : decode cX12_readCompare 15 = .ok (.ifCond .ne 18, 3) := by decide +kernel
theorem dX12_readCompare_18 : decode cX12_readCompare 18 = .ok (.aload_n 0, 1) := by decide +kernel
theorem dX12_readCompare_19 : decode cX12_readCompare 19 = .ok (.bipush 62, 2) := by decide +kernel
theorem dX12_readCompare_21 : decode cX12_readCompare 21 = .ok (.invokevirtual 86, 3) := by decide +kernel
theorem dX12_readCompare_24 : decode cX12_readCompare 24 = .ok (.ifCond .ne 9, 3) := by decide +kernel
theorem dX12_readCompare_27 : decode cX12_readCompare 27 = .ok (.aload_n 0, 1) := by decide +kernel
theorem dX12_readCompare_28 : decode cX12_readCompare 28 = .ok (.iconst 1, 1) := by decide +kernel
theorem dX12_readCompare_29 : decode cX12_readCompare 29 = .ok (.invokevirtual 72, 3) := by decide +kernel
theorem dX12_readCompare_32 : decode cX12_readCompare 32 = .ok (.ireturn, 1) := by decide +kernel
theorem dX12_readCompare_33 : decode cX12_readCompare 33 = .ok (.aload_n 0, 1) := by decide +kernel
theorem dX12_readCompare_34 : decode cX12_readCompare 34 = .ok (.getfield 40, 3) := by decide +kernel
theorem dX12_readCompare_37 : decode cX12_readCompare 37 = .ok (.istore_n 2, 1) := by decide +kernel
theorem dX12_readCompare_38 : decode cX12_readCompare 38 = .ok (.aload_n 0, 1) := by decide +kernel
theorem dX12_readCompare_39 : decode cX12_readCompare 39 = .ok (.invokevirtual 82, 3) := by decide +kernel
theorem dX12_readCompare_42 : decode cX12_readCompare 42 = .ok (.aload_n 0, 1) := by decide +kernel
theorem dX12_readCompare_43 : decode cX12_readCompare 43 = .ok (.iconst 0, 1) := by decide +kernel
theorem dX12_readCompare_44 : decode cX12_readCompare 44 = .ok (.sipush 999, 3) := by decide +kernel
theorem dX12_readCompare_47 : decode cX12_readCompare 47 = .ok (.invokevirtual 188, 3) := by decide +kernel
theorem dX12_readCompare_50 : decode cX12_readCompare 50 = .ok (.ifCond .ne 5, 3) := by decide +kernel
theorem dX12_readCompare_53 : decode cX12_readCompare 53 = .ok (.iconst 0, 1) := by decide +kernel
theorem dX12_readCompare_54 : decode cX12_readCompare 54 = .ok (.ireturn, 1) := by decide +kernel
theorem dX12_readCompare_55 : decode cX12_readCompare 55 = .ok (.aload_n 0, 1) := by decide +kernel
theorem dX12_readCompare_56 : decode cX12_readCompare 56 = .ok (.aload_n 0, 1) := by decide +kernel
theorem dX12_readCompare_57 : decode cX12_readCompare 57 = .ok (.bipush 50, 2) := by decide +kernel
theorem dX12_readCompare_59 : decode cX12_readCompare 59 = .ok (.iload_n 1, 1) := by decide +kernel
theorem dX12_readCompare_60 : decode cX12_readCompare 60 = .ok (.iadd, 1) := by decide +kernel
theorem dX12_readCompare_61 : decode cX12_readCompare 61 = .ok (.iconst 0, 1) := by decide +kernel
theorem dX12_readCompare_62 : decode cX12_readCompare 62 = .ok (.aload_n 0, 1) := by decide +kernel
theorem dX12_readCompare_63 : decode cX12_readCompare 63 = .ok (.getfield 79, 3) := by decide +kernel
theorem dX12_readCompare_66 : decode cX12_readCompare 66 = .ok (.iload_n 2, 1) := by decide +kernel
theorem dX12_readCompare_67 : decode cX12_readCompare 67 = .ok (.invokevirtual 412, 3) := by decide +kernel
theorem dX12_readCompare_70 : decode cX12_readCompare 70 = .ok (.putfield 409, 3) := by decide +kernel
theorem dX12_readCompare_73 : decode cX12_readCompare 73 = .ok (.iconst 1, 1) := by decide +kernel
theorem dX12_readCompare_74 : decode cX12_readCompare 74 = .ok (.ireturn, 1) := by decide +kernel
-- X12_startSo
abbrev rmX12_startSo : Room := { frames := 0, cells := 0, slots := 0, locals := 0 }
def fX12_startSo_48  (t : (zSt × Int32)) : Option ((zSt × Int32) ⊕ zSt) :=
  match t with
  | (S, v1) => zBr ((6 : Int32) ≤ v1) (zXr (some S)) (zGd (zIx ((11 : Int32) + v1) 406) (zGd (zIx ((26 : Int32) + v1) 406) (zLt (zI S 2 ((26 : Int32) + v1).toNatClampNeg (S.1 2 ((11 : Int32) + v1).toNatClampNeg)) (fun S9 => zLt (v1 + (1 : Int32)) (fun x10 => some (.inl (S9, x10)))))))
set_option maxHeartbeats 4000000 in
set_option maxRecDepth 100000 in
theorem kX12_startSo_48B {p : Program} {l : Launch} {e : Env} {s : State} {m : MethodId} {args : Array Value} {below : List Frame} {meth : Method} {c : Code} {D : va_G} {cy : Nat → ClassId} {q : Nat → Nat} {A : Nat → Prop} (cx : zX RX12 cX12_startSo 2 p s m args c D cy) (hr : meth.sig.returnType = none) (hlk : meth.locks = false) (hq : zQ A q zNM) {z : zSt} {S : zSt} {v1 : Int32} {C1 : ((zSt × Int32) ⊕ zSt) → Prop} (hb1 : ∀ (S : zSt) (v1 : Int32), C1 (.inl (S, v1)) → ∀ (H : Heap) (locs : List Loc), va_P D vwCl (zW zshM zNM cy q S) H → va_S A s.heap H locs → ∀ (ls : Array Slot), lv_has ls 2 [(0, .ref (q 0)), (1, .int v1)] → W p l e rmX12_startSo s m args below meth c H locs 0 0 (MQ below (va_Qv (fun (u : zSt) => u = z) (fun u t => va_P D vwCl (zW zshM zNM cy q u) t.heap) A) args s 0 0 A) (F0 m 48 ls [])) (hx1 : ∀ a, C1 (.inr a) → a = z) {x : ((zSt × Int32) ⊕ zSt)} (h : fX12_startSo_48 (S, v1) = some x) (hc : C1 x) {H : Heap} {locs : List Loc} (hP : va_P D vwCl (zW zshM zNM cy q S) H) (hS : va_S A s.heap H locs) {ls : Array Slot} (hl : lv_has ls 2 [(0, .ref (q 0)), (1, .int v1)]) : W p l e rmX12_startSo s m args below meth c H locs 0 0 (MQ below (va_Qv (fun (u : zSt) => u = z) (fun u t => va_P D vwCl (zW zshM zNM cy q u) t.heap) A) args s 0 0 A) (F0 m 48 ls []) := by
  have hx := cx.1
  have hb := cx.2.1
  unfold fX12_startSo_48 at h
  dsimp only at h
  refine lv_iload_n (pc := 48) hx hb dX12_startSo_48 rfl (lv_at hl 1 rfl) ?_
  refine lv_bipush (pc := 49) hx hb dX12_startSo_49 zb_6 ?_
  refine lv_icmp_ge (pc := 51) (tgt := 78) hx hb dX12_startSo_51 (by decide) (fun c5 => ?_) (fun c5 => ?_)
  · replace h := zBr_t c5 h
    obtain ⟨y6, h, ex⟩ := zXr_e h
    have hc := hx1 y6 (by rw [ex] at hc; exact hc)
    rw [hc] at h
    have hz := Option.some.inj h
    exact zr_rqV (pc := 78) cx hr hlk hP hS hz dX12_startSo_78
  · replace h := zBr_f c5 h
    refine lv_aload_n (pc := 54) hx hb dX12_startSo_54 rfl (lv_at hl 0 rfl) ?_
    refine zr_getR (pc := 55) (t := 2) cx lk_X12_98 hP nM_0 sM_0 rfl dX12_startSo_55 ?_
    refine lv_bipush (pc := 58) hx hb dX12_startSo_58 zb_26 ?_
    refine lv_iload_n (pc := 60) hx hb dX12_startSo_60 rfl (lv_at hl 1 rfl) ?_
    refine lv_iadd (pc := 61) hx hb dX12_startSo_61 ?_
    refine lv_aload_n (pc := 62) hx hb dX12_startSo_62 rfl (lv_at hl 0 rfl) ?_
    refine zr_getR (pc := 63) (t := 2) cx lk_X12_98 hP nM_0 sM_0 rfl dX12_startSo_63 ?_
    refine lv_bipush (pc := 66) hx hb dX12_startSo_66 zb_11 ?_
    refine lv_iload_n (pc := 68) hx hb dX12_startSo_68 rfl (lv_at hl 1 rfl) ?_
    refine lv_iadd (pc := 69) hx hb dX12_startSo_69 ?_
    obtain ⟨g7, h⟩ := zGd_e h
    refine zr_iald (pc := 70) cx hP nM_2 sM_2 g7 dX12_startSo_70 ?_
    obtain ⟨g8, h⟩ := zGd_e h
    obtain ⟨S9, eS9, h⟩ := zLt_e h
    refine zr_iast (pc := 71) cx hq hP hS nM_2 sM_2 g8 dX12_startSo_71 (fun H locs hP hS => ?_)
    rw [← eS9] at hP
    obtain ⟨x10, ex10, h⟩ := zLt_e h
    refine lv_iinc (v := x10) (lv' := [(1, .int x10), (0, .ref (q 0))]) (pc := 72) hx hb dX12_startSo_72 hl (k := 1) rfl (by rw [zc_1]; exact ex10.symm) (by decide) rfl (fun ls hl => ?_)
    refine lv_goto (pc := 75) (tgt := 48) hx hb dX12_startSo_75 (by decide) ?_
    cases h
    exact hb1 _ _ hc _ _ hP hS _ (lv_sub hl [1, 0] rfl)
set_option maxHeartbeats 4000000 in
set_option maxRecDepth 100000 in
theorem kX12_startSo_48 {p : Program} {l : Launch} {e : Env} {s : State} {m : MethodId} {args : Array Value} {below : List Frame} {meth : Method} {c : Code} {D : va_G} {cy : Nat → ClassId} {q : Nat → Nat} {A : Nat → Prop} (cx : zX RX12 cX12_startSo 2 p s m args c D cy) (hr : meth.sig.returnType = none) (hlk : meth.locks = false) (hq : zQ A q zNM) {z : zSt} : ∀ (n : Nat) (S : zSt) (v1 : Int32), zLp (fX12_startSo_48) n (S, v1) = some z → ∀ (H : Heap) (locs : List Loc), va_P D vwCl (zW zshM zNM cy q S) H → va_S A s.heap H locs → ∀ (ls : Array Slot), lv_has ls 2 [(0, .ref (q 0)), (1, .int v1)] → W p l e rmX12_startSo s m args below meth c H locs 0 0 (MQ below (va_Qv (fun (u : zSt) => u = z) (fun u t => va_P D vwCl (zW zshM zNM cy q u) t.heap) A) args s 0 0 A) (F0 m 48 ls []) := by
  intro n
  induction n with
  | zero =>
    intro S v1 h
    cases h
  | succ n ih =>
    intro S v1 h H locs hP hS ls hl
    obtain ⟨x, h, hk⟩ := zLp_e h
    exact kX12_startSo_48B cx hr hlk hq  (C1 := zKt (fun t => zLp (fX12_startSo_48) n t = some z) (fun a => a = z)) (fun S v1 ht H locs hP hS ls hl => ih S v1 ht H locs hP hS ls hl) (fun a ha => ha) h hk hP hS hl
def fX12_startSo_26  (t : (zSt × Int32)) : Option ((zSt × Int32) ⊕ zSt) :=
  match t with
  | (S, v1) => zBr ((164 : Int32) ≤ v1) (zXr (zLp (fX12_startSo_48) 2000 (S, (0 : Int32)))) (zGd (zIx v1 406) (zLt (zI S 2 v1.toNatClampNeg (-1 : Int32)) (fun S12 => zLt (v1 + (1 : Int32)) (fun x13 => some (.inl (S12, x13))))))
set_option maxHeartbeats 4000000 in
set_option maxRecDepth 100000 in
theorem kX12_startSo_26B {p : Program} {l : Launch} {e : Env} {s : State} {m : MethodId} {args : Array Value} {below : List Frame} {meth : Method} {c : Code} {D : va_G} {cy : Nat → ClassId} {q : Nat → Nat} {A : Nat → Prop} (cx : zX RX12 cX12_startSo 2 p s m args c D cy) (hr : meth.sig.returnType = none) (hlk : meth.locks = false) (hq : zQ A q zNM) {z : zSt} {S : zSt} {v1 : Int32} {C1 : ((zSt × Int32) ⊕ zSt) → Prop} (hb1 : ∀ (S : zSt) (v1 : Int32), C1 (.inl (S, v1)) → ∀ (H : Heap) (locs : List Loc), va_P D vwCl (zW zshM zNM cy q S) H → va_S A s.heap H locs → ∀ (ls : Array Slot), lv_has ls 2 [(0, .ref (q 0)), (1, .int v1)] → W p l e rmX12_startSo s m args below meth c H locs 0 0 (MQ below (va_Qv (fun (u : zSt) => u = z) (fun u t => va_P D vwCl (zW zshM zNM cy q u) t.heap) A) args s 0 0 A) (F0 m 26 ls [])) (hx1 : ∀ a, C1 (.inr a) → a = z) {x : ((zSt × Int32) ⊕ zSt)} (h : fX12_startSo_26 (S, v1) = some x) (hc : C1 x) {H : Heap} {locs : List Loc} (hP : va_P D vwCl (zW zshM zNM cy q S) H) (hS : va_S A s.heap H locs) {ls : Array Slot} (hl : lv_has ls 2 [(0, .ref (q 0)), (1, .int v1)]) : W p l e rmX12_startSo s m args below meth c H locs 0 0 (MQ below (va_Qv (fun (u : zSt) => u = z) (fun u t => va_P D vwCl (zW zshM zNM cy q u) t.heap) A) args s 0 0 A) (F0 m 26 ls []) := by
  have hx := cx.1
  have hb := cx.2.1
  unfold fX12_startSo_26 at h
  dsimp only at h
  refine lv_iload_n (pc := 26) hx hb dX12_startSo_26 rfl (lv_at hl 1 rfl) ?_
  refine lv_sipush (pc := 27) hx hb dX12_startSo_27 zs_164 ?_
  refine lv_icmp_ge (pc := 30) (tgt := 46) hx hb dX12_startSo_30 (by decide) (fun c3 => ?_) (fun c3 => ?_)
  · replace h := zBr_t c3 h
    obtain ⟨y4, h, ex⟩ := zXr_e h
    have hc := hx1 y4 (by rw [ex] at hc; exact hc)
    rw [hc] at h
    refine lv_iconst (pc := 46) hx hb dX12_startSo_46 zc_0 ?_
    refine lv_istore_n (lv' := [(1, .int (0 : Int32)), (0, .ref (q 0))]) (pc := 47) hx hb dX12_startSo_47 rfl hl (by decide) rfl (fun ls hl => ?_)
    exact kX12_startSo_48 cx hr hlk hq 2000 _ _ h _ _ hP hS _ (lv_sub hl [1, 0] rfl)
  · replace h := zBr_f c3 h
    refine lv_aload_n (pc := 33) hx hb dX12_startSo_33 rfl (lv_at hl 0 rfl) ?_
    refine zr_getR (pc := 34) (t := 2) cx lk_X12_98 hP nM_0 sM_0 rfl dX12_startSo_34 ?_
    refine lv_iload_n (pc := 37) hx hb dX12_startSo_37 rfl (lv_at hl 1 rfl) ?_
    refine lv_iconst (pc := 38) hx hb dX12_startSo_38 zc_m1 ?_
    obtain ⟨g11, h⟩ := zGd_e h
    obtain ⟨S12, eS12, h⟩ := zLt_e h
    refine zr_iast (pc := 39) cx hq hP hS nM_2 sM_2 g11 dX12_startSo_39 (fun H locs hP hS => ?_)
    rw [← eS12] at hP
    obtain ⟨x13, ex13, h⟩ := zLt_e h
    refine lv_iinc (v := x13) (lv' := [(1, .int x13), (0, .ref (q 0))]) (pc := 40) hx hb dX12_startSo_40 hl (k := 1) rfl (by rw [zc_1]; exact ex13.symm) (by decide) rfl (fun ls hl => ?_)
    refine lv_goto (pc := 43) (tgt := 26) hx hb dX12_startSo_43 (by decide) ?_
    cases h
    exact hb1 _ _ hc _ _ hP hS _ (lv_sub hl [1, 0] rfl)
set_option maxHeartbeats 4000000 in
set_option maxRecDepth 100000 in
theorem kX12_startSo_26 {p : Program} {l : Launch} {e : Env} {s : State} {m : MethodId} {args : Array Value} {below : List Frame} {meth : Method} {c : Code} {D : va_G} {cy : Nat → ClassId} {q : Nat → Nat} {A : Nat → Prop} (cx : zX RX12 cX12_startSo 2 p s m args c D cy) (hr : meth.sig.returnType = none) (hlk : meth.locks = false) (hq : zQ A q zNM) {z : zSt} : ∀ (n : Nat) (S : zSt) (v1 : Int32), zLp (fX12_startSo_26) n (S, v1) = some z → ∀ (H : Heap) (locs : List Loc), va_P D vwCl (zW zshM zNM cy q S) H → va_S A s.heap H locs → ∀ (ls : Array Slot), lv_has ls 2 [(0, .ref (q 0)), (1, .int v1)] → W p l e rmX12_startSo s m args below meth c H locs 0 0 (MQ below (va_Qv (fun (u : zSt) => u = z) (fun u t => va_P D vwCl (zW zshM zNM cy q u) t.heap) A) args s 0 0 A) (F0 m 26 ls []) := by
  intro n
  induction n with
  | zero =>
    intro S v1 h
    cases h
  | succ n ih =>
    intro S v1 h H locs hP hS ls hl
    obtain ⟨x, h, hk⟩ := zLp_e h
    exact kX12_startSo_26B cx hr hlk hq  (C1 := zKt (fun t => zLp (fX12_startSo_26) n t = some z) (fun a => a = z)) (fun S v1 ht H locs hP hS ls hl => ih S v1 ht H locs hP hS ls hl) (fun a ha => ha) h hk hP hS hl
def fX12_startSo_3  (t : (zSt × Int32)) : Option ((zSt × Int32) ⊕ zSt) :=
  match t with
  | (S, v1) => zBr ((406 : Int32) ≤ v1) (zXr (zLp (fX12_startSo_26) 2000 (S, (86 : Int32)))) (zGd (zIx v1 406) (zLt (zI S 2 v1.toNatClampNeg (0 : Int32)) (fun S15 => zLt (v1 + (1 : Int32)) (fun x16 => some (.inl (S15, x16))))))
set_option maxHeartbeats 4000000 in
set_option maxRecDepth 100000 in
theorem kX12_startSo_3B {p : Program} {l : Launch} {e : Env} {s : State} {m : MethodId} {args : Array Value} {below : List Frame} {meth : Method} {c : Code} {D : va_G} {cy : Nat → ClassId} {q : Nat → Nat} {A : Nat → Prop} (cx : zX RX12 cX12_startSo 2 p s m args c D cy) (hr : meth.sig.returnType = none) (hlk : meth.locks = false) (hq : zQ A q zNM) {z : zSt} {S : zSt} {v1 : Int32} {C1 : ((zSt × Int32) ⊕ zSt) → Prop} (hb1 : ∀ (S : zSt) (v1 : Int32), C1 (.inl (S, v1)) → ∀ (H : Heap) (locs : List Loc), va_P D vwCl (zW zshM zNM cy q S) H → va_S A s.heap H locs → ∀ (ls : Array Slot), lv_has ls 2 [(0, .ref (q 0)), (1, .int v1)] → W p l e rmX12_startSo s m args below meth c H locs 0 0 (MQ below (va_Qv (fun (u : zSt) => u = z) (fun u t => va_P D vwCl (zW zshM zNM cy q u) t.heap) A) args s 0 0 A) (F0 m 3 ls [])) (hx1 : ∀ a, C1 (.inr a) → a = z) {x : ((zSt × Int32) ⊕ zSt)} (h : fX12_startSo_3 (S, v1) = some x) (hc : C1 x) {H : Heap} {locs : List Loc} (hP : va_P D vwCl (zW zshM zNM cy q S) H) (hS : va_S A s.heap H locs) {ls : Array Slot} (hl : lv_has ls 2 [(0, .ref (q 0)), (1, .int v1)]) : W p l e rmX12_startSo s m args below meth c H locs 0 0 (MQ below (va_Qv (fun (u : zSt) => u = z) (fun u t => va_P D vwCl (zW zshM zNM cy q u) t.heap) A) args s 0 0 A) (F0 m 3 ls []) := by
  have hx := cx.1
  have hb := cx.2.1
  unfold fX12_startSo_3 at h
  dsimp only at h
  refine lv_iload_n (pc := 3) hx hb dX12_startSo_3 rfl (lv_at hl 1 rfl) ?_
  refine lv_sipush (pc := 4) hx hb dX12_startSo_4 zs_406 ?_
  refine lv_icmp_ge (pc := 7) (tgt := 23) hx hb dX12_startSo_7 (by decide) (fun c1 => ?_) (fun c1 => ?_)
  · replace h := zBr_t c1 h
    obtain ⟨y2, h, ex⟩ := zXr_e h
    have hc := hx1 y2 (by rw [ex] at hc; exact hc)
    rw [hc] at h
    refine lv_bipush (pc := 23) hx hb dX12_startSo_23 zb_86 ?_
    refine lv_istore_n (lv' := [(1, .int (86 : Int32)), (0, .ref (q 0))]) (pc := 25) hx hb dX12_startSo_25 rfl hl (by decide) rfl (fun ls hl => ?_)
    exact kX12_startSo_26 cx hr hlk hq 2000 _ _ h _ _ hP hS _ (lv_sub hl [1, 0] rfl)
  · replace h := zBr_f c1 h
    refine lv_aload_n (pc := 10) hx hb dX12_startSo_10 rfl (lv_at hl 0 rfl) ?_
    refine zr_getR (pc := 11) (t := 2) cx lk_X12_98 hP nM_0 sM_0 rfl dX12_startSo_11 ?_
    refine lv_iload_n (pc := 14) hx hb dX12_startSo_14 rfl (lv_at hl 1 rfl) ?_
    refine lv_iconst (pc := 15) hx hb dX12_startSo_15 zc_0 ?_
    obtain ⟨g14, h⟩ := zGd_e h
    obtain ⟨S15, eS15, h⟩ := zLt_e h
    refine zr_iast (pc := 16) cx hq hP hS nM_2 sM_2 g14 dX12_startSo_16 (fun H locs hP hS => ?_)
    rw [← eS15] at hP
    obtain ⟨x16, ex16, h⟩ := zLt_e h
    refine lv_iinc (v := x16) (lv' := [(1, .int x16), (0, .ref (q 0))]) (pc := 17) hx hb dX12_startSo_17 hl (k := 1) rfl (by rw [zc_1]; exact ex16.symm) (by decide) rfl (fun ls hl => ?_)
    refine lv_goto (pc := 20) (tgt := 3) hx hb dX12_startSo_20 (by decide) ?_
    cases h
    exact hb1 _ _ hc _ _ hP hS _ (lv_sub hl [1, 0] rfl)
set_option maxHeartbeats 4000000 in
set_option maxRecDepth 100000 in
theorem kX12_startSo_3 {p : Program} {l : Launch} {e : Env} {s : State} {m : MethodId} {args : Array Value} {below : List Frame} {meth : Method} {c : Code} {D : va_G} {cy : Nat → ClassId} {q : Nat → Nat} {A : Nat → Prop} (cx : zX RX12 cX12_startSo 2 p s m args c D cy) (hr : meth.sig.returnType = none) (hlk : meth.locks = false) (hq : zQ A q zNM) {z : zSt} : ∀ (n : Nat) (S : zSt) (v1 : Int32), zLp (fX12_startSo_3) n (S, v1) = some z → ∀ (H : Heap) (locs : List Loc), va_P D vwCl (zW zshM zNM cy q S) H → va_S A s.heap H locs → ∀ (ls : Array Slot), lv_has ls 2 [(0, .ref (q 0)), (1, .int v1)] → W p l e rmX12_startSo s m args below meth c H locs 0 0 (MQ below (va_Qv (fun (u : zSt) => u = z) (fun u t => va_P D vwCl (zW zshM zNM cy q u) t.heap) A) args s 0 0 A) (F0 m 3 ls []) := by
  intro n
  induction n with
  | zero =>
    intro S v1 h
    cases h
  | succ n ih =>
    intro S v1 h H locs hP hS ls hl
    obtain ⟨x, h, hk⟩ := zLp_e h
    exact kX12_startSo_3B cx hr hlk hq  (C1 := zKt (fun t => zLp (fX12_startSo_3) n t = some z) (fun a => a = z)) (fun S v1 ht H locs hP hS ls hl => ih S v1 ht H locs hP hS ls hl) (fun a ha => ha) h hk hP hS hl
def fX12_startSo (S : zSt) : Option zSt :=
  zLp (fX12_startSo_3) 2000 (S, (24 : Int32))
set_option maxHeartbeats 4000000 in
set_option maxRecDepth 100000 in
theorem mX12_startSo {l : Launch} {D : va_G} {cy : Nat → ClassId} {q : Nat → Nat} {A : Nat → Prop} {S : zSt} (hq : zQ A q zNM) {z : zSt} (h : fX12_startSo S = some z) : zMv l yX12_startSo cX12_startSo 2 none rmX12_startSo [.ref (q 0)] zshM zNM D cy q A S z := by
  refine Met.ofW (cc := cX12_startSo) (maxL := 2) (ret := none) (by decide) rfl ?_
  intro p e s m args below meth c s₁ B hml hv
  obtain ⟨rfl, hP, hK⟩ := hv
  have cx : zX RX12 cX12_startSo 2 p s m ([.ref (q 0)]).toArray c D cy := ⟨B.exec, B.bytes, hml, findClass_of_methodNamed B.named, fun w hw => atoms_spec (ws := Cond.code yX12_startSo cX12_startSo 2 none :: zTB) B.pre w (List.mem_cons_of_mem _ hw), hK⟩
  have hx := cx.1
  have hb := cx.2.1
  have hr := B.returns
  have hlk := B.notSynchronized
  have hS : va_S A s.heap s.heap [] := va_S.rf
  have hl := lv_entry ([.ref (q 0)]) (n := 2) (Nat.le_of_ble_eq_true rfl)
  rw [lg_entry_eq]
  generalize (lg_sl ([.ref (q 0)]) ++ List.replicate (2 - (lg_sl ([.ref (q 0)])).length) Slot.unset).toArray = ls at hl ⊢
  have hl : lv_has ls 2 [(0, .ref (q 0))] := hl
  unfold fX12_startSo at h
  refine lv_bipush (pc := 0) hx hb dX12_startSo_0 zb_24 ?_
  refine lv_istore_n (lv' := [(1, .int (24 : Int32)), (0, .ref (q 0))]) (pc := 2) hx hb dX12_startSo_2 rfl hl (by decide) rfl (fun ls hl => ?_)
  exact kX12_startSo_3 cx hr hlk hq 2000 _ _ h _ _ hP hS _ (lv_sub hl [1, 0] rfl)
-- X12_house
abbrev rmX12_house : Room := { frames := 6, cells := 0, slots := 0, locals := 133 }
def fX12_house_121  (v1 : Int32) (t : (zSt × Int32)) : Option ((zSt × Int32) ⊕ (Int32 × zSt)) :=
  match t with
  | (S, v2) => zBr ((20 : Int32) ≤ v2) (zXr (zBd (fX12_startSo S) (fun S20 => zLt (zI S20 0 24 (0 : Int32)) (fun S21 => some (v1, S21))))) (zGd (zIx v2 20) (zGd (zIx v2 20) (zLt (zJ S 7 v2.toNatClampNeg (S.2 8 v2.toNatClampNeg)) (fun S24 => zLt (v2 + (1 : Int32)) (fun x25 => some (.inl (S24, x25)))))))
set_option maxHeartbeats 4000000 in
set_option maxRecDepth 100000 in
theorem kX12_house_121B {p : Program} {l : Launch} {e : Env} {s : State} {m : MethodId} {args : Array Value} {below : List Frame} {meth : Method} {c : Code} {D : va_G} {cy : Nat → ClassId} {q : Nat → Nat} {A : Nat → Prop} (cx : zX RX12 cX12_house 3 p s m args c D cy) (hr : meth.sig.returnType = (some .int)) (hlk : meth.locks = false) (hq : zQ A q zNM) {z : (Int32 × zSt)} {S : zSt} {v1 : Int32} {v2 : Int32} {C1 : ((zSt × Int32) ⊕ (Int32 × zSt)) → Prop} (hb1 : ∀ (S : zSt) (v2 : Int32), C1 (.inl (S, v2)) → ∀ (H : Heap) (locs : List Loc), va_P D vwCl (zW zshM zNM cy q S) H → va_S A s.heap H locs → ∀ (ls : Array Slot), lv_has ls 3 [(0, .ref (q 0)), (1, .int v1), (2, .int v2)] → W p l e rmX12_house s m args below meth c H locs 0 0 (MQ below (va_Qi (fun (r : Int32) (u : zSt) => (r, u) = z) (fun u t => va_P D vwCl (zW zshM zNM cy q u) t.heap) A) args s 0 0 A) (F0 m 121 ls [])) (hx1 : ∀ a, C1 (.inr a) → a = z) {x : ((zSt × Int32) ⊕ (Int32 × zSt))} (h : fX12_house_121 v1 (S, v2) = some x) (hc : C1 x) {H : Heap} {locs : List Loc} (hP : va_P D vwCl (zW zshM zNM cy q S) H) (hS : va_S A s.heap H locs) {ls : Array Slot} (hl : lv_has ls 3 [(0, .ref (q 0)), (1, .int v1), (2, .int v2)]) : W p l e rmX12_house s m args below meth c H locs 0 0 (MQ below (va_Qi (fun (r : Int32) (u : zSt) => (r, u) = z) (fun u t => va_P D vwCl (zW zshM zNM cy q u) t.heap) A) args s 0 0 A) (F0 m 121 ls []) := by
  have hx := cx.1
  have hb := cx.2.1
  unfold fX12_house_121 at h
  dsimp only at h
  refine lv_iload_n (pc := 121) hx hb dX12_house_121 rfl (lv_at hl 2 rfl) ?_
  refine lv_bipush (pc := 122) hx hb dX12_house_122 zb_20 ?_
  refine lv_icmp_ge (pc := 124) (tgt := 145) hx hb dX12_house_124 (by decide) (fun c17 => ?_) (fun c17 => ?_)
  · replace h := zBr_t c17 h
    obtain ⟨y18, h, ex⟩ := zXr_e h
    have hc := hx1 y18 (by rw [ex] at hc; exact hc)
    rw [hc] at h
    refine lv_aload_n (pc := 145) hx hb dX12_house_145 rfl (lv_at hl 0 rfl) ?_
    obtain ⟨S20, k19, h⟩ := zBd_e h
    refine zr_VV (pc := 146) (rest := []) cx cv_X12_157 (mX12_startSo hq k19) ⟨⟨rfl, rfl⟩, Nat.le_of_ble_eq_true rfl, Nat.le_of_ble_eq_true rfl⟩ ⟨Nat.le_of_ble_eq_true rfl, Nat.le_of_ble_eq_true rfl⟩ hP hS nM_0 sM_0 rfl hl.1 rfl rfl (Nat.le_of_ble_eq_true rfl) dX12_house_146 (fun H locs hP hS => ?_)
    refine lv_aload_n (pc := 149) hx hb dX12_house_149 rfl (lv_at hl 0 rfl) ?_
    refine lv_iconst (pc := 150) hx hb dX12_house_150 zc_0 ?_
    obtain ⟨S21, eS21, h⟩ := zLt_e h
    refine zr_putI (pc := 151) cx lq_X12_215 hq hP hS nM_0 sM_0 rfl rfl rfl dX12_house_151 (fun H locs hP hS => ?_)
    rw [← eS21] at hP
    refine lv_iload_n (pc := 154) hx hb dX12_house_154 rfl (lv_at hl 1 rfl) ?_
    have hz := Option.some.inj h
    exact zr_rqI (pc := 155) cx hr hlk hP hS hz dX12_house_155
  · replace h := zBr_f c17 h
    refine lv_aload_n (pc := 127) hx hb dX12_house_127 rfl (lv_at hl 0 rfl) ?_
    refine zr_getR (pc := 128) (t := 7) cx lk_X12_113 hP nM_0 sM_0 rfl dX12_house_128 ?_
    refine lv_iload_n (pc := 131) hx hb dX12_house_131 rfl (lv_at hl 2 rfl) ?_
    refine lv_aload_n (pc := 132) hx hb dX12_house_132 rfl (lv_at hl 0 rfl) ?_
    refine zr_getR (pc := 133) (t := 8) cx lk_X12_117 hP nM_0 sM_0 rfl dX12_house_133 ?_
    refine lv_iload_n (pc := 136) hx hb dX12_house_136 rfl (lv_at hl 2 rfl) ?_
    obtain ⟨g22, h⟩ := zGd_e h
    refine zr_lald (pc := 137) cx hP nM_8 sM_8 g22 dX12_house_137 ?_
    obtain ⟨g23, h⟩ := zGd_e h
    obtain ⟨S24, eS24, h⟩ := zLt_e h
    refine zr_last (pc := 138) cx hq hP hS nM_7 sM_7 g23 dX12_house_138 (fun H locs hP hS => ?_)
    rw [← eS24] at hP
    obtain ⟨x25, ex25, h⟩ := zLt_e h
    refine lv_iinc (v := x25) (lv' := [(2, .int x25), (0, .ref (q 0)), (1, .int v1)]) (pc := 139) hx hb dX12_house_139 hl (k := 2) rfl (by rw [zc_1]; exact ex25.symm) (by decide) rfl (fun ls hl => ?_)
    refine lv_goto (pc := 142) (tgt := 121) hx hb dX12_house_142 (by decide) ?_
    cases h
    exact hb1 _ _ hc _ _ hP hS _ (lv_sub hl [1, 2, 0] rfl)
set_option maxHeartbeats 4000000 in
set_option maxRecDepth 100000 in
theorem kX12_house_121 {p : Program} {l : Launch} {e : Env} {s : State} {m : MethodId} {args : Array Value} {below : List Frame} {meth : Method} {c : Code} {D : va_G} {cy : Nat → ClassId} {q : Nat → Nat} {A : Nat → Prop} (cx : zX RX12 cX12_house 3 p s m args c D cy) (hr : meth.sig.returnType = (some .int)) (hlk : meth.locks = false) (hq : zQ A q zNM) {z : (Int32 × zSt)} {v1 : Int32} : ∀ (n : Nat) (S : zSt) (v2 : Int32), zLp (fX12_house_121 v1) n (S, v2) = some z → ∀ (H : Heap) (locs : List Loc), va_P D vwCl (zW zshM zNM cy q S) H → va_S A s.heap H locs → ∀ (ls : Array Slot), lv_has ls 3 [(0, .ref (q 0)), (1, .int v1), (2, .int v2)] → W p l e rmX12_house s m args below meth c H locs 0 0 (MQ below (va_Qi (fun (r : Int32) (u : zSt) => (r, u) = z) (fun u t => va_P D vwCl (zW zshM zNM cy q u) t.heap) A) args s 0 0 A) (F0 m 121 ls []) := by
  intro n
  induction n with
  | zero =>
    intro S v2 h
    cases h
  | succ n ih =>
    intro S v2 h H locs hP hS ls hl
    obtain ⟨x, h, hk⟩ := zLp_e h
    exact kX12_house_121B cx hr hlk hq  (C1 := zKt (fun t => zLp (fX12_house_121 v1) n t = some z) (fun a => a = z)) (fun S v2 ht H locs hP hS ls hl => ih S v2 ht H locs hP hS ls hl) (fun a ha => ha) h hk hP hS hl
def fX12_house_95  (v1 : Int32) (t : (zSt × Int32)) : Option ((zSt × Int32) ⊕ (Int32 × zSt)) :=
  match t with
  | (S, v2) => zBr ((24 : Int32) ≤ v2) (zXr (zLp (fX12_house_121 v1) 2000 (S, (0 : Int32)))) (zGd (zIx v2 24) (zGd (zIx v2 406) (zLt (zI S 2 v2.toNatClampNeg (S.1 3 v2.toNatClampNeg)) (fun S28 => zLt (v2 + (1 : Int32)) (fun x29 => some (.inl (S28, x29)))))))
set_option maxHeartbeats 4000000 in
set_option maxRecDepth 100000 in
theorem kX12_house_95B {p : Program} {l : Launch} {e : Env} {s : State} {m : MethodId} {args : Array Value} {below : List Frame} {meth : Method} {c : Code} {D : va_G} {cy : Nat → ClassId} {q : Nat → Nat} {A : Nat → Prop} (cx : zX RX12 cX12_house 3 p s m args c D cy) (hr : meth.sig.returnType = (some .int)) (hlk : meth.locks = false) (hq : zQ A q zNM) {z : (Int32 × zSt)} {S : zSt} {v1 : Int32} {v2 : Int32} {C1 : ((zSt × Int32) ⊕ (Int32 × zSt)) → Prop} (hb1 : ∀ (S : zSt) (v2 : Int32), C1 (.inl (S, v2)) → ∀ (H : Heap) (locs : List Loc), va_P D vwCl (zW zshM zNM cy q S) H → va_S A s.heap H locs → ∀ (ls : Array Slot), lv_has ls 3 [(0, .ref (q 0)), (1, .int v1), (2, .int v2)] → W p l e rmX12_house s m args below meth c H locs 0 0 (MQ below (va_Qi (fun (r : Int32) (u : zSt) => (r, u) = z) (fun u t => va_P D vwCl (zW zshM zNM cy q u) t.heap) A) args s 0 0 A) (F0 m 95 ls [])) (hx1 : ∀ a, C1 (.inr a) → a = z) {x : ((zSt × Int32) ⊕ (Int32 × zSt))} (h : fX12_house_95 v1 (S, v2) = some x) (hc : C1 x) {H : Heap} {locs : List Loc} (hP : va_P D vwCl (zW zshM zNM cy q S) H) (hS : va_S A s.heap H locs) {ls : Array Slot} (hl : lv_has ls 3 [(0, .ref (q 0)), (1, .int v1), (2, .int v2)]) : W p l e rmX12_house s m args below meth c H locs 0 0 (MQ below (va_Qi (fun (r : Int32) (u : zSt) => (r, u) = z) (fun u t => va_P D vwCl (zW zshM zNM cy q u) t.heap) A) args s 0 0 A) (F0 m 95 ls []) := by
  have hx := cx.1
  have hb := cx.2.1
  unfold fX12_house_95 at h
  dsimp only at h
  refine lv_iload_n (pc := 95) hx hb dX12_house_95 rfl (lv_at hl 2 rfl) ?_
  refine lv_bipush (pc := 96) hx hb dX12_house_96 zb_24 ?_
  refine lv_icmp_ge (pc := 98) (tgt := 119) hx hb dX12_house_98 (by decide) (fun c15 => ?_) (fun c15 => ?_)
  · replace h := zBr_t c15 h
    obtain ⟨y16, h, ex⟩ := zXr_e h
    have hc := hx1 y16 (by rw [ex] at hc; exact hc)
    rw [hc] at h
    refine lv_iconst (pc := 119) hx hb dX12_house_119 zc_0 ?_
    refine lv_istore_n (lv' := [(2, .int (0 : Int32)), (0, .ref (q 0)), (1, .int v1)]) (pc := 120) hx hb dX12_house_120 rfl hl (by decide) rfl (fun ls hl => ?_)
    exact kX12_house_121 cx hr hlk hq 2000 _ _ h _ _ hP hS _ (lv_sub hl [1, 2, 0] rfl)
  · replace h := zBr_f c15 h
    refine lv_aload_n (pc := 101) hx hb dX12_house_101 rfl (lv_at hl 0 rfl) ?_
    refine zr_getR (pc := 102) (t := 2) cx lk_X12_98 hP nM_0 sM_0 rfl dX12_house_102 ?_
    refine lv_iload_n (pc := 105) hx hb dX12_house_105 rfl (lv_at hl 2 rfl) ?_
    refine lv_aload_n (pc := 106) hx hb dX12_house_106 rfl (lv_at hl 0 rfl) ?_
    refine zr_getR (pc := 107) (t := 3) cx lk_X12_101 hP nM_0 sM_0 rfl dX12_house_107 ?_
    refine lv_iload_n (pc := 110) hx hb dX12_house_110 rfl (lv_at hl 2 rfl) ?_
    obtain ⟨g26, h⟩ := zGd_e h
    refine zr_iald (pc := 111) cx hP nM_3 sM_3 g26 dX12_house_111 ?_
    obtain ⟨g27, h⟩ := zGd_e h
    obtain ⟨S28, eS28, h⟩ := zLt_e h
    refine zr_iast (pc := 112) cx hq hP hS nM_2 sM_2 g27 dX12_house_112 (fun H locs hP hS => ?_)
    rw [← eS28] at hP
    obtain ⟨x29, ex29, h⟩ := zLt_e h
    refine lv_iinc (v := x29) (lv' := [(2, .int x29), (0, .ref (q 0)), (1, .int v1)]) (pc := 113) hx hb dX12_house_113 hl (k := 2) rfl (by rw [zc_1]; exact ex29.symm) (by decide) rfl (fun ls hl => ?_)
    refine lv_goto (pc := 116) (tgt := 95) hx hb dX12_house_116 (by decide) ?_
    cases h
    exact hb1 _ _ hc _ _ hP hS _ (lv_sub hl [1, 2, 0] rfl)
set_option maxHeartbeats 4000000 in
set_option maxRecDepth 100000 in
theorem kX12_house_95 {p : Program} {l : Launch} {e : Env} {s : State} {m : MethodId} {args : Array Value} {below : List Frame} {meth : Method} {c : Code} {D : va_G} {cy : Nat → ClassId} {q : Nat → Nat} {A : Nat → Prop} (cx : zX RX12 cX12_house 3 p s m args c D cy) (hr : meth.sig.returnType = (some .int)) (hlk : meth.locks = false) (hq : zQ A q zNM) {z : (Int32 × zSt)} {v1 : Int32} : ∀ (n : Nat) (S : zSt) (v2 : Int32), zLp (fX12_house_95 v1) n (S, v2) = some z → ∀ (H : Heap) (locs : List Loc), va_P D vwCl (zW zshM zNM cy q S) H → va_S A s.heap H locs → ∀ (ls : Array Slot), lv_has ls 3 [(0, .ref (q 0)), (1, .int v1), (2, .int v2)] → W p l e rmX12_house s m args below meth c H locs 0 0 (MQ below (va_Qi (fun (r : Int32) (u : zSt) => (r, u) = z) (fun u t => va_P D vwCl (zW zshM zNM cy q u) t.heap) A) args s 0 0 A) (F0 m 95 ls []) := by
  intro n
  induction n with
  | zero =>
    intro S v2 h
    cases h
  | succ n ih =>
    intro S v2 h H locs hP hS ls hl
    obtain ⟨x, h, hk⟩ := zLp_e h
    exact kX12_house_95B cx hr hlk hq  (C1 := zKt (fun t => zLp (fX12_house_95 v1) n t = some z) (fun a => a = z)) (fun S v2 ht H locs hP hS ls hl => ih S v2 ht H locs hP hS ls hl) (fun a ha => ha) h hk hP hS hl
def fX12_house_80 (S : zSt)  : Option (Int32 × zSt) :=
  some (((-1 : Int32) - (S.1 0 11)), S)
set_option maxHeartbeats 4000000 in
set_option maxRecDepth 100000 in
theorem kX12_house_80 {p : Program} {l : Launch} {e : Env} {s : State} {m : MethodId} {args : Array Value} {below : List Frame} {meth : Method} {c : Code} {D : va_G} {cy : Nat → ClassId} {q : Nat → Nat} {A : Nat → Prop} (cx : zX RX12 cX12_house 3 p s m args c D cy) (hr : meth.sig.returnType = (some .int)) (hlk : meth.locks = false) (hq : zQ A q zNM) {z : (Int32 × zSt)} {S : zSt} (h : fX12_house_80 S = some z) {H : Heap} {locs : List Loc} (hP : va_P D vwCl (zW zshM zNM cy q S) H) (hS : va_S A s.heap H locs) {ls : Array Slot} (hl : lv_has ls 3 [(0, .ref (q 0))]) : W p l e rmX12_house s m args below meth c H locs 0 0 (MQ below (va_Qi (fun (r : Int32) (u : zSt) => (r, u) = z) (fun u t => va_P D vwCl (zW zshM zNM cy q u) t.heap) A) args s 0 0 A) (F0 m 80 ls []) := by
  have hx := cx.1
  have hb := cx.2.1
  unfold fX12_house_80 at h
  refine lv_iconst (pc := 80) hx hb dX12_house_80 zc_m1 ?_
  refine lv_aload_n (pc := 81) hx hb dX12_house_81 rfl (lv_at hl 0 rfl) ?_
  refine zr_getI (pc := 82) cx lk_X12_69 hP nM_0 sM_0 rfl dX12_house_82 ?_
  refine lv_isub (pc := 85) hx hb dX12_house_85 ?_
  have hz := Option.some.inj h
  exact zr_rqI (pc := 86) cx hr hlk hP hS hz dX12_house_86
def fX12_house_59  (t : (zSt × Int32)) : Option ((zSt × Int32) ⊕ (Int32 × zSt)) :=
  match t with
  | (S, v1) => zBr ((S.1 0 7) = 0) (zXr (zLp (fX12_house_95 v1) 2000 (S, (0 : Int32)))) (zBp (fX12_readLine S) (fun r32 S31 => zBr (r32 = 0) (zXr (fX12_house_80 S31)) (zBp (fX12_readEnd S31) (fun r37 S36 => zBr (r37 = 0) (zXr (fX12_house_80 S36)) (zLt (v1 + (1 : Int32)) (fun x39 => some (.inl (S36, x39))))))))
set_option maxHeartbeats 4000000 in
set_option maxRecDepth 100000 in
theorem kX12_house_59B {p : Program} {l : Launch} {e : Env} {s : State} {m : MethodId} {args : Array Value} {below : List Frame} {meth : Method} {c : Code} {D : va_G} {cy : Nat → ClassId} {q : Nat → Nat} {A : Nat → Prop} (cx : zX RX12 cX12_house 3 p s m args c D cy) (hr : meth.sig.returnType = (some .int)) (hlk : meth.locks = false) (hq : zQ A q zNM) {z : (Int32 × zSt)} {S : zSt} {v1 : Int32} {C1 : ((zSt × Int32) ⊕ (Int32 × zSt)) → Prop} (hb1 : ∀ (S : zSt) (v1 : Int32), C1 (.inl (S, v1)) → ∀ (H : Heap) (locs : List Loc), va_P D vwCl (zW zshM zNM cy q S) H → va_S A s.heap H locs → ∀ (ls : Array Slot), lv_has ls 3 [(0, .ref (q 0)), (1, .int v1)] → W p l e rmX12_house s m args below meth c H locs 0 0 (MQ below (va_Qi (fun (r : Int32) (u : zSt) => (r, u) = z) (fun u t => va_P D vwCl (zW zshM zNM cy q u) t.heap) A) args s 0 0 A) (F0 m 59 ls [])) (hx1 : ∀ a, C1 (.inr a) → a = z) {x : ((zSt × Int32) ⊕ (Int32 × zSt))} (h : fX12_house_59 (S, v1) = some x) (hc : C1 x) {H : Heap} {locs : List Loc} (hP : va_P D vwCl (zW zshM zNM cy q S) H) (hS : va_S A s.heap H locs) {ls : Array Slot} (hl : lv_has ls 3 [(0, .ref (q 0)), (1, .int v1)]) : W p l e rmX12_house s m args below meth c H locs 0 0 (MQ below (va_Qi (fun (r : Int32) (u : zSt) => (r, u) = z) (fun u t => va_P D vwCl (zW zshM zNM cy q u) t.heap) A) args s 0 0 A) (F0 m 59 ls []) := by
  have hx := cx.1
  have hb := cx.2.1
  unfold fX12_house_59 at h
  dsimp only at h
  refine lv_aload_n (pc := 59) hx hb dX12_house_59 rfl (lv_at hl 0 rfl) ?_
  refine zr_getI (pc := 60) cx lk_X12_30 hP nM_0 sM_0 rfl dX12_house_60 ?_
  refine lv_if_eq (pc := 63) (tgt := 93) hx hb dX12_house_63 (by decide) (fun c13 => ?_) (fun c13 => ?_)
  · replace h := zBr_t c13 h
    obtain ⟨y14, h, ex⟩ := zXr_e h
    have hc := hx1 y14 (by rw [ex] at hc; exact hc)
    rw [hc] at h
    refine lv_iconst (pc := 93) hx hb dX12_house_93 zc_0 ?_
    refine lv_istore_n (lv' := [(2, .int (0 : Int32)), (0, .ref (q 0)), (1, .int v1)]) (pc := 94) hx hb dX12_house_94 rfl hl (by decide) rfl (fun ls hl => ?_)
    exact kX12_house_95 cx hr hlk hq 2000 _ _ h _ _ hP hS _ (lv_sub hl [1, 2, 0] rfl)
  · replace h := zBr_f c13 h
    refine lv_aload_n (pc := 66) hx hb dX12_house_66 rfl (lv_at hl 0 rfl) ?_
    obtain ⟨r32, S31, k30, h⟩ := zBp_e h
    refine zr_VQ (pc := 67) (rest := []) cx cv_X12_209 (mX12_readLine hq k30) ⟨⟨rfl, rfl⟩, Nat.le_of_ble_eq_true rfl, Nat.le_of_ble_eq_true rfl⟩ ⟨Nat.le_of_ble_eq_true rfl, Nat.le_of_ble_eq_true rfl⟩ hP hS nM_0 sM_0 rfl hl.1 rfl rfl (Nat.le_of_ble_eq_true rfl) dX12_house_67 (fun H locs hP hS => ?_)
    refine lv_if_eq (pc := 70) (tgt := 80) hx hb dX12_house_70 (by decide) (fun c33 => ?_) (fun c33 => ?_)
    · replace h := zBr_t c33 h
      obtain ⟨y34, h, ex⟩ := zXr_e h
      have hc := hx1 y34 (by rw [ex] at hc; exact hc)
      rw [hc] at h
      exact kX12_house_80 cx hr hlk hq h hP hS (lv_sub hl [0] rfl)
    · replace h := zBr_f c33 h
      refine lv_aload_n (pc := 73) hx hb dX12_house_73 rfl (lv_at hl 0 rfl) ?_
      obtain ⟨r37, S36, k35, h⟩ := zBp_e h
      refine zr_VQ (pc := 74) (rest := []) cx cv_X12_212 (mX12_readEnd hq k35) ⟨⟨rfl, rfl⟩, Nat.le_of_ble_eq_true rfl, Nat.le_of_ble_eq_true rfl⟩ ⟨Nat.le_of_ble_eq_true rfl, Nat.le_of_ble_eq_true rfl⟩ hP hS nM_0 sM_0 rfl hl.1 rfl rfl (Nat.le_of_ble_eq_true rfl) dX12_house_74 (fun H locs hP hS => ?_)
      refine lv_if_ne (pc := 77) (tgt := 87) hx hb dX12_house_77 (by decide) (fun c38 => ?_) (fun c38 => ?_)
      · replace h := zBr_f c38 h
        obtain ⟨x39, ex39, h⟩ := zLt_e h
        refine lv_iinc (v := x39) (lv' := [(1, .int x39), (0, .ref (q 0))]) (pc := 87) hx hb dX12_house_87 hl (k := 1) rfl (by rw [zc_1]; exact ex39.symm) (by decide) rfl (fun ls hl => ?_)
        refine lv_goto (pc := 90) (tgt := 59) hx hb dX12_house_90 (by decide) ?_
        cases h
        exact hb1 _ _ hc _ _ hP hS _ (lv_sub hl [1, 0] rfl)
      · replace h := zBr_t c38 h
        obtain ⟨y40, h, ex⟩ := zXr_e h
        have hc := hx1 y40 (by rw [ex] at hc; exact hc)
        rw [hc] at h
        exact kX12_house_80 cx hr hlk hq h hP hS (lv_sub hl [0] rfl)
set_option maxHeartbeats 4000000 in
set_option maxRecDepth 100000 in
theorem kX12_house_59 {p : Program} {l : Launch} {e : Env} {s : State} {m : MethodId} {args : Array Value} {below : List Frame} {meth : Method} {c : Code} {D : va_G} {cy : Nat → ClassId} {q : Nat → Nat} {A : Nat → Prop} (cx : zX RX12 cX12_house 3 p s m args c D cy) (hr : meth.sig.returnType = (some .int)) (hlk : meth.locks = false) (hq : zQ A q zNM) {z : (Int32 × zSt)} : ∀ (n : Nat) (S : zSt) (v1 : Int32), zLp (fX12_house_59) n (S, v1) = some z → ∀ (H : Heap) (locs : List Loc), va_P D vwCl (zW zshM zNM cy q S) H → va_S A s.heap H locs → ∀ (ls : Array Slot), lv_has ls 3 [(0, .ref (q 0)), (1, .int v1)] → W p l e rmX12_house s m args below meth c H locs 0 0 (MQ below (va_Qi (fun (r : Int32) (u : zSt) => (r, u) = z) (fun u t => va_P D vwCl (zW zshM zNM cy q u) t.heap) A) args s 0 0 A) (F0 m 59 ls []) := by
  intro n
  induction n with
  | zero =>
    intro S v1 h
    cases h
  | succ n ih =>
    intro S v1 h H locs hP hS ls hl
    obtain ⟨x, h, hk⟩ := zLp_e h
    exact kX12_house_59B cx hr hlk hq  (C1 := zKt (fun t => zLp (fX12_house_59) n t = some z) (fun a => a = z)) (fun S v1 ht H locs hP hS ls hl => ih S v1 ht H locs hP hS ls hl) (fun a ha => ha) h hk hP hS hl
def fX12_house_9  (t : (zSt × Int32)) : Option ((zSt × Int32) ⊕ (Int32 × zSt)) :=
  match t with
  | (S, v1) => zBr ((24 : Int32) ≤ v1) (zXr (zGd (zIx (0 : Int32) 2) (zLt (zI S 11 (0 : Int32).toNatClampNeg (vp_nar .boolean (0 : Int32))) (fun S6 => zGd (zIx (1 : Int32) 2) (zLt (zI S6 11 (1 : Int32).toNatClampNeg (vp_nar .boolean (0 : Int32))) (fun S8 => zGd (zIx (4 : Int32) 24) (zLt (zI S8 3 (4 : Int32).toNatClampNeg (6 : Int32)) (fun S10 => zGd (zIx (5 : Int32) 24) (zLt (zI S10 3 (5 : Int32).toNatClampNeg (2 : Int32)) (fun S12 => zLp (fX12_house_59) 2000 (S12, (0 : Int32)))))))))))) (zGd (zIx v1 24) (zLt (zI S 3 v1.toNatClampNeg (0 : Int32)) (fun S42 => zLt (v1 + (1 : Int32)) (fun x43 => some (.inl (S42, x43))))))
set_option maxHeartbeats 4000000 in
set_option maxRecDepth 100000 in
theorem kX12_house_9B {p : Program} {l : Launch} {e : Env} {s : State} {m : MethodId} {args : Array Value} {below : List Frame} {meth : Method} {c : Code} {D : va_G} {cy : Nat → ClassId} {q : Nat → Nat} {A : Nat → Prop} (cx : zX RX12 cX12_house 3 p s m args c D cy) (hr : meth.sig.returnType = (some .int)) (hlk : meth.locks = false) (hq : zQ A q zNM) {z : (Int32 × zSt)} {S : zSt} {v1 : Int32} {C1 : ((zSt × Int32) ⊕ (Int32 × zSt)) → Prop} (hb1 : ∀ (S : zSt) (v1 : Int32), C1 (.inl (S, v1)) → ∀ (H : Heap) (locs : List Loc), va_P D vwCl (zW zshM zNM cy q S) H → va_S A s.heap H locs → ∀ (ls : Array Slot), lv_has ls 3 [(0, .ref (q 0)), (1, .int v1)] → W p l e rmX12_house s m args below meth c H locs 0 0 (MQ below (va_Qi (fun (r : Int32) (u : zSt) => (r, u) = z) (fun u t => va_P D vwCl (zW zshM zNM cy q u) t.heap) A) args s 0 0 A) (F0 m 9 ls [])) (hx1 : ∀ a, C1 (.inr a) → a = z) {x : ((zSt × Int32) ⊕ (Int32 × zSt))} (h : fX12_house_9 (S, v1) = some x) (hc : C1 x) {H : Heap} {locs : List Loc} (hP : va_P D vwCl (zW zshM zNM cy q S) H) (hS : va_S A s.heap H locs) {ls : Array Slot} (hl : lv_has ls 3 [(0, .ref (q 0)), (1, .int v1)]) : W p l e rmX12_house s m args below meth c H locs 0 0 (MQ below (va_Qi (fun (r : Int32) (u : zSt) => (r, u) = z) (fun u t => va_P D vwCl (zW zshM zNM cy q u) t.heap) A) args s 0 0 A) (F0 m 9 ls []) := by
  have hx := cx.1
  have hb := cx.2.1
  unfold fX12_house_9 at h
  dsimp only at h
  refine lv_iload_n (pc := 9) hx hb dX12_house_9 rfl (lv_at hl 1 rfl) ?_
  refine lv_bipush (pc := 10) hx hb dX12_house_10 zb_24 ?_
  refine lv_icmp_ge (pc := 12) (tgt := 28) hx hb dX12_house_12 (by decide) (fun c3 => ?_) (fun c3 => ?_)
  · replace h := zBr_t c3 h
    obtain ⟨y4, h, ex⟩ := zXr_e h
    have hc := hx1 y4 (by rw [ex] at hc; exact hc)
    rw [hc] at h
    refine lv_aload_n (pc := 28) hx hb dX12_house_28 rfl (lv_at hl 0 rfl) ?_
    refine zr_getR (pc := 29) (t := 11) cx lk_X12_127 hP nM_0 sM_0 rfl dX12_house_29 ?_
    refine lv_iconst (pc := 32) hx hb dX12_house_32 zc_0 ?_
    refine lv_iconst (pc := 33) hx hb dX12_house_33 zc_0 ?_
    obtain ⟨g5, h⟩ := zGd_e h
    obtain ⟨S6, eS6, h⟩ := zLt_e h
    refine zr_zast (pc := 34) cx hq hP hS nM_11 sM_11 g5 dX12_house_34 (fun H locs hP hS => ?_)
    rw [← eS6] at hP
    refine lv_aload_n (pc := 35) hx hb dX12_house_35 rfl (lv_at hl 0 rfl) ?_
    refine zr_getR (pc := 36) (t := 11) cx lk_X12_127 hP nM_0 sM_0 rfl dX12_house_36 ?_
    refine lv_iconst (pc := 39) hx hb dX12_house_39 zc_1 ?_
    refine lv_iconst (pc := 40) hx hb dX12_house_40 zc_0 ?_
    obtain ⟨g7, h⟩ := zGd_e h
    obtain ⟨S8, eS8, h⟩ := zLt_e h
    refine zr_zast (pc := 41) cx hq hP hS nM_11 sM_11 g7 dX12_house_41 (fun H locs hP hS => ?_)
    rw [← eS8] at hP
    refine lv_aload_n (pc := 42) hx hb dX12_house_42 rfl (lv_at hl 0 rfl) ?_
    refine zr_getR (pc := 43) (t := 3) cx lk_X12_101 hP nM_0 sM_0 rfl dX12_house_43 ?_
    refine lv_iconst (pc := 46) hx hb dX12_house_46 zc_4 ?_
    refine lv_bipush (pc := 47) hx hb dX12_house_47 zb_6 ?_
    obtain ⟨g9, h⟩ := zGd_e h
    obtain ⟨S10, eS10, h⟩ := zLt_e h
    refine zr_iast (pc := 49) cx hq hP hS nM_3 sM_3 g9 dX12_house_49 (fun H locs hP hS => ?_)
    rw [← eS10] at hP
    refine lv_aload_n (pc := 50) hx hb dX12_house_50 rfl (lv_at hl 0 rfl) ?_
    refine zr_getR (pc := 51) (t := 3) cx lk_X12_101 hP nM_0 sM_0 rfl dX12_house_51 ?_
    refine lv_iconst (pc := 54) hx hb dX12_house_54 zc_5 ?_
    refine lv_iconst (pc := 55) hx hb dX12_house_55 zc_2 ?_
    obtain ⟨g11, h⟩ := zGd_e h
    obtain ⟨S12, eS12, h⟩ := zLt_e h
    refine zr_iast (pc := 56) cx hq hP hS nM_3 sM_3 g11 dX12_house_56 (fun H locs hP hS => ?_)
    rw [← eS12] at hP
    refine lv_iconst (pc := 57) hx hb dX12_house_57 zc_0 ?_
    refine lv_istore_n (lv' := [(1, .int (0 : Int32)), (0, .ref (q 0))]) (pc := 58) hx hb dX12_house_58 rfl hl (by decide) rfl (fun ls hl => ?_)
    exact kX12_house_59 cx hr hlk hq 2000 _ _ h _ _ hP hS _ (lv_sub hl [1, 0] rfl)
  · replace h := zBr_f c3 h
    refine lv_aload_n (pc := 15) hx hb dX12_house_15 rfl (lv_at hl 0 rfl) ?_
    refine zr_getR (pc := 16) (t := 3) cx lk_X12_101 hP nM_0 sM_0 rfl dX12_house_16 ?_
    refine lv_iload_n (pc := 19) hx hb dX12_house_19 rfl (lv_at hl 1 rfl) ?_
    refine lv_iconst (pc := 20) hx hb dX12_house_20 zc_0 ?_
    obtain ⟨g41, h⟩ := zGd_e h
    obtain ⟨S42, eS42, h⟩ := zLt_e h
    refine zr_iast (pc := 21) cx hq hP hS nM_3 sM_3 g41 dX12_house_21 (fun H locs hP hS => ?_)
    rw [← eS42] at hP
    obtain ⟨x43, ex43, h⟩ := zLt_e h
    refine lv_iinc (v := x43) (lv' := [(1, .int x43), (0, .ref (q 0))]) (pc := 22) hx hb dX12_house_22 hl (k := 1) rfl (by rw [zc_1]; exact ex43.symm) (by decide) rfl (fun ls hl => ?_)
    refine lv_goto (pc := 25) (tgt := 9) hx hb dX12_house_25 (by decide) ?_
    cases h
    exact hb1 _ _ hc _ _ hP hS _ (lv_sub hl [1, 0] rfl)
set_option maxHeartbeats 4000000 in
set_option maxRecDepth 100000 in
theorem kX12_house_9 {p : Program} {l : Launch} {e : Env} {s : State} {m : MethodId} {args : Array Value} {below : List Frame} {meth : Method} {c : Code} {D : va_G} {cy : Nat → ClassId} {q : Nat → Nat} {A : Nat → Prop} (cx : zX RX12 cX12_house 3 p s m args c D cy) (hr : meth.sig.returnType = (some .int)) (hlk : meth.locks = false) (hq : zQ A q zNM) {z : (Int32 × zSt)} : ∀ (n : Nat) (S : zSt) (v1 : Int32), zLp (fX12_house_9) n (S, v1) = some z → ∀ (H : Heap) (locs : List Loc), va_P D vwCl (zW zshM zNM cy q S) H → va_S A s.heap H locs → ∀ (ls : Array Slot), lv_has ls 3 [(0, .ref (q 0)), (1, .int v1)] → W p l e rmX12_house s m args below meth c H locs 0 0 (MQ below (va_Qi (fun (r : Int32) (u : zSt) => (r, u) = z) (fun u t => va_P D vwCl (zW zshM zNM cy q u) t.heap) A) args s 0 0 A) (F0 m 9 ls []) := by
  intro n
  induction n with
  | zero =>
    intro S v1 h
    cases h
  | succ n ih =>
    intro S v1 h H locs hP hS ls hl
    obtain ⟨x, h, hk⟩ := zLp_e h
    exact kX12_house_9B cx hr hlk hq  (C1 := zKt (fun t => zLp (fX12_house_9) n t = some z) (fun a => a = z)) (fun S v1 ht H locs hP hS ls hl => ih S v1 ht H locs hP hS ls hl) (fun a ha => ha) h hk hP hS hl
def fX12_house (S : zSt) : Option (Int32 × zSt) :=
  zBd (fX12_begin S (900 : Int32)) (fun S2 => zLp (fX12_house_9) 2000 (S2, (0 : Int32)))
set_option maxHeartbeats 4000000 in
set_option maxRecDepth 100000 in
theorem mX12_house {l : Launch} {D : va_G} {cy : Nat → ClassId} {q : Nat → Nat} {A : Nat → Prop} {S : zSt} (hq : zQ A q zNM) {z : (Int32 × zSt)} (h : fX12_house S = some z) : zMq l yX12_house cX12_house 3 (some .int) rmX12_house [.ref (q 0)] zshM zNM D cy q A S z := by
  refine Met.ofW (cc := cX12_house) (maxL := 3) (ret := (some .int)) (by decide) rfl ?_
  intro p e s m args below meth c s₁ B hml hv
  obtain ⟨rfl, hP, hK⟩ := hv
  have cx : zX RX12 cX12_house 3 p s m ([.ref (q 0)]).toArray c D cy := ⟨B.exec, B.bytes, hml, findClass_of_methodNamed B.named, fun w hw => atoms_spec (ws := Cond.code yX12_house cX12_house 3 (some .int) :: zTB) B.pre w (List.mem_cons_of_mem _ hw), hK⟩
  have hx := cx.1
  have hb := cx.2.1
  have hr := B.returns
  have hlk := B.notSynchronized
  have hS : va_S A s.heap s.heap [] := va_S.rf
  have hl := lv_entry ([.ref (q 0)]) (n := 3) (Nat.le_of_ble_eq_true rfl)
  rw [lg_entry_eq]
  generalize (lg_sl ([.ref (q 0)]) ++ List.replicate (3 - (lg_sl ([.ref (q 0)])).length) Slot.unset).toArray = ls at hl ⊢
  have hl : lv_has ls 3 [(0, .ref (q 0))] := hl
  unfold fX12_house at h
  refine lv_aload_n (pc := 0) hx hb dX12_house_0 rfl (lv_at hl 0 rfl) ?_
  refine lv_sipush (pc := 1) hx hb dX12_house_1 zs_900 ?_
  obtain ⟨S2, k1, h⟩ := zBd_e h
  refine zr_VV (pc := 4) (rest := []) cx cv_X12_206 (mX12_begin hq k1) ⟨⟨rfl, rfl⟩, Nat.le_of_ble_eq_true rfl, Nat.le_of_ble_eq_true rfl⟩ ⟨Nat.le_of_ble_eq_true rfl, Nat.le_of_ble_eq_true rfl⟩ hP hS nM_0 sM_0 rfl hl.1 rfl rfl (Nat.le_of_ble_eq_true rfl) dX12_house_4 (fun H locs hP hS => ?_)
  refine lv_iconst (pc := 7) hx hb dX12_house_7 zc_0 ?_
  refine lv_istore_n (lv' := [(1, .int (0 : Int32)), (0, .ref (q 0))]) (pc := 8) hx hb dX12_house_8 rfl hl (by decide) rfl (fun ls hl => ?_)
  exact kX12_house_9 cx hr hlk hq 2000 _ _ h _ _ hP hS _ (lv_sub hl [1, 0] rfl)
-- X12_image
abbrev rmX12_image : Room := { frames := 1, cells := 0, slots := 0, locals := 22 }
def fX12_image_51  (v1 : Int32) (t : (zSt × Int32)) : Option ((zSt × Int32) ⊕ (Int32 × zSt)) :=
  match t with
  | (S, v2) => zBr ((20 : Int32) ≤ v2) (zXr (zGd (zIx v1 2) (zLt (zI S 10 v1.toNatClampNeg (vp_nar .boolean (1 : Int32))) (fun S10 => some ((1 : Int32), S10))))) (zGd (zIx v2 20) (zGd (zIx (((20 : Int32) * v1) + v2) 40) (zLt (zJ S 9 (((20 : Int32) * v1) + v2).toNatClampNeg (S.2 7 v2.toNatClampNeg)) (fun S13 => zLt (v2 + (1 : Int32)) (fun x14 => some (.inl (S13, x14)))))))
set_option maxHeartbeats 4000000 in
set_option maxRecDepth 100000 in
theorem kX12_image_51B {p : Program} {l : Launch} {e : Env} {s : State} {m : MethodId} {args : Array Value} {below : List Frame} {meth : Method} {c : Code} {D : va_G} {cy : Nat → ClassId} {q : Nat → Nat} {A : Nat → Prop} (cx : zX RX12 cX12_image 3 p s m args c D cy) (hr : meth.sig.returnType = (some .boolean)) (hlk : meth.locks = false) (hq : zQ A q zNM) {z : (Int32 × zSt)} {S : zSt} {v1 : Int32} {v2 : Int32} {C1 : ((zSt × Int32) ⊕ (Int32 × zSt)) → Prop} (hb1 : ∀ (S : zSt) (v2 : Int32), C1 (.inl (S, v2)) → ∀ (H : Heap) (locs : List Loc), va_P D vwCl (zW zshM zNM cy q S) H → va_S A s.heap H locs → ∀ (ls : Array Slot), lv_has ls 3 [(0, .ref (q 0)), (1, .int v1), (2, .int v2)] → W p l e rmX12_image s m args below meth c H locs 0 0 (MQ below (va_Qi (fun (r : Int32) (u : zSt) => (r, u) = z) (fun u t => va_P D vwCl (zW zshM zNM cy q u) t.heap) A) args s 0 0 A) (F0 m 51 ls [])) (hx1 : ∀ a, C1 (.inr a) → a = z) {x : ((zSt × Int32) ⊕ (Int32 × zSt))} (h : fX12_image_51 v1 (S, v2) = some x) (hc : C1 x) {H : Heap} {locs : List Loc} (hP : va_P D vwCl (zW zshM zNM cy q S) H) (hS : va_S A s.heap H locs) {ls : Array Slot} (hl : lv_has ls 3 [(0, .ref (q 0)), (1, .int v1), (2, .int v2)]) : W p l e rmX12_image s m args below meth c H locs 0 0 (MQ below (va_Qi (fun (r : Int32) (u : zSt) => (r, u) = z) (fun u t => va_P D vwCl (zW zshM zNM cy q u) t.heap) A) args s 0 0 A) (F0 m 51 ls []) := by
  have hx := cx.1
  have hb := cx.2.1
  unfold fX12_image_51 at h
  dsimp only at h
  refine lv_iload_n (pc := 51) hx hb dX12_image_51 rfl (lv_at hl 2 rfl) ?_
  refine lv_bipush (pc := 52) hx hb dX12_image_52 zb_20 ?_
  refine lv_icmp_ge (pc := 54) (tgt := 80) hx hb dX12_image_54 (by decide) (fun c7 => ?_) (fun c7 => ?_)
  · replace h := zBr_t c7 h
    obtain ⟨y8, h, ex⟩ := zXr_e h
    have hc := hx1 y8 (by rw [ex] at hc; exact hc)
    rw [hc] at h
    refine lv_aload_n (pc := 80) hx hb dX12_image_80 rfl (lv_at hl 0 rfl) ?_
    refine zr_getR (pc := 81) (t := 10) cx lk_X12_123 hP nM_0 sM_0 rfl dX12_image_81 ?_
    refine lv_iload_n (pc := 84) hx hb dX12_image_84 rfl (lv_at hl 1 rfl) ?_
    refine lv_iconst (pc := 85) hx hb dX12_image_85 zc_1 ?_
    obtain ⟨g9, h⟩ := zGd_e h
    obtain ⟨S10, eS10, h⟩ := zLt_e h
    refine zr_zast (pc := 86) cx hq hP hS nM_10 sM_10 g9 dX12_image_86 (fun H locs hP hS => ?_)
    rw [← eS10] at hP
    refine lv_iconst (pc := 87) hx hb dX12_image_87 zc_1 ?_
    have hz := Option.some.inj h
    exact zr_rqZ (pc := 88) cx hr hlk hP hS hz (by decide) dX12_image_88
  · replace h := zBr_f c7 h
    refine lv_aload_n (pc := 57) hx hb dX12_image_57 rfl (lv_at hl 0 rfl) ?_
    refine zr_getR (pc := 58) (t := 9) cx lk_X12_120 hP nM_0 sM_0 rfl dX12_image_58 ?_
    refine lv_bipush (pc := 61) hx hb dX12_image_61 zb_20 ?_
    refine lv_iload_n (pc := 63) hx hb dX12_image_63 rfl (lv_at hl 1 rfl) ?_
    refine lv_imul (pc := 64) hx hb dX12_image_64 ?_
    refine lv_iload_n (pc := 65) hx hb dX12_image_65 rfl (lv_at hl 2 rfl) ?_
    refine lv_iadd (pc := 66) hx hb dX12_image_66 ?_
    refine lv_aload_n (pc := 67) hx hb dX12_image_67 rfl (lv_at hl 0 rfl) ?_
    refine zr_getR (pc := 68) (t := 7) cx lk_X12_113 hP nM_0 sM_0 rfl dX12_image_68 ?_
    refine lv_iload_n (pc := 71) hx hb dX12_image_71 rfl (lv_at hl 2 rfl) ?_
    obtain ⟨g11, h⟩ := zGd_e h
    refine zr_lald (pc := 72) cx hP nM_7 sM_7 g11 dX12_image_72 ?_
    obtain ⟨g12, h⟩ := zGd_e h
    obtain ⟨S13, eS13, h⟩ := zLt_e h
    refine zr_last (pc := 73) cx hq hP hS nM_9 sM_9 g12 dX12_image_73 (fun H locs hP hS => ?_)
    rw [← eS13] at hP
    obtain ⟨x14, ex14, h⟩ := zLt_e h
    refine lv_iinc (v := x14) (lv' := [(2, .int x14), (0, .ref (q 0)), (1, .int v1)]) (pc := 74) hx hb dX12_image_74 hl (k := 2) rfl (by rw [zc_1]; exact ex14.symm) (by decide) rfl (fun ls hl => ?_)
    refine lv_goto (pc := 77) (tgt := 51) hx hb dX12_image_77 (by decide) ?_
    cases h
    exact hb1 _ _ hc _ _ hP hS _ (lv_sub hl [1, 2, 0] rfl)
set_option maxHeartbeats 4000000 in
set_option maxRecDepth 100000 in
theorem kX12_image_51 {p : Program} {l : Launch} {e : Env} {s : State} {m : MethodId} {args : Array Value} {below : List Frame} {meth : Method} {c : Code} {D : va_G} {cy : Nat → ClassId} {q : Nat → Nat} {A : Nat → Prop} (cx : zX RX12 cX12_image 3 p s m args c D cy) (hr : meth.sig.returnType = (some .boolean)) (hlk : meth.locks = false) (hq : zQ A q zNM) {z : (Int32 × zSt)} {v1 : Int32} : ∀ (n : Nat) (S : zSt) (v2 : Int32), zLp (fX12_image_51 v1) n (S, v2) = some z → ∀ (H : Heap) (locs : List Loc), va_P D vwCl (zW zshM zNM cy q S) H → va_S A s.heap H locs → ∀ (ls : Array Slot), lv_has ls 3 [(0, .ref (q 0)), (1, .int v1), (2, .int v2)] → W p l e rmX12_image s m args below meth c H locs 0 0 (MQ below (va_Qi (fun (r : Int32) (u : zSt) => (r, u) = z) (fun u t => va_P D vwCl (zW zshM zNM cy q u) t.heap) A) args s 0 0 A) (F0 m 51 ls []) := by
  intro n
  induction n with
  | zero =>
    intro S v2 h
    cases h
  | succ n ih =>
    intro S v2 h H locs hP hS ls hl
    obtain ⟨x, h, hk⟩ := zLp_e h
    exact kX12_image_51B cx hr hlk hq  (C1 := zKt (fun t => zLp (fX12_image_51 v1) n t = some z) (fun a => a = z)) (fun S v2 ht H locs hP hS ls hl => ih S v2 ht H locs hP hS ls hl) (fun a ha => ha) h hk hP hS hl
def fX12_image_18  (v1 : Int32) (t : (zSt × Int32)) : Option ((zSt × Int32) ⊕ (Int32 × zSt)) :=
  match t with
  | (S, v2) => zBr ((406 : Int32) ≤ v2) (zXr (zLp (fX12_image_51 v1) 2000 (S, (0 : Int32)))) (zGd (zIx v2 406) (zGd (zIx (((406 : Int32) * v1) + v2) 812) (zLt (zI S 4 (((406 : Int32) * v1) + v2).toNatClampNeg (S.1 2 v2.toNatClampNeg)) (fun S17 => zLt (v2 + (1 : Int32)) (fun x18 => some (.inl (S17, x18)))))))
set_option maxHeartbeats 4000000 in
set_option maxRecDepth 100000 in
theorem kX12_image_18B {p : Program} {l : Launch} {e : Env} {s : State} {m : MethodId} {args : Array Value} {below : List Frame} {meth : Method} {c : Code} {D : va_G} {cy : Nat → ClassId} {q : Nat → Nat} {A : Nat → Prop} (cx : zX RX12 cX12_image 3 p s m args c D cy) (hr : meth.sig.returnType = (some .boolean)) (hlk : meth.locks = false) (hq : zQ A q zNM) {z : (Int32 × zSt)} {S : zSt} {v1 : Int32} {v2 : Int32} {C1 : ((zSt × Int32) ⊕ (Int32 × zSt)) → Prop} (hb1 : ∀ (S : zSt) (v2 : Int32), C1 (.inl (S, v2)) → ∀ (H : Heap) (locs : List Loc), va_P D vwCl (zW zshM zNM cy q S) H → va_S A s.heap H locs → ∀ (ls : Array Slot), lv_has ls 3 [(0, .ref (q 0)), (1, .int v1), (2, .int v2)] → W p l e rmX12_image s m args below meth c H locs 0 0 (MQ below (va_Qi (fun (r : Int32) (u : zSt) => (r, u) = z) (fun u t => va_P D vwCl (zW zshM zNM cy q u) t.heap) A) args s 0 0 A) (F0 m 18 ls [])) (hx1 : ∀ a, C1 (.inr a) → a = z) {x : ((zSt × Int32) ⊕ (Int32 × zSt))} (h : fX12_image_18 v1 (S, v2) = some x) (hc : C1 x) {H : Heap} {locs : List Loc} (hP : va_P D vwCl (zW zshM zNM cy q S) H) (hS : va_S A s.heap H locs) {ls : Array Slot} (hl : lv_has ls 3 [(0, .ref (q 0)), (1, .int v1), (2, .int v2)]) : W p l e rmX12_image s m args below meth c H locs 0 0 (MQ below (va_Qi (fun (r : Int32) (u : zSt) => (r, u) = z) (fun u t => va_P D vwCl (zW zshM zNM cy q u) t.heap) A) args s 0 0 A) (F0 m 18 ls []) := by
  have hx := cx.1
  have hb := cx.2.1
  unfold fX12_image_18 at h
  dsimp only at h
  refine lv_iload_n (pc := 18) hx hb dX12_image_18 rfl (lv_at hl 2 rfl) ?_
  refine lv_sipush (pc := 19) hx hb dX12_image_19 zs_406 ?_
  refine lv_icmp_ge (pc := 22) (tgt := 49) hx hb dX12_image_22 (by decide) (fun c5 => ?_) (fun c5 => ?_)
  · replace h := zBr_t c5 h
    obtain ⟨y6, h, ex⟩ := zXr_e h
    have hc := hx1 y6 (by rw [ex] at hc; exact hc)
    rw [hc] at h
    refine lv_iconst (pc := 49) hx hb dX12_image_49 zc_0 ?_
    refine lv_istore_n (lv' := [(2, .int (0 : Int32)), (0, .ref (q 0)), (1, .int v1)]) (pc := 50) hx hb dX12_image_50 rfl hl (by decide) rfl (fun ls hl => ?_)
    exact kX12_image_51 cx hr hlk hq 2000 _ _ h _ _ hP hS _ (lv_sub hl [1, 2, 0] rfl)
  · replace h := zBr_f c5 h
    refine lv_aload_n (pc := 25) hx hb dX12_image_25 rfl (lv_at hl 0 rfl) ?_
    refine zr_getR (pc := 26) (t := 4) cx lk_X12_104 hP nM_0 sM_0 rfl dX12_image_26 ?_
    refine lv_sipush (pc := 29) hx hb dX12_image_29 zs_406 ?_
    refine lv_iload_n (pc := 32) hx hb dX12_image_32 rfl (lv_at hl 1 rfl) ?_
    refine lv_imul (pc := 33) hx hb dX12_image_33 ?_
    refine lv_iload_n (pc := 34) hx hb dX12_image_34 rfl (lv_at hl 2 rfl) ?_
    refine lv_iadd (pc := 35) hx hb dX12_image_35 ?_
    refine lv_aload_n (pc := 36) hx hb dX12_image_36 rfl (lv_at hl 0 rfl) ?_
    refine zr_getR (pc := 37) (t := 2) cx lk_X12_98 hP nM_0 sM_0 rfl dX12_image_37 ?_
    refine lv_iload_n (pc := 40) hx hb dX12_image_40 rfl (lv_at hl 2 rfl) ?_
    obtain ⟨g15, h⟩ := zGd_e h
    refine zr_iald (pc := 41) cx hP nM_2 sM_2 g15 dX12_image_41 ?_
    obtain ⟨g16, h⟩ := zGd_e h
    obtain ⟨S17, eS17, h⟩ := zLt_e h
    refine zr_iast (pc := 42) cx hq hP hS nM_4 sM_4 g16 dX12_image_42 (fun H locs hP hS => ?_)
    rw [← eS17] at hP
    obtain ⟨x18, ex18, h⟩ := zLt_e h
    refine lv_iinc (v := x18) (lv' := [(2, .int x18), (0, .ref (q 0)), (1, .int v1)]) (pc := 43) hx hb dX12_image_43 hl (k := 2) rfl (by rw [zc_1]; exact ex18.symm) (by decide) rfl (fun ls hl => ?_)
    refine lv_goto (pc := 46) (tgt := 18) hx hb dX12_image_46 (by decide) ?_
    cases h
    exact hb1 _ _ hc _ _ hP hS _ (lv_sub hl [1, 2, 0] rfl)
set_option maxHeartbeats 4000000 in
set_option maxRecDepth 100000 in
theorem kX12_image_18 {p : Program} {l : Launch} {e : Env} {s : State} {m : MethodId} {args : Array Value} {below : List Frame} {meth : Method} {c : Code} {D : va_G} {cy : Nat → ClassId} {q : Nat → Nat} {A : Nat → Prop} (cx : zX RX12 cX12_image 3 p s m args c D cy) (hr : meth.sig.returnType = (some .boolean)) (hlk : meth.locks = false) (hq : zQ A q zNM) {z : (Int32 × zSt)} {v1 : Int32} : ∀ (n : Nat) (S : zSt) (v2 : Int32), zLp (fX12_image_18 v1) n (S, v2) = some z → ∀ (H : Heap) (locs : List Loc), va_P D vwCl (zW zshM zNM cy q S) H → va_S A s.heap H locs → ∀ (ls : Array Slot), lv_has ls 3 [(0, .ref (q 0)), (1, .int v1), (2, .int v2)] → W p l e rmX12_image s m args below meth c H locs 0 0 (MQ below (va_Qi (fun (r : Int32) (u : zSt) => (r, u) = z) (fun u t => va_P D vwCl (zW zshM zNM cy q u) t.heap) A) args s 0 0 A) (F0 m 18 ls []) := by
  intro n
  induction n with
  | zero =>
    intro S v2 h
    cases h
  | succ n ih =>
    intro S v2 h H locs hP hS ls hl
    obtain ⟨x, h, hk⟩ := zLp_e h
    exact kX12_image_18B cx hr hlk hq  (C1 := zKt (fun t => zLp (fX12_image_18 v1) n t = some z) (fun a => a = z)) (fun S v2 ht H locs hP hS ls hl => ih S v2 ht H locs hP hS ls hl) (fun a ha => ha) h hk hP hS hl
def fX12_image (S : zSt) (v1 : Int32) : Option (Int32 × zSt) :=
  zLt (zI S 0 0 (0 : Int32)) (fun S1 => zBd (fX12_isIn v1 (0 : Int32) (1 : Int32)) (fun r3 => zBr (r3 = 0) (some ((0 : Int32), S1)) (zLp (fX12_image_18 v1) 2000 (S1, (0 : Int32)))))
set_option maxHeartbeats 4000000 in
set_option maxRecDepth 100000 in
theorem mX12_image {l : Launch} {D : va_G} {cy : Nat → ClassId} {q : Nat → Nat} {A : Nat → Prop} {S : zSt} {v1 : Int32} (hq : zQ A q zNM) {z : (Int32 × zSt)} (h : fX12_image S v1 = some z) : zMq l yX12_image cX12_image 3 (some .boolean) rmX12_image [.ref (q 0), .int v1] zshM zNM D cy q A S z := by
  refine Met.ofW (cc := cX12_image) (maxL := 3) (ret := (some .boolean)) (by decide) rfl ?_
  intro p e s m args below meth c s₁ B hml hv
  obtain ⟨rfl, hP, hK⟩ := hv
  have cx : zX RX12 cX12_image 3 p s m ([.ref (q 0), .int v1]).toArray c D cy := ⟨B.exec, B.bytes, hml, findClass_of_methodNamed B.named, fun w hw => atoms_spec (ws := Cond.code yX12_image cX12_image 3 (some .boolean) :: zTB) B.pre w (List.mem_cons_of_mem _ hw), hK⟩
  have hx := cx.1
  have hb := cx.2.1
  have hr := B.returns
  have hlk := B.notSynchronized
  have hS : va_S A s.heap s.heap [] := va_S.rf
  have hl := lv_entry ([.ref (q 0), .int v1]) (n := 3) (Nat.le_of_ble_eq_true rfl)
  rw [lg_entry_eq]
  generalize (lg_sl ([.ref (q 0), .int v1]) ++ List.replicate (3 - (lg_sl ([.ref (q 0), .int v1])).length) Slot.unset).toArray = ls at hl ⊢
  have hl : lv_has ls 3 [(0, .ref (q 0)), (1, .int v1)] := hl
  unfold fX12_image at h
  refine lv_aload_n (pc := 0) hx hb dX12_image_0 rfl (lv_at hl 0 rfl) ?_
  refine lv_iconst (pc := 1) hx hb dX12_image_1 zc_0 ?_
  obtain ⟨S1, eS1, h⟩ := zLt_e h
  refine zr_putI (pc := 2) cx lq_X12_1 hq hP hS nM_0 sM_0 rfl rfl rfl dX12_image_2 (fun H locs hP hS => ?_)
  rw [← eS1] at hP
  refine lv_iload_n (pc := 5) hx hb dX12_image_5 rfl (lv_at hl 1 rfl) ?_
  refine lv_iconst (pc := 6) hx hb dX12_image_6 zc_0 ?_
  refine lv_iconst (pc := 7) hx hb dX12_image_7 zc_1 ?_
  obtain ⟨r3, k2, h⟩ := zBd_e h
  refine zr_SI (pc := 8) (rest := []) cx cv_X12_75 (mX12_isIn k2) ⟨⟨rfl, rfl⟩, Nat.le_of_ble_eq_true rfl, Nat.le_of_ble_eq_true rfl⟩ ⟨Nat.le_of_ble_eq_true rfl, Nat.le_of_ble_eq_true rfl⟩ (zr_preK cx) hl.1 rfl rfl (Nat.le_of_ble_eq_true rfl) dX12_image_8 ?_
  refine lv_if_ne (pc := 11) (tgt := 16) hx hb dX12_image_11 (by decide) (fun c4 => ?_) (fun c4 => ?_)
  · replace h := zBr_f c4 h
    refine lv_iconst (pc := 16) hx hb dX12_image_16 zc_0 ?_
    refine lv_istore_n (lv' := [(2, .int (0 : Int32)), (0, .ref (q 0)), (1, .int v1)]) (pc := 17) hx hb dX12_image_17 rfl hl (by decide) rfl (fun ls hl => ?_)
    exact kX12_image_18 cx hr hlk hq 2000 _ _ h _ _ hP hS _ (lv_sub hl [1, 2, 0] rfl)
  · replace h := zBr_t c4 h
    refine lv_iconst (pc := 14) hx hb dX12_image_14 zc_0 ?_
    have hz := Option.some.inj h
    exact zr_rqZ (pc := 15) cx hr hlk hP hS hz (by decide) dX12_image_15
-- X12_isProvedOf
abbrev rmX12_isProvedOf : Room := { frames := 4, cells := 0, slots := 0, locals := 89 }
def fX12_isProvedOf_36 (S : zSt)  (v1 : Int32) (v2 : Int32) : Option (Int32 ⊕ Int32) :=
  zLt (v2 + (1 : Int32)) (fun x6 => some (.inl (x6)))
set_option maxHeartbeats 4000000 in
set_option maxRecDepth 100000 in
theorem kX12_isProvedOf_36 {p : Program} {l : Launch} {e : Env} {s : State} {m : MethodId} {args : Array Value} {below : List Frame} {meth : Method} {c : Code} {D : va_G} {cy : Nat → ClassId} {q : Nat → Nat} (cx : zX RX12 cX12_isProvedOf 3 p s m args c D cy) (hr : meth.sig.returnType = (some .boolean)) (hlk : meth.locks = false) {z : Int32} {S : zSt} {v1 : Int32} {v2 : Int32} {C1 : (Int32 ⊕ Int32) → Prop} (hb1 : ∀ (v2 : Int32), C1 (.inl (v2)) → ∀ (ls : Array Slot), lv_has ls 3 [(0, .ref (q 0)), (1, .int v1), (2, .int v2)] → W p l e rmX12_isProvedOf s m args below meth c s.heap [] 0 0 (MQ below (vp_Si (fun x => x = z)) args s 0 0 (fun _ => False)) (F0 m 2 ls [])) (hx1 : ∀ a, C1 (.inr a) → a = z) (hP : va_P D vwCl (zW zshM zNM cy q S) s.heap) {x : (Int32 ⊕ Int32)} (h : fX12_isProvedOf_36 S v1 v2 = some x) (hc : C1 x) {ls : Array Slot} (hl : lv_has ls 3 [(0, .ref (q 0)), (1, .int v1), (2, .int v2)]) : W p l e rmX12_isProvedOf s m args below meth c s.heap [] 0 0 (MQ below (vp_Si (fun x => x = z)) args s 0 0 (fun _ => False)) (F0 m 36 ls []) := by
  have hx := cx.1
  have hb := cx.2.1
  unfold fX12_isProvedOf_36 at h
  obtain ⟨x6, ex6, h⟩ := zLt_e h
  refine lv_iinc (v := x6) (lv' := [(2, .int x6), (0, .ref (q 0)), (1, .int v1)]) (pc := 36) hx hb dX12_isProvedOf_36 hl (k := 2) rfl (by rw [zc_1]; exact ex6.symm) (by decide) rfl (fun ls hl => ?_)
  refine lv_goto (pc := 39) (tgt := 2) hx hb dX12_isProvedOf_39 (by decide) ?_
  cases h
  exact hb1 _ hc _ (lv_sub hl [1, 2, 0] rfl)
def fX12_isProvedOf_2 (S : zSt)  (v1 : Int32) (t : Int32) : Option (Int32 ⊕ Int32) :=
  match t with
  | v2 => zGd (zIx (25 : Int32) 406) (zBr ((S.1 2 (25 : Int32).toNatClampNeg) ≤ v2) (zXr (some (0 : Int32))) (zGd (zIx ((38 : Int32) + v2) 406) (zBr ((S.1 2 ((38 : Int32) + v2).toNatClampNeg) = v1) (zBd (fX12_isProved S v2) (fun r8 => zBr (r8 = 0) (fX12_isProvedOf_36 S v1 v2) (zXr (some (1 : Int32))))) (fX12_isProvedOf_36 S v1 v2))))
set_option maxHeartbeats 4000000 in
set_option maxRecDepth 100000 in
theorem kX12_isProvedOf_2B {p : Program} {l : Launch} {e : Env} {s : State} {m : MethodId} {args : Array Value} {below : List Frame} {meth : Method} {c : Code} {D : va_G} {cy : Nat → ClassId} {q : Nat → Nat} (cx : zX RX12 cX12_isProvedOf 3 p s m args c D cy) (hr : meth.sig.returnType = (some .boolean)) (hlk : meth.locks = false) {z : Int32} {S : zSt} {v1 : Int32} {v2 : Int32} {C1 : (Int32 ⊕ Int32) → Prop} (hb1 : ∀ (v2 : Int32), C1 (.inl (v2)) → ∀ (ls : Array Slot), lv_has ls 3 [(0, .ref (q 0)), (1, .int v1), (2, .int v2)] → W p l e rmX12_isProvedOf s m args below meth c s.heap [] 0 0 (MQ below (vp_Si (fun x => x = z)) args s 0 0 (fun _ => False)) (F0 m 2 ls [])) (hx1 : ∀ a, C1 (.inr a) → a = z) (hP : va_P D vwCl (zW zshM zNM cy q S) s.heap) {x : (Int32 ⊕ Int32)} (h : fX12_isProvedOf_2 S v1 (v2) = some x) (hc : C1 x) {ls : Array Slot} (hl : lv_has ls 3 [(0, .ref (q 0)), (1, .int v1), (2, .int v2)]) : W p l e rmX12_isProvedOf s m args below meth c s.heap [] 0 0 (MQ below (vp_Si (fun x => x = z)) args s 0 0 (fun _ => False)) (F0 m 2 ls []) := by
  have hx := cx.1
  have hb := cx.2.1
  unfold fX12_isProvedOf_2 at h
  dsimp only at h
  refine lv_iload_n (pc := 2) hx hb dX12_isProvedOf_2 rfl (lv_at hl 2 rfl) ?_
  refine lv_aload_n (pc := 3) hx hb dX12_isProvedOf_3 rfl (lv_at hl 0 rfl) ?_
  refine zr_getR (pc := 4) (t := 2) cx lk_X12_98 hP nM_0 sM_0 rfl dX12_isProvedOf_4 ?_
  refine lv_bipush (pc := 7) hx hb dX12_isProvedOf_7 zb_25 ?_
  obtain ⟨g1, h⟩ := zGd_e h
  refine zr_iald (pc := 9) cx hP nM_2 sM_2 g1 dX12_isProvedOf_9 ?_
  refine lv_icmp_ge (pc := 10) (tgt := 42) hx hb dX12_isProvedOf_10 (by decide) (fun c2 => ?_) (fun c2 => ?_)
  · replace h := zBr_t c2 h
    obtain ⟨y3, h, ex⟩ := zXr_e h
    have hc := hx1 y3 (by rw [ex] at hc; exact hc)
    rw [hc] at h
    refine lv_iconst (pc := 42) hx hb dX12_isProvedOf_42 zc_0 ?_
    have hz := Option.some.inj h
    exact zr_reZ (pc := 43) cx hr hlk hz (by decide) dX12_isProvedOf_43
  · replace h := zBr_f c2 h
    refine lv_aload_n (pc := 13) hx hb dX12_isProvedOf_13 rfl (lv_at hl 0 rfl) ?_
    refine zr_getR (pc := 14) (t := 2) cx lk_X12_98 hP nM_0 sM_0 rfl dX12_isProvedOf_14 ?_
    refine lv_bipush (pc := 17) hx hb dX12_isProvedOf_17 zb_38 ?_
    refine lv_iload_n (pc := 19) hx hb dX12_isProvedOf_19 rfl (lv_at hl 2 rfl) ?_
    refine lv_iadd (pc := 20) hx hb dX12_isProvedOf_20 ?_
    obtain ⟨g4, h⟩ := zGd_e h
    refine zr_iald (pc := 21) cx hP nM_2 sM_2 g4 dX12_isProvedOf_21 ?_
    refine lv_iload_n (pc := 22) hx hb dX12_isProvedOf_22 rfl (lv_at hl 1 rfl) ?_
    refine lv_icmp_ne (pc := 23) (tgt := 36) hx hb dX12_isProvedOf_23 (by decide) (fun c5 => ?_) (fun c5 => ?_)
    · replace h := zBr_f c5 h
      exact kX12_isProvedOf_36 cx hr hlk hb1 hx1 hP h hc (lv_sub hl [0, 1, 2] rfl)
    · replace h := zBr_t c5 h
      refine lv_aload_n (pc := 26) hx hb dX12_isProvedOf_26 rfl (lv_at hl 0 rfl) ?_
      refine lv_iload_n (pc := 27) hx hb dX12_isProvedOf_27 rfl (lv_at hl 2 rfl) ?_
      obtain ⟨r8, k7, h⟩ := zBd_e h
      refine zr_VI (pc := 28) (rest := []) cx cv_X12_241 (mX12_isProved k7) ⟨⟨rfl, rfl⟩, Nat.le_of_ble_eq_true rfl, Nat.le_of_ble_eq_true rfl⟩ ⟨Nat.le_of_ble_eq_true rfl, Nat.le_of_ble_eq_true rfl⟩ hP nM_0 sM_0 rfl hl.1 rfl rfl (Nat.le_of_ble_eq_true rfl) dX12_isProvedOf_28 ?_
      refine lv_if_eq (pc := 31) (tgt := 36) hx hb dX12_isProvedOf_31 (by decide) (fun c9 => ?_) (fun c9 => ?_)
      · replace h := zBr_t c9 h
        exact kX12_isProvedOf_36 cx hr hlk hb1 hx1 hP h hc (lv_sub hl [0, 1, 2] rfl)
      · replace h := zBr_f c9 h
        obtain ⟨y10, h, ex⟩ := zXr_e h
        have hc := hx1 y10 (by rw [ex] at hc; exact hc)
        rw [hc] at h
        refine lv_iconst (pc := 34) hx hb dX12_isProvedOf_34 zc_1 ?_
        have hz := Option.some.inj h
        exact zr_reZ (pc := 35) cx hr hlk hz (by decide) dX12_isProvedOf_35
set_option maxHeartbeats 4000000 in
set_option maxRecDepth 100000 in
theorem kX12_isProvedOf_2 {p : Program} {l : Launch} {e : Env} {s : State} {m : MethodId} {args : Array Value} {below : List Frame} {meth : Method} {c : Code} {D : va_G} {cy : Nat → ClassId} {q : Nat → Nat} (cx : zX RX12 cX12_isProvedOf 3 p s m args c D cy) (hr : meth.sig.returnType = (some .boolean)) (hlk : meth.locks = false) {z : Int32} {S : zSt} {v1 : Int32} (hP : va_P D vwCl (zW zshM zNM cy q S) s.heap) : ∀ (n : Nat) (v2 : Int32), zLp (fX12_isProvedOf_2 S v1) n (v2) = some z → ∀ (ls : Array Slot), lv_has ls 3 [(0, .ref (q 0)), (1, .int v1), (2, .int v2)] → W p l e rmX12_isProvedOf s m args below meth c s.heap [] 0 0 (MQ below (vp_Si (fun x => x = z)) args s 0 0 (fun _ => False)) (F0 m 2 ls []) := by
  intro n
  induction n with
  | zero =>
    intro v2 h
    cases h
  | succ n ih =>
    intro v2 h ls hl
    obtain ⟨x, h, hk⟩ := zLp_e h
    exact kX12_isProvedOf_2B cx hr hlk  (C1 := zKt (fun t => zLp (fX12_isProvedOf_2 S v1) n t = some z) (fun a => a = z)) (fun v2 ht ls hl => ih v2 ht ls hl) (fun a ha => ha) hP h hk hl
def fX12_isProvedOf (S : zSt) (v1 : Int32) : Option Int32 :=
  zLp (fX12_isProvedOf_2 S v1) 2000 ((0 : Int32))
set_option maxHeartbeats 4000000 in
set_option maxRecDepth 100000 in
theorem mX12_isProvedOf {l : Launch} {D : va_G} {cy : Nat → ClassId} {q : Nat → Nat} {S : zSt} {v1 : Int32} {z : Int32} (h : fX12_isProvedOf S v1 = some z) : zMi l yX12_isProvedOf cX12_isProvedOf 3 (some .boolean) rmX12_isProvedOf [.ref (q 0), .int v1] (zPr zshM zNM D cy q S) z := by
  refine Met.ofW (cc := cX12_isProvedOf) (maxL := 3) (ret := (some .boolean)) (by decide) rfl ?_
  intro p e s m args below meth c s₁ B hml hv
  obtain ⟨rfl, hP, hK⟩ := hv
  have cx : zX RX12 cX12_isProvedOf 3 p s m ([.ref (q 0), .int v1]).toArray c D cy := ⟨B.exec, B.bytes, hml, findClass_of_methodNamed B.named, fun w hw => atoms_spec (ws := Cond.code yX12_isProvedOf cX12_isProvedOf 3 (some .boolean) :: zTB) B.pre w (List.mem_cons_of_mem _ hw), hK⟩
  have hx := cx.1
  have hb := cx.2.1
  have hr := B.returns
  have hlk := B.notSynchronized
  have hl := lv_entry ([.ref (q 0), .int v1]) (n := 3) (Nat.le_of_ble_eq_true rfl)
  rw [lg_entry_eq]
  generalize (lg_sl ([.ref (q 0), .int v1]) ++ List.replicate (3 - (lg_sl ([.ref (q 0), .int v1])).length) Slot.unset).toArray = ls at hl ⊢
  have hl : lv_has ls 3 [(0, .ref (q 0)), (1, .int v1)] := hl
  unfold fX12_isProvedOf at h
  refine lv_iconst (pc := 0) hx hb dX12_isProvedOf_0 zc_0 ?_
  refine lv_istore_n (lv' := [(2, .int (0 : Int32)), (0, .ref (q 0)), (1, .int v1)]) (pc := 1) hx hb dX12_isProvedOf_1 rfl hl (by decide) rfl (fun ls hl => ?_)
  exact kX12_isProvedOf_2 cx hr hlk hP 2000 _ h _ (lv_sub hl [1, 2, 0] rfl)
-- X12_laySteps
abbrev rmX12_laySteps : Room := { frames := 1, cells := 0, slots := 0, locals := 21 }
def fX12_laySteps_151 (S : zSt)  (v1 : Int32) (v2 : Int32) (v3 : Int32) (v4 : Int32) : Option ((zSt × Int32 × Int32) ⊕ ((zSt × Int32 × Int32) ⊕ ((zSt × Int32 × Int32) ⊕ ((zSt × Int32) ⊕ zSt)))) :=
  zLt (v4 + (1 : Int32)) (fun x31 => some (.inl (S, v1, x31)))
set_option maxHeartbeats 4000000 in
set_option maxRecDepth 100000 in
theorem kX12_laySteps_151 {p : Program} {l : Launch} {e : Env} {s : State} {m : MethodId} {args : Array Value} {below : List Frame} {meth : Method} {c : Code} {D : va_G} {cy : Nat → ClassId} {q : Nat → Nat} {A : Nat → Prop} (cx : zX RX12 cX12_laySteps 6 p s m args c D cy) (hr : meth.sig.returnType = none) (hlk : meth.locks = false) (hq : zQ A q zNM) {z : zSt} {S : zSt} {v1 : Int32} {v2 : Int32} {v3 : Int32} {v4 : Int32} {C1 : ((zSt × Int32) ⊕ zSt) → Prop} (hb1 : ∀ (S : zSt) (v1 : Int32), C1 (.inl (S, v1)) → ∀ (H : Heap) (locs : List Loc), va_P D vwCl (zW zshM zNM cy q S) H → va_S A s.heap H locs → ∀ (ls : Array Slot), lv_has ls 6 [(0, .ref (q 0)), (1, .int v1)] → W p l e rmX12_laySteps s m args below meth c H locs 0 0 (MQ below (va_Qv (fun (u : zSt) => u = z) (fun u t => va_P D vwCl (zW zshM zNM cy q u) t.heap) A) args s 0 0 A) (F0 m 37 ls [])) (hx1 : ∀ a, C1 (.inr a) → a = z) {C2 : ((zSt × Int32 × Int32) ⊕ ((zSt × Int32) ⊕ zSt)) → Prop} (hb2 : ∀ (S : zSt) (v1 : Int32) (v2 : Int32), C2 (.inl (S, v1, v2)) → ∀ (H : Heap) (locs : List Loc), va_P D vwCl (zW zshM zNM cy q S) H → va_S A s.heap H locs → ∀ (ls : Array Slot), lv_has ls 6 [(0, .ref (q 0)), (1, .int v1), (2, .int v2)] → W p l e rmX12_laySteps s m args below meth c H locs 0 0 (MQ below (va_Qv (fun (u : zSt) => u = z) (fun u t => va_P D vwCl (zW zshM zNM cy q u) t.heap) A) args s 0 0 A) (F0 m 45 ls [])) (hx2 : ∀ a, C2 (.inr a) → C1 a) {C3 : ((zSt × Int32 × Int32) ⊕ ((zSt × Int32 × Int32) ⊕ ((zSt × Int32) ⊕ zSt))) → Prop} (hb3 : ∀ (S : zSt) (v1 : Int32) (v3 : Int32), C3 (.inl (S, v1, v3)) → ∀ (H : Heap) (locs : List Loc), va_P D vwCl (zW zshM zNM cy q S) H → va_S A s.heap H locs → ∀ (ls : Array Slot), lv_has ls 6 [(0, .ref (q 0)), (1, .int v1), (2, .int v2), (3, .int v3)] → W p l e rmX12_laySteps s m args below meth c H locs 0 0 (MQ below (va_Qv (fun (u : zSt) => u = z) (fun u t => va_P D vwCl (zW zshM zNM cy q u) t.heap) A) args s 0 0 A) (F0 m 57 ls [])) (hx3 : ∀ a, C3 (.inr a) → C2 a) {C4 : ((zSt × Int32 × Int32) ⊕ ((zSt × Int32 × Int32) ⊕ ((zSt × Int32 × Int32) ⊕ ((zSt × Int32) ⊕ zSt)))) → Prop} (hb4 : ∀ (S : zSt) (v1 : Int32) (v4 : Int32), C4 (.inl (S, v1, v4)) → ∀ (H : Heap) (locs : List Loc), va_P D vwCl (zW zshM zNM cy q S) H → va_S A s.heap H locs → ∀ (ls : Array Slot), lv_has ls 6 [(0, .ref (q 0)), (1, .int v1), (2, .int v2), (3, .int v3), (4, .int v4)] → W p l e rmX12_laySteps s m args below meth c H locs 0 0 (MQ below (va_Qv (fun (u : zSt) => u = z) (fun u t => va_P D vwCl (zW zshM zNM cy q u) t.heap) A) args s 0 0 A) (F0 m 66 ls [])) (hx4 : ∀ a, C4 (.inr a) → C3 a) {x : ((zSt × Int32 × Int32) ⊕ ((zSt × Int32 × Int32) ⊕ ((zSt × Int32 × Int32) ⊕ ((zSt × Int32) ⊕ zSt))))} (h : fX12_laySteps_151 S v1 v2 v3 v4 = some x) (hc : C4 x) {H : Heap} {locs : List Loc} (hP : va_P D vwCl (zW zshM zNM cy q S) H) (hS : va_S A s.heap H locs) {ls : Array Slot} (hl : lv_has ls 6 [(0, .ref (q 0)), (1, .int v1), (2, .int v2), (3, .int v3), (4, .int v4)]) : W p l e rmX12_laySteps s m args below meth c H locs 0 0 (MQ below (va_Qv (fun (u : zSt) => u = z) (fun u t => va_P D vwCl (zW zshM zNM cy q u) t.heap) A) args s 0 0 A) (F0 m 151 ls []) := by
  have hx := cx.1
  have hb := cx.2.1
  unfold fX12_laySteps_151 at h
  obtain ⟨x31, ex31, h⟩ := zLt_e h
  refine lv_iinc (v := x31) (lv' := [(4, .int x31), (0, .ref (q 0)), (1, .int v1), (2, .int v2), (3, .int v3)]) (pc := 151) hx hb dX12_laySteps_151 hl (k := 4) rfl (by rw [zc_1]; exact ex31.symm) (by decide) rfl (fun ls hl => ?_)
  refine lv_goto (pc := 154) (tgt := 66) hx hb dX12_laySteps_154 (by decide) ?_
  cases h
  exact hb4 _ _ _ hc _ _ hP hS _ (lv_sub hl [1, 2, 3, 4, 0] rfl)
def fX12_laySteps_66  (v2 : Int32) (v3 : Int32) (t : (zSt × Int32 × Int32)) : Option ((zSt × Int32 × Int32) ⊕ ((zSt × Int32 × Int32) ⊕ ((zSt × Int32 × Int32) ⊕ ((zSt × Int32) ⊕ zSt)))) :=
  match t with
  | (S, v1, v4) => zGd (zIx (0 : Int32) 406) (zBr ((S.1 2 (0 : Int32).toNatClampNeg) ≤ v4) (zXr (zLt (v3 + (1 : Int32)) (fun x14 => some (.inl (S, v1, x14))))) (zGd (zIx ((6 : Int32) + v2) 406) (zBd (fX12_has (S.1 2 ((6 : Int32) + v2).toNatClampNeg) v4) (fun r17 => zBr (r17 = 0) (fX12_laySteps_151 S v1 v2 v3 v4) (zBd (fX12_cellOf v4 (v3 &&& (((1 : Int32) <<< (v4 &&& 31)) ^^^ (-1 : Int32)))) (fun r20 => zGd (zIx r20 160) (zLt ((S.1 12 r20.toNatClampNeg) + (1 : Int32)) (fun x22 => zBd (fX12_cellOf v2 v3) (fun r24 => zGd (zIx r24 160) (zBr (x22 < (S.1 12 r24.toNatClampNeg)) (zBd (fX12_cellOf v2 v3) (fun r28 => zGd (zIx r28 160) (zLt (zI S 12 r28.toNatClampNeg x22) (fun S30 => fX12_laySteps_151 S30 (1 : Int32) v2 v3 v4)))) (fX12_laySteps_151 S v1 v2 v3 v4)))))))))))
set_option maxHeartbeats 4000000 in
set_option maxRecDepth 100000 in
theorem kX12_laySteps_66B {p : Program} {l : Launch} {e : Env} {s : State} {m : MethodId} {args : Array Value} {below : List Frame} {meth : Method} {c : Code} {D : va_G} {cy : Nat → ClassId} {q : Nat → Nat} {A : Nat → Prop} (cx : zX RX12 cX12_laySteps 6 p s m args c D cy) (hr : meth.sig.returnType = none) (hlk : meth.locks = false) (hq : zQ A q zNM) {z : zSt} {S : zSt} {v1 : Int32} {v2 : Int32} {v3 : Int32} {v4 : Int32} {C1 : ((zSt × Int32) ⊕ zSt) → Prop} (hb1 : ∀ (S : zSt) (v1 : Int32), C1 (.inl (S, v1)) → ∀ (H : Heap) (locs : List Loc), va_P D vwCl (zW zshM zNM cy q S) H → va_S A s.heap H locs → ∀ (ls : Array Slot), lv_has ls 6 [(0, .ref (q 0)), (1, .int v1)] → W p l e rmX12_laySteps s m args below meth c H locs 0 0 (MQ below (va_Qv (fun (u : zSt) => u = z) (fun u t => va_P D vwCl (zW zshM zNM cy q u) t.heap) A) args s 0 0 A) (F0 m 37 ls [])) (hx1 : ∀ a, C1 (.inr a) → a = z) {C2 : ((zSt × Int32 × Int32) ⊕ ((zSt × Int32) ⊕ zSt)) → Prop} (hb2 : ∀ (S : zSt) (v1 : Int32) (v2 : Int32), C2 (.inl (S, v1, v2)) → ∀ (H : Heap) (locs : List Loc), va_P D vwCl (zW zshM zNM cy q S) H → va_S A s.heap H locs → ∀ (ls : Array Slot), lv_has ls 6 [(0, .ref (q 0)), (1, .int v1), (2, .int v2)] → W p l e rmX12_laySteps s m args below meth c H locs 0 0 (MQ below (va_Qv (fun (u : zSt) => u = z) (fun u t => va_P D vwCl (zW zshM zNM cy q u) t.heap) A) args s 0 0 A) (F0 m 45 ls [])) (hx2 : ∀ a, C2 (.inr a) → C1 a) {C3 : ((zSt × Int32 × Int32) ⊕ ((zSt × Int32 × Int32) ⊕ ((zSt × Int32) ⊕ zSt))) → Prop} (hb3 : ∀ (S : zSt) (v1 : Int32) (v3 : Int32), C3 (.inl (S, v1, v3)) → ∀ (H : Heap) (locs : List Loc), va_P D vwCl (zW zshM zNM cy q S) H → va_S A s.heap H locs → ∀ (ls : Array Slot), lv_has ls 6 [(0, .ref (q 0)), (1, .int v1), (2, .int v2), (3, .int v3)] → W p l e rmX12_laySteps s m args below meth c H locs 0 0 (MQ below (va_Qv (fun (u : zSt) => u = z) (fun u t => va_P D vwCl (zW zshM zNM cy q u) t.heap) A) args s 0 0 A) (F0 m 57 ls [])) (hx3 : ∀ a, C3 (.inr a) → C2 a) {C4 : ((zSt × Int32 × Int32) ⊕ ((zSt × Int32 × Int32) ⊕ ((zSt × Int32 × Int32) ⊕ ((zSt × Int32) ⊕ zSt)))) → Prop} (hb4 : ∀ (S : zSt) (v1 : Int32) (v4 : Int32), C4 (.inl (S, v1, v4)) → ∀ (H : Heap) (locs : List Loc), va_P D vwCl (zW zshM zNM cy q S) H → va_S A s.heap H locs → ∀ (ls : Array Slot), lv_has ls 6 [(0, .ref (q 0)), (1, .int v1), (2, .int v2), (3, .int v3), (4, .int v4)] → W p l e rmX12_laySteps s m args below meth c H locs 0 0 (MQ below (va_Qv (fun (u : zSt) => u = z) (fun u t => va_P D vwCl (zW zshM zNM cy q u) t.heap) A) args s 0 0 A) (F0 m 66 ls [])) (hx4 : ∀ a, C4 (.inr a) → C3 a) {x : ((zSt × Int32 × Int32) ⊕ ((zSt × Int32 × Int32) ⊕ ((zSt × Int32 × Int32) ⊕ ((zSt × Int32) ⊕ zSt))))} (h : fX12_laySteps_66 v2 v3 (S, v1, v4) = some x) (hc : C4 x) {H : Heap} {locs : List Loc} (hP : va_P D vwCl (zW zshM zNM cy q S) H) (hS : va_S A s.heap H locs) {ls : Array Slot} (hl : lv_has ls 6 [(0, .ref (q 0)), (1, .int v1), (2, .int v2), (3, .int v3), (4, .int v4)]) : W p l e rmX12_laySteps s m args below meth c H locs 0 0 (MQ below (va_Qv (fun (u : zSt) => u = z) (fun u t => va_P D vwCl (zW zshM zNM cy q u) t.heap) A) args s 0 0 A) (F0 m 66 ls []) := by
  have hx := cx.1
  have hb := cx.2.1
  unfold fX12_laySteps_66 at h
  dsimp only at h
  refine lv_iload (pc := 66) hx hb dX12_laySteps_66 (lv_at hl 4 rfl) ?_
  refine lv_aload_n (pc := 68) hx hb dX12_laySteps_68 rfl (lv_at hl 0 rfl) ?_
  refine zr_getR (pc := 69) (t := 2) cx lk_X12_98 hP nM_0 sM_0 rfl dX12_laySteps_69 ?_
  refine lv_iconst (pc := 72) hx hb dX12_laySteps_72 zc_0 ?_
  obtain ⟨g11, h⟩ := zGd_e h
  refine zr_iald (pc := 73) cx hP nM_2 sM_2 g11 dX12_laySteps_73 ?_
  refine lv_icmp_ge (pc := 74) (tgt := 157) hx hb dX12_laySteps_74 (by decide) (fun c12 => ?_) (fun c12 => ?_)
  · replace h := zBr_t c12 h
    obtain ⟨y13, h, ex⟩ := zXr_e h
    have hc := hx4 y13 (by rw [ex] at hc; exact hc)
    obtain ⟨x14, ex14, h⟩ := zLt_e h
    refine lv_iinc (v := x14) (lv' := [(3, .int x14), (0, .ref (q 0)), (1, .int v1), (2, .int v2), (4, .int v4)]) (pc := 157) hx hb dX12_laySteps_157 hl (k := 3) rfl (by rw [zc_1]; exact ex14.symm) (by decide) rfl (fun ls hl => ?_)
    refine lv_goto (pc := 160) (tgt := 57) hx hb dX12_laySteps_160 (by decide) ?_
    cases h
    exact hb3 _ _ _ hc _ _ hP hS _ (lv_sub hl [1, 2, 3, 0] rfl)
  · replace h := zBr_f c12 h
    refine lv_aload_n (pc := 77) hx hb dX12_laySteps_77 rfl (lv_at hl 0 rfl) ?_
    refine zr_getR (pc := 78) (t := 2) cx lk_X12_98 hP nM_0 sM_0 rfl dX12_laySteps_78 ?_
    refine lv_bipush (pc := 81) hx hb dX12_laySteps_81 zb_6 ?_
    refine lv_iload_n (pc := 83) hx hb dX12_laySteps_83 rfl (lv_at hl 2 rfl) ?_
    refine lv_iadd (pc := 84) hx hb dX12_laySteps_84 ?_
    obtain ⟨g15, h⟩ := zGd_e h
    refine zr_iald (pc := 85) cx hP nM_2 sM_2 g15 dX12_laySteps_85 ?_
    refine lv_iload (pc := 86) hx hb dX12_laySteps_86 (lv_at hl 4 rfl) ?_
    obtain ⟨r17, k16, h⟩ := zBd_e h
    refine zr_SI (pc := 88) (rest := []) cx cv_X12_181 (mX12_has k16) ⟨⟨rfl, rfl⟩, Nat.le_of_ble_eq_true rfl, Nat.le_of_ble_eq_true rfl⟩ ⟨Nat.le_of_ble_eq_true rfl, Nat.le_of_ble_eq_true rfl⟩ (zr_preK cx) hl.1 rfl rfl (Nat.le_of_ble_eq_true rfl) dX12_laySteps_88 ?_
    refine lv_if_ne (pc := 91) (tgt := 97) hx hb dX12_laySteps_91 (by decide) (fun c18 => ?_) (fun c18 => ?_)
    · replace h := zBr_f c18 h
      refine lv_aload_n (pc := 97) hx hb dX12_laySteps_97 rfl (lv_at hl 0 rfl) ?_
      refine zr_getR (pc := 98) (t := 12) cx lk_X12_136 hP nM_0 sM_0 rfl dX12_laySteps_98 ?_
      refine lv_iload (pc := 101) hx hb dX12_laySteps_101 (lv_at hl 4 rfl) ?_
      refine lv_iload_n (pc := 103) hx hb dX12_laySteps_103 rfl (lv_at hl 3 rfl) ?_
      refine lv_iconst (pc := 104) hx hb dX12_laySteps_104 zc_1 ?_
      refine lv_iload (pc := 105) hx hb dX12_laySteps_105 (lv_at hl 4 rfl) ?_
      refine lv_ishl (pc := 107) hx hb dX12_laySteps_107 ?_
      refine lv_iconst (pc := 108) hx hb dX12_laySteps_108 zc_m1 ?_
      refine lv_ixor (pc := 109) hx hb dX12_laySteps_109 ?_
      refine lv_iand (pc := 110) hx hb dX12_laySteps_110 ?_
      obtain ⟨r20, k19, h⟩ := zBd_e h
      refine zr_SI (pc := 111) (rest := [.ref (q 12)]) cx cv_X12_311 (mX12_cellOf k19) ⟨⟨rfl, rfl⟩, Nat.le_of_ble_eq_true rfl, Nat.le_of_ble_eq_true rfl⟩ ⟨Nat.le_of_ble_eq_true rfl, Nat.le_of_ble_eq_true rfl⟩ (zr_preK cx) hl.1 rfl rfl (Nat.le_of_ble_eq_true rfl) dX12_laySteps_111 ?_
      obtain ⟨g21, h⟩ := zGd_e h
      refine zr_iald (pc := 114) cx hP nM_12 sM_12 g21 dX12_laySteps_114 ?_
      refine lv_iconst (pc := 115) hx hb dX12_laySteps_115 zc_1 ?_
      refine lv_iadd (pc := 116) hx hb dX12_laySteps_116 ?_
      obtain ⟨x22, ex22, h⟩ := zLt_e h
      refine zr_nmI ex22 ?_
      refine lv_istore (lv' := [(5, .int x22), (0, .ref (q 0)), (1, .int v1), (2, .int v2), (3, .int v3), (4, .int v4)]) (pc := 117) hx hb dX12_laySteps_117 hl (by decide) rfl (fun ls hl => ?_)
      refine lv_iload (pc := 119) hx hb dX12_laySteps_119 (lv_at hl 0 rfl) ?_
      refine lv_aload_n (pc := 121) hx hb dX12_laySteps_121 rfl (lv_at hl 1 rfl) ?_
      refine zr_getR (pc := 122) (t := 12) cx lk_X12_136 hP nM_0 sM_0 rfl dX12_laySteps_122 ?_
      refine lv_iload_n (pc := 125) hx hb dX12_laySteps_125 rfl (lv_at hl 3 rfl) ?_
      refine lv_iload_n (pc := 126) hx hb dX12_laySteps_126 rfl (lv_at hl 4 rfl) ?_
      obtain ⟨r24, k23, h⟩ := zBd_e h
      refine zr_SI (pc := 127) (rest := [.ref (q 12), .int x22]) cx cv_X12_311 (mX12_cellOf k23) ⟨⟨rfl, rfl⟩, Nat.le_of_ble_eq_true rfl, Nat.le_of_ble_eq_true rfl⟩ ⟨Nat.le_of_ble_eq_true rfl, Nat.le_of_ble_eq_true rfl⟩ (zr_preK cx) hl.1 rfl rfl (Nat.le_of_ble_eq_true rfl) dX12_laySteps_127 ?_
      obtain ⟨g25, h⟩ := zGd_e h
      refine zr_iald (pc := 130) cx hP nM_12 sM_12 g25 dX12_laySteps_130 ?_
      refine lv_icmp_lt (pc := 131) (tgt := 137) hx hb dX12_laySteps_131 (by decide) (fun c26 => ?_) (fun c26 => ?_)
      · replace h := zBr_t c26 h
        refine lv_aload_n (pc := 137) hx hb dX12_laySteps_137 rfl (lv_at hl 1 rfl) ?_
        refine zr_getR (pc := 138) (t := 12) cx lk_X12_136 hP nM_0 sM_0 rfl dX12_laySteps_138 ?_
        refine lv_iload_n (pc := 141) hx hb dX12_laySteps_141 rfl (lv_at hl 3 rfl) ?_
        refine lv_iload_n (pc := 142) hx hb dX12_laySteps_142 rfl (lv_at hl 4 rfl) ?_
        obtain ⟨r28, k27, h⟩ := zBd_e h
        refine zr_SI (pc := 143) (rest := [.ref (q 12)]) cx cv_X12_311 (mX12_cellOf k27) ⟨⟨rfl, rfl⟩, Nat.le_of_ble_eq_true rfl, Nat.le_of_ble_eq_true rfl⟩ ⟨Nat.le_of_ble_eq_true rfl, Nat.le_of_ble_eq_true rfl⟩ (zr_preK cx) hl.1 rfl rfl (Nat.le_of_ble_eq_true rfl) dX12_laySteps_143 ?_
        refine lv_iload (pc := 146) hx hb dX12_laySteps_146 (lv_at hl 0 rfl) ?_
        obtain ⟨g29, h⟩ := zGd_e h
        obtain ⟨S30, eS30, h⟩ := zLt_e h
        refine zr_iast (pc := 148) cx hq hP hS nM_12 sM_12 g29 dX12_laySteps_148 (fun H locs hP hS => ?_)
        rw [← eS30] at hP
        refine lv_iconst (pc := 149) hx hb dX12_laySteps_149 zc_1 ?_
        refine lv_istore_n (lv' := [(1, .int (1 : Int32)), (5, .int x22), (0, .ref (q 0)), (2, .int v2), (3, .int v3), (4, .int v4)]) (pc := 150) hx hb dX12_laySteps_150 rfl hl (by decide) rfl (fun ls hl => ?_)
        exact kX12_laySteps_151 cx hr hlk hq hb1 hx1 hb2 hx2 hb3 hx3 hb4 hx4 h hc hP hS (lv_sub hl [2, 0, 3, 4, 5] rfl)
      · replace h := zBr_f c26 h
        refine lv_goto (pc := 134) (tgt := 151) hx hb dX12_laySteps_134 (by decide) ?_
        exact kX12_laySteps_151 cx hr hlk hq hb1 hx1 hb2 hx2 hb3 hx3 hb4 hx4 h hc hP hS (lv_sub hl [1, 2, 3, 4, 5] rfl)
    · replace h := zBr_t c18 h
      refine lv_goto (pc := 94) (tgt := 151) hx hb dX12_laySteps_94 (by decide) ?_
      exact kX12_laySteps_151 cx hr hlk hq hb1 hx1 hb2 hx2 hb3 hx3 hb4 hx4 h hc hP hS (lv_sub hl [0, 1, 2, 3, 4] rfl)
set_option maxHeartbeats 4000000 in
set_option maxRecDepth 100000 in
theorem kX12_laySteps_66 {p : Program} {l : Launch} {e : Env} {s : State} {m : MethodId} {args : Array Value} {below : List Frame} {meth : Method} {c : Code} {D : va_G} {cy : Nat → ClassId} {q : Nat → Nat} {A : Nat → Prop} (cx : zX RX12 cX12_laySteps 6 p s m args c D cy) (hr : meth.sig.returnType = none) (hlk : meth.locks = false) (hq : zQ A q zNM) {z : zSt} {v2 : Int32} {v3 : Int32} {C1 : ((zSt × Int32) ⊕ zSt) → Prop} (hb1 : ∀ (S : zSt) (v1 : Int32), C1 (.inl (S, v1)) → ∀ (H : Heap) (locs : List Loc), va_P D vwCl (zW zshM zNM cy q S) H → va_S A s.heap H locs → ∀ (ls : Array Slot), lv_has ls 6 [(0, .ref (q 0)), (1, .int v1)] → W p l e rmX12_laySteps s m args below meth c H locs 0 0 (MQ below (va_Qv (fun (u : zSt) => u = z) (fun u t => va_P D vwCl (zW zshM zNM cy q u) t.heap) A) args s 0 0 A) (F0 m 37 ls [])) (hx1 : ∀ a, C1 (.inr a) → a = z) {C2 : ((zSt × Int32 × Int32) ⊕ ((zSt × Int32) ⊕ zSt)) → Prop} (hb2 : ∀ (S : zSt) (v1 : Int32) (v2 : Int32), C2 (.inl (S, v1, v2)) → ∀ (H : Heap) (locs : List Loc), va_P D vwCl (zW zshM zNM cy q S) H → va_S A s.heap H locs → ∀ (ls : Array Slot), lv_has ls 6 [(0, .ref (q 0)), (1, .int v1), (2, .int v2)] → W p l e rmX12_laySteps s m args below meth c H locs 0 0 (MQ below (va_Qv (fun (u : zSt) => u = z) (fun u t => va_P D vwCl (zW zshM zNM cy q u) t.heap) A) args s 0 0 A) (F0 m 45 ls [])) (hx2 : ∀ a, C2 (.inr a) → C1 a) {C3 : ((zSt × Int32 × Int32) ⊕ ((zSt × Int32 × Int32) ⊕ ((zSt × Int32) ⊕ zSt))) → Prop} (hb3 : ∀ (S : zSt) (v1 : Int32) (v3 : Int32), C3 (.inl (S, v1, v3)) → ∀ (H : Heap) (locs : List Loc), va_P D vwCl (zW zshM zNM cy q S) H → va_S A s.heap H locs → ∀ (ls : Array Slot), lv_has ls 6 [(0, .ref (q 0)), (1, .int v1), (2, .int v2), (3, .int v3)] → W p l e rmX12_laySteps s m args below meth c H locs 0 0 (MQ below (va_Qv (fun (u : zSt) => u = z) (fun u t => va_P D vwCl (zW zshM zNM cy q u) t.heap) A) args s 0 0 A) (F0 m 57 ls [])) (hx3 : ∀ a, C3 (.inr a) → C2 a) {xo : ((zSt × Int32 × Int32) ⊕ ((zSt × Int32 × Int32) ⊕ ((zSt × Int32) ⊕ zSt)))} (hc : C3 xo) : ∀ (n : Nat) (S : zSt) (v1 : Int32) (v4 : Int32), zLp (fX12_laySteps_66 v2 v3) n (S, v1, v4) = some xo → ∀ (H : Heap) (locs : List Loc), va_P D vwCl (zW zshM zNM cy q S) H → va_S A s.heap H locs → ∀ (ls : Array Slot), lv_has ls 6 [(0, .ref (q 0)), (1, .int v1), (2, .int v2), (3, .int v3), (4, .int v4)] → W p l e rmX12_laySteps s m args below meth c H locs 0 0 (MQ below (va_Qv (fun (u : zSt) => u = z) (fun u t => va_P D vwCl (zW zshM zNM cy q u) t.heap) A) args s 0 0 A) (F0 m 66 ls []) := by
  intro n
  induction n with
  | zero =>
    intro S v1 v4 h
    cases h
  | succ n ih =>
    intro S v1 v4 h H locs hP hS ls hl
    obtain ⟨x, h, hk⟩ := zLp_e h
    exact kX12_laySteps_66B cx hr hlk hq hb1 hx1 hb2 hx2 hb3 hx3 (C4 := zKt (fun t => zLp (fX12_laySteps_66 v2 v3) n t = some xo) (fun a => a = xo)) (fun S v1 v4 ht H locs hP hS ls hl => ih S v1 v4 ht H locs hP hS ls hl) (fun a ha => ha ▸ hc) h hk hP hS hl
def fX12_laySteps_57  (v2 : Int32) (t : (zSt × Int32 × Int32)) : Option ((zSt × Int32 × Int32) ⊕ ((zSt × Int32 × Int32) ⊕ ((zSt × Int32) ⊕ zSt))) :=
  match t with
  | (S, v1, v3) => zBr ((32 : Int32) ≤ v3) (zXr (zLt (v2 + (1 : Int32)) (fun x10 => some (.inl (S, v1, x10))))) (zLp (fX12_laySteps_66 v2 v3) 2000 (S, v1, (0 : Int32)))
set_option maxHeartbeats 4000000 in
set_option maxRecDepth 100000 in
theorem kX12_laySteps_57B {p : Program} {l : Launch} {e : Env} {s : State} {m : MethodId} {args : Array Value} {below : List Frame} {meth : Method} {c : Code} {D : va_G} {cy : Nat → ClassId} {q : Nat → Nat} {A : Nat → Prop} (cx : zX RX12 cX12_laySteps 6 p s m args c D cy) (hr : meth.sig.returnType = none) (hlk : meth.locks = false) (hq : zQ A q zNM) {z : zSt} {S : zSt} {v1 : Int32} {v2 : Int32} {v3 : Int32} {C1 : ((zSt × Int32) ⊕ zSt) → Prop} (hb1 : ∀ (S : zSt) (v1 : Int32), C1 (.inl (S, v1)) → ∀ (H : Heap) (locs : List Loc), va_P D vwCl (zW zshM zNM cy q S) H → va_S A s.heap H locs → ∀ (ls : Array Slot), lv_has ls 6 [(0, .ref (q 0)), (1, .int v1)] → W p l e rmX12_laySteps s m args below meth c H locs 0 0 (MQ below (va_Qv (fun (u : zSt) => u = z) (fun u t => va_P D vwCl (zW zshM zNM cy q u) t.heap) A) args s 0 0 A) (F0 m 37 ls [])) (hx1 : ∀ a, C1 (.inr a) → a = z) {C2 : ((zSt × Int32 × Int32) ⊕ ((zSt × Int32) ⊕ zSt)) → Prop} (hb2 : ∀ (S : zSt) (v1 : Int32) (v2 : Int32), C2 (.inl (S, v1, v2)) → ∀ (H : Heap) (locs : List Loc), va_P D vwCl (zW zshM zNM cy q S) H → va_S A s.heap H locs → ∀ (ls : Array Slot), lv_has ls 6 [(0, .ref (q 0)), (1, .int v1), (2, .int v2)] → W p l e rmX12_laySteps s m args below meth c H locs 0 0 (MQ below (va_Qv (fun (u : zSt) => u = z) (fun u t => va_P D vwCl (zW zshM zNM cy q u) t.heap) A) args s 0 0 A) (F0 m 45 ls [])) (hx2 : ∀ a, C2 (.inr a) → C1 a) {C3 : ((zSt × Int32 × Int32) ⊕ ((zSt × Int32 × Int32) ⊕ ((zSt × Int32) ⊕ zSt))) → Prop} (hb3 : ∀ (S : zSt) (v1 : Int32) (v3 : Int32), C3 (.inl (S, v1, v3)) → ∀ (H : Heap) (locs : List Loc), va_P D vwCl (zW zshM zNM cy q S) H → va_S A s.heap H locs → ∀ (ls : Array Slot), lv_has ls 6 [(0, .ref (q 0)), (1, .int v1), (2, .int v2), (3, .int v3)] → W p l e rmX12_laySteps s m args below meth c H locs 0 0 (MQ below (va_Qv (fun (u : zSt) => u = z) (fun u t => va_P D vwCl (zW zshM zNM cy q u) t.heap) A) args s 0 0 A) (F0 m 57 ls [])) (hx3 : ∀ a, C3 (.inr a) → C2 a) {x : ((zSt × Int32 × Int32) ⊕ ((zSt × Int32 × Int32) ⊕ ((zSt × Int32) ⊕ zSt)))} (h : fX12_laySteps_57 v2 (S, v1, v3) = some x) (hc : C3 x) {H : Heap} {locs : List Loc} (hP : va_P D vwCl (zW zshM zNM cy q S) H) (hS : va_S A s.heap H locs) {ls : Array Slot} (hl : lv_has ls 6 [(0, .ref (q 0)), (1, .int v1), (2, .int v2), (3, .int v3)]) : W p l e rmX12_laySteps s m args below meth c H locs 0 0 (MQ below (va_Qv (fun (u : zSt) => u = z) (fun u t => va_P D vwCl (zW zshM zNM cy q u) t.heap) A) args s 0 0 A) (F0 m 57 ls []) := by
  have hx := cx.1
  have hb := cx.2.1
  unfold fX12_laySteps_57 at h
  dsimp only at h
  refine lv_iload_n (pc := 57) hx hb dX12_laySteps_57 rfl (lv_at hl 3 rfl) ?_
  refine lv_bipush (pc := 58) hx hb dX12_laySteps_58 zb_32 ?_
  refine lv_icmp_ge (pc := 60) (tgt := 163) hx hb dX12_laySteps_60 (by decide) (fun c8 => ?_) (fun c8 => ?_)
  · replace h := zBr_t c8 h
    obtain ⟨y9, h, ex⟩ := zXr_e h
    have hc := hx3 y9 (by rw [ex] at hc; exact hc)
    obtain ⟨x10, ex10, h⟩ := zLt_e h
    refine lv_iinc (v := x10) (lv' := [(2, .int x10), (0, .ref (q 0)), (1, .int v1), (3, .int v3)]) (pc := 163) hx hb dX12_laySteps_163 hl (k := 2) rfl (by rw [zc_1]; exact ex10.symm) (by decide) rfl (fun ls hl => ?_)
    refine lv_goto (pc := 166) (tgt := 45) hx hb dX12_laySteps_166 (by decide) ?_
    cases h
    exact hb2 _ _ _ hc _ _ hP hS _ (lv_sub hl [1, 2, 0] rfl)
  · replace h := zBr_f c8 h
    refine lv_iconst (pc := 63) hx hb dX12_laySteps_63 zc_0 ?_
    refine lv_istore (lv' := [(4, .int (0 : Int32)), (0, .ref (q 0)), (1, .int v1), (2, .int v2), (3, .int v3)]) (pc := 64) hx hb dX12_laySteps_64 hl (by decide) rfl (fun ls hl => ?_)
    exact kX12_laySteps_66 cx hr hlk hq hb1 hx1 hb2 hx2 hb3 hx3 hc 2000 _ _ _ h _ _ hP hS _ (lv_sub hl [1, 2, 3, 4, 0] rfl)
set_option maxHeartbeats 4000000 in
set_option maxRecDepth 100000 in
theorem kX12_laySteps_57 {p : Program} {l : Launch} {e : Env} {s : State} {m : MethodId} {args : Array Value} {below : List Frame} {meth : Method} {c : Code} {D : va_G} {cy : Nat → ClassId} {q : Nat → Nat} {A : Nat → Prop} (cx : zX RX12 cX12_laySteps 6 p s m args c D cy) (hr : meth.sig.returnType = none) (hlk : meth.locks = false) (hq : zQ A q zNM) {z : zSt} {v2 : Int32} {C1 : ((zSt × Int32) ⊕ zSt) → Prop} (hb1 : ∀ (S : zSt) (v1 : Int32), C1 (.inl (S, v1)) → ∀ (H : Heap) (locs : List Loc), va_P D vwCl (zW zshM zNM cy q S) H → va_S A s.heap H locs → ∀ (ls : Array Slot), lv_has ls 6 [(0, .ref (q 0)), (1, .int v1)] → W p l e rmX12_laySteps s m args below meth c H locs 0 0 (MQ below (va_Qv (fun (u : zSt) => u = z) (fun u t => va_P D vwCl (zW zshM zNM cy q u) t.heap) A) args s 0 0 A) (F0 m 37 ls [])) (hx1 : ∀ a, C1 (.inr a) → a = z) {C2 : ((zSt × Int32 × Int32) ⊕ ((zSt × Int32) ⊕ zSt)) → Prop} (hb2 : ∀ (S : zSt) (v1 : Int32) (v2 : Int32), C2 (.inl (S, v1, v2)) → ∀ (H : Heap) (locs : List Loc), va_P D vwCl (zW zshM zNM cy q S) H → va_S A s.heap H locs → ∀ (ls : Array Slot), lv_has ls 6 [(0, .ref (q 0)), (1, .int v1), (2, .int v2)] → W p l e rmX12_laySteps s m args below meth c H locs 0 0 (MQ below (va_Qv (fun (u : zSt) => u = z) (fun u t => va_P D vwCl (zW zshM zNM cy q u) t.heap) A) args s 0 0 A) (F0 m 45 ls [])) (hx2 : ∀ a, C2 (.inr a) → C1 a) {xo : ((zSt × Int32 × Int32) ⊕ ((zSt × Int32) ⊕ zSt))} (hc : C2 xo) : ∀ (n : Nat) (S : zSt) (v1 : Int32) (v3 : Int32), zLp (fX12_laySteps_57 v2) n (S, v1, v3) = some xo → ∀ (H : Heap) (locs : List Loc), va_P D vwCl (zW zshM zNM cy q S) H → va_S A s.heap H locs → ∀ (ls : Array Slot), lv_has ls 6 [(0, .ref (q 0)), (1, .int v1), (2, .int v2), (3, .int v3)] → W p l e rmX12_laySteps s m args below meth c H locs 0 0 (MQ below (va_Qv (fun (u : zSt) => u = z) (fun u t => va_P D vwCl (zW zshM zNM cy q u) t.heap) A) args s 0 0 A) (F0 m 57 ls []) := by
  intro n
  induction n with
  | zero =>
    intro S v1 v3 h
    cases h
  | succ n ih =>
    intro S v1 v3 h H locs hP hS ls hl
    obtain ⟨x, h, hk⟩ := zLp_e h
    exact kX12_laySteps_57B cx hr hlk hq hb1 hx1 hb2 hx2 (C3 := zKt (fun t => zLp (fX12_laySteps_57 v2) n t = some xo) (fun a => a = xo)) (fun S v1 v3 ht H locs hP hS ls hl => ih S v1 v3 ht H locs hP hS ls hl) (fun a ha => ha ▸ hc) h hk hP hS hl
def fX12_laySteps_45  (t : (zSt × Int32 × Int32)) : Option ((zSt × Int32 × Int32) ⊕ ((zSt × Int32) ⊕ zSt)) :=
  match t with
  | (S, v1, v2) => zGd (zIx (0 : Int32) 406) (zBr ((S.1 2 (0 : Int32).toNatClampNeg) ≤ v2) (zXr (some (.inl (S, v1)))) (zLp (fX12_laySteps_57 v2) 2000 (S, v1, (1 : Int32))))
set_option maxHeartbeats 4000000 in
set_option maxRecDepth 100000 in
theorem kX12_laySteps_45B {p : Program} {l : Launch} {e : Env} {s : State} {m : MethodId} {args : Array Value} {below : List Frame} {meth : Method} {c : Code} {D : va_G} {cy : Nat → ClassId} {q : Nat → Nat} {A : Nat → Prop} (cx : zX RX12 cX12_laySteps 6 p s m args c D cy) (hr : meth.sig.returnType = none) (hlk : meth.locks = false) (hq : zQ A q zNM) {z : zSt} {S : zSt} {v1 : Int32} {v2 : Int32} {C1 : ((zSt × Int32) ⊕ zSt) → Prop} (hb1 : ∀ (S : zSt) (v1 : Int32), C1 (.inl (S, v1)) → ∀ (H : Heap) (locs : List Loc), va_P D vwCl (zW zshM zNM cy q S) H → va_S A s.heap H locs → ∀ (ls : Array Slot), lv_has ls 6 [(0, .ref (q 0)), (1, .int v1)] → W p l e rmX12_laySteps s m args below meth c H locs 0 0 (MQ below (va_Qv (fun (u : zSt) => u = z) (fun u t => va_P D vwCl (zW zshM zNM cy q u) t.heap) A) args s 0 0 A) (F0 m 37 ls [])) (hx1 : ∀ a, C1 (.inr a) → a = z) {C2 : ((zSt × Int32 × Int32) ⊕ ((zSt × Int32) ⊕ zSt)) → Prop} (hb2 : ∀ (S : zSt) (v1 : Int32) (v2 : Int32), C2 (.inl (S, v1, v2)) → ∀ (H : Heap) (locs : List Loc), va_P D vwCl (zW zshM zNM cy q S) H → va_S A s.heap H locs → ∀ (ls : Array Slot), lv_has ls 6 [(0, .ref (q 0)), (1, .int v1), (2, .int v2)] → W p l e rmX12_laySteps s m args below meth c H locs 0 0 (MQ below (va_Qv (fun (u : zSt) => u = z) (fun u t => va_P D vwCl (zW zshM zNM cy q u) t.heap) A) args s 0 0 A) (F0 m 45 ls [])) (hx2 : ∀ a, C2 (.inr a) → C1 a) {x : ((zSt × Int32 × Int32) ⊕ ((zSt × Int32) ⊕ zSt))} (h : fX12_laySteps_45 (S, v1, v2) = some x) (hc : C2 x) {H : Heap} {locs : List Loc} (hP : va_P D vwCl (zW zshM zNM cy q S) H) (hS : va_S A s.heap H locs) {ls : Array Slot} (hl : lv_has ls 6 [(0, .ref (q 0)), (1, .int v1), (2, .int v2)]) : W p l e rmX12_laySteps s m args below meth c H locs 0 0 (MQ below (va_Qv (fun (u : zSt) => u = z) (fun u t => va_P D vwCl (zW zshM zNM cy q u) t.heap) A) args s 0 0 A) (F0 m 45 ls []) := by
  have hx := cx.1
  have hb := cx.2.1
  unfold fX12_laySteps_45 at h
  dsimp only at h
  refine lv_iload_n (pc := 45) hx hb dX12_laySteps_45 rfl (lv_at hl 2 rfl) ?_
  refine lv_aload_n (pc := 46) hx hb dX12_laySteps_46 rfl (lv_at hl 0 rfl) ?_
  refine zr_getR (pc := 47) (t := 2) cx lk_X12_98 hP nM_0 sM_0 rfl dX12_laySteps_47 ?_
  refine lv_iconst (pc := 50) hx hb dX12_laySteps_50 zc_0 ?_
  obtain ⟨g5, h⟩ := zGd_e h
  refine zr_iald (pc := 51) cx hP nM_2 sM_2 g5 dX12_laySteps_51 ?_
  refine lv_icmp_ge (pc := 52) (tgt := 169) hx hb dX12_laySteps_52 (by decide) (fun c6 => ?_) (fun c6 => ?_)
  · replace h := zBr_t c6 h
    obtain ⟨y7, h, ex⟩ := zXr_e h
    have hc := hx2 y7 (by rw [ex] at hc; exact hc)
    refine lv_goto (pc := 169) (tgt := 37) hx hb dX12_laySteps_169 (by decide) ?_
    cases h
    exact hb1 _ _ hc _ _ hP hS _ (lv_sub hl [0, 1] rfl)
  · replace h := zBr_f c6 h
    refine lv_iconst (pc := 55) hx hb dX12_laySteps_55 zc_1 ?_
    refine lv_istore_n (lv' := [(3, .int (1 : Int32)), (0, .ref (q 0)), (1, .int v1), (2, .int v2)]) (pc := 56) hx hb dX12_laySteps_56 rfl hl (by decide) rfl (fun ls hl => ?_)
    exact kX12_laySteps_57 cx hr hlk hq hb1 hx1 hb2 hx2 hc 2000 _ _ _ h _ _ hP hS _ (lv_sub hl [1, 2, 3, 0] rfl)
set_option maxHeartbeats 4000000 in
set_option maxRecDepth 100000 in
theorem kX12_laySteps_45 {p : Program} {l : Launch} {e : Env} {s : State} {m : MethodId} {args : Array Value} {below : List Frame} {meth : Method} {c : Code} {D : va_G} {cy : Nat → ClassId} {q : Nat → Nat} {A : Nat → Prop} (cx : zX RX12 cX12_laySteps 6 p s m args c D cy) (hr : meth.sig.returnType = none) (hlk : meth.locks = false) (hq : zQ A q zNM) {z : zSt} {C1 : ((zSt × Int32) ⊕ zSt) → Prop} (hb1 : ∀ (S : zSt) (v1 : Int32), C1 (.inl (S, v1)) → ∀ (H : Heap) (locs : List Loc), va_P D vwCl (zW zshM zNM cy q S) H → va_S A s.heap H locs → ∀ (ls : Array Slot), lv_has ls 6 [(0, .ref (q 0)), (1, .int v1)] → W p l e rmX12_laySteps s m args below meth c H locs 0 0 (MQ below (va_Qv (fun (u : zSt) => u = z) (fun u t => va_P D vwCl (zW zshM zNM cy q u) t.heap) A) args s 0 0 A) (F0 m 37 ls [])) (hx1 : ∀ a, C1 (.inr a) → a = z) {xo : ((zSt × Int32) ⊕ zSt)} (hc : C1 xo) : ∀ (n : Nat) (S : zSt) (v1 : Int32) (v2 : Int32), zLp (fX12_laySteps_45) n (S, v1, v2) = some xo → ∀ (H : Heap) (locs : List Loc), va_P D vwCl (zW zshM zNM cy q S) H → va_S A s.heap H locs → ∀ (ls : Array Slot), lv_has ls 6 [(0, .ref (q 0)), (1, .int v1), (2, .int v2)] → W p l e rmX12_laySteps s m args below meth c H locs 0 0 (MQ below (va_Qv (fun (u : zSt) => u = z) (fun u t => va_P D vwCl (zW zshM zNM cy q u) t.heap) A) args s 0 0 A) (F0 m 45 ls []) := by
  intro n
  induction n with
  | zero =>
    intro S v1 v2 h
    cases h
  | succ n ih =>
    intro S v1 v2 h H locs hP hS ls hl
    obtain ⟨x, h, hk⟩ := zLp_e h
    exact kX12_laySteps_45B cx hr hlk hq hb1 hx1 (C2 := zKt (fun t => zLp (fX12_laySteps_45) n t = some xo) (fun a => a = xo)) (fun S v1 v2 ht H locs hP hS ls hl => ih S v1 v2 ht H locs hP hS ls hl) (fun a ha => ha ▸ hc) h hk hP hS hl
def fX12_laySteps_37  (t : (zSt × Int32)) : Option ((zSt × Int32) ⊕ zSt) :=
  match t with
  | (S, v1) => zBr (v1 = 0) (zXr (some S)) (zLp (fX12_laySteps_45) 2000 (S, (0 : Int32), (0 : Int32)))
set_option maxHeartbeats 4000000 in
set_option maxRecDepth 100000 in
theorem kX12_laySteps_37B {p : Program} {l : Launch} {e : Env} {s : State} {m : MethodId} {args : Array Value} {below : List Frame} {meth : Method} {c : Code} {D : va_G} {cy : Nat → ClassId} {q : Nat → Nat} {A : Nat → Prop} (cx : zX RX12 cX12_laySteps 6 p s m args c D cy) (hr : meth.sig.returnType = none) (hlk : meth.locks = false) (hq : zQ A q zNM) {z : zSt} {S : zSt} {v1 : Int32} {C1 : ((zSt × Int32) ⊕ zSt) → Prop} (hb1 : ∀ (S : zSt) (v1 : Int32), C1 (.inl (S, v1)) → ∀ (H : Heap) (locs : List Loc), va_P D vwCl (zW zshM zNM cy q S) H → va_S A s.heap H locs → ∀ (ls : Array Slot), lv_has ls 6 [(0, .ref (q 0)), (1, .int v1)] → W p l e rmX12_laySteps s m args below meth c H locs 0 0 (MQ below (va_Qv (fun (u : zSt) => u = z) (fun u t => va_P D vwCl (zW zshM zNM cy q u) t.heap) A) args s 0 0 A) (F0 m 37 ls [])) (hx1 : ∀ a, C1 (.inr a) → a = z) {x : ((zSt × Int32) ⊕ zSt)} (h : fX12_laySteps_37 (S, v1) = some x) (hc : C1 x) {H : Heap} {locs : List Loc} (hP : va_P D vwCl (zW zshM zNM cy q S) H) (hS : va_S A s.heap H locs) {ls : Array Slot} (hl : lv_has ls 6 [(0, .ref (q 0)), (1, .int v1)]) : W p l e rmX12_laySteps s m args below meth c H locs 0 0 (MQ below (va_Qv (fun (u : zSt) => u = z) (fun u t => va_P D vwCl (zW zshM zNM cy q u) t.heap) A) args s 0 0 A) (F0 m 37 ls []) := by
  have hx := cx.1
  have hb := cx.2.1
  unfold fX12_laySteps_37 at h
  dsimp only at h
  refine lv_iload_n (pc := 37) hx hb dX12_laySteps_37 rfl (lv_at hl 1 rfl) ?_
  refine lv_if_eq (pc := 38) (tgt := 172) hx hb dX12_laySteps_38 (by decide) (fun c3 => ?_) (fun c3 => ?_)
  · replace h := zBr_t c3 h
    obtain ⟨y4, h, ex⟩ := zXr_e h
    have hc := hx1 y4 (by rw [ex] at hc; exact hc)
    rw [hc] at h
    have hz := Option.some.inj h
    exact zr_rqV (pc := 172) cx hr hlk hP hS hz dX12_laySteps_172
  · replace h := zBr_f c3 h
    refine lv_iconst (pc := 41) hx hb dX12_laySteps_41 zc_0 ?_
    refine lv_istore_n (lv' := [(1, .int (0 : Int32)), (0, .ref (q 0))]) (pc := 42) hx hb dX12_laySteps_42 rfl hl (by decide) rfl (fun ls hl => ?_)
    refine lv_iconst (pc := 43) hx hb dX12_laySteps_43 zc_0 ?_
    refine lv_istore_n (lv' := [(2, .int (0 : Int32)), (1, .int (0 : Int32)), (0, .ref (q 0))]) (pc := 44) hx hb dX12_laySteps_44 rfl hl (by decide) rfl (fun ls hl => ?_)
    exact kX12_laySteps_45 cx hr hlk hq hb1 hx1 hc 2000 _ _ _ h _ _ hP hS _ (lv_sub hl [2, 1, 0] rfl)
set_option maxHeartbeats 4000000 in
set_option maxRecDepth 100000 in
theorem kX12_laySteps_37 {p : Program} {l : Launch} {e : Env} {s : State} {m : MethodId} {args : Array Value} {below : List Frame} {meth : Method} {c : Code} {D : va_G} {cy : Nat → ClassId} {q : Nat → Nat} {A : Nat → Prop} (cx : zX RX12 cX12_laySteps 6 p s m args c D cy) (hr : meth.sig.returnType = none) (hlk : meth.locks = false) (hq : zQ A q zNM) {z : zSt} : ∀ (n : Nat) (S : zSt) (v1 : Int32), zLp (fX12_laySteps_37) n (S, v1) = some z → ∀ (H : Heap) (locs : List Loc), va_P D vwCl (zW zshM zNM cy q S) H → va_S A s.heap H locs → ∀ (ls : Array Slot), lv_has ls 6 [(0, .ref (q 0)), (1, .int v1)] → W p l e rmX12_laySteps s m args below meth c H locs 0 0 (MQ below (va_Qv (fun (u : zSt) => u = z) (fun u t => va_P D vwCl (zW zshM zNM cy q u) t.heap) A) args s 0 0 A) (F0 m 37 ls []) := by
  intro n
  induction n with
  | zero =>
    intro S v1 h
    cases h
  | succ n ih =>
    intro S v1 h H locs hP hS ls hl
    obtain ⟨x, h, hk⟩ := zLp_e h
    exact kX12_laySteps_37B cx hr hlk hq  (C1 := zKt (fun t => zLp (fX12_laySteps_37) n t = some z) (fun a => a = z)) (fun S v1 ht H locs hP hS ls hl => ih S v1 ht H locs hP hS ls hl) (fun a ha => ha) h hk hP hS hl
def fX12_laySteps_28 (S : zSt)  (v1 : Int32) (t0 : Int32) (t1 : Int32) : Option ((zSt × Int32) ⊕ zSt) :=
  zGd (zIx t1 160) (zLt (zI S 12 t1.toNatClampNeg t0) (fun S35 => zLt (v1 + (1 : Int32)) (fun x36 => some (.inl (S35, x36)))))
set_option maxHeartbeats 4000000 in
set_option maxRecDepth 100000 in
theorem kX12_laySteps_28 {p : Program} {l : Launch} {e : Env} {s : State} {m : MethodId} {args : Array Value} {below : List Frame} {meth : Method} {c : Code} {D : va_G} {cy : Nat → ClassId} {q : Nat → Nat} {A : Nat → Prop} (cx : zX RX12 cX12_laySteps 6 p s m args c D cy) (hr : meth.sig.returnType = none) (hlk : meth.locks = false) (hq : zQ A q zNM) {z : zSt} {S : zSt} {v1 : Int32} {t0 : Int32} {t1 : Int32} {C1 : ((zSt × Int32) ⊕ zSt) → Prop} (hb1 : ∀ (S : zSt) (v1 : Int32), C1 (.inl (S, v1)) → ∀ (H : Heap) (locs : List Loc), va_P D vwCl (zW zshM zNM cy q S) H → va_S A s.heap H locs → ∀ (ls : Array Slot), lv_has ls 6 [(0, .ref (q 0)), (1, .int v1)] → W p l e rmX12_laySteps s m args below meth c H locs 0 0 (MQ below (va_Qv (fun (u : zSt) => u = z) (fun u t => va_P D vwCl (zW zshM zNM cy q u) t.heap) A) args s 0 0 A) (F0 m 2 ls [])) (hx1 : ∀ a, C1 (.inr a) → a = z) {x : ((zSt × Int32) ⊕ zSt)} (h : fX12_laySteps_28 S v1 t0 t1 = some x) (hc : C1 x) {H : Heap} {locs : List Loc} (hP : va_P D vwCl (zW zshM zNM cy q S) H) (hS : va_S A s.heap H locs) {ls : Array Slot} (hl : lv_has ls 6 [(0, .ref (q 0)), (1, .int v1)]) : W p l e rmX12_laySteps s m args below meth c H locs 0 0 (MQ below (va_Qv (fun (u : zSt) => u = z) (fun u t => va_P D vwCl (zW zshM zNM cy q u) t.heap) A) args s 0 0 A) (F0 m 28 ls [.int t0, .int t1, .ref (q 12)]) := by
  have hx := cx.1
  have hb := cx.2.1
  unfold fX12_laySteps_28 at h
  obtain ⟨g34, h⟩ := zGd_e h
  obtain ⟨S35, eS35, h⟩ := zLt_e h
  refine zr_iast (pc := 28) cx hq hP hS nM_12 sM_12 g34 dX12_laySteps_28 (fun H locs hP hS => ?_)
  rw [← eS35] at hP
  obtain ⟨x36, ex36, h⟩ := zLt_e h
  refine lv_iinc (v := x36) (lv' := [(1, .int x36), (0, .ref (q 0))]) (pc := 29) hx hb dX12_laySteps_29 hl (k := 1) rfl (by rw [zc_1]; exact ex36.symm) (by decide) rfl (fun ls hl => ?_)
  refine lv_goto (pc := 32) (tgt := 2) hx hb dX12_laySteps_32 (by decide) ?_
  cases h
  exact hb1 _ _ hc _ _ hP hS _ (lv_sub hl [1, 0] rfl)
def fX12_laySteps_2  (t : (zSt × Int32)) : Option ((zSt × Int32) ⊕ zSt) :=
  match t with
  | (S, v1) => zBr ((160 : Int32) ≤ v1) (zXr (zLp (fX12_laySteps_37) 2000 (S, (1 : Int32)))) (zGd (decide (¬ (32 : Int32) = 0)) (zBr ((v1 - v1 / (32 : Int32) * (32 : Int32)) = 0) (fX12_laySteps_28 S v1 (0 : Int32) v1) (fX12_laySteps_28 S v1 (100000 : Int32) v1)))
set_option maxHeartbeats 4000000 in
set_option maxRecDepth 100000 in
theorem kX12_laySteps_2B {p : Program} {l : Launch} {e : Env} {s : State} {m : MethodId} {args : Array Value} {below : List Frame} {meth : Method} {c : Code} {D : va_G} {cy : Nat → ClassId} {q : Nat → Nat} {A : Nat → Prop} (cx : zX RX12 cX12_laySteps 6 p s m args c D cy) (hr : meth.sig.returnType = none) (hlk : meth.locks = false) (hq : zQ A q zNM) {z : zSt} {S : zSt} {v1 : Int32} {C1 : ((zSt × Int32) ⊕ zSt) → Prop} (hb1 : ∀ (S : zSt) (v1 : Int32), C1 (.inl (S, v1)) → ∀ (H : Heap) (locs : List Loc), va_P D vwCl (zW zshM zNM cy q S) H → va_S A s.heap H locs → ∀ (ls : Array Slot), lv_has ls 6 [(0, .ref (q 0)), (1, .int v1)] → W p l e rmX12_laySteps s m args below meth c H locs 0 0 (MQ below (va_Qv (fun (u : zSt) => u = z) (fun u t => va_P D vwCl (zW zshM zNM cy q u) t.heap) A) args s 0 0 A) (F0 m 2 ls [])) (hx1 : ∀ a, C1 (.inr a) → a = z) {x : ((zSt × Int32) ⊕ zSt)} (h : fX12_laySteps_2 (S, v1) = some x) (hc : C1 x) {H : Heap} {locs : List Loc} (hP : va_P D vwCl (zW zshM zNM cy q S) H) (hS : va_S A s.heap H locs) {ls : Array Slot} (hl : lv_has ls 6 [(0, .ref (q 0)), (1, .int v1)]) : W p l e rmX12_laySteps s m args below meth c H locs 0 0 (MQ below (va_Qv (fun (u : zSt) => u = z) (fun u t => va_P D vwCl (zW zshM zNM cy q u) t.heap) A) args s 0 0 A) (F0 m 2 ls []) := by
  have hx := cx.1
  have hb := cx.2.1
  unfold fX12_laySteps_2 at h
  dsimp only at h
  refine lv_iload_n (pc := 2) hx hb dX12_laySteps_2 rfl (lv_at hl 1 rfl) ?_
  refine lv_sipush (pc := 3) hx hb dX12_laySteps_3 zs_160 ?_
  refine lv_icmp_ge (pc := 6) (tgt := 35) hx hb dX12_laySteps_6 (by decide) (fun c1 => ?_) (fun c1 => ?_)
  · replace h := zBr_t c1 h
    obtain ⟨y2, h, ex⟩ := zXr_e h
    have hc := hx1 y2 (by rw [ex] at hc; exact hc)
    rw [hc] at h
    refine lv_iconst (pc := 35) hx hb dX12_laySteps_35 zc_1 ?_
    refine lv_istore_n (lv' := [(1, .int (1 : Int32)), (0, .ref (q 0))]) (pc := 36) hx hb dX12_laySteps_36 rfl hl (by decide) rfl (fun ls hl => ?_)
    exact kX12_laySteps_37 cx hr hlk hq 2000 _ _ h _ _ hP hS _ (lv_sub hl [1, 0] rfl)
  · replace h := zBr_f c1 h
    refine lv_aload_n (pc := 9) hx hb dX12_laySteps_9 rfl (lv_at hl 0 rfl) ?_
    refine zr_getR (pc := 10) (t := 12) cx lk_X12_136 hP nM_0 sM_0 rfl dX12_laySteps_10 ?_
    refine lv_iload_n (pc := 13) hx hb dX12_laySteps_13 rfl (lv_at hl 1 rfl) ?_
    refine lv_iload_n (pc := 14) hx hb dX12_laySteps_14 rfl (lv_at hl 1 rfl) ?_
    refine lv_bipush (pc := 15) hx hb dX12_laySteps_15 zb_32 ?_
    obtain ⟨g32, h⟩ := zGd_e h
    refine lv_irem (pc := 17) hx hb dX12_laySteps_17 (by simpa using g32) ?_
    refine lv_if_ne (pc := 18) (tgt := 25) hx hb dX12_laySteps_18 (by decide) (fun c33 => ?_) (fun c33 => ?_)
    · replace h := zBr_f c33 h
      refine lv_ldcw (pc := 25) hx hb cx.2.2.2.1 (cx.2.2.2.2.1 _ wd_1898) dX12_laySteps_25 ?_
      exact kX12_laySteps_28 cx hr hlk hq hb1 hx1 h hc hP hS (lv_sub hl [0, 1] rfl)
    · replace h := zBr_t c33 h
      refine lv_iconst (pc := 21) hx hb dX12_laySteps_21 zc_0 ?_
      refine lv_goto (pc := 22) (tgt := 28) hx hb dX12_laySteps_22 (by decide) ?_
      exact kX12_laySteps_28 cx hr hlk hq hb1 hx1 h hc hP hS (lv_sub hl [0, 1] rfl)
set_option maxHeartbeats 4000000 in
set_option maxRecDepth 100000 in
theorem kX12_laySteps_2 {p : Program} {l : Launch} {e : Env} {s : State} {m : MethodId} {args : Array Value} {below : List Frame} {meth : Method} {c : Code} {D : va_G} {cy : Nat → ClassId} {q : Nat → Nat} {A : Nat → Prop} (cx : zX RX12 cX12_laySteps 6 p s m args c D cy) (hr : meth.sig.returnType = none) (hlk : meth.locks = false) (hq : zQ A q zNM) {z : zSt} : ∀ (n : Nat) (S : zSt) (v1 : Int32), zLp (fX12_laySteps_2) n (S, v1) = some z → ∀ (H : Heap) (locs : List Loc), va_P D vwCl (zW zshM zNM cy q S) H → va_S A s.heap H locs → ∀ (ls : Array Slot), lv_has ls 6 [(0, .ref (q 0)), (1, .int v1)] → W p l e rmX12_laySteps s m args below meth c H locs 0 0 (MQ below (va_Qv (fun (u : zSt) => u = z) (fun u t => va_P D vwCl (zW zshM zNM cy q u) t.heap) A) args s 0 0 A) (F0 m 2 ls []) := by
  intro n
  induction n with
  | zero =>
    intro S v1 h
    cases h
  | succ n ih =>
    intro S v1 h H locs hP hS ls hl
    obtain ⟨x, h, hk⟩ := zLp_e h
    exact kX12_laySteps_2B cx hr hlk hq  (C1 := zKt (fun t => zLp (fX12_laySteps_2) n t = some z) (fun a => a = z)) (fun S v1 ht H locs hP hS ls hl => ih S v1 ht H locs hP hS ls hl) (fun a ha => ha) h hk hP hS hl
def fX12_laySteps (S : zSt) : Option zSt :=
  zLp (fX12_laySteps_2) 2000 (S, (0 : Int32))
set_option maxHeartbeats 4000000 in
set_option maxRecDepth 100000 in
theorem mX12_laySteps {l : Launch} {D : va_G} {cy : Nat → ClassId} {q : Nat → Nat} {A : Nat → Prop} {S : zSt} (hq : zQ A q zNM) {z : zSt} (h : fX12_laySteps S = some z) : zMv l yX12_laySteps cX12_laySteps 6 none rmX12_laySteps [.ref (q 0)] zshM zNM D cy q A S z := by
  refine Met.ofW (cc := cX12_laySteps) (maxL := 6) (ret := none) (by decide) rfl ?_
  intro p e s m args below meth c s₁ B hml hv
  obtain ⟨rfl, hP, hK⟩ := hv
  have cx : zX RX12 cX12_laySteps 6 p s m ([.ref (q 0)]).toArray c D cy := ⟨B.exec, B.bytes, hml, findClass_of_methodNamed B.named, fun w hw => atoms_spec (ws := Cond.code yX12_laySteps cX12_laySteps 6 none :: zTB) B.pre w (List.mem_cons_of_mem _ hw), hK⟩
  have hx := cx.1
  have hb := cx.2.1
  have hr := B.returns
  have hlk := B.notSynchronized
  have hS : va_S A s.heap s.heap [] := va_S.rf
  have hl := lv_entry ([.ref (q 0)]) (n := 6) (Nat.le_of_ble_eq_true rfl)
  rw [lg_entry_eq]
  generalize (lg_sl ([.ref (q 0)]) ++ List.replicate (6 - (lg_sl ([.ref (q 0)])).length) Slot.unset).toArray = ls at hl ⊢
  have hl : lv_has ls 6 [(0, .ref (q 0))] := hl
  unfold fX12_laySteps at h
  refine lv_iconst (pc := 0) hx hb dX12_laySteps_0 zc_0 ?_
  refine lv_istore_n (lv' := [(1, .int (0 : Int32)), (0, .ref (q 0))]) (pc := 1) hx hb dX12_laySteps_1 rfl hl (by decide) rfl (fun ls hl => ?_)
  exact kX12_laySteps_2 cx hr hlk hq 2000 _ _ h _ _ hP hS _ (lv_sub hl [1, 0] rfl)
-- X12_now
abbrev rmX12_now : Room := { frames := 5, cells := 0, slots := 0, locals := 111 }
def fX12_now_104 (S : zSt)  (v2 : Int32) (v3 : Int32) : Option ((Int32 × Int32) ⊕ (Int32 × zSt)) :=
  zLt (v3 + (1 : Int32)) (fun x20 => some (.inl (v2, x20)))
set_option maxHeartbeats 4000000 in
set_option maxRecDepth 100000 in
theorem kX12_now_104 {p : Program} {l : Launch} {e : Env} {s : State} {m : MethodId} {args : Array Value} {below : List Frame} {meth : Method} {c : Code} {D : va_G} {cy : Nat → ClassId} {q : Nat → Nat} {A : Nat → Prop} (cx : zX RX12 cX12_now 4 p s m args c D cy) (hr : meth.sig.returnType = (some .int)) (hlk : meth.locks = false) (hq : zQ A q zNM) {z : (Int32 × zSt)} {S : zSt} {v2 : Int32} {v3 : Int32} {C1 : ((Int32 × Int32) ⊕ (Int32 × zSt)) → Prop} (hb1 : ∀ (v2 : Int32) (v3 : Int32), C1 (.inl (v2, v3)) → ∀ (H : Heap) (locs : List Loc), va_P D vwCl (zW zshM zNM cy q S) H → va_S A s.heap H locs → ∀ (ls : Array Slot), lv_has ls 4 [(0, .ref (q 0)), (2, .int v2), (3, .int v3)] → W p l e rmX12_now s m args below meth c H locs 0 0 (MQ below (va_Qi (fun (r : Int32) (u : zSt) => (r, u) = z) (fun u t => va_P D vwCl (zW zshM zNM cy q u) t.heap) A) args s 0 0 A) (F0 m 79 ls [])) (hx1 : ∀ a, C1 (.inr a) → a = z) {x : ((Int32 × Int32) ⊕ (Int32 × zSt))} (h : fX12_now_104 S v2 v3 = some x) (hc : C1 x) {H : Heap} {locs : List Loc} (hP : va_P D vwCl (zW zshM zNM cy q S) H) (hS : va_S A s.heap H locs) {ls : Array Slot} (hl : lv_has ls 4 [(0, .ref (q 0)), (2, .int v2), (3, .int v3)]) : W p l e rmX12_now s m args below meth c H locs 0 0 (MQ below (va_Qi (fun (r : Int32) (u : zSt) => (r, u) = z) (fun u t => va_P D vwCl (zW zshM zNM cy q u) t.heap) A) args s 0 0 A) (F0 m 104 ls []) := by
  have hx := cx.1
  have hb := cx.2.1
  unfold fX12_now_104 at h
  obtain ⟨x20, ex20, h⟩ := zLt_e h
  refine lv_iinc (v := x20) (lv' := [(3, .int x20), (0, .ref (q 0)), (2, .int v2)]) (pc := 104) hx hb dX12_now_104 hl (k := 2) rfl (by rw [zc_1]; exact ex20.symm) (by decide) rfl (fun ls hl => ?_)
  refine lv_goto (pc := 107) (tgt := 79) hx hb dX12_now_107 (by decide) ?_
  cases h
  exact hb1 _ _ hc _ _ hP hS _ (lv_sub hl [1, 2, 0] rfl)
def fX12_now_79 (S : zSt)  (t : (Int32 × Int32)) : Option ((Int32 × Int32) ⊕ (Int32 × zSt)) :=
  match t with
  | (v2, v3) => zGd (zIx (1 : Int32) 406) (zBr ((S.1 2 (1 : Int32).toNatClampNeg) ≤ v3) (zXr (some (v2, S))) (zBd (fX12_seesOf S v3 (0 : Int32)) (fun r18 => zBr (r18 = 0) (fX12_now_104 S v2 v3) (zLt (v2 ||| ((1 : Int32) <<< (v3 &&& 31))) (fun x21 => fX12_now_104 S x21 v3)))))
set_option maxHeartbeats 4000000 in
set_option maxRecDepth 100000 in
theorem kX12_now_79B {p : Program} {l : Launch} {e : Env} {s : State} {m : MethodId} {args : Array Value} {below : List Frame} {meth : Method} {c : Code} {D : va_G} {cy : Nat → ClassId} {q : Nat → Nat} {A : Nat → Prop} (cx : zX RX12 cX12_now 4 p s m args c D cy) (hr : meth.sig.returnType = (some .int)) (hlk : meth.locks = false) (hq : zQ A q zNM) {z : (Int32 × zSt)} {S : zSt} {v2 : Int32} {v3 : Int32} {C1 : ((Int32 × Int32) ⊕ (Int32 × zSt)) → Prop} (hb1 : ∀ (v2 : Int32) (v3 : Int32), C1 (.inl (v2, v3)) → ∀ (H : Heap) (locs : List Loc), va_P D vwCl (zW zshM zNM cy q S) H → va_S A s.heap H locs → ∀ (ls : Array Slot), lv_has ls 4 [(0, .ref (q 0)), (2, .int v2), (3, .int v3)] → W p l e rmX12_now s m args below meth c H locs 0 0 (MQ below (va_Qi (fun (r : Int32) (u : zSt) => (r, u) = z) (fun u t => va_P D vwCl (zW zshM zNM cy q u) t.heap) A) args s 0 0 A) (F0 m 79 ls [])) (hx1 : ∀ a, C1 (.inr a) → a = z) {x : ((Int32 × Int32) ⊕ (Int32 × zSt))} (h : fX12_now_79 S (v2, v3) = some x) (hc : C1 x) {H : Heap} {locs : List Loc} (hP : va_P D vwCl (zW zshM zNM cy q S) H) (hS : va_S A s.heap H locs) {ls : Array Slot} (hl : lv_has ls 4 [(0, .ref (q 0)), (2, .int v2), (3, .int v3)]) : W p l e rmX12_now s m args below meth c H locs 0 0 (MQ below (va_Qi (fun (r : Int32) (u : zSt) => (r, u) = z) (fun u t => va_P D vwCl (zW zshM zNM cy q u) t.heap) A) args s 0 0 A) (F0 m 79 ls []) := by
  have hx := cx.1
  have hb := cx.2.1
  unfold fX12_now_79 at h
  dsimp only at h
  refine lv_iload_n (pc := 79) hx hb dX12_now_79 rfl (lv_at hl 2 rfl) ?_
  refine lv_aload_n (pc := 80) hx hb dX12_now_80 rfl (lv_at hl 0 rfl) ?_
  refine zr_getR (pc := 81) (t := 2) cx lk_X12_98 hP nM_0 sM_0 rfl dX12_now_81 ?_
  refine lv_iconst (pc := 84) hx hb dX12_now_84 zc_1 ?_
  obtain ⟨g14, h⟩ := zGd_e h
  refine zr_iald (pc := 85) cx hP nM_2 sM_2 g14 dX12_now_85 ?_
  refine lv_icmp_ge (pc := 86) (tgt := 110) hx hb dX12_now_86 (by decide) (fun c15 => ?_) (fun c15 => ?_)
  · replace h := zBr_t c15 h
    obtain ⟨y16, h, ex⟩ := zXr_e h
    have hc := hx1 y16 (by rw [ex] at hc; exact hc)
    rw [hc] at h
    refine lv_iload_n (pc := 110) hx hb dX12_now_110 rfl (lv_at hl 1 rfl) ?_
    have hz := Option.some.inj h
    exact zr_rqI (pc := 111) cx hr hlk hP hS hz dX12_now_111
  · replace h := zBr_f c15 h
    refine lv_aload_n (pc := 89) hx hb dX12_now_89 rfl (lv_at hl 0 rfl) ?_
    refine lv_iload_n (pc := 90) hx hb dX12_now_90 rfl (lv_at hl 2 rfl) ?_
    refine lv_iconst (pc := 91) hx hb dX12_now_91 zc_0 ?_
    obtain ⟨r18, k17, h⟩ := zBd_e h
    refine zr_VI (pc := 92) (rest := []) cx cv_X12_250 (mX12_seesOf k17) ⟨⟨rfl, rfl⟩, Nat.le_of_ble_eq_true rfl, Nat.le_of_ble_eq_true rfl⟩ ⟨Nat.le_of_ble_eq_true rfl, Nat.le_of_ble_eq_true rfl⟩ hP nM_0 sM_0 rfl hl.1 rfl rfl (Nat.le_of_ble_eq_true rfl) dX12_now_92 ?_
    refine lv_if_eq (pc := 95) (tgt := 104) hx hb dX12_now_95 (by decide) (fun c19 => ?_) (fun c19 => ?_)
    · replace h := zBr_t c19 h
      exact kX12_now_104 cx hr hlk hq hb1 hx1 h hc hP hS (lv_sub hl [0, 1, 2] rfl)
    · replace h := zBr_f c19 h
      refine lv_iload_n (pc := 98) hx hb dX12_now_98 rfl (lv_at hl 1 rfl) ?_
      refine lv_iconst (pc := 99) hx hb dX12_now_99 zc_1 ?_
      refine lv_iload_n (pc := 100) hx hb dX12_now_100 rfl (lv_at hl 2 rfl) ?_
      refine lv_ishl (pc := 101) hx hb dX12_now_101 ?_
      refine lv_ior (pc := 102) hx hb dX12_now_102 ?_
      obtain ⟨x21, ex21, h⟩ := zLt_e h
      refine zr_nmI ex21 ?_
      refine lv_istore_n (lv' := [(2, .int x21), (0, .ref (q 0)), (3, .int v3)]) (pc := 103) hx hb dX12_now_103 rfl hl (by decide) rfl (fun ls hl => ?_)
      exact kX12_now_104 cx hr hlk hq hb1 hx1 h hc hP hS (lv_sub hl [1, 0, 2] rfl)
set_option maxHeartbeats 4000000 in
set_option maxRecDepth 100000 in
theorem kX12_now_79 {p : Program} {l : Launch} {e : Env} {s : State} {m : MethodId} {args : Array Value} {below : List Frame} {meth : Method} {c : Code} {D : va_G} {cy : Nat → ClassId} {q : Nat → Nat} {A : Nat → Prop} (cx : zX RX12 cX12_now 4 p s m args c D cy) (hr : meth.sig.returnType = (some .int)) (hlk : meth.locks = false) (hq : zQ A q zNM) {z : (Int32 × zSt)} {S : zSt} : ∀ (n : Nat) (v2 : Int32) (v3 : Int32), zLp (fX12_now_79 S) n (v2, v3) = some z → ∀ (H : Heap) (locs : List Loc), va_P D vwCl (zW zshM zNM cy q S) H → va_S A s.heap H locs → ∀ (ls : Array Slot), lv_has ls 4 [(0, .ref (q 0)), (2, .int v2), (3, .int v3)] → W p l e rmX12_now s m args below meth c H locs 0 0 (MQ below (va_Qi (fun (r : Int32) (u : zSt) => (r, u) = z) (fun u t => va_P D vwCl (zW zshM zNM cy q u) t.heap) A) args s 0 0 A) (F0 m 79 ls []) := by
  intro n
  induction n with
  | zero =>
    intro v2 v3 h
    cases h
  | succ n ih =>
    intro v2 v3 h H locs hP hS ls hl
    obtain ⟨x, h, hk⟩ := zLp_e h
    exact kX12_now_79B cx hr hlk hq  (C1 := zKt (fun t => zLp (fX12_now_79 S) n t = some z) (fun a => a = z)) (fun v2 v3 ht H locs hP hS ls hl => ih v2 v3 ht H locs hP hS ls hl) (fun a ha => ha) h hk hP hS hl
def fX12_now_142 (S : zSt)  (v2 : Int32) (v3 : Int32) : Option ((Int32 × Int32) ⊕ (Int32 × zSt)) :=
  zLt (v3 + (1 : Int32)) (fun x27 => some (.inl (v2, x27)))
set_option maxHeartbeats 4000000 in
set_option maxRecDepth 100000 in
theorem kX12_now_142 {p : Program} {l : Launch} {e : Env} {s : State} {m : MethodId} {args : Array Value} {below : List Frame} {meth : Method} {c : Code} {D : va_G} {cy : Nat → ClassId} {q : Nat → Nat} {A : Nat → Prop} (cx : zX RX12 cX12_now 4 p s m args c D cy) (hr : meth.sig.returnType = (some .int)) (hlk : meth.locks = false) (hq : zQ A q zNM) {z : (Int32 × zSt)} {S : zSt} {v2 : Int32} {v3 : Int32} {C1 : ((Int32 × Int32) ⊕ (Int32 × zSt)) → Prop} (hb1 : ∀ (v2 : Int32) (v3 : Int32), C1 (.inl (v2, v3)) → ∀ (H : Heap) (locs : List Loc), va_P D vwCl (zW zshM zNM cy q S) H → va_S A s.heap H locs → ∀ (ls : Array Slot), lv_has ls 4 [(0, .ref (q 0)), (2, .int v2), (3, .int v3)] → W p l e rmX12_now s m args below meth c H locs 0 0 (MQ below (va_Qi (fun (r : Int32) (u : zSt) => (r, u) = z) (fun u t => va_P D vwCl (zW zshM zNM cy q u) t.heap) A) args s 0 0 A) (F0 m 114 ls [])) (hx1 : ∀ a, C1 (.inr a) → a = z) {x : ((Int32 × Int32) ⊕ (Int32 × zSt))} (h : fX12_now_142 S v2 v3 = some x) (hc : C1 x) {H : Heap} {locs : List Loc} (hP : va_P D vwCl (zW zshM zNM cy q S) H) (hS : va_S A s.heap H locs) {ls : Array Slot} (hl : lv_has ls 4 [(0, .ref (q 0)), (2, .int v2), (3, .int v3)]) : W p l e rmX12_now s m args below meth c H locs 0 0 (MQ below (va_Qi (fun (r : Int32) (u : zSt) => (r, u) = z) (fun u t => va_P D vwCl (zW zshM zNM cy q u) t.heap) A) args s 0 0 A) (F0 m 142 ls []) := by
  have hx := cx.1
  have hb := cx.2.1
  unfold fX12_now_142 at h
  obtain ⟨x27, ex27, h⟩ := zLt_e h
  refine lv_iinc (v := x27) (lv' := [(3, .int x27), (0, .ref (q 0)), (2, .int v2)]) (pc := 142) hx hb dX12_now_142 hl (k := 2) rfl (by rw [zc_1]; exact ex27.symm) (by decide) rfl (fun ls hl => ?_)
  refine lv_goto (pc := 145) (tgt := 114) hx hb dX12_now_145 (by decide) ?_
  cases h
  exact hb1 _ _ hc _ _ hP hS _ (lv_sub hl [1, 2, 0] rfl)
def fX12_now_114 (S : zSt)  (t : (Int32 × Int32)) : Option ((Int32 × Int32) ⊕ (Int32 × zSt)) :=
  match t with
  | (v2, v3) => zGd (zIx (1 : Int32) 406) (zBr ((S.1 2 (1 : Int32).toNatClampNeg) ≤ v3) (zXr (some (v2, S))) (zGd (zIx ((32 : Int32) + v3) 406) (zBr ((S.1 2 ((32 : Int32) + v3).toNatClampNeg) ≤ 0) (fX12_now_142 S v2 v3) (zLt (v2 ||| ((1 : Int32) <<< (v3 &&& 31))) (fun x28 => fX12_now_142 S x28 v3)))))
set_option maxHeartbeats 4000000 in
set_option maxRecDepth 100000 in
theorem kX12_now_114B {p : Program} {l : Launch} {e : Env} {s : State} {m : MethodId} {args : Array Value} {below : List Frame} {meth : Method} {c : Code} {D : va_G} {cy : Nat → ClassId} {q : Nat → Nat} {A : Nat → Prop} (cx : zX RX12 cX12_now 4 p s m args c D cy) (hr : meth.sig.returnType = (some .int)) (hlk : meth.locks = false) (hq : zQ A q zNM) {z : (Int32 × zSt)} {S : zSt} {v2 : Int32} {v3 : Int32} {C1 : ((Int32 × Int32) ⊕ (Int32 × zSt)) → Prop} (hb1 : ∀ (v2 : Int32) (v3 : Int32), C1 (.inl (v2, v3)) → ∀ (H : Heap) (locs : List Loc), va_P D vwCl (zW zshM zNM cy q S) H → va_S A s.heap H locs → ∀ (ls : Array Slot), lv_has ls 4 [(0, .ref (q 0)), (2, .int v2), (3, .int v3)] → W p l e rmX12_now s m args below meth c H locs 0 0 (MQ below (va_Qi (fun (r : Int32) (u : zSt) => (r, u) = z) (fun u t => va_P D vwCl (zW zshM zNM cy q u) t.heap) A) args s 0 0 A) (F0 m 114 ls [])) (hx1 : ∀ a, C1 (.inr a) → a = z) {x : ((Int32 × Int32) ⊕ (Int32 × zSt))} (h : fX12_now_114 S (v2, v3) = some x) (hc : C1 x) {H : Heap} {locs : List Loc} (hP : va_P D vwCl (zW zshM zNM cy q S) H) (hS : va_S A s.heap H locs) {ls : Array Slot} (hl : lv_has ls 4 [(0, .ref (q 0)), (2, .int v2), (3, .int v3)]) : W p l e rmX12_now s m args below meth c H locs 0 0 (MQ below (va_Qi (fun (r : Int32) (u : zSt) => (r, u) = z) (fun u t => va_P D vwCl (zW zshM zNM cy q u) t.heap) A) args s 0 0 A) (F0 m 114 ls []) := by
  have hx := cx.1
  have hb := cx.2.1
  unfold fX12_now_114 at h
  dsimp only at h
  refine lv_iload_n (pc := 114) hx hb dX12_now_114 rfl (lv_at hl 2 rfl) ?_
  refine lv_aload_n (pc := 115) hx hb dX12_now_115 rfl (lv_at hl 0 rfl) ?_
  refine zr_getR (pc := 116) (t := 2) cx lk_X12_98 hP nM_0 sM_0 rfl dX12_now_116 ?_
  refine lv_iconst (pc := 119) hx hb dX12_now_119 zc_1 ?_
  obtain ⟨g22, h⟩ := zGd_e h
  refine zr_iald (pc := 120) cx hP nM_2 sM_2 g22 dX12_now_120 ?_
  refine lv_icmp_ge (pc := 121) (tgt := 148) hx hb dX12_now_121 (by decide) (fun c23 => ?_) (fun c23 => ?_)
  · replace h := zBr_t c23 h
    obtain ⟨y24, h, ex⟩ := zXr_e h
    have hc := hx1 y24 (by rw [ex] at hc; exact hc)
    rw [hc] at h
    refine lv_iload_n (pc := 148) hx hb dX12_now_148 rfl (lv_at hl 1 rfl) ?_
    have hz := Option.some.inj h
    exact zr_rqI (pc := 149) cx hr hlk hP hS hz dX12_now_149
  · replace h := zBr_f c23 h
    refine lv_aload_n (pc := 124) hx hb dX12_now_124 rfl (lv_at hl 0 rfl) ?_
    refine zr_getR (pc := 125) (t := 2) cx lk_X12_98 hP nM_0 sM_0 rfl dX12_now_125 ?_
    refine lv_bipush (pc := 128) hx hb dX12_now_128 zb_32 ?_
    refine lv_iload_n (pc := 130) hx hb dX12_now_130 rfl (lv_at hl 2 rfl) ?_
    refine lv_iadd (pc := 131) hx hb dX12_now_131 ?_
    obtain ⟨g25, h⟩ := zGd_e h
    refine zr_iald (pc := 132) cx hP nM_2 sM_2 g25 dX12_now_132 ?_
    refine lv_if_le (pc := 133) (tgt := 142) hx hb dX12_now_133 (by decide) (fun c26 => ?_) (fun c26 => ?_)
    · replace h := zBr_t c26 h
      exact kX12_now_142 cx hr hlk hq hb1 hx1 h hc hP hS (lv_sub hl [0, 1, 2] rfl)
    · replace h := zBr_f c26 h
      refine lv_iload_n (pc := 136) hx hb dX12_now_136 rfl (lv_at hl 1 rfl) ?_
      refine lv_iconst (pc := 137) hx hb dX12_now_137 zc_1 ?_
      refine lv_iload_n (pc := 138) hx hb dX12_now_138 rfl (lv_at hl 2 rfl) ?_
      refine lv_ishl (pc := 139) hx hb dX12_now_139 ?_
      refine lv_ior (pc := 140) hx hb dX12_now_140 ?_
      obtain ⟨x28, ex28, h⟩ := zLt_e h
      refine zr_nmI ex28 ?_
      refine lv_istore_n (lv' := [(2, .int x28), (0, .ref (q 0)), (3, .int v3)]) (pc := 141) hx hb dX12_now_141 rfl hl (by decide) rfl (fun ls hl => ?_)
      exact kX12_now_142 cx hr hlk hq hb1 hx1 h hc hP hS (lv_sub hl [1, 0, 2] rfl)
set_option maxHeartbeats 4000000 in
set_option maxRecDepth 100000 in
theorem kX12_now_114 {p : Program} {l : Launch} {e : Env} {s : State} {m : MethodId} {args : Array Value} {below : List Frame} {meth : Method} {c : Code} {D : va_G} {cy : Nat → ClassId} {q : Nat → Nat} {A : Nat → Prop} (cx : zX RX12 cX12_now 4 p s m args c D cy) (hr : meth.sig.returnType = (some .int)) (hlk : meth.locks = false) (hq : zQ A q zNM) {z : (Int32 × zSt)} {S : zSt} : ∀ (n : Nat) (v2 : Int32) (v3 : Int32), zLp (fX12_now_114 S) n (v2, v3) = some z → ∀ (H : Heap) (locs : List Loc), va_P D vwCl (zW zshM zNM cy q S) H → va_S A s.heap H locs → ∀ (ls : Array Slot), lv_has ls 4 [(0, .ref (q 0)), (2, .int v2), (3, .int v3)] → W p l e rmX12_now s m args below meth c H locs 0 0 (MQ below (va_Qi (fun (r : Int32) (u : zSt) => (r, u) = z) (fun u t => va_P D vwCl (zW zshM zNM cy q u) t.heap) A) args s 0 0 A) (F0 m 114 ls []) := by
  intro n
  induction n with
  | zero =>
    intro v2 v3 h
    cases h
  | succ n ih =>
    intro v2 v3 h H locs hP hS ls hl
    obtain ⟨x, h, hk⟩ := zLp_e h
    exact kX12_now_114B cx hr hlk hq  (C1 := zKt (fun t => zLp (fX12_now_114 S) n t = some z) (fun a => a = z)) (fun v2 v3 ht H locs hP hS ls hl => ih v2 v3 ht H locs hP hS ls hl) (fun a ha => ha) h hk hP hS hl
def fX12_now_175 (S : zSt)  (v1 : Int32) (v3 : Int32) (t0 : Int32) (t1 : Int32) (t3 : Int32) : Option ((Int32 × Int32) ⊕ (Int32 × zSt)) :=
  zBd (fX12_shownBy S t1 t0) (fun r34 => zBd (fX12_bits r34) (fun r36 => zLt (t3 + r36) (fun x37 => zLt (v3 + (1 : Int32)) (fun x38 => some (.inl (x37, x38))))))
set_option maxHeartbeats 4000000 in
set_option maxRecDepth 100000 in
theorem kX12_now_175 {p : Program} {l : Launch} {e : Env} {s : State} {m : MethodId} {args : Array Value} {below : List Frame} {meth : Method} {c : Code} {D : va_G} {cy : Nat → ClassId} {q : Nat → Nat} {A : Nat → Prop} (cx : zX RX12 cX12_now 4 p s m args c D cy) (hr : meth.sig.returnType = (some .int)) (hlk : meth.locks = false) (hq : zQ A q zNM) {z : (Int32 × zSt)} {S : zSt} {v1 : Int32} {v3 : Int32} {t0 : Int32} {t1 : Int32} {t3 : Int32} {C1 : ((Int32 × Int32) ⊕ (Int32 × zSt)) → Prop} (hb1 : ∀ (v2 : Int32) (v3 : Int32), C1 (.inl (v2, v3)) → ∀ (H : Heap) (locs : List Loc), va_P D vwCl (zW zshM zNM cy q S) H → va_S A s.heap H locs → ∀ (ls : Array Slot), lv_has ls 4 [(0, .ref (q 0)), (1, .int v1), (2, .int v2), (3, .int v3)] → W p l e rmX12_now s m args below meth c H locs 0 0 (MQ below (va_Qi (fun (r : Int32) (u : zSt) => (r, u) = z) (fun u t => va_P D vwCl (zW zshM zNM cy q u) t.heap) A) args s 0 0 A) (F0 m 152 ls [])) (hx1 : ∀ a, C1 (.inr a) → a = z) {x : ((Int32 × Int32) ⊕ (Int32 × zSt))} (h : fX12_now_175 S v1 v3 t0 t1 t3 = some x) (hc : C1 x) {H : Heap} {locs : List Loc} (hP : va_P D vwCl (zW zshM zNM cy q S) H) (hS : va_S A s.heap H locs) {ls : Array Slot} (hl : lv_has ls 4 [(0, .ref (q 0)), (1, .int v1), (3, .int v3)]) : W p l e rmX12_now s m args below meth c H locs 0 0 (MQ below (va_Qi (fun (r : Int32) (u : zSt) => (r, u) = z) (fun u t => va_P D vwCl (zW zshM zNM cy q u) t.heap) A) args s 0 0 A) (F0 m 175 ls [.int t0, .int t1, .ref (q 0), .int t3]) := by
  have hx := cx.1
  have hb := cx.2.1
  unfold fX12_now_175 at h
  obtain ⟨r34, k33, h⟩ := zBd_e h
  refine zr_VI (pc := 175) (rest := [.int t3]) cx cv_X12_253 (mX12_shownBy k33) ⟨⟨rfl, rfl⟩, Nat.le_of_ble_eq_true rfl, Nat.le_of_ble_eq_true rfl⟩ ⟨Nat.le_of_ble_eq_true rfl, Nat.le_of_ble_eq_true rfl⟩ hP nM_0 sM_0 rfl hl.1 rfl rfl (Nat.le_of_ble_eq_true rfl) dX12_now_175 ?_
  obtain ⟨r36, k35, h⟩ := zBd_e h
  refine zr_SI (pc := 178) (rest := [.int t3]) cx cv_X12_238 (mX12_bits k35) ⟨⟨rfl, rfl⟩, Nat.le_of_ble_eq_true rfl, Nat.le_of_ble_eq_true rfl⟩ ⟨Nat.le_of_ble_eq_true rfl, Nat.le_of_ble_eq_true rfl⟩ (zr_preK cx) hl.1 rfl rfl (Nat.le_of_ble_eq_true rfl) dX12_now_178 ?_
  refine lv_iadd (pc := 181) hx hb dX12_now_181 ?_
  obtain ⟨x37, ex37, h⟩ := zLt_e h
  refine zr_nmI ex37 ?_
  refine lv_istore_n (lv' := [(2, .int x37), (0, .ref (q 0)), (1, .int v1), (3, .int v3)]) (pc := 182) hx hb dX12_now_182 rfl hl (by decide) rfl (fun ls hl => ?_)
  obtain ⟨x38, ex38, h⟩ := zLt_e h
  refine lv_iinc (v := x38) (lv' := [(3, .int x38), (2, .int x37), (0, .ref (q 0)), (1, .int v1)]) (pc := 183) hx hb dX12_now_183 hl (k := 3) rfl (by rw [zc_1]; exact ex38.symm) (by decide) rfl (fun ls hl => ?_)
  refine lv_goto (pc := 186) (tgt := 152) hx hb dX12_now_186 (by decide) ?_
  cases h
  exact hb1 _ _ hc _ _ hP hS _ (lv_sub hl [2, 3, 1, 0] rfl)
def fX12_now_152 (S : zSt)  (v1 : Int32) (t : (Int32 × Int32)) : Option ((Int32 × Int32) ⊕ (Int32 × zSt)) :=
  match t with
  | (v2, v3) => zGd (zIx (1 : Int32) 406) (zBr ((S.1 2 (1 : Int32).toNatClampNeg) ≤ v3) (zXr (some (v2, S))) (zBr (v1 = (5 : Int32)) (fX12_now_175 S v1 v3 (1 : Int32) v3 v2) (fX12_now_175 S v1 v3 (0 : Int32) v3 v2)))
set_option maxHeartbeats 4000000 in
set_option maxRecDepth 100000 in
theorem kX12_now_152B {p : Program} {l : Launch} {e : Env} {s : State} {m : MethodId} {args : Array Value} {below : List Frame} {meth : Method} {c : Code} {D : va_G} {cy : Nat → ClassId} {q : Nat → Nat} {A : Nat → Prop} (cx : zX RX12 cX12_now 4 p s m args c D cy) (hr : meth.sig.returnType = (some .int)) (hlk : meth.locks = false) (hq : zQ A q zNM) {z : (Int32 × zSt)} {S : zSt} {v1 : Int32} {v2 : Int32} {v3 : Int32} {C1 : ((Int32 × Int32) ⊕ (Int32 × zSt)) → Prop} (hb1 : ∀ (v2 : Int32) (v3 : Int32), C1 (.inl (v2, v3)) → ∀ (H : Heap) (locs : List Loc), va_P D vwCl (zW zshM zNM cy q S) H → va_S A s.heap H locs → ∀ (ls : Array Slot), lv_has ls 4 [(0, .ref (q 0)), (1, .int v1), (2, .int v2), (3, .int v3)] → W p l e rmX12_now s m args below meth c H locs 0 0 (MQ below (va_Qi (fun (r : Int32) (u : zSt) => (r, u) = z) (fun u t => va_P D vwCl (zW zshM zNM cy q u) t.heap) A) args s 0 0 A) (F0 m 152 ls [])) (hx1 : ∀ a, C1 (.inr a) → a = z) {x : ((Int32 × Int32) ⊕ (Int32 × zSt))} (h : fX12_now_152 S v1 (v2, v3) = some x) (hc : C1 x) {H : Heap} {locs : List Loc} (hP : va_P D vwCl (zW zshM zNM cy q S) H) (hS : va_S A s.heap H locs) {ls : Array Slot} (hl : lv_has ls 4 [(0, .ref (q 0)), (1, .int v1), (2, .int v2), (3, .int v3)]) : W p l e rmX12_now s m args below meth c H locs 0 0 (MQ below (va_Qi (fun (r : Int32) (u : zSt) => (r, u) = z) (fun u t => va_P D vwCl (zW zshM zNM cy q u) t.heap) A) args s 0 0 A) (F0 m 152 ls []) := by
  have hx := cx.1
  have hb := cx.2.1
  unfold fX12_now_152 at h
  dsimp only at h
  refine lv_iload_n (pc := 152) hx hb dX12_now_152 rfl (lv_at hl 3 rfl) ?_
  refine lv_aload_n (pc := 153) hx hb dX12_now_153 rfl (lv_at hl 0 rfl) ?_
  refine zr_getR (pc := 154) (t := 2) cx lk_X12_98 hP nM_0 sM_0 rfl dX12_now_154 ?_
  refine lv_iconst (pc := 157) hx hb dX12_now_157 zc_1 ?_
  obtain ⟨g29, h⟩ := zGd_e h
  refine zr_iald (pc := 158) cx hP nM_2 sM_2 g29 dX12_now_158 ?_
  refine lv_icmp_ge (pc := 159) (tgt := 189) hx hb dX12_now_159 (by decide) (fun c30 => ?_) (fun c30 => ?_)
  · replace h := zBr_t c30 h
    obtain ⟨y31, h, ex⟩ := zXr_e h
    have hc := hx1 y31 (by rw [ex] at hc; exact hc)
    rw [hc] at h
    refine lv_iload_n (pc := 189) hx hb dX12_now_189 rfl (lv_at hl 2 rfl) ?_
    have hz := Option.some.inj h
    exact zr_rqI (pc := 190) cx hr hlk hP hS hz dX12_now_190
  · replace h := zBr_f c30 h
    refine lv_iload_n (pc := 162) hx hb dX12_now_162 rfl (lv_at hl 2 rfl) ?_
    refine lv_aload_n (pc := 163) hx hb dX12_now_163 rfl (lv_at hl 0 rfl) ?_
    refine lv_iload_n (pc := 164) hx hb dX12_now_164 rfl (lv_at hl 3 rfl) ?_
    refine lv_iload_n (pc := 165) hx hb dX12_now_165 rfl (lv_at hl 1 rfl) ?_
    refine lv_iconst (pc := 166) hx hb dX12_now_166 zc_5 ?_
    refine lv_icmp_ne (pc := 167) (tgt := 174) hx hb dX12_now_167 (by decide) (fun c32 => ?_) (fun c32 => ?_)
    · replace h := zBr_f c32 h
      refine lv_iconst (pc := 174) hx hb dX12_now_174 zc_0 ?_
      exact kX12_now_175 cx hr hlk hq hb1 hx1 h hc hP hS (lv_sub hl [0, 1, 3] rfl)
    · replace h := zBr_t c32 h
      refine lv_iconst (pc := 170) hx hb dX12_now_170 zc_1 ?_
      refine lv_goto (pc := 171) (tgt := 175) hx hb dX12_now_171 (by decide) ?_
      exact kX12_now_175 cx hr hlk hq hb1 hx1 h hc hP hS (lv_sub hl [0, 1, 3] rfl)
set_option maxHeartbeats 4000000 in
set_option maxRecDepth 100000 in
theorem kX12_now_152 {p : Program} {l : Launch} {e : Env} {s : State} {m : MethodId} {args : Array Value} {below : List Frame} {meth : Method} {c : Code} {D : va_G} {cy : Nat → ClassId} {q : Nat → Nat} {A : Nat → Prop} (cx : zX RX12 cX12_now 4 p s m args c D cy) (hr : meth.sig.returnType = (some .int)) (hlk : meth.locks = false) (hq : zQ A q zNM) {z : (Int32 × zSt)} {S : zSt} {v1 : Int32} : ∀ (n : Nat) (v2 : Int32) (v3 : Int32), zLp (fX12_now_152 S v1) n (v2, v3) = some z → ∀ (H : Heap) (locs : List Loc), va_P D vwCl (zW zshM zNM cy q S) H → va_S A s.heap H locs → ∀ (ls : Array Slot), lv_has ls 4 [(0, .ref (q 0)), (1, .int v1), (2, .int v2), (3, .int v3)] → W p l e rmX12_now s m args below meth c H locs 0 0 (MQ below (va_Qi (fun (r : Int32) (u : zSt) => (r, u) = z) (fun u t => va_P D vwCl (zW zshM zNM cy q u) t.heap) A) args s 0 0 A) (F0 m 152 ls []) := by
  intro n
  induction n with
  | zero =>
    intro v2 v3 h
    cases h
  | succ n ih =>
    intro v2 v3 h H locs hP hS ls hl
    obtain ⟨x, h, hk⟩ := zLp_e h
    exact kX12_now_152B cx hr hlk hq  (C1 := zKt (fun t => zLp (fX12_now_152 S v1) n t = some z) (fun a => a = z)) (fun v2 v3 ht H locs hP hS ls hl => ih v2 v3 ht H locs hP hS ls hl) (fun a ha => ha) h hk hP hS hl
def fX12_now (S : zSt) (v1 : Int32) : Option (Int32 × zSt) :=
  zLt (zI S 0 0 (0 : Int32)) (fun S1 => zBr (v1 = 0) (zGd (zIx (24 : Int32) 406) (some ((S1.1 2 (24 : Int32).toNatClampNeg), S1))) (zBr (v1 = 1) (zGd (zIx (25 : Int32) 406) (some ((S1.1 2 (25 : Int32).toNatClampNeg), S1))) (zBr (v1 = 2) (zBd (fX12_proved S1) (fun r13 => some (r13, S1))) (zBr (v1 = 3) (zLp (fX12_now_79 S1) 2000 ((0 : Int32), (0 : Int32))) (zBr (v1 = 4) (zLp (fX12_now_114 S1) 2000 ((0 : Int32), (0 : Int32))) (zBr (v1 = 5) (zLp (fX12_now_152 S1 v1) 2000 ((0 : Int32), (0 : Int32))) (zBr (v1 = 6) (zLp (fX12_now_152 S1 v1) 2000 ((0 : Int32), (0 : Int32))) (zBr (v1 = 7) (zBd (fX12_unseen S1 (0 : Int32)) (fun r40 => some (r40, S1))) (some ((-1 : Int32), S1))))))))))
set_option maxHeartbeats 4000000 in
set_option maxRecDepth 100000 in
theorem mX12_now {l : Launch} {D : va_G} {cy : Nat → ClassId} {q : Nat → Nat} {A : Nat → Prop} {S : zSt} {v1 : Int32} (hq : zQ A q zNM) {z : (Int32 × zSt)} (h : fX12_now S v1 = some z) : zMq l yX12_now cX12_now 4 (some .int) rmX12_now [.ref (q 0), .int v1] zshM zNM D cy q A S z := by
  refine Met.ofW (cc := cX12_now) (maxL := 4) (ret := (some .int)) (by decide) rfl ?_
  intro p e s m args below meth c s₁ B hml hv
  obtain ⟨rfl, hP, hK⟩ := hv
  have cx : zX RX12 cX12_now 4 p s m ([.ref (q 0), .int v1]).toArray c D cy := ⟨B.exec, B.bytes, hml, findClass_of_methodNamed B.named, fun w hw => atoms_spec (ws := Cond.code yX12_now cX12_now 4 (some .int) :: zTB) B.pre w (List.mem_cons_of_mem _ hw), hK⟩
  have hx := cx.1
  have hb := cx.2.1
  have hr := B.returns
  have hlk := B.notSynchronized
  have hS : va_S A s.heap s.heap [] := va_S.rf
  have hl := lv_entry ([.ref (q 0), .int v1]) (n := 4) (Nat.le_of_ble_eq_true rfl)
  rw [lg_entry_eq]
  generalize (lg_sl ([.ref (q 0), .int v1]) ++ List.replicate (4 - (lg_sl ([.ref (q 0), .int v1])).length) Slot.unset).toArray = ls at hl ⊢
  have hl : lv_has ls 4 [(0, .ref (q 0)), (1, .int v1)] := hl
  unfold fX12_now at h
  refine lv_aload_n (pc := 0) hx hb dX12_now_0 rfl (lv_at hl 0 rfl) ?_
  refine lv_iconst (pc := 1) hx hb dX12_now_1 zc_0 ?_
  obtain ⟨S1, eS1, h⟩ := zLt_e h
  refine zr_putI (pc := 2) cx lq_X12_1 hq hP hS nM_0 sM_0 rfl rfl rfl dX12_now_2 (fun H locs hP hS => ?_)
  rw [← eS1] at hP
  refine lv_iconst (pc := 5) hx hb dX12_now_5 zc_0 ?_
  refine lv_istore_n (lv' := [(2, .int (0 : Int32)), (0, .ref (q 0)), (1, .int v1)]) (pc := 6) hx hb dX12_now_6 rfl hl (by decide) rfl (fun ls hl => ?_)
  refine lv_iload_n (pc := 7) hx hb dX12_now_7 rfl (lv_at hl 2 rfl) ?_
  by_cases c2 : v1 = 0
  · replace h := zBr_t c2 h
    refine lv_tableIn (pc := 8) (off := 48) (tgt := 56) hx hb dX12_now_8 (by rw [c2]; decide) (by rw [c2]; decide) (by rw [c2]; rfl) (by decide) ?_
    refine lv_aload_n (pc := 56) hx hb dX12_now_56 rfl (lv_at hl 1 rfl) ?_
    refine zr_getR (pc := 57) (t := 2) cx lk_X12_98 hP nM_0 sM_0 rfl dX12_now_57 ?_
    refine lv_bipush (pc := 60) hx hb dX12_now_60 zb_24 ?_
    obtain ⟨g10, h⟩ := zGd_e h
    refine zr_iald (pc := 62) cx hP nM_2 sM_2 g10 dX12_now_62 ?_
    have hz := Option.some.inj h
    exact zr_rqI (pc := 63) cx hr hlk hP hS hz dX12_now_63
  · replace h := zBr_f c2 h
    by_cases c3 : v1 = 1
    · replace h := zBr_t c3 h
      refine lv_tableIn (pc := 8) (off := 56) (tgt := 64) hx hb dX12_now_8 (by rw [c3]; decide) (by rw [c3]; decide) (by rw [c3]; rfl) (by decide) ?_
      refine lv_aload_n (pc := 64) hx hb dX12_now_64 rfl (lv_at hl 1 rfl) ?_
      refine zr_getR (pc := 65) (t := 2) cx lk_X12_98 hP nM_0 sM_0 rfl dX12_now_65 ?_
      refine lv_bipush (pc := 68) hx hb dX12_now_68 zb_25 ?_
      obtain ⟨g11, h⟩ := zGd_e h
      refine zr_iald (pc := 70) cx hP nM_2 sM_2 g11 dX12_now_70 ?_
      have hz := Option.some.inj h
      exact zr_rqI (pc := 71) cx hr hlk hP hS hz dX12_now_71
    · replace h := zBr_f c3 h
      by_cases c4 : v1 = 2
      · replace h := zBr_t c4 h
        refine lv_tableIn (pc := 8) (off := 64) (tgt := 72) hx hb dX12_now_8 (by rw [c4]; decide) (by rw [c4]; decide) (by rw [c4]; rfl) (by decide) ?_
        refine lv_aload_n (pc := 72) hx hb dX12_now_72 rfl (lv_at hl 1 rfl) ?_
        obtain ⟨r13, k12, h⟩ := zBd_e h
        refine zr_VI (pc := 73) (rest := []) cx cv_X12_262 (mX12_proved k12) ⟨⟨rfl, rfl⟩, Nat.le_of_ble_eq_true rfl, Nat.le_of_ble_eq_true rfl⟩ ⟨Nat.le_of_ble_eq_true rfl, Nat.le_of_ble_eq_true rfl⟩ hP nM_0 sM_0 rfl hl.1 rfl rfl (Nat.le_of_ble_eq_true rfl) dX12_now_73 ?_
        have hz := Option.some.inj h
        exact zr_rqI (pc := 76) cx hr hlk hP hS hz dX12_now_76
      · replace h := zBr_f c4 h
        by_cases c5 : v1 = 3
        · replace h := zBr_t c5 h
          refine lv_tableIn (pc := 8) (off := 69) (tgt := 77) hx hb dX12_now_8 (by rw [c5]; decide) (by rw [c5]; decide) (by rw [c5]; rfl) (by decide) ?_
          refine lv_iconst (pc := 77) hx hb dX12_now_77 zc_0 ?_
          refine lv_istore_n (lv' := [(3, .int (0 : Int32)), (2, .int (0 : Int32)), (0, .ref (q 0)), (1, .int v1)]) (pc := 78) hx hb dX12_now_78 rfl hl (by decide) rfl (fun ls hl => ?_)
          exact kX12_now_79 cx hr hlk hq 2000 _ _ h _ _ hP hS _ (lv_sub hl [2, 1, 0] rfl)
        · replace h := zBr_f c5 h
          by_cases c6 : v1 = 4
          · replace h := zBr_t c6 h
            refine lv_tableIn (pc := 8) (off := 104) (tgt := 112) hx hb dX12_now_8 (by rw [c6]; decide) (by rw [c6]; decide) (by rw [c6]; rfl) (by decide) ?_
            refine lv_iconst (pc := 112) hx hb dX12_now_112 zc_0 ?_
            refine lv_istore_n (lv' := [(3, .int (0 : Int32)), (2, .int (0 : Int32)), (0, .ref (q 0)), (1, .int v1)]) (pc := 113) hx hb dX12_now_113 rfl hl (by decide) rfl (fun ls hl => ?_)
            exact kX12_now_114 cx hr hlk hq 2000 _ _ h _ _ hP hS _ (lv_sub hl [2, 1, 0] rfl)
          · replace h := zBr_f c6 h
            by_cases c7 : v1 = 5
            · replace h := zBr_t c7 h
              refine lv_tableIn (pc := 8) (off := 142) (tgt := 150) hx hb dX12_now_8 (by rw [c7]; decide) (by rw [c7]; decide) (by rw [c7]; rfl) (by decide) ?_
              refine lv_iconst (pc := 150) hx hb dX12_now_150 zc_0 ?_
              refine lv_istore_n (lv' := [(3, .int (0 : Int32)), (2, .int (0 : Int32)), (0, .ref (q 0)), (1, .int v1)]) (pc := 151) hx hb dX12_now_151 rfl hl (by decide) rfl (fun ls hl => ?_)
              exact kX12_now_152 cx hr hlk hq 2000 _ _ h _ _ hP hS _ (lv_sub hl [2, 3, 1, 0] rfl)
            · replace h := zBr_f c7 h
              by_cases c8 : v1 = 6
              · replace h := zBr_t c8 h
                refine lv_tableIn (pc := 8) (off := 142) (tgt := 150) hx hb dX12_now_8 (by rw [c8]; decide) (by rw [c8]; decide) (by rw [c8]; rfl) (by decide) ?_
                refine lv_iconst (pc := 150) hx hb dX12_now_150 zc_0 ?_
                refine lv_istore_n (lv' := [(3, .int (0 : Int32)), (2, .int (0 : Int32)), (0, .ref (q 0)), (1, .int v1)]) (pc := 151) hx hb dX12_now_151 rfl hl (by decide) rfl (fun ls hl => ?_)
                exact kX12_now_152 cx hr hlk hq 2000 _ _ h _ _ hP hS _ (lv_sub hl [2, 3, 1, 0] rfl)
              · replace h := zBr_f c8 h
                by_cases c9 : v1 = 7
                · replace h := zBr_t c9 h
                  refine lv_tableIn (pc := 8) (off := 183) (tgt := 191) hx hb dX12_now_8 (by rw [c9]; decide) (by rw [c9]; decide) (by rw [c9]; rfl) (by decide) ?_
                  refine lv_aload_n (pc := 191) hx hb dX12_now_191 rfl (lv_at hl 1 rfl) ?_
                  refine lv_iconst (pc := 192) hx hb dX12_now_192 zc_0 ?_
                  obtain ⟨r40, k39, h⟩ := zBd_e h
                  refine zr_VI (pc := 193) (rest := []) cx cv_X12_265 (mX12_unseen k39) ⟨⟨rfl, rfl⟩, Nat.le_of_ble_eq_true rfl, Nat.le_of_ble_eq_true rfl⟩ ⟨Nat.le_of_ble_eq_true rfl, Nat.le_of_ble_eq_true rfl⟩ hP nM_0 sM_0 rfl hl.1 rfl rfl (Nat.le_of_ble_eq_true rfl) dX12_now_193 ?_
                  have hz := Option.some.inj h
                  exact zr_rqI (pc := 196) cx hr hlk hP hS hz dX12_now_196
                · replace h := zBr_f c9 h
                  refine zr_tsD (pc := 8) (tgt := 197) hx hb dX12_now_8 (fun h1 h2 => ?_) (by decide) ?_
                  · rcases (show (v1).toInt = 0 ∨ (v1).toInt = 1 ∨ (v1).toInt = 2 ∨ (v1).toInt = 3 ∨ (v1).toInt = 4 ∨ (v1).toInt = 5 ∨ (v1).toInt = 6 ∨ (v1).toInt = 7 by omega) with e9 | e9 | e9 | e9 | e9 | e9 | e9 | e9
                    · exact absurd (Int32.toInt_inj.mp (e9.trans (by decide))) c2
                    · exact absurd (Int32.toInt_inj.mp (e9.trans (by decide))) c3
                    · exact absurd (Int32.toInt_inj.mp (e9.trans (by decide))) c4
                    · exact absurd (Int32.toInt_inj.mp (e9.trans (by decide))) c5
                    · exact absurd (Int32.toInt_inj.mp (e9.trans (by decide))) c6
                    · exact absurd (Int32.toInt_inj.mp (e9.trans (by decide))) c7
                    · exact absurd (Int32.toInt_inj.mp (e9.trans (by decide))) c8
                    · exact absurd (Int32.toInt_inj.mp (e9.trans (by decide))) c9
                  · skip
                    refine lv_iconst (pc := 197) hx hb dX12_now_197 zc_m1 ?_
                    have hz := Option.some.inj h
                    exact zr_rqI (pc := 198) cx hr hlk hP hS hz dX12_now_198
-- X12_odds
abbrev rmX12_odds : Room := { frames := 7, cells := 0, slots := 0, locals := 162 }
def fX12_odds_63 (S : zSt)  (v1 : Int32) (v2 : Int32) (v3 : Int32) (v4 : Int32) (v5 : Int32) : Option ((zSt × Int32 × Int32) ⊕ (Int32 × zSt)) :=
  zBd (fX12_takeBack S) (fun S19 => zLt (v5 + (1 : Int32)) (fun x20 => some (.inl (S19, v4, x20))))
set_option maxHeartbeats 4000000 in
set_option maxRecDepth 100000 in
theorem kX12_odds_63 {p : Program} {l : Launch} {e : Env} {s : State} {m : MethodId} {args : Array Value} {below : List Frame} {meth : Method} {c : Code} {D : va_G} {cy : Nat → ClassId} {q : Nat → Nat} {A : Nat → Prop} (cx : zX RX12 cX12_odds 6 p s m args c D cy) (hr : meth.sig.returnType = (some .int)) (hlk : meth.locks = false) (hq : zQ A q zNM) {z : (Int32 × zSt)} {S : zSt} {v1 : Int32} {v2 : Int32} {v3 : Int32} {v4 : Int32} {v5 : Int32} {C1 : ((zSt × Int32 × Int32) ⊕ (Int32 × zSt)) → Prop} (hb1 : ∀ (S : zSt) (v4 : Int32) (v5 : Int32), C1 (.inl (S, v4, v5)) → ∀ (H : Heap) (locs : List Loc), va_P D vwCl (zW zshM zNM cy q S) H → va_S A s.heap H locs → ∀ (ls : Array Slot), lv_has ls 6 [(0, .ref (q 0)), (1, .int v1), (2, .int v2), (3, .int v3), (4, .int v4), (5, .int v5)] → W p l e rmX12_odds s m args below meth c H locs 0 0 (MQ below (va_Qi (fun (r : Int32) (u : zSt) => (r, u) = z) (fun u t => va_P D vwCl (zW zshM zNM cy q u) t.heap) A) args s 0 0 A) (F0 m 35 ls [])) (hx1 : ∀ a, C1 (.inr a) → a = z) {x : ((zSt × Int32 × Int32) ⊕ (Int32 × zSt))} (h : fX12_odds_63 S v1 v2 v3 v4 v5 = some x) (hc : C1 x) {H : Heap} {locs : List Loc} (hP : va_P D vwCl (zW zshM zNM cy q S) H) (hS : va_S A s.heap H locs) {ls : Array Slot} (hl : lv_has ls 6 [(0, .ref (q 0)), (1, .int v1), (2, .int v2), (3, .int v3), (4, .int v4), (5, .int v5)]) : W p l e rmX12_odds s m args below meth c H locs 0 0 (MQ below (va_Qi (fun (r : Int32) (u : zSt) => (r, u) = z) (fun u t => va_P D vwCl (zW zshM zNM cy q u) t.heap) A) args s 0 0 A) (F0 m 63 ls []) := by
  have hx := cx.1
  have hb := cx.2.1
  unfold fX12_odds_63 at h
  refine lv_aload_n (pc := 63) hx hb dX12_odds_63 rfl (lv_at hl 0 rfl) ?_
  obtain ⟨S19, k18, h⟩ := zBd_e h
  refine zr_VV (pc := 64) (rest := []) cx cv_X12_369 (mX12_takeBack hq k18) ⟨⟨rfl, rfl⟩, Nat.le_of_ble_eq_true rfl, Nat.le_of_ble_eq_true rfl⟩ ⟨Nat.le_of_ble_eq_true rfl, Nat.le_of_ble_eq_true rfl⟩ hP hS nM_0 sM_0 rfl hl.1 rfl rfl (Nat.le_of_ble_eq_true rfl) dX12_odds_64 (fun H locs hP hS => ?_)
  obtain ⟨x20, ex20, h⟩ := zLt_e h
  refine lv_iinc (v := x20) (lv' := [(5, .int x20), (0, .ref (q 0)), (1, .int v1), (2, .int v2), (3, .int v3), (4, .int v4)]) (pc := 67) hx hb dX12_odds_67 hl (k := 5) rfl (by rw [zc_1]; exact ex20.symm) (by decide) rfl (fun ls hl => ?_)
  refine lv_goto (pc := 70) (tgt := 35) hx hb dX12_odds_70 (by decide) ?_
  cases h
  exact hb1 _ _ _ hc _ _ hP hS _ (lv_sub hl [1, 2, 3, 4, 5, 0] rfl)
def fX12_odds_35  (v1 : Int32) (v2 : Int32) (v3 : Int32) (t : (zSt × Int32 × Int32)) : Option ((zSt × Int32 × Int32) ⊕ (Int32 × zSt)) :=
  match t with
  | (S, v4, v5) => zBr (v2 ≤ v5) (zXr (some (v4, S))) (zBp (fX12_drawDays S (20 : Int32) (v3 + v5)) (fun r14 S13 => zBd (fX12_isProvedOf S13 v1) (fun r16 => zBr (r16 = 0) (fX12_odds_63 S13 v1 v2 v3 v4 v5) (zLt (v4 + (1 : Int32)) (fun x21 => fX12_odds_63 S13 v1 v2 v3 x21 v5)))))
set_option maxHeartbeats 4000000 in
set_option maxRecDepth 100000 in
theorem kX12_odds_35B {p : Program} {l : Launch} {e : Env} {s : State} {m : MethodId} {args : Array Value} {below : List Frame} {meth : Method} {c : Code} {D : va_G} {cy : Nat → ClassId} {q : Nat → Nat} {A : Nat → Prop} (cx : zX RX12 cX12_odds 6 p s m args c D cy) (hr : meth.sig.returnType = (some .int)) (hlk : meth.locks = false) (hq : zQ A q zNM) {z : (Int32 × zSt)} {S : zSt} {v1 : Int32} {v2 : Int32} {v3 : Int32} {v4 : Int32} {v5 : Int32} {C1 : ((zSt × Int32 × Int32) ⊕ (Int32 × zSt)) → Prop} (hb1 : ∀ (S : zSt) (v4 : Int32) (v5 : Int32), C1 (.inl (S, v4, v5)) → ∀ (H : Heap) (locs : List Loc), va_P D vwCl (zW zshM zNM cy q S) H → va_S A s.heap H locs → ∀ (ls : Array Slot), lv_has ls 6 [(0, .ref (q 0)), (1, .int v1), (2, .int v2), (3, .int v3), (4, .int v4), (5, .int v5)] → W p l e rmX12_odds s m args below meth c H locs 0 0 (MQ below (va_Qi (fun (r : Int32) (u : zSt) => (r, u) = z) (fun u t => va_P D vwCl (zW zshM zNM cy q u) t.heap) A) args s 0 0 A) (F0 m 35 ls [])) (hx1 : ∀ a, C1 (.inr a) → a = z) {x : ((zSt × Int32 × Int32) ⊕ (Int32 × zSt))} (h : fX12_odds_35 v1 v2 v3 (S, v4, v5) = some x) (hc : C1 x) {H : Heap} {locs : List Loc} (hP : va_P D vwCl (zW zshM zNM cy q S) H) (hS : va_S A s.heap H locs) {ls : Array Slot} (hl : lv_has ls 6 [(0, .ref (q 0)), (1, .int v1), (2, .int v2), (3, .int v3), (4, .int v4), (5, .int v5)]) : W p l e rmX12_odds s m args below meth c H locs 0 0 (MQ below (va_Qi (fun (r : Int32) (u : zSt) => (r, u) = z) (fun u t => va_P D vwCl (zW zshM zNM cy q u) t.heap) A) args s 0 0 A) (F0 m 35 ls []) := by
  have hx := cx.1
  have hb := cx.2.1
  unfold fX12_odds_35 at h
  dsimp only at h
  refine lv_iload (pc := 35) hx hb dX12_odds_35 (lv_at hl 5 rfl) ?_
  refine lv_iload_n (pc := 37) hx hb dX12_odds_37 rfl (lv_at hl 2 rfl) ?_
  refine lv_icmp_ge (pc := 38) (tgt := 73) hx hb dX12_odds_38 (by decide) (fun c10 => ?_) (fun c10 => ?_)
  · replace h := zBr_t c10 h
    obtain ⟨y11, h, ex⟩ := zXr_e h
    have hc := hx1 y11 (by rw [ex] at hc; exact hc)
    rw [hc] at h
    refine lv_iload (pc := 73) hx hb dX12_odds_73 (lv_at hl 4 rfl) ?_
    have hz := Option.some.inj h
    exact zr_rqI (pc := 75) cx hr hlk hP hS hz dX12_odds_75
  · replace h := zBr_f c10 h
    refine lv_aload_n (pc := 41) hx hb dX12_odds_41 rfl (lv_at hl 0 rfl) ?_
    refine lv_bipush (pc := 42) hx hb dX12_odds_42 zb_20 ?_
    refine lv_iload_n (pc := 44) hx hb dX12_odds_44 rfl (lv_at hl 3 rfl) ?_
    refine lv_iload (pc := 45) hx hb dX12_odds_45 (lv_at hl 5 rfl) ?_
    refine lv_iadd (pc := 47) hx hb dX12_odds_47 ?_
    obtain ⟨r14, S13, k12, h⟩ := zBp_e h
    refine zr_VQ (pc := 48) (rest := []) cx cv_X12_360 (mX12_drawDays hq k12) ⟨⟨rfl, rfl⟩, Nat.le_of_ble_eq_true rfl, Nat.le_of_ble_eq_true rfl⟩ ⟨Nat.le_of_ble_eq_true rfl, Nat.le_of_ble_eq_true rfl⟩ hP hS nM_0 sM_0 rfl hl.1 rfl rfl (Nat.le_of_ble_eq_true rfl) dX12_odds_48 (fun H locs hP hS => ?_)
    refine lv_pop (pc := 51) hx hb dX12_odds_51 rfl ?_
    refine lv_aload_n (pc := 52) hx hb dX12_odds_52 rfl (lv_at hl 0 rfl) ?_
    refine lv_iload_n (pc := 53) hx hb dX12_odds_53 rfl (lv_at hl 1 rfl) ?_
    obtain ⟨r16, k15, h⟩ := zBd_e h
    refine zr_VI (pc := 54) (rest := []) cx cv_X12_366 (mX12_isProvedOf k15) ⟨⟨rfl, rfl⟩, Nat.le_of_ble_eq_true rfl, Nat.le_of_ble_eq_true rfl⟩ ⟨Nat.le_of_ble_eq_true rfl, Nat.le_of_ble_eq_true rfl⟩ hP nM_0 sM_0 rfl hl.1 rfl rfl (Nat.le_of_ble_eq_true rfl) dX12_odds_54 ?_
    refine lv_if_eq (pc := 57) (tgt := 63) hx hb dX12_odds_57 (by decide) (fun c17 => ?_) (fun c17 => ?_)
    · replace h := zBr_t c17 h
      exact kX12_odds_63 cx hr hlk hq hb1 hx1 h hc hP hS (lv_sub hl [0, 1, 2, 3, 4, 5] rfl)
    · replace h := zBr_f c17 h
      obtain ⟨x21, ex21, h⟩ := zLt_e h
      refine lv_iinc (v := x21) (lv' := [(4, .int x21), (0, .ref (q 0)), (1, .int v1), (2, .int v2), (3, .int v3), (5, .int v5)]) (pc := 60) hx hb dX12_odds_60 hl (k := 4) rfl (by rw [zc_1]; exact ex21.symm) (by decide) rfl (fun ls hl => ?_)
      exact kX12_odds_63 cx hr hlk hq hb1 hx1 h hc hP hS (lv_sub hl [1, 2, 3, 4, 0, 5] rfl)
set_option maxHeartbeats 4000000 in
set_option maxRecDepth 100000 in
theorem kX12_odds_35 {p : Program} {l : Launch} {e : Env} {s : State} {m : MethodId} {args : Array Value} {below : List Frame} {meth : Method} {c : Code} {D : va_G} {cy : Nat → ClassId} {q : Nat → Nat} {A : Nat → Prop} (cx : zX RX12 cX12_odds 6 p s m args c D cy) (hr : meth.sig.returnType = (some .int)) (hlk : meth.locks = false) (hq : zQ A q zNM) {z : (Int32 × zSt)} {v1 : Int32} {v2 : Int32} {v3 : Int32} : ∀ (n : Nat) (S : zSt) (v4 : Int32) (v5 : Int32), zLp (fX12_odds_35 v1 v2 v3) n (S, v4, v5) = some z → ∀ (H : Heap) (locs : List Loc), va_P D vwCl (zW zshM zNM cy q S) H → va_S A s.heap H locs → ∀ (ls : Array Slot), lv_has ls 6 [(0, .ref (q 0)), (1, .int v1), (2, .int v2), (3, .int v3), (4, .int v4), (5, .int v5)] → W p l e rmX12_odds s m args below meth c H locs 0 0 (MQ below (va_Qi (fun (r : Int32) (u : zSt) => (r, u) = z) (fun u t => va_P D vwCl (zW zshM zNM cy q u) t.heap) A) args s 0 0 A) (F0 m 35 ls []) := by
  intro n
  induction n with
  | zero =>
    intro S v4 v5 h
    cases h
  | succ n ih =>
    intro S v4 v5 h H locs hP hS ls hl
    obtain ⟨x, h, hk⟩ := zLp_e h
    exact kX12_odds_35B cx hr hlk hq  (C1 := zKt (fun t => zLp (fX12_odds_35 v1 v2 v3) n t = some z) (fun a => a = z)) (fun S v4 v5 ht H locs hP hS ls hl => ih S v4 v5 ht H locs hP hS ls hl) (fun a ha => ha) h hk hP hS hl
def fX12_odds (S : zSt) (v1 : Int32) (v2 : Int32) (v3 : Int32) : Option (Int32 × zSt) :=
  zLt (zI S 0 0 (0 : Int32)) (fun S1 => zBd (fX12_isPerson S1 v1) (fun r3 => zBr (r3 = 0) (some ((-1 : Int32), S1)) (zBd (fX12_isIn v2 (1 : Int32) (30 : Int32)) (fun r6 => zBr (r6 = 0) (some ((-1 : Int32), S1)) (zBd (fX12_layAside S1) (fun S9 => zLp (fX12_odds_35 v1 v2 v3) 2000 (S9, (0 : Int32), (0 : Int32))))))))
set_option maxHeartbeats 4000000 in
set_option maxRecDepth 100000 in
theorem mX12_odds {l : Launch} {D : va_G} {cy : Nat → ClassId} {q : Nat → Nat} {A : Nat → Prop} {S : zSt} {v1 : Int32} {v2 : Int32} {v3 : Int32} (hq : zQ A q zNM) {z : (Int32 × zSt)} (h : fX12_odds S v1 v2 v3 = some z) : zMq l yX12_odds cX12_odds 6 (some .int) rmX12_odds [.ref (q 0), .int v1, .int v2, .int v3] zshM zNM D cy q A S z := by
  refine Met.ofW (cc := cX12_odds) (maxL := 6) (ret := (some .int)) (by decide) rfl ?_
  intro p e s m args below meth c s₁ B hml hv
  obtain ⟨rfl, hP, hK⟩ := hv
  have cx : zX RX12 cX12_odds 6 p s m ([.ref (q 0), .int v1, .int v2, .int v3]).toArray c D cy := ⟨B.exec, B.bytes, hml, findClass_of_methodNamed B.named, fun w hw => atoms_spec (ws := Cond.code yX12_odds cX12_odds 6 (some .int) :: zTB) B.pre w (List.mem_cons_of_mem _ hw), hK⟩
  have hx := cx.1
  have hb := cx.2.1
  have hr := B.returns
  have hlk := B.notSynchronized
  have hS : va_S A s.heap s.heap [] := va_S.rf
  have hl := lv_entry ([.ref (q 0), .int v1, .int v2, .int v3]) (n := 6) (Nat.le_of_ble_eq_true rfl)
  rw [lg_entry_eq]
  generalize (lg_sl ([.ref (q 0), .int v1, .int v2, .int v3]) ++ List.replicate (6 - (lg_sl ([.ref (q 0), .int v1, .int v2, .int v3])).length) Slot.unset).toArray = ls at hl ⊢
  have hl : lv_has ls 6 [(0, .ref (q 0)), (1, .int v1), (2, .int v2), (3, .int v3)] := hl
  unfold fX12_odds at h
  refine lv_aload_n (pc := 0) hx hb dX12_odds_0 rfl (lv_at hl 0 rfl) ?_
  refine lv_iconst (pc := 1) hx hb dX12_odds_1 zc_0 ?_
  obtain ⟨S1, eS1, h⟩ := zLt_e h
  refine zr_putI (pc := 2) cx lq_X12_1 hq hP hS nM_0 sM_0 rfl rfl rfl dX12_odds_2 (fun H locs hP hS => ?_)
  rw [← eS1] at hP
  refine lv_aload_n (pc := 5) hx hb dX12_odds_5 rfl (lv_at hl 0 rfl) ?_
  refine lv_iload_n (pc := 6) hx hb dX12_odds_6 rfl (lv_at hl 1 rfl) ?_
  obtain ⟨r3, k2, h⟩ := zBd_e h
  refine zr_VI (pc := 7) (rest := []) cx cv_X12_286 (mX12_isPerson k2) ⟨⟨rfl, rfl⟩, Nat.le_of_ble_eq_true rfl, Nat.le_of_ble_eq_true rfl⟩ ⟨Nat.le_of_ble_eq_true rfl, Nat.le_of_ble_eq_true rfl⟩ hP nM_0 sM_0 rfl hl.1 rfl rfl (Nat.le_of_ble_eq_true rfl) dX12_odds_7 ?_
  refine lv_if_eq (pc := 10) (tgt := 23) hx hb dX12_odds_10 (by decide) (fun c4 => ?_) (fun c4 => ?_)
  · replace h := zBr_t c4 h
    refine lv_iconst (pc := 23) hx hb dX12_odds_23 zc_m1 ?_
    have hz := Option.some.inj h
    exact zr_rqI (pc := 24) cx hr hlk hP hS hz dX12_odds_24
  · replace h := zBr_f c4 h
    refine lv_iload_n (pc := 13) hx hb dX12_odds_13 rfl (lv_at hl 2 rfl) ?_
    refine lv_iconst (pc := 14) hx hb dX12_odds_14 zc_1 ?_
    refine lv_bipush (pc := 15) hx hb dX12_odds_15 zb_30 ?_
    obtain ⟨r6, k5, h⟩ := zBd_e h
    refine zr_SI (pc := 17) (rest := []) cx cv_X12_75 (mX12_isIn k5) ⟨⟨rfl, rfl⟩, Nat.le_of_ble_eq_true rfl, Nat.le_of_ble_eq_true rfl⟩ ⟨Nat.le_of_ble_eq_true rfl, Nat.le_of_ble_eq_true rfl⟩ (zr_preK cx) hl.1 rfl rfl (Nat.le_of_ble_eq_true rfl) dX12_odds_17 ?_
    refine lv_if_ne (pc := 20) (tgt := 25) hx hb dX12_odds_20 (by decide) (fun c7 => ?_) (fun c7 => ?_)
    · replace h := zBr_f c7 h
      refine lv_aload_n (pc := 25) hx hb dX12_odds_25 rfl (lv_at hl 0 rfl) ?_
      obtain ⟨S9, k8, h⟩ := zBd_e h
      refine zr_VV (pc := 26) (rest := []) cx cv_X12_363 (mX12_layAside hq k8) ⟨⟨rfl, rfl⟩, Nat.le_of_ble_eq_true rfl, Nat.le_of_ble_eq_true rfl⟩ ⟨Nat.le_of_ble_eq_true rfl, Nat.le_of_ble_eq_true rfl⟩ hP hS nM_0 sM_0 rfl hl.1 rfl rfl (Nat.le_of_ble_eq_true rfl) dX12_odds_26 (fun H locs hP hS => ?_)
      refine lv_iconst (pc := 29) hx hb dX12_odds_29 zc_0 ?_
      refine lv_istore (lv' := [(4, .int (0 : Int32)), (0, .ref (q 0)), (1, .int v1), (2, .int v2), (3, .int v3)]) (pc := 30) hx hb dX12_odds_30 hl (by decide) rfl (fun ls hl => ?_)
      refine lv_iconst (pc := 32) hx hb dX12_odds_32 zc_0 ?_
      refine lv_istore (lv' := [(5, .int (0 : Int32)), (4, .int (0 : Int32)), (0, .ref (q 0)), (1, .int v1), (2, .int v2), (3, .int v3)]) (pc := 33) hx hb dX12_odds_33 hl (by decide) rfl (fun ls hl => ?_)
      exact kX12_odds_35 cx hr hlk hq 2000 _ _ _ h _ _ hP hS _ (lv_sub hl [2, 3, 4, 5, 1, 0] rfl)
    · replace h := zBr_t c7 h
      refine lv_iconst (pc := 23) hx hb dX12_odds_23 zc_m1 ?_
      have hz := Option.some.inj h
      exact zr_rqI (pc := 24) cx hr hlk hP hS hz dX12_odds_24
-- X12_plant
abbrev rmX12_plant : Room := { frames := 3, cells := 0, slots := 0, locals := 68 }
def fX12_plant (S : zSt) (v1 : Int32) (v2 : Int32) : Option (Int32 × zSt) :=
  zLt (zI S 0 0 (0 : Int32)) (fun S1 => zBd (fX12_isPlant S1 v1) (fun r3 => zBr (r3 = 0) (zBp (fX12_refuse S1) (fun r36 S35 => some (r36, S35))) (zBr (v2 = 0) (zGd (zIx ((26 : Int32) + v1) 406) (some ((S1.1 2 ((26 : Int32) + v1).toNatClampNeg), S1))) (zBr (v2 = 1) (zGd (zIx ((17 : Int32) + v1) 406) (some ((S1.1 2 ((17 : Int32) + v1).toNatClampNeg), S1))) (zBr (v2 = 2) (zBd (fX12_isFern S1 v1) (fun r16 => zBr (r16 = 0) (some ((0 : Int32), S1)) (some ((1 : Int32), S1)))) (zBr (v2 = 3) (zGd (zIx ((32 : Int32) + v1) 406) (some ((S1.1 2 ((32 : Int32) + v1).toNatClampNeg), S1))) (zBr (v2 = 4) (zBd (fX12_seesOf S1 v1 (0 : Int32)) (fun r20 => some (r20, S1))) (zBr (v2 = 5) (zBd (fX12_shownBy S1 v1 (1 : Int32)) (fun r22 => zBd (fX12_bits r22) (fun r24 => some (r24, S1)))) (zBr (v2 = 6) (zBd (fX12_shownBy S1 v1 (1 : Int32)) (fun r26 => some (r26, S1))) (zBr (v2 = 7) (zBd (fX12_shownBy S1 v1 (0 : Int32)) (fun r28 => zBd (fX12_bits r28) (fun r30 => some (r30, S1)))) (zBp (fX12_refuse S1) (fun r33 S32 => some (r33, S32)))))))))))))
set_option maxHeartbeats 4000000 in
set_option maxRecDepth 100000 in
theorem mX12_plant {l : Launch} {D : va_G} {cy : Nat → ClassId} {q : Nat → Nat} {A : Nat → Prop} {S : zSt} {v1 : Int32} {v2 : Int32} (hq : zQ A q zNM) {z : (Int32 × zSt)} (h : fX12_plant S v1 v2 = some z) : zMq l yX12_plant cX12_plant 3 (some .int) rmX12_plant [.ref (q 0), .int v1, .int v2] zshM zNM D cy q A S z := by
  refine Met.ofW (cc := cX12_plant) (maxL := 3) (ret := (some .int)) (by decide) rfl ?_
  intro p e s m args below meth c s₁ B hml hv
  obtain ⟨rfl, hP, hK⟩ := hv
  have cx : zX RX12 cX12_plant 3 p s m ([.ref (q 0), .int v1, .int v2]).toArray c D cy := ⟨B.exec, B.bytes, hml, findClass_of_methodNamed B.named, fun w hw => atoms_spec (ws := Cond.code yX12_plant cX12_plant 3 (some .int) :: zTB) B.pre w (List.mem_cons_of_mem _ hw), hK⟩
  have hx := cx.1
  have hb := cx.2.1
  have hr := B.returns
  have hlk := B.notSynchronized
  have hS : va_S A s.heap s.heap [] := va_S.rf
  have hl := lv_entry ([.ref (q 0), .int v1, .int v2]) (n := 3) (Nat.le_of_ble_eq_true rfl)
  rw [lg_entry_eq]
  generalize (lg_sl ([.ref (q 0), .int v1, .int v2]) ++ List.replicate (3 - (lg_sl ([.ref (q 0), .int v1, .int v2])).length) Slot.unset).toArray = ls at hl ⊢
  have hl : lv_has ls 3 [(0, .ref (q 0)), (1, .int v1), (2, .int v2)] := hl
  unfold fX12_plant at h
  refine lv_aload_n (pc := 0) hx hb dX12_plant_0 rfl (lv_at hl 0 rfl) ?_
  refine lv_iconst (pc := 1) hx hb dX12_plant_1 zc_0 ?_
  obtain ⟨S1, eS1, h⟩ := zLt_e h
  refine zr_putI (pc := 2) cx lq_X12_1 hq hP hS nM_0 sM_0 rfl rfl rfl dX12_plant_2 (fun H locs hP hS => ?_)
  rw [← eS1] at hP
  refine lv_aload_n (pc := 5) hx hb dX12_plant_5 rfl (lv_at hl 0 rfl) ?_
  refine lv_iload_n (pc := 6) hx hb dX12_plant_6 rfl (lv_at hl 1 rfl) ?_
  obtain ⟨r3, k2, h⟩ := zBd_e h
  refine zr_VI (pc := 7) (rest := []) cx cv_X12_244 (mX12_isPlant k2) ⟨⟨rfl, rfl⟩, Nat.le_of_ble_eq_true rfl, Nat.le_of_ble_eq_true rfl⟩ ⟨Nat.le_of_ble_eq_true rfl, Nat.le_of_ble_eq_true rfl⟩ hP nM_0 sM_0 rfl hl.1 rfl rfl (Nat.le_of_ble_eq_true rfl) dX12_plant_7 ?_
  refine lv_if_ne (pc := 10) (tgt := 18) hx hb dX12_plant_10 (by decide) (fun c4 => ?_) (fun c4 => ?_)
  · replace h := zBr_f c4 h
    refine lv_iload_n (pc := 18) hx hb dX12_plant_18 rfl (lv_at hl 2 rfl) ?_
    by_cases c5 : v2 = 0
    · replace h := zBr_t c5 h
      refine lv_tableIn (pc := 19) (off := 45) (tgt := 64) hx hb dX12_plant_19 (by rw [c5]; decide) (by rw [c5]; decide) (by rw [c5]; rfl) (by decide) ?_
      refine lv_aload_n (pc := 64) hx hb dX12_plant_64 rfl (lv_at hl 0 rfl) ?_
      refine zr_getR (pc := 65) (t := 2) cx lk_X12_98 hP nM_0 sM_0 rfl dX12_plant_65 ?_
      refine lv_bipush (pc := 68) hx hb dX12_plant_68 zb_26 ?_
      refine lv_iload_n (pc := 70) hx hb dX12_plant_70 rfl (lv_at hl 1 rfl) ?_
      refine lv_iadd (pc := 71) hx hb dX12_plant_71 ?_
      obtain ⟨g13, h⟩ := zGd_e h
      refine zr_iald (pc := 72) cx hP nM_2 sM_2 g13 dX12_plant_72 ?_
      have hz := Option.some.inj h
      exact zr_rqI (pc := 73) cx hr hlk hP hS hz dX12_plant_73
    · replace h := zBr_f c5 h
      by_cases c6 : v2 = 1
      · replace h := zBr_t c6 h
        refine lv_tableIn (pc := 19) (off := 55) (tgt := 74) hx hb dX12_plant_19 (by rw [c6]; decide) (by rw [c6]; decide) (by rw [c6]; rfl) (by decide) ?_
        refine lv_aload_n (pc := 74) hx hb dX12_plant_74 rfl (lv_at hl 0 rfl) ?_
        refine zr_getR (pc := 75) (t := 2) cx lk_X12_98 hP nM_0 sM_0 rfl dX12_plant_75 ?_
        refine lv_bipush (pc := 78) hx hb dX12_plant_78 zb_17 ?_
        refine lv_iload_n (pc := 80) hx hb dX12_plant_80 rfl (lv_at hl 1 rfl) ?_
        refine lv_iadd (pc := 81) hx hb dX12_plant_81 ?_
        obtain ⟨g14, h⟩ := zGd_e h
        refine zr_iald (pc := 82) cx hP nM_2 sM_2 g14 dX12_plant_82 ?_
        have hz := Option.some.inj h
        exact zr_rqI (pc := 83) cx hr hlk hP hS hz dX12_plant_83
      · replace h := zBr_f c6 h
        by_cases c7 : v2 = 2
        · replace h := zBr_t c7 h
          refine lv_tableIn (pc := 19) (off := 65) (tgt := 84) hx hb dX12_plant_19 (by rw [c7]; decide) (by rw [c7]; decide) (by rw [c7]; rfl) (by decide) ?_
          refine lv_aload_n (pc := 84) hx hb dX12_plant_84 rfl (lv_at hl 0 rfl) ?_
          refine lv_iload_n (pc := 85) hx hb dX12_plant_85 rfl (lv_at hl 1 rfl) ?_
          obtain ⟨r16, k15, h⟩ := zBd_e h
          refine zr_VI (pc := 86) (rest := []) cx cv_X12_218 (mX12_isFern k15) ⟨⟨rfl, rfl⟩, Nat.le_of_ble_eq_true rfl, Nat.le_of_ble_eq_true rfl⟩ ⟨Nat.le_of_ble_eq_true rfl, Nat.le_of_ble_eq_true rfl⟩ hP nM_0 sM_0 rfl hl.1 rfl rfl (Nat.le_of_ble_eq_true rfl) dX12_plant_86 ?_
          refine lv_if_eq (pc := 89) (tgt := 96) hx hb dX12_plant_89 (by decide) (fun c17 => ?_) (fun c17 => ?_)
          · replace h := zBr_t c17 h
            refine lv_iconst (pc := 96) hx hb dX12_plant_96 zc_0 ?_
            have hz := Option.some.inj h
            exact zr_rqI (pc := 97) cx hr hlk hP hS hz dX12_plant_97
          · replace h := zBr_f c17 h
            refine lv_iconst (pc := 92) hx hb dX12_plant_92 zc_1 ?_
            refine lv_goto (pc := 93) (tgt := 97) hx hb dX12_plant_93 (by decide) ?_
            have hz := Option.some.inj h
            exact zr_rqI (pc := 97) cx hr hlk hP hS hz dX12_plant_97
        · replace h := zBr_f c7 h
          by_cases c8 : v2 = 3
          · replace h := zBr_t c8 h
            refine lv_tableIn (pc := 19) (off := 79) (tgt := 98) hx hb dX12_plant_19 (by rw [c8]; decide) (by rw [c8]; decide) (by rw [c8]; rfl) (by decide) ?_
            refine lv_aload_n (pc := 98) hx hb dX12_plant_98 rfl (lv_at hl 0 rfl) ?_
            refine zr_getR (pc := 99) (t := 2) cx lk_X12_98 hP nM_0 sM_0 rfl dX12_plant_99 ?_
            refine lv_bipush (pc := 102) hx hb dX12_plant_102 zb_32 ?_
            refine lv_iload_n (pc := 104) hx hb dX12_plant_104 rfl (lv_at hl 1 rfl) ?_
            refine lv_iadd (pc := 105) hx hb dX12_plant_105 ?_
            obtain ⟨g18, h⟩ := zGd_e h
            refine zr_iald (pc := 106) cx hP nM_2 sM_2 g18 dX12_plant_106 ?_
            have hz := Option.some.inj h
            exact zr_rqI (pc := 107) cx hr hlk hP hS hz dX12_plant_107
          · replace h := zBr_f c8 h
            by_cases c9 : v2 = 4
            · replace h := zBr_t c9 h
              refine lv_tableIn (pc := 19) (off := 89) (tgt := 108) hx hb dX12_plant_19 (by rw [c9]; decide) (by rw [c9]; decide) (by rw [c9]; rfl) (by decide) ?_
              refine lv_aload_n (pc := 108) hx hb dX12_plant_108 rfl (lv_at hl 0 rfl) ?_
              refine lv_iload_n (pc := 109) hx hb dX12_plant_109 rfl (lv_at hl 1 rfl) ?_
              refine lv_iconst (pc := 110) hx hb dX12_plant_110 zc_0 ?_
              obtain ⟨r20, k19, h⟩ := zBd_e h
              refine zr_VI (pc := 111) (rest := []) cx cv_X12_250 (mX12_seesOf k19) ⟨⟨rfl, rfl⟩, Nat.le_of_ble_eq_true rfl, Nat.le_of_ble_eq_true rfl⟩ ⟨Nat.le_of_ble_eq_true rfl, Nat.le_of_ble_eq_true rfl⟩ hP nM_0 sM_0 rfl hl.1 rfl rfl (Nat.le_of_ble_eq_true rfl) dX12_plant_111 ?_
              have hz := Option.some.inj h
              exact zr_rqI (pc := 114) cx hr hlk hP hS hz dX12_plant_114
            · replace h := zBr_f c9 h
              by_cases c10 : v2 = 5
              · replace h := zBr_t c10 h
                refine lv_tableIn (pc := 19) (off := 96) (tgt := 115) hx hb dX12_plant_19 (by rw [c10]; decide) (by rw [c10]; decide) (by rw [c10]; rfl) (by decide) ?_
                refine lv_aload_n (pc := 115) hx hb dX12_plant_115 rfl (lv_at hl 0 rfl) ?_
                refine lv_iload_n (pc := 116) hx hb dX12_plant_116 rfl (lv_at hl 1 rfl) ?_
                refine lv_iconst (pc := 117) hx hb dX12_plant_117 zc_1 ?_
                obtain ⟨r22, k21, h⟩ := zBd_e h
                refine zr_VI (pc := 118) (rest := []) cx cv_X12_253 (mX12_shownBy k21) ⟨⟨rfl, rfl⟩, Nat.le_of_ble_eq_true rfl, Nat.le_of_ble_eq_true rfl⟩ ⟨Nat.le_of_ble_eq_true rfl, Nat.le_of_ble_eq_true rfl⟩ hP nM_0 sM_0 rfl hl.1 rfl rfl (Nat.le_of_ble_eq_true rfl) dX12_plant_118 ?_
                obtain ⟨r24, k23, h⟩ := zBd_e h
                refine zr_SI (pc := 121) (rest := []) cx cv_X12_238 (mX12_bits k23) ⟨⟨rfl, rfl⟩, Nat.le_of_ble_eq_true rfl, Nat.le_of_ble_eq_true rfl⟩ ⟨Nat.le_of_ble_eq_true rfl, Nat.le_of_ble_eq_true rfl⟩ (zr_preK cx) hl.1 rfl rfl (Nat.le_of_ble_eq_true rfl) dX12_plant_121 ?_
                have hz := Option.some.inj h
                exact zr_rqI (pc := 124) cx hr hlk hP hS hz dX12_plant_124
              · replace h := zBr_f c10 h
                by_cases c11 : v2 = 6
                · replace h := zBr_t c11 h
                  refine lv_tableIn (pc := 19) (off := 106) (tgt := 125) hx hb dX12_plant_19 (by rw [c11]; decide) (by rw [c11]; decide) (by rw [c11]; rfl) (by decide) ?_
                  refine lv_aload_n (pc := 125) hx hb dX12_plant_125 rfl (lv_at hl 0 rfl) ?_
                  refine lv_iload_n (pc := 126) hx hb dX12_plant_126 rfl (lv_at hl 1 rfl) ?_
                  refine lv_iconst (pc := 127) hx hb dX12_plant_127 zc_1 ?_
                  obtain ⟨r26, k25, h⟩ := zBd_e h
                  refine zr_VI (pc := 128) (rest := []) cx cv_X12_253 (mX12_shownBy k25) ⟨⟨rfl, rfl⟩, Nat.le_of_ble_eq_true rfl, Nat.le_of_ble_eq_true rfl⟩ ⟨Nat.le_of_ble_eq_true rfl, Nat.le_of_ble_eq_true rfl⟩ hP nM_0 sM_0 rfl hl.1 rfl rfl (Nat.le_of_ble_eq_true rfl) dX12_plant_128 ?_
                  have hz := Option.some.inj h
                  exact zr_rqI (pc := 131) cx hr hlk hP hS hz dX12_plant_131
                · replace h := zBr_f c11 h
                  by_cases c12 : v2 = 7
                  · replace h := zBr_t c12 h
                    refine lv_tableIn (pc := 19) (off := 113) (tgt := 132) hx hb dX12_plant_19 (by rw [c12]; decide) (by rw [c12]; decide) (by rw [c12]; rfl) (by decide) ?_
                    refine lv_aload_n (pc := 132) hx hb dX12_plant_132 rfl (lv_at hl 0 rfl) ?_
                    refine lv_iload_n (pc := 133) hx hb dX12_plant_133 rfl (lv_at hl 1 rfl) ?_
                    refine lv_iconst (pc := 134) hx hb dX12_plant_134 zc_0 ?_
                    obtain ⟨r28, k27, h⟩ := zBd_e h
                    refine zr_VI (pc := 135) (rest := []) cx cv_X12_253 (mX12_shownBy k27) ⟨⟨rfl, rfl⟩, Nat.le_of_ble_eq_true rfl, Nat.le_of_ble_eq_true rfl⟩ ⟨Nat.le_of_ble_eq_true rfl, Nat.le_of_ble_eq_true rfl⟩ hP nM_0 sM_0 rfl hl.1 rfl rfl (Nat.le_of_ble_eq_true rfl) dX12_plant_135 ?_
                    obtain ⟨r30, k29, h⟩ := zBd_e h
                    refine zr_SI (pc := 138) (rest := []) cx cv_X12_238 (mX12_bits k29) ⟨⟨rfl, rfl⟩, Nat.le_of_ble_eq_true rfl, Nat.le_of_ble_eq_true rfl⟩ ⟨Nat.le_of_ble_eq_true rfl, Nat.le_of_ble_eq_true rfl⟩ (zr_preK cx) hl.1 rfl rfl (Nat.le_of_ble_eq_true rfl) dX12_plant_138 ?_
                    have hz := Option.some.inj h
                    exact zr_rqI (pc := 141) cx hr hlk hP hS hz dX12_plant_141
                  · replace h := zBr_f c12 h
                    refine zr_tsD (pc := 19) (tgt := 142) hx hb dX12_plant_19 (fun h1 h2 => ?_) (by decide) ?_
                    · rcases (show (v2).toInt = 0 ∨ (v2).toInt = 1 ∨ (v2).toInt = 2 ∨ (v2).toInt = 3 ∨ (v2).toInt = 4 ∨ (v2).toInt = 5 ∨ (v2).toInt = 6 ∨ (v2).toInt = 7 by omega) with e9 | e9 | e9 | e9 | e9 | e9 | e9 | e9
                      · exact absurd (Int32.toInt_inj.mp (e9.trans (by decide))) c5
                      · exact absurd (Int32.toInt_inj.mp (e9.trans (by decide))) c6
                      · exact absurd (Int32.toInt_inj.mp (e9.trans (by decide))) c7
                      · exact absurd (Int32.toInt_inj.mp (e9.trans (by decide))) c8
                      · exact absurd (Int32.toInt_inj.mp (e9.trans (by decide))) c9
                      · exact absurd (Int32.toInt_inj.mp (e9.trans (by decide))) c10
                      · exact absurd (Int32.toInt_inj.mp (e9.trans (by decide))) c11
                      · exact absurd (Int32.toInt_inj.mp (e9.trans (by decide))) c12
                    · skip
                      refine lv_aload_n (pc := 142) hx hb dX12_plant_142 rfl (lv_at hl 0 rfl) ?_
                      obtain ⟨r33, S32, k31, h⟩ := zBp_e h
                      refine zr_VQ (pc := 143) (rest := []) cx cv_X12_247 (mX12_refuse hq k31) ⟨⟨rfl, rfl⟩, Nat.le_of_ble_eq_true rfl, Nat.le_of_ble_eq_true rfl⟩ ⟨Nat.le_of_ble_eq_true rfl, Nat.le_of_ble_eq_true rfl⟩ hP hS nM_0 sM_0 rfl hl.1 rfl rfl (Nat.le_of_ble_eq_true rfl) dX12_plant_143 (fun H locs hP hS => ?_)
                      have hz := Option.some.inj h
                      exact zr_rqI (pc := 146) cx hr hlk hP hS hz dX12_plant_146
  · replace h := zBr_t c4 h
    refine lv_aload_n (pc := 13) hx hb dX12_plant_13 rfl (lv_at hl 0 rfl) ?_
    obtain ⟨r36, S35, k34, h⟩ := zBp_e h
    refine zr_VQ (pc := 14) (rest := []) cx cv_X12_247 (mX12_refuse hq k34) ⟨⟨rfl, rfl⟩, Nat.le_of_ble_eq_true rfl, Nat.le_of_ble_eq_true rfl⟩ ⟨Nat.le_of_ble_eq_true rfl, Nat.le_of_ble_eq_true rfl⟩ hP hS nM_0 sM_0 rfl hl.1 rfl rfl (Nat.le_of_ble_eq_true rfl) dX12_plant_14 (fun H locs hP hS => ?_)
    have hz := Option.some.inj h
    exact zr_rqI (pc := 17) cx hr hlk hP hS hz dX12_plant_17
-- X12_proves
abbrev rmX12_proves : Room := { frames := 2, cells := 0, slots := 0, locals := 43 }
def fX12_proves_117 (S : zSt)  (v1 : Int32) (v2 : Int32) (v3 : Int32) : Option ((Int32 × Int32) ⊕ (Int32 × zSt)) :=
  zLt (v3 + (1 : Int32)) (fun x15 => some (.inl (v2, x15)))
set_option maxHeartbeats 4000000 in
set_option maxRecDepth 100000 in
theorem kX12_proves_117 {p : Program} {l : Launch} {e : Env} {s : State} {m : MethodId} {args : Array Value} {below : List Frame} {meth : Method} {c : Code} {D : va_G} {cy : Nat → ClassId} {q : Nat → Nat} {A : Nat → Prop} (cx : zX RX12 cX12_proves 7 p s m args c D cy) (hr : meth.sig.returnType = (some .int)) (hlk : meth.locks = false) (hq : zQ A q zNM) {z : (Int32 × zSt)} {S : zSt} {v1 : Int32} {v2 : Int32} {v3 : Int32} {C1 : ((Int32 × Int32) ⊕ (Int32 × zSt)) → Prop} (hb1 : ∀ (v2 : Int32) (v3 : Int32), C1 (.inl (v2, v3)) → ∀ (H : Heap) (locs : List Loc), va_P D vwCl (zW zshM zNM cy q S) H → va_S A s.heap H locs → ∀ (ls : Array Slot), lv_has ls 7 [(0, .ref (q 0)), (1, .int v1), (2, .int v2), (3, .int v3)] → W p l e rmX12_proves s m args below meth c H locs 0 0 (MQ below (va_Qi (fun (r : Int32) (u : zSt) => (r, u) = z) (fun u t => va_P D vwCl (zW zshM zNM cy q u) t.heap) A) args s 0 0 A) (F0 m 19 ls [])) (hx1 : ∀ a, C1 (.inr a) → a = z) {x : ((Int32 × Int32) ⊕ (Int32 × zSt))} (h : fX12_proves_117 S v1 v2 v3 = some x) (hc : C1 x) {H : Heap} {locs : List Loc} (hP : va_P D vwCl (zW zshM zNM cy q S) H) (hS : va_S A s.heap H locs) {ls : Array Slot} (hl : lv_has ls 7 [(0, .ref (q 0)), (1, .int v1), (2, .int v2), (3, .int v3)]) : W p l e rmX12_proves s m args below meth c H locs 0 0 (MQ below (va_Qi (fun (r : Int32) (u : zSt) => (r, u) = z) (fun u t => va_P D vwCl (zW zshM zNM cy q u) t.heap) A) args s 0 0 A) (F0 m 117 ls []) := by
  have hx := cx.1
  have hb := cx.2.1
  unfold fX12_proves_117 at h
  obtain ⟨x15, ex15, h⟩ := zLt_e h
  refine lv_iinc (v := x15) (lv' := [(3, .int x15), (0, .ref (q 0)), (1, .int v1), (2, .int v2)]) (pc := 117) hx hb dX12_proves_117 hl (k := 3) rfl (by rw [zc_1]; exact ex15.symm) (by decide) rfl (fun ls hl => ?_)
  refine lv_goto (pc := 120) (tgt := 19) hx hb dX12_proves_120 (by decide) ?_
  cases h
  exact hb1 _ _ hc _ _ hP hS _ (lv_sub hl [1, 2, 3, 0] rfl)
def fX12_proves_114 (S : zSt)  (v1 : Int32) (v3 : Int32) (v4 : Int32) : Option ((Int32 × Int32) ⊕ (Int32 × zSt)) :=
  fX12_proves_117 S v1 v4 v3
set_option maxHeartbeats 4000000 in
set_option maxRecDepth 100000 in
theorem kX12_proves_114 {p : Program} {l : Launch} {e : Env} {s : State} {m : MethodId} {args : Array Value} {below : List Frame} {meth : Method} {c : Code} {D : va_G} {cy : Nat → ClassId} {q : Nat → Nat} {A : Nat → Prop} (cx : zX RX12 cX12_proves 7 p s m args c D cy) (hr : meth.sig.returnType = (some .int)) (hlk : meth.locks = false) (hq : zQ A q zNM) {z : (Int32 × zSt)} {S : zSt} {v1 : Int32} {v3 : Int32} {v4 : Int32} {C1 : ((Int32 × Int32) ⊕ (Int32 × zSt)) → Prop} (hb1 : ∀ (v2 : Int32) (v3 : Int32), C1 (.inl (v2, v3)) → ∀ (H : Heap) (locs : List Loc), va_P D vwCl (zW zshM zNM cy q S) H → va_S A s.heap H locs → ∀ (ls : Array Slot), lv_has ls 7 [(0, .ref (q 0)), (1, .int v1), (2, .int v2), (3, .int v3)] → W p l e rmX12_proves s m args below meth c H locs 0 0 (MQ below (va_Qi (fun (r : Int32) (u : zSt) => (r, u) = z) (fun u t => va_P D vwCl (zW zshM zNM cy q u) t.heap) A) args s 0 0 A) (F0 m 19 ls [])) (hx1 : ∀ a, C1 (.inr a) → a = z) {x : ((Int32 × Int32) ⊕ (Int32 × zSt))} (h : fX12_proves_114 S v1 v3 v4 = some x) (hc : C1 x) {H : Heap} {locs : List Loc} (hP : va_P D vwCl (zW zshM zNM cy q S) H) (hS : va_S A s.heap H locs) {ls : Array Slot} (hl : lv_has ls 7 [(0, .ref (q 0)), (1, .int v1), (3, .int v3), (4, .int v4)]) : W p l e rmX12_proves s m args below meth c H locs 0 0 (MQ below (va_Qi (fun (r : Int32) (u : zSt) => (r, u) = z) (fun u t => va_P D vwCl (zW zshM zNM cy q u) t.heap) A) args s 0 0 A) (F0 m 114 ls []) := by
  have hx := cx.1
  have hb := cx.2.1
  unfold fX12_proves_114 at h
  refine lv_iload (pc := 114) hx hb dX12_proves_114 (lv_at hl 3 rfl) ?_
  refine lv_istore_n (lv' := [(2, .int v4), (0, .ref (q 0)), (1, .int v1), (3, .int v3), (4, .int v4)]) (pc := 116) hx hb dX12_proves_116 rfl hl (by decide) rfl (fun ls hl => ?_)
  exact kX12_proves_117 cx hr hlk hq hb1 hx1 h hc hP hS (lv_sub hl [1, 2, 0, 3] rfl)
def fX12_proves_80 (S : zSt)  (v1 : Int32) (v2 : Int32) (v3 : Int32) (v4 : Int32) (v5 : Int32) (v6 : Int32) : Option ((Int32 × Int32) ⊕ ((Int32 × Int32) ⊕ (Int32 × zSt))) :=
  zLt (v6 + (1 : Int32)) (fun x23 => some (.inl (v5, x23)))
set_option maxHeartbeats 4000000 in
set_option maxRecDepth 100000 in
theorem kX12_proves_80 {p : Program} {l : Launch} {e : Env} {s : State} {m : MethodId} {args : Array Value} {below : List Frame} {meth : Method} {c : Code} {D : va_G} {cy : Nat → ClassId} {q : Nat → Nat} {A : Nat → Prop} (cx : zX RX12 cX12_proves 7 p s m args c D cy) (hr : meth.sig.returnType = (some .int)) (hlk : meth.locks = false) (hq : zQ A q zNM) {z : (Int32 × zSt)} {S : zSt} {v1 : Int32} {v2 : Int32} {v3 : Int32} {v4 : Int32} {v5 : Int32} {v6 : Int32} {C1 : ((Int32 × Int32) ⊕ (Int32 × zSt)) → Prop} (hb1 : ∀ (v2 : Int32) (v3 : Int32), C1 (.inl (v2, v3)) → ∀ (H : Heap) (locs : List Loc), va_P D vwCl (zW zshM zNM cy q S) H → va_S A s.heap H locs → ∀ (ls : Array Slot), lv_has ls 7 [(0, .ref (q 0)), (1, .int v1), (2, .int v2), (3, .int v3)] → W p l e rmX12_proves s m args below meth c H locs 0 0 (MQ below (va_Qi (fun (r : Int32) (u : zSt) => (r, u) = z) (fun u t => va_P D vwCl (zW zshM zNM cy q u) t.heap) A) args s 0 0 A) (F0 m 19 ls [])) (hx1 : ∀ a, C1 (.inr a) → a = z) {C2 : ((Int32 × Int32) ⊕ ((Int32 × Int32) ⊕ (Int32 × zSt))) → Prop} (hb2 : ∀ (v5 : Int32) (v6 : Int32), C2 (.inl (v5, v6)) → ∀ (H : Heap) (locs : List Loc), va_P D vwCl (zW zshM zNM cy q S) H → va_S A s.heap H locs → ∀ (ls : Array Slot), lv_has ls 7 [(0, .ref (q 0)), (1, .int v1), (2, .int v2), (3, .int v3), (4, .int v4), (5, .int v5), (6, .int v6)] → W p l e rmX12_proves s m args below meth c H locs 0 0 (MQ below (va_Qi (fun (r : Int32) (u : zSt) => (r, u) = z) (fun u t => va_P D vwCl (zW zshM zNM cy q u) t.heap) A) args s 0 0 A) (F0 m 43 ls [])) (hx2 : ∀ a, C2 (.inr a) → C1 a) {x : ((Int32 × Int32) ⊕ ((Int32 × Int32) ⊕ (Int32 × zSt)))} (h : fX12_proves_80 S v1 v2 v3 v4 v5 v6 = some x) (hc : C2 x) {H : Heap} {locs : List Loc} (hP : va_P D vwCl (zW zshM zNM cy q S) H) (hS : va_S A s.heap H locs) {ls : Array Slot} (hl : lv_has ls 7 [(0, .ref (q 0)), (1, .int v1), (2, .int v2), (3, .int v3), (4, .int v4), (5, .int v5), (6, .int v6)]) : W p l e rmX12_proves s m args below meth c H locs 0 0 (MQ below (va_Qi (fun (r : Int32) (u : zSt) => (r, u) = z) (fun u t => va_P D vwCl (zW zshM zNM cy q u) t.heap) A) args s 0 0 A) (F0 m 80 ls []) := by
  have hx := cx.1
  have hb := cx.2.1
  unfold fX12_proves_80 at h
  obtain ⟨x23, ex23, h⟩ := zLt_e h
  refine lv_iinc (v := x23) (lv' := [(6, .int x23), (0, .ref (q 0)), (1, .int v1), (2, .int v2), (3, .int v3), (4, .int v4), (5, .int v5)]) (pc := 80) hx hb dX12_proves_80 hl (k := 6) rfl (by rw [zc_1]; exact ex23.symm) (by decide) rfl (fun ls hl => ?_)
  refine lv_goto (pc := 83) (tgt := 43) hx hb dX12_proves_83 (by decide) ?_
  cases h
  exact hb2 _ _ hc _ _ hP hS _ (lv_sub hl [1, 2, 3, 4, 5, 6, 0] rfl)
def fX12_proves_43 (S : zSt)  (v1 : Int32) (v2 : Int32) (v3 : Int32) (v4 : Int32) (t : (Int32 × Int32)) : Option ((Int32 × Int32) ⊕ ((Int32 × Int32) ⊕ (Int32 × zSt))) :=
  match t with
  | (v5, v6) => zGd (zIx (1 : Int32) 406) (zBr ((S.1 2 (1 : Int32).toNatClampNeg) ≤ v6) (zXr (zBr (v4 = (-1 : Int32)) (fX12_proves_117 S v1 v2 v3) (zGd (zIx (5 : Int32) 406) (zBr (v5 < (S.1 2 (5 : Int32).toNatClampNeg)) (fX12_proves_117 S v1 v2 v3) (zBr (v2 = (-1 : Int32)) (fX12_proves_114 S v1 v3 v4) (zBr (v2 ≤ v4) (fX12_proves_117 S v1 v2 v3) (fX12_proves_114 S v1 v3 v4))))))) (zBd (fX12_leafOf S v6 v1) (fun r21 => zBr (r21 = (-1 : Int32)) (fX12_proves_80 S v1 v2 v3 v4 v5 v6) (zBd (fX12_leafOf S v6 v1) (fun r25 => zBr (v4 < r25) (fX12_proves_80 S v1 v2 v3 v4 v5 v6) (zLt (v5 + (1 : Int32)) (fun x27 => fX12_proves_80 S v1 v2 v3 v4 x27 v6)))))))
set_option maxHeartbeats 4000000 in
set_option maxRecDepth 100000 in
theorem kX12_proves_43B {p : Program} {l : Launch} {e : Env} {s : State} {m : MethodId} {args : Array Value} {below : List Frame} {meth : Method} {c : Code} {D : va_G} {cy : Nat → ClassId} {q : Nat → Nat} {A : Nat → Prop} (cx : zX RX12 cX12_proves 7 p s m args c D cy) (hr : meth.sig.returnType = (some .int)) (hlk : meth.locks = false) (hq : zQ A q zNM) {z : (Int32 × zSt)} {S : zSt} {v1 : Int32} {v2 : Int32} {v3 : Int32} {v4 : Int32} {v5 : Int32} {v6 : Int32} {C1 : ((Int32 × Int32) ⊕ (Int32 × zSt)) → Prop} (hb1 : ∀ (v2 : Int32) (v3 : Int32), C1 (.inl (v2, v3)) → ∀ (H : Heap) (locs : List Loc), va_P D vwCl (zW zshM zNM cy q S) H → va_S A s.heap H locs → ∀ (ls : Array Slot), lv_has ls 7 [(0, .ref (q 0)), (1, .int v1), (2, .int v2), (3, .int v3)] → W p l e rmX12_proves s m args below meth c H locs 0 0 (MQ below (va_Qi (fun (r : Int32) (u : zSt) => (r, u) = z) (fun u t => va_P D vwCl (zW zshM zNM cy q u) t.heap) A) args s 0 0 A) (F0 m 19 ls [])) (hx1 : ∀ a, C1 (.inr a) → a = z) {C2 : ((Int32 × Int32) ⊕ ((Int32 × Int32) ⊕ (Int32 × zSt))) → Prop} (hb2 : ∀ (v5 : Int32) (v6 : Int32), C2 (.inl (v5, v6)) → ∀ (H : Heap) (locs : List Loc), va_P D vwCl (zW zshM zNM cy q S) H → va_S A s.heap H locs → ∀ (ls : Array Slot), lv_has ls 7 [(0, .ref (q 0)), (1, .int v1), (2, .int v2), (3, .int v3), (4, .int v4), (5, .int v5), (6, .int v6)] → W p l e rmX12_proves s m args below meth c H locs 0 0 (MQ below (va_Qi (fun (r : Int32) (u : zSt) => (r, u) = z) (fun u t => va_P D vwCl (zW zshM zNM cy q u) t.heap) A) args s 0 0 A) (F0 m 43 ls [])) (hx2 : ∀ a, C2 (.inr a) → C1 a) {x : ((Int32 × Int32) ⊕ ((Int32 × Int32) ⊕ (Int32 × zSt)))} (h : fX12_proves_43 S v1 v2 v3 v4 (v5, v6) = some x) (hc : C2 x) {H : Heap} {locs : List Loc} (hP : va_P D vwCl (zW zshM zNM cy q S) H) (hS : va_S A s.heap H locs) {ls : Array Slot} (hl : lv_has ls 7 [(0, .ref (q 0)), (1, .int v1), (2, .int v2), (3, .int v3), (4, .int v4), (5, .int v5), (6, .int v6)]) : W p l e rmX12_proves s m args below meth c H locs 0 0 (MQ below (va_Qi (fun (r : Int32) (u : zSt) => (r, u) = z) (fun u t => va_P D vwCl (zW zshM zNM cy q u) t.heap) A) args s 0 0 A) (F0 m 43 ls []) := by
  have hx := cx.1
  have hb := cx.2.1
  unfold fX12_proves_43 at h
  dsimp only at h
  refine lv_iload (pc := 43) hx hb dX12_proves_43 (lv_at hl 6 rfl) ?_
  refine lv_aload_n (pc := 45) hx hb dX12_proves_45 rfl (lv_at hl 0 rfl) ?_
  refine zr_getR (pc := 46) (t := 2) cx lk_X12_98 hP nM_0 sM_0 rfl dX12_proves_46 ?_
  refine lv_iconst (pc := 49) hx hb dX12_proves_49 zc_1 ?_
  obtain ⟨g11, h⟩ := zGd_e h
  refine zr_iald (pc := 50) cx hP nM_2 sM_2 g11 dX12_proves_50 ?_
  refine lv_icmp_ge (pc := 51) (tgt := 86) hx hb dX12_proves_51 (by decide) (fun c12 => ?_) (fun c12 => ?_)
  · replace h := zBr_t c12 h
    obtain ⟨y13, h, ex⟩ := zXr_e h
    have hc := hx2 y13 (by rw [ex] at hc; exact hc)
    refine lv_iload (pc := 86) hx hb dX12_proves_86 (lv_at hl 4 rfl) ?_
    refine lv_iconst (pc := 88) hx hb dX12_proves_88 zc_m1 ?_
    refine lv_icmp_eq (pc := 89) (tgt := 117) hx hb dX12_proves_89 (by decide) (fun c14 => ?_) (fun c14 => ?_)
    · replace h := zBr_t c14 h
      exact kX12_proves_117 cx hr hlk hq hb1 hx1 h hc hP hS (lv_sub hl [0, 1, 2, 3] rfl)
    · replace h := zBr_f c14 h
      refine lv_iload (pc := 92) hx hb dX12_proves_92 (lv_at hl 5 rfl) ?_
      refine lv_aload_n (pc := 94) hx hb dX12_proves_94 rfl (lv_at hl 0 rfl) ?_
      refine zr_getR (pc := 95) (t := 2) cx lk_X12_98 hP nM_0 sM_0 rfl dX12_proves_95 ?_
      refine lv_iconst (pc := 98) hx hb dX12_proves_98 zc_5 ?_
      obtain ⟨g16, h⟩ := zGd_e h
      refine zr_iald (pc := 99) cx hP nM_2 sM_2 g16 dX12_proves_99 ?_
      refine lv_icmp_lt (pc := 100) (tgt := 117) hx hb dX12_proves_100 (by decide) (fun c17 => ?_) (fun c17 => ?_)
      · replace h := zBr_t c17 h
        exact kX12_proves_117 cx hr hlk hq hb1 hx1 h hc hP hS (lv_sub hl [0, 1, 2, 3] rfl)
      · replace h := zBr_f c17 h
        refine lv_iload_n (pc := 103) hx hb dX12_proves_103 rfl (lv_at hl 2 rfl) ?_
        refine lv_iconst (pc := 104) hx hb dX12_proves_104 zc_m1 ?_
        refine lv_icmp_eq (pc := 105) (tgt := 114) hx hb dX12_proves_105 (by decide) (fun c18 => ?_) (fun c18 => ?_)
        · replace h := zBr_t c18 h
          exact kX12_proves_114 cx hr hlk hq hb1 hx1 h hc hP hS (lv_sub hl [0, 1, 3, 4] rfl)
        · replace h := zBr_f c18 h
          refine lv_iload (pc := 108) hx hb dX12_proves_108 (lv_at hl 4 rfl) ?_
          refine lv_iload_n (pc := 110) hx hb dX12_proves_110 rfl (lv_at hl 2 rfl) ?_
          refine lv_icmp_ge (pc := 111) (tgt := 117) hx hb dX12_proves_111 (by decide) (fun c19 => ?_) (fun c19 => ?_)
          · replace h := zBr_t c19 h
            exact kX12_proves_117 cx hr hlk hq hb1 hx1 h hc hP hS (lv_sub hl [0, 1, 2, 3] rfl)
          · replace h := zBr_f c19 h
            exact kX12_proves_114 cx hr hlk hq hb1 hx1 h hc hP hS (lv_sub hl [0, 1, 3, 4] rfl)
  · replace h := zBr_f c12 h
    refine lv_aload_n (pc := 54) hx hb dX12_proves_54 rfl (lv_at hl 0 rfl) ?_
    refine lv_iload (pc := 55) hx hb dX12_proves_55 (lv_at hl 6 rfl) ?_
    refine lv_iload_n (pc := 57) hx hb dX12_proves_57 rfl (lv_at hl 1 rfl) ?_
    obtain ⟨r21, k20, h⟩ := zBd_e h
    refine zr_VI (pc := 58) (rest := []) cx cv_X12_224 (mX12_leafOf k20) ⟨⟨rfl, rfl⟩, Nat.le_of_ble_eq_true rfl, Nat.le_of_ble_eq_true rfl⟩ ⟨Nat.le_of_ble_eq_true rfl, Nat.le_of_ble_eq_true rfl⟩ hP nM_0 sM_0 rfl hl.1 rfl rfl (Nat.le_of_ble_eq_true rfl) dX12_proves_58 ?_
    refine lv_iconst (pc := 61) hx hb dX12_proves_61 zc_m1 ?_
    refine lv_icmp_eq (pc := 62) (tgt := 80) hx hb dX12_proves_62 (by decide) (fun c22 => ?_) (fun c22 => ?_)
    · replace h := zBr_t c22 h
      exact kX12_proves_80 cx hr hlk hq hb1 hx1 hb2 hx2 h hc hP hS (lv_sub hl [0, 1, 2, 3, 4, 5, 6] rfl)
    · replace h := zBr_f c22 h
      refine lv_aload_n (pc := 65) hx hb dX12_proves_65 rfl (lv_at hl 0 rfl) ?_
      refine lv_iload (pc := 66) hx hb dX12_proves_66 (lv_at hl 6 rfl) ?_
      refine lv_iload_n (pc := 68) hx hb dX12_proves_68 rfl (lv_at hl 1 rfl) ?_
      obtain ⟨r25, k24, h⟩ := zBd_e h
      refine zr_VI (pc := 69) (rest := []) cx cv_X12_224 (mX12_leafOf k24) ⟨⟨rfl, rfl⟩, Nat.le_of_ble_eq_true rfl, Nat.le_of_ble_eq_true rfl⟩ ⟨Nat.le_of_ble_eq_true rfl, Nat.le_of_ble_eq_true rfl⟩ hP nM_0 sM_0 rfl hl.1 rfl rfl (Nat.le_of_ble_eq_true rfl) dX12_proves_69 ?_
      refine lv_iload (pc := 72) hx hb dX12_proves_72 (lv_at hl 4 rfl) ?_
      refine lv_icmp_gt (pc := 74) (tgt := 80) hx hb dX12_proves_74 (by decide) (fun c26 => ?_) (fun c26 => ?_)
      · replace h := zBr_t c26 h
        exact kX12_proves_80 cx hr hlk hq hb1 hx1 hb2 hx2 h hc hP hS (lv_sub hl [0, 1, 2, 3, 4, 5, 6] rfl)
      · replace h := zBr_f c26 h
        obtain ⟨x27, ex27, h⟩ := zLt_e h
        refine lv_iinc (v := x27) (lv' := [(5, .int x27), (0, .ref (q 0)), (1, .int v1), (2, .int v2), (3, .int v3), (4, .int v4), (6, .int v6)]) (pc := 77) hx hb dX12_proves_77 hl (k := 5) rfl (by rw [zc_1]; exact ex27.symm) (by decide) rfl (fun ls hl => ?_)
        exact kX12_proves_80 cx hr hlk hq hb1 hx1 hb2 hx2 h hc hP hS (lv_sub hl [1, 2, 3, 4, 5, 0, 6] rfl)
set_option maxHeartbeats 4000000 in
set_option maxRecDepth 100000 in
theorem kX12_proves_43 {p : Program} {l : Launch} {e : Env} {s : State} {m : MethodId} {args : Array Value} {below : List Frame} {meth : Method} {c : Code} {D : va_G} {cy : Nat → ClassId} {q : Nat → Nat} {A : Nat → Prop} (cx : zX RX12 cX12_proves 7 p s m args c D cy) (hr : meth.sig.returnType = (some .int)) (hlk : meth.locks = false) (hq : zQ A q zNM) {z : (Int32 × zSt)} {S : zSt} {v1 : Int32} {v2 : Int32} {v3 : Int32} {v4 : Int32} {C1 : ((Int32 × Int32) ⊕ (Int32 × zSt)) → Prop} (hb1 : ∀ (v2 : Int32) (v3 : Int32), C1 (.inl (v2, v3)) → ∀ (H : Heap) (locs : List Loc), va_P D vwCl (zW zshM zNM cy q S) H → va_S A s.heap H locs → ∀ (ls : Array Slot), lv_has ls 7 [(0, .ref (q 0)), (1, .int v1), (2, .int v2), (3, .int v3)] → W p l e rmX12_proves s m args below meth c H locs 0 0 (MQ below (va_Qi (fun (r : Int32) (u : zSt) => (r, u) = z) (fun u t => va_P D vwCl (zW zshM zNM cy q u) t.heap) A) args s 0 0 A) (F0 m 19 ls [])) (hx1 : ∀ a, C1 (.inr a) → a = z) {xo : ((Int32 × Int32) ⊕ (Int32 × zSt))} (hc : C1 xo) : ∀ (n : Nat) (v5 : Int32) (v6 : Int32), zLp (fX12_proves_43 S v1 v2 v3 v4) n (v5, v6) = some xo → ∀ (H : Heap) (locs : List Loc), va_P D vwCl (zW zshM zNM cy q S) H → va_S A s.heap H locs → ∀ (ls : Array Slot), lv_has ls 7 [(0, .ref (q 0)), (1, .int v1), (2, .int v2), (3, .int v3), (4, .int v4), (5, .int v5), (6, .int v6)] → W p l e rmX12_proves s m args below meth c H locs 0 0 (MQ below (va_Qi (fun (r : Int32) (u : zSt) => (r, u) = z) (fun u t => va_P D vwCl (zW zshM zNM cy q u) t.heap) A) args s 0 0 A) (F0 m 43 ls []) := by
  intro n
  induction n with
  | zero =>
    intro v5 v6 h
    cases h
  | succ n ih =>
    intro v5 v6 h H locs hP hS ls hl
    obtain ⟨x, h, hk⟩ := zLp_e h
    exact kX12_proves_43B cx hr hlk hq hb1 hx1 (C2 := zKt (fun t => zLp (fX12_proves_43 S v1 v2 v3 v4) n t = some xo) (fun a => a = xo)) (fun v5 v6 ht H locs hP hS ls hl => ih v5 v6 ht H locs hP hS ls hl) (fun a ha => ha ▸ hc) h hk hP hS hl
def fX12_proves_19 (S : zSt)  (v1 : Int32) (t : (Int32 × Int32)) : Option ((Int32 × Int32) ⊕ (Int32 × zSt)) :=
  match t with
  | (v2, v3) => zGd (zIx (1 : Int32) 406) (zBr ((S.1 2 (1 : Int32).toNatClampNeg) ≤ v3) (zXr (zBr (v2 ≤ (400 : Int32)) (some (v2, S)) (some ((-1 : Int32), S)))) (zBd (fX12_leafOf S v3 v1) (fun r10 => zLp (fX12_proves_43 S v1 v2 v3 r10) 2000 ((0 : Int32), (0 : Int32)))))
set_option maxHeartbeats 4000000 in
set_option maxRecDepth 100000 in
theorem kX12_proves_19B {p : Program} {l : Launch} {e : Env} {s : State} {m : MethodId} {args : Array Value} {below : List Frame} {meth : Method} {c : Code} {D : va_G} {cy : Nat → ClassId} {q : Nat → Nat} {A : Nat → Prop} (cx : zX RX12 cX12_proves 7 p s m args c D cy) (hr : meth.sig.returnType = (some .int)) (hlk : meth.locks = false) (hq : zQ A q zNM) {z : (Int32 × zSt)} {S : zSt} {v1 : Int32} {v2 : Int32} {v3 : Int32} {C1 : ((Int32 × Int32) ⊕ (Int32 × zSt)) → Prop} (hb1 : ∀ (v2 : Int32) (v3 : Int32), C1 (.inl (v2, v3)) → ∀ (H : Heap) (locs : List Loc), va_P D vwCl (zW zshM zNM cy q S) H → va_S A s.heap H locs → ∀ (ls : Array Slot), lv_has ls 7 [(0, .ref (q 0)), (1, .int v1), (2, .int v2), (3, .int v3)] → W p l e rmX12_proves s m args below meth c H locs 0 0 (MQ below (va_Qi (fun (r : Int32) (u : zSt) => (r, u) = z) (fun u t => va_P D vwCl (zW zshM zNM cy q u) t.heap) A) args s 0 0 A) (F0 m 19 ls [])) (hx1 : ∀ a, C1 (.inr a) → a = z) {x : ((Int32 × Int32) ⊕ (Int32 × zSt))} (h : fX12_proves_19 S v1 (v2, v3) = some x) (hc : C1 x) {H : Heap} {locs : List Loc} (hP : va_P D vwCl (zW zshM zNM cy q S) H) (hS : va_S A s.heap H locs) {ls : Array Slot} (hl : lv_has ls 7 [(0, .ref (q 0)), (1, .int v1), (2, .int v2), (3, .int v3)]) : W p l e rmX12_proves s m args below meth c H locs 0 0 (MQ below (va_Qi (fun (r : Int32) (u : zSt) => (r, u) = z) (fun u t => va_P D vwCl (zW zshM zNM cy q u) t.heap) A) args s 0 0 A) (F0 m 19 ls []) := by
  have hx := cx.1
  have hb := cx.2.1
  unfold fX12_proves_19 at h
  dsimp only at h
  refine lv_iload_n (pc := 19) hx hb dX12_proves_19 rfl (lv_at hl 3 rfl) ?_
  refine lv_aload_n (pc := 20) hx hb dX12_proves_20 rfl (lv_at hl 0 rfl) ?_
  refine zr_getR (pc := 21) (t := 2) cx lk_X12_98 hP nM_0 sM_0 rfl dX12_proves_21 ?_
  refine lv_iconst (pc := 24) hx hb dX12_proves_24 zc_1 ?_
  obtain ⟨g5, h⟩ := zGd_e h
  refine zr_iald (pc := 25) cx hP nM_2 sM_2 g5 dX12_proves_25 ?_
  refine lv_icmp_ge (pc := 26) (tgt := 123) hx hb dX12_proves_26 (by decide) (fun c6 => ?_) (fun c6 => ?_)
  · replace h := zBr_t c6 h
    obtain ⟨y7, h, ex⟩ := zXr_e h
    have hc := hx1 y7 (by rw [ex] at hc; exact hc)
    rw [hc] at h
    refine lv_iload_n (pc := 123) hx hb dX12_proves_123 rfl (lv_at hl 2 rfl) ?_
    refine lv_sipush (pc := 124) hx hb dX12_proves_124 zs_400 ?_
    refine lv_icmp_le (pc := 127) (tgt := 134) hx hb dX12_proves_127 (by decide) (fun c8 => ?_) (fun c8 => ?_)
    · replace h := zBr_t c8 h
      refine lv_iload_n (pc := 134) hx hb dX12_proves_134 rfl (lv_at hl 2 rfl) ?_
      have hz := Option.some.inj h
      exact zr_rqI (pc := 135) cx hr hlk hP hS hz dX12_proves_135
    · replace h := zBr_f c8 h
      refine lv_iconst (pc := 130) hx hb dX12_proves_130 zc_m1 ?_
      refine lv_goto (pc := 131) (tgt := 135) hx hb dX12_proves_131 (by decide) ?_
      have hz := Option.some.inj h
      exact zr_rqI (pc := 135) cx hr hlk hP hS hz dX12_proves_135
  · replace h := zBr_f c6 h
    refine lv_aload_n (pc := 29) hx hb dX12_proves_29 rfl (lv_at hl 0 rfl) ?_
    refine lv_iload_n (pc := 30) hx hb dX12_proves_30 rfl (lv_at hl 3 rfl) ?_
    refine lv_iload_n (pc := 31) hx hb dX12_proves_31 rfl (lv_at hl 1 rfl) ?_
    obtain ⟨r10, k9, h⟩ := zBd_e h
    refine zr_VI (pc := 32) (rest := []) cx cv_X12_224 (mX12_leafOf k9) ⟨⟨rfl, rfl⟩, Nat.le_of_ble_eq_true rfl, Nat.le_of_ble_eq_true rfl⟩ ⟨Nat.le_of_ble_eq_true rfl, Nat.le_of_ble_eq_true rfl⟩ hP nM_0 sM_0 rfl hl.1 rfl rfl (Nat.le_of_ble_eq_true rfl) dX12_proves_32 ?_
    refine lv_istore (lv' := [(4, .int r10), (0, .ref (q 0)), (1, .int v1), (2, .int v2), (3, .int v3)]) (pc := 35) hx hb dX12_proves_35 hl (by decide) rfl (fun ls hl => ?_)
    refine lv_iconst (pc := 37) hx hb dX12_proves_37 zc_0 ?_
    refine lv_istore (lv' := [(5, .int (0 : Int32)), (4, .int r10), (0, .ref (q 0)), (1, .int v1), (2, .int v2), (3, .int v3)]) (pc := 38) hx hb dX12_proves_38 hl (by decide) rfl (fun ls hl => ?_)
    refine lv_iconst (pc := 40) hx hb dX12_proves_40 zc_0 ?_
    refine lv_istore (lv' := [(6, .int (0 : Int32)), (5, .int (0 : Int32)), (4, .int r10), (0, .ref (q 0)), (1, .int v1), (2, .int v2), (3, .int v3)]) (pc := 41) hx hb dX12_proves_41 hl (by decide) rfl (fun ls hl => ?_)
    exact kX12_proves_43 cx hr hlk hq hb1 hx1 hc 2000 _ _ h _ _ hP hS _ (lv_sub hl [3, 4, 5, 6, 2, 1, 0] rfl)
set_option maxHeartbeats 4000000 in
set_option maxRecDepth 100000 in
theorem kX12_proves_19 {p : Program} {l : Launch} {e : Env} {s : State} {m : MethodId} {args : Array Value} {below : List Frame} {meth : Method} {c : Code} {D : va_G} {cy : Nat → ClassId} {q : Nat → Nat} {A : Nat → Prop} (cx : zX RX12 cX12_proves 7 p s m args c D cy) (hr : meth.sig.returnType = (some .int)) (hlk : meth.locks = false) (hq : zQ A q zNM) {z : (Int32 × zSt)} {S : zSt} {v1 : Int32} : ∀ (n : Nat) (v2 : Int32) (v3 : Int32), zLp (fX12_proves_19 S v1) n (v2, v3) = some z → ∀ (H : Heap) (locs : List Loc), va_P D vwCl (zW zshM zNM cy q S) H → va_S A s.heap H locs → ∀ (ls : Array Slot), lv_has ls 7 [(0, .ref (q 0)), (1, .int v1), (2, .int v2), (3, .int v3)] → W p l e rmX12_proves s m args below meth c H locs 0 0 (MQ below (va_Qi (fun (r : Int32) (u : zSt) => (r, u) = z) (fun u t => va_P D vwCl (zW zshM zNM cy q u) t.heap) A) args s 0 0 A) (F0 m 19 ls []) := by
  intro n
  induction n with
  | zero =>
    intro v2 v3 h
    cases h
  | succ n ih =>
    intro v2 v3 h H locs hP hS ls hl
    obtain ⟨x, h, hk⟩ := zLp_e h
    exact kX12_proves_19B cx hr hlk hq  (C1 := zKt (fun t => zLp (fX12_proves_19 S v1) n t = some z) (fun a => a = z)) (fun v2 v3 ht H locs hP hS ls hl => ih v2 v3 ht H locs hP hS ls hl) (fun a ha => ha) h hk hP hS hl
def fX12_proves (S : zSt) (v1 : Int32) : Option (Int32 × zSt) :=
  zLt (zI S 0 0 (0 : Int32)) (fun S1 => zBd (fX12_isAct S1 v1) (fun r3 => zBr (r3 = 0) (some ((-1 : Int32), S1)) (zLp (fX12_proves_19 S1 v1) 2000 ((-1 : Int32), (0 : Int32)))))
set_option maxHeartbeats 4000000 in
set_option maxRecDepth 100000 in
theorem mX12_proves {l : Launch} {D : va_G} {cy : Nat → ClassId} {q : Nat → Nat} {A : Nat → Prop} {S : zSt} {v1 : Int32} (hq : zQ A q zNM) {z : (Int32 × zSt)} (h : fX12_proves S v1 = some z) : zMq l yX12_proves cX12_proves 7 (some .int) rmX12_proves [.ref (q 0), .int v1] zshM zNM D cy q A S z := by
  refine Met.ofW (cc := cX12_proves) (maxL := 7) (ret := (some .int)) (by decide) rfl ?_
  intro p e s m args below meth c s₁ B hml hv
  obtain ⟨rfl, hP, hK⟩ := hv
  have cx : zX RX12 cX12_proves 7 p s m ([.ref (q 0), .int v1]).toArray c D cy := ⟨B.exec, B.bytes, hml, findClass_of_methodNamed B.named, fun w hw => atoms_spec (ws := Cond.code yX12_proves cX12_proves 7 (some .int) :: zTB) B.pre w (List.mem_cons_of_mem _ hw), hK⟩
  have hx := cx.1
  have hb := cx.2.1
  have hr := B.returns
  have hlk := B.notSynchronized
  have hS : va_S A s.heap s.heap [] := va_S.rf
  have hl := lv_entry ([.ref (q 0), .int v1]) (n := 7) (Nat.le_of_ble_eq_true rfl)
  rw [lg_entry_eq]
  generalize (lg_sl ([.ref (q 0), .int v1]) ++ List.replicate (7 - (lg_sl ([.ref (q 0), .int v1])).length) Slot.unset).toArray = ls at hl ⊢
  have hl : lv_has ls 7 [(0, .ref (q 0)), (1, .int v1)] := hl
  unfold fX12_proves at h
  refine lv_aload_n (pc := 0) hx hb dX12_proves_0 rfl (lv_at hl 0 rfl) ?_
  refine lv_iconst (pc := 1) hx hb dX12_proves_1 zc_0 ?_
  obtain ⟨S1, eS1, h⟩ := zLt_e h
  refine zr_putI (pc := 2) cx lq_X12_1 hq hP hS nM_0 sM_0 rfl rfl rfl dX12_proves_2 (fun H locs hP hS => ?_)
  rw [← eS1] at hP
  refine lv_aload_n (pc := 5) hx hb dX12_proves_5 rfl (lv_at hl 0 rfl) ?_
  refine lv_iload_n (pc := 6) hx hb dX12_proves_6 rfl (lv_at hl 1 rfl) ?_
  obtain ⟨r3, k2, h⟩ := zBd_e h
  refine zr_VI (pc := 7) (rest := []) cx cv_X12_256 (mX12_isAct k2) ⟨⟨rfl, rfl⟩, Nat.le_of_ble_eq_true rfl, Nat.le_of_ble_eq_true rfl⟩ ⟨Nat.le_of_ble_eq_true rfl, Nat.le_of_ble_eq_true rfl⟩ hP nM_0 sM_0 rfl hl.1 rfl rfl (Nat.le_of_ble_eq_true rfl) dX12_proves_7 ?_
  refine lv_if_ne (pc := 10) (tgt := 15) hx hb dX12_proves_10 (by decide) (fun c4 => ?_) (fun c4 => ?_)
  · replace h := zBr_f c4 h
    refine lv_iconst (pc := 15) hx hb dX12_proves_15 zc_m1 ?_
    refine lv_istore_n (lv' := [(2, .int (-1 : Int32)), (0, .ref (q 0)), (1, .int v1)]) (pc := 16) hx hb dX12_proves_16 rfl hl (by decide) rfl (fun ls hl => ?_)
    refine lv_iconst (pc := 17) hx hb dX12_proves_17 zc_0 ?_
    refine lv_istore_n (lv' := [(3, .int (0 : Int32)), (2, .int (-1 : Int32)), (0, .ref (q 0)), (1, .int v1)]) (pc := 18) hx hb dX12_proves_18 rfl hl (by decide) rfl (fun ls hl => ?_)
    exact kX12_proves_19 cx hr hlk hq 2000 _ _ h _ _ hP hS _ (lv_sub hl [2, 3, 1, 0] rfl)
  · replace h := zBr_t c4 h
    refine lv_iconst (pc := 13) hx hb dX12_proves_13 zc_m1 ?_
    have hz := Option.some.inj h
    exact zr_rqI (pc := 14) cx hr hlk hP hS hz dX12_proves_14
-- X12_saysOne
abbrev rmX12_saysOne : Room := { frames := 0, cells := 0, slots := 0, locals := 0 }
def fX12_saysOne (S : zSt) (v1 : Int32) (v2 : Int32) (v3 : Int32) (v4 : Int32) : Option (Int32 × zSt) :=
  zLt ((4 : Int32) * (S.1 0 41)) (fun x1 => zGd (zIx x1 240) (zLt (zI S 18 x1.toNatClampNeg v1) (fun S3 => zGd (zIx (x1 + (1 : Int32)) 240) (zLt (zI S3 18 (x1 + (1 : Int32)).toNatClampNeg v2) (fun S5 => zGd (zIx (x1 + (2 : Int32)) 240) (zLt (zI S5 18 (x1 + (2 : Int32)).toNatClampNeg v3) (fun S7 => zGd (zIx (x1 + (3 : Int32)) 240) (zLt (zI S7 18 (x1 + (3 : Int32)).toNatClampNeg v4) (fun S9 => zLt (zI S9 0 41 ((S9.1 0 41) + (1 : Int32))) (fun S10 => some (((S10.1 0 41) - (1 : Int32)), S10)))))))))))
set_option maxHeartbeats 4000000 in
set_option maxRecDepth 100000 in
theorem mX12_saysOne {l : Launch} {D : va_G} {cy : Nat → ClassId} {q : Nat → Nat} {A : Nat → Prop} {S : zSt} {v1 : Int32} {v2 : Int32} {v3 : Int32} {v4 : Int32} (hq : zQ A q zNM) {z : (Int32 × zSt)} (h : fX12_saysOne S v1 v2 v3 v4 = some z) : zMq l yX12_saysOne cX12_saysOne 6 (some .int) rmX12_saysOne [.ref (q 0), .int v1, .int v2, .int v3, .int v4] zshM zNM D cy q A S z := by
  refine Met.ofW (cc := cX12_saysOne) (maxL := 6) (ret := (some .int)) (by decide) rfl ?_
  intro p e s m args below meth c s₁ B hml hv
  obtain ⟨rfl, hP, hK⟩ := hv
  have cx : zX RX12 cX12_saysOne 6 p s m ([.ref (q 0), .int v1, .int v2, .int v3, .int v4]).toArray c D cy := ⟨B.exec, B.bytes, hml, findClass_of_methodNamed B.named, fun w hw => atoms_spec (ws := Cond.code yX12_saysOne cX12_saysOne 6 (some .int) :: zTB) B.pre w (List.mem_cons_of_mem _ hw), hK⟩
  have hx := cx.1
  have hb := cx.2.1
  have hr := B.returns
  have hlk := B.notSynchronized
  have hS : va_S A s.heap s.heap [] := va_S.rf
  have hl := lv_entry ([.ref (q 0), .int v1, .int v2, .int v3, .int v4]) (n := 6) (Nat.le_of_ble_eq_true rfl)
  rw [lg_entry_eq]
  generalize (lg_sl ([.ref (q 0), .int v1, .int v2, .int v3, .int v4]) ++ List.replicate (6 - (lg_sl ([.ref (q 0), .int v1, .int v2, .int v3, .int v4])).length) Slot.unset).toArray = ls at hl ⊢
  have hl : lv_has ls 6 [(0, .ref (q 0)), (1, .int v1), (2, .int v2), (3, .int v3), (4, .int v4)] := hl
  unfold fX12_saysOne at h
  refine lv_iconst (pc := 0) hx hb dX12_saysOne_0 zc_4 ?_
  refine lv_aload_n (pc := 1) hx hb dX12_saysOne_1 rfl (lv_at hl 0 rfl) ?_
  refine zr_getI (pc := 2) cx lk_X12_403 hP nM_0 sM_0 rfl dX12_saysOne_2 ?_
  refine lv_imul (pc := 5) hx hb dX12_saysOne_5 ?_
  obtain ⟨x1, ex1, h⟩ := zLt_e h
  refine zr_nmI ex1 ?_
  refine lv_istore (lv' := [(5, .int x1), (0, .ref (q 0)), (1, .int v1), (2, .int v2), (3, .int v3), (4, .int v4)]) (pc := 6) hx hb dX12_saysOne_6 hl (by decide) rfl (fun ls hl => ?_)
  refine lv_aload_n (pc := 8) hx hb dX12_saysOne_8 rfl (lv_at hl 1 rfl) ?_
  refine zr_getR (pc := 9) (t := 18) cx lk_X12_154 hP nM_0 sM_0 rfl dX12_saysOne_9 ?_
  refine lv_iload (pc := 12) hx hb dX12_saysOne_12 (lv_at hl 0 rfl) ?_
  refine lv_iload_n (pc := 14) hx hb dX12_saysOne_14 rfl (lv_at hl 2 rfl) ?_
  obtain ⟨g2, h⟩ := zGd_e h
  obtain ⟨S3, eS3, h⟩ := zLt_e h
  refine zr_iast (pc := 15) cx hq hP hS nM_18 sM_18 g2 dX12_saysOne_15 (fun H locs hP hS => ?_)
  rw [← eS3] at hP
  refine lv_aload_n (pc := 16) hx hb dX12_saysOne_16 rfl (lv_at hl 1 rfl) ?_
  refine zr_getR (pc := 17) (t := 18) cx lk_X12_154 hP nM_0 sM_0 rfl dX12_saysOne_17 ?_
  refine lv_iload (pc := 20) hx hb dX12_saysOne_20 (lv_at hl 0 rfl) ?_
  refine lv_iconst (pc := 22) hx hb dX12_saysOne_22 zc_1 ?_
  refine lv_iadd (pc := 23) hx hb dX12_saysOne_23 ?_
  refine lv_iload_n (pc := 24) hx hb dX12_saysOne_24 rfl (lv_at hl 3 rfl) ?_
  obtain ⟨g4, h⟩ := zGd_e h
  obtain ⟨S5, eS5, h⟩ := zLt_e h
  refine zr_iast (pc := 25) cx hq hP hS nM_18 sM_18 g4 dX12_saysOne_25 (fun H locs hP hS => ?_)
  rw [← eS5] at hP
  refine lv_aload_n (pc := 26) hx hb dX12_saysOne_26 rfl (lv_at hl 1 rfl) ?_
  refine zr_getR (pc := 27) (t := 18) cx lk_X12_154 hP nM_0 sM_0 rfl dX12_saysOne_27 ?_
  refine lv_iload (pc := 30) hx hb dX12_saysOne_30 (lv_at hl 0 rfl) ?_
  refine lv_iconst (pc := 32) hx hb dX12_saysOne_32 zc_2 ?_
  refine lv_iadd (pc := 33) hx hb dX12_saysOne_33 ?_
  refine lv_iload_n (pc := 34) hx hb dX12_saysOne_34 rfl (lv_at hl 4 rfl) ?_
  obtain ⟨g6, h⟩ := zGd_e h
  obtain ⟨S7, eS7, h⟩ := zLt_e h
  refine zr_iast (pc := 35) cx hq hP hS nM_18 sM_18 g6 dX12_saysOne_35 (fun H locs hP hS => ?_)
  rw [← eS7] at hP
  refine lv_aload_n (pc := 36) hx hb dX12_saysOne_36 rfl (lv_at hl 1 rfl) ?_
  refine zr_getR (pc := 37) (t := 18) cx lk_X12_154 hP nM_0 sM_0 rfl dX12_saysOne_37 ?_
  refine lv_iload (pc := 40) hx hb dX12_saysOne_40 (lv_at hl 0 rfl) ?_
  refine lv_iconst (pc := 42) hx hb dX12_saysOne_42 zc_3 ?_
  refine lv_iadd (pc := 43) hx hb dX12_saysOne_43 ?_
  refine lv_iload (pc := 44) hx hb dX12_saysOne_44 (lv_at hl 5 rfl) ?_
  obtain ⟨g8, h⟩ := zGd_e h
  obtain ⟨S9, eS9, h⟩ := zLt_e h
  refine zr_iast (pc := 46) cx hq hP hS nM_18 sM_18 g8 dX12_saysOne_46 (fun H locs hP hS => ?_)
  rw [← eS9] at hP
  refine lv_aload_n (pc := 47) hx hb dX12_saysOne_47 rfl (lv_at hl 1 rfl) ?_
  refine lv_dup (pc := 48) hx hb dX12_saysOne_48 rfl ?_
  refine zr_getI (pc := 49) cx lk_X12_403 hP nM_0 sM_0 rfl dX12_saysOne_49 ?_
  refine lv_iconst (pc := 52) hx hb dX12_saysOne_52 zc_1 ?_
  refine lv_iadd (pc := 53) hx hb dX12_saysOne_53 ?_
  obtain ⟨S10, eS10, h⟩ := zLt_e h
  refine zr_putI (pc := 54) cx lq_X12_403 hq hP hS nM_0 sM_0 rfl rfl rfl dX12_saysOne_54 (fun H locs hP hS => ?_)
  rw [← eS10] at hP
  refine lv_aload_n (pc := 57) hx hb dX12_saysOne_57 rfl (lv_at hl 1 rfl) ?_
  refine zr_getI (pc := 58) cx lk_X12_403 hP nM_0 sM_0 rfl dX12_saysOne_58 ?_
  refine lv_iconst (pc := 61) hx hb dX12_saysOne_61 zc_1 ?_
  refine lv_isub (pc := 62) hx hb dX12_saysOne_62 ?_
  have hz := Option.some.inj h
  exact zr_rqI (pc := 63) cx hr hlk hP hS hz dX12_saysOne_63
-- X12_readCompare
abbrev rmX12_readCompare : Room := { frames := 3, cells := 0, slots := 0, locals := 67 }
def fX12_readCompare_33 (S : zSt)  (v1 : Int32) : Option (Int32 × zSt) :=
  zLt (S.1 0 9) (fun x4 => zBd (fX12_go S) (fun S6 => zBp (fX12_readNumber S6 (0 : Int32) (999 : Int32)) (fun r9 S8 => zBr (r9 = 0) (some ((0 : Int32), S8)) (zBp (fX12_saysOne S8 ((50 : Int32) + v1) (0 : Int32) (S8.1 0 13) x4) (fun r13 S12 => zLt (zI S12 0 44 r13) (fun S14 => some ((1 : Int32), S14)))))))
set_option maxHeartbeats 4000000 in
set_option maxRecDepth 100000 in
theorem kX12_readCompare_33 {p : Program} {l : Launch} {e : Env} {s : State} {m : MethodId} {args : Array Value} {below : List Frame} {meth : Method} {c : Code} {D : va_G} {cy : Nat → ClassId} {q : Nat → Nat} {A : Nat → Prop} (cx : zX RX12 cX12_readCompare 3 p s m args c D cy) (hr : meth.sig.returnType = (some .boolean)) (hlk : meth.locks = false) (hq : zQ A q zNM) {z : (Int32 × zSt)} {S : zSt} {v1 : Int32} (h : fX12_readCompare_33 S v1 = some z) {H : Heap} {locs : List Loc} (hP : va_P D vwCl (zW zshM zNM cy q S) H) (hS : va_S A s.heap H locs) {ls : Array Slot} (hl : lv_has ls 3 [(0, .ref (q 0)), (1, .int v1)]) : W p l e rmX12_readCompare s m args below meth c H locs 0 0 (MQ below (va_Qi (fun (r : Int32) (u : zSt) => (r, u) = z) (fun u t => va_P D vwCl (zW zshM zNM cy q u) t.heap) A) args s 0 0 A) (F0 m 33 ls []) := by
  have hx := cx.1
  have hb := cx.2.1
  unfold fX12_readCompare_33 at h
  refine lv_aload_n (pc := 33) hx hb dX12_readCompare_33 rfl (lv_at hl 0 rfl) ?_
  refine zr_getI (pc := 34) cx lk_X12_40 hP nM_0 sM_0 rfl dX12_readCompare_34 ?_
  obtain ⟨x4, ex4, h⟩ := zLt_e h
  refine zr_nmI ex4 ?_
  refine lv_istore_n (lv' := [(2, .int x4), (0, .ref (q 0)), (1, .int v1)]) (pc := 37) hx hb dX12_readCompare_37 rfl hl (by decide) rfl (fun ls hl => ?_)
  refine lv_aload_n (pc := 38) hx hb dX12_readCompare_38 rfl (lv_at hl 1 rfl) ?_
  obtain ⟨S6, k5, h⟩ := zBd_e h
  refine zr_VV (pc := 39) (rest := []) cx cv_X12_82 (mX12_go hq k5) ⟨⟨rfl, rfl⟩, Nat.le_of_ble_eq_true rfl, Nat.le_of_ble_eq_true rfl⟩ ⟨Nat.le_of_ble_eq_true rfl, Nat.le_of_ble_eq_true rfl⟩ hP hS nM_0 sM_0 rfl hl.1 rfl rfl (Nat.le_of_ble_eq_true rfl) dX12_readCompare_39 (fun H locs hP hS => ?_)
  refine lv_aload_n (pc := 42) hx hb dX12_readCompare_42 rfl (lv_at hl 1 rfl) ?_
  refine lv_iconst (pc := 43) hx hb dX12_readCompare_43 zc_0 ?_
  refine lv_sipush (pc := 44) hx hb dX12_readCompare_44 zs_999 ?_
  obtain ⟨r9, S8, k7, h⟩ := zBp_e h
  refine zr_VQ (pc := 47) (rest := []) cx cv_X12_188 (mX12_readNumber hq k7) ⟨⟨rfl, rfl⟩, Nat.le_of_ble_eq_true rfl, Nat.le_of_ble_eq_true rfl⟩ ⟨Nat.le_of_ble_eq_true rfl, Nat.le_of_ble_eq_true rfl⟩ hP hS nM_0 sM_0 rfl hl.1 rfl rfl (Nat.le_of_ble_eq_true rfl) dX12_readCompare_47 (fun H locs hP hS => ?_)
  refine lv_if_ne (pc := 50) (tgt := 55) hx hb dX12_readCompare_50 (by decide) (fun c10 => ?_) (fun c10 => ?_)
  · replace h := zBr_f c10 h
    refine lv_aload_n (pc := 55) hx hb dX12_readCompare_55 rfl (lv_at hl 1 rfl) ?_
    refine lv_aload_n (pc := 56) hx hb dX12_readCompare_56 rfl (lv_at hl 1 rfl) ?_
    refine lv_bipush (pc := 57) hx hb dX12_readCompare_57 zb_50 ?_
    refine lv_iload_n (pc := 59) hx hb dX12_readCompare_59 rfl (lv_at hl 2 rfl) ?_
    refine lv_iadd (pc := 60) hx hb dX12_readCompare_60 ?_
    refine lv_iconst (pc := 61) hx hb dX12_readCompare_61 zc_0 ?_
    refine lv_aload_n (pc := 62) hx hb dX12_readCompare_62 rfl (lv_at hl 1 rfl) ?_
    refine zr_getI (pc := 63) cx lk_X12_79 hP nM_0 sM_0 rfl dX12_readCompare_63 ?_
    refine lv_iload_n (pc := 66) hx hb dX12_readCompare_66 rfl (lv_at hl 0 rfl) ?_
    obtain ⟨r13, S12, k11, h⟩ := zBp_e h
    refine zr_VQ (pc := 67) (rest := [.ref (q 0)]) cx cv_X12_412 (mX12_saysOne hq k11) ⟨⟨rfl, rfl⟩, Nat.le_of_ble_eq_true rfl, Nat.le_of_ble_eq_true rfl⟩ ⟨Nat.le_of_ble_eq_true rfl, Nat.le_of_ble_eq_true rfl⟩ hP hS nM_0 sM_0 rfl hl.1 rfl rfl (Nat.le_of_ble_eq_true rfl) dX12_readCompare_67 (fun H locs hP hS => ?_)
    obtain ⟨S14, eS14, h⟩ := zLt_e h
    refine zr_putI (pc := 70) cx lq_X12_409 hq hP hS nM_0 sM_0 rfl rfl rfl dX12_readCompare_70 (fun H locs hP hS => ?_)
    rw [← eS14] at hP
    refine lv_iconst (pc := 73) hx hb dX12_readCompare_73 zc_1 ?_
    have hz := Option.some.inj h
    exact zr_rqZ (pc := 74) cx hr hlk hP hS hz (by decide) dX12_readCompare_74
  · replace h := zBr_t c10 h
    refine lv_iconst (pc := 53) hx hb dX12_readCompare_53 zc_0 ?_
    have hz := Option.some.inj h
    exact zr_rqZ (pc := 54) cx hr hlk hP hS hz (by decide) dX12_readCompare_54
def fX12_readCompare (S : zSt) (v1 : Int32) : Option (Int32 × zSt) :=
  zBd (fX12_isSign S (60 : Int32)) (fun r2 => zBr (r2 = 0) (zBd (fX12_isSign S (61 : Int32)) (fun r16 => zBr (r16 = 0) (zBd (fX12_isSign S (62 : Int32)) (fun r19 => zBr (r19 = 0) (zBp (fX12_bad S (1 : Int32)) (fun r23 S22 => zGd (zBo r23) (some (r23, S22)))) (fX12_readCompare_33 S v1))) (fX12_readCompare_33 S v1))) (fX12_readCompare_33 S v1))
set_option maxHeartbeats 4000000 in
set_option maxRecDepth 100000 in
theorem mX12_readCompare {l : Launch} {D : va_G} {cy : Nat → ClassId} {q : Nat → Nat} {A : Nat → Prop} {S : zSt} {v1 : Int32} (hq : zQ A q zNM) {z : (Int32 × zSt)} (h : fX12_readCompare S v1 = some z) : zMq l yX12_readCompare cX12_readCompare 3 (some .boolean) rmX12_readCompare [.ref (q 0), .int v1] zshM zNM D cy q A S z := by
  refine Met.ofW (cc := cX12_readCompare) (maxL := 3) (ret := (some .boolean)) (by decide) rfl ?_
  intro p e s m args below meth c s₁ B hml hv
  obtain ⟨rfl, hP, hK⟩ := hv
  have cx : zX RX12 cX12_readCompare 3 p s m ([.ref (q 0), .int v1]).toArray c D cy := ⟨B.exec, B.bytes, hml, findClass_of_methodNamed B.named, fun w hw => atoms_spec (ws := Cond.code yX12_readCompare cX12_readCompare 3 (some .boolean) :: zTB) B.pre w (List.mem_cons_of_mem _ hw), hK⟩
  have hx := cx.1
  have hb := cx.2.1
  have hr := B.returns
  have hlk := B.notSynchronized
  have hS : va_S A s.heap s.heap [] := va_S.rf
  have hl := lv_entry ([.ref (q 0), .int v1]) (n := 3) (Nat.le_of_ble_eq_true rfl)
  rw [lg_entry_eq]
  generalize (lg_sl ([.ref (q 0), .int v1]) ++ List.replicate (3 - (lg_sl ([.ref (q 0), .int v1])).length) Slot.unset).toArray = ls at hl ⊢
  have hl : lv_has ls 3 [(0, .ref (q 0)), (1, .int v1)] := hl
  unfold fX12_readCompare at h
  refine lv_aload_n (pc := 0) hx hb dX12_readCompare_0 rfl (lv_at hl 0 rfl) ?_
  refine lv_bipush (pc := 1) hx hb dX12_readCompare_1 zb_60 ?_
  obtain ⟨r2, k1, h⟩ := zBd_e h
  refine zr_VI (pc := 3) (rest := []) cx cv_X12_86 (mX12_isSign k1) ⟨⟨rfl, rfl⟩, Nat.le_of_ble_eq_true rfl, Nat.le_of_ble_eq_true rfl⟩ ⟨Nat.le_of_ble_eq_true rfl, Nat.le_of_ble_eq_true rfl⟩ hP nM_0 sM_0 rfl hl.1 rfl rfl (Nat.le_of_ble_eq_true rfl) dX12_readCompare_3 ?_
  refine lv_if_ne (pc := 6) (tgt := 33) hx hb dX12_readCompare_6 (by decide) (fun c3 => ?_) (fun c3 => ?_)
  · replace h := zBr_f c3 h
    exact kX12_readCompare_33 cx hr hlk hq h hP hS (lv_sub hl [0, 1] rfl)
  · replace h := zBr_t c3 h
    refine lv_aload_n (pc := 9) hx hb dX12_readCompare_9 rfl (lv_at hl 0 rfl) ?_
    refine lv_bipush (pc := 10) hx hb dX12_readCompare_10 zb_61 ?_
    obtain ⟨r16, k15, h⟩ := zBd_e h
    refine zr_VI (pc := 12) (rest := []) cx cv_X12_86 (mX12_isSign k15) ⟨⟨rfl, rfl⟩, Nat.le_of_ble_eq_true rfl, Nat.le_of_ble_eq_true rfl⟩ ⟨Nat.le_of_ble_eq_true rfl, Nat.le_of_ble_eq_true rfl⟩ hP nM_0 sM_0 rfl hl.1 rfl rfl (Nat.le_of_ble_eq_true rfl) dX12_readCompare_12 ?_
    refine lv_if_ne (pc := 15) (tgt := 33) hx hb dX12_readCompare_15 (by decide) (fun c17 => ?_) (fun c17 => ?_)
    · replace h := zBr_f c17 h
      exact kX12_readCompare_33 cx hr hlk hq h hP hS (lv_sub hl [0, 1] rfl)
    · replace h := zBr_t c17 h
      refine lv_aload_n (pc := 18) hx hb dX12_readCompare_18 rfl (lv_at hl 0 rfl) ?_
      refine lv_bipush (pc := 19) hx hb dX12_readCompare_19 zb_62 ?_
      obtain ⟨r19, k18, h⟩ := zBd_e h
      refine zr_VI (pc := 21) (rest := []) cx cv_X12_86 (mX12_isSign k18) ⟨⟨rfl, rfl⟩, Nat.le_of_ble_eq_true rfl, Nat.le_of_ble_eq_true rfl⟩ ⟨Nat.le_of_ble_eq_true rfl, Nat.le_of_ble_eq_true rfl⟩ hP nM_0 sM_0 rfl hl.1 rfl rfl (Nat.le_of_ble_eq_true rfl) dX12_readCompare_21 ?_
      refine lv_if_ne (pc := 24) (tgt := 33) hx hb dX12_readCompare_24 (by decide) (fun c20 => ?_) (fun c20 => ?_)
      · replace h := zBr_f c20 h
        exact kX12_readCompare_33 cx hr hlk hq h hP hS (lv_sub hl [0, 1] rfl)
      · replace h := zBr_t c20 h
        refine lv_aload_n (pc := 27) hx hb dX12_readCompare_27 rfl (lv_at hl 0 rfl) ?_
        refine lv_iconst (pc := 28) hx hb dX12_readCompare_28 zc_1 ?_
        obtain ⟨r23, S22, k21, h⟩ := zBp_e h
        refine zr_VQ (pc := 29) (rest := []) cx cv_X12_72 (mX12_bad hq k21) ⟨⟨rfl, rfl⟩, Nat.le_of_ble_eq_true rfl, Nat.le_of_ble_eq_true rfl⟩ ⟨Nat.le_of_ble_eq_true rfl, Nat.le_of_ble_eq_true rfl⟩ hP hS nM_0 sM_0 rfl hl.1 rfl rfl (Nat.le_of_ble_eq_true rfl) dX12_readCompare_29 (fun H locs hP hS => ?_)
        obtain ⟨g24, h⟩ := zGd_e h
        have hz := Option.some.inj h
        exact zr_rqZ (pc := 32) cx hr hlk hP hS hz g24 dX12_readCompare_32
