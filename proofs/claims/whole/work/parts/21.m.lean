theorem wd_1513 : (Jvm.Cond.fieldLink "ParlourLeavesModel" (139 : Nat) "ParlourLeavesModel" "walk" "[I") ∈ zTB := List.mem_filter.mpr ⟨List.mem_append_right _ (List.mem_append_right _ (List.mem_append_right _ (List.mem_append_right _ (List.mem_append_right _ (List.mem_append_right _ (List.mem_append_right _ (List.mem_append_left _ (List.mem_of_getElem? (i := 73) rfl)))))))), rfl⟩
theorem wd_1514 : (Jvm.Cond.fieldLink "ParlourLeavesModel" (317 : Nat) "ParlourLeavesModel" "walkMany" "I") ∈ zTB := List.mem_filter.mpr ⟨List.mem_append_right _ (List.mem_append_right _ (List.mem_append_right _ (List.mem_append_right _ (List.mem_append_right _ (List.mem_append_right _ (List.mem_append_right _ (List.mem_append_left _ (List.mem_of_getElem? (i := 74) rfl)))))))), rfl⟩
theorem wd_1922 : (Jvm.Cond.methodLink "ParlourLeavesModel" (314 : Nat) ({ cls := "ParlourLeavesModel", name := "laySteps", desc := "()V" } : Jvm.MethodName)) ∈ zTB := List.mem_filter.mpr ⟨List.mem_append_right _ (List.mem_append_right _ (List.mem_append_right _ (List.mem_append_right _ (List.mem_append_right _ (List.mem_append_right _ (List.mem_append_right _ (List.mem_append_right _ (List.mem_append_right _ (List.mem_of_getElem? (i := 2) rfl))))))))), rfl⟩
theorem wd_1924 : (Jvm.Cond.instanceMethod ({ cls := "ParlourLeavesModel", name := "laySteps", desc := "()V" } : Jvm.MethodName)) ∈ zTB := List.mem_filter.mpr ⟨List.mem_append_right _ (List.mem_append_right _ (List.mem_append_right _ (List.mem_append_right _ (List.mem_append_right _ (List.mem_append_right _ (List.mem_append_right _ (List.mem_append_right _ (List.mem_append_right _ (List.mem_of_getElem? (i := 4) rfl))))))))), rfl⟩
theorem wd_1925 : (Jvm.Cond.code ({ cls := "ParlourLeavesModel", name := "laySteps", desc := "()V" } : Jvm.MethodName) prog_14_method_85_code (6 : Nat) (Option.none : Option Jvm.ClassFile.FieldType)) ∈ zTB := List.mem_filter.mpr ⟨List.mem_append_right _ (List.mem_append_right _ (List.mem_append_right _ (List.mem_append_right _ (List.mem_append_right _ (List.mem_append_right _ (List.mem_append_right _ (List.mem_append_right _ (List.mem_append_right _ (List.mem_of_getElem? (i := 5) rfl))))))))), rfl⟩
theorem wp_5_14 : Cond.selects "ParlourLeavesModel" (⟨"ParlourLeavesModel", "laySteps", "()V"⟩ : MethodName) (⟨"ParlourLeavesModel", "laySteps", "()V"⟩ : MethodName) ∈ zTB := List.mem_filter.mpr ⟨List.mem_append_left _ (List.mem_map.mpr ⟨((⟨"ParlourLeavesModel", "laySteps", "()V"⟩ : MethodName), 45), (List.mem_append_right _ (List.mem_append_right _ (List.mem_append_right _ (List.mem_append_right _ (List.mem_append_left _ (List.mem_of_getElem? (i := 14) rfl)))))), rfl⟩), rfl⟩
theorem zb_18 : (Int8.ofInt (18)).toInt32 = (18 : Int32) := by decide
theorem dn_X12_laySteps : zDn yX12_laySteps 0 := ⟨by decide, by decide, by decide +kernel⟩
theorem cv_X12_314 : zCV RX12 RX12 314 yX12_laySteps cX12_laySteps 6 none 0 := ⟨rfl, dn_X12_laySteps, wd_1922, wd_1924, wp_5_14, wd_19, wd_1925⟩
theorem lq_X12_317 : zLq RX12 317 13 29 .int := ⟨"ParlourLeavesModel", RX12, TX12, 45, tyX12, rfl, by decide, wsin_X12, wd_1514, rfl, rfl, by decide +kernel, tyX12_ok, nmX12⟩
theorem lk_X12_139 : zLk RX12 139 13 28 := ⟨"ParlourLeavesModel", RX12, TX12, 45, rfl, by decide, wsin_X12, wd_1513, rfl⟩
theorem lk_X12_317 : zLk RX12 317 13 29 := ⟨"ParlourLeavesModel", RX12, TX12, 45, rfl, by decide, wsin_X12, wd_1514, rfl⟩
theorem lk_X12_1 : zLk RX12 1 13 0 := ⟨"ParlourLeavesModel", RX12, TX12, 45, rfl, by decide, wsin_X12, wd_1485, rfl⟩
theorem lk_X12_396 : zLk RX12 396 13 39 := ⟨"ParlourLeavesModel", RX12, TX12, 45, rfl, by decide, wsin_X12, wd_1524, rfl⟩
theorem lq_X12_334 : zLq RX12 334 13 34 .int := ⟨"ParlourLeavesModel", RX12, TX12, 45, tyX12, rfl, by decide, wsin_X12, wd_1519, rfl, rfl, by decide +kernel, tyX12_ok, nmX12⟩
theorem dX12_readOf_0 : decode cX12_readOf 0 = .ok (.aload_n 0, 1) := by decide +kernel
theorem dX12_readOf_1 : decode cX12_readOf 1 = .ok (.iload_n 1, 1) := by decide +kernel
theorem dX12_readOf_2 : decode cX12_readOf 2 = .ok (.bipush 18, 2) := by decide +kernel
theorem dX12_readOf_4 : decode cX12_readOf 4 = .ok (.if_icmp .ne 8, 3) := by decide +kernel
theorem dX12_readOf_7 : decode cX12_readOf 7 = .ok (.bipush 11, 2) := by decide +kernel
theorem dX12_readOf_9 : decode cX12_readOf 9 = .ok (.goto 4, 3) := by decide +kernel
theorem dX12_readOf_12 : decode cX12_readOf 12 = .ok (.iconst 0, 1) := by decide +kernel
theorem dX12_readOf_13 : decode cX12_readOf 13 = .ok (.aload_n 0, 1) := by decide +kernel
theorem dX12_readOf_14 : decode cX12_readOf 14 = .ok (.getfield 98, 3) := by decide +kernel
theorem dX12_readOf_17 : decode cX12_readOf 17 = .ok (.iload_n 1, 1) := by decide +kernel
theorem dX12_readOf_18 : decode cX12_readOf 18 = .ok (.bipush 18, 2) := by decide +kernel
theorem dX12_readOf_20 : decode cX12_readOf 20 = .ok (.if_icmp .ne 7, 3) := by decide +kernel
theorem dX12_readOf_23 : decode cX12_readOf 23 = .ok (.iconst 2, 1) := by decide +kernel
theorem dX12_readOf_24 : decode cX12_readOf 24 = .ok (.goto 4, 3) := by decide +kernel
theorem dX12_readOf_27 : decode cX12_readOf 27 = .ok (.iconst 0, 1) := by decide +kernel
theorem dX12_readOf_28 : decode cX12_readOf 28 = .ok (.iaload, 1) := by decide +kernel
theorem dX12_readOf_29 : decode cX12_readOf 29 = .ok (.invokevirtual 372, 3) := by decide +kernel
theorem dX12_readOf_32 : decode cX12_readOf 32 = .ok (.ifCond .ne 5, 3) := by decide +kernel
theorem dX12_readOf_35 : decode cX12_readOf 35 = .ok (.iconst 0, 1) := by decide +kernel
theorem dX12_readOf_36 : decode cX12_readOf 36 = .ok (.ireturn, 1) := by decide +kernel
theorem dX12_readOf_37 : decode cX12_readOf 37 = .ok (.aload_n 0, 1) := by decide +kernel
theorem dX12_readOf_38 : decode cX12_readOf 38 = .ok (.aload_n 0, 1) := by decide +kernel
theorem dX12_readOf_39 : decode cX12_readOf 39 = .ok (.bipush 50, 2) := by decide +kernel
theorem dX12_readOf_41 : decode cX12_readOf 41 = .ok (.iload_n 1, 1) := by decide +kernel
theorem dX12_readOf_42 : decode cX12_readOf 42 = .ok (.iadd, 1) := by decide +kernel
theorem dX12_readOf_43 : decode cX12_readOf 43 = .ok (.aload_n 0, 1) := by decide +kernel
theorem dX12_readOf_44 : decode cX12_readOf 44 = .ok (.getfield 79, 3) := by decide +kernel
theorem dX12_readOf_47 : decode cX12_readOf 47 = .ok (.iconst 0, 1) := by decide +kernel
theorem dX12_readOf_48 : decode cX12_readOf 48 = .ok (.iconst 0, 1) := by decide +kernel
theorem dX12_readOf_49 : decode cX12_readOf 49 = .ok (.invokevirtual 412, 3) := by decide +kernel
theorem dX12_readOf_52 : decode cX12_readOf 52 = .ok (.putfield 409, 3) := by decide +kernel
theorem dX12_readOf_55 : decode cX12_readOf 55 = .ok (.iconst 1, 1) := by decide +kernel
theorem dX12_readOf_56 : decode cX12_readOf 56 = .ok (.ireturn, 1) := by decide +kernel
theorem dX12_restore_0 : decode cX12_restore 0 = .ok (.aload_n 0, 1) := by decide +kernel
theorem dX12_restore_1 : decode cX12_restore 1 = .ok (.iconst 0, 1) := by decide +kernel
theorem dX12_restore_2 : decode cX12_restore 2 = .ok (.putfield 1, 3) := by decide +kernel
theorem dX12_restore_5 : decode cX12_restore 5 = .ok (.iload_n 1, 1) := by decide +kernel
theorem dX12_restore_6 : decode cX12_restore 6 = .ok (.iconst 0, 1) := by decide +kernel
theorem dX12_restore_7 : decode cX12_restore 7 = .ok (.iconst 1, 1) := by decide +kernel
theorem dX12_restore_8 : decode cX12_restore 8 = .ok (.invokestatic 75, 3) := by decide +kernel
theorem dX12_restore_11 : decode cX12_restore 11 = .ok (.ifCond .eq 12, 3) := by decide +kernel
theorem dX12_restore_14 : decode cX12_restore 14 = .ok (.aload_n 0, 1) := by decide +kernel
theorem dX12_restore_15 : decode cX12_restore 15 = .ok (.getfield 123, 3) := by decide +kernel
theorem dX12_restore_18 : decode cX12_restore 18 = .ok (.iload_n 1, 1) := by decide +kernel
theorem dX12_restore_19 : decode cX12_restore 19 = .ok (.baload, 1) := by decide +kernel
theorem dX12_restore_20 : decode cX12_restore 20 = .ok (.ifCond .ne 5, 3) := by decide +kernel
theorem dX12_restore_23 : decode cX12_restore 23 = .ok (.iconst 0, 1) := by decide +kernel
theorem dX12_restore_24 : decode cX12_restore 24 = .ok (.ireturn, 1) := by decide +kernel
theorem dX12_restore_25 : decode cX12_restore 25 = .ok (.iconst 0, 1) := by decide +kernel
theorem dX12_restore_26 : decode cX12_restore 26 = .ok (.istore_n 2, 1) := by decide +kernel
theorem dX12_restore_27 : decode cX12_restore 27 = .ok (.iload_n 2, 1) := by decide +kernel
theorem dX12_restore_28 : decode cX12_restore 28 = .ok (.sipush 406, 3) := by decide +kernel
theorem dX12_restore_31 : decode cX12_restore 31 = .ok (.if_icmp .ge 27, 3) := by decide +kernel
theorem dX12_restore_34 : decode cX12_restore 34 = .ok (.aload_n 0, 1) := by decide +kernel
theorem dX12_restore_35 : decode cX12_restore 35 = .ok (.getfield 98, 3) := by decide +kernel
theorem dX12_restore_38 : decode cX12_restore 38 = .ok (.iload_n 2, 1) := by decide +kernel
theorem dX12_restore_39 : decode cX12_restore 39 = .ok (.aload_n 0, 1) := by decide +kernel
theorem dX12_restore_40 : decode cX12_restore 40 = .ok (.getfield 104, 3) := by decide +kernel
theorem dX12_restore_43 : decode cX12_restore 43 = .ok (.sipush 406, 3) := by decide +kernel
theorem dX12_restore_46 : decode cX12_restore 46 = .ok (.iload_n 1, 1) := by decide +kernel
theorem dX12_restore_47 : decode cX12_restore 47 = .ok (.imul, 1) := by decide +kernel
theorem dX12_restore_48 : decode cX12_restore 48 = .ok (.iload_n 2, 1) := by decide +kernel
theorem dX12_restore_49 : decode cX12_restore 49 = .ok (.iadd, 1) := by decide +kernel
theorem dX12_restore_50 : decode cX12_restore 50 = .ok (.iaload, 1) := by decide +kernel
theorem dX12_restore_51 : decode cX12_restore 51 = .ok (.iastore, 1) := by decide +kernel
theorem dX12_restore_52 : decode cX12_restore 52 = .ok (.iinc 2 1, 3) := by decide +kernel
theorem dX12_restore_55 : decode cX12_restore 55 = .ok (.goto (-28), 3) := by decide +kernel
theorem dX12_restore_58 : decode cX12_restore 58 = .ok (.iconst 0, 1) := by decide +kernel
theorem dX12_restore_59 : decode cX12_restore 59 = .ok (.istore_n 2, 1) := by decide +kernel
theorem dX12_restore_60 : decode cX12_restore 60 = .ok (.iload_n 2, 1) := by decide +kernel
theorem dX12_restore_61 : decode cX12_restore 61 = .ok (.bipush 20, 2) := by decide +kernel
theorem dX12_restore_63 : decode cX12_restore 63 = .ok (.if_icmp .ge 26, 3) := by decide +kernel
theorem dX12_restore_66 : decode cX12_restore 66 = .ok (.aload_n 0, 1) := by decide +kernel
theorem dX12_restore_67 : decode cX12_restore 67 = .ok (.getfield 113, 3) := by decide +kernel
theorem dX12_restore_70 : decode cX12_restore 70 = .ok (.iload_n 2, 1) := by decide +kernel
theorem dX12_restore_71 : decode cX12_restore 71 = .ok (.aload_n 0, 1) := by decide +kernel
theorem dX12_restore_72 : decode cX12_restore 72 = .ok (.getfield 120, 3) := by decide +kernel
theorem dX12_restore_75 : decode cX12_restore 75 = .ok (.bipush 20, 2) := by decide +kernel
theorem dX12_restore_77 : decode cX12_restore 77 = .ok (.iload_n 1, 1) := by decide +kernel
theorem dX12_restore_78 : decode cX12_restore 78 = .ok (.imul, 1) := by decide +kernel
theorem dX12_restore_79 : decode cX12_restore 79 = .ok (.iload_n 2, 1) := by decide +kernel
theorem dX12_restore_80 : decode cX12_restore 80 = .ok (.iadd, 1) := by decide +kernel
theorem dX12_restore_81 : decode cX12_restore 81 = .ok (.laload, 1) := by decide +kernel
theorem dX12_restore_82 : decode cX12_restore 82 = .ok (.lastore, 1) := by decide +kernel
theorem dX12_restore_83 : decode cX12_restore 83 = .ok (.iinc 2 1, 3) := by decide +kernel
theorem dX12_restore_86 : decode cX12_restore 86 = .ok (.goto (-26), 3) := by decide +kernel
theorem dX12_restore_89 : decode cX12_restore 89 = .ok (.aload_n 0, 1) := by decide +kernel
theorem dX12_restore_90 : decode cX12_restore 90 = .ok (.iconst 0, 1) := by decide +kernel
theorem dX12_restore_91 : decode cX12_restore 91 = .ok (.putfield 215, 3) := by decide +kernel
theorem dX12_restore_94 : decode cX12_restore 94 = .ok (.iconst 1, 1) := by decide +kernel
theorem dX12_restore_95 : decode cX12_restore 95 = .ok (.ireturn, 1) := by decide +kernel
theorem dX12_round_0 : decode cX12_round 0 = .ok (.aload_n 0, 1) := by decide +kernel
theorem dX12_round_1 : decode cX12_round 1 = .ok (.iconst 0, 1) := by decide +kernel
theorem dX12_round_2 : decode cX12_round 2 = .ok (.putfield 1, 3) := by decide +kernel
theorem dX12_round_5 : decode cX12_round 5 = .ok (.aload_n 0, 1) := by decide +kernel
theorem dX12_round_6 : decode cX12_round 6 = .ok (.iload_n 1, 1) := by decide +kernel
theorem dX12_round_7 : decode cX12_round 7 = .ok (.invokevirtual 259, 3) := by decide +kernel
theorem dX12_round_10 : decode cX12_round 10 = .ok (.ifCond .ne 5, 3) := by decide +kernel
theorem dX12_round_13 : decode cX12_round 13 = .ok (.iconst (-1), 1) := by decide +kernel
theorem dX12_round_14 : decode cX12_round 14 = .ok (.ireturn, 1) := by decide +kernel
theorem dX12_round_15 : decode cX12_round 15 = .ok (.iconst 0, 1) := by decide +kernel
theorem dX12_round_16 : decode cX12_round 16 = .ok (.istore_n 2, 1) := by decide +kernel
theorem dX12_round_17 : decode cX12_round 17 = .ok (.iconst 0, 1) := by decide +kernel
theorem dX12_round_18 : decode cX12_round 18 = .ok (.istore_n 3, 1) := by decide +kernel
theorem dX12_round_19 : decode cX12_round 19 = .ok (.iload_n 3, 1) := by decide +kernel
theorem dX12_round_20 : decode cX12_round 20 = .ok (.aload_n 0, 1) := by decide +kernel
theorem dX12_round_21 : decode cX12_round 21 = .ok (.getfield 98, 3) := by decide +kernel
theorem dX12_round_24 : decode cX12_round 24 = .ok (.iconst 1, 1) := by decide +kernel
theorem dX12_round_25 : decode cX12_round 25 = .ok (.iaload, 1) := by decide +kernel
theorem dX12_round_26 : decode cX12_round 26 = .ok (.if_icmp .ge 35, 3) := by decide +kernel
theorem dX12_round_29 : decode cX12_round 29 = .ok (.aload_n 0, 1) := by decide +kernel
theorem dX12_round_30 : decode cX12_round 30 = .ok (.getfield 98, 3) := by decide +kernel
theorem dX12_round_33 : decode cX12_round 33 = .ok (.bipush 32, 2) := by decide +kernel
theorem dX12_round_35 : decode cX12_round 35 = .ok (.iload_n 3, 1) := by decide +kernel
theorem dX12_round_36 : decode cX12_round 36 = .ok (.iadd, 1) := by decide +kernel
theorem dX12_round_37 : decode cX12_round 37 = .ok (.iaload, 1) := by decide +kernel
theorem dX12_round_38 : decode cX12_round 38 = .ok (.ifCond .le 17, 3) := by decide +kernel
theorem dX12_round_41 : decode cX12_round 41 = .ok (.iload_n 2, 1) := by decide +kernel
theorem dX12_round_42 : decode cX12_round 42 = .ok (.iconst 1, 1) := by decide +kernel
theorem dX12_round_43 : decode cX12_round 43 = .ok (.aload_n 0, 1) := by decide +kernel
theorem dX12_round_44 : decode cX12_round 44 = .ok (.getfield 98, 3) := by decide +kernel
theorem dX12_round_47 : decode cX12_round 47 = .ok (.bipush 26, 2) := by decide +kernel
theorem dX12_round_49 : decode cX12_round 49 = .ok (.iload_n 3, 1) := by decide +kernel
theorem dX12_round_50 : decode cX12_round 50 = .ok (.iadd, 1) := by decide +kernel
theorem dX12_round_51 : decode cX12_round 51 = .ok (.iaload, 1) := by decide +kernel
theorem dX12_round_52 : decode cX12_round 52 = .ok (.ishl, 1) := by decide +kernel
theorem dX12_round_53 : decode cX12_round 53 = .ok (.ior, 1) := by decide +kernel
theorem dX12_round_54 : decode cX12_round 54 = .ok (.istore_n 2, 1) := by decide +kernel
theorem dX12_round_55 : decode cX12_round 55 = .ok (.iinc 3 1, 3) := by decide +kernel
theorem dX12_round_58 : decode cX12_round 58 = .ok (.goto (-39), 3) := by decide +kernel
theorem dX12_round_61 : decode cX12_round 61 = .ok (.iload_n 2, 1) := by decide +kernel
theorem dX12_round_62 : decode cX12_round 62 = .ok (.iconst 1, 1) := by decide +kernel
theorem dX12_round_63 : decode cX12_round 63 = .ok (.iload_n 1, 1) := by decide +kernel
theorem dX12_round_64 : decode cX12_round 64 = .ok (.ishl, 1) := by decide +kernel
theorem dX12_round_65 : decode cX12_round 65 = .ok (.iconst (-1), 1) := by decide +kernel
theorem dX12_round_66 : decode cX12_round 66 = .ok (.ixor, 1) := by decide +kernel
theorem dX12_round_67 : decode cX12_round 67 = .ok (.iand, 1) := by decide +kernel
theorem dX12_round_68 : decode cX12_round 68 = .ok (.istore_n 2, 1) := by decide +kernel
theorem dX12_round_69 : decode cX12_round 69 = .ok (.aload_n 0, 1) := by decide +kernel
theorem dX12_round_70 : decode cX12_round 70 = .ok (.invokevirtual 314, 3) := by decide +kernel
theorem dX12_round_73 : decode cX12_round 73 = .ok (.aload_n 0, 1) := by decide +kernel
theorem dX12_round_74 : decode cX12_round 74 = .ok (.getfield 136, 3) := by decide +kernel
theorem dX12_round_77 : decode cX12_round 77 = .ok (.iload_n 1, 1) := by decide +kernel
theorem dX12_round_78 : decode cX12_round 78 = .ok (.iload_n 2, 1) := by decide +kernel
theorem dX12_round_79 : decode cX12_round 79 = .ok (.invokestatic 311, 3) := by decide +kernel
theorem dX12_round_82 : decode cX12_round 82 = .ok (.iaload, 1) := by decide +kernel
theorem dX12_round_83 : decode cX12_round 83 = .ok (.istore_n 3, 1) := by decide +kernel
theorem dX12_round_84 : decode cX12_round 84 = .ok (.iload_n 3, 1) := by decide +kernel
theorem dX12_round_85 : decode cX12_round 85 = .ok (.ldc_w 305, 3) := by decide +kernel
theorem dX12_round_88 : decode cX12_round 88 = .ok (.if_icmp .lt 5, 3) := by decide +kernel
theorem dX12_round_91 : decode cX12_round 91 = .ok (.iconst (-1), 1) := by decide +kernel
theorem dX12_round_92 : decode cX12_round 92 = .ok (.ireturn, 1) := by decide +kernel
theorem dX12_round_93 : decode cX12_round 93 = .ok (.iload_n 1, 1) := by decide +kernel
theorem dX12_round_94 : decode cX12_round 94 = .ok (.istore 4, 2) := by decide +kernel
theorem dX12_round_96 : decode cX12_round 96 = .ok (.iconst 0, 1) := by decide +kernel
theorem dX12_round_97 : decode cX12_round 97 = .ok (.istore 5, 2) := by decide +kernel
theorem dX12_round_99 : decode cX12_round 99 = .ok (.iload 5, 2) := by decide +kernel
theorem dX12_round_101 : decode cX12_round 101 = .ok (.iload_n 3, 1) := by decide +kernel
theorem dX12_round_102 : decode cX12_round 102 = .ok (.if_icmp .ge 85, 3) := by decide +kernel
theorem dX12_round_105 : decode cX12_round 105 = .ok (.iconst 0, 1) := by decide +kernel
theorem dX12_round_106 : decode cX12_round 106 = .ok (.istore 6, 2) := by decide +kernel
theorem dX12_round_108 : decode cX12_round 108 = .ok (.aload_n 0, 1) := by decide +kernel
theorem dX12_round_109 : decode cX12_round 109 = .ok (.getfield 98, 3) := by decide +kernel
theorem dX12_round_112 : decode cX12_round 112 = .ok (.bipush 6, 2) := by decide +kernel
theorem dX12_round_114 : decode cX12_round 114 = .ok (.iload 4, 2) := by decide +kernel
theorem dX12_round_116 : decode cX12_round 116 = .ok (.iadd, 1) := by decide +kernel
theorem dX12_round_117 : decode cX12_round 117 = .ok (.iaload, 1) := by decide +kernel
theorem dX12_round_118 : decode cX12_round 118 = .ok (.iload 6, 2) := by decide +kernel
theorem dX12_round_120 : decode cX12_round 120 = .ok (.invokestatic 181, 3) := by decide +kernel
theorem dX12_round_123 : decode cX12_round 123 = .ok (.ifCond .eq 30, 3) := by decide +kernel
theorem dX12_round_126 : decode cX12_round 126 = .ok (.aload_n 0, 1) := by decide +kernel
theorem dX12_round_127 : decode cX12_round 127 = .ok (.getfield 136, 3) := by decide +kernel
theorem dX12_round_130 : decode cX12_round 130 = .ok (.iload 6, 2) := by decide +kernel
theorem dX12_round_132 : decode cX12_round 132 = .ok (.iload_n 2, 1) := by decide +kernel
theorem dX12_round_133 : decode cX12_round 133 = .ok (.iconst 1, 1) := by decide +kernel
theorem dX12_round_134 : decode cX12_round 134 = .ok (.iload 6, 2) := by decide +kernel
theorem dX12_round_136 : decode cX12_round 136 = .ok (.ishl, 1) := by decide +kernel
theorem dX12_round_137 : decode cX12_round 137 = .ok (.iconst (-1), 1) := by decide +kernel
theorem dX12_round_138 : decode cX12_round 138 = .ok (.ixor, 1) := by decide +kernel
theorem dX12_round_139 : decode cX12_round 139 = .ok (.iand, 1) := by decide +kernel
theorem dX12_round_140 : decode cX12_round 140 = .ok (.invokestatic 311, 3) := by decide +kernel
theorem dX12_round_143 : decode cX12_round 143 = .ok (.iaload, 1) := by decide +kernel
theorem dX12_round_144 : decode cX12_round 144 = .ok (.iload_n 3, 1) := by decide +kernel
theorem dX12_round_145 : decode cX12_round 145 = .ok (.iload 5, 2) := by decide +kernel
theorem dX12_round_147 : decode cX12_round 147 = .ok (.isub, 1) := by decide +kernel
theorem dX12_round_148 : decode cX12_round 148 = .ok (.iconst 1, 1) := by decide +kernel
theorem dX12_round_149 : decode cX12_round 149 = .ok (.isub, 1) := by decide +kernel
theorem dX12_round_150 : decode cX12_round 150 = .ok (.if_icmp .eq 9, 3) := by decide +kernel
theorem dX12_round_153 : decode cX12_round 153 = .ok (.iinc 6 1, 3) := by decide +kernel
theorem dX12_round_156 : decode cX12_round 156 = .ok (.goto (-48), 3) := by decide +kernel
theorem dX12_round_159 : decode cX12_round 159 = .ok (.aload_n 0, 1) := by decide +kernel
theorem dX12_round_160 : decode cX12_round 160 = .ok (.getfield 139, 3) := by decide +kernel
theorem dX12_round_163 : decode cX12_round 163 = .ok (.iload 5, 2) := by decide +kernel
theorem dX12_round_165 : decode cX12_round 165 = .ok (.iload 6, 2) := by decide +kernel
theorem dX12_round_167 : decode cX12_round 167 = .ok (.iastore, 1) := by decide +kernel
theorem dX12_round_168 : decode cX12_round 168 = .ok (.iload_n 2, 1) := by decide +kernel
theorem dX12_round_169 : decode cX12_round 169 = .ok (.iconst 1, 1) := by decide +kernel
theorem dX12_round_170 : decode cX12_round 170 = .ok (.iload 6, 2) := by decide +kernel
theorem dX12_round_172 : decode cX12_round 172 = .ok (.ishl, 1) := by decide +kernel
theorem dX12_round_173 : decode cX12_round 173 = .ok (.iconst (-1), 1) := by decide +kernel
theorem dX12_round_174 : decode cX12_round 174 = .ok (.ixor, 1) := by decide +kernel
theorem dX12_round_175 : decode cX12_round 175 = .ok (.iand, 1) := by decide +kernel
theorem dX12_round_176 : decode cX12_round 176 = .ok (.istore_n 2, 1) := by decide +kernel
theorem dX12_round_177 : decode cX12_round 177 = .ok (.iload 6, 2) := by decide +kernel
theorem dX12_round_179 : decode cX12_round 179 = .ok (.istore 4, 2) := by decide +kernel
theorem dX12_round_181 : decode cX12_round 181 = .ok (.iinc 5 1, 3) := by decide +kernel
theorem dX12_round_184 : decode cX12_round 184 = .ok (.goto (-85), 3) := by decide +kernel
theorem dX12_round_187 : decode cX12_round 187 = .ok (.aload_n 0, 1) := by decide +kernel
theorem dX12_round_188 : decode cX12_round 188 = .ok (.iload_n 3, 1) := by decide +kernel
theorem dX12_round_189 : decode cX12_round 189 = .ok (.putfield 317, 3) := by decide +kernel
theorem dX12_round_192 : decode cX12_round 192 = .ok (.iload_n 3, 1) := by decide +kernel
theorem dX12_round_193 : decode cX12_round 193 = .ok (.ireturn, 1) := by decide +kernel
theorem dX12_roundAt_0 : decode cX12_roundAt 0 = .ok (.aload_n 0, 1) := by decide +kernel
theorem dX12_roundAt_1 : decode cX12_roundAt 1 = .ok (.iconst 0, 1) := by decide +kernel
theorem dX12_roundAt_2 : decode cX12_roundAt 2 = .ok (.putfield 1, 3) := by decide +kernel
theorem dX12_roundAt_5 : decode cX12_roundAt 5 = .ok (.iload_n 1, 1) := by decide +kernel
theorem dX12_roundAt_6 : decode cX12_roundAt 6 = .ok (.iconst 0, 1) := by decide +kernel
theorem dX12_roundAt_7 : decode cX12_roundAt 7 = .ok (.aload_n 0, 1) := by decide +kernel
theorem dX12_roundAt_8 : decode cX12_roundAt 8 = .ok (.getfield 317, 3) := by decide +kernel
theorem dX12_roundAt_11 : decode cX12_roundAt 11 = .ok (.iconst 1, 1) := by decide +kernel
theorem dX12_roundAt_12 : decode cX12_roundAt 12 = .ok (.isub, 1) := by decide +kernel
theorem dX12_roundAt_13 : decode cX12_roundAt 13 = .ok (.invokestatic 75, 3) := by decide +kernel
theorem dX12_roundAt_16 : decode cX12_roundAt 16 = .ok (.ifCond .eq 12, 3) := by decide +kernel
theorem dX12_roundAt_19 : decode cX12_roundAt 19 = .ok (.aload_n 0, 1) := by decide +kernel
theorem dX12_roundAt_20 : decode cX12_roundAt 20 = .ok (.getfield 139, 3) := by decide +kernel
theorem dX12_roundAt_23 : decode cX12_roundAt 23 = .ok (.iload_n 1, 1) := by decide +kernel
theorem dX12_roundAt_24 : decode cX12_roundAt 24 = .ok (.iaload, 1) := by decide +kernel
theorem dX12_roundAt_25 : decode cX12_roundAt 25 = .ok (.goto 4, 3) := by decide +kernel
theorem dX12_roundAt_28 : decode cX12_roundAt 28 = .ok (.iconst (-1), 1) := by decide +kernel
theorem dX12_roundAt_29 : decode cX12_roundAt 29 = .ok (.ireturn, 1) := by decide +kernel
theorem dX12_sights_0 : decode cX12_sights 0 = .ok (.aload_n 0, 1) := by decide +kernel
theorem dX12_sights_1 : decode cX12_sights 1 = .ok (.iconst 0, 1) := by decide +kernel
theorem dX12_sights_2 : decode cX12_sights 2 = .ok (.putfield 1, 3) := by decide +kernel
theorem dX12_sights_5 : decode cX12_sights 5 = .ok (.aload_n 0, 1) := by decide +kernel
theorem dX12_sights_6 : decode cX12_sights 6 = .ok (.iload_n 1, 1) := by decide +kernel
theorem dX12_sights_7 : decode cX12_sights 7 = .ok (.invokevirtual 259, 3) := by decide +kernel
theorem dX12_sights_10 : decode cX12_sights 10 = .ok (.ifCond .eq 15, 3) := by decide +kernel
theorem dX12_sights_13 : decode cX12_sights 13 = .ok (.aload_n 0, 1) := by decide +kernel
theorem dX12_sights_14 : decode cX12_sights 14 = .ok (.getfield 98, 3) := by decide +kernel
theorem dX12_sights_17 : decode cX12_sights 17 = .ok (.bipush 6, 2) := by decide +kernel
theorem dX12_sights_19 : decode cX12_sights 19 = .ok (.iload_n 1, 1) := by decide +kernel
theorem dX12_sights_20 : decode cX12_sights 20 = .ok (.iadd, 1) := by decide +kernel
theorem dX12_sights_21 : decode cX12_sights 21 = .ok (.iaload, 1) := by decide +kernel
theorem dX12_sights_22 : decode cX12_sights 22 = .ok (.goto 4, 3) := by decide +kernel
theorem dX12_sights_25 : decode cX12_sights 25 = .ok (.iconst (-1), 1) := by decide +kernel
theorem dX12_sights_26 : decode cX12_sights 26 = .ok (.ireturn, 1) := by decide +kernel
theorem dX12_sponge_0 : decode cX12_sponge 0 = .ok (.aload_n 0, 1) := by decide +kernel
theorem dX12_sponge_1 : decode cX12_sponge 1 = .ok (.iconst 0, 1) := by decide +kernel
theorem dX12_sponge_2 : decode cX12_sponge 2 = .ok (.putfield 1, 3) := by decide +kernel
theorem dX12_sponge_5 : decode cX12_sponge 5 = .ok (.aload_n 0, 1) := by decide +kernel
theorem dX12_sponge_6 : decode cX12_sponge 6 = .ok (.iconst 1, 1) := by decide +kernel
theorem dX12_sponge_7 : decode cX12_sponge 7 = .ok (.iload_n 1, 1) := by decide +kernel
theorem dX12_sponge_8 : decode cX12_sponge 8 = .ok (.iconst 0, 1) := by decide +kernel
theorem dX12_sponge_9 : decode cX12_sponge 9 = .ok (.iconst 0, 1) := by decide +kernel
theorem dX12_sponge_10 : decode cX12_sponge 10 = .ok (.aload_n 0, 1) := by decide +kernel
theorem dX12_sponge_11 : decode cX12_sponge 11 = .ok (.iload_n 1, 1) := by decide +kernel
theorem dX12_sponge_12 : decode cX12_sponge 12 = .ok (.invokevirtual 244, 3) := by decide +kernel
theorem dX12_sponge_15 : decode cX12_sponge 15 = .ok (.invokevirtual 292, 3) := by decide +kernel
theorem dX12_sponge_18 : decode cX12_sponge 18 = .ok (.ireturn, 1) := by decide +kernel
theorem dX12_tellsOf_0 : decode cX12_tellsOf 0 = .ok (.iconst 0, 1) := by decide +kernel
theorem dX12_tellsOf_1 : decode cX12_tellsOf 1 = .ok (.istore_n 3, 1) := by decide +kernel
theorem dX12_tellsOf_2 : decode cX12_tellsOf 2 = .ok (.iload_n 3, 1) := by decide +kernel
theorem dX12_tellsOf_3 : decode cX12_tellsOf 3 = .ok (.aload_n 0, 1) := by decide +kernel
theorem dX12_tellsOf_4 : decode cX12_tellsOf 4 = .ok (.getfield 98, 3) := by decide +kernel
theorem dX12_tellsOf_7 : decode cX12_tellsOf 7 = .ok (.bipush 25, 2) := by decide +kernel
theorem dX12_tellsOf_9 : decode cX12_tellsOf 9 = .ok (.iaload, 1) := by decide +kernel
theorem dX12_tellsOf_10 : decode cX12_tellsOf 10 = .ok (.if_icmp .ge 33, 3) := by decide +kernel
theorem dX12_tellsOf_13 : decode cX12_tellsOf 13 = .ok (.aload_n 0, 1) := by decide +kernel
theorem dX12_tellsOf_14 : decode cX12_tellsOf 14 = .ok (.getfield 98, 3) := by decide +kernel
theorem dX12_tellsOf_17 : decode cX12_tellsOf 17 = .ok (.bipush 38, 2) := by decide +kernel
theorem dX12_tellsOf_19 : decode cX12_tellsOf 19 = .ok (.iload_n 3, 1) := by decide +kernel
theorem dX12_tellsOf_20 : decode cX12_tellsOf 20 = .ok (.iadd, 1) := by decide +kernel
theorem dX12_tellsOf_21 : decode cX12_tellsOf 21 = .ok (.iaload, 1) := by decide +kernel
theorem dX12_tellsOf_22 : decode cX12_tellsOf 22 = .ok (.iload_n 2, 1) := by decide +kernel
theorem dX12_tellsOf_23 : decode cX12_tellsOf 23 = .ok (.if_icmp .ne 14, 3) := by decide +kernel
theorem dX12_tellsOf_26 : decode cX12_tellsOf 26 = .ok (.aload_n 0, 1) := by decide +kernel
theorem dX12_tellsOf_27 : decode cX12_tellsOf 27 = .ok (.iload_n 1, 1) := by decide +kernel
theorem dX12_tellsOf_28 : decode cX12_tellsOf 28 = .ok (.iload_n 3, 1) := by decide +kernel
theorem dX12_tellsOf_29 : decode cX12_tellsOf 29 = .ok (.invokevirtual 228, 3) := by decide +kernel
theorem dX12_tellsOf_32 : decode cX12_tellsOf 32 = .ok (.ifCond .eq 5, 3) := by decide +kernel
theorem dX12_tellsOf_35 : decode cX12_tellsOf 35 = .ok (.iconst 1, 1) := by decide +kernel
theorem dX12_tellsOf_36 : decode cX12_tellsOf 36 = .ok (.ireturn, 1) := by decide +kernel
theorem dX12_tellsOf_37 : decode cX12_tellsOf 37 = .ok (.iinc 3 1, 3) := by decide +kernel
theorem dX12_tellsOf_40 : decode cX12_tellsOf 40 = .ok (.goto (-38), 3) := by decide +kernel
theorem dX12_tellsOf_43 : decode cX12_tellsOf 43 = .ok (.iconst 0, 1) := by decide +kernel
theorem dX12_tellsOf_44 : decode cX12_tellsOf 44 = .ok (.ireturn, 1) := by decide +kernel
theorem dX12_thrown_0 : decode cX12_thrown 0 = .ok (.aload_n 0, 1) := by decide +kernel
theorem dX12_thrown_1 : decode cX12_thrown 1 = .ok (.getfield 1, 3) := by decide +kernel
theorem dX12_thrown_4 : decode cX12_thrown 4 = .ok (.ireturn, 1) := by decide +kernel
theorem dX12_told_0 : decode cX12_told 0 = .ok (.aload_n 0, 1) := by decide +kernel
theorem dX12_told_1 : decode cX12_told 1 = .ok (.iconst 0, 1) := by decide +kernel
theorem dX12_told_2 : decode cX12_told 2 = .ok (.putfield 1, 3) := by decide +kernel
theorem dX12_told_5 : decode cX12_told 5 = .ok (.aload_n 0, 1) := by decide +kernel
theorem dX12_told_6 : decode cX12_told 6 = .ok (.getfield 396, 3) := by decide +kernel
theorem dX12_told_9 : decode cX12_told 9 = .ok (.ifCond .eq 21, 3) := by decide +kernel
theorem dX12_told_12 : decode cX12_told 12 = .ok (.iload_n 1, 1) := by decide +kernel
theorem dX12_told_13 : decode cX12_told 13 = .ok (.iconst 0, 1) := by decide +kernel
theorem dX12_told_14 : decode cX12_told 14 = .ok (.iconst 3, 1) := by decide +kernel
theorem dX12_told_15 : decode cX12_told 15 = .ok (.invokestatic 75, 3) := by decide +kernel
theorem dX12_told_18 : decode cX12_told 18 = .ok (.ifCond .eq 12, 3) := by decide +kernel
theorem dX12_told_21 : decode cX12_told 21 = .ok (.aload_n 0, 1) := by decide +kernel
theorem dX12_told_22 : decode cX12_told 22 = .ok (.getfield 151, 3) := by decide +kernel
theorem dX12_told_25 : decode cX12_told 25 = .ok (.iload_n 1, 1) := by decide +kernel
theorem dX12_told_26 : decode cX12_told 26 = .ok (.iaload, 1) := by decide +kernel
theorem dX12_told_27 : decode cX12_told 27 = .ok (.goto 4, 3) := by decide +kernel
theorem dX12_told_30 : decode cX12_told 30 = .ok (.iconst (-1), 1) := by decide +kernel
theorem dX12_told_31 : decode cX12_told 31 = .ok (.ireturn, 1) := by decide +kernel
theorem dX12_undo_0 : decode cX12_undo 0 = .ok (.aload_n 0, 1) := by decide +kernel
theorem dX12_undo_1 : decode cX12_undo 1 = .ok (.iconst 0, 1) := by decide +kernel
theorem dX12_undo_2 : decode cX12_undo 2 = .ok (.putfield 1, 3) := by decide +kernel
theorem dX12_undo_5 : decode cX12_undo 5 = .ok (.aload_n 0, 1) := by decide +kernel
theorem dX12_undo_6 : decode cX12_undo 6 = .ok (.getfield 215, 3) := by decide +kernel
theorem dX12_undo_9 : decode cX12_undo 9 = .ok (.ifCond .ne 5, 3) := by decide +kernel
theorem dX12_undo_12 : decode cX12_undo 12 = .ok (.iconst (-1), 1) := by decide +kernel
theorem dX12_undo_13 : decode cX12_undo 13 = .ok (.ireturn, 1) := by decide +kernel
theorem dX12_undo_14 : decode cX12_undo 14 = .ok (.aload_n 0, 1) := by decide +kernel
theorem dX12_undo_15 : decode cX12_undo 15 = .ok (.dup, 1) := by decide +kernel
theorem dX12_undo_16 : decode cX12_undo 16 = .ok (.getfield 215, 3) := by decide +kernel
theorem dX12_undo_19 : decode cX12_undo 19 = .ok (.iconst 1, 1) := by decide +kernel
theorem dX12_undo_20 : decode cX12_undo 20 = .ok (.isub, 1) := by decide +kernel
theorem dX12_undo_21 : decode cX12_undo 21 = .ok (.putfield 215, 3) := by decide +kernel
theorem dX12_undo_24 : decode cX12_undo 24 = .ok (.iconst 0, 1) := by decide +kernel
theorem dX12_undo_25 : decode cX12_undo 25 = .ok (.istore_n 1, 1) := by decide +kernel
theorem dX12_undo_26 : decode cX12_undo 26 = .ok (.iload_n 1, 1) := by decide +kernel
theorem dX12_undo_27 : decode cX12_undo 27 = .ok (.sipush 140, 3) := by decide +kernel
theorem dX12_undo_30 : decode cX12_undo 30 = .ok (.if_icmp .ge 33, 3) := by decide +kernel
theorem dX12_undo_33 : decode cX12_undo 33 = .ok (.aload_n 0, 1) := by decide +kernel
theorem dX12_undo_34 : decode cX12_undo 34 = .ok (.getfield 98, 3) := by decide +kernel
theorem dX12_undo_37 : decode cX12_undo 37 = .ok (.bipush 24, 2) := by decide +kernel
theorem dX12_undo_39 : decode cX12_undo 39 = .ok (.iload_n 1, 1) := by decide +kernel
theorem dX12_undo_40 : decode cX12_undo 40 = .ok (.iadd, 1) := by decide +kernel
theorem dX12_undo_41 : decode cX12_undo 41 = .ok (.aload_n 0, 1) := by decide +kernel
theorem dX12_undo_42 : decode cX12_undo 42 = .ok (.getfield 107, 3) := by decide +kernel
theorem dX12_undo_45 : decode cX12_undo 45 = .ok (.sipush 140, 3) := by decide +kernel
theorem dX12_undo_48 : decode cX12_undo 48 = .ok (.aload_n 0, 1) := by decide +kernel
theorem dX12_undo_49 : decode cX12_undo 49 = .ok (.getfield 215, 3) := by decide +kernel
theorem dX12_undo_52 : decode cX12_undo 52 = .ok (.imul, 1) := by decide +kernel
theorem dX12_undo_53 : decode cX12_undo 53 = .ok (.iload_n 1, 1) := by decide +kernel
theorem dX12_undo_54 : decode cX12_undo 54 = .ok (.iadd, 1) := by decide +kernel
theorem dX12_undo_55 : decode cX12_undo 55 = .ok (.iaload, 1) := by decide +kernel
theorem dX12_undo_56 : decode cX12_undo 56 = .ok (.iastore, 1) := by decide +kernel
theorem dX12_undo_57 : decode cX12_undo 57 = .ok (.iinc 1 1, 3) := by decide +kernel
theorem dX12_undo_60 : decode cX12_undo 60 = .ok (.goto (-34), 3) := by decide +kernel
theorem dX12_undo_63 : decode cX12_undo 63 = .ok (.aload_n 0, 1) := by decide +kernel
theorem dX12_undo_64 : decode cX12_undo 64 = .ok (.getfield 215, 3) := by decide +kernel
theorem dX12_undo_67 : decode cX12_undo 67 = .ok (.ireturn, 1) := by decide +kernel
theorem dX12_write_0 : decode cX12_write 0 = .ok (.aload_n 0, 1) := by decide +kernel
theorem dX12_write_1 : decode cX12_write 1 = .ok (.getfield 145, 3) := by decide +kernel
theorem dX12_write_4 : decode cX12_write 4 = .ok (.aload_n 0, 1) := by decide +kernel
theorem dX12_write_5 : decode cX12_write 5 = .ok (.getfield 334, 3) := by decide +kernel
theorem dX12_write_8 : decode cX12_write 8 = .ok (.iload_n 1, 1) := by decide +kernel
theorem dX12_write_9 : decode cX12_write 9 = .ok (.iastore, 1) := by decide +kernel
theorem dX12_write_10 : decode cX12_write 10 = .ok (.aload_n 0, 1) := by decide +kernel
theorem dX12_write_11 : decode cX12_write 11 = .ok (.dup, 1) := by decide +kernel
theorem dX12_write_12 : decode cX12_write 12 = .ok (.getfield 334, 3) := by decide +kernel
theorem dX12_write_15 : decode cX12_write 15 = .ok (.iconst 1, 1) := by decide +kernel
theorem dX12_write_16 : decode cX12_write 16 = .ok (.iadd, 1) := by decide +kernel
theorem dX12_write_17 : decode cX12_write 17 = .ok (.putfield 334, 3) := by decide +kernel
theorem dX12_write_20 : decode cX12_write 20 = .ok (.return_, 1) := by decide +kernel
-- X12_readOf
abbrev rmX12_readOf : Room := { frames := 4, cells := 0, slots := 0, locals := 91 }
def fX12_readOf_28 (S : zSt)  (v1 : Int32) (t0 : Int32) (t2 : Int32) : Option (Int32 × zSt) :=
  zGd (zIx t0 406) (zBp (fX12_readNamed S t2 (S.1 2 t0.toNatClampNeg)) (fun r6 S5 => zBr (r6 = 0) (some ((0 : Int32), S5)) (zBp (fX12_saysOne S5 ((50 : Int32) + v1) (S5.1 0 13) (0 : Int32) (0 : Int32)) (fun r10 S9 => zLt (zI S9 0 44 r10) (fun S11 => some ((1 : Int32), S11))))))
set_option maxHeartbeats 4000000 in
set_option maxRecDepth 100000 in
theorem kX12_readOf_28 {p : Program} {l : Launch} {e : Env} {s : State} {m : MethodId} {args : Array Value} {below : List Frame} {meth : Method} {c : Code} {D : va_G} {cy : Nat → ClassId} {q : Nat → Nat} {A : Nat → Prop} (cx : zX RX12 cX12_readOf 2 p s m args c D cy) (hr : meth.sig.returnType = (some .boolean)) (hlk : meth.locks = false) (hq : zQ A q zNM) {z : (Int32 × zSt)} {S : zSt} {v1 : Int32} {t0 : Int32} {t2 : Int32} (h : fX12_readOf_28 S v1 t0 t2 = some z) {H : Heap} {locs : List Loc} (hP : va_P D vwCl (zW zshM zNM cy q S) H) (hS : va_S A s.heap H locs) {ls : Array Slot} (hl : lv_has ls 2 [(0, .ref (q 0)), (1, .int v1)]) : W p l e rmX12_readOf s m args below meth c H locs 0 0 (MQ below (va_Qi (fun (r : Int32) (u : zSt) => (r, u) = z) (fun u t => va_P D vwCl (zW zshM zNM cy q u) t.heap) A) args s 0 0 A) (F0 m 28 ls [.int t0, .ref (q 2), .int t2, .ref (q 0)]) := by
  have hx := cx.1
  have hb := cx.2.1
  unfold fX12_readOf_28 at h
  obtain ⟨g3, h⟩ := zGd_e h
  refine zr_iald (pc := 28) cx hP nM_2 sM_2 g3 dX12_readOf_28 ?_
  obtain ⟨r6, S5, k4, h⟩ := zBp_e h
  refine zr_VQ (pc := 29) (rest := []) cx cv_X12_372 (mX12_readNamed hq k4) ⟨⟨rfl, rfl⟩, Nat.le_of_ble_eq_true rfl, Nat.le_of_ble_eq_true rfl⟩ ⟨Nat.le_of_ble_eq_true rfl, Nat.le_of_ble_eq_true rfl⟩ hP hS nM_0 sM_0 rfl hl.1 rfl rfl (Nat.le_of_ble_eq_true rfl) dX12_readOf_29 (fun H locs hP hS => ?_)
  refine lv_if_ne (pc := 32) (tgt := 37) hx hb dX12_readOf_32 (by decide) (fun c7 => ?_) (fun c7 => ?_)
  · replace h := zBr_f c7 h
    refine lv_aload_n (pc := 37) hx hb dX12_readOf_37 rfl (lv_at hl 0 rfl) ?_
    refine lv_aload_n (pc := 38) hx hb dX12_readOf_38 rfl (lv_at hl 0 rfl) ?_
    refine lv_bipush (pc := 39) hx hb dX12_readOf_39 zb_50 ?_
    refine lv_iload_n (pc := 41) hx hb dX12_readOf_41 rfl (lv_at hl 1 rfl) ?_
    refine lv_iadd (pc := 42) hx hb dX12_readOf_42 ?_
    refine lv_aload_n (pc := 43) hx hb dX12_readOf_43 rfl (lv_at hl 0 rfl) ?_
    refine zr_getI (pc := 44) cx lk_X12_79 hP nM_0 sM_0 rfl dX12_readOf_44 ?_
    refine lv_iconst (pc := 47) hx hb dX12_readOf_47 zc_0 ?_
    refine lv_iconst (pc := 48) hx hb dX12_readOf_48 zc_0 ?_
    obtain ⟨r10, S9, k8, h⟩ := zBp_e h
    refine zr_VQ (pc := 49) (rest := [.ref (q 0)]) cx cv_X12_412 (mX12_saysOne hq k8) ⟨⟨rfl, rfl⟩, Nat.le_of_ble_eq_true rfl, Nat.le_of_ble_eq_true rfl⟩ ⟨Nat.le_of_ble_eq_true rfl, Nat.le_of_ble_eq_true rfl⟩ hP hS nM_0 sM_0 rfl hl.1 rfl rfl (Nat.le_of_ble_eq_true rfl) dX12_readOf_49 (fun H locs hP hS => ?_)
    obtain ⟨S11, eS11, h⟩ := zLt_e h
    refine zr_putI (pc := 52) cx lq_X12_409 hq hP hS nM_0 sM_0 rfl rfl rfl dX12_readOf_52 (fun H locs hP hS => ?_)
    rw [← eS11] at hP
    refine lv_iconst (pc := 55) hx hb dX12_readOf_55 zc_1 ?_
    have hz := Option.some.inj h
    exact zr_rqZ (pc := 56) cx hr hlk hP hS hz (by decide) dX12_readOf_56
  · replace h := zBr_t c7 h
    refine lv_iconst (pc := 35) hx hb dX12_readOf_35 zc_0 ?_
    have hz := Option.some.inj h
    exact zr_rqZ (pc := 36) cx hr hlk hP hS hz (by decide) dX12_readOf_36
def fX12_readOf_13 (S : zSt)  (v1 : Int32) (t0 : Int32) : Option (Int32 × zSt) :=
  zBr (v1 = (18 : Int32)) (fX12_readOf_28 S v1 (2 : Int32) t0) (fX12_readOf_28 S v1 (0 : Int32) t0)
set_option maxHeartbeats 4000000 in
set_option maxRecDepth 100000 in
theorem kX12_readOf_13 {p : Program} {l : Launch} {e : Env} {s : State} {m : MethodId} {args : Array Value} {below : List Frame} {meth : Method} {c : Code} {D : va_G} {cy : Nat → ClassId} {q : Nat → Nat} {A : Nat → Prop} (cx : zX RX12 cX12_readOf 2 p s m args c D cy) (hr : meth.sig.returnType = (some .boolean)) (hlk : meth.locks = false) (hq : zQ A q zNM) {z : (Int32 × zSt)} {S : zSt} {v1 : Int32} {t0 : Int32} (h : fX12_readOf_13 S v1 t0 = some z) {H : Heap} {locs : List Loc} (hP : va_P D vwCl (zW zshM zNM cy q S) H) (hS : va_S A s.heap H locs) {ls : Array Slot} (hl : lv_has ls 2 [(0, .ref (q 0)), (1, .int v1)]) : W p l e rmX12_readOf s m args below meth c H locs 0 0 (MQ below (va_Qi (fun (r : Int32) (u : zSt) => (r, u) = z) (fun u t => va_P D vwCl (zW zshM zNM cy q u) t.heap) A) args s 0 0 A) (F0 m 13 ls [.int t0, .ref (q 0)]) := by
  have hx := cx.1
  have hb := cx.2.1
  unfold fX12_readOf_13 at h
  refine lv_aload_n (pc := 13) hx hb dX12_readOf_13 rfl (lv_at hl 0 rfl) ?_
  refine zr_getR (pc := 14) (t := 2) cx lk_X12_98 hP nM_0 sM_0 rfl dX12_readOf_14 ?_
  refine lv_iload_n (pc := 17) hx hb dX12_readOf_17 rfl (lv_at hl 1 rfl) ?_
  refine lv_bipush (pc := 18) hx hb dX12_readOf_18 zb_18 ?_
  refine lv_icmp_ne (pc := 20) (tgt := 27) hx hb dX12_readOf_20 (by decide) (fun c2 => ?_) (fun c2 => ?_)
  · replace h := zBr_f c2 h
    refine lv_iconst (pc := 27) hx hb dX12_readOf_27 zc_0 ?_
    exact kX12_readOf_28 cx hr hlk hq h hP hS (lv_sub hl [0, 1] rfl)
  · replace h := zBr_t c2 h
    refine lv_iconst (pc := 23) hx hb dX12_readOf_23 zc_2 ?_
    refine lv_goto (pc := 24) (tgt := 28) hx hb dX12_readOf_24 (by decide) ?_
    exact kX12_readOf_28 cx hr hlk hq h hP hS (lv_sub hl [0, 1] rfl)
def fX12_readOf (S : zSt) (v1 : Int32) : Option (Int32 × zSt) :=
  zBr (v1 = (18 : Int32)) (fX12_readOf_13 S v1 (11 : Int32)) (fX12_readOf_13 S v1 (0 : Int32))
set_option maxHeartbeats 4000000 in
set_option maxRecDepth 100000 in
theorem mX12_readOf {l : Launch} {D : va_G} {cy : Nat → ClassId} {q : Nat → Nat} {A : Nat → Prop} {S : zSt} {v1 : Int32} (hq : zQ A q zNM) {z : (Int32 × zSt)} (h : fX12_readOf S v1 = some z) : zMq l yX12_readOf cX12_readOf 2 (some .boolean) rmX12_readOf [.ref (q 0), .int v1] zshM zNM D cy q A S z := by
  refine Met.ofW (cc := cX12_readOf) (maxL := 2) (ret := (some .boolean)) (by decide) rfl ?_
  intro p e s m args below meth c s₁ B hml hv
  obtain ⟨rfl, hP, hK⟩ := hv
  have cx : zX RX12 cX12_readOf 2 p s m ([.ref (q 0), .int v1]).toArray c D cy := ⟨B.exec, B.bytes, hml, findClass_of_methodNamed B.named, fun w hw => atoms_spec (ws := Cond.code yX12_readOf cX12_readOf 2 (some .boolean) :: zTB) B.pre w (List.mem_cons_of_mem _ hw), hK⟩
  have hx := cx.1
  have hb := cx.2.1
  have hr := B.returns
  have hlk := B.notSynchronized
  have hS : va_S A s.heap s.heap [] := va_S.rf
  have hl := lv_entry ([.ref (q 0), .int v1]) (n := 2) (Nat.le_of_ble_eq_true rfl)
  rw [lg_entry_eq]
  generalize (lg_sl ([.ref (q 0), .int v1]) ++ List.replicate (2 - (lg_sl ([.ref (q 0), .int v1])).length) Slot.unset).toArray = ls at hl ⊢
  have hl : lv_has ls 2 [(0, .ref (q 0)), (1, .int v1)] := hl
  unfold fX12_readOf at h
  refine lv_aload_n (pc := 0) hx hb dX12_readOf_0 rfl (lv_at hl 0 rfl) ?_
  refine lv_iload_n (pc := 1) hx hb dX12_readOf_1 rfl (lv_at hl 1 rfl) ?_
  refine lv_bipush (pc := 2) hx hb dX12_readOf_2 zb_18 ?_
  refine lv_icmp_ne (pc := 4) (tgt := 12) hx hb dX12_readOf_4 (by decide) (fun c1 => ?_) (fun c1 => ?_)
  · replace h := zBr_f c1 h
    refine lv_iconst (pc := 12) hx hb dX12_readOf_12 zc_0 ?_
    exact kX12_readOf_13 cx hr hlk hq h hP hS (lv_sub hl [0, 1] rfl)
  · replace h := zBr_t c1 h
    refine lv_bipush (pc := 7) hx hb dX12_readOf_7 zb_11 ?_
    refine lv_goto (pc := 9) (tgt := 13) hx hb dX12_readOf_9 (by decide) ?_
    exact kX12_readOf_13 cx hr hlk hq h hP hS (lv_sub hl [0, 1] rfl)
-- X12_restore
abbrev rmX12_restore : Room := { frames := 1, cells := 0, slots := 0, locals := 22 }
def fX12_restore_60  (v1 : Int32) (t : (zSt × Int32)) : Option ((zSt × Int32) ⊕ (Int32 × zSt)) :=
  match t with
  | (S, v2) => zBr ((20 : Int32) ≤ v2) (zXr (zLt (zI S 0 24 (0 : Int32)) (fun S11 => some ((1 : Int32), S11)))) (zGd (zIx (((20 : Int32) * v1) + v2) 40) (zGd (zIx v2 20) (zLt (zJ S 7 v2.toNatClampNeg (S.2 9 (((20 : Int32) * v1) + v2).toNatClampNeg)) (fun S14 => zLt (v2 + (1 : Int32)) (fun x15 => some (.inl (S14, x15)))))))
set_option maxHeartbeats 4000000 in
set_option maxRecDepth 100000 in
theorem kX12_restore_60B {p : Program} {l : Launch} {e : Env} {s : State} {m : MethodId} {args : Array Value} {below : List Frame} {meth : Method} {c : Code} {D : va_G} {cy : Nat → ClassId} {q : Nat → Nat} {A : Nat → Prop} (cx : zX RX12 cX12_restore 3 p s m args c D cy) (hr : meth.sig.returnType = (some .boolean)) (hlk : meth.locks = false) (hq : zQ A q zNM) {z : (Int32 × zSt)} {S : zSt} {v1 : Int32} {v2 : Int32} {C1 : ((zSt × Int32) ⊕ (Int32 × zSt)) → Prop} (hb1 : ∀ (S : zSt) (v2 : Int32), C1 (.inl (S, v2)) → ∀ (H : Heap) (locs : List Loc), va_P D vwCl (zW zshM zNM cy q S) H → va_S A s.heap H locs → ∀ (ls : Array Slot), lv_has ls 3 [(0, .ref (q 0)), (1, .int v1), (2, .int v2)] → W p l e rmX12_restore s m args below meth c H locs 0 0 (MQ below (va_Qi (fun (r : Int32) (u : zSt) => (r, u) = z) (fun u t => va_P D vwCl (zW zshM zNM cy q u) t.heap) A) args s 0 0 A) (F0 m 60 ls [])) (hx1 : ∀ a, C1 (.inr a) → a = z) {x : ((zSt × Int32) ⊕ (Int32 × zSt))} (h : fX12_restore_60 v1 (S, v2) = some x) (hc : C1 x) {H : Heap} {locs : List Loc} (hP : va_P D vwCl (zW zshM zNM cy q S) H) (hS : va_S A s.heap H locs) {ls : Array Slot} (hl : lv_has ls 3 [(0, .ref (q 0)), (1, .int v1), (2, .int v2)]) : W p l e rmX12_restore s m args below meth c H locs 0 0 (MQ below (va_Qi (fun (r : Int32) (u : zSt) => (r, u) = z) (fun u t => va_P D vwCl (zW zshM zNM cy q u) t.heap) A) args s 0 0 A) (F0 m 60 ls []) := by
  have hx := cx.1
  have hb := cx.2.1
  unfold fX12_restore_60 at h
  dsimp only at h
  refine lv_iload_n (pc := 60) hx hb dX12_restore_60 rfl (lv_at hl 2 rfl) ?_
  refine lv_bipush (pc := 61) hx hb dX12_restore_61 zb_20 ?_
  refine lv_icmp_ge (pc := 63) (tgt := 89) hx hb dX12_restore_63 (by decide) (fun c9 => ?_) (fun c9 => ?_)
  · replace h := zBr_t c9 h
    obtain ⟨y10, h, ex⟩ := zXr_e h
    have hc := hx1 y10 (by rw [ex] at hc; exact hc)
    rw [hc] at h
    refine lv_aload_n (pc := 89) hx hb dX12_restore_89 rfl (lv_at hl 0 rfl) ?_
    refine lv_iconst (pc := 90) hx hb dX12_restore_90 zc_0 ?_
    obtain ⟨S11, eS11, h⟩ := zLt_e h
    refine zr_putI (pc := 91) cx lq_X12_215 hq hP hS nM_0 sM_0 rfl rfl rfl dX12_restore_91 (fun H locs hP hS => ?_)
    rw [← eS11] at hP
    refine lv_iconst (pc := 94) hx hb dX12_restore_94 zc_1 ?_
    have hz := Option.some.inj h
    exact zr_rqZ (pc := 95) cx hr hlk hP hS hz (by decide) dX12_restore_95
  · replace h := zBr_f c9 h
    refine lv_aload_n (pc := 66) hx hb dX12_restore_66 rfl (lv_at hl 0 rfl) ?_
    refine zr_getR (pc := 67) (t := 7) cx lk_X12_113 hP nM_0 sM_0 rfl dX12_restore_67 ?_
    refine lv_iload_n (pc := 70) hx hb dX12_restore_70 rfl (lv_at hl 2 rfl) ?_
    refine lv_aload_n (pc := 71) hx hb dX12_restore_71 rfl (lv_at hl 0 rfl) ?_
    refine zr_getR (pc := 72) (t := 9) cx lk_X12_120 hP nM_0 sM_0 rfl dX12_restore_72 ?_
    refine lv_bipush (pc := 75) hx hb dX12_restore_75 zb_20 ?_
    refine lv_iload_n (pc := 77) hx hb dX12_restore_77 rfl (lv_at hl 1 rfl) ?_
    refine lv_imul (pc := 78) hx hb dX12_restore_78 ?_
    refine lv_iload_n (pc := 79) hx hb dX12_restore_79 rfl (lv_at hl 2 rfl) ?_
    refine lv_iadd (pc := 80) hx hb dX12_restore_80 ?_
    obtain ⟨g12, h⟩ := zGd_e h
    refine zr_lald (pc := 81) cx hP nM_9 sM_9 g12 dX12_restore_81 ?_
    obtain ⟨g13, h⟩ := zGd_e h
    obtain ⟨S14, eS14, h⟩ := zLt_e h
    refine zr_last (pc := 82) cx hq hP hS nM_7 sM_7 g13 dX12_restore_82 (fun H locs hP hS => ?_)
    rw [← eS14] at hP
    obtain ⟨x15, ex15, h⟩ := zLt_e h
    refine lv_iinc (v := x15) (lv' := [(2, .int x15), (0, .ref (q 0)), (1, .int v1)]) (pc := 83) hx hb dX12_restore_83 hl (k := 2) rfl (by rw [zc_1]; exact ex15.symm) (by decide) rfl (fun ls hl => ?_)
    refine lv_goto (pc := 86) (tgt := 60) hx hb dX12_restore_86 (by decide) ?_
    cases h
    exact hb1 _ _ hc _ _ hP hS _ (lv_sub hl [1, 2, 0] rfl)
set_option maxHeartbeats 4000000 in
set_option maxRecDepth 100000 in
theorem kX12_restore_60 {p : Program} {l : Launch} {e : Env} {s : State} {m : MethodId} {args : Array Value} {below : List Frame} {meth : Method} {c : Code} {D : va_G} {cy : Nat → ClassId} {q : Nat → Nat} {A : Nat → Prop} (cx : zX RX12 cX12_restore 3 p s m args c D cy) (hr : meth.sig.returnType = (some .boolean)) (hlk : meth.locks = false) (hq : zQ A q zNM) {z : (Int32 × zSt)} {v1 : Int32} : ∀ (n : Nat) (S : zSt) (v2 : Int32), zLp (fX12_restore_60 v1) n (S, v2) = some z → ∀ (H : Heap) (locs : List Loc), va_P D vwCl (zW zshM zNM cy q S) H → va_S A s.heap H locs → ∀ (ls : Array Slot), lv_has ls 3 [(0, .ref (q 0)), (1, .int v1), (2, .int v2)] → W p l e rmX12_restore s m args below meth c H locs 0 0 (MQ below (va_Qi (fun (r : Int32) (u : zSt) => (r, u) = z) (fun u t => va_P D vwCl (zW zshM zNM cy q u) t.heap) A) args s 0 0 A) (F0 m 60 ls []) := by
  intro n
  induction n with
  | zero =>
    intro S v2 h
    cases h
  | succ n ih =>
    intro S v2 h H locs hP hS ls hl
    obtain ⟨x, h, hk⟩ := zLp_e h
    exact kX12_restore_60B cx hr hlk hq  (C1 := zKt (fun t => zLp (fX12_restore_60 v1) n t = some z) (fun a => a = z)) (fun S v2 ht H locs hP hS ls hl => ih S v2 ht H locs hP hS ls hl) (fun a ha => ha) h hk hP hS hl
def fX12_restore_27  (v1 : Int32) (t : (zSt × Int32)) : Option ((zSt × Int32) ⊕ (Int32 × zSt)) :=
  match t with
  | (S, v2) => zBr ((406 : Int32) ≤ v2) (zXr (zLp (fX12_restore_60 v1) 2000 (S, (0 : Int32)))) (zGd (zIx (((406 : Int32) * v1) + v2) 812) (zGd (zIx v2 406) (zLt (zI S 2 v2.toNatClampNeg (S.1 4 (((406 : Int32) * v1) + v2).toNatClampNeg)) (fun S18 => zLt (v2 + (1 : Int32)) (fun x19 => some (.inl (S18, x19)))))))
set_option maxHeartbeats 4000000 in
set_option maxRecDepth 100000 in
theorem kX12_restore_27B {p : Program} {l : Launch} {e : Env} {s : State} {m : MethodId} {args : Array Value} {below : List Frame} {meth : Method} {c : Code} {D : va_G} {cy : Nat → ClassId} {q : Nat → Nat} {A : Nat → Prop} (cx : zX RX12 cX12_restore 3 p s m args c D cy) (hr : meth.sig.returnType = (some .boolean)) (hlk : meth.locks = false) (hq : zQ A q zNM) {z : (Int32 × zSt)} {S : zSt} {v1 : Int32} {v2 : Int32} {C1 : ((zSt × Int32) ⊕ (Int32 × zSt)) → Prop} (hb1 : ∀ (S : zSt) (v2 : Int32), C1 (.inl (S, v2)) → ∀ (H : Heap) (locs : List Loc), va_P D vwCl (zW zshM zNM cy q S) H → va_S A s.heap H locs → ∀ (ls : Array Slot), lv_has ls 3 [(0, .ref (q 0)), (1, .int v1), (2, .int v2)] → W p l e rmX12_restore s m args below meth c H locs 0 0 (MQ below (va_Qi (fun (r : Int32) (u : zSt) => (r, u) = z) (fun u t => va_P D vwCl (zW zshM zNM cy q u) t.heap) A) args s 0 0 A) (F0 m 27 ls [])) (hx1 : ∀ a, C1 (.inr a) → a = z) {x : ((zSt × Int32) ⊕ (Int32 × zSt))} (h : fX12_restore_27 v1 (S, v2) = some x) (hc : C1 x) {H : Heap} {locs : List Loc} (hP : va_P D vwCl (zW zshM zNM cy q S) H) (hS : va_S A s.heap H locs) {ls : Array Slot} (hl : lv_has ls 3 [(0, .ref (q 0)), (1, .int v1), (2, .int v2)]) : W p l e rmX12_restore s m args below meth c H locs 0 0 (MQ below (va_Qi (fun (r : Int32) (u : zSt) => (r, u) = z) (fun u t => va_P D vwCl (zW zshM zNM cy q u) t.heap) A) args s 0 0 A) (F0 m 27 ls []) := by
  have hx := cx.1
  have hb := cx.2.1
  unfold fX12_restore_27 at h
  dsimp only at h
  refine lv_iload_n (pc := 27) hx hb dX12_restore_27 rfl (lv_at hl 2 rfl) ?_
  refine lv_sipush (pc := 28) hx hb dX12_restore_28 zs_406 ?_
  refine lv_icmp_ge (pc := 31) (tgt := 58) hx hb dX12_restore_31 (by decide) (fun c7 => ?_) (fun c7 => ?_)
  · replace h := zBr_t c7 h
    obtain ⟨y8, h, ex⟩ := zXr_e h
    have hc := hx1 y8 (by rw [ex] at hc; exact hc)
    rw [hc] at h
    refine lv_iconst (pc := 58) hx hb dX12_restore_58 zc_0 ?_
    refine lv_istore_n (lv' := [(2, .int (0 : Int32)), (0, .ref (q 0)), (1, .int v1)]) (pc := 59) hx hb dX12_restore_59 rfl hl (by decide) rfl (fun ls hl => ?_)
    exact kX12_restore_60 cx hr hlk hq 2000 _ _ h _ _ hP hS _ (lv_sub hl [1, 2, 0] rfl)
  · replace h := zBr_f c7 h
    refine lv_aload_n (pc := 34) hx hb dX12_restore_34 rfl (lv_at hl 0 rfl) ?_
    refine zr_getR (pc := 35) (t := 2) cx lk_X12_98 hP nM_0 sM_0 rfl dX12_restore_35 ?_
    refine lv_iload_n (pc := 38) hx hb dX12_restore_38 rfl (lv_at hl 2 rfl) ?_
    refine lv_aload_n (pc := 39) hx hb dX12_restore_39 rfl (lv_at hl 0 rfl) ?_
    refine zr_getR (pc := 40) (t := 4) cx lk_X12_104 hP nM_0 sM_0 rfl dX12_restore_40 ?_
    refine lv_sipush (pc := 43) hx hb dX12_restore_43 zs_406 ?_
    refine lv_iload_n (pc := 46) hx hb dX12_restore_46 rfl (lv_at hl 1 rfl) ?_
    refine lv_imul (pc := 47) hx hb dX12_restore_47 ?_
    refine lv_iload_n (pc := 48) hx hb dX12_restore_48 rfl (lv_at hl 2 rfl) ?_
    refine lv_iadd (pc := 49) hx hb dX12_restore_49 ?_
    obtain ⟨g16, h⟩ := zGd_e h
    refine zr_iald (pc := 50) cx hP nM_4 sM_4 g16 dX12_restore_50 ?_
    obtain ⟨g17, h⟩ := zGd_e h
    obtain ⟨S18, eS18, h⟩ := zLt_e h
    refine zr_iast (pc := 51) cx hq hP hS nM_2 sM_2 g17 dX12_restore_51 (fun H locs hP hS => ?_)
    rw [← eS18] at hP
    obtain ⟨x19, ex19, h⟩ := zLt_e h
    refine lv_iinc (v := x19) (lv' := [(2, .int x19), (0, .ref (q 0)), (1, .int v1)]) (pc := 52) hx hb dX12_restore_52 hl (k := 2) rfl (by rw [zc_1]; exact ex19.symm) (by decide) rfl (fun ls hl => ?_)
    refine lv_goto (pc := 55) (tgt := 27) hx hb dX12_restore_55 (by decide) ?_
    cases h
    exact hb1 _ _ hc _ _ hP hS _ (lv_sub hl [1, 2, 0] rfl)
set_option maxHeartbeats 4000000 in
set_option maxRecDepth 100000 in
theorem kX12_restore_27 {p : Program} {l : Launch} {e : Env} {s : State} {m : MethodId} {args : Array Value} {below : List Frame} {meth : Method} {c : Code} {D : va_G} {cy : Nat → ClassId} {q : Nat → Nat} {A : Nat → Prop} (cx : zX RX12 cX12_restore 3 p s m args c D cy) (hr : meth.sig.returnType = (some .boolean)) (hlk : meth.locks = false) (hq : zQ A q zNM) {z : (Int32 × zSt)} {v1 : Int32} : ∀ (n : Nat) (S : zSt) (v2 : Int32), zLp (fX12_restore_27 v1) n (S, v2) = some z → ∀ (H : Heap) (locs : List Loc), va_P D vwCl (zW zshM zNM cy q S) H → va_S A s.heap H locs → ∀ (ls : Array Slot), lv_has ls 3 [(0, .ref (q 0)), (1, .int v1), (2, .int v2)] → W p l e rmX12_restore s m args below meth c H locs 0 0 (MQ below (va_Qi (fun (r : Int32) (u : zSt) => (r, u) = z) (fun u t => va_P D vwCl (zW zshM zNM cy q u) t.heap) A) args s 0 0 A) (F0 m 27 ls []) := by
  intro n
  induction n with
  | zero =>
    intro S v2 h
    cases h
  | succ n ih =>
    intro S v2 h H locs hP hS ls hl
    obtain ⟨x, h, hk⟩ := zLp_e h
    exact kX12_restore_27B cx hr hlk hq  (C1 := zKt (fun t => zLp (fX12_restore_27 v1) n t = some z) (fun a => a = z)) (fun S v2 ht H locs hP hS ls hl => ih S v2 ht H locs hP hS ls hl) (fun a ha => ha) h hk hP hS hl
def fX12_restore (S : zSt) (v1 : Int32) : Option (Int32 × zSt) :=
  zLt (zI S 0 0 (0 : Int32)) (fun S1 => zBd (fX12_isIn v1 (0 : Int32) (1 : Int32)) (fun r3 => zBr (r3 = 0) (some ((0 : Int32), S1)) (zGd (zIx v1 2) (zBr ((S1.1 10 v1.toNatClampNeg) = 0) (some ((0 : Int32), S1)) (zLp (fX12_restore_27 v1) 2000 (S1, (0 : Int32)))))))
set_option maxHeartbeats 4000000 in
set_option maxRecDepth 100000 in
theorem mX12_restore {l : Launch} {D : va_G} {cy : Nat → ClassId} {q : Nat → Nat} {A : Nat → Prop} {S : zSt} {v1 : Int32} (hq : zQ A q zNM) {z : (Int32 × zSt)} (h : fX12_restore S v1 = some z) : zMq l yX12_restore cX12_restore 3 (some .boolean) rmX12_restore [.ref (q 0), .int v1] zshM zNM D cy q A S z := by
  refine Met.ofW (cc := cX12_restore) (maxL := 3) (ret := (some .boolean)) (by decide) rfl ?_
  intro p e s m args below meth c s₁ B hml hv
  obtain ⟨rfl, hP, hK⟩ := hv
  have cx : zX RX12 cX12_restore 3 p s m ([.ref (q 0), .int v1]).toArray c D cy := ⟨B.exec, B.bytes, hml, findClass_of_methodNamed B.named, fun w hw => atoms_spec (ws := Cond.code yX12_restore cX12_restore 3 (some .boolean) :: zTB) B.pre w (List.mem_cons_of_mem _ hw), hK⟩
  have hx := cx.1
  have hb := cx.2.1
  have hr := B.returns
  have hlk := B.notSynchronized
  have hS : va_S A s.heap s.heap [] := va_S.rf
  have hl := lv_entry ([.ref (q 0), .int v1]) (n := 3) (Nat.le_of_ble_eq_true rfl)
  rw [lg_entry_eq]
  generalize (lg_sl ([.ref (q 0), .int v1]) ++ List.replicate (3 - (lg_sl ([.ref (q 0), .int v1])).length) Slot.unset).toArray = ls at hl ⊢
  have hl : lv_has ls 3 [(0, .ref (q 0)), (1, .int v1)] := hl
  unfold fX12_restore at h
  refine lv_aload_n (pc := 0) hx hb dX12_restore_0 rfl (lv_at hl 0 rfl) ?_
  refine lv_iconst (pc := 1) hx hb dX12_restore_1 zc_0 ?_
  obtain ⟨S1, eS1, h⟩ := zLt_e h
  refine zr_putI (pc := 2) cx lq_X12_1 hq hP hS nM_0 sM_0 rfl rfl rfl dX12_restore_2 (fun H locs hP hS => ?_)
  rw [← eS1] at hP
  refine lv_iload_n (pc := 5) hx hb dX12_restore_5 rfl (lv_at hl 1 rfl) ?_
  refine lv_iconst (pc := 6) hx hb dX12_restore_6 zc_0 ?_
  refine lv_iconst (pc := 7) hx hb dX12_restore_7 zc_1 ?_
  obtain ⟨r3, k2, h⟩ := zBd_e h
  refine zr_SI (pc := 8) (rest := []) cx cv_X12_75 (mX12_isIn k2) ⟨⟨rfl, rfl⟩, Nat.le_of_ble_eq_true rfl, Nat.le_of_ble_eq_true rfl⟩ ⟨Nat.le_of_ble_eq_true rfl, Nat.le_of_ble_eq_true rfl⟩ (zr_preK cx) hl.1 rfl rfl (Nat.le_of_ble_eq_true rfl) dX12_restore_8 ?_
  refine lv_if_eq (pc := 11) (tgt := 23) hx hb dX12_restore_11 (by decide) (fun c4 => ?_) (fun c4 => ?_)
  · replace h := zBr_t c4 h
    refine lv_iconst (pc := 23) hx hb dX12_restore_23 zc_0 ?_
    have hz := Option.some.inj h
    exact zr_rqZ (pc := 24) cx hr hlk hP hS hz (by decide) dX12_restore_24
  · replace h := zBr_f c4 h
    refine lv_aload_n (pc := 14) hx hb dX12_restore_14 rfl (lv_at hl 0 rfl) ?_
    refine zr_getR (pc := 15) (t := 10) cx lk_X12_123 hP nM_0 sM_0 rfl dX12_restore_15 ?_
    refine lv_iload_n (pc := 18) hx hb dX12_restore_18 rfl (lv_at hl 1 rfl) ?_
    obtain ⟨g5, h⟩ := zGd_e h
    refine zr_zald (pc := 19) cx hP nM_10 sM_10 g5 dX12_restore_19 ?_
    refine lv_if_ne (pc := 20) (tgt := 25) hx hb dX12_restore_20 (by decide) (fun c6 => ?_) (fun c6 => ?_)
    · replace h := zBr_f c6 h
      refine lv_iconst (pc := 25) hx hb dX12_restore_25 zc_0 ?_
      refine lv_istore_n (lv' := [(2, .int (0 : Int32)), (0, .ref (q 0)), (1, .int v1)]) (pc := 26) hx hb dX12_restore_26 rfl hl (by decide) rfl (fun ls hl => ?_)
      exact kX12_restore_27 cx hr hlk hq 2000 _ _ h _ _ hP hS _ (lv_sub hl [1, 2, 0] rfl)
    · replace h := zBr_t c6 h
      refine lv_iconst (pc := 23) hx hb dX12_restore_23 zc_0 ?_
      have hz := Option.some.inj h
      exact zr_rqZ (pc := 24) cx hr hlk hP hS hz (by decide) dX12_restore_24
-- X12_round
abbrev rmX12_round : Room := { frames := 2, cells := 0, slots := 0, locals := 46 }
def fX12_round_153 (S : zSt)  (v2 : Int32) (v3 : Int32) (v4 : Int32) (v5 : Int32) (v6 : Int32) : Option (Int32 ⊕ ((zSt × Int32 × Int32 × Int32) ⊕ (Int32 × zSt))) :=
  zLt (v6 + (1 : Int32)) (fun x23 => some (.inl (x23)))
set_option maxHeartbeats 4000000 in
set_option maxRecDepth 100000 in
theorem kX12_round_153 {p : Program} {l : Launch} {e : Env} {s : State} {m : MethodId} {args : Array Value} {below : List Frame} {meth : Method} {c : Code} {D : va_G} {cy : Nat → ClassId} {q : Nat → Nat} {A : Nat → Prop} (cx : zX RX12 cX12_round 7 p s m args c D cy) (hr : meth.sig.returnType = (some .int)) (hlk : meth.locks = false) (hq : zQ A q zNM) {z : (Int32 × zSt)} {S : zSt} {v2 : Int32} {v3 : Int32} {v4 : Int32} {v5 : Int32} {v6 : Int32} {C1 : ((zSt × Int32 × Int32 × Int32) ⊕ (Int32 × zSt)) → Prop} (hb1 : ∀ (S : zSt) (v2 : Int32) (v4 : Int32) (v5 : Int32), C1 (.inl (S, v2, v4, v5)) → ∀ (H : Heap) (locs : List Loc), va_P D vwCl (zW zshM zNM cy q S) H → va_S A s.heap H locs → ∀ (ls : Array Slot), lv_has ls 7 [(0, .ref (q 0)), (2, .int v2), (3, .int v3), (4, .int v4), (5, .int v5)] → W p l e rmX12_round s m args below meth c H locs 0 0 (MQ below (va_Qi (fun (r : Int32) (u : zSt) => (r, u) = z) (fun u t => va_P D vwCl (zW zshM zNM cy q u) t.heap) A) args s 0 0 A) (F0 m 99 ls [])) (hx1 : ∀ a, C1 (.inr a) → a = z) {C2 : (Int32 ⊕ ((zSt × Int32 × Int32 × Int32) ⊕ (Int32 × zSt))) → Prop} (hb2 : ∀ (v6 : Int32), C2 (.inl (v6)) → ∀ (H : Heap) (locs : List Loc), va_P D vwCl (zW zshM zNM cy q S) H → va_S A s.heap H locs → ∀ (ls : Array Slot), lv_has ls 7 [(0, .ref (q 0)), (2, .int v2), (3, .int v3), (4, .int v4), (5, .int v5), (6, .int v6)] → W p l e rmX12_round s m args below meth c H locs 0 0 (MQ below (va_Qi (fun (r : Int32) (u : zSt) => (r, u) = z) (fun u t => va_P D vwCl (zW zshM zNM cy q u) t.heap) A) args s 0 0 A) (F0 m 108 ls [])) (hx2 : ∀ a, C2 (.inr a) → C1 a) {x : (Int32 ⊕ ((zSt × Int32 × Int32 × Int32) ⊕ (Int32 × zSt)))} (h : fX12_round_153 S v2 v3 v4 v5 v6 = some x) (hc : C2 x) {H : Heap} {locs : List Loc} (hP : va_P D vwCl (zW zshM zNM cy q S) H) (hS : va_S A s.heap H locs) {ls : Array Slot} (hl : lv_has ls 7 [(0, .ref (q 0)), (2, .int v2), (3, .int v3), (4, .int v4), (5, .int v5), (6, .int v6)]) : W p l e rmX12_round s m args below meth c H locs 0 0 (MQ below (va_Qi (fun (r : Int32) (u : zSt) => (r, u) = z) (fun u t => va_P D vwCl (zW zshM zNM cy q u) t.heap) A) args s 0 0 A) (F0 m 153 ls []) := by
  have hx := cx.1
  have hb := cx.2.1
  unfold fX12_round_153 at h
  obtain ⟨x23, ex23, h⟩ := zLt_e h
  refine lv_iinc (v := x23) (lv' := [(6, .int x23), (0, .ref (q 0)), (2, .int v2), (3, .int v3), (4, .int v4), (5, .int v5)]) (pc := 153) hx hb dX12_round_153 hl (k := 5) rfl (by rw [zc_1]; exact ex23.symm) (by decide) rfl (fun ls hl => ?_)
  refine lv_goto (pc := 156) (tgt := 108) hx hb dX12_round_156 (by decide) ?_
  cases h
  exact hb2 _ hc _ _ hP hS _ (lv_sub hl [1, 2, 3, 4, 5, 0] rfl)
def fX12_round_108 (S : zSt)  (v2 : Int32) (v3 : Int32) (v4 : Int32) (v5 : Int32) (t : Int32) : Option (Int32 ⊕ ((zSt × Int32 × Int32 × Int32) ⊕ (Int32 × zSt))) :=
  match t with
  | v6 => zGd (zIx ((6 : Int32) + v4) 406) (zBd (fX12_has (S.1 2 ((6 : Int32) + v4).toNatClampNeg) v6) (fun r21 => zBr (r21 = 0) (fX12_round_153 S v2 v3 v4 v5 v6) (zBd (fX12_cellOf v6 (v2 &&& (((1 : Int32) <<< (v6 &&& 31)) ^^^ (-1 : Int32)))) (fun r25 => zGd (zIx r25 160) (zBr ((S.1 12 r25.toNatClampNeg) = ((v3 - v5) - (1 : Int32))) (zXr (zGd (zIx v5 32) (zLt (zI S 13 v5.toNatClampNeg v6) (fun S30 => zLt (v2 &&& (((1 : Int32) <<< (v6 &&& 31)) ^^^ (-1 : Int32))) (fun x31 => zLt (v5 + (1 : Int32)) (fun x32 => some (.inl (S30, x31, v6, x32)))))))) (fX12_round_153 S v2 v3 v4 v5 v6))))))
set_option maxHeartbeats 4000000 in
set_option maxRecDepth 100000 in
theorem kX12_round_108B {p : Program} {l : Launch} {e : Env} {s : State} {m : MethodId} {args : Array Value} {below : List Frame} {meth : Method} {c : Code} {D : va_G} {cy : Nat → ClassId} {q : Nat → Nat} {A : Nat → Prop} (cx : zX RX12 cX12_round 7 p s m args c D cy) (hr : meth.sig.returnType = (some .int)) (hlk : meth.locks = false) (hq : zQ A q zNM) {z : (Int32 × zSt)} {S : zSt} {v2 : Int32} {v3 : Int32} {v4 : Int32} {v5 : Int32} {v6 : Int32} {C1 : ((zSt × Int32 × Int32 × Int32) ⊕ (Int32 × zSt)) → Prop} (hb1 : ∀ (S : zSt) (v2 : Int32) (v4 : Int32) (v5 : Int32), C1 (.inl (S, v2, v4, v5)) → ∀ (H : Heap) (locs : List Loc), va_P D vwCl (zW zshM zNM cy q S) H → va_S A s.heap H locs → ∀ (ls : Array Slot), lv_has ls 7 [(0, .ref (q 0)), (2, .int v2), (3, .int v3), (4, .int v4), (5, .int v5)] → W p l e rmX12_round s m args below meth c H locs 0 0 (MQ below (va_Qi (fun (r : Int32) (u : zSt) => (r, u) = z) (fun u t => va_P D vwCl (zW zshM zNM cy q u) t.heap) A) args s 0 0 A) (F0 m 99 ls [])) (hx1 : ∀ a, C1 (.inr a) → a = z) {C2 : (Int32 ⊕ ((zSt × Int32 × Int32 × Int32) ⊕ (Int32 × zSt))) → Prop} (hb2 : ∀ (v6 : Int32), C2 (.inl (v6)) → ∀ (H : Heap) (locs : List Loc), va_P D vwCl (zW zshM zNM cy q S) H → va_S A s.heap H locs → ∀ (ls : Array Slot), lv_has ls 7 [(0, .ref (q 0)), (2, .int v2), (3, .int v3), (4, .int v4), (5, .int v5), (6, .int v6)] → W p l e rmX12_round s m args below meth c H locs 0 0 (MQ below (va_Qi (fun (r : Int32) (u : zSt) => (r, u) = z) (fun u t => va_P D vwCl (zW zshM zNM cy q u) t.heap) A) args s 0 0 A) (F0 m 108 ls [])) (hx2 : ∀ a, C2 (.inr a) → C1 a) {x : (Int32 ⊕ ((zSt × Int32 × Int32 × Int32) ⊕ (Int32 × zSt)))} (h : fX12_round_108 S v2 v3 v4 v5 (v6) = some x) (hc : C2 x) {H : Heap} {locs : List Loc} (hP : va_P D vwCl (zW zshM zNM cy q S) H) (hS : va_S A s.heap H locs) {ls : Array Slot} (hl : lv_has ls 7 [(0, .ref (q 0)), (2, .int v2), (3, .int v3), (4, .int v4), (5, .int v5), (6, .int v6)]) : W p l e rmX12_round s m args below meth c H locs 0 0 (MQ below (va_Qi (fun (r : Int32) (u : zSt) => (r, u) = z) (fun u t => va_P D vwCl (zW zshM zNM cy q u) t.heap) A) args s 0 0 A) (F0 m 108 ls []) := by
  have hx := cx.1
  have hb := cx.2.1
  unfold fX12_round_108 at h
  dsimp only at h
  refine lv_aload_n (pc := 108) hx hb dX12_round_108 rfl (lv_at hl 0 rfl) ?_
  refine zr_getR (pc := 109) (t := 2) cx lk_X12_98 hP nM_0 sM_0 rfl dX12_round_109 ?_
  refine lv_bipush (pc := 112) hx hb dX12_round_112 zb_6 ?_
  refine lv_iload (pc := 114) hx hb dX12_round_114 (lv_at hl 3 rfl) ?_
  refine lv_iadd (pc := 116) hx hb dX12_round_116 ?_
  obtain ⟨g19, h⟩ := zGd_e h
  refine zr_iald (pc := 117) cx hP nM_2 sM_2 g19 dX12_round_117 ?_
  refine lv_iload (pc := 118) hx hb dX12_round_118 (lv_at hl 5 rfl) ?_
  obtain ⟨r21, k20, h⟩ := zBd_e h
  refine zr_SI (pc := 120) (rest := []) cx cv_X12_181 (mX12_has k20) ⟨⟨rfl, rfl⟩, Nat.le_of_ble_eq_true rfl, Nat.le_of_ble_eq_true rfl⟩ ⟨Nat.le_of_ble_eq_true rfl, Nat.le_of_ble_eq_true rfl⟩ (zr_preK cx) hl.1 rfl rfl (Nat.le_of_ble_eq_true rfl) dX12_round_120 ?_
  refine lv_if_eq (pc := 123) (tgt := 153) hx hb dX12_round_123 (by decide) (fun c22 => ?_) (fun c22 => ?_)
  · replace h := zBr_t c22 h
    exact kX12_round_153 cx hr hlk hq hb1 hx1 hb2 hx2 h hc hP hS (lv_sub hl [0, 1, 2, 3, 4, 5] rfl)
  · replace h := zBr_f c22 h
    refine lv_aload_n (pc := 126) hx hb dX12_round_126 rfl (lv_at hl 0 rfl) ?_
    refine zr_getR (pc := 127) (t := 12) cx lk_X12_136 hP nM_0 sM_0 rfl dX12_round_127 ?_
    refine lv_iload (pc := 130) hx hb dX12_round_130 (lv_at hl 5 rfl) ?_
    refine lv_iload_n (pc := 132) hx hb dX12_round_132 rfl (lv_at hl 1 rfl) ?_
    refine lv_iconst (pc := 133) hx hb dX12_round_133 zc_1 ?_
    refine lv_iload (pc := 134) hx hb dX12_round_134 (lv_at hl 5 rfl) ?_
    refine lv_ishl (pc := 136) hx hb dX12_round_136 ?_
    refine lv_iconst (pc := 137) hx hb dX12_round_137 zc_m1 ?_
    refine lv_ixor (pc := 138) hx hb dX12_round_138 ?_
    refine lv_iand (pc := 139) hx hb dX12_round_139 ?_
    obtain ⟨r25, k24, h⟩ := zBd_e h
    refine zr_SI (pc := 140) (rest := [.ref (q 12)]) cx cv_X12_311 (mX12_cellOf k24) ⟨⟨rfl, rfl⟩, Nat.le_of_ble_eq_true rfl, Nat.le_of_ble_eq_true rfl⟩ ⟨Nat.le_of_ble_eq_true rfl, Nat.le_of_ble_eq_true rfl⟩ (zr_preK cx) hl.1 rfl rfl (Nat.le_of_ble_eq_true rfl) dX12_round_140 ?_
    obtain ⟨g26, h⟩ := zGd_e h
    refine zr_iald (pc := 143) cx hP nM_12 sM_12 g26 dX12_round_143 ?_
    refine lv_iload_n (pc := 144) hx hb dX12_round_144 rfl (lv_at hl 2 rfl) ?_
    refine lv_iload (pc := 145) hx hb dX12_round_145 (lv_at hl 4 rfl) ?_
    refine lv_isub (pc := 147) hx hb dX12_round_147 ?_
    refine lv_iconst (pc := 148) hx hb dX12_round_148 zc_1 ?_
    refine lv_isub (pc := 149) hx hb dX12_round_149 ?_
    refine lv_icmp_eq (pc := 150) (tgt := 159) hx hb dX12_round_150 (by decide) (fun c27 => ?_) (fun c27 => ?_)
    · replace h := zBr_t c27 h
      obtain ⟨y28, h, ex⟩ := zXr_e h
      have hc := hx2 y28 (by rw [ex] at hc; exact hc)
      refine lv_aload_n (pc := 159) hx hb dX12_round_159 rfl (lv_at hl 0 rfl) ?_
      refine zr_getR (pc := 160) (t := 13) cx lk_X12_139 hP nM_0 sM_0 rfl dX12_round_160 ?_
      refine lv_iload (pc := 163) hx hb dX12_round_163 (lv_at hl 4 rfl) ?_
      refine lv_iload (pc := 165) hx hb dX12_round_165 (lv_at hl 5 rfl) ?_
      obtain ⟨g29, h⟩ := zGd_e h
      obtain ⟨S30, eS30, h⟩ := zLt_e h
      refine zr_iast (pc := 167) cx hq hP hS nM_13 sM_13 g29 dX12_round_167 (fun H locs hP hS => ?_)
      rw [← eS30] at hP
      refine lv_iload_n (pc := 168) hx hb dX12_round_168 rfl (lv_at hl 1 rfl) ?_
      refine lv_iconst (pc := 169) hx hb dX12_round_169 zc_1 ?_
      refine lv_iload (pc := 170) hx hb dX12_round_170 (lv_at hl 5 rfl) ?_
      refine lv_ishl (pc := 172) hx hb dX12_round_172 ?_
      refine lv_iconst (pc := 173) hx hb dX12_round_173 zc_m1 ?_
      refine lv_ixor (pc := 174) hx hb dX12_round_174 ?_
      refine lv_iand (pc := 175) hx hb dX12_round_175 ?_
      obtain ⟨x31, ex31, h⟩ := zLt_e h
      refine zr_nmI ex31 ?_
      refine lv_istore_n (lv' := [(2, .int x31), (0, .ref (q 0)), (3, .int v3), (4, .int v4), (5, .int v5), (6, .int v6)]) (pc := 176) hx hb dX12_round_176 rfl hl (by decide) rfl (fun ls hl => ?_)
      refine lv_iload (pc := 177) hx hb dX12_round_177 (lv_at hl 5 rfl) ?_
      refine lv_istore (lv' := [(4, .int v6), (2, .int x31), (0, .ref (q 0)), (3, .int v3), (5, .int v5), (6, .int v6)]) (pc := 179) hx hb dX12_round_179 hl (by decide) rfl (fun ls hl => ?_)
      obtain ⟨x32, ex32, h⟩ := zLt_e h
      refine lv_iinc (v := x32) (lv' := [(5, .int x32), (4, .int v6), (2, .int x31), (0, .ref (q 0)), (3, .int v3), (6, .int v6)]) (pc := 181) hx hb dX12_round_181 hl (k := 4) rfl (by rw [zc_1]; exact ex32.symm) (by decide) rfl (fun ls hl => ?_)
      refine lv_goto (pc := 184) (tgt := 99) hx hb dX12_round_184 (by decide) ?_
      cases h
      exact hb1 _ _ _ _ hc _ _ hP hS _ (lv_sub hl [3, 2, 4, 1, 0] rfl)
    · replace h := zBr_f c27 h
      exact kX12_round_153 cx hr hlk hq hb1 hx1 hb2 hx2 h hc hP hS (lv_sub hl [0, 1, 2, 3, 4, 5] rfl)
set_option maxHeartbeats 4000000 in
set_option maxRecDepth 100000 in
theorem kX12_round_108 {p : Program} {l : Launch} {e : Env} {s : State} {m : MethodId} {args : Array Value} {below : List Frame} {meth : Method} {c : Code} {D : va_G} {cy : Nat → ClassId} {q : Nat → Nat} {A : Nat → Prop} (cx : zX RX12 cX12_round 7 p s m args c D cy) (hr : meth.sig.returnType = (some .int)) (hlk : meth.locks = false) (hq : zQ A q zNM) {z : (Int32 × zSt)} {S : zSt} {v2 : Int32} {v3 : Int32} {v4 : Int32} {v5 : Int32} {C1 : ((zSt × Int32 × Int32 × Int32) ⊕ (Int32 × zSt)) → Prop} (hb1 : ∀ (S : zSt) (v2 : Int32) (v4 : Int32) (v5 : Int32), C1 (.inl (S, v2, v4, v5)) → ∀ (H : Heap) (locs : List Loc), va_P D vwCl (zW zshM zNM cy q S) H → va_S A s.heap H locs → ∀ (ls : Array Slot), lv_has ls 7 [(0, .ref (q 0)), (2, .int v2), (3, .int v3), (4, .int v4), (5, .int v5)] → W p l e rmX12_round s m args below meth c H locs 0 0 (MQ below (va_Qi (fun (r : Int32) (u : zSt) => (r, u) = z) (fun u t => va_P D vwCl (zW zshM zNM cy q u) t.heap) A) args s 0 0 A) (F0 m 99 ls [])) (hx1 : ∀ a, C1 (.inr a) → a = z) {xo : ((zSt × Int32 × Int32 × Int32) ⊕ (Int32 × zSt))} (hc : C1 xo) : ∀ (n : Nat) (v6 : Int32), zLp (fX12_round_108 S v2 v3 v4 v5) n (v6) = some xo → ∀ (H : Heap) (locs : List Loc), va_P D vwCl (zW zshM zNM cy q S) H → va_S A s.heap H locs → ∀ (ls : Array Slot), lv_has ls 7 [(0, .ref (q 0)), (2, .int v2), (3, .int v3), (4, .int v4), (5, .int v5), (6, .int v6)] → W p l e rmX12_round s m args below meth c H locs 0 0 (MQ below (va_Qi (fun (r : Int32) (u : zSt) => (r, u) = z) (fun u t => va_P D vwCl (zW zshM zNM cy q u) t.heap) A) args s 0 0 A) (F0 m 108 ls []) := by
  intro n
  induction n with
  | zero =>
    intro v6 h
    cases h
  | succ n ih =>
    intro v6 h H locs hP hS ls hl
    obtain ⟨x, h, hk⟩ := zLp_e h
    exact kX12_round_108B cx hr hlk hq hb1 hx1 (C2 := zKt (fun t => zLp (fX12_round_108 S v2 v3 v4 v5) n t = some xo) (fun a => a = xo)) (fun v6 ht H locs hP hS ls hl => ih v6 ht H locs hP hS ls hl) (fun a ha => ha ▸ hc) h hk hP hS hl
def fX12_round_99  (v3 : Int32) (t : (zSt × Int32 × Int32 × Int32)) : Option ((zSt × Int32 × Int32 × Int32) ⊕ (Int32 × zSt)) :=
  match t with
  | (S, v2, v4, v5) => zBr (v3 ≤ v5) (zXr (zLt (zI S 0 29 v3) (fun S18 => some (v3, S18)))) (zLp (fX12_round_108 S v2 v3 v4 v5) 2000 ((0 : Int32)))
set_option maxHeartbeats 4000000 in
set_option maxRecDepth 100000 in
theorem kX12_round_99B {p : Program} {l : Launch} {e : Env} {s : State} {m : MethodId} {args : Array Value} {below : List Frame} {meth : Method} {c : Code} {D : va_G} {cy : Nat → ClassId} {q : Nat → Nat} {A : Nat → Prop} (cx : zX RX12 cX12_round 7 p s m args c D cy) (hr : meth.sig.returnType = (some .int)) (hlk : meth.locks = false) (hq : zQ A q zNM) {z : (Int32 × zSt)} {S : zSt} {v2 : Int32} {v3 : Int32} {v4 : Int32} {v5 : Int32} {C1 : ((zSt × Int32 × Int32 × Int32) ⊕ (Int32 × zSt)) → Prop} (hb1 : ∀ (S : zSt) (v2 : Int32) (v4 : Int32) (v5 : Int32), C1 (.inl (S, v2, v4, v5)) → ∀ (H : Heap) (locs : List Loc), va_P D vwCl (zW zshM zNM cy q S) H → va_S A s.heap H locs → ∀ (ls : Array Slot), lv_has ls 7 [(0, .ref (q 0)), (2, .int v2), (3, .int v3), (4, .int v4), (5, .int v5)] → W p l e rmX12_round s m args below meth c H locs 0 0 (MQ below (va_Qi (fun (r : Int32) (u : zSt) => (r, u) = z) (fun u t => va_P D vwCl (zW zshM zNM cy q u) t.heap) A) args s 0 0 A) (F0 m 99 ls [])) (hx1 : ∀ a, C1 (.inr a) → a = z) {x : ((zSt × Int32 × Int32 × Int32) ⊕ (Int32 × zSt))} (h : fX12_round_99 v3 (S, v2, v4, v5) = some x) (hc : C1 x) {H : Heap} {locs : List Loc} (hP : va_P D vwCl (zW zshM zNM cy q S) H) (hS : va_S A s.heap H locs) {ls : Array Slot} (hl : lv_has ls 7 [(0, .ref (q 0)), (2, .int v2), (3, .int v3), (4, .int v4), (5, .int v5)]) : W p l e rmX12_round s m args below meth c H locs 0 0 (MQ below (va_Qi (fun (r : Int32) (u : zSt) => (r, u) = z) (fun u t => va_P D vwCl (zW zshM zNM cy q u) t.heap) A) args s 0 0 A) (F0 m 99 ls []) := by
  have hx := cx.1
  have hb := cx.2.1
  unfold fX12_round_99 at h
  dsimp only at h
  refine lv_iload (pc := 99) hx hb dX12_round_99 (lv_at hl 4 rfl) ?_
  refine lv_iload_n (pc := 101) hx hb dX12_round_101 rfl (lv_at hl 2 rfl) ?_
  refine lv_icmp_ge (pc := 102) (tgt := 187) hx hb dX12_round_102 (by decide) (fun c16 => ?_) (fun c16 => ?_)
  · replace h := zBr_t c16 h
    obtain ⟨y17, h, ex⟩ := zXr_e h
    have hc := hx1 y17 (by rw [ex] at hc; exact hc)
    rw [hc] at h
    refine lv_aload_n (pc := 187) hx hb dX12_round_187 rfl (lv_at hl 0 rfl) ?_
    refine lv_iload_n (pc := 188) hx hb dX12_round_188 rfl (lv_at hl 2 rfl) ?_
    obtain ⟨S18, eS18, h⟩ := zLt_e h
    refine zr_putI (pc := 189) cx lq_X12_317 hq hP hS nM_0 sM_0 rfl rfl rfl dX12_round_189 (fun H locs hP hS => ?_)
    rw [← eS18] at hP
    refine lv_iload_n (pc := 192) hx hb dX12_round_192 rfl (lv_at hl 2 rfl) ?_
    have hz := Option.some.inj h
    exact zr_rqI (pc := 193) cx hr hlk hP hS hz dX12_round_193
  · replace h := zBr_f c16 h
    refine lv_iconst (pc := 105) hx hb dX12_round_105 zc_0 ?_
    refine lv_istore (lv' := [(6, .int (0 : Int32)), (0, .ref (q 0)), (2, .int v2), (3, .int v3), (4, .int v4), (5, .int v5)]) (pc := 106) hx hb dX12_round_106 hl (by decide) rfl (fun ls hl => ?_)
    exact kX12_round_108 cx hr hlk hq hb1 hx1 hc 2000 _ h _ _ hP hS _ (lv_sub hl [1, 2, 3, 4, 5, 0] rfl)
set_option maxHeartbeats 4000000 in
set_option maxRecDepth 100000 in
theorem kX12_round_99 {p : Program} {l : Launch} {e : Env} {s : State} {m : MethodId} {args : Array Value} {below : List Frame} {meth : Method} {c : Code} {D : va_G} {cy : Nat → ClassId} {q : Nat → Nat} {A : Nat → Prop} (cx : zX RX12 cX12_round 7 p s m args c D cy) (hr : meth.sig.returnType = (some .int)) (hlk : meth.locks = false) (hq : zQ A q zNM) {z : (Int32 × zSt)} {v3 : Int32} : ∀ (n : Nat) (S : zSt) (v2 : Int32) (v4 : Int32) (v5 : Int32), zLp (fX12_round_99 v3) n (S, v2, v4, v5) = some z → ∀ (H : Heap) (locs : List Loc), va_P D vwCl (zW zshM zNM cy q S) H → va_S A s.heap H locs → ∀ (ls : Array Slot), lv_has ls 7 [(0, .ref (q 0)), (2, .int v2), (3, .int v3), (4, .int v4), (5, .int v5)] → W p l e rmX12_round s m args below meth c H locs 0 0 (MQ below (va_Qi (fun (r : Int32) (u : zSt) => (r, u) = z) (fun u t => va_P D vwCl (zW zshM zNM cy q u) t.heap) A) args s 0 0 A) (F0 m 99 ls []) := by
  intro n
  induction n with
  | zero =>
    intro S v2 v4 v5 h
    cases h
  | succ n ih =>
    intro S v2 v4 v5 h H locs hP hS ls hl
    obtain ⟨x, h, hk⟩ := zLp_e h
    exact kX12_round_99B cx hr hlk hq  (C1 := zKt (fun t => zLp (fX12_round_99 v3) n t = some z) (fun a => a = z)) (fun S v2 v4 v5 ht H locs hP hS ls hl => ih S v2 v4 v5 ht H locs hP hS ls hl) (fun a ha => ha) h hk hP hS hl
def fX12_round_55 (S : zSt)  (v1 : Int32) (v2 : Int32) (v3 : Int32) : Option ((Int32 × Int32) ⊕ (Int32 × zSt)) :=
  zLt (v3 + (1 : Int32)) (fun x35 => some (.inl (v2, x35)))
set_option maxHeartbeats 4000000 in
set_option maxRecDepth 100000 in
theorem kX12_round_55 {p : Program} {l : Launch} {e : Env} {s : State} {m : MethodId} {args : Array Value} {below : List Frame} {meth : Method} {c : Code} {D : va_G} {cy : Nat → ClassId} {q : Nat → Nat} {A : Nat → Prop} (cx : zX RX12 cX12_round 7 p s m args c D cy) (hr : meth.sig.returnType = (some .int)) (hlk : meth.locks = false) (hq : zQ A q zNM) {z : (Int32 × zSt)} {S : zSt} {v1 : Int32} {v2 : Int32} {v3 : Int32} {C1 : ((Int32 × Int32) ⊕ (Int32 × zSt)) → Prop} (hb1 : ∀ (v2 : Int32) (v3 : Int32), C1 (.inl (v2, v3)) → ∀ (H : Heap) (locs : List Loc), va_P D vwCl (zW zshM zNM cy q S) H → va_S A s.heap H locs → ∀ (ls : Array Slot), lv_has ls 7 [(0, .ref (q 0)), (1, .int v1), (2, .int v2), (3, .int v3)] → W p l e rmX12_round s m args below meth c H locs 0 0 (MQ below (va_Qi (fun (r : Int32) (u : zSt) => (r, u) = z) (fun u t => va_P D vwCl (zW zshM zNM cy q u) t.heap) A) args s 0 0 A) (F0 m 19 ls [])) (hx1 : ∀ a, C1 (.inr a) → a = z) {x : ((Int32 × Int32) ⊕ (Int32 × zSt))} (h : fX12_round_55 S v1 v2 v3 = some x) (hc : C1 x) {H : Heap} {locs : List Loc} (hP : va_P D vwCl (zW zshM zNM cy q S) H) (hS : va_S A s.heap H locs) {ls : Array Slot} (hl : lv_has ls 7 [(0, .ref (q 0)), (1, .int v1), (2, .int v2), (3, .int v3)]) : W p l e rmX12_round s m args below meth c H locs 0 0 (MQ below (va_Qi (fun (r : Int32) (u : zSt) => (r, u) = z) (fun u t => va_P D vwCl (zW zshM zNM cy q u) t.heap) A) args s 0 0 A) (F0 m 55 ls []) := by
  have hx := cx.1
  have hb := cx.2.1
  unfold fX12_round_55 at h
  obtain ⟨x35, ex35, h⟩ := zLt_e h
  refine lv_iinc (v := x35) (lv' := [(3, .int x35), (0, .ref (q 0)), (1, .int v1), (2, .int v2)]) (pc := 55) hx hb dX12_round_55 hl (k := 3) rfl (by rw [zc_1]; exact ex35.symm) (by decide) rfl (fun ls hl => ?_)
  refine lv_goto (pc := 58) (tgt := 19) hx hb dX12_round_58 (by decide) ?_
  cases h
  exact hb1 _ _ hc _ _ hP hS _ (lv_sub hl [1, 2, 3, 0] rfl)
def fX12_round_19 (S : zSt)  (v1 : Int32) (t : (Int32 × Int32)) : Option ((Int32 × Int32) ⊕ (Int32 × zSt)) :=
  match t with
  | (v2, v3) => zGd (zIx (1 : Int32) 406) (zBr ((S.1 2 (1 : Int32).toNatClampNeg) ≤ v3) (zXr (zLt (v2 &&& (((1 : Int32) <<< (v1 &&& 31)) ^^^ (-1 : Int32))) (fun x8 => zBd (fX12_laySteps S) (fun S10 => zBd (fX12_cellOf v1 x8) (fun r12 => zGd (zIx r12 160) (zLt (S10.1 12 r12.toNatClampNeg) (fun x14 => zBr (x14 < (100000 : Int32)) (zLp (fX12_round_99 x14) 2000 (S10, x8, v1, (0 : Int32))) (some ((-1 : Int32), S10))))))))) (zGd (zIx ((32 : Int32) + v3) 406) (zBr ((S.1 2 ((32 : Int32) + v3).toNatClampNeg) ≤ 0) (fX12_round_55 S v1 v2 v3) (zGd (zIx ((26 : Int32) + v3) 406) (zLt (v2 ||| ((1 : Int32) <<< ((S.1 2 ((26 : Int32) + v3).toNatClampNeg) &&& 31))) (fun x37 => fX12_round_55 S v1 x37 v3))))))
set_option maxHeartbeats 4000000 in
set_option maxRecDepth 100000 in
theorem kX12_round_19B {p : Program} {l : Launch} {e : Env} {s : State} {m : MethodId} {args : Array Value} {below : List Frame} {meth : Method} {c : Code} {D : va_G} {cy : Nat → ClassId} {q : Nat → Nat} {A : Nat → Prop} (cx : zX RX12 cX12_round 7 p s m args c D cy) (hr : meth.sig.returnType = (some .int)) (hlk : meth.locks = false) (hq : zQ A q zNM) {z : (Int32 × zSt)} {S : zSt} {v1 : Int32} {v2 : Int32} {v3 : Int32} {C1 : ((Int32 × Int32) ⊕ (Int32 × zSt)) → Prop} (hb1 : ∀ (v2 : Int32) (v3 : Int32), C1 (.inl (v2, v3)) → ∀ (H : Heap) (locs : List Loc), va_P D vwCl (zW zshM zNM cy q S) H → va_S A s.heap H locs → ∀ (ls : Array Slot), lv_has ls 7 [(0, .ref (q 0)), (1, .int v1), (2, .int v2), (3, .int v3)] → W p l e rmX12_round s m args below meth c H locs 0 0 (MQ below (va_Qi (fun (r : Int32) (u : zSt) => (r, u) = z) (fun u t => va_P D vwCl (zW zshM zNM cy q u) t.heap) A) args s 0 0 A) (F0 m 19 ls [])) (hx1 : ∀ a, C1 (.inr a) → a = z) {x : ((Int32 × Int32) ⊕ (Int32 × zSt))} (h : fX12_round_19 S v1 (v2, v3) = some x) (hc : C1 x) {H : Heap} {locs : List Loc} (hP : va_P D vwCl (zW zshM zNM cy q S) H) (hS : va_S A s.heap H locs) {ls : Array Slot} (hl : lv_has ls 7 [(0, .ref (q 0)), (1, .int v1), (2, .int v2), (3, .int v3)]) : W p l e rmX12_round s m args below meth c H locs 0 0 (MQ below (va_Qi (fun (r : Int32) (u : zSt) => (r, u) = z) (fun u t => va_P D vwCl (zW zshM zNM cy q u) t.heap) A) args s 0 0 A) (F0 m 19 ls []) := by
  have hx := cx.1
  have hb := cx.2.1
  unfold fX12_round_19 at h
  dsimp only at h
  refine lv_iload_n (pc := 19) hx hb dX12_round_19 rfl (lv_at hl 3 rfl) ?_
  refine lv_aload_n (pc := 20) hx hb dX12_round_20 rfl (lv_at hl 0 rfl) ?_
  refine zr_getR (pc := 21) (t := 2) cx lk_X12_98 hP nM_0 sM_0 rfl dX12_round_21 ?_
  refine lv_iconst (pc := 24) hx hb dX12_round_24 zc_1 ?_
  obtain ⟨g5, h⟩ := zGd_e h
  refine zr_iald (pc := 25) cx hP nM_2 sM_2 g5 dX12_round_25 ?_
  refine lv_icmp_ge (pc := 26) (tgt := 61) hx hb dX12_round_26 (by decide) (fun c6 => ?_) (fun c6 => ?_)
  · replace h := zBr_t c6 h
    obtain ⟨y7, h, ex⟩ := zXr_e h
    have hc := hx1 y7 (by rw [ex] at hc; exact hc)
    rw [hc] at h
    refine lv_iload_n (pc := 61) hx hb dX12_round_61 rfl (lv_at hl 2 rfl) ?_
    refine lv_iconst (pc := 62) hx hb dX12_round_62 zc_1 ?_
    refine lv_iload_n (pc := 63) hx hb dX12_round_63 rfl (lv_at hl 1 rfl) ?_
    refine lv_ishl (pc := 64) hx hb dX12_round_64 ?_
    refine lv_iconst (pc := 65) hx hb dX12_round_65 zc_m1 ?_
    refine lv_ixor (pc := 66) hx hb dX12_round_66 ?_
    refine lv_iand (pc := 67) hx hb dX12_round_67 ?_
    obtain ⟨x8, ex8, h⟩ := zLt_e h
    refine zr_nmI ex8 ?_
    refine lv_istore_n (lv' := [(2, .int x8), (0, .ref (q 0)), (1, .int v1), (3, .int v3)]) (pc := 68) hx hb dX12_round_68 rfl hl (by decide) rfl (fun ls hl => ?_)
    refine lv_aload_n (pc := 69) hx hb dX12_round_69 rfl (lv_at hl 1 rfl) ?_
    obtain ⟨S10, k9, h⟩ := zBd_e h
    refine zr_VV (pc := 70) (rest := []) cx cv_X12_314 (mX12_laySteps hq k9) ⟨⟨rfl, rfl⟩, Nat.le_of_ble_eq_true rfl, Nat.le_of_ble_eq_true rfl⟩ ⟨Nat.le_of_ble_eq_true rfl, Nat.le_of_ble_eq_true rfl⟩ hP hS nM_0 sM_0 rfl hl.1 rfl rfl (Nat.le_of_ble_eq_true rfl) dX12_round_70 (fun H locs hP hS => ?_)
    refine lv_aload_n (pc := 73) hx hb dX12_round_73 rfl (lv_at hl 1 rfl) ?_
    refine zr_getR (pc := 74) (t := 12) cx lk_X12_136 hP nM_0 sM_0 rfl dX12_round_74 ?_
    refine lv_iload_n (pc := 77) hx hb dX12_round_77 rfl (lv_at hl 2 rfl) ?_
    refine lv_iload_n (pc := 78) hx hb dX12_round_78 rfl (lv_at hl 0 rfl) ?_
    obtain ⟨r12, k11, h⟩ := zBd_e h
    refine zr_SI (pc := 79) (rest := [.ref (q 12)]) cx cv_X12_311 (mX12_cellOf k11) ⟨⟨rfl, rfl⟩, Nat.le_of_ble_eq_true rfl, Nat.le_of_ble_eq_true rfl⟩ ⟨Nat.le_of_ble_eq_true rfl, Nat.le_of_ble_eq_true rfl⟩ (zr_preK cx) hl.1 rfl rfl (Nat.le_of_ble_eq_true rfl) dX12_round_79 ?_
    obtain ⟨g13, h⟩ := zGd_e h
    refine zr_iald (pc := 82) cx hP nM_12 sM_12 g13 dX12_round_82 ?_
    obtain ⟨x14, ex14, h⟩ := zLt_e h
    refine zr_nmI ex14 ?_
    refine lv_istore_n (lv' := [(3, .int x14), (2, .int x8), (0, .ref (q 0)), (1, .int v1)]) (pc := 83) hx hb dX12_round_83 rfl hl (by decide) rfl (fun ls hl => ?_)
    refine lv_iload_n (pc := 84) hx hb dX12_round_84 rfl (lv_at hl 0 rfl) ?_
    refine lv_ldcw (pc := 85) hx hb cx.2.2.2.1 (cx.2.2.2.2.1 _ wd_1898) dX12_round_85 ?_
    refine lv_icmp_lt (pc := 88) (tgt := 93) hx hb dX12_round_88 (by decide) (fun c15 => ?_) (fun c15 => ?_)
    · replace h := zBr_t c15 h
      refine lv_iload_n (pc := 93) hx hb dX12_round_93 rfl (lv_at hl 3 rfl) ?_
      refine lv_istore (lv' := [(4, .int v1), (3, .int x14), (2, .int x8), (0, .ref (q 0)), (1, .int v1)]) (pc := 94) hx hb dX12_round_94 hl (by decide) rfl (fun ls hl => ?_)
      refine lv_iconst (pc := 96) hx hb dX12_round_96 zc_0 ?_
      refine lv_istore (lv' := [(5, .int (0 : Int32)), (4, .int v1), (3, .int x14), (2, .int x8), (0, .ref (q 0)), (1, .int v1)]) (pc := 97) hx hb dX12_round_97 hl (by decide) rfl (fun ls hl => ?_)
      exact kX12_round_99 cx hr hlk hq 2000 _ _ _ _ h _ _ hP hS _ (lv_sub hl [4, 3, 2, 1, 0] rfl)
    · replace h := zBr_f c15 h
      refine lv_iconst (pc := 91) hx hb dX12_round_91 zc_m1 ?_
      have hz := Option.some.inj h
      exact zr_rqI (pc := 92) cx hr hlk hP hS hz dX12_round_92
  · replace h := zBr_f c6 h
    refine lv_aload_n (pc := 29) hx hb dX12_round_29 rfl (lv_at hl 0 rfl) ?_
    refine zr_getR (pc := 30) (t := 2) cx lk_X12_98 hP nM_0 sM_0 rfl dX12_round_30 ?_
    refine lv_bipush (pc := 33) hx hb dX12_round_33 zb_32 ?_
    refine lv_iload_n (pc := 35) hx hb dX12_round_35 rfl (lv_at hl 3 rfl) ?_
    refine lv_iadd (pc := 36) hx hb dX12_round_36 ?_
    obtain ⟨g33, h⟩ := zGd_e h
    refine zr_iald (pc := 37) cx hP nM_2 sM_2 g33 dX12_round_37 ?_
    refine lv_if_le (pc := 38) (tgt := 55) hx hb dX12_round_38 (by decide) (fun c34 => ?_) (fun c34 => ?_)
    · replace h := zBr_t c34 h
      exact kX12_round_55 cx hr hlk hq hb1 hx1 h hc hP hS (lv_sub hl [0, 1, 2, 3] rfl)
    · replace h := zBr_f c34 h
      refine lv_iload_n (pc := 41) hx hb dX12_round_41 rfl (lv_at hl 2 rfl) ?_
      refine lv_iconst (pc := 42) hx hb dX12_round_42 zc_1 ?_
      refine lv_aload_n (pc := 43) hx hb dX12_round_43 rfl (lv_at hl 0 rfl) ?_
      refine zr_getR (pc := 44) (t := 2) cx lk_X12_98 hP nM_0 sM_0 rfl dX12_round_44 ?_
      refine lv_bipush (pc := 47) hx hb dX12_round_47 zb_26 ?_
      refine lv_iload_n (pc := 49) hx hb dX12_round_49 rfl (lv_at hl 3 rfl) ?_
      refine lv_iadd (pc := 50) hx hb dX12_round_50 ?_
      obtain ⟨g36, h⟩ := zGd_e h
      refine zr_iald (pc := 51) cx hP nM_2 sM_2 g36 dX12_round_51 ?_
      refine lv_ishl (pc := 52) hx hb dX12_round_52 ?_
      refine lv_ior (pc := 53) hx hb dX12_round_53 ?_
      obtain ⟨x37, ex37, h⟩ := zLt_e h
      refine zr_nmI ex37 ?_
      refine lv_istore_n (lv' := [(2, .int x37), (0, .ref (q 0)), (1, .int v1), (3, .int v3)]) (pc := 54) hx hb dX12_round_54 rfl hl (by decide) rfl (fun ls hl => ?_)
      exact kX12_round_55 cx hr hlk hq hb1 hx1 h hc hP hS (lv_sub hl [1, 2, 0, 3] rfl)
set_option maxHeartbeats 4000000 in
set_option maxRecDepth 100000 in
theorem kX12_round_19 {p : Program} {l : Launch} {e : Env} {s : State} {m : MethodId} {args : Array Value} {below : List Frame} {meth : Method} {c : Code} {D : va_G} {cy : Nat → ClassId} {q : Nat → Nat} {A : Nat → Prop} (cx : zX RX12 cX12_round 7 p s m args c D cy) (hr : meth.sig.returnType = (some .int)) (hlk : meth.locks = false) (hq : zQ A q zNM) {z : (Int32 × zSt)} {S : zSt} {v1 : Int32} : ∀ (n : Nat) (v2 : Int32) (v3 : Int32), zLp (fX12_round_19 S v1) n (v2, v3) = some z → ∀ (H : Heap) (locs : List Loc), va_P D vwCl (zW zshM zNM cy q S) H → va_S A s.heap H locs → ∀ (ls : Array Slot), lv_has ls 7 [(0, .ref (q 0)), (1, .int v1), (2, .int v2), (3, .int v3)] → W p l e rmX12_round s m args below meth c H locs 0 0 (MQ below (va_Qi (fun (r : Int32) (u : zSt) => (r, u) = z) (fun u t => va_P D vwCl (zW zshM zNM cy q u) t.heap) A) args s 0 0 A) (F0 m 19 ls []) := by
  intro n
  induction n with
  | zero =>
    intro v2 v3 h
    cases h
  | succ n ih =>
    intro v2 v3 h H locs hP hS ls hl
    obtain ⟨x, h, hk⟩ := zLp_e h
    exact kX12_round_19B cx hr hlk hq  (C1 := zKt (fun t => zLp (fX12_round_19 S v1) n t = some z) (fun a => a = z)) (fun v2 v3 ht H locs hP hS ls hl => ih v2 v3 ht H locs hP hS ls hl) (fun a ha => ha) h hk hP hS hl
def fX12_round (S : zSt) (v1 : Int32) : Option (Int32 × zSt) :=
  zLt (zI S 0 0 (0 : Int32)) (fun S1 => zBd (fX12_isParlour S1 v1) (fun r3 => zBr (r3 = 0) (some ((-1 : Int32), S1)) (zLp (fX12_round_19 S1 v1) 2000 ((0 : Int32), (0 : Int32)))))
set_option maxHeartbeats 4000000 in
set_option maxRecDepth 100000 in
theorem mX12_round {l : Launch} {D : va_G} {cy : Nat → ClassId} {q : Nat → Nat} {A : Nat → Prop} {S : zSt} {v1 : Int32} (hq : zQ A q zNM) {z : (Int32 × zSt)} (h : fX12_round S v1 = some z) : zMq l yX12_round cX12_round 7 (some .int) rmX12_round [.ref (q 0), .int v1] zshM zNM D cy q A S z := by
  refine Met.ofW (cc := cX12_round) (maxL := 7) (ret := (some .int)) (by decide) rfl ?_
  intro p e s m args below meth c s₁ B hml hv
  obtain ⟨rfl, hP, hK⟩ := hv
  have cx : zX RX12 cX12_round 7 p s m ([.ref (q 0), .int v1]).toArray c D cy := ⟨B.exec, B.bytes, hml, findClass_of_methodNamed B.named, fun w hw => atoms_spec (ws := Cond.code yX12_round cX12_round 7 (some .int) :: zTB) B.pre w (List.mem_cons_of_mem _ hw), hK⟩
  have hx := cx.1
  have hb := cx.2.1
  have hr := B.returns
  have hlk := B.notSynchronized
  have hS : va_S A s.heap s.heap [] := va_S.rf
  have hl := lv_entry ([.ref (q 0), .int v1]) (n := 7) (Nat.le_of_ble_eq_true rfl)
  rw [lg_entry_eq]
  generalize (lg_sl ([.ref (q 0), .int v1]) ++ List.replicate (7 - (lg_sl ([.ref (q 0), .int v1])).length) Slot.unset).toArray = ls at hl ⊢
  have hl : lv_has ls 7 [(0, .ref (q 0)), (1, .int v1)] := hl
  unfold fX12_round at h
  refine lv_aload_n (pc := 0) hx hb dX12_round_0 rfl (lv_at hl 0 rfl) ?_
  refine lv_iconst (pc := 1) hx hb dX12_round_1 zc_0 ?_
  obtain ⟨S1, eS1, h⟩ := zLt_e h
  refine zr_putI (pc := 2) cx lq_X12_1 hq hP hS nM_0 sM_0 rfl rfl rfl dX12_round_2 (fun H locs hP hS => ?_)
  rw [← eS1] at hP
  refine lv_aload_n (pc := 5) hx hb dX12_round_5 rfl (lv_at hl 0 rfl) ?_
  refine lv_iload_n (pc := 6) hx hb dX12_round_6 rfl (lv_at hl 1 rfl) ?_
  obtain ⟨r3, k2, h⟩ := zBd_e h
  refine zr_VI (pc := 7) (rest := []) cx cv_X12_259 (mX12_isParlour k2) ⟨⟨rfl, rfl⟩, Nat.le_of_ble_eq_true rfl, Nat.le_of_ble_eq_true rfl⟩ ⟨Nat.le_of_ble_eq_true rfl, Nat.le_of_ble_eq_true rfl⟩ hP nM_0 sM_0 rfl hl.1 rfl rfl (Nat.le_of_ble_eq_true rfl) dX12_round_7 ?_
  refine lv_if_ne (pc := 10) (tgt := 15) hx hb dX12_round_10 (by decide) (fun c4 => ?_) (fun c4 => ?_)
  · replace h := zBr_f c4 h
    refine lv_iconst (pc := 15) hx hb dX12_round_15 zc_0 ?_
    refine lv_istore_n (lv' := [(2, .int (0 : Int32)), (0, .ref (q 0)), (1, .int v1)]) (pc := 16) hx hb dX12_round_16 rfl hl (by decide) rfl (fun ls hl => ?_)
    refine lv_iconst (pc := 17) hx hb dX12_round_17 zc_0 ?_
    refine lv_istore_n (lv' := [(3, .int (0 : Int32)), (2, .int (0 : Int32)), (0, .ref (q 0)), (1, .int v1)]) (pc := 18) hx hb dX12_round_18 rfl hl (by decide) rfl (fun ls hl => ?_)
    exact kX12_round_19 cx hr hlk hq 2000 _ _ h _ _ hP hS _ (lv_sub hl [2, 3, 1, 0] rfl)
  · replace h := zBr_t c4 h
    refine lv_iconst (pc := 13) hx hb dX12_round_13 zc_m1 ?_
    have hz := Option.some.inj h
    exact zr_rqI (pc := 14) cx hr hlk hP hS hz dX12_round_14
-- X12_roundAt
abbrev rmX12_roundAt : Room := { frames := 1, cells := 0, slots := 0, locals := 22 }
def fX12_roundAt (S : zSt) (v1 : Int32) : Option (Int32 × zSt) :=
  zLt (zI S 0 0 (0 : Int32)) (fun S1 => zBd (fX12_isIn v1 (0 : Int32) ((S1.1 0 29) - (1 : Int32))) (fun r3 => zBr (r3 = 0) (some ((-1 : Int32), S1)) (zGd (zIx v1 32) (some ((S1.1 13 v1.toNatClampNeg), S1)))))
set_option maxHeartbeats 4000000 in
set_option maxRecDepth 100000 in
theorem mX12_roundAt {l : Launch} {D : va_G} {cy : Nat → ClassId} {q : Nat → Nat} {A : Nat → Prop} {S : zSt} {v1 : Int32} (hq : zQ A q zNM) {z : (Int32 × zSt)} (h : fX12_roundAt S v1 = some z) : zMq l yX12_roundAt cX12_roundAt 2 (some .int) rmX12_roundAt [.ref (q 0), .int v1] zshM zNM D cy q A S z := by
  refine Met.ofW (cc := cX12_roundAt) (maxL := 2) (ret := (some .int)) (by decide) rfl ?_
  intro p e s m args below meth c s₁ B hml hv
  obtain ⟨rfl, hP, hK⟩ := hv
  have cx : zX RX12 cX12_roundAt 2 p s m ([.ref (q 0), .int v1]).toArray c D cy := ⟨B.exec, B.bytes, hml, findClass_of_methodNamed B.named, fun w hw => atoms_spec (ws := Cond.code yX12_roundAt cX12_roundAt 2 (some .int) :: zTB) B.pre w (List.mem_cons_of_mem _ hw), hK⟩
  have hx := cx.1
  have hb := cx.2.1
  have hr := B.returns
  have hlk := B.notSynchronized
  have hS : va_S A s.heap s.heap [] := va_S.rf
  have hl := lv_entry ([.ref (q 0), .int v1]) (n := 2) (Nat.le_of_ble_eq_true rfl)
  rw [lg_entry_eq]
  generalize (lg_sl ([.ref (q 0), .int v1]) ++ List.replicate (2 - (lg_sl ([.ref (q 0), .int v1])).length) Slot.unset).toArray = ls at hl ⊢
  have hl : lv_has ls 2 [(0, .ref (q 0)), (1, .int v1)] := hl
  unfold fX12_roundAt at h
  refine lv_aload_n (pc := 0) hx hb dX12_roundAt_0 rfl (lv_at hl 0 rfl) ?_
  refine lv_iconst (pc := 1) hx hb dX12_roundAt_1 zc_0 ?_
  obtain ⟨S1, eS1, h⟩ := zLt_e h
  refine zr_putI (pc := 2) cx lq_X12_1 hq hP hS nM_0 sM_0 rfl rfl rfl dX12_roundAt_2 (fun H locs hP hS => ?_)
  rw [← eS1] at hP
  refine lv_iload_n (pc := 5) hx hb dX12_roundAt_5 rfl (lv_at hl 1 rfl) ?_
  refine lv_iconst (pc := 6) hx hb dX12_roundAt_6 zc_0 ?_
  refine lv_aload_n (pc := 7) hx hb dX12_roundAt_7 rfl (lv_at hl 0 rfl) ?_
  refine zr_getI (pc := 8) cx lk_X12_317 hP nM_0 sM_0 rfl dX12_roundAt_8 ?_
  refine lv_iconst (pc := 11) hx hb dX12_roundAt_11 zc_1 ?_
  refine lv_isub (pc := 12) hx hb dX12_roundAt_12 ?_
  obtain ⟨r3, k2, h⟩ := zBd_e h
  refine zr_SI (pc := 13) (rest := []) cx cv_X12_75 (mX12_isIn k2) ⟨⟨rfl, rfl⟩, Nat.le_of_ble_eq_true rfl, Nat.le_of_ble_eq_true rfl⟩ ⟨Nat.le_of_ble_eq_true rfl, Nat.le_of_ble_eq_true rfl⟩ (zr_preK cx) hl.1 rfl rfl (Nat.le_of_ble_eq_true rfl) dX12_roundAt_13 ?_
  refine lv_if_eq (pc := 16) (tgt := 28) hx hb dX12_roundAt_16 (by decide) (fun c4 => ?_) (fun c4 => ?_)
  · replace h := zBr_t c4 h
    refine lv_iconst (pc := 28) hx hb dX12_roundAt_28 zc_m1 ?_
    have hz := Option.some.inj h
    exact zr_rqI (pc := 29) cx hr hlk hP hS hz dX12_roundAt_29
  · replace h := zBr_f c4 h
    refine lv_aload_n (pc := 19) hx hb dX12_roundAt_19 rfl (lv_at hl 0 rfl) ?_
    refine zr_getR (pc := 20) (t := 13) cx lk_X12_139 hP nM_0 sM_0 rfl dX12_roundAt_20 ?_
    refine lv_iload_n (pc := 23) hx hb dX12_roundAt_23 rfl (lv_at hl 1 rfl) ?_
    obtain ⟨g5, h⟩ := zGd_e h
    refine zr_iald (pc := 24) cx hP nM_13 sM_13 g5 dX12_roundAt_24 ?_
    refine lv_goto (pc := 25) (tgt := 29) hx hb dX12_roundAt_25 (by decide) ?_
    have hz := Option.some.inj h
    exact zr_rqI (pc := 29) cx hr hlk hP hS hz dX12_roundAt_29
-- X12_sights
abbrev rmX12_sights : Room := { frames := 2, cells := 0, slots := 0, locals := 43 }
def fX12_sights (S : zSt) (v1 : Int32) : Option (Int32 × zSt) :=
  zLt (zI S 0 0 (0 : Int32)) (fun S1 => zBd (fX12_isParlour S1 v1) (fun r3 => zBr (r3 = 0) (some ((-1 : Int32), S1)) (zGd (zIx ((6 : Int32) + v1) 406) (some ((S1.1 2 ((6 : Int32) + v1).toNatClampNeg), S1)))))
set_option maxHeartbeats 4000000 in
set_option maxRecDepth 100000 in
theorem mX12_sights {l : Launch} {D : va_G} {cy : Nat → ClassId} {q : Nat → Nat} {A : Nat → Prop} {S : zSt} {v1 : Int32} (hq : zQ A q zNM) {z : (Int32 × zSt)} (h : fX12_sights S v1 = some z) : zMq l yX12_sights cX12_sights 2 (some .int) rmX12_sights [.ref (q 0), .int v1] zshM zNM D cy q A S z := by
  refine Met.ofW (cc := cX12_sights) (maxL := 2) (ret := (some .int)) (by decide) rfl ?_
  intro p e s m args below meth c s₁ B hml hv
  obtain ⟨rfl, hP, hK⟩ := hv
  have cx : zX RX12 cX12_sights 2 p s m ([.ref (q 0), .int v1]).toArray c D cy := ⟨B.exec, B.bytes, hml, findClass_of_methodNamed B.named, fun w hw => atoms_spec (ws := Cond.code yX12_sights cX12_sights 2 (some .int) :: zTB) B.pre w (List.mem_cons_of_mem _ hw), hK⟩
  have hx := cx.1
  have hb := cx.2.1
  have hr := B.returns
  have hlk := B.notSynchronized
  have hS : va_S A s.heap s.heap [] := va_S.rf
  have hl := lv_entry ([.ref (q 0), .int v1]) (n := 2) (Nat.le_of_ble_eq_true rfl)
  rw [lg_entry_eq]
  generalize (lg_sl ([.ref (q 0), .int v1]) ++ List.replicate (2 - (lg_sl ([.ref (q 0), .int v1])).length) Slot.unset).toArray = ls at hl ⊢
  have hl : lv_has ls 2 [(0, .ref (q 0)), (1, .int v1)] := hl
  unfold fX12_sights at h
  refine lv_aload_n (pc := 0) hx hb dX12_sights_0 rfl (lv_at hl 0 rfl) ?_
  refine lv_iconst (pc := 1) hx hb dX12_sights_1 zc_0 ?_
  obtain ⟨S1, eS1, h⟩ := zLt_e h
  refine zr_putI (pc := 2) cx lq_X12_1 hq hP hS nM_0 sM_0 rfl rfl rfl dX12_sights_2 (fun H locs hP hS => ?_)
  rw [← eS1] at hP
  refine lv_aload_n (pc := 5) hx hb dX12_sights_5 rfl (lv_at hl 0 rfl) ?_
  refine lv_iload_n (pc := 6) hx hb dX12_sights_6 rfl (lv_at hl 1 rfl) ?_
  obtain ⟨r3, k2, h⟩ := zBd_e h
  refine zr_VI (pc := 7) (rest := []) cx cv_X12_259 (mX12_isParlour k2) ⟨⟨rfl, rfl⟩, Nat.le_of_ble_eq_true rfl, Nat.le_of_ble_eq_true rfl⟩ ⟨Nat.le_of_ble_eq_true rfl, Nat.le_of_ble_eq_true rfl⟩ hP nM_0 sM_0 rfl hl.1 rfl rfl (Nat.le_of_ble_eq_true rfl) dX12_sights_7 ?_
  refine lv_if_eq (pc := 10) (tgt := 25) hx hb dX12_sights_10 (by decide) (fun c4 => ?_) (fun c4 => ?_)
  · replace h := zBr_t c4 h
    refine lv_iconst (pc := 25) hx hb dX12_sights_25 zc_m1 ?_
    have hz := Option.some.inj h
    exact zr_rqI (pc := 26) cx hr hlk hP hS hz dX12_sights_26
  · replace h := zBr_f c4 h
    refine lv_aload_n (pc := 13) hx hb dX12_sights_13 rfl (lv_at hl 0 rfl) ?_
    refine zr_getR (pc := 14) (t := 2) cx lk_X12_98 hP nM_0 sM_0 rfl dX12_sights_14 ?_
    refine lv_bipush (pc := 17) hx hb dX12_sights_17 zb_6 ?_
    refine lv_iload_n (pc := 19) hx hb dX12_sights_19 rfl (lv_at hl 1 rfl) ?_
    refine lv_iadd (pc := 20) hx hb dX12_sights_20 ?_
    obtain ⟨g5, h⟩ := zGd_e h
    refine zr_iald (pc := 21) cx hP nM_2 sM_2 g5 dX12_sights_21 ?_
    refine lv_goto (pc := 22) (tgt := 26) hx hb dX12_sights_22 (by decide) ?_
    have hz := Option.some.inj h
    exact zr_rqI (pc := 26) cx hr hlk hP hS hz dX12_sights_26
-- X12_sponge
abbrev rmX12_sponge : Room := { frames := 6, cells := 0, slots := 0, locals := 139 }
def fX12_sponge (S : zSt) (v1 : Int32) : Option (Int32 × zSt) :=
  zLt (zI S 0 0 (0 : Int32)) (fun S1 => zBd (fX12_isPlant S1 v1) (fun r3 => zBp (fX12_doIt S1 (1 : Int32) v1 (0 : Int32) (0 : Int32) r3) (fun r6 S5 => some (r6, S5))))
set_option maxHeartbeats 4000000 in
set_option maxRecDepth 100000 in
theorem mX12_sponge {l : Launch} {D : va_G} {cy : Nat → ClassId} {q : Nat → Nat} {A : Nat → Prop} {S : zSt} {v1 : Int32} (hq : zQ A q zNM) {z : (Int32 × zSt)} (h : fX12_sponge S v1 = some z) : zMq l yX12_sponge cX12_sponge 2 (some .int) rmX12_sponge [.ref (q 0), .int v1] zshM zNM D cy q A S z := by
  refine Met.ofW (cc := cX12_sponge) (maxL := 2) (ret := (some .int)) (by decide) rfl ?_
  intro p e s m args below meth c s₁ B hml hv
  obtain ⟨rfl, hP, hK⟩ := hv
  have cx : zX RX12 cX12_sponge 2 p s m ([.ref (q 0), .int v1]).toArray c D cy := ⟨B.exec, B.bytes, hml, findClass_of_methodNamed B.named, fun w hw => atoms_spec (ws := Cond.code yX12_sponge cX12_sponge 2 (some .int) :: zTB) B.pre w (List.mem_cons_of_mem _ hw), hK⟩
  have hx := cx.1
  have hb := cx.2.1
  have hr := B.returns
  have hlk := B.notSynchronized
  have hS : va_S A s.heap s.heap [] := va_S.rf
  have hl := lv_entry ([.ref (q 0), .int v1]) (n := 2) (Nat.le_of_ble_eq_true rfl)
  rw [lg_entry_eq]
  generalize (lg_sl ([.ref (q 0), .int v1]) ++ List.replicate (2 - (lg_sl ([.ref (q 0), .int v1])).length) Slot.unset).toArray = ls at hl ⊢
  have hl : lv_has ls 2 [(0, .ref (q 0)), (1, .int v1)] := hl
  unfold fX12_sponge at h
  refine lv_aload_n (pc := 0) hx hb dX12_sponge_0 rfl (lv_at hl 0 rfl) ?_
  refine lv_iconst (pc := 1) hx hb dX12_sponge_1 zc_0 ?_
  obtain ⟨S1, eS1, h⟩ := zLt_e h
  refine zr_putI (pc := 2) cx lq_X12_1 hq hP hS nM_0 sM_0 rfl rfl rfl dX12_sponge_2 (fun H locs hP hS => ?_)
  rw [← eS1] at hP
  refine lv_aload_n (pc := 5) hx hb dX12_sponge_5 rfl (lv_at hl 0 rfl) ?_
  refine lv_iconst (pc := 6) hx hb dX12_sponge_6 zc_1 ?_
  refine lv_iload_n (pc := 7) hx hb dX12_sponge_7 rfl (lv_at hl 1 rfl) ?_
  refine lv_iconst (pc := 8) hx hb dX12_sponge_8 zc_0 ?_
  refine lv_iconst (pc := 9) hx hb dX12_sponge_9 zc_0 ?_
  refine lv_aload_n (pc := 10) hx hb dX12_sponge_10 rfl (lv_at hl 0 rfl) ?_
  refine lv_iload_n (pc := 11) hx hb dX12_sponge_11 rfl (lv_at hl 1 rfl) ?_
  obtain ⟨r3, k2, h⟩ := zBd_e h
  refine zr_VI (pc := 12) (rest := [.int (0 : Int32), .int (0 : Int32), .int v1, .int (1 : Int32), .ref (q 0)]) cx cv_X12_244 (mX12_isPlant k2) ⟨⟨rfl, rfl⟩, Nat.le_of_ble_eq_true rfl, Nat.le_of_ble_eq_true rfl⟩ ⟨Nat.le_of_ble_eq_true rfl, Nat.le_of_ble_eq_true rfl⟩ hP nM_0 sM_0 rfl hl.1 rfl rfl (Nat.le_of_ble_eq_true rfl) dX12_sponge_12 ?_
  obtain ⟨r6, S5, k4, h⟩ := zBp_e h
  refine zr_VQ (pc := 15) (rest := []) cx cv_X12_292 (mX12_doIt hq k4) ⟨⟨rfl, rfl⟩, Nat.le_of_ble_eq_true rfl, Nat.le_of_ble_eq_true rfl⟩ ⟨Nat.le_of_ble_eq_true rfl, Nat.le_of_ble_eq_true rfl⟩ hP hS nM_0 sM_0 rfl hl.1 rfl rfl (Nat.le_of_ble_eq_true rfl) dX12_sponge_15 (fun H locs hP hS => ?_)
  have hz := Option.some.inj h
  exact zr_rqI (pc := 18) cx hr hlk hP hS hz dX12_sponge_18
-- X12_tellsOf
abbrev rmX12_tellsOf : Room := { frames := 2, cells := 0, slots := 0, locals := 44 }
def fX12_tellsOf_37 (S : zSt)  (v1 : Int32) (v2 : Int32) (v3 : Int32) : Option (Int32 ⊕ Int32) :=
  zLt (v3 + (1 : Int32)) (fun x6 => some (.inl (x6)))
set_option maxHeartbeats 4000000 in
set_option maxRecDepth 100000 in
theorem kX12_tellsOf_37 {p : Program} {l : Launch} {e : Env} {s : State} {m : MethodId} {args : Array Value} {below : List Frame} {meth : Method} {c : Code} {D : va_G} {cy : Nat → ClassId} {q : Nat → Nat} (cx : zX RX12 cX12_tellsOf 4 p s m args c D cy) (hr : meth.sig.returnType = (some .boolean)) (hlk : meth.locks = false) {z : Int32} {S : zSt} {v1 : Int32} {v2 : Int32} {v3 : Int32} {C1 : (Int32 ⊕ Int32) → Prop} (hb1 : ∀ (v3 : Int32), C1 (.inl (v3)) → ∀ (ls : Array Slot), lv_has ls 4 [(0, .ref (q 0)), (1, .int v1), (2, .int v2), (3, .int v3)] → W p l e rmX12_tellsOf s m args below meth c s.heap [] 0 0 (MQ below (vp_Si (fun x => x = z)) args s 0 0 (fun _ => False)) (F0 m 2 ls [])) (hx1 : ∀ a, C1 (.inr a) → a = z) (hP : va_P D vwCl (zW zshM zNM cy q S) s.heap) {x : (Int32 ⊕ Int32)} (h : fX12_tellsOf_37 S v1 v2 v3 = some x) (hc : C1 x) {ls : Array Slot} (hl : lv_has ls 4 [(0, .ref (q 0)), (1, .int v1), (2, .int v2), (3, .int v3)]) : W p l e rmX12_tellsOf s m args below meth c s.heap [] 0 0 (MQ below (vp_Si (fun x => x = z)) args s 0 0 (fun _ => False)) (F0 m 37 ls []) := by
  have hx := cx.1
  have hb := cx.2.1
  unfold fX12_tellsOf_37 at h
  obtain ⟨x6, ex6, h⟩ := zLt_e h
  refine lv_iinc (v := x6) (lv' := [(3, .int x6), (0, .ref (q 0)), (1, .int v1), (2, .int v2)]) (pc := 37) hx hb dX12_tellsOf_37 hl (k := 3) rfl (by rw [zc_1]; exact ex6.symm) (by decide) rfl (fun ls hl => ?_)
  refine lv_goto (pc := 40) (tgt := 2) hx hb dX12_tellsOf_40 (by decide) ?_
  cases h
  exact hb1 _ hc _ (lv_sub hl [1, 2, 3, 0] rfl)
def fX12_tellsOf_2 (S : zSt)  (v1 : Int32) (v2 : Int32) (t : Int32) : Option (Int32 ⊕ Int32) :=
  match t with
  | v3 => zGd (zIx (25 : Int32) 406) (zBr ((S.1 2 (25 : Int32).toNatClampNeg) ≤ v3) (zXr (some (0 : Int32))) (zGd (zIx ((38 : Int32) + v3) 406) (zBr ((S.1 2 ((38 : Int32) + v3).toNatClampNeg) = v2) (zBd (fX12_hasCome S v1 v3) (fun r8 => zBr (r8 = 0) (fX12_tellsOf_37 S v1 v2 v3) (zXr (some (1 : Int32))))) (fX12_tellsOf_37 S v1 v2 v3))))
set_option maxHeartbeats 4000000 in
set_option maxRecDepth 100000 in
theorem kX12_tellsOf_2B {p : Program} {l : Launch} {e : Env} {s : State} {m : MethodId} {args : Array Value} {below : List Frame} {meth : Method} {c : Code} {D : va_G} {cy : Nat → ClassId} {q : Nat → Nat} (cx : zX RX12 cX12_tellsOf 4 p s m args c D cy) (hr : meth.sig.returnType = (some .boolean)) (hlk : meth.locks = false) {z : Int32} {S : zSt} {v1 : Int32} {v2 : Int32} {v3 : Int32} {C1 : (Int32 ⊕ Int32) → Prop} (hb1 : ∀ (v3 : Int32), C1 (.inl (v3)) → ∀ (ls : Array Slot), lv_has ls 4 [(0, .ref (q 0)), (1, .int v1), (2, .int v2), (3, .int v3)] → W p l e rmX12_tellsOf s m args below meth c s.heap [] 0 0 (MQ below (vp_Si (fun x => x = z)) args s 0 0 (fun _ => False)) (F0 m 2 ls [])) (hx1 : ∀ a, C1 (.inr a) → a = z) (hP : va_P D vwCl (zW zshM zNM cy q S) s.heap) {x : (Int32 ⊕ Int32)} (h : fX12_tellsOf_2 S v1 v2 (v3) = some x) (hc : C1 x) {ls : Array Slot} (hl : lv_has ls 4 [(0, .ref (q 0)), (1, .int v1), (2, .int v2), (3, .int v3)]) : W p l e rmX12_tellsOf s m args below meth c s.heap [] 0 0 (MQ below (vp_Si (fun x => x = z)) args s 0 0 (fun _ => False)) (F0 m 2 ls []) := by
  have hx := cx.1
  have hb := cx.2.1
  unfold fX12_tellsOf_2 at h
  dsimp only at h
  refine lv_iload_n (pc := 2) hx hb dX12_tellsOf_2 rfl (lv_at hl 3 rfl) ?_
  refine lv_aload_n (pc := 3) hx hb dX12_tellsOf_3 rfl (lv_at hl 0 rfl) ?_
  refine zr_getR (pc := 4) (t := 2) cx lk_X12_98 hP nM_0 sM_0 rfl dX12_tellsOf_4 ?_
  refine lv_bipush (pc := 7) hx hb dX12_tellsOf_7 zb_25 ?_
  obtain ⟨g1, h⟩ := zGd_e h
  refine zr_iald (pc := 9) cx hP nM_2 sM_2 g1 dX12_tellsOf_9 ?_
  refine lv_icmp_ge (pc := 10) (tgt := 43) hx hb dX12_tellsOf_10 (by decide) (fun c2 => ?_) (fun c2 => ?_)
  · replace h := zBr_t c2 h
    obtain ⟨y3, h, ex⟩ := zXr_e h
    have hc := hx1 y3 (by rw [ex] at hc; exact hc)
    rw [hc] at h
    refine lv_iconst (pc := 43) hx hb dX12_tellsOf_43 zc_0 ?_
    have hz := Option.some.inj h
    exact zr_reZ (pc := 44) cx hr hlk hz (by decide) dX12_tellsOf_44
  · replace h := zBr_f c2 h
    refine lv_aload_n (pc := 13) hx hb dX12_tellsOf_13 rfl (lv_at hl 0 rfl) ?_
    refine zr_getR (pc := 14) (t := 2) cx lk_X12_98 hP nM_0 sM_0 rfl dX12_tellsOf_14 ?_
    refine lv_bipush (pc := 17) hx hb dX12_tellsOf_17 zb_38 ?_
    refine lv_iload_n (pc := 19) hx hb dX12_tellsOf_19 rfl (lv_at hl 3 rfl) ?_
    refine lv_iadd (pc := 20) hx hb dX12_tellsOf_20 ?_
    obtain ⟨g4, h⟩ := zGd_e h
    refine zr_iald (pc := 21) cx hP nM_2 sM_2 g4 dX12_tellsOf_21 ?_
    refine lv_iload_n (pc := 22) hx hb dX12_tellsOf_22 rfl (lv_at hl 2 rfl) ?_
    refine lv_icmp_ne (pc := 23) (tgt := 37) hx hb dX12_tellsOf_23 (by decide) (fun c5 => ?_) (fun c5 => ?_)
    · replace h := zBr_f c5 h
      exact kX12_tellsOf_37 cx hr hlk hb1 hx1 hP h hc (lv_sub hl [0, 1, 2, 3] rfl)
    · replace h := zBr_t c5 h
      refine lv_aload_n (pc := 26) hx hb dX12_tellsOf_26 rfl (lv_at hl 0 rfl) ?_
      refine lv_iload_n (pc := 27) hx hb dX12_tellsOf_27 rfl (lv_at hl 1 rfl) ?_
      refine lv_iload_n (pc := 28) hx hb dX12_tellsOf_28 rfl (lv_at hl 3 rfl) ?_
      obtain ⟨r8, k7, h⟩ := zBd_e h
      refine zr_VI (pc := 29) (rest := []) cx cv_X12_228 (mX12_hasCome k7) ⟨⟨rfl, rfl⟩, Nat.le_of_ble_eq_true rfl, Nat.le_of_ble_eq_true rfl⟩ ⟨Nat.le_of_ble_eq_true rfl, Nat.le_of_ble_eq_true rfl⟩ hP nM_0 sM_0 rfl hl.1 rfl rfl (Nat.le_of_ble_eq_true rfl) dX12_tellsOf_29 ?_
      refine lv_if_eq (pc := 32) (tgt := 37) hx hb dX12_tellsOf_32 (by decide) (fun c9 => ?_) (fun c9 => ?_)
      · replace h := zBr_t c9 h
        exact kX12_tellsOf_37 cx hr hlk hb1 hx1 hP h hc (lv_sub hl [0, 1, 2, 3] rfl)
      · replace h := zBr_f c9 h
        obtain ⟨y10, h, ex⟩ := zXr_e h
        have hc := hx1 y10 (by rw [ex] at hc; exact hc)
        rw [hc] at h
        refine lv_iconst (pc := 35) hx hb dX12_tellsOf_35 zc_1 ?_
        have hz := Option.some.inj h
        exact zr_reZ (pc := 36) cx hr hlk hz (by decide) dX12_tellsOf_36
set_option maxHeartbeats 4000000 in
set_option maxRecDepth 100000 in
theorem kX12_tellsOf_2 {p : Program} {l : Launch} {e : Env} {s : State} {m : MethodId} {args : Array Value} {below : List Frame} {meth : Method} {c : Code} {D : va_G} {cy : Nat → ClassId} {q : Nat → Nat} (cx : zX RX12 cX12_tellsOf 4 p s m args c D cy) (hr : meth.sig.returnType = (some .boolean)) (hlk : meth.locks = false) {z : Int32} {S : zSt} {v1 : Int32} {v2 : Int32} (hP : va_P D vwCl (zW zshM zNM cy q S) s.heap) : ∀ (n : Nat) (v3 : Int32), zLp (fX12_tellsOf_2 S v1 v2) n (v3) = some z → ∀ (ls : Array Slot), lv_has ls 4 [(0, .ref (q 0)), (1, .int v1), (2, .int v2), (3, .int v3)] → W p l e rmX12_tellsOf s m args below meth c s.heap [] 0 0 (MQ below (vp_Si (fun x => x = z)) args s 0 0 (fun _ => False)) (F0 m 2 ls []) := by
  intro n
  induction n with
  | zero =>
    intro v3 h
    cases h
  | succ n ih =>
    intro v3 h ls hl
    obtain ⟨x, h, hk⟩ := zLp_e h
    exact kX12_tellsOf_2B cx hr hlk  (C1 := zKt (fun t => zLp (fX12_tellsOf_2 S v1 v2) n t = some z) (fun a => a = z)) (fun v3 ht ls hl => ih v3 ht ls hl) (fun a ha => ha) hP h hk hl
def fX12_tellsOf (S : zSt) (v1 : Int32) (v2 : Int32) : Option Int32 :=
  zLp (fX12_tellsOf_2 S v1 v2) 2000 ((0 : Int32))
set_option maxHeartbeats 4000000 in
set_option maxRecDepth 100000 in
theorem mX12_tellsOf {l : Launch} {D : va_G} {cy : Nat → ClassId} {q : Nat → Nat} {S : zSt} {v1 : Int32} {v2 : Int32} {z : Int32} (h : fX12_tellsOf S v1 v2 = some z) : zMi l yX12_tellsOf cX12_tellsOf 4 (some .boolean) rmX12_tellsOf [.ref (q 0), .int v1, .int v2] (zPr zshM zNM D cy q S) z := by
  refine Met.ofW (cc := cX12_tellsOf) (maxL := 4) (ret := (some .boolean)) (by decide) rfl ?_
  intro p e s m args below meth c s₁ B hml hv
  obtain ⟨rfl, hP, hK⟩ := hv
  have cx : zX RX12 cX12_tellsOf 4 p s m ([.ref (q 0), .int v1, .int v2]).toArray c D cy := ⟨B.exec, B.bytes, hml, findClass_of_methodNamed B.named, fun w hw => atoms_spec (ws := Cond.code yX12_tellsOf cX12_tellsOf 4 (some .boolean) :: zTB) B.pre w (List.mem_cons_of_mem _ hw), hK⟩
  have hx := cx.1
  have hb := cx.2.1
  have hr := B.returns
  have hlk := B.notSynchronized
  have hl := lv_entry ([.ref (q 0), .int v1, .int v2]) (n := 4) (Nat.le_of_ble_eq_true rfl)
  rw [lg_entry_eq]
  generalize (lg_sl ([.ref (q 0), .int v1, .int v2]) ++ List.replicate (4 - (lg_sl ([.ref (q 0), .int v1, .int v2])).length) Slot.unset).toArray = ls at hl ⊢
  have hl : lv_has ls 4 [(0, .ref (q 0)), (1, .int v1), (2, .int v2)] := hl
  unfold fX12_tellsOf at h
  refine lv_iconst (pc := 0) hx hb dX12_tellsOf_0 zc_0 ?_
  refine lv_istore_n (lv' := [(3, .int (0 : Int32)), (0, .ref (q 0)), (1, .int v1), (2, .int v2)]) (pc := 1) hx hb dX12_tellsOf_1 rfl hl (by decide) rfl (fun ls hl => ?_)
  exact kX12_tellsOf_2 cx hr hlk hP 2000 _ h _ (lv_sub hl [1, 2, 3, 0] rfl)
-- X12_thrown
abbrev rmX12_thrown : Room := { frames := 0, cells := 0, slots := 0, locals := 0 }
def fX12_thrown (S : zSt) : Option Int32 :=
  some (S.1 0 0)
set_option maxHeartbeats 4000000 in
set_option maxRecDepth 100000 in
theorem mX12_thrown {l : Launch} {D : va_G} {cy : Nat → ClassId} {q : Nat → Nat} {S : zSt} {z : Int32} (h : fX12_thrown S = some z) : zMi l yX12_thrown cX12_thrown 1 (some .int) rmX12_thrown [.ref (q 0)] (zPr zshM zNM D cy q S) z := by
  refine Met.ofW (cc := cX12_thrown) (maxL := 1) (ret := (some .int)) (by decide) rfl ?_
  intro p e s m args below meth c s₁ B hml hv
  obtain ⟨rfl, hP, hK⟩ := hv
  have cx : zX RX12 cX12_thrown 1 p s m ([.ref (q 0)]).toArray c D cy := ⟨B.exec, B.bytes, hml, findClass_of_methodNamed B.named, fun w hw => atoms_spec (ws := Cond.code yX12_thrown cX12_thrown 1 (some .int) :: zTB) B.pre w (List.mem_cons_of_mem _ hw), hK⟩
  have hx := cx.1
  have hb := cx.2.1
  have hr := B.returns
  have hlk := B.notSynchronized
  have hl := lv_entry ([.ref (q 0)]) (n := 1) (Nat.le_of_ble_eq_true rfl)
  rw [lg_entry_eq]
  generalize (lg_sl ([.ref (q 0)]) ++ List.replicate (1 - (lg_sl ([.ref (q 0)])).length) Slot.unset).toArray = ls at hl ⊢
  have hl : lv_has ls 1 [(0, .ref (q 0))] := hl
  unfold fX12_thrown at h
  refine lv_aload_n (pc := 0) hx hb dX12_thrown_0 rfl (lv_at hl 0 rfl) ?_
  refine zr_getI (pc := 1) cx lk_X12_1 hP nM_0 sM_0 rfl dX12_thrown_1 ?_
  have hz := Option.some.inj h
  exact zr_reI (pc := 4) cx hr hlk hz dX12_thrown_4
-- X12_told
abbrev rmX12_told : Room := { frames := 1, cells := 0, slots := 0, locals := 22 }
def fX12_told (S : zSt) (v1 : Int32) : Option (Int32 × zSt) :=
  zLt (zI S 0 0 (0 : Int32)) (fun S1 => zBr ((S1.1 0 39) = 0) (some ((-1 : Int32), S1)) (zBd (fX12_isIn v1 (0 : Int32) (3 : Int32)) (fun r4 => zBr (r4 = 0) (some ((-1 : Int32), S1)) (zGd (zIx v1 4) (some ((S1.1 17 v1.toNatClampNeg), S1))))))
set_option maxHeartbeats 4000000 in
set_option maxRecDepth 100000 in
theorem mX12_told {l : Launch} {D : va_G} {cy : Nat → ClassId} {q : Nat → Nat} {A : Nat → Prop} {S : zSt} {v1 : Int32} (hq : zQ A q zNM) {z : (Int32 × zSt)} (h : fX12_told S v1 = some z) : zMq l yX12_told cX12_told 2 (some .int) rmX12_told [.ref (q 0), .int v1] zshM zNM D cy q A S z := by
  refine Met.ofW (cc := cX12_told) (maxL := 2) (ret := (some .int)) (by decide) rfl ?_
  intro p e s m args below meth c s₁ B hml hv
  obtain ⟨rfl, hP, hK⟩ := hv
  have cx : zX RX12 cX12_told 2 p s m ([.ref (q 0), .int v1]).toArray c D cy := ⟨B.exec, B.bytes, hml, findClass_of_methodNamed B.named, fun w hw => atoms_spec (ws := Cond.code yX12_told cX12_told 2 (some .int) :: zTB) B.pre w (List.mem_cons_of_mem _ hw), hK⟩
  have hx := cx.1
  have hb := cx.2.1
  have hr := B.returns
  have hlk := B.notSynchronized
  have hS : va_S A s.heap s.heap [] := va_S.rf
  have hl := lv_entry ([.ref (q 0), .int v1]) (n := 2) (Nat.le_of_ble_eq_true rfl)
  rw [lg_entry_eq]
  generalize (lg_sl ([.ref (q 0), .int v1]) ++ List.replicate (2 - (lg_sl ([.ref (q 0), .int v1])).length) Slot.unset).toArray = ls at hl ⊢
  have hl : lv_has ls 2 [(0, .ref (q 0)), (1, .int v1)] := hl
  unfold fX12_told at h
  refine lv_aload_n (pc := 0) hx hb dX12_told_0 rfl (lv_at hl 0 rfl) ?_
  refine lv_iconst (pc := 1) hx hb dX12_told_1 zc_0 ?_
  obtain ⟨S1, eS1, h⟩ := zLt_e h
  refine zr_putI (pc := 2) cx lq_X12_1 hq hP hS nM_0 sM_0 rfl rfl rfl dX12_told_2 (fun H locs hP hS => ?_)
  rw [← eS1] at hP
  refine lv_aload_n (pc := 5) hx hb dX12_told_5 rfl (lv_at hl 0 rfl) ?_
  refine zr_getI (pc := 6) cx lk_X12_396 hP nM_0 sM_0 rfl dX12_told_6 ?_
  refine lv_if_eq (pc := 9) (tgt := 30) hx hb dX12_told_9 (by decide) (fun c2 => ?_) (fun c2 => ?_)
  · replace h := zBr_t c2 h
    refine lv_iconst (pc := 30) hx hb dX12_told_30 zc_m1 ?_
    have hz := Option.some.inj h
    exact zr_rqI (pc := 31) cx hr hlk hP hS hz dX12_told_31
  · replace h := zBr_f c2 h
    refine lv_iload_n (pc := 12) hx hb dX12_told_12 rfl (lv_at hl 1 rfl) ?_
    refine lv_iconst (pc := 13) hx hb dX12_told_13 zc_0 ?_
    refine lv_iconst (pc := 14) hx hb dX12_told_14 zc_3 ?_
    obtain ⟨r4, k3, h⟩ := zBd_e h
    refine zr_SI (pc := 15) (rest := []) cx cv_X12_75 (mX12_isIn k3) ⟨⟨rfl, rfl⟩, Nat.le_of_ble_eq_true rfl, Nat.le_of_ble_eq_true rfl⟩ ⟨Nat.le_of_ble_eq_true rfl, Nat.le_of_ble_eq_true rfl⟩ (zr_preK cx) hl.1 rfl rfl (Nat.le_of_ble_eq_true rfl) dX12_told_15 ?_
    refine lv_if_eq (pc := 18) (tgt := 30) hx hb dX12_told_18 (by decide) (fun c5 => ?_) (fun c5 => ?_)
    · replace h := zBr_t c5 h
      refine lv_iconst (pc := 30) hx hb dX12_told_30 zc_m1 ?_
      have hz := Option.some.inj h
      exact zr_rqI (pc := 31) cx hr hlk hP hS hz dX12_told_31
    · replace h := zBr_f c5 h
      refine lv_aload_n (pc := 21) hx hb dX12_told_21 rfl (lv_at hl 0 rfl) ?_
      refine zr_getR (pc := 22) (t := 17) cx lk_X12_151 hP nM_0 sM_0 rfl dX12_told_22 ?_
      refine lv_iload_n (pc := 25) hx hb dX12_told_25 rfl (lv_at hl 1 rfl) ?_
      obtain ⟨g6, h⟩ := zGd_e h
      refine zr_iald (pc := 26) cx hP nM_17 sM_17 g6 dX12_told_26 ?_
      refine lv_goto (pc := 27) (tgt := 31) hx hb dX12_told_27 (by decide) ?_
      have hz := Option.some.inj h
      exact zr_rqI (pc := 31) cx hr hlk hP hS hz dX12_told_31
-- X12_undo
abbrev rmX12_undo : Room := { frames := 0, cells := 0, slots := 0, locals := 0 }
def fX12_undo_26  (t : (zSt × Int32)) : Option ((zSt × Int32) ⊕ (Int32 × zSt)) :=
  match t with
  | (S, v1) => zBr ((140 : Int32) ≤ v1) (zXr (some ((S.1 0 24), S))) (zGd (zIx (((140 : Int32) * (S.1 0 24)) + v1) 1120) (zGd (zIx ((24 : Int32) + v1) 406) (zLt (zI S 2 ((24 : Int32) + v1).toNatClampNeg (S.1 5 (((140 : Int32) * (S.1 0 24)) + v1).toNatClampNeg)) (fun S8 => zLt (v1 + (1 : Int32)) (fun x9 => some (.inl (S8, x9)))))))
set_option maxHeartbeats 4000000 in
set_option maxRecDepth 100000 in
theorem kX12_undo_26B {p : Program} {l : Launch} {e : Env} {s : State} {m : MethodId} {args : Array Value} {below : List Frame} {meth : Method} {c : Code} {D : va_G} {cy : Nat → ClassId} {q : Nat → Nat} {A : Nat → Prop} (cx : zX RX12 cX12_undo 2 p s m args c D cy) (hr : meth.sig.returnType = (some .int)) (hlk : meth.locks = false) (hq : zQ A q zNM) {z : (Int32 × zSt)} {S : zSt} {v1 : Int32} {C1 : ((zSt × Int32) ⊕ (Int32 × zSt)) → Prop} (hb1 : ∀ (S : zSt) (v1 : Int32), C1 (.inl (S, v1)) → ∀ (H : Heap) (locs : List Loc), va_P D vwCl (zW zshM zNM cy q S) H → va_S A s.heap H locs → ∀ (ls : Array Slot), lv_has ls 2 [(0, .ref (q 0)), (1, .int v1)] → W p l e rmX12_undo s m args below meth c H locs 0 0 (MQ below (va_Qi (fun (r : Int32) (u : zSt) => (r, u) = z) (fun u t => va_P D vwCl (zW zshM zNM cy q u) t.heap) A) args s 0 0 A) (F0 m 26 ls [])) (hx1 : ∀ a, C1 (.inr a) → a = z) {x : ((zSt × Int32) ⊕ (Int32 × zSt))} (h : fX12_undo_26 (S, v1) = some x) (hc : C1 x) {H : Heap} {locs : List Loc} (hP : va_P D vwCl (zW zshM zNM cy q S) H) (hS : va_S A s.heap H locs) {ls : Array Slot} (hl : lv_has ls 2 [(0, .ref (q 0)), (1, .int v1)]) : W p l e rmX12_undo s m args below meth c H locs 0 0 (MQ below (va_Qi (fun (r : Int32) (u : zSt) => (r, u) = z) (fun u t => va_P D vwCl (zW zshM zNM cy q u) t.heap) A) args s 0 0 A) (F0 m 26 ls []) := by
  have hx := cx.1
  have hb := cx.2.1
  unfold fX12_undo_26 at h
  dsimp only at h
  refine lv_iload_n (pc := 26) hx hb dX12_undo_26 rfl (lv_at hl 1 rfl) ?_
  refine lv_sipush (pc := 27) hx hb dX12_undo_27 zs_140 ?_
  refine lv_icmp_ge (pc := 30) (tgt := 63) hx hb dX12_undo_30 (by decide) (fun c4 => ?_) (fun c4 => ?_)
  · replace h := zBr_t c4 h
    obtain ⟨y5, h, ex⟩ := zXr_e h
    have hc := hx1 y5 (by rw [ex] at hc; exact hc)
    rw [hc] at h
    refine lv_aload_n (pc := 63) hx hb dX12_undo_63 rfl (lv_at hl 0 rfl) ?_
    refine zr_getI (pc := 64) cx lk_X12_215 hP nM_0 sM_0 rfl dX12_undo_64 ?_
    have hz := Option.some.inj h
    exact zr_rqI (pc := 67) cx hr hlk hP hS hz dX12_undo_67
  · replace h := zBr_f c4 h
    refine lv_aload_n (pc := 33) hx hb dX12_undo_33 rfl (lv_at hl 0 rfl) ?_
    refine zr_getR (pc := 34) (t := 2) cx lk_X12_98 hP nM_0 sM_0 rfl dX12_undo_34 ?_
    refine lv_bipush (pc := 37) hx hb dX12_undo_37 zb_24 ?_
    refine lv_iload_n (pc := 39) hx hb dX12_undo_39 rfl (lv_at hl 1 rfl) ?_
    refine lv_iadd (pc := 40) hx hb dX12_undo_40 ?_
    refine lv_aload_n (pc := 41) hx hb dX12_undo_41 rfl (lv_at hl 0 rfl) ?_
    refine zr_getR (pc := 42) (t := 5) cx lk_X12_107 hP nM_0 sM_0 rfl dX12_undo_42 ?_
    refine lv_sipush (pc := 45) hx hb dX12_undo_45 zs_140 ?_
    refine lv_aload_n (pc := 48) hx hb dX12_undo_48 rfl (lv_at hl 0 rfl) ?_
    refine zr_getI (pc := 49) cx lk_X12_215 hP nM_0 sM_0 rfl dX12_undo_49 ?_
    refine lv_imul (pc := 52) hx hb dX12_undo_52 ?_
    refine lv_iload_n (pc := 53) hx hb dX12_undo_53 rfl (lv_at hl 1 rfl) ?_
    refine lv_iadd (pc := 54) hx hb dX12_undo_54 ?_
    obtain ⟨g6, h⟩ := zGd_e h
    refine zr_iald (pc := 55) cx hP nM_5 sM_5 g6 dX12_undo_55 ?_
    obtain ⟨g7, h⟩ := zGd_e h
    obtain ⟨S8, eS8, h⟩ := zLt_e h
    refine zr_iast (pc := 56) cx hq hP hS nM_2 sM_2 g7 dX12_undo_56 (fun H locs hP hS => ?_)
    rw [← eS8] at hP
    obtain ⟨x9, ex9, h⟩ := zLt_e h
    refine lv_iinc (v := x9) (lv' := [(1, .int x9), (0, .ref (q 0))]) (pc := 57) hx hb dX12_undo_57 hl (k := 1) rfl (by rw [zc_1]; exact ex9.symm) (by decide) rfl (fun ls hl => ?_)
    refine lv_goto (pc := 60) (tgt := 26) hx hb dX12_undo_60 (by decide) ?_
    cases h
    exact hb1 _ _ hc _ _ hP hS _ (lv_sub hl [1, 0] rfl)
set_option maxHeartbeats 4000000 in
set_option maxRecDepth 100000 in
theorem kX12_undo_26 {p : Program} {l : Launch} {e : Env} {s : State} {m : MethodId} {args : Array Value} {below : List Frame} {meth : Method} {c : Code} {D : va_G} {cy : Nat → ClassId} {q : Nat → Nat} {A : Nat → Prop} (cx : zX RX12 cX12_undo 2 p s m args c D cy) (hr : meth.sig.returnType = (some .int)) (hlk : meth.locks = false) (hq : zQ A q zNM) {z : (Int32 × zSt)} : ∀ (n : Nat) (S : zSt) (v1 : Int32), zLp (fX12_undo_26) n (S, v1) = some z → ∀ (H : Heap) (locs : List Loc), va_P D vwCl (zW zshM zNM cy q S) H → va_S A s.heap H locs → ∀ (ls : Array Slot), lv_has ls 2 [(0, .ref (q 0)), (1, .int v1)] → W p l e rmX12_undo s m args below meth c H locs 0 0 (MQ below (va_Qi (fun (r : Int32) (u : zSt) => (r, u) = z) (fun u t => va_P D vwCl (zW zshM zNM cy q u) t.heap) A) args s 0 0 A) (F0 m 26 ls []) := by
  intro n
  induction n with
  | zero =>
    intro S v1 h
    cases h
  | succ n ih =>
    intro S v1 h H locs hP hS ls hl
    obtain ⟨x, h, hk⟩ := zLp_e h
    exact kX12_undo_26B cx hr hlk hq  (C1 := zKt (fun t => zLp (fX12_undo_26) n t = some z) (fun a => a = z)) (fun S v1 ht H locs hP hS ls hl => ih S v1 ht H locs hP hS ls hl) (fun a ha => ha) h hk hP hS hl
def fX12_undo (S : zSt) : Option (Int32 × zSt) :=
  zLt (zI S 0 0 (0 : Int32)) (fun S1 => zBr ((S1.1 0 24) = 0) (some ((-1 : Int32), S1)) (zLt (zI S1 0 24 ((S1.1 0 24) - (1 : Int32))) (fun S3 => zLp (fX12_undo_26) 2000 (S3, (0 : Int32)))))
set_option maxHeartbeats 4000000 in
set_option maxRecDepth 100000 in
theorem mX12_undo {l : Launch} {D : va_G} {cy : Nat → ClassId} {q : Nat → Nat} {A : Nat → Prop} {S : zSt} (hq : zQ A q zNM) {z : (Int32 × zSt)} (h : fX12_undo S = some z) : zMq l yX12_undo cX12_undo 2 (some .int) rmX12_undo [.ref (q 0)] zshM zNM D cy q A S z := by
  refine Met.ofW (cc := cX12_undo) (maxL := 2) (ret := (some .int)) (by decide) rfl ?_
  intro p e s m args below meth c s₁ B hml hv
  obtain ⟨rfl, hP, hK⟩ := hv
  have cx : zX RX12 cX12_undo 2 p s m ([.ref (q 0)]).toArray c D cy := ⟨B.exec, B.bytes, hml, findClass_of_methodNamed B.named, fun w hw => atoms_spec (ws := Cond.code yX12_undo cX12_undo 2 (some .int) :: zTB) B.pre w (List.mem_cons_of_mem _ hw), hK⟩
  have hx := cx.1
  have hb := cx.2.1
  have hr := B.returns
  have hlk := B.notSynchronized
  have hS : va_S A s.heap s.heap [] := va_S.rf
  have hl := lv_entry ([.ref (q 0)]) (n := 2) (Nat.le_of_ble_eq_true rfl)
  rw [lg_entry_eq]
  generalize (lg_sl ([.ref (q 0)]) ++ List.replicate (2 - (lg_sl ([.ref (q 0)])).length) Slot.unset).toArray = ls at hl ⊢
  have hl : lv_has ls 2 [(0, .ref (q 0))] := hl
  unfold fX12_undo at h
  refine lv_aload_n (pc := 0) hx hb dX12_undo_0 rfl (lv_at hl 0 rfl) ?_
  refine lv_iconst (pc := 1) hx hb dX12_undo_1 zc_0 ?_
  obtain ⟨S1, eS1, h⟩ := zLt_e h
  refine zr_putI (pc := 2) cx lq_X12_1 hq hP hS nM_0 sM_0 rfl rfl rfl dX12_undo_2 (fun H locs hP hS => ?_)
  rw [← eS1] at hP
  refine lv_aload_n (pc := 5) hx hb dX12_undo_5 rfl (lv_at hl 0 rfl) ?_
  refine zr_getI (pc := 6) cx lk_X12_215 hP nM_0 sM_0 rfl dX12_undo_6 ?_
  refine lv_if_ne (pc := 9) (tgt := 14) hx hb dX12_undo_9 (by decide) (fun c2 => ?_) (fun c2 => ?_)
  · replace h := zBr_f c2 h
    refine lv_aload_n (pc := 14) hx hb dX12_undo_14 rfl (lv_at hl 0 rfl) ?_
    refine lv_dup (pc := 15) hx hb dX12_undo_15 rfl ?_
    refine zr_getI (pc := 16) cx lk_X12_215 hP nM_0 sM_0 rfl dX12_undo_16 ?_
    refine lv_iconst (pc := 19) hx hb dX12_undo_19 zc_1 ?_
    refine lv_isub (pc := 20) hx hb dX12_undo_20 ?_
    obtain ⟨S3, eS3, h⟩ := zLt_e h
    refine zr_putI (pc := 21) cx lq_X12_215 hq hP hS nM_0 sM_0 rfl rfl rfl dX12_undo_21 (fun H locs hP hS => ?_)
    rw [← eS3] at hP
    refine lv_iconst (pc := 24) hx hb dX12_undo_24 zc_0 ?_
    refine lv_istore_n (lv' := [(1, .int (0 : Int32)), (0, .ref (q 0))]) (pc := 25) hx hb dX12_undo_25 rfl hl (by decide) rfl (fun ls hl => ?_)
    exact kX12_undo_26 cx hr hlk hq 2000 _ _ h _ _ hP hS _ (lv_sub hl [1, 0] rfl)
  · replace h := zBr_t c2 h
    refine lv_iconst (pc := 12) hx hb dX12_undo_12 zc_m1 ?_
    have hz := Option.some.inj h
    exact zr_rqI (pc := 13) cx hr hlk hP hS hz dX12_undo_13
-- X12_write
abbrev rmX12_write : Room := { frames := 0, cells := 0, slots := 0, locals := 0 }
def fX12_write (S : zSt) (v1 : Int32) : Option zSt :=
  zGd (zIx (S.1 0 34) 64) (zLt (zI S 15 (S.1 0 34).toNatClampNeg v1) (fun S2 => zLt (zI S2 0 34 ((S2.1 0 34) + (1 : Int32))) (fun S3 => some S3)))
set_option maxHeartbeats 4000000 in
set_option maxRecDepth 100000 in
theorem mX12_write {l : Launch} {D : va_G} {cy : Nat → ClassId} {q : Nat → Nat} {A : Nat → Prop} {S : zSt} {v1 : Int32} (hq : zQ A q zNM) {z : zSt} (h : fX12_write S v1 = some z) : zMv l yX12_write cX12_write 2 none rmX12_write [.ref (q 0), .int v1] zshM zNM D cy q A S z := by
  refine Met.ofW (cc := cX12_write) (maxL := 2) (ret := none) (by decide) rfl ?_
  intro p e s m args below meth c s₁ B hml hv
  obtain ⟨rfl, hP, hK⟩ := hv
  have cx : zX RX12 cX12_write 2 p s m ([.ref (q 0), .int v1]).toArray c D cy := ⟨B.exec, B.bytes, hml, findClass_of_methodNamed B.named, fun w hw => atoms_spec (ws := Cond.code yX12_write cX12_write 2 none :: zTB) B.pre w (List.mem_cons_of_mem _ hw), hK⟩
  have hx := cx.1
  have hb := cx.2.1
  have hr := B.returns
  have hlk := B.notSynchronized
  have hS : va_S A s.heap s.heap [] := va_S.rf
  have hl := lv_entry ([.ref (q 0), .int v1]) (n := 2) (Nat.le_of_ble_eq_true rfl)
  rw [lg_entry_eq]
  generalize (lg_sl ([.ref (q 0), .int v1]) ++ List.replicate (2 - (lg_sl ([.ref (q 0), .int v1])).length) Slot.unset).toArray = ls at hl ⊢
  have hl : lv_has ls 2 [(0, .ref (q 0)), (1, .int v1)] := hl
  unfold fX12_write at h
  refine lv_aload_n (pc := 0) hx hb dX12_write_0 rfl (lv_at hl 0 rfl) ?_
  refine zr_getR (pc := 1) (t := 15) cx lk_X12_145 hP nM_0 sM_0 rfl dX12_write_1 ?_
  refine lv_aload_n (pc := 4) hx hb dX12_write_4 rfl (lv_at hl 0 rfl) ?_
  refine zr_getI (pc := 5) cx lk_X12_334 hP nM_0 sM_0 rfl dX12_write_5 ?_
  refine lv_iload_n (pc := 8) hx hb dX12_write_8 rfl (lv_at hl 1 rfl) ?_
  obtain ⟨g1, h⟩ := zGd_e h
  obtain ⟨S2, eS2, h⟩ := zLt_e h
  refine zr_iast (pc := 9) cx hq hP hS nM_15 sM_15 g1 dX12_write_9 (fun H locs hP hS => ?_)
  rw [← eS2] at hP
  refine lv_aload_n (pc := 10) hx hb dX12_write_10 rfl (lv_at hl 0 rfl) ?_
  refine lv_dup (pc := 11) hx hb dX12_write_11 rfl ?_
  refine zr_getI (pc := 12) cx lk_X12_334 hP nM_0 sM_0 rfl dX12_write_12 ?_
  refine lv_iconst (pc := 15) hx hb dX12_write_15 zc_1 ?_
  refine lv_iadd (pc := 16) hx hb dX12_write_16 ?_
  obtain ⟨S3, eS3, h⟩ := zLt_e h
  refine zr_putI (pc := 17) cx lq_X12_334 hq hP hS nM_0 sM_0 rfl rfl rfl dX12_write_17 (fun H locs hP hS => ?_)
  rw [← eS3] at hP
  have hz := Option.some.inj h
  exact zr_rqV (pc := 20) cx hr hlk hP hS hz dX12_write_20
