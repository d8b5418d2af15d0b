/-! card and byteAt of the class, printed by wip/gen/card2.py -/
theorem dX11_card_0 : decode cX11_card 0 = .ok (.aload_n 0, 1) := by decide +kernel
theorem dX11_card_1 : decode cX11_card 1 = .ok (.getfield 19, 3) := by decide +kernel
theorem dX11_card_4 : decode cX11_card 4 = .ok (.iconst 1, 1) := by decide +kernel
theorem dX11_card_5 : decode cX11_card 5 = .ok (.iload_n 1, 1) := by decide +kernel
theorem dX11_card_6 : decode cX11_card 6 = .ok (.invokevirtual 149, 3) := by decide +kernel
theorem dX11_card_9 : decode cX11_card 9 = .ok (.ifCond .ne 5, 3) := by decide +kernel
theorem dX11_card_14 : decode cX11_card 14 = .ok (.aload_n 0, 1) := by decide +kernel
theorem dX11_card_15 : decode cX11_card 15 = .ok (.getfield 103, 3) := by decide +kernel
theorem lk_X11_103 : zLk RX11 103 12 13 := ⟨"ParlourLeaves", RX11, TX11, 17, rfl, by decide, wsin_X11, wd_517, rfl⟩
theorem dX11_card_18 : decode cX11_card 18 = .ok (.iconst 0, 1) := by decide +kernel
theorem dX11_card_19 : decode cX11_card 19 = .ok (.invokevirtual 327, 3) := by decide +kernel
theorem wd_995 : (Jvm.Cond.selects "java/lang/StringBuilder" ({ cls := "java/lang/StringBuilder", name := "setLength", desc := "(I)V" } : Jvm.MethodName) ({ cls := "java/lang/StringBuilder", name := "setLength", desc := "(I)V" } : Jvm.MethodName)) ∈ zTB := List.mem_filter.mpr ⟨List.mem_append_right _ (List.mem_append_right _ (List.mem_append_right _ (List.mem_append_right _ (List.mem_append_right _ (List.mem_append_left _ (List.mem_of_getElem? (i := 35) rfl)))))), rfl⟩
theorem wd_993 : (Jvm.Cond.methodLink "ParlourLeaves" (327 : Nat) ({ cls := "java/lang/StringBuilder", name := "setLength", desc := "(I)V" } : Jvm.MethodName)) ∈ zTB := List.mem_filter.mpr ⟨List.mem_append_right _ (List.mem_append_right _ (List.mem_append_right _ (List.mem_append_right _ (List.mem_append_right _ (List.mem_append_left _ (List.mem_of_getElem? (i := 33) rfl)))))), rfl⟩
theorem wd_994 : (Jvm.Cond.instanceMethod ({ cls := "java/lang/StringBuilder", name := "setLength", desc := "(I)V" } : Jvm.MethodName)) ∈ zTB := List.mem_filter.mpr ⟨List.mem_append_right _ (List.mem_append_right _ (List.mem_append_right _ (List.mem_append_right _ (List.mem_append_right _ (List.mem_append_left _ (List.mem_of_getElem? (i := 34) rfl)))))), rfl⟩
theorem wd_996 : (Jvm.Cond.code ({ cls := "java/lang/StringBuilder", name := "setLength", desc := "(I)V" } : Jvm.MethodName) prog_27_method_89_code (2 : Nat) (Option.none : Option Jvm.ClassFile.FieldType)) ∈ zTB := List.mem_filter.mpr ⟨List.mem_append_right _ (List.mem_append_right _ (List.mem_append_right _ (List.mem_append_right _ (List.mem_append_right _ (List.mem_append_left _ (List.mem_of_getElem? (i := 36) rfl)))))), rfl⟩
theorem cb_X11_327 : zCB RX11 327 yJ4_setLength_d00df cJ4_setLength_d00df 2 none 1 := ⟨⟨by decide, by decide, by decide +kernel⟩, wd_993, wd_994, Or.inl wd_995, wd_18, wd_996⟩
theorem dX11_card_22 : decode cX11_card 22 = .ok (.aload_n 0, 1) := by decide +kernel
theorem dX11_card_23 : decode cX11_card 23 = .ok (.getfield 19, 3) := by decide +kernel
theorem dX11_card_26 : decode cX11_card 26 = .ok (.aload_n 0, 1) := by decide +kernel
theorem dX11_card_27 : decode cX11_card 27 = .ok (.getfield 103, 3) := by decide +kernel
theorem dX11_card_30 : decode cX11_card 30 = .ok (.iload_n 1, 1) := by decide +kernel
theorem dX11_card_31 : decode cX11_card 31 = .ok (.invokevirtual 330, 3) := by decide +kernel
theorem wd_1049 : (Jvm.Cond.selects "ParlourLeaves$House" ({ cls := "ParlourLeaves$House", name := "appendPlantName", desc := "(Ljava/lang/StringBuilder;I)V" } : Jvm.MethodName) ({ cls := "ParlourLeaves$House", name := "appendPlantName", desc := "(Ljava/lang/StringBuilder;I)V" } : Jvm.MethodName)) ∈ zTB := List.mem_filter.mpr ⟨List.mem_append_right _ (List.mem_append_right _ (List.mem_append_right _ (List.mem_append_right _ (List.mem_append_right _ (List.mem_append_left _ (List.mem_of_getElem? (i := 89) rfl)))))), rfl⟩
theorem wd_1047 : (Jvm.Cond.methodLink "ParlourLeaves" (330 : Nat) ({ cls := "ParlourLeaves$House", name := "appendPlantName", desc := "(Ljava/lang/StringBuilder;I)V" } : Jvm.MethodName)) ∈ zTB := List.mem_filter.mpr ⟨List.mem_append_right _ (List.mem_append_right _ (List.mem_append_right _ (List.mem_append_right _ (List.mem_append_right _ (List.mem_append_left _ (List.mem_of_getElem? (i := 87) rfl)))))), rfl⟩
theorem wd_1048 : (Jvm.Cond.instanceMethod ({ cls := "ParlourLeaves$House", name := "appendPlantName", desc := "(Ljava/lang/StringBuilder;I)V" } : Jvm.MethodName)) ∈ zTB := List.mem_filter.mpr ⟨List.mem_append_right _ (List.mem_append_right _ (List.mem_append_right _ (List.mem_append_right _ (List.mem_append_right _ (List.mem_append_left _ (List.mem_of_getElem? (i := 88) rfl)))))), rfl⟩
theorem wd_1050 : (Jvm.Cond.code ({ cls := "ParlourLeaves$House", name := "appendPlantName", desc := "(Ljava/lang/StringBuilder;I)V" } : Jvm.MethodName) prog_5_method_10_code (5 : Nat) (Option.none : Option Jvm.ClassFile.FieldType)) ∈ zTB := List.mem_filter.mpr ⟨List.mem_append_right _ (List.mem_append_right _ (List.mem_append_right _ (List.mem_append_right _ (List.mem_append_right _ (List.mem_append_left _ (List.mem_of_getElem? (i := 90) rfl)))))), rfl⟩
theorem cv_X11_330 : zCV RX11 RX3 330 yX3_appendPlantName cX3_appendPlantName 5 none 2 := ⟨rfl, ⟨by decide, by decide, by decide +kernel⟩, wd_1047, wd_1048, wd_1049, wd_7, wd_1050⟩
theorem dX11_card_34 : decode cX11_card 34 = .ok (.aload_n 0, 1) := by decide +kernel
theorem dX11_card_35 : decode cX11_card 35 = .ok (.getfield 19, 3) := by decide +kernel
theorem dX11_card_38 : decode cX11_card 38 = .ok (.getfield 163, 3) := by decide +kernel
theorem wd_167 : (Jvm.Cond.fieldLink "ParlourLeaves" (163 : Nat) "ParlourLeaves$House" "fern" "[I") ∈ zTB := List.mem_filter.mpr ⟨List.mem_append_right _ (List.mem_append_left _ (List.mem_of_getElem? (i := 167) rfl)), rfl⟩
theorem lk_X11_163 : zLk RX11 163 4 4 := ⟨"ParlourLeaves$House", RX3, TX3, 12, rfl, by decide, wsin_X3, wd_167, rfl⟩
theorem dX11_card_41 : decode cX11_card 41 = .ok (.iload_n 1, 1) := by decide +kernel
theorem dX11_card_42 : decode cX11_card 42 = .ok (.iaload, 1) := by decide +kernel
theorem dX11_card_43 : decode cX11_card 43 = .ok (.iconst 1, 1) := by decide +kernel
theorem dX11_card_44 : decode cX11_card 44 = .ok (.if_icmp .ne 22, 3) := by decide +kernel
theorem dX11_card_47 : decode cX11_card 47 = .ok (.aload_n 0, 1) := by decide +kernel
theorem dX11_card_48 : decode cX11_card 48 = .ok (.getfield 103, 3) := by decide +kernel
theorem dX11_card_51 : decode cX11_card 51 = .ok (.ldc_w 334, 3) := by decide +kernel
theorem dX11_card_54 : decode cX11_card 54 = .ok (.invokevirtual 336, 3) := by decide +kernel
theorem wd_1090 : (Jvm.Cond.selects "java/lang/StringBuilder" ({ cls := "java/lang/StringBuilder", name := "append", desc := "(Ljava/lang/String;)Ljava/lang/StringBuilder;" } : Jvm.MethodName) ({ cls := "java/lang/StringBuilder", name := "append", desc := "(Ljava/lang/String;)Ljava/lang/StringBuilder;" } : Jvm.MethodName)) ∈ zTB := List.mem_filter.mpr ⟨List.mem_append_right _ (List.mem_append_right _ (List.mem_append_right _ (List.mem_append_right _ (List.mem_append_right _ (List.mem_append_left _ (List.mem_of_getElem? (i := 130) rfl)))))), rfl⟩
theorem wd_1088 : (Jvm.Cond.methodLink "ParlourLeaves" (336 : Nat) ({ cls := "java/lang/StringBuilder", name := "append", desc := "(Ljava/lang/String;)Ljava/lang/StringBuilder;" } : Jvm.MethodName)) ∈ zTB := List.mem_filter.mpr ⟨List.mem_append_right _ (List.mem_append_right _ (List.mem_append_right _ (List.mem_append_right _ (List.mem_append_right _ (List.mem_append_left _ (List.mem_of_getElem? (i := 128) rfl)))))), rfl⟩
theorem wd_1089 : (Jvm.Cond.instanceMethod ({ cls := "java/lang/StringBuilder", name := "append", desc := "(Ljava/lang/String;)Ljava/lang/StringBuilder;" } : Jvm.MethodName)) ∈ zTB := List.mem_filter.mpr ⟨List.mem_append_right _ (List.mem_append_right _ (List.mem_append_right _ (List.mem_append_right _ (List.mem_append_right _ (List.mem_append_left _ (List.mem_of_getElem? (i := 129) rfl)))))), rfl⟩
theorem wd_1091 : (Jvm.Cond.code ({ cls := "java/lang/StringBuilder", name := "append", desc := "(Ljava/lang/String;)Ljava/lang/StringBuilder;" } : Jvm.MethodName) prog_27_method_7_code (2 : Nat) (Option.some (Jvm.ClassFile.FieldType.object "java/lang/StringBuilder"))) ∈ zTB := List.mem_filter.mpr ⟨List.mem_append_right _ (List.mem_append_right _ (List.mem_append_right _ (List.mem_append_right _ (List.mem_append_right _ (List.mem_append_left _ (List.mem_of_getElem? (i := 131) rfl)))))), rfl⟩
theorem cb_X11_336 : zCB RX11 336 yJ4_append_15ec4 cJ4_append_15ec4 2 (some (.object "java/lang/StringBuilder")) 1 := ⟨⟨by decide, by decide, by decide +kernel⟩, wd_1088, wd_1089, Or.inl wd_1090, wd_18, wd_1091⟩
theorem dX11_card_57 : decode cX11_card 57 = .ok (.pop, 1) := by decide +kernel
theorem dX11_card_58 : decode cX11_card 58 = .ok (.aload_n 0, 1) := by decide +kernel
theorem dX11_card_59 : decode cX11_card 59 = .ok (.getfield 103, 3) := by decide +kernel
theorem dX11_card_62 : decode cX11_card 62 = .ok (.invokevirtual 340, 3) := by decide +kernel
theorem wd_1129 : (Jvm.Cond.selects "java/lang/StringBuilder" ({ cls := "java/lang/StringBuilder", name := "length", desc := "()I" } : Jvm.MethodName) ({ cls := "java/lang/StringBuilder", name := "length", desc := "()I" } : Jvm.MethodName)) ∈ zTB := List.mem_filter.mpr ⟨List.mem_append_right _ (List.mem_append_right _ (List.mem_append_right _ (List.mem_append_right _ (List.mem_append_right _ (List.mem_append_left _ (List.mem_of_getElem? (i := 169) rfl)))))), rfl⟩
theorem wd_1127 : (Jvm.Cond.methodLink "ParlourLeaves" (340 : Nat) ({ cls := "java/lang/StringBuilder", name := "length", desc := "()I" } : Jvm.MethodName)) ∈ zTB := List.mem_filter.mpr ⟨List.mem_append_right _ (List.mem_append_right _ (List.mem_append_right _ (List.mem_append_right _ (List.mem_append_right _ (List.mem_append_left _ (List.mem_of_getElem? (i := 167) rfl)))))), rfl⟩
theorem wd_1128 : (Jvm.Cond.instanceMethod ({ cls := "java/lang/StringBuilder", name := "length", desc := "()I" } : Jvm.MethodName)) ∈ zTB := List.mem_filter.mpr ⟨List.mem_append_right _ (List.mem_append_right _ (List.mem_append_right _ (List.mem_append_right _ (List.mem_append_right _ (List.mem_append_left _ (List.mem_of_getElem? (i := 168) rfl)))))), rfl⟩
theorem wd_1130 : (Jvm.Cond.code ({ cls := "java/lang/StringBuilder", name := "length", desc := "()I" } : Jvm.MethodName) prog_27_method_93_code (1 : Nat) (Option.some Jvm.ClassFile.FieldType.int)) ∈ zTB := List.mem_filter.mpr ⟨List.mem_append_right _ (List.mem_append_right _ (List.mem_append_right _ (List.mem_append_right _ (List.mem_append_right _ (List.mem_append_left _ (List.mem_of_getElem? (i := 170) rfl)))))), rfl⟩
theorem cb_X11_340 : zCB RX11 340 yJ4_length_8abf5 cJ4_length_8abf5 1 (some .int) 0 := ⟨⟨by decide, by decide, by decide +kernel⟩, wd_1127, wd_1128, Or.inl wd_1129, wd_18, wd_1130⟩
theorem dX11_card_65 : decode cX11_card 65 = .ok (.ireturn, 1) := by decide +kernel
theorem dX11_card_66 : decode cX11_card 66 = .ok (.aload_n 0, 1) := by decide +kernel
theorem dX11_card_67 : decode cX11_card 67 = .ok (.getfield 103, 3) := by decide +kernel
theorem dX11_card_70 : decode cX11_card 70 = .ok (.ldc_w 342, 3) := by decide +kernel
theorem dX11_card_73 : decode cX11_card 73 = .ok (.invokevirtual 336, 3) := by decide +kernel
theorem dX11_card_76 : decode cX11_card 76 = .ok (.pop, 1) := by decide +kernel
theorem dX11_card_77 : decode cX11_card 77 = .ok (.aload_n 0, 1) := by decide +kernel
theorem dX11_card_78 : decode cX11_card 78 = .ok (.getfield 103, 3) := by decide +kernel
theorem dX11_card_81 : decode cX11_card 81 = .ok (.aload_n 0, 1) := by decide +kernel
theorem dX11_card_82 : decode cX11_card 82 = .ok (.getfield 28, 3) := by decide +kernel
theorem dX11_card_85 : decode cX11_card 85 = .ok (.iload_n 1, 1) := by decide +kernel
theorem dX11_card_86 : decode cX11_card 86 = .ok (.invokevirtual 173, 3) := by decide +kernel
theorem dX11_card_89 : decode cX11_card 89 = .ok (.invokestatic 176, 3) := by decide +kernel
theorem cs_X11_176 : zCS RX11 176 yJ6_bitCount_0f7a4 cJ6_bitCount_0f7a4 1 (some .int) 1 := ⟨⟨by decide, by decide, by decide +kernel⟩, wd_934, wd_732, wd_27, wd_733⟩
theorem dX11_card_92 : decode cX11_card 92 = .ok (.invokevirtual 344, 3) := by decide +kernel
theorem wd_1137 : (Jvm.Cond.selects "java/lang/StringBuilder" ({ cls := "java/lang/StringBuilder", name := "append", desc := "(I)Ljava/lang/StringBuilder;" } : Jvm.MethodName) ({ cls := "java/lang/StringBuilder", name := "append", desc := "(I)Ljava/lang/StringBuilder;" } : Jvm.MethodName)) ∈ zTB := List.mem_filter.mpr ⟨List.mem_append_right _ (List.mem_append_right _ (List.mem_append_right _ (List.mem_append_right _ (List.mem_append_right _ (List.mem_append_left _ (List.mem_of_getElem? (i := 177) rfl)))))), rfl⟩
theorem wd_1135 : (Jvm.Cond.methodLink "ParlourLeaves" (344 : Nat) ({ cls := "java/lang/StringBuilder", name := "append", desc := "(I)Ljava/lang/StringBuilder;" } : Jvm.MethodName)) ∈ zTB := List.mem_filter.mpr ⟨List.mem_append_right _ (List.mem_append_right _ (List.mem_append_right _ (List.mem_append_right _ (List.mem_append_right _ (List.mem_append_left _ (List.mem_of_getElem? (i := 175) rfl)))))), rfl⟩
theorem wd_1136 : (Jvm.Cond.instanceMethod ({ cls := "java/lang/StringBuilder", name := "append", desc := "(I)Ljava/lang/StringBuilder;" } : Jvm.MethodName)) ∈ zTB := List.mem_filter.mpr ⟨List.mem_append_right _ (List.mem_append_right _ (List.mem_append_right _ (List.mem_append_right _ (List.mem_append_right _ (List.mem_append_left _ (List.mem_of_getElem? (i := 176) rfl)))))), rfl⟩
theorem wd_1138 : (Jvm.Cond.code ({ cls := "java/lang/StringBuilder", name := "append", desc := "(I)Ljava/lang/StringBuilder;" } : Jvm.MethodName) prog_27_method_15_code (2 : Nat) (Option.some (Jvm.ClassFile.FieldType.object "java/lang/StringBuilder"))) ∈ zTB := List.mem_filter.mpr ⟨List.mem_append_right _ (List.mem_append_right _ (List.mem_append_right _ (List.mem_append_right _ (List.mem_append_right _ (List.mem_append_left _ (List.mem_of_getElem? (i := 178) rfl)))))), rfl⟩
theorem cb_X11_344 : zCB RX11 344 yJ4_append_bf812 cJ4_append_bf812 2 (some (.object "java/lang/StringBuilder")) 1 := ⟨⟨by decide, by decide, by decide +kernel⟩, wd_1135, wd_1136, Or.inl wd_1137, wd_18, wd_1138⟩
theorem dX11_card_95 : decode cX11_card 95 = .ok (.pop, 1) := by decide +kernel
theorem dX11_card_96 : decode cX11_card 96 = .ok (.aload_n 0, 1) := by decide +kernel
theorem dX11_card_97 : decode cX11_card 97 = .ok (.getfield 28, 3) := by decide +kernel
theorem dX11_card_100 : decode cX11_card 100 = .ok (.iload_n 1, 1) := by decide +kernel
theorem dX11_card_101 : decode cX11_card 101 = .ok (.invokevirtual 169, 3) := by decide +kernel
theorem wd_1160 : (Jvm.Cond.methodLink "ParlourLeaves" (169 : Nat) ({ cls := "ParlourLeaves$Life", name := "seenBy", desc := "(I)I" } : Jvm.MethodName)) ∈ zTB := List.mem_filter.mpr ⟨List.mem_append_right _ (List.mem_append_right _ (List.mem_append_right _ (List.mem_append_right _ (List.mem_append_right _ (List.mem_append_left _ (List.mem_of_getElem? (i := 200) rfl)))))), rfl⟩
theorem cv_X11_169 : zCV RX11 RX6 169 yX6_seenBy cX6_seenBy 2 (some .int) 1 := ⟨rfl, ⟨by decide, by decide, by decide +kernel⟩, wd_1160, wd_770, wd_771, wd_8, wd_772⟩
theorem dX11_card_104 : decode cX11_card 104 = .ok (.ifCond .ne 14, 3) := by decide +kernel
theorem dX11_card_107 : decode cX11_card 107 = .ok (.aload_n 0, 1) := by decide +kernel
theorem dX11_card_108 : decode cX11_card 108 = .ok (.getfield 103, 3) := by decide +kernel
theorem dX11_card_111 : decode cX11_card 111 = .ok (.ldc_w 347, 3) := by decide +kernel
theorem dX11_card_114 : decode cX11_card 114 = .ok (.invokevirtual 336, 3) := by decide +kernel
theorem dX11_card_117 : decode cX11_card 117 = .ok (.pop, 1) := by decide +kernel
theorem dX11_card_118 : decode cX11_card 118 = .ok (.aload_n 0, 1) := by decide +kernel
theorem dX11_card_119 : decode cX11_card 119 = .ok (.getfield 103, 3) := by decide +kernel
theorem dX11_card_122 : decode cX11_card 122 = .ok (.invokevirtual 340, 3) := by decide +kernel
theorem dX11_card_125 : decode cX11_card 125 = .ok (.ireturn, 1) := by decide +kernel
abbrev rmX11_card : Room := { frames := 6, cells := 2, slots := 68, locals := 153 }
set_option maxHeartbeats 1000000 in
set_option maxRecDepth 100000 in
theorem mX11_card {l : Launch} {D : va_G} {cy : Nat → ClassId} {kK kV : Nat → Nat} {A : Nat → Prop} {q : Nat → Nat} {S : zSt} {j N : Nat} {u : zU} {tx l1 : List Nat} {za ws : Int32} (hsep : ∀ k, k < 262 → ¬ A (q k)) (hj : j < 6) (hw : S.2 10 j = lN (f32 l1)) (ok : dOk l1) (h7 : l1.length ≤ 7) (hu : zOkB tx u) (hD : va_D A (zBx cy (q 262) (nI tx.length) u)) (hhas : fX3_has S 4 1 (nI j) = some 1) (hacts : fX6_actsShown S 14 (nI j) = some za) (hbit : fJ6_bitCount_0f7a4 za = some (nI N)) (hN : N ≤ 12) (hseen : fX6_seenBy S 14 (nI j) = some ws)  : Met l yX11_card (Cond.code yX11_card cX11_card 2 (some .int) :: zTB) rmX11_card (va_Pc [.ref (q 0), .int (nI j)] (fun U => zPr zsh zNC D cy q S U ∧ zPf D cy kK kV A (zBx cy (q 262) (nI tx.length) u) U)) (va_Qi (fun (r : Int32) (u2 : zU) => r = nI (cTx l1 (decide (S.1 9 j = 1)) N (decide (ws = 0))).length ∧ zOkB (cTx l1 (decide (S.1 9 j = 1)) N (decide (ws = 0))) u2) (fun u2 t => va_P D vwCl (zBx cy (q 262) (nI (cTx l1 (decide (S.1 9 j = 1)) N (decide (ws = 0))).length) u2) t.heap ∧ va_D A (zBx cy (q 262) (nI (cTx l1 (decide (S.1 9 j = 1)) N (decide (ws = 0))).length) u2)) A) 2 68 A := by
  refine Met.ofW (cc := cX11_card) (maxL := 2) (ret := (some .int)) (by decide) rfl ?_
  intro p e s m args below meth c s₁ B hml hv
  obtain ⟨rfl, ⟨hC, hK⟩, hA, hP, -, hE⟩ := hv
  have cx : zX RX11 cX11_card 2 p s m ([.ref (q 0), .int (nI j)]).toArray c D cy := ⟨B.exec, B.bytes, hml, findClass_of_methodNamed B.named, fun w hw => atoms_spec (ws := Cond.code yX11_card cX11_card 2 (some .int) :: zTB) B.pre w (List.mem_cons_of_mem _ hw), hK⟩
  have hx := cx.1
  have hb := cx.2.1
  have hr := B.returns
  have hlk := B.notSynchronized
  have hS : va_S A s.heap s.heap [] := va_S.rf
  have hl := lv_entry ([.ref (q 0), .int (nI j)]) (n := 2) (Nat.le_of_ble_eq_true rfl)
  rw [lg_entry_eq]
  generalize (lg_sl ([.ref (q 0), .int (nI j)]) ++ List.replicate (2 - (lg_sl ([.ref (q 0), .int (nI j)])).length) Slot.unset).toArray = ls at hl ⊢
  have hl : lv_has ls 2 [(0, .ref (q 0)), (1, .int (nI j))] := hl
  by_cases hfe : S.1 9 j = 1
  · refine lv_aload_n (pc := 0) hx hb dX11_card_0 rfl (lv_at hl 0 rfl) ?_
    refine zr_getR (pc := 1) (t := 4) cx lk_X11_19 hC nC_0 sC_0 rfl dX11_card_1 ?_
    refine lv_iconst (pc := 4) hx hb dX11_card_4 zc_1 ?_
    refine lv_iload_n (pc := 5) hx hb dX11_card_5 rfl (lv_at hl 1 rfl) ?_
    refine zr_VI (pc := 6) (rest := []) cx cv_X11_149 (mX3_has zHouse_4 hhas) ⟨⟨rfl, rfl⟩, Nat.le_of_ble_eq_true rfl, Nat.le_of_ble_eq_true rfl⟩ ⟨Nat.le_of_ble_eq_true rfl, Nat.le_of_ble_eq_true rfl⟩ hC (nX3_0 zHouse_4) (sX3_0 zHouse_4) rfl hl.1 rfl rfl (Nat.le_of_ble_eq_true rfl) dX11_card_6 ?_
    refine lv_if_ne (pc := 9) (tgt := 14) hx hb dX11_card_9 (by decide) (fun c0 => ?_) (fun c0 => absurd c0 (by decide))
    refine lv_aload_n (pc := 14) hx hb dX11_card_14 rfl (lv_at hl 0 rfl) ?_
    refine zr_getR (pc := 15) (t := 262) cx lk_X11_103 hC nC_0 sC_0 rfl dX11_card_15 ?_
    refine lv_iconst (pc := 18) hx hb dX11_card_18 zc_0 ?_
    refine zr_zV (pc := 19) (As := [.int 0]) (rest := []) cx hE.2.2.2.2.2.2.2 cb_X11_327 (mJ4_setLength hu hD) ⟨Nat.le_of_ble_eq_true rfl, Nat.le_of_ble_eq_true rfl⟩ ⟨Nat.le_of_ble_eq_true rfl, Nat.le_of_ble_eq_true rfl⟩ hE (fun _ h => h) (fun q h => hA q (Nat.le_trans hS.1 h)) hP hS hl.1 rfl rfl (Nat.le_of_ble_eq_true rfl) dX11_card_19 (fun u H locs hu hP hD hz hk2 hS => ?_)
    have hC : va_P D vwCl (zW zsh zNC cy q S) H := hC.kept (fun k x hx => hk2 x.1 (hC k x hx).lt (zNA hsep hx))
    refine lv_aload_n (pc := 22) hx hb dX11_card_22 rfl (lv_at hl 0 rfl) ?_
    refine zr_getR (pc := 23) (t := 4) cx lk_X11_19 hC nC_0 sC_0 rfl dX11_card_23 ?_
    refine lv_aload_n (pc := 26) hx hb dX11_card_26 rfl (lv_at hl 0 rfl) ?_
    refine zr_getR (pc := 27) (t := 262) cx lk_X11_103 hC nC_0 sC_0 rfl dX11_card_27 ?_
    refine lv_iload_n (pc := 30) hx hb dX11_card_30 rfl (lv_at hl 1 rfl) ?_
    refine va_callv (va_runV (As := [.ref (q 262), .int (nI j)]) (rest := []) (zr_fix cx) (mX3_appendName hsep hj hw ok h7 hu hD) (zr_cwV cx cv_X11_330 ⟨⟨rfl, rfl⟩, Nat.le_of_ble_eq_true rfl, Nat.le_of_ble_eq_true rfl⟩) ⟨fun a U g mk h => ⟨h.1, zPr_bl a U g mk h.2.1, zPf_bl a U g mk h.2.2⟩, va_recv (ci := 4) cx.2.2.2.2.2.1 hC rfl (zW_at nC_4 sC_4), fun U hU hW => ⟨rfl, zr_pre cx hC U hU hW, zr_pf cx hE hS (fun _ h => h) (fun q h => hA q (Nat.le_trans hS.1 h)) hP U hU hW⟩⟩ rfl rfl hl.1 rfl (lv_room (Nat.le_of_ble_eq_true rfl)) dX11_card_31 ⟨Nat.le_of_ble_eq_true rfl, Nat.le_of_ble_eq_true rfl⟩) hS (fun q _ h => h) (fun _ h => h) (fun u t H locs ht _ hu hb2 hz hk2 hS => ?_)
    obtain ⟨hP, hD⟩ := hb2
    subst ht
    have hC : va_P D vwCl (zW zsh zNC cy q S) t.heap := hC.kept (fun k x hx => hk2 x.1 (hC k x hx).lt (zNA hsep hx))
    refine lv_aload_n (pc := 34) hx hb dX11_card_34 rfl (lv_at hl 0 rfl) ?_
    refine zr_getR (pc := 35) (t := 4) cx lk_X11_19 hC nC_0 sC_0 rfl dX11_card_35 ?_
    refine zr_getR (pc := 38) (t := 9) cx lk_X11_163 hC nC_4 sC_4 rfl dX11_card_38 ?_
    refine lv_iload_n (pc := 41) hx hb dX11_card_41 rfl (lv_at hl 1 rfl) ?_
    refine zr_iald (pc := 42) cx hC nC_9 sC_9 (zIx_nI hj (by decide)) dX11_card_42 ?_
    rw [nI_clamp (by omega)]
    refine lv_iconst (pc := 43) hx hb dX11_card_43 zc_1 ?_
    refine lv_icmp_ne (pc := 44) (tgt := 66) hx hb dX11_card_44 (by decide) (fun c0 => absurd hfe c0) (fun c0 => ?_)
    refine lv_aload_n (pc := 47) hx hb dX11_card_47 rfl (lv_at hl 0 rfl) ?_
    refine zr_getR (pc := 48) (t := 262) cx lk_X11_103 hC nC_0 sC_0 rfl dX11_card_48 ?_
    refine zr_ldcw (pc := 51) hx hb cx.2.2.2.1 (hE.2.2.2.1 1 (by decide)) dX11_card_51 ?_
    refine zr_aV (pc := 54) (As := [.ref (kK 1)]) (rest := []) cx hE.2.2.2.2.2.2.2 cb_X11_336 (mJ4_appendS (i := 1) hu hD (by decide) (by decide) (by have hdl := dig_le hN; rw [show zLen.getD 1 0 = 10 from rfl]; simp only [List.length_append, List.length_map, show (zStr 2).length = 5 from rfl]; omega)) ⟨Nat.le_of_ble_eq_true rfl, Nat.le_of_ble_eq_true rfl⟩ ⟨Nat.le_of_ble_eq_true rfl, Nat.le_of_ble_eq_true rfl⟩ hE (fun _ h => h) (fun q h => hA q (Nat.le_trans hS.1 h)) hP hS hl.1 rfl rfl (Nat.le_of_ble_eq_true rfl) dX11_card_54 (fun u H locs hu hP hD hz hk2 hS => ?_)
    have hC : va_P D vwCl (zW zsh zNC cy q S) H := hC.kept (fun k x hx => hk2 x.1 (hC k x hx).lt (zNA hsep hx))
    refine lv_pop (pc := 57) hx hb dX11_card_57 rfl ?_
    refine lv_aload_n (pc := 58) hx hb dX11_card_58 rfl (lv_at hl 0 rfl) ?_
    refine zr_getR (pc := 59) (t := 262) cx lk_X11_103 hC nC_0 sC_0 rfl dX11_card_59 ?_
    refine zr_bI (pc := 62) (As := []) (rest := []) cx hE.2.2.2.2.2.2.2 cb_X11_340 mJ4_length ⟨⟨rfl, rfl⟩, Nat.le_of_ble_eq_true rfl, Nat.le_of_ble_eq_true rfl⟩ ⟨Nat.le_of_ble_eq_true rfl, Nat.le_of_ble_eq_true rfl⟩ (zr_preB cx zPb_bl (zr_pb cx hE hS (fun _ h => h.elim) hP) hP rfl) hl.1 rfl rfl (Nat.le_of_ble_eq_true rfl) dX11_card_62 ?_
    have et : ((l1.map (fun c => 96 + c)) ++ zStr 1) = cTx l1 (decide (S.1 9 j = 1)) N (decide (ws = 0)) := by rw [decide_eq_true hfe]; rfl
    rw [et] at hu hP hD
    rw [et]
    refine W.widen (k := 2) (n := 68) (Nat.le_of_ble_eq_true rfl) (Nat.le_of_ble_eq_true rfl) ?_
    exact W.iret (pc := 65) hx hb hr (fun t ht hW => ⟨⟨_, u, rfl, ⟨rfl, hu⟩, (show va_P D vwCl _ t.heap from by rw [ht]; exact hP), hD⟩, hS.F ht⟩) hS.2.2 dX11_card_65
  · by_cases hbl : ws = 0
    · refine lv_aload_n (pc := 0) hx hb dX11_card_0 rfl (lv_at hl 0 rfl) ?_
      refine zr_getR (pc := 1) (t := 4) cx lk_X11_19 hC nC_0 sC_0 rfl dX11_card_1 ?_
      refine lv_iconst (pc := 4) hx hb dX11_card_4 zc_1 ?_
      refine lv_iload_n (pc := 5) hx hb dX11_card_5 rfl (lv_at hl 1 rfl) ?_
      refine zr_VI (pc := 6) (rest := []) cx cv_X11_149 (mX3_has zHouse_4 hhas) ⟨⟨rfl, rfl⟩, Nat.le_of_ble_eq_true rfl, Nat.le_of_ble_eq_true rfl⟩ ⟨Nat.le_of_ble_eq_true rfl, Nat.le_of_ble_eq_true rfl⟩ hC (nX3_0 zHouse_4) (sX3_0 zHouse_4) rfl hl.1 rfl rfl (Nat.le_of_ble_eq_true rfl) dX11_card_6 ?_
      refine lv_if_ne (pc := 9) (tgt := 14) hx hb dX11_card_9 (by decide) (fun c0 => ?_) (fun c0 => absurd c0 (by decide))
      refine lv_aload_n (pc := 14) hx hb dX11_card_14 rfl (lv_at hl 0 rfl) ?_
      refine zr_getR (pc := 15) (t := 262) cx lk_X11_103 hC nC_0 sC_0 rfl dX11_card_15 ?_
      refine lv_iconst (pc := 18) hx hb dX11_card_18 zc_0 ?_
      refine zr_zV (pc := 19) (As := [.int 0]) (rest := []) cx hE.2.2.2.2.2.2.2 cb_X11_327 (mJ4_setLength hu hD) ⟨Nat.le_of_ble_eq_true rfl, Nat.le_of_ble_eq_true rfl⟩ ⟨Nat.le_of_ble_eq_true rfl, Nat.le_of_ble_eq_true rfl⟩ hE (fun _ h => h) (fun q h => hA q (Nat.le_trans hS.1 h)) hP hS hl.1 rfl rfl (Nat.le_of_ble_eq_true rfl) dX11_card_19 (fun u H locs hu hP hD hz hk2 hS => ?_)
      have hC : va_P D vwCl (zW zsh zNC cy q S) H := hC.kept (fun k x hx => hk2 x.1 (hC k x hx).lt (zNA hsep hx))
      refine lv_aload_n (pc := 22) hx hb dX11_card_22 rfl (lv_at hl 0 rfl) ?_
      refine zr_getR (pc := 23) (t := 4) cx lk_X11_19 hC nC_0 sC_0 rfl dX11_card_23 ?_
      refine lv_aload_n (pc := 26) hx hb dX11_card_26 rfl (lv_at hl 0 rfl) ?_
      refine zr_getR (pc := 27) (t := 262) cx lk_X11_103 hC nC_0 sC_0 rfl dX11_card_27 ?_
      refine lv_iload_n (pc := 30) hx hb dX11_card_30 rfl (lv_at hl 1 rfl) ?_
      refine va_callv (va_runV (As := [.ref (q 262), .int (nI j)]) (rest := []) (zr_fix cx) (mX3_appendName hsep hj hw ok h7 hu hD) (zr_cwV cx cv_X11_330 ⟨⟨rfl, rfl⟩, Nat.le_of_ble_eq_true rfl, Nat.le_of_ble_eq_true rfl⟩) ⟨fun a U g mk h => ⟨h.1, zPr_bl a U g mk h.2.1, zPf_bl a U g mk h.2.2⟩, va_recv (ci := 4) cx.2.2.2.2.2.1 hC rfl (zW_at nC_4 sC_4), fun U hU hW => ⟨rfl, zr_pre cx hC U hU hW, zr_pf cx hE hS (fun _ h => h) (fun q h => hA q (Nat.le_trans hS.1 h)) hP U hU hW⟩⟩ rfl rfl hl.1 rfl (lv_room (Nat.le_of_ble_eq_true rfl)) dX11_card_31 ⟨Nat.le_of_ble_eq_true rfl, Nat.le_of_ble_eq_true rfl⟩) hS (fun q _ h => h) (fun _ h => h) (fun u t H locs ht _ hu hb2 hz hk2 hS => ?_)
      obtain ⟨hP, hD⟩ := hb2
      subst ht
      have hC : va_P D vwCl (zW zsh zNC cy q S) t.heap := hC.kept (fun k x hx => hk2 x.1 (hC k x hx).lt (zNA hsep hx))
      refine lv_aload_n (pc := 34) hx hb dX11_card_34 rfl (lv_at hl 0 rfl) ?_
      refine zr_getR (pc := 35) (t := 4) cx lk_X11_19 hC nC_0 sC_0 rfl dX11_card_35 ?_
      refine zr_getR (pc := 38) (t := 9) cx lk_X11_163 hC nC_4 sC_4 rfl dX11_card_38 ?_
      refine lv_iload_n (pc := 41) hx hb dX11_card_41 rfl (lv_at hl 1 rfl) ?_
      refine zr_iald (pc := 42) cx hC nC_9 sC_9 (zIx_nI hj (by decide)) dX11_card_42 ?_
      rw [nI_clamp (by omega)]
      refine lv_iconst (pc := 43) hx hb dX11_card_43 zc_1 ?_
      refine lv_icmp_ne (pc := 44) (tgt := 66) hx hb dX11_card_44 (by decide) (fun c0 => ?_) (fun c0 => absurd c0 hfe)
      refine lv_aload_n (pc := 66) hx hb dX11_card_66 rfl (lv_at hl 0 rfl) ?_
      refine zr_getR (pc := 67) (t := 262) cx lk_X11_103 hC nC_0 sC_0 rfl dX11_card_67 ?_
      refine zr_ldcw (pc := 70) hx hb cx.2.2.2.1 (hE.2.2.2.1 2 (by decide)) dX11_card_70 ?_
      refine zr_aV (pc := 73) (As := [.ref (kK 2)]) (rest := []) cx hE.2.2.2.2.2.2.2 cb_X11_336 (mJ4_appendS (i := 2) hu hD (by decide) (by decide) (by have hdl := dig_le hN; rw [show zLen.getD 2 0 = 5 from rfl]; simp only [List.length_append, List.length_map, show (zStr 2).length = 5 from rfl]; omega)) ⟨Nat.le_of_ble_eq_true rfl, Nat.le_of_ble_eq_true rfl⟩ ⟨Nat.le_of_ble_eq_true rfl, Nat.le_of_ble_eq_true rfl⟩ hE (fun _ h => h) (fun q h => hA q (Nat.le_trans hS.1 h)) hP hS hl.1 rfl rfl (Nat.le_of_ble_eq_true rfl) dX11_card_73 (fun u H locs hu hP hD hz hk2 hS => ?_)
      have hC : va_P D vwCl (zW zsh zNC cy q S) H := hC.kept (fun k x hx => hk2 x.1 (hC k x hx).lt (zNA hsep hx))
      refine lv_pop (pc := 76) hx hb dX11_card_76 rfl ?_
      refine lv_aload_n (pc := 77) hx hb dX11_card_77 rfl (lv_at hl 0 rfl) ?_
      refine zr_getR (pc := 78) (t := 262) cx lk_X11_103 hC nC_0 sC_0 rfl dX11_card_78 ?_
      refine lv_aload_n (pc := 81) hx hb dX11_card_81 rfl (lv_at hl 0 rfl) ?_
      refine zr_getR (pc := 82) (t := 14) cx lk_X11_28 hC nC_0 sC_0 rfl dX11_card_82 ?_
      refine lv_iload_n (pc := 85) hx hb dX11_card_85 rfl (lv_at hl 1 rfl) ?_
      refine zr_VI (pc := 86) (rest := [.ref (q 262)]) cx cv_X11_173 (mX6_actsShown zLife_14 hacts) ⟨⟨rfl, rfl⟩, Nat.le_of_ble_eq_true rfl, Nat.le_of_ble_eq_true rfl⟩ ⟨Nat.le_of_ble_eq_true rfl, Nat.le_of_ble_eq_true rfl⟩ hC (nX6_0 zLife_14) (sX6_0 zLife_14) rfl hl.1 rfl rfl (Nat.le_of_ble_eq_true rfl) dX11_card_86 ?_
      refine zr_SI (pc := 89) (rest := [.ref (q 262)]) cx cs_X11_176 (mJ6_bitCount_0f7a4 hbit) ⟨⟨rfl, rfl⟩, Nat.le_of_ble_eq_true rfl, Nat.le_of_ble_eq_true rfl⟩ ⟨Nat.le_of_ble_eq_true rfl, Nat.le_of_ble_eq_true rfl⟩ (zr_preK cx) hl.1 rfl rfl (Nat.le_of_ble_eq_true rfl) dX11_card_89 ?_
      refine zr_aV (pc := 92) (As := [.int (nI N)]) (rest := []) cx hE.2.2.2.2.2.2.2 cb_X11_344 (mJ4_appendI (k := N) hu hD (by omega) (by have hdl := dig_le hN; simp only [List.length_append, List.length_map, show (zStr 2).length = 5 from rfl]; rcases hu.1 with h | h <;> omega)) ⟨Nat.le_of_ble_eq_true rfl, Nat.le_of_ble_eq_true rfl⟩ ⟨Nat.le_of_ble_eq_true rfl, Nat.le_of_ble_eq_true rfl⟩ hE (fun _ h => h) (fun q h => hA q (Nat.le_trans hS.1 h)) hP hS hl.1 rfl rfl (Nat.le_of_ble_eq_true rfl) dX11_card_92 (fun u H locs hu hP hD hz hk2 hS => ?_)
      have hC : va_P D vwCl (zW zsh zNC cy q S) H := hC.kept (fun k x hx => hk2 x.1 (hC k x hx).lt (zNA hsep hx))
      refine lv_pop (pc := 95) hx hb dX11_card_95 rfl ?_
      refine lv_aload_n (pc := 96) hx hb dX11_card_96 rfl (lv_at hl 0 rfl) ?_
      refine zr_getR (pc := 97) (t := 14) cx lk_X11_28 hC nC_0 sC_0 rfl dX11_card_97 ?_
      refine lv_iload_n (pc := 100) hx hb dX11_card_100 rfl (lv_at hl 1 rfl) ?_
      refine zr_VI (pc := 101) (rest := []) cx cv_X11_169 (mX6_seenBy zLife_14 hseen) ⟨⟨rfl, rfl⟩, Nat.le_of_ble_eq_true rfl, Nat.le_of_ble_eq_true rfl⟩ ⟨Nat.le_of_ble_eq_true rfl, Nat.le_of_ble_eq_true rfl⟩ hC (nX6_0 zLife_14) (sX6_0 zLife_14) rfl hl.1 rfl rfl (Nat.le_of_ble_eq_true rfl) dX11_card_101 ?_
      refine lv_if_ne (pc := 104) (tgt := 118) hx hb dX11_card_104 (by decide) (fun c0 => absurd hbl c0) (fun c0 => ?_)
      refine lv_aload_n (pc := 107) hx hb dX11_card_107 rfl (lv_at hl 0 rfl) ?_
      refine zr_getR (pc := 108) (t := 262) cx lk_X11_103 hC nC_0 sC_0 rfl dX11_card_108 ?_
      refine zr_ldcw (pc := 111) hx hb cx.2.2.2.1 (hE.2.2.2.1 3 (by decide)) dX11_card_111 ?_
      refine zr_aV (pc := 114) (As := [.ref (kK 3)]) (rest := []) cx hE.2.2.2.2.2.2.2 cb_X11_336 (mJ4_appendS (i := 3) hu hD (by decide) (by decide) (by have hdl := dig_le hN; rw [show zLen.getD 3 0 = 6 from rfl]; simp only [List.length_append, List.length_map, show (zStr 2).length = 5 from rfl]; omega)) ⟨Nat.le_of_ble_eq_true rfl, Nat.le_of_ble_eq_true rfl⟩ ⟨Nat.le_of_ble_eq_true rfl, Nat.le_of_ble_eq_true rfl⟩ hE (fun _ h => h) (fun q h => hA q (Nat.le_trans hS.1 h)) hP hS hl.1 rfl rfl (Nat.le_of_ble_eq_true rfl) dX11_card_114 (fun u H locs hu hP hD hz hk2 hS => ?_)
      have hC : va_P D vwCl (zW zsh zNC cy q S) H := hC.kept (fun k x hx => hk2 x.1 (hC k x hx).lt (zNA hsep hx))
      refine lv_pop (pc := 117) hx hb dX11_card_117 rfl ?_
      refine lv_aload_n (pc := 118) hx hb dX11_card_118 rfl (lv_at hl 0 rfl) ?_
      refine zr_getR (pc := 119) (t := 262) cx lk_X11_103 hC nC_0 sC_0 rfl dX11_card_119 ?_
      refine zr_bI (pc := 122) (As := []) (rest := []) cx hE.2.2.2.2.2.2.2 cb_X11_340 mJ4_length ⟨⟨rfl, rfl⟩, Nat.le_of_ble_eq_true rfl, Nat.le_of_ble_eq_true rfl⟩ ⟨Nat.le_of_ble_eq_true rfl, Nat.le_of_ble_eq_true rfl⟩ (zr_preB cx zPb_bl (zr_pb cx hE hS (fun _ h => h.elim) hP) hP rfl) hl.1 rfl rfl (Nat.le_of_ble_eq_true rfl) dX11_card_122 ?_
      have et : ((((l1.map (fun c => 96 + c)) ++ zStr 2) ++ dig N) ++ zStr 3) = cTx l1 (decide (S.1 9 j = 1)) N (decide (ws = 0)) := by rw [decide_eq_false hfe, decide_eq_true hbl]; unfold cTx; rw [List.append_assoc, List.append_assoc]; rfl
      rw [et] at hu hP hD
      rw [et]
      refine W.widen (k := 2) (n := 68) (Nat.le_of_ble_eq_true rfl) (Nat.le_of_ble_eq_true rfl) ?_
      exact W.iret (pc := 125) hx hb hr (fun t ht hW => ⟨⟨_, u, rfl, ⟨rfl, hu⟩, (show va_P D vwCl _ t.heap from by rw [ht]; exact hP), hD⟩, hS.F ht⟩) hS.2.2 dX11_card_125
    · refine lv_aload_n (pc := 0) hx hb dX11_card_0 rfl (lv_at hl 0 rfl) ?_
      refine zr_getR (pc := 1) (t := 4) cx lk_X11_19 hC nC_0 sC_0 rfl dX11_card_1 ?_
      refine lv_iconst (pc := 4) hx hb dX11_card_4 zc_1 ?_
      refine lv_iload_n (pc := 5) hx hb dX11_card_5 rfl (lv_at hl 1 rfl) ?_
      refine zr_VI (pc := 6) (rest := []) cx cv_X11_149 (mX3_has zHouse_4 hhas) ⟨⟨rfl, rfl⟩, Nat.le_of_ble_eq_true rfl, Nat.le_of_ble_eq_true rfl⟩ ⟨Nat.le_of_ble_eq_true rfl, Nat.le_of_ble_eq_true rfl⟩ hC (nX3_0 zHouse_4) (sX3_0 zHouse_4) rfl hl.1 rfl rfl (Nat.le_of_ble_eq_true rfl) dX11_card_6 ?_
      refine lv_if_ne (pc := 9) (tgt := 14) hx hb dX11_card_9 (by decide) (fun c0 => ?_) (fun c0 => absurd c0 (by decide))
      refine lv_aload_n (pc := 14) hx hb dX11_card_14 rfl (lv_at hl 0 rfl) ?_
      refine zr_getR (pc := 15) (t := 262) cx lk_X11_103 hC nC_0 sC_0 rfl dX11_card_15 ?_
      refine lv_iconst (pc := 18) hx hb dX11_card_18 zc_0 ?_
      refine zr_zV (pc := 19) (As := [.int 0]) (rest := []) cx hE.2.2.2.2.2.2.2 cb_X11_327 (mJ4_setLength hu hD) ⟨Nat.le_of_ble_eq_true rfl, Nat.le_of_ble_eq_true rfl⟩ ⟨Nat.le_of_ble_eq_true rfl, Nat.le_of_ble_eq_true rfl⟩ hE (fun _ h => h) (fun q h => hA q (Nat.le_trans hS.1 h)) hP hS hl.1 rfl rfl (Nat.le_of_ble_eq_true rfl) dX11_card_19 (fun u H locs hu hP hD hz hk2 hS => ?_)
      have hC : va_P D vwCl (zW zsh zNC cy q S) H := hC.kept (fun k x hx => hk2 x.1 (hC k x hx).lt (zNA hsep hx))
      refine lv_aload_n (pc := 22) hx hb dX11_card_22 rfl (lv_at hl 0 rfl) ?_
      refine zr_getR (pc := 23) (t := 4) cx lk_X11_19 hC nC_0 sC_0 rfl dX11_card_23 ?_
      refine lv_aload_n (pc := 26) hx hb dX11_card_26 rfl (lv_at hl 0 rfl) ?_
      refine zr_getR (pc := 27) (t := 262) cx lk_X11_103 hC nC_0 sC_0 rfl dX11_card_27 ?_
      refine lv_iload_n (pc := 30) hx hb dX11_card_30 rfl (lv_at hl 1 rfl) ?_
      refine va_callv (va_runV (As := [.ref (q 262), .int (nI j)]) (rest := []) (zr_fix cx) (mX3_appendName hsep hj hw ok h7 hu hD) (zr_cwV cx cv_X11_330 ⟨⟨rfl, rfl⟩, Nat.le_of_ble_eq_true rfl, Nat.le_of_ble_eq_true rfl⟩) ⟨fun a U g mk h => ⟨h.1, zPr_bl a U g mk h.2.1, zPf_bl a U g mk h.2.2⟩, va_recv (ci := 4) cx.2.2.2.2.2.1 hC rfl (zW_at nC_4 sC_4), fun U hU hW => ⟨rfl, zr_pre cx hC U hU hW, zr_pf cx hE hS (fun _ h => h) (fun q h => hA q (Nat.le_trans hS.1 h)) hP U hU hW⟩⟩ rfl rfl hl.1 rfl (lv_room (Nat.le_of_ble_eq_true rfl)) dX11_card_31 ⟨Nat.le_of_ble_eq_true rfl, Nat.le_of_ble_eq_true rfl⟩) hS (fun q _ h => h) (fun _ h => h) (fun u t H locs ht _ hu hb2 hz hk2 hS => ?_)
      obtain ⟨hP, hD⟩ := hb2
      subst ht
      have hC : va_P D vwCl (zW zsh zNC cy q S) t.heap := hC.kept (fun k x hx => hk2 x.1 (hC k x hx).lt (zNA hsep hx))
      refine lv_aload_n (pc := 34) hx hb dX11_card_34 rfl (lv_at hl 0 rfl) ?_
      refine zr_getR (pc := 35) (t := 4) cx lk_X11_19 hC nC_0 sC_0 rfl dX11_card_35 ?_
      refine zr_getR (pc := 38) (t := 9) cx lk_X11_163 hC nC_4 sC_4 rfl dX11_card_38 ?_
      refine lv_iload_n (pc := 41) hx hb dX11_card_41 rfl (lv_at hl 1 rfl) ?_
      refine zr_iald (pc := 42) cx hC nC_9 sC_9 (zIx_nI hj (by decide)) dX11_card_42 ?_
      rw [nI_clamp (by omega)]
      refine lv_iconst (pc := 43) hx hb dX11_card_43 zc_1 ?_
      refine lv_icmp_ne (pc := 44) (tgt := 66) hx hb dX11_card_44 (by decide) (fun c0 => ?_) (fun c0 => absurd c0 hfe)
      refine lv_aload_n (pc := 66) hx hb dX11_card_66 rfl (lv_at hl 0 rfl) ?_
      refine zr_getR (pc := 67) (t := 262) cx lk_X11_103 hC nC_0 sC_0 rfl dX11_card_67 ?_
      refine zr_ldcw (pc := 70) hx hb cx.2.2.2.1 (hE.2.2.2.1 2 (by decide)) dX11_card_70 ?_
      refine zr_aV (pc := 73) (As := [.ref (kK 2)]) (rest := []) cx hE.2.2.2.2.2.2.2 cb_X11_336 (mJ4_appendS (i := 2) hu hD (by decide) (by decide) (by have hdl := dig_le hN; rw [show zLen.getD 2 0 = 5 from rfl]; simp only [List.length_append, List.length_map, show (zStr 2).length = 5 from rfl]; omega)) ⟨Nat.le_of_ble_eq_true rfl, Nat.le_of_ble_eq_true rfl⟩ ⟨Nat.le_of_ble_eq_true rfl, Nat.le_of_ble_eq_true rfl⟩ hE (fun _ h => h) (fun q h => hA q (Nat.le_trans hS.1 h)) hP hS hl.1 rfl rfl (Nat.le_of_ble_eq_true rfl) dX11_card_73 (fun u H locs hu hP hD hz hk2 hS => ?_)
      have hC : va_P D vwCl (zW zsh zNC cy q S) H := hC.kept (fun k x hx => hk2 x.1 (hC k x hx).lt (zNA hsep hx))
      refine lv_pop (pc := 76) hx hb dX11_card_76 rfl ?_
      refine lv_aload_n (pc := 77) hx hb dX11_card_77 rfl (lv_at hl 0 rfl) ?_
      refine zr_getR (pc := 78) (t := 262) cx lk_X11_103 hC nC_0 sC_0 rfl dX11_card_78 ?_
      refine lv_aload_n (pc := 81) hx hb dX11_card_81 rfl (lv_at hl 0 rfl) ?_
      refine zr_getR (pc := 82) (t := 14) cx lk_X11_28 hC nC_0 sC_0 rfl dX11_card_82 ?_
      refine lv_iload_n (pc := 85) hx hb dX11_card_85 rfl (lv_at hl 1 rfl) ?_
      refine zr_VI (pc := 86) (rest := [.ref (q 262)]) cx cv_X11_173 (mX6_actsShown zLife_14 hacts) ⟨⟨rfl, rfl⟩, Nat.le_of_ble_eq_true rfl, Nat.le_of_ble_eq_true rfl⟩ ⟨Nat.le_of_ble_eq_true rfl, Nat.le_of_ble_eq_true rfl⟩ hC (nX6_0 zLife_14) (sX6_0 zLife_14) rfl hl.1 rfl rfl (Nat.le_of_ble_eq_true rfl) dX11_card_86 ?_
      refine zr_SI (pc := 89) (rest := [.ref (q 262)]) cx cs_X11_176 (mJ6_bitCount_0f7a4 hbit) ⟨⟨rfl, rfl⟩, Nat.le_of_ble_eq_true rfl, Nat.le_of_ble_eq_true rfl⟩ ⟨Nat.le_of_ble_eq_true rfl, Nat.le_of_ble_eq_true rfl⟩ (zr_preK cx) hl.1 rfl rfl (Nat.le_of_ble_eq_true rfl) dX11_card_89 ?_
      refine zr_aV (pc := 92) (As := [.int (nI N)]) (rest := []) cx hE.2.2.2.2.2.2.2 cb_X11_344 (mJ4_appendI (k := N) hu hD (by omega) (by have hdl := dig_le hN; simp only [List.length_append, List.length_map, show (zStr 2).length = 5 from rfl]; rcases hu.1 with h | h <;> omega)) ⟨Nat.le_of_ble_eq_true rfl, Nat.le_of_ble_eq_true rfl⟩ ⟨Nat.le_of_ble_eq_true rfl, Nat.le_of_ble_eq_true rfl⟩ hE (fun _ h => h) (fun q h => hA q (Nat.le_trans hS.1 h)) hP hS hl.1 rfl rfl (Nat.le_of_ble_eq_true rfl) dX11_card_92 (fun u H locs hu hP hD hz hk2 hS => ?_)
      have hC : va_P D vwCl (zW zsh zNC cy q S) H := hC.kept (fun k x hx => hk2 x.1 (hC k x hx).lt (zNA hsep hx))
      refine lv_pop (pc := 95) hx hb dX11_card_95 rfl ?_
      refine lv_aload_n (pc := 96) hx hb dX11_card_96 rfl (lv_at hl 0 rfl) ?_
      refine zr_getR (pc := 97) (t := 14) cx lk_X11_28 hC nC_0 sC_0 rfl dX11_card_97 ?_
      refine lv_iload_n (pc := 100) hx hb dX11_card_100 rfl (lv_at hl 1 rfl) ?_
      refine zr_VI (pc := 101) (rest := []) cx cv_X11_169 (mX6_seenBy zLife_14 hseen) ⟨⟨rfl, rfl⟩, Nat.le_of_ble_eq_true rfl, Nat.le_of_ble_eq_true rfl⟩ ⟨Nat.le_of_ble_eq_true rfl, Nat.le_of_ble_eq_true rfl⟩ hC (nX6_0 zLife_14) (sX6_0 zLife_14) rfl hl.1 rfl rfl (Nat.le_of_ble_eq_true rfl) dX11_card_101 ?_
      refine lv_if_ne (pc := 104) (tgt := 118) hx hb dX11_card_104 (by decide) (fun c0 => ?_) (fun c0 => absurd c0 hbl)
      refine lv_aload_n (pc := 118) hx hb dX11_card_118 rfl (lv_at hl 0 rfl) ?_
      refine zr_getR (pc := 119) (t := 262) cx lk_X11_103 hC nC_0 sC_0 rfl dX11_card_119 ?_
      refine zr_bI (pc := 122) (As := []) (rest := []) cx hE.2.2.2.2.2.2.2 cb_X11_340 mJ4_length ⟨⟨rfl, rfl⟩, Nat.le_of_ble_eq_true rfl, Nat.le_of_ble_eq_true rfl⟩ ⟨Nat.le_of_ble_eq_true rfl, Nat.le_of_ble_eq_true rfl⟩ (zr_preB cx zPb_bl (zr_pb cx hE hS (fun _ h => h.elim) hP) hP rfl) hl.1 rfl rfl (Nat.le_of_ble_eq_true rfl) dX11_card_122 ?_
      have et : (((l1.map (fun c => 96 + c)) ++ zStr 2) ++ dig N) = cTx l1 (decide (S.1 9 j = 1)) N (decide (ws = 0)) := by rw [decide_eq_false hfe, decide_eq_false hbl]; unfold cTx; rw [List.append_assoc]; show _ = _ ++ ([32, 104, 97, 115, 32] ++ (dig N ++ [])); rw [List.append_nil]; rfl
      rw [et] at hu hP hD
      rw [et]
      refine W.widen (k := 2) (n := 68) (Nat.le_of_ble_eq_true rfl) (Nat.le_of_ble_eq_true rfl) ?_
      exact W.iret (pc := 125) hx hb hr (fun t ht hW => ⟨⟨_, u, rfl, ⟨rfl, hu⟩, (show va_P D vwCl _ t.heap from by rw [ht]; exact hP), hD⟩, hS.F ht⟩) hS.2.2 dX11_card_125

theorem dX11_card_12 : decode cX11_card 12 = .ok (.iconst (-1), 1) := by decide +kernel
theorem dX11_card_13 : decode cX11_card 13 = .ok (.ireturn, 1) := by decide +kernel
abbrev rmCard0 : Room := { frames := 1, cells := 0, slots := 0, locals := 22 }
set_option maxHeartbeats 1000000 in
set_option maxRecDepth 100000 in
theorem mX11_card0 {l : Launch} {D : va_G} {cy : Nat → ClassId} {kK kV : Nat → Nat} {q : Nat → Nat} {S : zSt} {v : Int32} (hhas : fX3_has S 4 1 v = some 0)  : zMi l yX11_card cX11_card 2 (some .int) rmCard0 [.ref (q 0), .int v] (zPr zsh zNC D cy q S) (-1) := by
  refine Met.ofW (cc := cX11_card) (maxL := 2) (ret := (some .int)) (by decide) rfl ?_
  intro p e s m args below meth c s₁ B hml hv
  obtain ⟨rfl, hC, hK⟩ := hv
  have cx : zX RX11 cX11_card 2 p s m ([.ref (q 0), .int v]).toArray c D cy := ⟨B.exec, B.bytes, hml, findClass_of_methodNamed B.named, fun w hw => atoms_spec (ws := Cond.code yX11_card cX11_card 2 (some .int) :: zTB) B.pre w (List.mem_cons_of_mem _ hw), hK⟩
  have hx := cx.1
  have hb := cx.2.1
  have hr := B.returns
  have hlk := B.notSynchronized
  have hl := lv_entry ([.ref (q 0), .int v]) (n := 2) (Nat.le_of_ble_eq_true rfl)
  rw [lg_entry_eq]
  generalize (lg_sl ([.ref (q 0), .int v]) ++ List.replicate (2 - (lg_sl ([.ref (q 0), .int v])).length) Slot.unset).toArray = ls at hl ⊢
  have hl : lv_has ls 2 [(0, .ref (q 0)), (1, .int v)] := hl
  refine lv_aload_n (pc := 0) hx hb dX11_card_0 rfl (lv_at hl 0 rfl) ?_
  refine zr_getR (pc := 1) (t := 4) cx lk_X11_19 hC nC_0 sC_0 rfl dX11_card_1 ?_
  refine lv_iconst (pc := 4) hx hb dX11_card_4 zc_1 ?_
  refine lv_iload_n (pc := 5) hx hb dX11_card_5 rfl (lv_at hl 1 rfl) ?_
  refine zr_VI (pc := 6) (rest := []) cx cv_X11_149 (mX3_has zHouse_4 hhas) ⟨⟨rfl, rfl⟩, Nat.le_of_ble_eq_true rfl, Nat.le_of_ble_eq_true rfl⟩ ⟨Nat.le_of_ble_eq_true rfl, Nat.le_of_ble_eq_true rfl⟩ hC (nX3_0 zHouse_4) (sX3_0 zHouse_4) rfl hl.1 rfl rfl (Nat.le_of_ble_eq_true rfl) dX11_card_6 ?_
  refine lv_if_ne (pc := 9) (tgt := 14) hx hb dX11_card_9 (by decide) (fun c0 => absurd rfl c0) (fun c0 => ?_)
  refine lv_iconst (pc := 12) hx hb dX11_card_12 zc_m1 ?_
  exact zr_reN (pc := 13) cx hr hlk rfl rfl dX11_card_13

theorem dX11_byteAt_0 : decode cX11_byteAt 0 = .ok (.iload_n 1, 1) := by decide +kernel
theorem dX11_byteAt_1 : decode cX11_byteAt 1 = .ok (.ifCond .lt 25, 3) := by decide +kernel
theorem dX11_byteAt_26 : decode cX11_byteAt 26 = .ok (.iconst (-1), 1) := by decide +kernel
theorem dX11_byteAt_27 : decode cX11_byteAt 27 = .ok (.ireturn, 1) := by decide +kernel
theorem dX11_byteAt_4 : decode cX11_byteAt 4 = .ok (.iload_n 1, 1) := by decide +kernel
theorem dX11_byteAt_5 : decode cX11_byteAt 5 = .ok (.aload_n 0, 1) := by decide +kernel
theorem dX11_byteAt_6 : decode cX11_byteAt 6 = .ok (.getfield 103, 3) := by decide +kernel
theorem dX11_byteAt_9 : decode cX11_byteAt 9 = .ok (.invokevirtual 340, 3) := by decide +kernel
theorem dX11_byteAt_12 : decode cX11_byteAt 12 = .ok (.if_icmp .ge 14, 3) := by decide +kernel
theorem dX11_byteAt_15 : decode cX11_byteAt 15 = .ok (.aload_n 0, 1) := by decide +kernel
theorem dX11_byteAt_16 : decode cX11_byteAt 16 = .ok (.getfield 103, 3) := by decide +kernel
theorem dX11_byteAt_19 : decode cX11_byteAt 19 = .ok (.iload_n 1, 1) := by decide +kernel
theorem dX11_byteAt_20 : decode cX11_byteAt 20 = .ok (.invokevirtual 349, 3) := by decide +kernel
theorem wd_1168 : (Jvm.Cond.selects "java/lang/StringBuilder" ({ cls := "java/lang/StringBuilder", name := "charAt", desc := "(I)C" } : Jvm.MethodName) ({ cls := "java/lang/StringBuilder", name := "charAt", desc := "(I)C" } : Jvm.MethodName)) ∈ zTB := List.mem_filter.mpr ⟨List.mem_append_right _ (List.mem_append_right _ (List.mem_append_right _ (List.mem_append_right _ (List.mem_append_right _ (List.mem_append_left _ (List.mem_of_getElem? (i := 208) rfl)))))), rfl⟩
theorem wd_1166 : (Jvm.Cond.methodLink "ParlourLeaves" (349 : Nat) ({ cls := "java/lang/StringBuilder", name := "charAt", desc := "(I)C" } : Jvm.MethodName)) ∈ zTB := List.mem_filter.mpr ⟨List.mem_append_right _ (List.mem_append_right _ (List.mem_append_right _ (List.mem_append_right _ (List.mem_append_right _ (List.mem_append_left _ (List.mem_of_getElem? (i := 206) rfl)))))), rfl⟩
theorem wd_1167 : (Jvm.Cond.instanceMethod ({ cls := "java/lang/StringBuilder", name := "charAt", desc := "(I)C" } : Jvm.MethodName)) ∈ zTB := List.mem_filter.mpr ⟨List.mem_append_right _ (List.mem_append_right _ (List.mem_append_right _ (List.mem_append_right _ (List.mem_append_right _ (List.mem_append_left _ (List.mem_of_getElem? (i := 207) rfl)))))), rfl⟩
theorem wd_1169 : (Jvm.Cond.code ({ cls := "java/lang/StringBuilder", name := "charAt", desc := "(I)C" } : Jvm.MethodName) prog_27_method_88_code (2 : Nat) (Option.some Jvm.ClassFile.FieldType.char)) ∈ zTB := List.mem_filter.mpr ⟨List.mem_append_right _ (List.mem_append_right _ (List.mem_append_right _ (List.mem_append_right _ (List.mem_append_right _ (List.mem_append_left _ (List.mem_of_getElem? (i := 209) rfl)))))), rfl⟩
theorem cb_X11_349 : zCB RX11 349 yJ4_charAt_5068e cJ4_charAt_5068e 2 (some .char) 1 := ⟨⟨by decide, by decide, by decide +kernel⟩, wd_1166, wd_1167, Or.inl wd_1168, wd_18, wd_1169⟩
theorem dX11_byteAt_23 : decode cX11_byteAt 23 = .ok (.goto 4, 3) := by decide +kernel
abbrev rmX11_byteAt : Room := { frames := 5, cells := 0, slots := 0, locals := 88 }
set_option maxHeartbeats 1000000 in
set_option maxRecDepth 100000 in
theorem mX11_byteAt {l : Launch} {D : va_G} {cy : Nat → ClassId} {kK kV : Nat → Nat} {q : Nat → Nat} {S : zSt} {v : Int32} {u : zU} {tx : List Nat} (hu : zOkB tx u)  : zMi l yX11_byteAt cX11_byteAt 2 (some .int) rmX11_byteAt [.ref (q 0), .int v] (fun U => zPr zsh zNC D cy q S U ∧ zPb D cy kK kV (fun _ => False) (zBx cy (q 262) (nI tx.length) u) U) (bAt tx v) := by
  refine Met.ofW (cc := cX11_byteAt) (maxL := 2) (ret := (some .int)) (by decide) rfl ?_
  intro p e s m args below meth c s₁ B hml hv
  obtain ⟨rfl, ⟨hC, hK⟩, hP, -, hE⟩ := hv
  have cx : zX RX11 cX11_byteAt 2 p s m ([.ref (q 0), .int v]).toArray c D cy := ⟨B.exec, B.bytes, hml, findClass_of_methodNamed B.named, fun w hw => atoms_spec (ws := Cond.code yX11_byteAt cX11_byteAt 2 (some .int) :: zTB) B.pre w (List.mem_cons_of_mem _ hw), hK⟩
  have hx := cx.1
  have hb := cx.2.1
  have hr := B.returns
  have hlk := B.notSynchronized
  have hS : va_S (fun _ => False) s.heap s.heap [] := va_S.rf
  have hl := lv_entry ([.ref (q 0), .int v]) (n := 2) (Nat.le_of_ble_eq_true rfl)
  rw [lg_entry_eq]
  generalize (lg_sl ([.ref (q 0), .int v]) ++ List.replicate (2 - (lg_sl ([.ref (q 0), .int v])).length) Slot.unset).toArray = ls at hl ⊢
  have hl : lv_has ls 2 [(0, .ref (q 0)), (1, .int v)] := hl
  by_cases hv0 : v < 0
  · refine lv_iload_n (pc := 0) hx hb dX11_byteAt_0 rfl (lv_at hl 1 rfl) ?_
    refine lv_if_lt (pc := 1) (tgt := 26) hx hb dX11_byteAt_1 (by decide) (fun c0 => ?_) (fun c0 => absurd hv0 c0)
    refine lv_iconst (pc := 26) hx hb dX11_byteAt_26 zc_m1 ?_
    exact zr_reN (pc := 27) cx hr hlk (by unfold bAt; rw [if_pos hv0]) rfl dX11_byteAt_27
  · obtain ⟨i, hi31, rfl⟩ := nI_of hv0
    by_cases hi : i < tx.length
    · obtain ⟨ch, hch⟩ : ∃ ch, tx[i]? = some ch := ⟨_, List.getElem?_eq_getElem hi⟩
      refine lv_iload_n (pc := 0) hx hb dX11_byteAt_0 rfl (lv_at hl 1 rfl) ?_
      refine lv_if_lt (pc := 1) (tgt := 26) hx hb dX11_byteAt_1 (by decide) (fun c0 => absurd c0 hv0) (fun c0 => ?_)
      refine lv_iload_n (pc := 4) hx hb dX11_byteAt_4 rfl (lv_at hl 1 rfl) ?_
      refine lv_aload_n (pc := 5) hx hb dX11_byteAt_5 rfl (lv_at hl 0 rfl) ?_
      refine zr_getR (pc := 6) (t := 262) cx lk_X11_103 hC nC_0 sC_0 rfl dX11_byteAt_6 ?_
      refine zr_bI (pc := 9) (As := []) (rest := [.int (nI i)]) cx hE.2.2.2.2.2.2.2 cb_X11_340 mJ4_length ⟨⟨rfl, rfl⟩, Nat.le_of_ble_eq_true rfl, Nat.le_of_ble_eq_true rfl⟩ ⟨Nat.le_of_ble_eq_true rfl, Nat.le_of_ble_eq_true rfl⟩ (zr_preB cx zPb_bl (zr_pb cx hE hS (fun _ h => h.elim) hP) hP rfl) hl.1 rfl rfl (Nat.le_of_ble_eq_true rfl) dX11_byteAt_9 ?_
      refine lv_icmp_ge (pc := 12) (tgt := 26) hx hb dX11_byteAt_12 (by decide) (fun c0 => absurd c0 (nI_ge hi (by have := hu.2.1; rcases hu.1 with h | h <;> omega))) (fun c0 => ?_)
      refine lv_aload_n (pc := 15) hx hb dX11_byteAt_15 rfl (lv_at hl 0 rfl) ?_
      refine zr_getR (pc := 16) (t := 262) cx lk_X11_103 hC nC_0 sC_0 rfl dX11_byteAt_16 ?_
      refine lv_iload_n (pc := 19) hx hb dX11_byteAt_19 rfl (lv_at hl 1 rfl) ?_
      refine zr_bI (pc := 20) (As := [.int (nI i)]) (rest := []) cx hE.2.2.2.2.2.2.2 cb_X11_349 (mJ4_charAt hu.1 hu.2.1 hi (hu.2.2.1 i ch hch) (hu.2.2.2.1 ch (List.mem_of_getElem? hch))) ⟨⟨rfl, rfl⟩, Nat.le_of_ble_eq_true rfl, Nat.le_of_ble_eq_true rfl⟩ ⟨Nat.le_of_ble_eq_true rfl, Nat.le_of_ble_eq_true rfl⟩ (zr_preB cx zPb_bl (zr_pb cx hE hS (fun _ h => h.elim) hP) hP rfl) hl.1 rfl rfl (Nat.le_of_ble_eq_true rfl) dX11_byteAt_20 ?_
      refine lv_goto (pc := 23) (tgt := 27) hx hb dX11_byteAt_23 (by decide) ?_
      exact zr_reN (pc := 27) cx hr hlk (by unfold bAt; rw [if_neg hv0, nI_clamp hi31, hch]) rfl dX11_byteAt_27
    · refine lv_iload_n (pc := 0) hx hb dX11_byteAt_0 rfl (lv_at hl 1 rfl) ?_
      refine lv_if_lt (pc := 1) (tgt := 26) hx hb dX11_byteAt_1 (by decide) (fun c0 => absurd c0 hv0) (fun c0 => ?_)
      refine lv_iload_n (pc := 4) hx hb dX11_byteAt_4 rfl (lv_at hl 1 rfl) ?_
      refine lv_aload_n (pc := 5) hx hb dX11_byteAt_5 rfl (lv_at hl 0 rfl) ?_
      refine zr_getR (pc := 6) (t := 262) cx lk_X11_103 hC nC_0 sC_0 rfl dX11_byteAt_6 ?_
      refine zr_bI (pc := 9) (As := []) (rest := [.int (nI i)]) cx hE.2.2.2.2.2.2.2 cb_X11_340 mJ4_length ⟨⟨rfl, rfl⟩, Nat.le_of_ble_eq_true rfl, Nat.le_of_ble_eq_true rfl⟩ ⟨Nat.le_of_ble_eq_true rfl, Nat.le_of_ble_eq_true rfl⟩ (zr_preB cx zPb_bl (zr_pb cx hE hS (fun _ h => h.elim) hP) hP rfl) hl.1 rfl rfl (Nat.le_of_ble_eq_true rfl) dX11_byteAt_9 ?_
      refine lv_icmp_ge (pc := 12) (tgt := 26) hx hb dX11_byteAt_12 (by decide) (fun c0 => ?_) (fun c0 => absurd (nI_le (by omega) hi31) c0)
      refine lv_iconst (pc := 26) hx hb dX11_byteAt_26 zc_m1 ?_
      exact zr_reN (pc := 27) cx hr hlk (by unfold bAt; rw [if_neg hv0, nI_clamp hi31, List.getElem?_eq_none (by omega)]) rfl dX11_byteAt_27

