/-! the class's constructor, printed by wip/gen/ctor3.py -/
theorem dX11_init_4 : decode cX11_init 4 = .ok (.aload_n 0, 1) := by decide +kernel
theorem dX11_init_5 : decode cX11_init 5 = .ok (.new 7, 3) := by decide +kernel
theorem wd_38 : (Jvm.Cond.classLink "ParlourLeaves" (7 : Nat) "ParlourLeaves$Tape") ∈ zTB := List.mem_filter.mpr ⟨List.mem_append_right _ (List.mem_append_left _ (List.mem_of_getElem? (i := 38) rfl)), rfl⟩
theorem wd_39 : (Jvm.Cond.instantiable "ParlourLeaves$Tape" (11 : Nat)) ∈ zTB := List.mem_filter.mpr ⟨List.mem_append_right _ (List.mem_append_left _ (List.mem_of_getElem? (i := 39) rfl)), rfl⟩
theorem nw_X11_7 : zNw RX11 "ParlourLeaves$Tape" 7 10 [.null, .int 0, .null, .int 0, .int 0, .int 0, .int 0, .long 0, .int 0, .int 0, .int 0] := ⟨TX9, 11, tyX9, rfl, rfl, wsin_X9, tyX9_ok, by decide +kernel, wd_38, wd_39, wd_2⟩
theorem dX11_init_8 : decode cX11_init 8 = .ok (.dup, 1) := by decide +kernel
theorem dX11_init_9 : decode cX11_init 9 = .ok (.invokespecial 9, 3) := by decide +kernel
theorem wd_41 : (Jvm.Cond.instanceMethod ({ cls := "ParlourLeaves$Tape", name := "<init>", desc := "()V" } : Jvm.MethodName)) ∈ zTB := List.mem_filter.mpr ⟨List.mem_append_right _ (List.mem_append_left _ (List.mem_of_getElem? (i := 41) rfl)), rfl⟩
theorem wd_42 : (Jvm.Cond.code ({ cls := "ParlourLeaves$Tape", name := "<init>", desc := "()V" } : Jvm.MethodName) prog_11_method_1_code (4 : Nat) (Option.none : Option Jvm.ClassFile.FieldType)) ∈ zTB := List.mem_filter.mpr ⟨List.mem_append_right _ (List.mem_append_left _ (List.mem_of_getElem? (i := 42) rfl)), rfl⟩
theorem wd_40 : (Jvm.Cond.methodLink "ParlourLeaves" (9 : Nat) ({ cls := "ParlourLeaves$Tape", name := "<init>", desc := "()V" } : Jvm.MethodName)) ∈ zTB := List.mem_filter.mpr ⟨List.mem_append_right _ (List.mem_append_left _ (List.mem_of_getElem? (i := 40) rfl)), rfl⟩
theorem ci_X11_9 : zCI RX11 9 yX9_init cX9_init 4 0 := ⟨⟨by decide, by decide, by decide +kernel⟩, rfl, wd_40, wd_41, wd_2, wd_42⟩
theorem dX11_init_12 : decode cX11_init 12 = .ok (.putfield 10, 3) := by decide +kernel
theorem lf_X11_10 : zLqF RX11 10 12 0 (.object "ParlourLeaves$Tape") := ⟨"ParlourLeaves", RX11, TX11, 17, tyX11, rfl, by decide, wsin_X11, wd_504, rfl, rfl, rfl, by decide +kernel, tyX11_ok, nmX11⟩
theorem dX11_init_15 : decode cX11_init 15 = .ok (.aload_n 0, 1) := by decide +kernel
theorem dX11_init_16 : decode cX11_init 16 = .ok (.new 16, 3) := by decide +kernel
theorem wd_141 : (Jvm.Cond.classLink "ParlourLeaves" (16 : Nat) "ParlourLeaves$House") ∈ zTB := List.mem_filter.mpr ⟨List.mem_append_right _ (List.mem_append_left _ (List.mem_of_getElem? (i := 141) rfl)), rfl⟩
theorem nw_X11_16 : zNw RX11 "ParlourLeaves$House" 16 4 [.null, .null, .null, .null, .null, .null, .null, .null, .null, .int 0, .int 0, .int 0] := ⟨TX3, 12, tyX3, rfl, rfl, wsin_X3, tyX3_ok, by decide +kernel, wd_141, wd_142, wd_7⟩
theorem dX11_init_19 : decode cX11_init 19 = .ok (.dup, 1) := by decide +kernel
theorem dX11_init_20 : decode cX11_init 20 = .ok (.invokespecial 18, 3) := by decide +kernel
theorem cj_X11_18 : zCJ RX11 "ParlourLeaves" 18 yX3_init cX3_init 1 0 := ⟨⟨by decide, by decide, by decide +kernel⟩, rfl, List.mem_of_getElem? (i := 0) rfl, wd_144, wd_7, wd_145⟩
theorem dX11_init_23 : decode cX11_init 23 = .ok (.putfield 19, 3) := by decide +kernel
theorem lf_X11_19 : zLqF RX11 19 12 1 (.object "ParlourLeaves$House") := ⟨"ParlourLeaves", RX11, TX11, 17, tyX11, rfl, by decide, wsin_X11, wd_505, rfl, rfl, rfl, by decide +kernel, tyX11_ok, nmX11⟩
theorem dX11_init_26 : decode cX11_init 26 = .ok (.aload_n 0, 1) := by decide +kernel
theorem dX11_init_27 : decode cX11_init 27 = .ok (.new 23, 3) := by decide +kernel
theorem wd_213 : (Jvm.Cond.classLink "ParlourLeaves" (23 : Nat) "ParlourLeaves$Life") ∈ zTB := List.mem_filter.mpr ⟨List.mem_append_right _ (List.mem_append_left _ (List.mem_of_getElem? (i := 213) rfl)), rfl⟩
theorem nw_X11_23 : zNw RX11 "ParlourLeaves$Life" 23 7 [.null, .int 0, .int 0, .null, .null, .null, .null, .null, .null, .null, .null] := ⟨TX6, 11, tyX6, rfl, rfl, wsin_X6, tyX6_ok, by decide +kernel, wd_213, wd_214, wd_8⟩
theorem dX11_init_30 : decode cX11_init 30 = .ok (.dup, 1) := by decide +kernel
theorem dX11_init_31 : decode cX11_init 31 = .ok (.aload_n 0, 1) := by decide +kernel
theorem dX11_init_32 : decode cX11_init 32 = .ok (.getfield 19, 3) := by decide +kernel
theorem dX11_init_35 : decode cX11_init 35 = .ok (.invokespecial 25, 3) := by decide +kernel
theorem wd_215 : (Jvm.Cond.methodLink "ParlourLeaves" (25 : Nat) ({ cls := "ParlourLeaves$Life", name := "<init>", desc := "(LParlourLeaves$House;)V" } : Jvm.MethodName)) ∈ zTB := List.mem_filter.mpr ⟨List.mem_append_right _ (List.mem_append_left _ (List.mem_of_getElem? (i := 215) rfl)), rfl⟩
theorem ci_X11_25 : zCI RX11 25 yX6_init cX6_init 2 1 := ⟨⟨by decide, by decide, by decide +kernel⟩, rfl, wd_215, wd_216, wd_8, wd_217⟩
theorem dX11_init_38 : decode cX11_init 38 = .ok (.putfield 28, 3) := by decide +kernel
theorem lf_X11_28 : zLqF RX11 28 12 2 (.object "ParlourLeaves$Life") := ⟨"ParlourLeaves", RX11, TX11, 17, tyX11, rfl, by decide, wsin_X11, wd_506, rfl, rfl, rfl, by decide +kernel, tyX11_ok, nmX11⟩
theorem dX11_init_41 : decode cX11_init 41 = .ok (.aload_n 0, 1) := by decide +kernel
theorem dX11_init_42 : decode cX11_init 42 = .ok (.new 23, 3) := by decide +kernel
theorem dX11_init_45 : decode cX11_init 45 = .ok (.dup, 1) := by decide +kernel
theorem dX11_init_46 : decode cX11_init 46 = .ok (.aload_n 0, 1) := by decide +kernel
theorem dX11_init_47 : decode cX11_init 47 = .ok (.getfield 19, 3) := by decide +kernel
theorem dX11_init_50 : decode cX11_init 50 = .ok (.invokespecial 25, 3) := by decide +kernel
theorem dX11_init_53 : decode cX11_init 53 = .ok (.putfield 32, 3) := by decide +kernel
theorem lf_X11_32 : zLqF RX11 32 12 3 (.object "ParlourLeaves$Life") := ⟨"ParlourLeaves", RX11, TX11, 17, tyX11, rfl, by decide, wsin_X11, wd_507, rfl, rfl, rfl, by decide +kernel, tyX11_ok, nmX11⟩
theorem dX11_init_56 : decode cX11_init 56 = .ok (.aload_n 0, 1) := by decide +kernel
theorem dX11_init_57 : decode cX11_init 57 = .ok (.new 35, 3) := by decide +kernel
theorem wd_273 : (Jvm.Cond.classLink "ParlourLeaves" (35 : Nat) "ParlourLeaves$Past") ∈ zTB := List.mem_filter.mpr ⟨List.mem_append_right _ (List.mem_append_right _ (List.mem_append_left _ (List.mem_of_getElem? (i := 33) rfl))), rfl⟩
theorem wd_274 : (Jvm.Cond.instantiable "ParlourLeaves$Past" (3 : Nat)) ∈ zTB := List.mem_filter.mpr ⟨List.mem_append_right _ (List.mem_append_right _ (List.mem_append_left _ (List.mem_of_getElem? (i := 34) rfl))), rfl⟩
theorem nw_X11_35 : zNw RX11 "ParlourLeaves$Past" 35 8 [.null, .int 0, .int 0] := ⟨TX7, 3, tyX7, rfl, rfl, wsin_X7, tyX7_ok, by decide +kernel, wd_273, wd_274, wd_9⟩
theorem dX11_init_60 : decode cX11_init 60 = .ok (.dup, 1) := by decide +kernel
theorem dX11_init_61 : decode cX11_init 61 = .ok (.aload_n 0, 1) := by decide +kernel
theorem dX11_init_62 : decode cX11_init 62 = .ok (.getfield 19, 3) := by decide +kernel
theorem dX11_init_65 : decode cX11_init 65 = .ok (.invokespecial 37, 3) := by decide +kernel
theorem wd_276 : (Jvm.Cond.instanceMethod ({ cls := "ParlourLeaves$Past", name := "<init>", desc := "(LParlourLeaves$House;)V" } : Jvm.MethodName)) ∈ zTB := List.mem_filter.mpr ⟨List.mem_append_right _ (List.mem_append_right _ (List.mem_append_left _ (List.mem_of_getElem? (i := 36) rfl))), rfl⟩
theorem wd_277 : (Jvm.Cond.code ({ cls := "ParlourLeaves$Past", name := "<init>", desc := "(LParlourLeaves$House;)V" } : Jvm.MethodName) prog_9_method_1_code (3 : Nat) (Option.none : Option Jvm.ClassFile.FieldType)) ∈ zTB := List.mem_filter.mpr ⟨List.mem_append_right _ (List.mem_append_right _ (List.mem_append_left _ (List.mem_of_getElem? (i := 37) rfl))), rfl⟩
theorem wd_275 : (Jvm.Cond.methodLink "ParlourLeaves" (37 : Nat) ({ cls := "ParlourLeaves$Past", name := "<init>", desc := "(LParlourLeaves$House;)V" } : Jvm.MethodName)) ∈ zTB := List.mem_filter.mpr ⟨List.mem_append_right _ (List.mem_append_right _ (List.mem_append_left _ (List.mem_of_getElem? (i := 35) rfl))), rfl⟩
theorem ci_X11_37 : zCI RX11 37 yX7_init cX7_init 3 1 := ⟨⟨by decide, by decide, by decide +kernel⟩, rfl, wd_275, wd_276, wd_9, wd_277⟩
theorem dX11_init_68 : decode cX11_init 68 = .ok (.putfield 38, 3) := by decide +kernel
theorem lf_X11_38 : zLqF RX11 38 12 4 (.object "ParlourLeaves$Past") := ⟨"ParlourLeaves", RX11, TX11, 17, tyX11, rfl, by decide, wsin_X11, wd_508, rfl, rfl, rfl, by decide +kernel, tyX11_ok, nmX11⟩
theorem dX11_init_71 : decode cX11_init 71 = .ok (.aload_n 0, 1) := by decide +kernel
theorem dX11_init_73 : decode cX11_init 73 = .ok (.anewarray 42, 3) := by decide +kernel
theorem dX11_init_72 : decode cX11_init 72 = .ok (.iconst 2, 1) := by decide +kernel
theorem wd_292 : (Jvm.Cond.classLink "ParlourLeaves" (42 : Nat) "ParlourLeaves$Image") ∈ zTB := List.mem_filter.mpr ⟨List.mem_append_right _ (List.mem_append_right _ (List.mem_append_left _ (List.mem_of_getElem? (i := 52) rfl))), rfl⟩
theorem dX11_init_76 : decode cX11_init 76 = .ok (.putfield 44, 3) := by decide +kernel
theorem lf_X11_44 : zLqF RX11 44 12 5 (.array (.object "ParlourLeaves$Image")) := ⟨"ParlourLeaves", RX11, TX11, 17, tyX11, rfl, by decide, wsin_X11, wd_509, rfl, rfl, rfl, by decide +kernel, tyX11_ok, nmX11⟩
theorem dX11_init_79 : decode cX11_init 79 = .ok (.iconst 0, 1) := by decide +kernel
theorem dX11_init_80 : decode cX11_init 80 = .ok (.istore_n 1, 1) := by decide +kernel
theorem dX11_init_81 : decode cX11_init 81 = .ok (.iload_n 1, 1) := by decide +kernel
theorem dX11_init_82 : decode cX11_init 82 = .ok (.iconst 2, 1) := by decide +kernel
theorem dX11_init_83 : decode cX11_init 83 = .ok (.if_icmp .ge 22, 3) := by decide +kernel
theorem dX11_init_86 : decode cX11_init 86 = .ok (.aload_n 0, 1) := by decide +kernel
theorem dX11_init_87 : decode cX11_init 87 = .ok (.getfield 44, 3) := by decide +kernel
theorem dX11_init_90 : decode cX11_init 90 = .ok (.iload_n 1, 1) := by decide +kernel
theorem dX11_init_91 : decode cX11_init 91 = .ok (.new 42, 3) := by decide +kernel
theorem wd_294 : (Jvm.Cond.instantiable "ParlourLeaves$Image" (4 : Nat)) ∈ zTB := List.mem_filter.mpr ⟨List.mem_append_right _ (List.mem_append_right _ (List.mem_append_left _ (List.mem_of_getElem? (i := 54) rfl))), rfl⟩
theorem nw_X11_42 : zNw RX11 "ParlourLeaves$Image" 42 6 [.null, .null, .null, .int 0] := ⟨TX5, 4, tyX5, rfl, rfl, wsin_X5, tyX5_ok, by decide +kernel, wd_292, wd_294, wd_10⟩
theorem dX11_init_94 : decode cX11_init 94 = .ok (.dup, 1) := by decide +kernel
theorem dX11_init_95 : decode cX11_init 95 = .ok (.invokespecial 48, 3) := by decide +kernel
theorem wd_296 : (Jvm.Cond.instanceMethod ({ cls := "ParlourLeaves$Image", name := "<init>", desc := "()V" } : Jvm.MethodName)) ∈ zTB := List.mem_filter.mpr ⟨List.mem_append_right _ (List.mem_append_right _ (List.mem_append_left _ (List.mem_of_getElem? (i := 56) rfl))), rfl⟩
theorem wd_297 : (Jvm.Cond.code ({ cls := "ParlourLeaves$Image", name := "<init>", desc := "()V" } : Jvm.MethodName) prog_7_method_1_code (1 : Nat) (Option.none : Option Jvm.ClassFile.FieldType)) ∈ zTB := List.mem_filter.mpr ⟨List.mem_append_right _ (List.mem_append_right _ (List.mem_append_left _ (List.mem_of_getElem? (i := 57) rfl))), rfl⟩
theorem cj_X11_48 : zCJ RX11 "ParlourLeaves" 48 yX5_init cX5_init 1 0 := ⟨⟨by decide, by decide, by decide +kernel⟩, rfl, List.mem_of_getElem? (i := 1) rfl, wd_296, wd_10, wd_297⟩
theorem dX11_init_98 : decode cX11_init 98 = .ok (.aastore, 1) := by decide +kernel
theorem zi_0_2 : zIx 0 2 = true := by decide
theorem dX11_init_99 : decode cX11_init 99 = .ok (.iinc 1 1, 3) := by decide +kernel
theorem dX11_init_102 : decode cX11_init 102 = .ok (.goto (-21), 3) := by decide +kernel
theorem zi_1_2 : zIx 1 2 = true := by decide
theorem dX11_init_105 : decode cX11_init 105 = .ok (.aload_n 0, 1) := by decide +kernel
theorem dX11_init_106 : decode cX11_init 106 = .ok (.new 49, 3) := by decide +kernel
theorem wd_346 : (Jvm.Cond.classLink "ParlourLeaves" (49 : Nat) "ParlourLeaves$HouseText") ∈ zTB := List.mem_filter.mpr ⟨List.mem_append_right _ (List.mem_append_right _ (List.mem_append_left _ (List.mem_of_getElem? (i := 106) rfl))), rfl⟩
theorem wd_347 : (Jvm.Cond.instantiable "ParlourLeaves$HouseText" (4 : Nat)) ∈ zTB := List.mem_filter.mpr ⟨List.mem_append_right _ (List.mem_append_right _ (List.mem_append_left _ (List.mem_of_getElem? (i := 107) rfl))), rfl⟩
theorem nw_X11_49 : zNw RX11 "ParlourLeaves$HouseText" 49 5 [.null, .null, .int 0, .int 0] := ⟨TX4, 4, tyX4, rfl, rfl, wsin_X4, tyX4_ok, by decide +kernel, wd_346, wd_347, wd_12⟩
theorem dX11_init_109 : decode cX11_init 109 = .ok (.dup, 1) := by decide +kernel
theorem dX11_init_110 : decode cX11_init 110 = .ok (.aload_n 0, 1) := by decide +kernel
theorem dX11_init_111 : decode cX11_init 111 = .ok (.getfield 10, 3) := by decide +kernel
theorem dX11_init_114 : decode cX11_init 114 = .ok (.invokespecial 51, 3) := by decide +kernel
theorem wd_349 : (Jvm.Cond.instanceMethod ({ cls := "ParlourLeaves$HouseText", name := "<init>", desc := "(LParlourLeaves$Tape;)V" } : Jvm.MethodName)) ∈ zTB := List.mem_filter.mpr ⟨List.mem_append_right _ (List.mem_append_right _ (List.mem_append_left _ (List.mem_of_getElem? (i := 109) rfl))), rfl⟩
theorem wd_350 : (Jvm.Cond.code ({ cls := "ParlourLeaves$HouseText", name := "<init>", desc := "(LParlourLeaves$Tape;)V" } : Jvm.MethodName) prog_6_method_1_code (2 : Nat) (Option.none : Option Jvm.ClassFile.FieldType)) ∈ zTB := List.mem_filter.mpr ⟨List.mem_append_right _ (List.mem_append_right _ (List.mem_append_left _ (List.mem_of_getElem? (i := 110) rfl))), rfl⟩
theorem wd_348 : (Jvm.Cond.methodLink "ParlourLeaves" (51 : Nat) ({ cls := "ParlourLeaves$HouseText", name := "<init>", desc := "(LParlourLeaves$Tape;)V" } : Jvm.MethodName)) ∈ zTB := List.mem_filter.mpr ⟨List.mem_append_right _ (List.mem_append_right _ (List.mem_append_left _ (List.mem_of_getElem? (i := 108) rfl))), rfl⟩
theorem ci_X11_51 : zCI RX11 51 yX4_init cX4_init 2 1 := ⟨⟨by decide, by decide, by decide +kernel⟩, rfl, wd_348, wd_349, wd_12, wd_350⟩
theorem dX11_init_117 : decode cX11_init 117 = .ok (.putfield 54, 3) := by decide +kernel
theorem lf_X11_54 : zLqF RX11 54 12 6 (.object "ParlourLeaves$HouseText") := ⟨"ParlourLeaves", RX11, TX11, 17, tyX11, rfl, by decide, wsin_X11, wd_510, rfl, rfl, rfl, by decide +kernel, tyX11_ok, nmX11⟩
theorem dX11_init_120 : decode cX11_init 120 = .ok (.aload_n 0, 1) := by decide +kernel
theorem dX11_init_121 : decode cX11_init 121 = .ok (.new 58, 3) := by decide +kernel
theorem wd_368 : (Jvm.Cond.classLink "ParlourLeaves" (58 : Nat) "ParlourLeaves$BookText") ∈ zTB := List.mem_filter.mpr ⟨List.mem_append_right _ (List.mem_append_right _ (List.mem_append_left _ (List.mem_of_getElem? (i := 128) rfl))), rfl⟩
theorem wd_369 : (Jvm.Cond.instantiable "ParlourLeaves$BookText" (11 : Nat)) ∈ zTB := List.mem_filter.mpr ⟨List.mem_append_right _ (List.mem_append_right _ (List.mem_append_left _ (List.mem_of_getElem? (i := 129) rfl))), rfl⟩
theorem nw_X11_58 : zNw RX11 "ParlourLeaves$BookText" 58 1 [.null, .null, .null, .null, .null, .null, .int 0, .int 0, .int 0, .int 0, .int 0] := ⟨TX0, 11, tyX0, rfl, rfl, wsin_X0, tyX0_ok, by decide +kernel, wd_368, wd_369, wd_13⟩
theorem dX11_init_124 : decode cX11_init 124 = .ok (.dup, 1) := by decide +kernel
theorem dX11_init_125 : decode cX11_init 125 = .ok (.aload_n 0, 1) := by decide +kernel
theorem dX11_init_126 : decode cX11_init 126 = .ok (.getfield 10, 3) := by decide +kernel
theorem dX11_init_129 : decode cX11_init 129 = .ok (.aload_n 0, 1) := by decide +kernel
theorem dX11_init_130 : decode cX11_init 130 = .ok (.getfield 19, 3) := by decide +kernel
theorem dX11_init_133 : decode cX11_init 133 = .ok (.invokespecial 60, 3) := by decide +kernel
theorem wd_371 : (Jvm.Cond.instanceMethod ({ cls := "ParlourLeaves$BookText", name := "<init>", desc := "(LParlourLeaves$Tape;LParlourLeaves$House;)V" } : Jvm.MethodName)) ∈ zTB := List.mem_filter.mpr ⟨List.mem_append_right _ (List.mem_append_right _ (List.mem_append_left _ (List.mem_of_getElem? (i := 131) rfl))), rfl⟩
theorem wd_372 : (Jvm.Cond.code ({ cls := "ParlourLeaves$BookText", name := "<init>", desc := "(LParlourLeaves$Tape;LParlourLeaves$House;)V" } : Jvm.MethodName) prog_2_method_1_code (3 : Nat) (Option.none : Option Jvm.ClassFile.FieldType)) ∈ zTB := List.mem_filter.mpr ⟨List.mem_append_right _ (List.mem_append_right _ (List.mem_append_left _ (List.mem_of_getElem? (i := 132) rfl))), rfl⟩
theorem wd_370 : (Jvm.Cond.methodLink "ParlourLeaves" (60 : Nat) ({ cls := "ParlourLeaves$BookText", name := "<init>", desc := "(LParlourLeaves$Tape;LParlourLeaves$House;)V" } : Jvm.MethodName)) ∈ zTB := List.mem_filter.mpr ⟨List.mem_append_right _ (List.mem_append_right _ (List.mem_append_left _ (List.mem_of_getElem? (i := 130) rfl))), rfl⟩
theorem ci_X11_60 : zCI RX11 60 yX0_init cX0_init 3 2 := ⟨⟨by decide, by decide, by decide +kernel⟩, rfl, wd_370, wd_371, wd_13, wd_372⟩
theorem dX11_init_136 : decode cX11_init 136 = .ok (.putfield 63, 3) := by decide +kernel
theorem lf_X11_63 : zLqF RX11 63 12 7 (.object "ParlourLeaves$BookText") := ⟨"ParlourLeaves", RX11, TX11, 17, tyX11, rfl, by decide, wsin_X11, wd_511, rfl, rfl, rfl, by decide +kernel, tyX11_ok, nmX11⟩
theorem dX11_init_139 : decode cX11_init 139 = .ok (.aload_n 0, 1) := by decide +kernel
theorem dX11_init_140 : decode cX11_init 140 = .ok (.new 67, 3) := by decide +kernel
theorem wd_412 : (Jvm.Cond.classLink "ParlourLeaves" (67 : Nat) "ParlourLeaves$Sentence") ∈ zTB := List.mem_filter.mpr ⟨List.mem_append_right _ (List.mem_append_right _ (List.mem_append_left _ (List.mem_of_getElem? (i := 172) rfl))), rfl⟩
theorem nw_X11_67 : zNw RX11 "ParlourLeaves$Sentence" 67 9 [.null, .null, .null, .null, .int 0, .int 0] := ⟨TX8, 6, tyX8, rfl, rfl, wsin_X8, tyX8_ok, by decide +kernel, wd_412, wd_304, wd_11⟩
theorem dX11_init_143 : decode cX11_init 143 = .ok (.dup, 1) := by decide +kernel
theorem dX11_init_144 : decode cX11_init 144 = .ok (.invokespecial 69, 3) := by decide +kernel
theorem cj_X11_69 : zCJ RX11 "ParlourLeaves" 69 yX8_init cX8_init 1 0 := ⟨⟨by decide, by decide, by decide +kernel⟩, rfl, List.mem_of_getElem? (i := 5) rfl, wd_306, wd_11, wd_307⟩
theorem dX11_init_147 : decode cX11_init 147 = .ok (.putfield 70, 3) := by decide +kernel
theorem lf_X11_70 : zLqF RX11 70 12 8 (.object "ParlourLeaves$Sentence") := ⟨"ParlourLeaves", RX11, TX11, 17, tyX11, rfl, by decide, wsin_X11, wd_512, rfl, rfl, rfl, by decide +kernel, tyX11_ok, nmX11⟩
theorem dX11_init_150 : decode cX11_init 150 = .ok (.aload_n 0, 1) := by decide +kernel
theorem dX11_init_151 : decode cX11_init 151 = .ok (.new 67, 3) := by decide +kernel
theorem dX11_init_154 : decode cX11_init 154 = .ok (.dup, 1) := by decide +kernel
theorem dX11_init_155 : decode cX11_init 155 = .ok (.invokespecial 69, 3) := by decide +kernel
theorem dX11_init_158 : decode cX11_init 158 = .ok (.putfield 74, 3) := by decide +kernel
theorem lf_X11_74 : zLqF RX11 74 12 9 (.object "ParlourLeaves$Sentence") := ⟨"ParlourLeaves", RX11, TX11, 17, tyX11, rfl, by decide, wsin_X11, wd_513, rfl, rfl, rfl, by decide +kernel, tyX11_ok, nmX11⟩
theorem dX11_init_161 : decode cX11_init 161 = .ok (.aload_n 0, 1) := by decide +kernel
theorem dX11_init_162 : decode cX11_init 162 = .ok (.new 77, 3) := by decide +kernel
theorem wd_414 : (Jvm.Cond.classLink "ParlourLeaves" (77 : Nat) "ParlourLeaves$Foresight") ∈ zTB := List.mem_filter.mpr ⟨List.mem_append_right _ (List.mem_append_right _ (List.mem_append_left _ (List.mem_of_getElem? (i := 174) rfl))), rfl⟩
theorem wd_415 : (Jvm.Cond.instantiable "ParlourLeaves$Foresight" (5 : Nat)) ∈ zTB := List.mem_filter.mpr ⟨List.mem_append_right _ (List.mem_append_right _ (List.mem_append_left _ (List.mem_of_getElem? (i := 175) rfl))), rfl⟩
theorem nw_X11_77 : zNw RX11 "ParlourLeaves$Foresight" 77 3 [.null, .null, .int 0, .int 0, .int 0] := ⟨TX2, 5, tyX2, rfl, rfl, wsin_X2, tyX2_ok, by decide +kernel, wd_414, wd_415, wd_14⟩
theorem dX11_init_165 : decode cX11_init 165 = .ok (.dup, 1) := by decide +kernel
theorem dX11_init_166 : decode cX11_init 166 = .ok (.aload_n 0, 1) := by decide +kernel
theorem dX11_init_167 : decode cX11_init 167 = .ok (.getfield 19, 3) := by decide +kernel
theorem dX11_init_170 : decode cX11_init 170 = .ok (.aload_n 0, 1) := by decide +kernel
theorem dX11_init_171 : decode cX11_init 171 = .ok (.getfield 28, 3) := by decide +kernel
theorem dX11_init_174 : decode cX11_init 174 = .ok (.invokespecial 79, 3) := by decide +kernel
theorem wd_417 : (Jvm.Cond.instanceMethod ({ cls := "ParlourLeaves$Foresight", name := "<init>", desc := "(LParlourLeaves$House;LParlourLeaves$Life;)V" } : Jvm.MethodName)) ∈ zTB := List.mem_filter.mpr ⟨List.mem_append_right _ (List.mem_append_right _ (List.mem_append_left _ (List.mem_of_getElem? (i := 177) rfl))), rfl⟩
theorem wd_418 : (Jvm.Cond.code ({ cls := "ParlourLeaves$Foresight", name := "<init>", desc := "(LParlourLeaves$House;LParlourLeaves$Life;)V" } : Jvm.MethodName) prog_4_method_1_code (3 : Nat) (Option.none : Option Jvm.ClassFile.FieldType)) ∈ zTB := List.mem_filter.mpr ⟨List.mem_append_right _ (List.mem_append_right _ (List.mem_append_left _ (List.mem_of_getElem? (i := 178) rfl))), rfl⟩
theorem wd_416 : (Jvm.Cond.methodLink "ParlourLeaves" (79 : Nat) ({ cls := "ParlourLeaves$Foresight", name := "<init>", desc := "(LParlourLeaves$House;LParlourLeaves$Life;)V" } : Jvm.MethodName)) ∈ zTB := List.mem_filter.mpr ⟨List.mem_append_right _ (List.mem_append_right _ (List.mem_append_left _ (List.mem_of_getElem? (i := 176) rfl))), rfl⟩
theorem ci_X11_79 : zCI RX11 79 yX2_init cX2_init 3 2 := ⟨⟨by decide, by decide, by decide +kernel⟩, rfl, wd_416, wd_417, wd_14, wd_418⟩
theorem dX11_init_177 : decode cX11_init 177 = .ok (.putfield 82, 3) := by decide +kernel
theorem lf_X11_82 : zLqF RX11 82 12 10 (.object "ParlourLeaves$Foresight") := ⟨"ParlourLeaves", RX11, TX11, 17, tyX11, rfl, by decide, wsin_X11, wd_514, rfl, rfl, rfl, by decide +kernel, tyX11_ok, nmX11⟩
theorem dX11_init_180 : decode cX11_init 180 = .ok (.aload_n 0, 1) := by decide +kernel
theorem dX11_init_181 : decode cX11_init 181 = .ok (.new 86, 3) := by decide +kernel
theorem wd_439 : (Jvm.Cond.classLink "ParlourLeaves" (86 : Nat) "ParlourLeaves$Way") ∈ zTB := List.mem_filter.mpr ⟨List.mem_append_right _ (List.mem_append_right _ (List.mem_append_left _ (List.mem_of_getElem? (i := 199) rfl))), rfl⟩
theorem wd_440 : (Jvm.Cond.instantiable "ParlourLeaves$Way" (5 : Nat)) ∈ zTB := List.mem_filter.mpr ⟨List.mem_append_right _ (List.mem_append_right _ (List.mem_append_left _ (List.mem_of_getElem? (i := 200) rfl))), rfl⟩
theorem nw_X11_86 : zNw RX11 "ParlourLeaves$Way" 86 11 [.null, .null, .null, .null, .int 0] := ⟨TX10, 5, tyX10, rfl, rfl, wsin_X10, tyX10_ok, by decide +kernel, wd_439, wd_440, wd_15⟩
theorem dX11_init_184 : decode cX11_init 184 = .ok (.dup, 1) := by decide +kernel
theorem dX11_init_185 : decode cX11_init 185 = .ok (.invokespecial 88, 3) := by decide +kernel
theorem wd_442 : (Jvm.Cond.instanceMethod ({ cls := "ParlourLeaves$Way", name := "<init>", desc := "()V" } : Jvm.MethodName)) ∈ zTB := List.mem_filter.mpr ⟨List.mem_append_right _ (List.mem_append_right _ (List.mem_append_left _ (List.mem_of_getElem? (i := 202) rfl))), rfl⟩
theorem wd_443 : (Jvm.Cond.code ({ cls := "ParlourLeaves$Way", name := "<init>", desc := "()V" } : Jvm.MethodName) prog_12_method_1_code (1 : Nat) (Option.none : Option Jvm.ClassFile.FieldType)) ∈ zTB := List.mem_filter.mpr ⟨List.mem_append_right _ (List.mem_append_right _ (List.mem_append_left _ (List.mem_of_getElem? (i := 203) rfl))), rfl⟩
theorem cj_X11_88 : zCJ RX11 "ParlourLeaves" 88 yX10_init cX10_init 1 0 := ⟨⟨by decide, by decide, by decide +kernel⟩, rfl, List.mem_of_getElem? (i := 6) rfl, wd_442, wd_15, wd_443⟩
theorem dX11_init_188 : decode cX11_init 188 = .ok (.putfield 89, 3) := by decide +kernel
theorem lf_X11_89 : zLqF RX11 89 12 11 (.object "ParlourLeaves$Way") := ⟨"ParlourLeaves", RX11, TX11, 17, tyX11, rfl, by decide, wsin_X11, wd_515, rfl, rfl, rfl, by decide +kernel, tyX11_ok, nmX11⟩
theorem dX11_init_191 : decode cX11_init 191 = .ok (.aload_n 0, 1) := by decide +kernel
theorem dX11_init_192 : decode cX11_init 192 = .ok (.new 93, 3) := by decide +kernel
theorem wd_464 : (Jvm.Cond.classLink "ParlourLeaves" (93 : Nat) "ParlourLeaves$Draws") ∈ zTB := List.mem_filter.mpr ⟨List.mem_append_right _ (List.mem_append_right _ (List.mem_append_left _ (List.mem_of_getElem? (i := 224) rfl))), rfl⟩
theorem wd_465 : (Jvm.Cond.instantiable "ParlourLeaves$Draws" (1 : Nat)) ∈ zTB := List.mem_filter.mpr ⟨List.mem_append_right _ (List.mem_append_right _ (List.mem_append_left _ (List.mem_of_getElem? (i := 225) rfl))), rfl⟩
theorem nw_X11_93 : zNw RX11 "ParlourLeaves$Draws" 93 2 [.int 0] := ⟨TX1, 1, tyX1, rfl, rfl, wsin_X1, tyX1_ok, by decide +kernel, wd_464, wd_465, wd_16⟩
theorem dX11_init_195 : decode cX11_init 195 = .ok (.dup, 1) := by decide +kernel
theorem dX11_init_196 : decode cX11_init 196 = .ok (.invokespecial 95, 3) := by decide +kernel
theorem wd_467 : (Jvm.Cond.instanceMethod ({ cls := "ParlourLeaves$Draws", name := "<init>", desc := "()V" } : Jvm.MethodName)) ∈ zTB := List.mem_filter.mpr ⟨List.mem_append_right _ (List.mem_append_right _ (List.mem_append_left _ (List.mem_of_getElem? (i := 227) rfl))), rfl⟩
theorem wd_468 : (Jvm.Cond.code ({ cls := "ParlourLeaves$Draws", name := "<init>", desc := "()V" } : Jvm.MethodName) prog_3_method_1_code (1 : Nat) (Option.none : Option Jvm.ClassFile.FieldType)) ∈ zTB := List.mem_filter.mpr ⟨List.mem_append_right _ (List.mem_append_right _ (List.mem_append_left _ (List.mem_of_getElem? (i := 228) rfl))), rfl⟩
theorem cj_X11_95 : zCJ RX11 "ParlourLeaves" 95 yX1_init cX1_init 1 0 := ⟨⟨by decide, by decide, by decide +kernel⟩, rfl, List.mem_of_getElem? (i := 7) rfl, wd_467, wd_16, wd_468⟩
theorem dX11_init_199 : decode cX11_init 199 = .ok (.putfield 96, 3) := by decide +kernel
theorem lf_X11_96 : zLqF RX11 96 12 12 (.object "ParlourLeaves$Draws") := ⟨"ParlourLeaves", RX11, TX11, 17, tyX11, rfl, by decide, wsin_X11, wd_516, rfl, rfl, rfl, by decide +kernel, tyX11_ok, nmX11⟩
theorem dX11_init_202 : decode cX11_init 202 = .ok (.aload_n 0, 1) := by decide +kernel
theorem dX11_init_203 : decode cX11_init 203 = .ok (.new 100, 3) := by decide +kernel
theorem wd_474 : (Jvm.Cond.classLink "ParlourLeaves" (100 : Nat) "java/lang/StringBuilder") ∈ zTB := List.mem_filter.mpr ⟨List.mem_append_right _ (List.mem_append_right _ (List.mem_append_left _ (List.mem_of_getElem? (i := 234) rfl))), rfl⟩
theorem wd_475 : (Jvm.Cond.instantiable "java/lang/StringBuilder" (4 : Nat)) ∈ zTB := List.mem_filter.mpr ⟨List.mem_append_right _ (List.mem_append_right _ (List.mem_append_left _ (List.mem_of_getElem? (i := 235) rfl))), rfl⟩
theorem wd_18 : (Jvm.Cond.initialized "java/lang/StringBuilder") ∈ zTB := List.mem_filter.mpr ⟨List.mem_append_right _ (List.mem_append_left _ (List.mem_of_getElem? (i := 18) rfl)), rfl⟩
theorem nw_X11_100 : zNw RX11 "java/lang/StringBuilder" 100 0 [.null, .int 0, .int 0, .int 0] := ⟨TJ4, 4, tyJ4, rfl, rfl, wsin_J4, tyJ4_ok, by decide +kernel, wd_474, wd_475, wd_18⟩
theorem dX11_init_206 : decode cX11_init 206 = .ok (.dup, 1) := by decide +kernel
theorem dX11_init_207 : decode cX11_init 207 = .ok (.invokespecial 102, 3) := by decide +kernel
theorem wd_477 : (Jvm.Cond.instanceMethod ({ cls := "java/lang/StringBuilder", name := "<init>", desc := "()V" } : Jvm.MethodName)) ∈ zTB := List.mem_filter.mpr ⟨List.mem_append_right _ (List.mem_append_right _ (List.mem_append_left _ (List.mem_of_getElem? (i := 237) rfl))), rfl⟩
theorem wd_478 : (Jvm.Cond.code ({ cls := "java/lang/StringBuilder", name := "<init>", desc := "()V" } : Jvm.MethodName) prog_27_method_1_code (1 : Nat) (Option.none : Option Jvm.ClassFile.FieldType)) ∈ zTB := List.mem_filter.mpr ⟨List.mem_append_right _ (List.mem_append_right _ (List.mem_append_left _ (List.mem_of_getElem? (i := 238) rfl))), rfl⟩
theorem wd_476 : (Jvm.Cond.methodLink "ParlourLeaves" (102 : Nat) ({ cls := "java/lang/StringBuilder", name := "<init>", desc := "()V" } : Jvm.MethodName)) ∈ zTB := List.mem_filter.mpr ⟨List.mem_append_right _ (List.mem_append_right _ (List.mem_append_left _ (List.mem_of_getElem? (i := 236) rfl))), rfl⟩
theorem ci_X11_102 : zCI RX11 102 yJ4_init_da8c8 cJ4_init_da8c8 1 0 := ⟨⟨by decide, by decide, by decide +kernel⟩, rfl, wd_476, wd_477, wd_18, wd_478⟩
theorem dX11_init_210 : decode cX11_init 210 = .ok (.putfield 103, 3) := by decide +kernel
theorem wd_517 : (Jvm.Cond.fieldLink "ParlourLeaves" (103 : Nat) "ParlourLeaves" "card" "Ljava/lang/StringBuilder;") ∈ zTB := List.mem_filter.mpr ⟨List.mem_append_right _ (List.mem_append_right _ (List.mem_append_right _ (List.mem_append_left _ (List.mem_of_getElem? (i := 37) rfl)))), rfl⟩
theorem lf_X11_103 : zLqF RX11 103 12 13 (.object "java/lang/StringBuilder") := ⟨"ParlourLeaves", RX11, TX11, 17, tyX11, rfl, by decide, wsin_X11, wd_517, rfl, rfl, rfl, by decide +kernel, tyX11_ok, nmX11⟩
theorem dX11_init_213 : decode cX11_init 213 = .ok (.aload_n 0, 1) := by decide +kernel
theorem dX11_init_214 : decode cX11_init 214 = .ok (.iconst (-1), 1) := by decide +kernel
theorem dX11_init_215 : decode cX11_init 215 = .ok (.putfield 107, 3) := by decide +kernel
theorem dX11_init_218 : decode cX11_init 218 = .ok (.aload_n 0, 1) := by decide +kernel
theorem dX11_init_219 : decode cX11_init 219 = .ok (.iconst (-1), 1) := by decide +kernel
theorem dX11_init_220 : decode cX11_init 220 = .ok (.putfield 111, 3) := by decide +kernel
theorem dX11_init_223 : decode cX11_init 223 = .ok (.return_, 1) := by decide +kernel
def gWm (cy : Nat → ClassId) (q : Nat → Nat) : va_W := (q 0, .inr (12, [.ref (q 1), .ref (q 4), .ref (q 14), .ref (q 29), .ref (q 44), .ref (q 166), .ref (q 229), .ref (q 240), .ref (q 245), .ref (q 250), .ref (q 255), .ref (q 256), .ref (q 261), .ref (q 262), .int 0, .int (-1), .int (-1)])) :: (q 166, .inl (cy 5, 2, .inr (.inr (.inr (.inr (fun i => [q 167, q 198][i]?)))))) :: (((((((((((((((bX9 cy (fun i => q (1 + i))) ++ bX3 cy (fun i => q (4 + i))) ++ bX6 cy (q 4) (fun i => q (14 + i))) ++ bX6 cy (q 4) (fun i => q (29 + i))) ++ bX7 cy (q 4) (fun i => q (44 + i))) ++ bX5 cy (fun i => q (167 + i))) ++ bX5 cy (fun i => q (198 + i))) ++ bX4 cy (q 1) (fun i => q (229 + i))) ++ bX0 cy (q 1) (q 4) (fun i => q (240 + i))) ++ bX8 cy (fun i => q (245 + i))) ++ bX8 cy (fun i => q (250 + i))) ++ bX2 cy (q 4) (q 14) (fun i => q (255 + i))) ++ bX10 cy (fun i => q (256 + i))) ++ bX1 cy (fun i => q (261 + i))) ++ bJ4 cy 16 0 0 (fun _ => 0) (fun i => q (262 + i)))
theorem wd_35 : (Jvm.Cond.methodLink "ParlourLeaves" (1 : Nat) ({ cls := "java/lang/Object", name := "<init>", desc := "()V" } : Jvm.MethodName)) ∈ zTB := List.mem_filter.mpr ⟨List.mem_append_right _ (List.mem_append_left _ (List.mem_of_getElem? (i := 35) rfl)), rfl⟩
theorem dX11_init_0 : decode cX11_init 0 = .ok (.aload_n 0, 1) := by decide +kernel
theorem dX11_init_1 : decode cX11_init 1 = .ok (.invokespecial 1, 3) := by decide +kernel
set_option maxHeartbeats 1000000 in
set_option maxRecDepth 100000 in
theorem mX11_init {l : Launch} {D : va_G} {cy : Nat → ClassId} {kK kV : Nat → Nat} (a sz : Nat) : zMc l yX11_init cX11_init 2 { frames := 6, cells := 263, slots := 4784, locals := 243 } [] D cy kK kV sz a (.inr (12, [.null, .null, .null, .null, .null, .null, .null, .null, .null, .null, .null, .null, .null, .null, .int 0, .int 0, .int 0])) (gWm cy) := by
  refine Met.ofW (cc := cX11_init) (maxL := 2) (ret := none) (by decide) rfl ?_
  intro p e s m args below meth c s₁ B hml hv
  obtain ⟨rfl, hsz, hP, hK, hE⟩ := hv
  have cx : zX RX11 cX11_init 2 p s m ([.ref a]).toArray c D cy := ⟨B.exec, B.bytes, hml, findClass_of_methodNamed B.named, fun w hw => atoms_spec (ws := Cond.code yX11_init cX11_init 2 none :: zTB) B.pre w (List.mem_cons_of_mem _ hw), hK⟩
  have hx := cx.1
  have hb := cx.2.1
  have hr := B.returns
  have hlk := B.notSynchronized
  have hin : meth.name = "<init>" := (name_of_methodNamed B.named B.method).1
  subst hsz
  have hD : va_D (va_A [(a, .inr (12, [.null, .null, .null, .null, .null, .null, .null, .null, .null, .null, .null, .null, .null, .null, .int 0, .int 0, .int 0]))] s.heap.size) [(a, .inr (12, [.null, .null, .null, .null, .null, .null, .null, .null, .null, .null, .null, .null, .null, .null, .int 0, .int 0, .int 0]))] := z_one (Or.inl ⟨0, _, rfl⟩)
  generalize hAe : va_A [(a, .inr (12, [.null, .null, .null, .null, .null, .null, .null, .null, .null, .null, .null, .null, .null, .null, .int 0, .int 0, .int 0]))] s.heap.size = A at hD hE ⊢
  have hA : ∀ q, s.heap.size ≤ q → A q := fun q h => by rw [← hAe]; exact Or.inr h
  have hS : va_S A s.heap s.heap [] := va_S.rf
  have hl := lv_entry ([.ref a]) (n := 2) (Nat.le_of_ble_eq_true rfl)
  rw [lg_entry_eq]
  generalize (lg_sl ([.ref a]) ++ List.replicate (2 - (lg_sl ([.ref a])).length) Slot.unset).toArray = ls at hl ⊢
  have hl : lv_has ls 2 [(0, .ref a)] := hl
  refine lv_aload_n (pc := 0) hx hb dX11_init_0 rfl (lv_at hl 0 rfl) ?_
  refine W.objInit hx hb cx.2.2.2.1 (cx.2.2.2.2.1 _ wd_35) (cx.2.2.2.2.1 _ wd_36) (cx.2.2.2.2.1 _ wd_37) rfl (by rw [hml]; exact hl.1) rfl dX11_init_1 (Nat.le_of_ble_eq_true rfl) (Nat.le_of_ble_eq_true rfl) ?_
  refine W.eq (g2 := F0 m 4 ls []) rfl ?_
  refine lv_aload_n (pc := 4) hx hb dX11_init_4 rfl (lv_at hl 0 rfl) ?_
  have hP : va_P D vwCl ((a, .inr (12, [.null, .null, .null, .null, .null, .null, .null, .null, .null, .null, .null, .null, .null, .null, .int 0, .int 0, .int 0])) :: ([] : va_W)) s.heap := hP
  have hD : va_D A ((a, .inr (12, [.null, .null, .null, .null, .null, .null, .null, .null, .null, .null, .null, .null, .null, .null, .int 0, .int 0, .int 0])) :: ([] : va_W)) := hD
  refine zr_new (pc := 5) cx nw_X11_7 (N := 11) rfl hP hD hS hA (Nat.le_of_ble_eq_true rfl) (Nat.le_of_ble_eq_true rfl) dX11_init_5 (fun b1 H hP hD hS => ?_)
  refine lv_dup (pc := 8) hx hb dX11_init_8 rfl ?_
  refine zr_ctI (pc := 9) (As := []) (rest := [.ref b1, .ref a]) cx ci_X11_9 (mX9_init b1 H.size) ⟨Nat.le_of_ble_eq_true rfl, Nat.le_of_ble_eq_true rfl⟩ ⟨Nat.le_of_ble_eq_true rfl, Nat.le_of_ble_eq_true rfl⟩ hE hP hD hS hA hl.1 rfl rfl (Nat.le_of_ble_eq_true rfl) dX11_init_9 (fun u1 H locs hu1 hPn hDn hS => ?_)
  subst hu1
  have hP : va_P D vwCl ((a, .inr (12, [.null, .null, .null, .null, .null, .null, .null, .null, .null, .null, .null, .null, .null, .null, .int 0, .int 0, .int 0])) :: (bX9 cy u1)) H := hPn
  have hD : va_D A ((a, .inr (12, [.null, .null, .null, .null, .null, .null, .null, .null, .null, .null, .null, .null, .null, .null, .int 0, .int 0, .int 0])) :: (bX9 cy u1)) := hDn
  refine zr_putF (pc := 12) cx lf_X11_10 hin hP hD hS 0 (a := a) rfl (v := .ref (u1 0)) rfl rfl (Nat.le_of_ble_eq_true rfl) dX11_init_12 (fun H locs hP hD hS => ?_)
  have hP : va_P D vwCl ((a, .inr (12, [.ref (u1 0), .null, .null, .null, .null, .null, .null, .null, .null, .null, .null, .null, .null, .null, .int 0, .int 0, .int 0])) :: (bX9 cy u1)) H := hP
  have hD : va_D A ((a, .inr (12, [.ref (u1 0), .null, .null, .null, .null, .null, .null, .null, .null, .null, .null, .null, .null, .null, .int 0, .int 0, .int 0])) :: (bX9 cy u1)) := hD
  refine lv_aload_n (pc := 15) hx hb dX11_init_15 rfl (lv_at hl 0 rfl) ?_
  refine zr_new (pc := 16) cx nw_X11_16 (N := 12) rfl hP hD hS hA (Nat.le_of_ble_eq_true rfl) (Nat.le_of_ble_eq_true rfl) dX11_init_16 (fun b2 H hP hD hS => ?_)
  refine lv_dup (pc := 19) hx hb dX11_init_19 rfl ?_
  refine zr_ctN (pc := 20) (As := []) (rest := [.ref b2, .ref a]) cx cj_X11_18 (mX3_init b2 H.size) ⟨Nat.le_of_ble_eq_true rfl, Nat.le_of_ble_eq_true rfl⟩ ⟨Nat.le_of_ble_eq_true rfl, Nat.le_of_ble_eq_true rfl⟩ hE hP hD hS hA hl.1 rfl rfl (Nat.le_of_ble_eq_true rfl) dX11_init_20 (fun u2 H locs hu2 hPn hDn hS => ?_)
  subst hu2
  have hP : va_P D vwCl ((a, .inr (12, [.ref (u1 0), .null, .null, .null, .null, .null, .null, .null, .null, .null, .null, .null, .null, .null, .int 0, .int 0, .int 0])) :: ((bX9 cy u1) ++ bX3 cy u2)) H := hPn
  have hD : va_D A ((a, .inr (12, [.ref (u1 0), .null, .null, .null, .null, .null, .null, .null, .null, .null, .null, .null, .null, .null, .int 0, .int 0, .int 0])) :: ((bX9 cy u1) ++ bX3 cy u2)) := hDn
  refine zr_putF (pc := 23) cx lf_X11_19 hin hP hD hS 0 (a := a) rfl (v := .ref (u2 0)) rfl rfl (Nat.le_of_ble_eq_true rfl) dX11_init_23 (fun H locs hP hD hS => ?_)
  have hP : va_P D vwCl ((a, .inr (12, [.ref (u1 0), .ref (u2 0), .null, .null, .null, .null, .null, .null, .null, .null, .null, .null, .null, .null, .int 0, .int 0, .int 0])) :: ((bX9 cy u1) ++ bX3 cy u2)) H := hP
  have hD : va_D A ((a, .inr (12, [.ref (u1 0), .ref (u2 0), .null, .null, .null, .null, .null, .null, .null, .null, .null, .null, .null, .null, .int 0, .int 0, .int 0])) :: ((bX9 cy u1) ++ bX3 cy u2)) := hD
  refine lv_aload_n (pc := 26) hx hb dX11_init_26 rfl (lv_at hl 0 rfl) ?_
  refine zr_new (pc := 27) cx nw_X11_23 (N := 11) rfl hP hD hS hA (Nat.le_of_ble_eq_true rfl) (Nat.le_of_ble_eq_true rfl) dX11_init_27 (fun b3 H hP hD hS => ?_)
  refine lv_dup (pc := 30) hx hb dX11_init_30 rfl ?_
  refine lv_aload_n (pc := 31) hx hb dX11_init_31 rfl (lv_at hl 0 rfl) ?_
  refine zr_gett (pc := 32) cx lk_X11_19 hP 0 (a := a) rfl (v := .ref (u2 0)) rfl dX11_init_32 ?_
  refine zr_ctI (pc := 35) (As := [.ref (u2 0)]) (rest := [.ref b3, .ref a]) cx ci_X11_25 (mX6_init (u2 0) b3 H.size) ⟨Nat.le_of_ble_eq_true rfl, Nat.le_of_ble_eq_true rfl⟩ ⟨Nat.le_of_ble_eq_true rfl, Nat.le_of_ble_eq_true rfl⟩ hE hP hD hS hA hl.1 rfl rfl (Nat.le_of_ble_eq_true rfl) dX11_init_35 (fun u3 H locs hu3 hPn hDn hS => ?_)
  subst hu3
  have hP : va_P D vwCl ((a, .inr (12, [.ref (u1 0), .ref (u2 0), .null, .null, .null, .null, .null, .null, .null, .null, .null, .null, .null, .null, .int 0, .int 0, .int 0])) :: (((bX9 cy u1) ++ bX3 cy u2) ++ bX6 cy (u2 0) u3)) H := hPn
  have hD : va_D A ((a, .inr (12, [.ref (u1 0), .ref (u2 0), .null, .null, .null, .null, .null, .null, .null, .null, .null, .null, .null, .null, .int 0, .int 0, .int 0])) :: (((bX9 cy u1) ++ bX3 cy u2) ++ bX6 cy (u2 0) u3)) := hDn
  refine zr_putF (pc := 38) cx lf_X11_28 hin hP hD hS 0 (a := a) rfl (v := .ref (u3 0)) rfl rfl (Nat.le_of_ble_eq_true rfl) dX11_init_38 (fun H locs hP hD hS => ?_)
  have hP : va_P D vwCl ((a, .inr (12, [.ref (u1 0), .ref (u2 0), .ref (u3 0), .null, .null, .null, .null, .null, .null, .null, .null, .null, .null, .null, .int 0, .int 0, .int 0])) :: (((bX9 cy u1) ++ bX3 cy u2) ++ bX6 cy (u2 0) u3)) H := hP
  have hD : va_D A ((a, .inr (12, [.ref (u1 0), .ref (u2 0), .ref (u3 0), .null, .null, .null, .null, .null, .null, .null, .null, .null, .null, .null, .int 0, .int 0, .int 0])) :: (((bX9 cy u1) ++ bX3 cy u2) ++ bX6 cy (u2 0) u3)) := hD
  refine lv_aload_n (pc := 41) hx hb dX11_init_41 rfl (lv_at hl 0 rfl) ?_
  refine zr_new (pc := 42) cx nw_X11_23 (N := 11) rfl hP hD hS hA (Nat.le_of_ble_eq_true rfl) (Nat.le_of_ble_eq_true rfl) dX11_init_42 (fun b4 H hP hD hS => ?_)
  refine lv_dup (pc := 45) hx hb dX11_init_45 rfl ?_
  refine lv_aload_n (pc := 46) hx hb dX11_init_46 rfl (lv_at hl 0 rfl) ?_
  refine zr_gett (pc := 47) cx lk_X11_19 hP 0 (a := a) rfl (v := .ref (u2 0)) rfl dX11_init_47 ?_
  refine zr_ctI (pc := 50) (As := [.ref (u2 0)]) (rest := [.ref b4, .ref a]) cx ci_X11_25 (mX6_init (u2 0) b4 H.size) ⟨Nat.le_of_ble_eq_true rfl, Nat.le_of_ble_eq_true rfl⟩ ⟨Nat.le_of_ble_eq_true rfl, Nat.le_of_ble_eq_true rfl⟩ hE hP hD hS hA hl.1 rfl rfl (Nat.le_of_ble_eq_true rfl) dX11_init_50 (fun u4 H locs hu4 hPn hDn hS => ?_)
  subst hu4
  have hP : va_P D vwCl ((a, .inr (12, [.ref (u1 0), .ref (u2 0), .ref (u3 0), .null, .null, .null, .null, .null, .null, .null, .null, .null, .null, .null, .int 0, .int 0, .int 0])) :: ((((bX9 cy u1) ++ bX3 cy u2) ++ bX6 cy (u2 0) u3) ++ bX6 cy (u2 0) u4)) H := hPn
  have hD : va_D A ((a, .inr (12, [.ref (u1 0), .ref (u2 0), .ref (u3 0), .null, .null, .null, .null, .null, .null, .null, .null, .null, .null, .null, .int 0, .int 0, .int 0])) :: ((((bX9 cy u1) ++ bX3 cy u2) ++ bX6 cy (u2 0) u3) ++ bX6 cy (u2 0) u4)) := hDn
  refine zr_putF (pc := 53) cx lf_X11_32 hin hP hD hS 0 (a := a) rfl (v := .ref (u4 0)) rfl rfl (Nat.le_of_ble_eq_true rfl) dX11_init_53 (fun H locs hP hD hS => ?_)
  have hP : va_P D vwCl ((a, .inr (12, [.ref (u1 0), .ref (u2 0), .ref (u3 0), .ref (u4 0), .null, .null, .null, .null, .null, .null, .null, .null, .null, .null, .int 0, .int 0, .int 0])) :: ((((bX9 cy u1) ++ bX3 cy u2) ++ bX6 cy (u2 0) u3) ++ bX6 cy (u2 0) u4)) H := hP
  have hD : va_D A ((a, .inr (12, [.ref (u1 0), .ref (u2 0), .ref (u3 0), .ref (u4 0), .null, .null, .null, .null, .null, .null, .null, .null, .null, .null, .int 0, .int 0, .int 0])) :: ((((bX9 cy u1) ++ bX3 cy u2) ++ bX6 cy (u2 0) u3) ++ bX6 cy (u2 0) u4)) := hD
  refine lv_aload_n (pc := 56) hx hb dX11_init_56 rfl (lv_at hl 0 rfl) ?_
  refine zr_new (pc := 57) cx nw_X11_35 (N := 3) rfl hP hD hS hA (Nat.le_of_ble_eq_true rfl) (Nat.le_of_ble_eq_true rfl) dX11_init_57 (fun b5 H hP hD hS => ?_)
  refine lv_dup (pc := 60) hx hb dX11_init_60 rfl ?_
  refine lv_aload_n (pc := 61) hx hb dX11_init_61 rfl (lv_at hl 0 rfl) ?_
  refine zr_gett (pc := 62) cx lk_X11_19 hP 0 (a := a) rfl (v := .ref (u2 0)) rfl dX11_init_62 ?_
  refine zr_ctI (pc := 65) (As := [.ref (u2 0)]) (rest := [.ref b5, .ref a]) cx ci_X11_37 (mX7_init (u2 0) b5 H.size) ⟨Nat.le_of_ble_eq_true rfl, Nat.le_of_ble_eq_true rfl⟩ ⟨Nat.le_of_ble_eq_true rfl, Nat.le_of_ble_eq_true rfl⟩ hE hP hD hS hA hl.1 rfl rfl (Nat.le_of_ble_eq_true rfl) dX11_init_65 (fun u5 H locs hu5 hPn hDn hS => ?_)
  subst hu5
  have hP : va_P D vwCl ((a, .inr (12, [.ref (u1 0), .ref (u2 0), .ref (u3 0), .ref (u4 0), .null, .null, .null, .null, .null, .null, .null, .null, .null, .null, .int 0, .int 0, .int 0])) :: (((((bX9 cy u1) ++ bX3 cy u2) ++ bX6 cy (u2 0) u3) ++ bX6 cy (u2 0) u4) ++ bX7 cy (u2 0) u5)) H := hPn
  have hD : va_D A ((a, .inr (12, [.ref (u1 0), .ref (u2 0), .ref (u3 0), .ref (u4 0), .null, .null, .null, .null, .null, .null, .null, .null, .null, .null, .int 0, .int 0, .int 0])) :: (((((bX9 cy u1) ++ bX3 cy u2) ++ bX6 cy (u2 0) u3) ++ bX6 cy (u2 0) u4) ++ bX7 cy (u2 0) u5)) := hDn
  refine zr_putF (pc := 68) cx lf_X11_38 hin hP hD hS 0 (a := a) rfl (v := .ref (u5 0)) rfl rfl (Nat.le_of_ble_eq_true rfl) dX11_init_68 (fun H locs hP hD hS => ?_)
  have hP : va_P D vwCl ((a, .inr (12, [.ref (u1 0), .ref (u2 0), .ref (u3 0), .ref (u4 0), .ref (u5 0), .null, .null, .null, .null, .null, .null, .null, .null, .null, .int 0, .int 0, .int 0])) :: (((((bX9 cy u1) ++ bX3 cy u2) ++ bX6 cy (u2 0) u3) ++ bX6 cy (u2 0) u4) ++ bX7 cy (u2 0) u5)) H := hP
  have hD : va_D A ((a, .inr (12, [.ref (u1 0), .ref (u2 0), .ref (u3 0), .ref (u4 0), .ref (u5 0), .null, .null, .null, .null, .null, .null, .null, .null, .null, .int 0, .int 0, .int 0])) :: (((((bX9 cy u1) ++ bX3 cy u2) ++ bX6 cy (u2 0) u3) ++ bX6 cy (u2 0) u4) ++ bX7 cy (u2 0) u5)) := hD
  refine lv_aload_n (pc := 71) hx hb dX11_init_71 rfl (lv_at hl 0 rfl) ?_
  refine lv_iconst (pc := 72) hx hb dX11_init_72 zc_2 ?_
  refine zr_newq (pc := 73) cx (t := 5) rfl hE.1.2.1 wd_292 hP hD hS hA (n := 2) (N' := 2) (by decide) (by decide) (by decide) (Nat.le_of_ble_eq_true rfl) (Nat.le_of_ble_eq_true rfl) dX11_init_73 (fun r H hP hD hS => ?_)
  obtain ⟨hP, hD⟩ := z_second hP hD
  have hP : va_P D vwCl ((a, .inr (12, [.ref (u1 0), .ref (u2 0), .ref (u3 0), .ref (u4 0), .ref (u5 0), .null, .null, .null, .null, .null, .null, .null, .null, .null, .int 0, .int 0, .int 0])) :: (r, .inl (cy 5, 2, .inr (.inr (.inr (.inr (fun _ => none)))))) :: (((((bX9 cy u1) ++ bX3 cy u2) ++ bX6 cy (u2 0) u3) ++ bX6 cy (u2 0) u4) ++ bX7 cy (u2 0) u5)) H := hP
  have hD : va_D A ((a, .inr (12, [.ref (u1 0), .ref (u2 0), .ref (u3 0), .ref (u4 0), .ref (u5 0), .null, .null, .null, .null, .null, .null, .null, .null, .null, .int 0, .int 0, .int 0])) :: (r, .inl (cy 5, 2, .inr (.inr (.inr (.inr (fun _ => none)))))) :: (((((bX9 cy u1) ++ bX3 cy u2) ++ bX6 cy (u2 0) u3) ++ bX6 cy (u2 0) u4) ++ bX7 cy (u2 0) u5)) := hD
  refine zr_putF (pc := 76) cx lf_X11_44 hin hP hD hS 0 (a := a) rfl (v := .ref r) rfl rfl (Nat.le_of_ble_eq_true rfl) dX11_init_76 (fun H locs hP hD hS => ?_)
  have hP : va_P D vwCl ((a, .inr (12, [.ref (u1 0), .ref (u2 0), .ref (u3 0), .ref (u4 0), .ref (u5 0), .ref r, .null, .null, .null, .null, .null, .null, .null, .null, .int 0, .int 0, .int 0])) :: (r, .inl (cy 5, 2, .inr (.inr (.inr (.inr (fun _ => none)))))) :: (((((bX9 cy u1) ++ bX3 cy u2) ++ bX6 cy (u2 0) u3) ++ bX6 cy (u2 0) u4) ++ bX7 cy (u2 0) u5)) H := hP
  have hD : va_D A ((a, .inr (12, [.ref (u1 0), .ref (u2 0), .ref (u3 0), .ref (u4 0), .ref (u5 0), .ref r, .null, .null, .null, .null, .null, .null, .null, .null, .int 0, .int 0, .int 0])) :: (r, .inl (cy 5, 2, .inr (.inr (.inr (.inr (fun _ => none)))))) :: (((((bX9 cy u1) ++ bX3 cy u2) ++ bX6 cy (u2 0) u3) ++ bX6 cy (u2 0) u4) ++ bX7 cy (u2 0) u5)) := hD
  refine lv_iconst (pc := 79) hx hb dX11_init_79 zc_0 ?_
  refine lv_istore_n (lv' := [(1, .int 0), (0, .ref a)]) (pc := 80) hx hb dX11_init_80 rfl hl (by decide) rfl (fun ls hl => ?_)
  refine lv_iload_n (pc := 81) hx hb dX11_init_81 rfl (lv_at hl 0 rfl) ?_
  refine lv_iconst (pc := 82) hx hb dX11_init_82 zc_2 ?_
  refine lv_icmp_ge (pc := 83) (tgt := 105) hx hb dX11_init_83 (by decide) (fun c1 => absurd c1 (by decide)) (fun _ => ?_)
  refine lv_aload_n (pc := 86) hx hb dX11_init_86 rfl (lv_at hl 1 rfl) ?_
  refine zr_gett (pc := 87) cx lk_X11_44 hP 0 (a := a) rfl (v := .ref r) rfl dX11_init_87 ?_
  refine lv_iload_n (pc := 90) hx hb dX11_init_90 rfl (lv_at hl 0 rfl) ?_
  refine zr_new (pc := 91) cx nw_X11_42 (N := 4) rfl hP hD hS hA (Nat.le_of_ble_eq_true rfl) (Nat.le_of_ble_eq_true rfl) dX11_init_91 (fun b6 H hP hD hS => ?_)
  refine lv_dup (pc := 94) hx hb dX11_init_94 rfl ?_
  refine zr_ctN (pc := 95) (As := []) (rest := [.ref b6, .int 0, .ref r]) cx cj_X11_48 (mX5_init b6 H.size) ⟨Nat.le_of_ble_eq_true rfl, Nat.le_of_ble_eq_true rfl⟩ ⟨Nat.le_of_ble_eq_true rfl, Nat.le_of_ble_eq_true rfl⟩ hE hP hD hS hA hl.1 rfl rfl (Nat.le_of_ble_eq_true rfl) dX11_init_95 (fun u6 H locs hu6 hPn hDn hS => ?_)
  subst hu6
  have hP : va_P D vwCl ((a, .inr (12, [.ref (u1 0), .ref (u2 0), .ref (u3 0), .ref (u4 0), .ref (u5 0), .ref r, .null, .null, .null, .null, .null, .null, .null, .null, .int 0, .int 0, .int 0])) :: (r, .inl (cy 5, 2, .inr (.inr (.inr (.inr (fun _ => none)))))) :: ((((((bX9 cy u1) ++ bX3 cy u2) ++ bX6 cy (u2 0) u3) ++ bX6 cy (u2 0) u4) ++ bX7 cy (u2 0) u5) ++ bX5 cy u6)) H := hPn
  have hD : va_D A ((a, .inr (12, [.ref (u1 0), .ref (u2 0), .ref (u3 0), .ref (u4 0), .ref (u5 0), .ref r, .null, .null, .null, .null, .null, .null, .null, .null, .int 0, .int 0, .int 0])) :: (r, .inl (cy 5, 2, .inr (.inr (.inr (.inr (fun _ => none)))))) :: ((((((bX9 cy u1) ++ bX3 cy u2) ++ bX6 cy (u2 0) u3) ++ bX6 cy (u2 0) u4) ++ bX7 cy (u2 0) u5) ++ bX5 cy u6)) := hDn
  refine va_astq (pc := 98) hx hb cx.2.2.2.2.2.1 hP hD hS 1 5 (List.length (((((bX9 cy u1) ++ bX3 cy u2) ++ bX6 cy (u2 0) u3) ++ bX6 cy (u2 0) u4) ++ bX7 cy (u2 0) u5) + 2) 6 (r := (RX5, TX5, 4)) (v := u6 0) rfl rfl (z_get2 (z := (u6 0, .inr (6, [.ref (u6 1), .ref (u6 11), .ref (u6 26), .int 0]))) (X := (((((bX9 cy u1) ++ bX3 cy u2) ++ bX6 cy (u2 0) u3) ++ bX6 cy (u2 0) u4) ++ bX7 cy (u2 0) u5))) rfl (zIx_in zi_0_2) dX11_init_98 (fun H locs hP hD hS => ?_)
  have hP : va_P D vwCl ((a, .inr (12, [.ref (u1 0), .ref (u2 0), .ref (u3 0), .ref (u4 0), .ref (u5 0), .ref r, .null, .null, .null, .null, .null, .null, .null, .null, .int 0, .int 0, .int 0])) :: (r, .inl (cy 5, 2, .inr (.inr (.inr (.inr (va_up (fun _ => none) 0 (some (u6 0)))))))) :: ((((((bX9 cy u1) ++ bX3 cy u2) ++ bX6 cy (u2 0) u3) ++ bX6 cy (u2 0) u4) ++ bX7 cy (u2 0) u5) ++ bX5 cy u6)) H := hP
  have hD : va_D A ((a, .inr (12, [.ref (u1 0), .ref (u2 0), .ref (u3 0), .ref (u4 0), .ref (u5 0), .ref r, .null, .null, .null, .null, .null, .null, .null, .null, .int 0, .int 0, .int 0])) :: (r, .inl (cy 5, 2, .inr (.inr (.inr (.inr (va_up (fun _ => none) 0 (some (u6 0)))))))) :: ((((((bX9 cy u1) ++ bX3 cy u2) ++ bX6 cy (u2 0) u3) ++ bX6 cy (u2 0) u4) ++ bX7 cy (u2 0) u5) ++ bX5 cy u6)) := hD
  refine lv_iinc (v := 1) (lv' := [(1, .int 1), (0, .ref a)]) (pc := 99) hx hb dX11_init_99 hl (k := 0) rfl (by decide) (by decide) rfl (fun ls hl => ?_)
  refine lv_goto (pc := 102) (tgt := 81) hx hb dX11_init_102 (by decide) ?_
  refine lv_iload_n (pc := 81) hx hb dX11_init_81 rfl (lv_at hl 0 rfl) ?_
  refine lv_iconst (pc := 82) hx hb dX11_init_82 zc_2 ?_
  refine lv_icmp_ge (pc := 83) (tgt := 105) hx hb dX11_init_83 (by decide) (fun c1 => absurd c1 (by decide)) (fun _ => ?_)
  refine lv_aload_n (pc := 86) hx hb dX11_init_86 rfl (lv_at hl 1 rfl) ?_
  refine zr_gett (pc := 87) cx lk_X11_44 hP 0 (a := a) rfl (v := .ref r) rfl dX11_init_87 ?_
  refine lv_iload_n (pc := 90) hx hb dX11_init_90 rfl (lv_at hl 0 rfl) ?_
  refine zr_new (pc := 91) cx nw_X11_42 (N := 4) rfl hP hD hS hA (Nat.le_of_ble_eq_true rfl) (Nat.le_of_ble_eq_true rfl) dX11_init_91 (fun b7 H hP hD hS => ?_)
  refine lv_dup (pc := 94) hx hb dX11_init_94 rfl ?_
  refine zr_ctN (pc := 95) (As := []) (rest := [.ref b7, .int 1, .ref r]) cx cj_X11_48 (mX5_init b7 H.size) ⟨Nat.le_of_ble_eq_true rfl, Nat.le_of_ble_eq_true rfl⟩ ⟨Nat.le_of_ble_eq_true rfl, Nat.le_of_ble_eq_true rfl⟩ hE hP hD hS hA hl.1 rfl rfl (Nat.le_of_ble_eq_true rfl) dX11_init_95 (fun u7 H locs hu7 hPn hDn hS => ?_)
  subst hu7
  have hP : va_P D vwCl ((a, .inr (12, [.ref (u1 0), .ref (u2 0), .ref (u3 0), .ref (u4 0), .ref (u5 0), .ref r, .null, .null, .null, .null, .null, .null, .null, .null, .int 0, .int 0, .int 0])) :: (r, .inl (cy 5, 2, .inr (.inr (.inr (.inr (va_up (fun _ => none) 0 (some (u6 0)))))))) :: (((((((bX9 cy u1) ++ bX3 cy u2) ++ bX6 cy (u2 0) u3) ++ bX6 cy (u2 0) u4) ++ bX7 cy (u2 0) u5) ++ bX5 cy u6) ++ bX5 cy u7)) H := hPn
  have hD : va_D A ((a, .inr (12, [.ref (u1 0), .ref (u2 0), .ref (u3 0), .ref (u4 0), .ref (u5 0), .ref r, .null, .null, .null, .null, .null, .null, .null, .null, .int 0, .int 0, .int 0])) :: (r, .inl (cy 5, 2, .inr (.inr (.inr (.inr (va_up (fun _ => none) 0 (some (u6 0)))))))) :: (((((((bX9 cy u1) ++ bX3 cy u2) ++ bX6 cy (u2 0) u3) ++ bX6 cy (u2 0) u4) ++ bX7 cy (u2 0) u5) ++ bX5 cy u6) ++ bX5 cy u7)) := hDn
  refine va_astq (pc := 98) hx hb cx.2.2.2.2.2.1 hP hD hS 1 5 (List.length ((((((bX9 cy u1) ++ bX3 cy u2) ++ bX6 cy (u2 0) u3) ++ bX6 cy (u2 0) u4) ++ bX7 cy (u2 0) u5) ++ bX5 cy u6) + 2) 6 (r := (RX5, TX5, 4)) (v := u7 0) rfl rfl (z_get2 (z := (u7 0, .inr (6, [.ref (u7 1), .ref (u7 11), .ref (u7 26), .int 0]))) (X := ((((((bX9 cy u1) ++ bX3 cy u2) ++ bX6 cy (u2 0) u3) ++ bX6 cy (u2 0) u4) ++ bX7 cy (u2 0) u5) ++ bX5 cy u6))) rfl (zIx_in zi_1_2) dX11_init_98 (fun H locs hP hD hS => ?_)
  have hP : va_P D vwCl ((a, .inr (12, [.ref (u1 0), .ref (u2 0), .ref (u3 0), .ref (u4 0), .ref (u5 0), .ref r, .null, .null, .null, .null, .null, .null, .null, .null, .int 0, .int 0, .int 0])) :: (r, .inl (cy 5, 2, .inr (.inr (.inr (.inr (va_up (va_up (fun _ => none) 0 (some (u6 0))) 1 (some (u7 0)))))))) :: (((((((bX9 cy u1) ++ bX3 cy u2) ++ bX6 cy (u2 0) u3) ++ bX6 cy (u2 0) u4) ++ bX7 cy (u2 0) u5) ++ bX5 cy u6) ++ bX5 cy u7)) H := hP
  have hD : va_D A ((a, .inr (12, [.ref (u1 0), .ref (u2 0), .ref (u3 0), .ref (u4 0), .ref (u5 0), .ref r, .null, .null, .null, .null, .null, .null, .null, .null, .int 0, .int 0, .int 0])) :: (r, .inl (cy 5, 2, .inr (.inr (.inr (.inr (va_up (va_up (fun _ => none) 0 (some (u6 0))) 1 (some (u7 0)))))))) :: (((((((bX9 cy u1) ++ bX3 cy u2) ++ bX6 cy (u2 0) u3) ++ bX6 cy (u2 0) u4) ++ bX7 cy (u2 0) u5) ++ bX5 cy u6) ++ bX5 cy u7)) := hD
  refine lv_iinc (v := 2) (lv' := [(1, .int 2), (0, .ref a)]) (pc := 99) hx hb dX11_init_99 hl (k := 0) rfl (by decide) (by decide) rfl (fun ls hl => ?_)
  refine lv_goto (pc := 102) (tgt := 81) hx hb dX11_init_102 (by decide) ?_
  refine lv_iload_n (pc := 81) hx hb dX11_init_81 rfl (lv_at hl 0 rfl) ?_
  refine lv_iconst (pc := 82) hx hb dX11_init_82 zc_2 ?_
  refine lv_icmp_ge (pc := 83) (tgt := 105) hx hb dX11_init_83 (by decide) (fun _ => ?_) (fun c1 => absurd c1 (by decide))
  refine lv_aload_n (pc := 105) hx hb dX11_init_105 rfl (lv_at hl 1 rfl) ?_
  refine zr_new (pc := 106) cx nw_X11_49 (N := 4) rfl hP hD hS hA (Nat.le_of_ble_eq_true rfl) (Nat.le_of_ble_eq_true rfl) dX11_init_106 (fun b8 H hP hD hS => ?_)
  refine lv_dup (pc := 109) hx hb dX11_init_109 rfl ?_
  refine lv_aload_n (pc := 110) hx hb dX11_init_110 rfl (lv_at hl 1 rfl) ?_
  refine zr_gett (pc := 111) cx lk_X11_10 hP 0 (a := a) rfl (v := .ref (u1 0)) rfl dX11_init_111 ?_
  refine zr_ctI (pc := 114) (As := [.ref (u1 0)]) (rest := [.ref b8, .ref a]) cx ci_X11_51 (mX4_init (u1 0) b8 H.size) ⟨Nat.le_of_ble_eq_true rfl, Nat.le_of_ble_eq_true rfl⟩ ⟨Nat.le_of_ble_eq_true rfl, Nat.le_of_ble_eq_true rfl⟩ hE hP hD hS hA hl.1 rfl rfl (Nat.le_of_ble_eq_true rfl) dX11_init_114 (fun u8 H locs hu8 hPn hDn hS => ?_)
  subst hu8
  have hP : va_P D vwCl ((a, .inr (12, [.ref (u1 0), .ref (u2 0), .ref (u3 0), .ref (u4 0), .ref (u5 0), .ref r, .null, .null, .null, .null, .null, .null, .null, .null, .int 0, .int 0, .int 0])) :: (r, .inl (cy 5, 2, .inr (.inr (.inr (.inr (va_up (va_up (fun _ => none) 0 (some (u6 0))) 1 (some (u7 0)))))))) :: ((((((((bX9 cy u1) ++ bX3 cy u2) ++ bX6 cy (u2 0) u3) ++ bX6 cy (u2 0) u4) ++ bX7 cy (u2 0) u5) ++ bX5 cy u6) ++ bX5 cy u7) ++ bX4 cy (u1 0) u8)) H := hPn
  have hD : va_D A ((a, .inr (12, [.ref (u1 0), .ref (u2 0), .ref (u3 0), .ref (u4 0), .ref (u5 0), .ref r, .null, .null, .null, .null, .null, .null, .null, .null, .int 0, .int 0, .int 0])) :: (r, .inl (cy 5, 2, .inr (.inr (.inr (.inr (va_up (va_up (fun _ => none) 0 (some (u6 0))) 1 (some (u7 0)))))))) :: ((((((((bX9 cy u1) ++ bX3 cy u2) ++ bX6 cy (u2 0) u3) ++ bX6 cy (u2 0) u4) ++ bX7 cy (u2 0) u5) ++ bX5 cy u6) ++ bX5 cy u7) ++ bX4 cy (u1 0) u8)) := hDn
  refine zr_putF (pc := 117) cx lf_X11_54 hin hP hD hS 0 (a := a) rfl (v := .ref (u8 0)) rfl rfl (Nat.le_of_ble_eq_true rfl) dX11_init_117 (fun H locs hP hD hS => ?_)
  have hP : va_P D vwCl ((a, .inr (12, [.ref (u1 0), .ref (u2 0), .ref (u3 0), .ref (u4 0), .ref (u5 0), .ref r, .ref (u8 0), .null, .null, .null, .null, .null, .null, .null, .int 0, .int 0, .int 0])) :: (r, .inl (cy 5, 2, .inr (.inr (.inr (.inr (va_up (va_up (fun _ => none) 0 (some (u6 0))) 1 (some (u7 0)))))))) :: ((((((((bX9 cy u1) ++ bX3 cy u2) ++ bX6 cy (u2 0) u3) ++ bX6 cy (u2 0) u4) ++ bX7 cy (u2 0) u5) ++ bX5 cy u6) ++ bX5 cy u7) ++ bX4 cy (u1 0) u8)) H := hP
  have hD : va_D A ((a, .inr (12, [.ref (u1 0), .ref (u2 0), .ref (u3 0), .ref (u4 0), .ref (u5 0), .ref r, .ref (u8 0), .null, .null, .null, .null, .null, .null, .null, .int 0, .int 0, .int 0])) :: (r, .inl (cy 5, 2, .inr (.inr (.inr (.inr (va_up (va_up (fun _ => none) 0 (some (u6 0))) 1 (some (u7 0)))))))) :: ((((((((bX9 cy u1) ++ bX3 cy u2) ++ bX6 cy (u2 0) u3) ++ bX6 cy (u2 0) u4) ++ bX7 cy (u2 0) u5) ++ bX5 cy u6) ++ bX5 cy u7) ++ bX4 cy (u1 0) u8)) := hD
  refine lv_aload_n (pc := 120) hx hb dX11_init_120 rfl (lv_at hl 1 rfl) ?_
  refine zr_new (pc := 121) cx nw_X11_58 (N := 11) rfl hP hD hS hA (Nat.le_of_ble_eq_true rfl) (Nat.le_of_ble_eq_true rfl) dX11_init_121 (fun b9 H hP hD hS => ?_)
  refine lv_dup (pc := 124) hx hb dX11_init_124 rfl ?_
  refine lv_aload_n (pc := 125) hx hb dX11_init_125 rfl (lv_at hl 1 rfl) ?_
  refine zr_gett (pc := 126) cx lk_X11_10 hP 0 (a := a) rfl (v := .ref (u1 0)) rfl dX11_init_126 ?_
  refine lv_aload_n (pc := 129) hx hb dX11_init_129 rfl (lv_at hl 1 rfl) ?_
  refine zr_gett (pc := 130) cx lk_X11_19 hP 0 (a := a) rfl (v := .ref (u2 0)) rfl dX11_init_130 ?_
  refine zr_ctI (pc := 133) (As := [.ref (u1 0), .ref (u2 0)]) (rest := [.ref b9, .ref a]) cx ci_X11_60 (mX0_init (u1 0) (u2 0) b9 H.size) ⟨Nat.le_of_ble_eq_true rfl, Nat.le_of_ble_eq_true rfl⟩ ⟨Nat.le_of_ble_eq_true rfl, Nat.le_of_ble_eq_true rfl⟩ hE hP hD hS hA hl.1 rfl rfl (Nat.le_of_ble_eq_true rfl) dX11_init_133 (fun u9 H locs hu9 hPn hDn hS => ?_)
  subst hu9
  have hP : va_P D vwCl ((a, .inr (12, [.ref (u1 0), .ref (u2 0), .ref (u3 0), .ref (u4 0), .ref (u5 0), .ref r, .ref (u8 0), .null, .null, .null, .null, .null, .null, .null, .int 0, .int 0, .int 0])) :: (r, .inl (cy 5, 2, .inr (.inr (.inr (.inr (va_up (va_up (fun _ => none) 0 (some (u6 0))) 1 (some (u7 0)))))))) :: (((((((((bX9 cy u1) ++ bX3 cy u2) ++ bX6 cy (u2 0) u3) ++ bX6 cy (u2 0) u4) ++ bX7 cy (u2 0) u5) ++ bX5 cy u6) ++ bX5 cy u7) ++ bX4 cy (u1 0) u8) ++ bX0 cy (u1 0) (u2 0) u9)) H := hPn
  have hD : va_D A ((a, .inr (12, [.ref (u1 0), .ref (u2 0), .ref (u3 0), .ref (u4 0), .ref (u5 0), .ref r, .ref (u8 0), .null, .null, .null, .null, .null, .null, .null, .int 0, .int 0, .int 0])) :: (r, .inl (cy 5, 2, .inr (.inr (.inr (.inr (va_up (va_up (fun _ => none) 0 (some (u6 0))) 1 (some (u7 0)))))))) :: (((((((((bX9 cy u1) ++ bX3 cy u2) ++ bX6 cy (u2 0) u3) ++ bX6 cy (u2 0) u4) ++ bX7 cy (u2 0) u5) ++ bX5 cy u6) ++ bX5 cy u7) ++ bX4 cy (u1 0) u8) ++ bX0 cy (u1 0) (u2 0) u9)) := hDn
  refine zr_putF (pc := 136) cx lf_X11_63 hin hP hD hS 0 (a := a) rfl (v := .ref (u9 0)) rfl rfl (Nat.le_of_ble_eq_true rfl) dX11_init_136 (fun H locs hP hD hS => ?_)
  have hP : va_P D vwCl ((a, .inr (12, [.ref (u1 0), .ref (u2 0), .ref (u3 0), .ref (u4 0), .ref (u5 0), .ref r, .ref (u8 0), .ref (u9 0), .null, .null, .null, .null, .null, .null, .int 0, .int 0, .int 0])) :: (r, .inl (cy 5, 2, .inr (.inr (.inr (.inr (va_up (va_up (fun _ => none) 0 (some (u6 0))) 1 (some (u7 0)))))))) :: (((((((((bX9 cy u1) ++ bX3 cy u2) ++ bX6 cy (u2 0) u3) ++ bX6 cy (u2 0) u4) ++ bX7 cy (u2 0) u5) ++ bX5 cy u6) ++ bX5 cy u7) ++ bX4 cy (u1 0) u8) ++ bX0 cy (u1 0) (u2 0) u9)) H := hP
  have hD : va_D A ((a, .inr (12, [.ref (u1 0), .ref (u2 0), .ref (u3 0), .ref (u4 0), .ref (u5 0), .ref r, .ref (u8 0), .ref (u9 0), .null, .null, .null, .null, .null, .null, .int 0, .int 0, .int 0])) :: (r, .inl (cy 5, 2, .inr (.inr (.inr (.inr (va_up (va_up (fun _ => none) 0 (some (u6 0))) 1 (some (u7 0)))))))) :: (((((((((bX9 cy u1) ++ bX3 cy u2) ++ bX6 cy (u2 0) u3) ++ bX6 cy (u2 0) u4) ++ bX7 cy (u2 0) u5) ++ bX5 cy u6) ++ bX5 cy u7) ++ bX4 cy (u1 0) u8) ++ bX0 cy (u1 0) (u2 0) u9)) := hD
  refine lv_aload_n (pc := 139) hx hb dX11_init_139 rfl (lv_at hl 1 rfl) ?_
  refine zr_new (pc := 140) cx nw_X11_67 (N := 6) rfl hP hD hS hA (Nat.le_of_ble_eq_true rfl) (Nat.le_of_ble_eq_true rfl) dX11_init_140 (fun b10 H hP hD hS => ?_)
  refine lv_dup (pc := 143) hx hb dX11_init_143 rfl ?_
  refine zr_ctN (pc := 144) (As := []) (rest := [.ref b10, .ref a]) cx cj_X11_69 (mX8_init b10 H.size) ⟨Nat.le_of_ble_eq_true rfl, Nat.le_of_ble_eq_true rfl⟩ ⟨Nat.le_of_ble_eq_true rfl, Nat.le_of_ble_eq_true rfl⟩ hE hP hD hS hA hl.1 rfl rfl (Nat.le_of_ble_eq_true rfl) dX11_init_144 (fun u10 H locs hu10 hPn hDn hS => ?_)
  subst hu10
  have hP : va_P D vwCl ((a, .inr (12, [.ref (u1 0), .ref (u2 0), .ref (u3 0), .ref (u4 0), .ref (u5 0), .ref r, .ref (u8 0), .ref (u9 0), .null, .null, .null, .null, .null, .null, .int 0, .int 0, .int 0])) :: (r, .inl (cy 5, 2, .inr (.inr (.inr (.inr (va_up (va_up (fun _ => none) 0 (some (u6 0))) 1 (some (u7 0)))))))) :: ((((((((((bX9 cy u1) ++ bX3 cy u2) ++ bX6 cy (u2 0) u3) ++ bX6 cy (u2 0) u4) ++ bX7 cy (u2 0) u5) ++ bX5 cy u6) ++ bX5 cy u7) ++ bX4 cy (u1 0) u8) ++ bX0 cy (u1 0) (u2 0) u9) ++ bX8 cy u10)) H := hPn
  have hD : va_D A ((a, .inr (12, [.ref (u1 0), .ref (u2 0), .ref (u3 0), .ref (u4 0), .ref (u5 0), .ref r, .ref (u8 0), .ref (u9 0), .null, .null, .null, .null, .null, .null, .int 0, .int 0, .int 0])) :: (r, .inl (cy 5, 2, .inr (.inr (.inr (.inr (va_up (va_up (fun _ => none) 0 (some (u6 0))) 1 (some (u7 0)))))))) :: ((((((((((bX9 cy u1) ++ bX3 cy u2) ++ bX6 cy (u2 0) u3) ++ bX6 cy (u2 0) u4) ++ bX7 cy (u2 0) u5) ++ bX5 cy u6) ++ bX5 cy u7) ++ bX4 cy (u1 0) u8) ++ bX0 cy (u1 0) (u2 0) u9) ++ bX8 cy u10)) := hDn
  refine zr_putF (pc := 147) cx lf_X11_70 hin hP hD hS 0 (a := a) rfl (v := .ref (u10 0)) rfl rfl (Nat.le_of_ble_eq_true rfl) dX11_init_147 (fun H locs hP hD hS => ?_)
  have hP : va_P D vwCl ((a, .inr (12, [.ref (u1 0), .ref (u2 0), .ref (u3 0), .ref (u4 0), .ref (u5 0), .ref r, .ref (u8 0), .ref (u9 0), .ref (u10 0), .null, .null, .null, .null, .null, .int 0, .int 0, .int 0])) :: (r, .inl (cy 5, 2, .inr (.inr (.inr (.inr (va_up (va_up (fun _ => none) 0 (some (u6 0))) 1 (some (u7 0)))))))) :: ((((((((((bX9 cy u1) ++ bX3 cy u2) ++ bX6 cy (u2 0) u3) ++ bX6 cy (u2 0) u4) ++ bX7 cy (u2 0) u5) ++ bX5 cy u6) ++ bX5 cy u7) ++ bX4 cy (u1 0) u8) ++ bX0 cy (u1 0) (u2 0) u9) ++ bX8 cy u10)) H := hP
  have hD : va_D A ((a, .inr (12, [.ref (u1 0), .ref (u2 0), .ref (u3 0), .ref (u4 0), .ref (u5 0), .ref r, .ref (u8 0), .ref (u9 0), .ref (u10 0), .null, .null, .null, .null, .null, .int 0, .int 0, .int 0])) :: (r, .inl (cy 5, 2, .inr (.inr (.inr (.inr (va_up (va_up (fun _ => none) 0 (some (u6 0))) 1 (some (u7 0)))))))) :: ((((((((((bX9 cy u1) ++ bX3 cy u2) ++ bX6 cy (u2 0) u3) ++ bX6 cy (u2 0) u4) ++ bX7 cy (u2 0) u5) ++ bX5 cy u6) ++ bX5 cy u7) ++ bX4 cy (u1 0) u8) ++ bX0 cy (u1 0) (u2 0) u9) ++ bX8 cy u10)) := hD
  refine lv_aload_n (pc := 150) hx hb dX11_init_150 rfl (lv_at hl 1 rfl) ?_
  refine zr_new (pc := 151) cx nw_X11_67 (N := 6) rfl hP hD hS hA (Nat.le_of_ble_eq_true rfl) (Nat.le_of_ble_eq_true rfl) dX11_init_151 (fun b11 H hP hD hS => ?_)
  refine lv_dup (pc := 154) hx hb dX11_init_154 rfl ?_
  refine zr_ctN (pc := 155) (As := []) (rest := [.ref b11, .ref a]) cx cj_X11_69 (mX8_init b11 H.size) ⟨Nat.le_of_ble_eq_true rfl, Nat.le_of_ble_eq_true rfl⟩ ⟨Nat.le_of_ble_eq_true rfl, Nat.le_of_ble_eq_true rfl⟩ hE hP hD hS hA hl.1 rfl rfl (Nat.le_of_ble_eq_true rfl) dX11_init_155 (fun u11 H locs hu11 hPn hDn hS => ?_)
  subst hu11
  have hP : va_P D vwCl ((a, .inr (12, [.ref (u1 0), .ref (u2 0), .ref (u3 0), .ref (u4 0), .ref (u5 0), .ref r, .ref (u8 0), .ref (u9 0), .ref (u10 0), .null, .null, .null, .null, .null, .int 0, .int 0, .int 0])) :: (r, .inl (cy 5, 2, .inr (.inr (.inr (.inr (va_up (va_up (fun _ => none) 0 (some (u6 0))) 1 (some (u7 0)))))))) :: (((((((((((bX9 cy u1) ++ bX3 cy u2) ++ bX6 cy (u2 0) u3) ++ bX6 cy (u2 0) u4) ++ bX7 cy (u2 0) u5) ++ bX5 cy u6) ++ bX5 cy u7) ++ bX4 cy (u1 0) u8) ++ bX0 cy (u1 0) (u2 0) u9) ++ bX8 cy u10) ++ bX8 cy u11)) H := hPn
  have hD : va_D A ((a, .inr (12, [.ref (u1 0), .ref (u2 0), .ref (u3 0), .ref (u4 0), .ref (u5 0), .ref r, .ref (u8 0), .ref (u9 0), .ref (u10 0), .null, .null, .null, .null, .null, .int 0, .int 0, .int 0])) :: (r, .inl (cy 5, 2, .inr (.inr (.inr (.inr (va_up (va_up (fun _ => none) 0 (some (u6 0))) 1 (some (u7 0)))))))) :: (((((((((((bX9 cy u1) ++ bX3 cy u2) ++ bX6 cy (u2 0) u3) ++ bX6 cy (u2 0) u4) ++ bX7 cy (u2 0) u5) ++ bX5 cy u6) ++ bX5 cy u7) ++ bX4 cy (u1 0) u8) ++ bX0 cy (u1 0) (u2 0) u9) ++ bX8 cy u10) ++ bX8 cy u11)) := hDn
  refine zr_putF (pc := 158) cx lf_X11_74 hin hP hD hS 0 (a := a) rfl (v := .ref (u11 0)) rfl rfl (Nat.le_of_ble_eq_true rfl) dX11_init_158 (fun H locs hP hD hS => ?_)
  have hP : va_P D vwCl ((a, .inr (12, [.ref (u1 0), .ref (u2 0), .ref (u3 0), .ref (u4 0), .ref (u5 0), .ref r, .ref (u8 0), .ref (u9 0), .ref (u10 0), .ref (u11 0), .null, .null, .null, .null, .int 0, .int 0, .int 0])) :: (r, .inl (cy 5, 2, .inr (.inr (.inr (.inr (va_up (va_up (fun _ => none) 0 (some (u6 0))) 1 (some (u7 0)))))))) :: (((((((((((bX9 cy u1) ++ bX3 cy u2) ++ bX6 cy (u2 0) u3) ++ bX6 cy (u2 0) u4) ++ bX7 cy (u2 0) u5) ++ bX5 cy u6) ++ bX5 cy u7) ++ bX4 cy (u1 0) u8) ++ bX0 cy (u1 0) (u2 0) u9) ++ bX8 cy u10) ++ bX8 cy u11)) H := hP
  have hD : va_D A ((a, .inr (12, [.ref (u1 0), .ref (u2 0), .ref (u3 0), .ref (u4 0), .ref (u5 0), .ref r, .ref (u8 0), .ref (u9 0), .ref (u10 0), .ref (u11 0), .null, .null, .null, .null, .int 0, .int 0, .int 0])) :: (r, .inl (cy 5, 2, .inr (.inr (.inr (.inr (va_up (va_up (fun _ => none) 0 (some (u6 0))) 1 (some (u7 0)))))))) :: (((((((((((bX9 cy u1) ++ bX3 cy u2) ++ bX6 cy (u2 0) u3) ++ bX6 cy (u2 0) u4) ++ bX7 cy (u2 0) u5) ++ bX5 cy u6) ++ bX5 cy u7) ++ bX4 cy (u1 0) u8) ++ bX0 cy (u1 0) (u2 0) u9) ++ bX8 cy u10) ++ bX8 cy u11)) := hD
  refine lv_aload_n (pc := 161) hx hb dX11_init_161 rfl (lv_at hl 1 rfl) ?_
  refine zr_new (pc := 162) cx nw_X11_77 (N := 5) rfl hP hD hS hA (Nat.le_of_ble_eq_true rfl) (Nat.le_of_ble_eq_true rfl) dX11_init_162 (fun b12 H hP hD hS => ?_)
  refine lv_dup (pc := 165) hx hb dX11_init_165 rfl ?_
  refine lv_aload_n (pc := 166) hx hb dX11_init_166 rfl (lv_at hl 1 rfl) ?_
  refine zr_gett (pc := 167) cx lk_X11_19 hP 0 (a := a) rfl (v := .ref (u2 0)) rfl dX11_init_167 ?_
  refine lv_aload_n (pc := 170) hx hb dX11_init_170 rfl (lv_at hl 1 rfl) ?_
  refine zr_gett (pc := 171) cx lk_X11_28 hP 0 (a := a) rfl (v := .ref (u3 0)) rfl dX11_init_171 ?_
  refine zr_ctI (pc := 174) (As := [.ref (u2 0), .ref (u3 0)]) (rest := [.ref b12, .ref a]) cx ci_X11_79 (mX2_init (u2 0) (u3 0) b12 H.size) ⟨Nat.le_of_ble_eq_true rfl, Nat.le_of_ble_eq_true rfl⟩ ⟨Nat.le_of_ble_eq_true rfl, Nat.le_of_ble_eq_true rfl⟩ hE hP hD hS hA hl.1 rfl rfl (Nat.le_of_ble_eq_true rfl) dX11_init_174 (fun u12 H locs hu12 hPn hDn hS => ?_)
  subst hu12
  have hP : va_P D vwCl ((a, .inr (12, [.ref (u1 0), .ref (u2 0), .ref (u3 0), .ref (u4 0), .ref (u5 0), .ref r, .ref (u8 0), .ref (u9 0), .ref (u10 0), .ref (u11 0), .null, .null, .null, .null, .int 0, .int 0, .int 0])) :: (r, .inl (cy 5, 2, .inr (.inr (.inr (.inr (va_up (va_up (fun _ => none) 0 (some (u6 0))) 1 (some (u7 0)))))))) :: ((((((((((((bX9 cy u1) ++ bX3 cy u2) ++ bX6 cy (u2 0) u3) ++ bX6 cy (u2 0) u4) ++ bX7 cy (u2 0) u5) ++ bX5 cy u6) ++ bX5 cy u7) ++ bX4 cy (u1 0) u8) ++ bX0 cy (u1 0) (u2 0) u9) ++ bX8 cy u10) ++ bX8 cy u11) ++ bX2 cy (u2 0) (u3 0) u12)) H := hPn
  have hD : va_D A ((a, .inr (12, [.ref (u1 0), .ref (u2 0), .ref (u3 0), .ref (u4 0), .ref (u5 0), .ref r, .ref (u8 0), .ref (u9 0), .ref (u10 0), .ref (u11 0), .null, .null, .null, .null, .int 0, .int 0, .int 0])) :: (r, .inl (cy 5, 2, .inr (.inr (.inr (.inr (va_up (va_up (fun _ => none) 0 (some (u6 0))) 1 (some (u7 0)))))))) :: ((((((((((((bX9 cy u1) ++ bX3 cy u2) ++ bX6 cy (u2 0) u3) ++ bX6 cy (u2 0) u4) ++ bX7 cy (u2 0) u5) ++ bX5 cy u6) ++ bX5 cy u7) ++ bX4 cy (u1 0) u8) ++ bX0 cy (u1 0) (u2 0) u9) ++ bX8 cy u10) ++ bX8 cy u11) ++ bX2 cy (u2 0) (u3 0) u12)) := hDn
  refine zr_putF (pc := 177) cx lf_X11_82 hin hP hD hS 0 (a := a) rfl (v := .ref (u12 0)) rfl rfl (Nat.le_of_ble_eq_true rfl) dX11_init_177 (fun H locs hP hD hS => ?_)
  have hP : va_P D vwCl ((a, .inr (12, [.ref (u1 0), .ref (u2 0), .ref (u3 0), .ref (u4 0), .ref (u5 0), .ref r, .ref (u8 0), .ref (u9 0), .ref (u10 0), .ref (u11 0), .ref (u12 0), .null, .null, .null, .int 0, .int 0, .int 0])) :: (r, .inl (cy 5, 2, .inr (.inr (.inr (.inr (va_up (va_up (fun _ => none) 0 (some (u6 0))) 1 (some (u7 0)))))))) :: ((((((((((((bX9 cy u1) ++ bX3 cy u2) ++ bX6 cy (u2 0) u3) ++ bX6 cy (u2 0) u4) ++ bX7 cy (u2 0) u5) ++ bX5 cy u6) ++ bX5 cy u7) ++ bX4 cy (u1 0) u8) ++ bX0 cy (u1 0) (u2 0) u9) ++ bX8 cy u10) ++ bX8 cy u11) ++ bX2 cy (u2 0) (u3 0) u12)) H := hP
  have hD : va_D A ((a, .inr (12, [.ref (u1 0), .ref (u2 0), .ref (u3 0), .ref (u4 0), .ref (u5 0), .ref r, .ref (u8 0), .ref (u9 0), .ref (u10 0), .ref (u11 0), .ref (u12 0), .null, .null, .null, .int 0, .int 0, .int 0])) :: (r, .inl (cy 5, 2, .inr (.inr (.inr (.inr (va_up (va_up (fun _ => none) 0 (some (u6 0))) 1 (some (u7 0)))))))) :: ((((((((((((bX9 cy u1) ++ bX3 cy u2) ++ bX6 cy (u2 0) u3) ++ bX6 cy (u2 0) u4) ++ bX7 cy (u2 0) u5) ++ bX5 cy u6) ++ bX5 cy u7) ++ bX4 cy (u1 0) u8) ++ bX0 cy (u1 0) (u2 0) u9) ++ bX8 cy u10) ++ bX8 cy u11) ++ bX2 cy (u2 0) (u3 0) u12)) := hD
  refine lv_aload_n (pc := 180) hx hb dX11_init_180 rfl (lv_at hl 1 rfl) ?_
  refine zr_new (pc := 181) cx nw_X11_86 (N := 5) rfl hP hD hS hA (Nat.le_of_ble_eq_true rfl) (Nat.le_of_ble_eq_true rfl) dX11_init_181 (fun b13 H hP hD hS => ?_)
  refine lv_dup (pc := 184) hx hb dX11_init_184 rfl ?_
  refine zr_ctN (pc := 185) (As := []) (rest := [.ref b13, .ref a]) cx cj_X11_88 (mX10_init b13 H.size) ⟨Nat.le_of_ble_eq_true rfl, Nat.le_of_ble_eq_true rfl⟩ ⟨Nat.le_of_ble_eq_true rfl, Nat.le_of_ble_eq_true rfl⟩ hE hP hD hS hA hl.1 rfl rfl (Nat.le_of_ble_eq_true rfl) dX11_init_185 (fun u13 H locs hu13 hPn hDn hS => ?_)
  subst hu13
  have hP : va_P D vwCl ((a, .inr (12, [.ref (u1 0), .ref (u2 0), .ref (u3 0), .ref (u4 0), .ref (u5 0), .ref r, .ref (u8 0), .ref (u9 0), .ref (u10 0), .ref (u11 0), .ref (u12 0), .null, .null, .null, .int 0, .int 0, .int 0])) :: (r, .inl (cy 5, 2, .inr (.inr (.inr (.inr (va_up (va_up (fun _ => none) 0 (some (u6 0))) 1 (some (u7 0)))))))) :: (((((((((((((bX9 cy u1) ++ bX3 cy u2) ++ bX6 cy (u2 0) u3) ++ bX6 cy (u2 0) u4) ++ bX7 cy (u2 0) u5) ++ bX5 cy u6) ++ bX5 cy u7) ++ bX4 cy (u1 0) u8) ++ bX0 cy (u1 0) (u2 0) u9) ++ bX8 cy u10) ++ bX8 cy u11) ++ bX2 cy (u2 0) (u3 0) u12) ++ bX10 cy u13)) H := hPn
  have hD : va_D A ((a, .inr (12, [.ref (u1 0), .ref (u2 0), .ref (u3 0), .ref (u4 0), .ref (u5 0), .ref r, .ref (u8 0), .ref (u9 0), .ref (u10 0), .ref (u11 0), .ref (u12 0), .null, .null, .null, .int 0, .int 0, .int 0])) :: (r, .inl (cy 5, 2, .inr (.inr (.inr (.inr (va_up (va_up (fun _ => none) 0 (some (u6 0))) 1 (some (u7 0)))))))) :: (((((((((((((bX9 cy u1) ++ bX3 cy u2) ++ bX6 cy (u2 0) u3) ++ bX6 cy (u2 0) u4) ++ bX7 cy (u2 0) u5) ++ bX5 cy u6) ++ bX5 cy u7) ++ bX4 cy (u1 0) u8) ++ bX0 cy (u1 0) (u2 0) u9) ++ bX8 cy u10) ++ bX8 cy u11) ++ bX2 cy (u2 0) (u3 0) u12) ++ bX10 cy u13)) := hDn
  refine zr_putF (pc := 188) cx lf_X11_89 hin hP hD hS 0 (a := a) rfl (v := .ref (u13 0)) rfl rfl (Nat.le_of_ble_eq_true rfl) dX11_init_188 (fun H locs hP hD hS => ?_)
  have hP : va_P D vwCl ((a, .inr (12, [.ref (u1 0), .ref (u2 0), .ref (u3 0), .ref (u4 0), .ref (u5 0), .ref r, .ref (u8 0), .ref (u9 0), .ref (u10 0), .ref (u11 0), .ref (u12 0), .ref (u13 0), .null, .null, .int 0, .int 0, .int 0])) :: (r, .inl (cy 5, 2, .inr (.inr (.inr (.inr (va_up (va_up (fun _ => none) 0 (some (u6 0))) 1 (some (u7 0)))))))) :: (((((((((((((bX9 cy u1) ++ bX3 cy u2) ++ bX6 cy (u2 0) u3) ++ bX6 cy (u2 0) u4) ++ bX7 cy (u2 0) u5) ++ bX5 cy u6) ++ bX5 cy u7) ++ bX4 cy (u1 0) u8) ++ bX0 cy (u1 0) (u2 0) u9) ++ bX8 cy u10) ++ bX8 cy u11) ++ bX2 cy (u2 0) (u3 0) u12) ++ bX10 cy u13)) H := hP
  have hD : va_D A ((a, .inr (12, [.ref (u1 0), .ref (u2 0), .ref (u3 0), .ref (u4 0), .ref (u5 0), .ref r, .ref (u8 0), .ref (u9 0), .ref (u10 0), .ref (u11 0), .ref (u12 0), .ref (u13 0), .null, .null, .int 0, .int 0, .int 0])) :: (r, .inl (cy 5, 2, .inr (.inr (.inr (.inr (va_up (va_up (fun _ => none) 0 (some (u6 0))) 1 (some (u7 0)))))))) :: (((((((((((((bX9 cy u1) ++ bX3 cy u2) ++ bX6 cy (u2 0) u3) ++ bX6 cy (u2 0) u4) ++ bX7 cy (u2 0) u5) ++ bX5 cy u6) ++ bX5 cy u7) ++ bX4 cy (u1 0) u8) ++ bX0 cy (u1 0) (u2 0) u9) ++ bX8 cy u10) ++ bX8 cy u11) ++ bX2 cy (u2 0) (u3 0) u12) ++ bX10 cy u13)) := hD
  refine lv_aload_n (pc := 191) hx hb dX11_init_191 rfl (lv_at hl 1 rfl) ?_
  refine zr_new (pc := 192) cx nw_X11_93 (N := 1) rfl hP hD hS hA (Nat.le_of_ble_eq_true rfl) (Nat.le_of_ble_eq_true rfl) dX11_init_192 (fun b14 H hP hD hS => ?_)
  refine lv_dup (pc := 195) hx hb dX11_init_195 rfl ?_
  refine zr_ctN (pc := 196) (As := []) (rest := [.ref b14, .ref a]) cx cj_X11_95 (mX1_init b14 H.size) ⟨Nat.le_of_ble_eq_true rfl, Nat.le_of_ble_eq_true rfl⟩ ⟨Nat.le_of_ble_eq_true rfl, Nat.le_of_ble_eq_true rfl⟩ hE hP hD hS hA hl.1 rfl rfl (Nat.le_of_ble_eq_true rfl) dX11_init_196 (fun u14 H locs hu14 hPn hDn hS => ?_)
  subst hu14
  have hP : va_P D vwCl ((a, .inr (12, [.ref (u1 0), .ref (u2 0), .ref (u3 0), .ref (u4 0), .ref (u5 0), .ref r, .ref (u8 0), .ref (u9 0), .ref (u10 0), .ref (u11 0), .ref (u12 0), .ref (u13 0), .null, .null, .int 0, .int 0, .int 0])) :: (r, .inl (cy 5, 2, .inr (.inr (.inr (.inr (va_up (va_up (fun _ => none) 0 (some (u6 0))) 1 (some (u7 0)))))))) :: ((((((((((((((bX9 cy u1) ++ bX3 cy u2) ++ bX6 cy (u2 0) u3) ++ bX6 cy (u2 0) u4) ++ bX7 cy (u2 0) u5) ++ bX5 cy u6) ++ bX5 cy u7) ++ bX4 cy (u1 0) u8) ++ bX0 cy (u1 0) (u2 0) u9) ++ bX8 cy u10) ++ bX8 cy u11) ++ bX2 cy (u2 0) (u3 0) u12) ++ bX10 cy u13) ++ bX1 cy u14)) H := hPn
  have hD : va_D A ((a, .inr (12, [.ref (u1 0), .ref (u2 0), .ref (u3 0), .ref (u4 0), .ref (u5 0), .ref r, .ref (u8 0), .ref (u9 0), .ref (u10 0), .ref (u11 0), .ref (u12 0), .ref (u13 0), .null, .null, .int 0, .int 0, .int 0])) :: (r, .inl (cy 5, 2, .inr (.inr (.inr (.inr (va_up (va_up (fun _ => none) 0 (some (u6 0))) 1 (some (u7 0)))))))) :: ((((((((((((((bX9 cy u1) ++ bX3 cy u2) ++ bX6 cy (u2 0) u3) ++ bX6 cy (u2 0) u4) ++ bX7 cy (u2 0) u5) ++ bX5 cy u6) ++ bX5 cy u7) ++ bX4 cy (u1 0) u8) ++ bX0 cy (u1 0) (u2 0) u9) ++ bX8 cy u10) ++ bX8 cy u11) ++ bX2 cy (u2 0) (u3 0) u12) ++ bX10 cy u13) ++ bX1 cy u14)) := hDn
  refine zr_putF (pc := 199) cx lf_X11_96 hin hP hD hS 0 (a := a) rfl (v := .ref (u14 0)) rfl rfl (Nat.le_of_ble_eq_true rfl) dX11_init_199 (fun H locs hP hD hS => ?_)
  have hP : va_P D vwCl ((a, .inr (12, [.ref (u1 0), .ref (u2 0), .ref (u3 0), .ref (u4 0), .ref (u5 0), .ref r, .ref (u8 0), .ref (u9 0), .ref (u10 0), .ref (u11 0), .ref (u12 0), .ref (u13 0), .ref (u14 0), .null, .int 0, .int 0, .int 0])) :: (r, .inl (cy 5, 2, .inr (.inr (.inr (.inr (va_up (va_up (fun _ => none) 0 (some (u6 0))) 1 (some (u7 0)))))))) :: ((((((((((((((bX9 cy u1) ++ bX3 cy u2) ++ bX6 cy (u2 0) u3) ++ bX6 cy (u2 0) u4) ++ bX7 cy (u2 0) u5) ++ bX5 cy u6) ++ bX5 cy u7) ++ bX4 cy (u1 0) u8) ++ bX0 cy (u1 0) (u2 0) u9) ++ bX8 cy u10) ++ bX8 cy u11) ++ bX2 cy (u2 0) (u3 0) u12) ++ bX10 cy u13) ++ bX1 cy u14)) H := hP
  have hD : va_D A ((a, .inr (12, [.ref (u1 0), .ref (u2 0), .ref (u3 0), .ref (u4 0), .ref (u5 0), .ref r, .ref (u8 0), .ref (u9 0), .ref (u10 0), .ref (u11 0), .ref (u12 0), .ref (u13 0), .ref (u14 0), .null, .int 0, .int 0, .int 0])) :: (r, .inl (cy 5, 2, .inr (.inr (.inr (.inr (va_up (va_up (fun _ => none) 0 (some (u6 0))) 1 (some (u7 0)))))))) :: ((((((((((((((bX9 cy u1) ++ bX3 cy u2) ++ bX6 cy (u2 0) u3) ++ bX6 cy (u2 0) u4) ++ bX7 cy (u2 0) u5) ++ bX5 cy u6) ++ bX5 cy u7) ++ bX4 cy (u1 0) u8) ++ bX0 cy (u1 0) (u2 0) u9) ++ bX8 cy u10) ++ bX8 cy u11) ++ bX2 cy (u2 0) (u3 0) u12) ++ bX10 cy u13) ++ bX1 cy u14)) := hD
  refine lv_aload_n (pc := 202) hx hb dX11_init_202 rfl (lv_at hl 1 rfl) ?_
  refine zr_new (pc := 203) cx nw_X11_100 (N := 4) rfl hP hD hS hA (Nat.le_of_ble_eq_true rfl) (Nat.le_of_ble_eq_true rfl) dX11_init_203 (fun b15 H hP hD hS => ?_)
  refine lv_dup (pc := 206) hx hb dX11_init_206 rfl ?_
  refine zr_ctI (pc := 207) (As := []) (rest := [.ref b15, .ref a]) cx ci_X11_102 (mJ4_init_da8c8 b15 H.size) ⟨Nat.le_of_ble_eq_true rfl, Nat.le_of_ble_eq_true rfl⟩ ⟨Nat.le_of_ble_eq_true rfl, Nat.le_of_ble_eq_true rfl⟩ hE hP hD hS hA hl.1 rfl rfl (Nat.le_of_ble_eq_true rfl) dX11_init_207 (fun u15 H locs hu15 hPn hDn hS => ?_)
  subst hu15
  have hP : va_P D vwCl ((a, .inr (12, [.ref (u1 0), .ref (u2 0), .ref (u3 0), .ref (u4 0), .ref (u5 0), .ref r, .ref (u8 0), .ref (u9 0), .ref (u10 0), .ref (u11 0), .ref (u12 0), .ref (u13 0), .ref (u14 0), .null, .int 0, .int 0, .int 0])) :: (r, .inl (cy 5, 2, .inr (.inr (.inr (.inr (va_up (va_up (fun _ => none) 0 (some (u6 0))) 1 (some (u7 0)))))))) :: (((((((((((((((bX9 cy u1) ++ bX3 cy u2) ++ bX6 cy (u2 0) u3) ++ bX6 cy (u2 0) u4) ++ bX7 cy (u2 0) u5) ++ bX5 cy u6) ++ bX5 cy u7) ++ bX4 cy (u1 0) u8) ++ bX0 cy (u1 0) (u2 0) u9) ++ bX8 cy u10) ++ bX8 cy u11) ++ bX2 cy (u2 0) (u3 0) u12) ++ bX10 cy u13) ++ bX1 cy u14) ++ bJ4 cy 16 0 0 (fun _ => 0) u15)) H := hPn
  have hD : va_D A ((a, .inr (12, [.ref (u1 0), .ref (u2 0), .ref (u3 0), .ref (u4 0), .ref (u5 0), .ref r, .ref (u8 0), .ref (u9 0), .ref (u10 0), .ref (u11 0), .ref (u12 0), .ref (u13 0), .ref (u14 0), .null, .int 0, .int 0, .int 0])) :: (r, .inl (cy 5, 2, .inr (.inr (.inr (.inr (va_up (va_up (fun _ => none) 0 (some (u6 0))) 1 (some (u7 0)))))))) :: (((((((((((((((bX9 cy u1) ++ bX3 cy u2) ++ bX6 cy (u2 0) u3) ++ bX6 cy (u2 0) u4) ++ bX7 cy (u2 0) u5) ++ bX5 cy u6) ++ bX5 cy u7) ++ bX4 cy (u1 0) u8) ++ bX0 cy (u1 0) (u2 0) u9) ++ bX8 cy u10) ++ bX8 cy u11) ++ bX2 cy (u2 0) (u3 0) u12) ++ bX10 cy u13) ++ bX1 cy u14) ++ bJ4 cy 16 0 0 (fun _ => 0) u15)) := hDn
  refine zr_putF (pc := 210) cx lf_X11_103 hin hP hD hS 0 (a := a) rfl (v := .ref (u15 0)) rfl rfl (Nat.le_of_ble_eq_true rfl) dX11_init_210 (fun H locs hP hD hS => ?_)
  have hP : va_P D vwCl ((a, .inr (12, [.ref (u1 0), .ref (u2 0), .ref (u3 0), .ref (u4 0), .ref (u5 0), .ref r, .ref (u8 0), .ref (u9 0), .ref (u10 0), .ref (u11 0), .ref (u12 0), .ref (u13 0), .ref (u14 0), .ref (u15 0), .int 0, .int 0, .int 0])) :: (r, .inl (cy 5, 2, .inr (.inr (.inr (.inr (va_up (va_up (fun _ => none) 0 (some (u6 0))) 1 (some (u7 0)))))))) :: (((((((((((((((bX9 cy u1) ++ bX3 cy u2) ++ bX6 cy (u2 0) u3) ++ bX6 cy (u2 0) u4) ++ bX7 cy (u2 0) u5) ++ bX5 cy u6) ++ bX5 cy u7) ++ bX4 cy (u1 0) u8) ++ bX0 cy (u1 0) (u2 0) u9) ++ bX8 cy u10) ++ bX8 cy u11) ++ bX2 cy (u2 0) (u3 0) u12) ++ bX10 cy u13) ++ bX1 cy u14) ++ bJ4 cy 16 0 0 (fun _ => 0) u15)) H := hP
  have hD : va_D A ((a, .inr (12, [.ref (u1 0), .ref (u2 0), .ref (u3 0), .ref (u4 0), .ref (u5 0), .ref r, .ref (u8 0), .ref (u9 0), .ref (u10 0), .ref (u11 0), .ref (u12 0), .ref (u13 0), .ref (u14 0), .ref (u15 0), .int 0, .int 0, .int 0])) :: (r, .inl (cy 5, 2, .inr (.inr (.inr (.inr (va_up (va_up (fun _ => none) 0 (some (u6 0))) 1 (some (u7 0)))))))) :: (((((((((((((((bX9 cy u1) ++ bX3 cy u2) ++ bX6 cy (u2 0) u3) ++ bX6 cy (u2 0) u4) ++ bX7 cy (u2 0) u5) ++ bX5 cy u6) ++ bX5 cy u7) ++ bX4 cy (u1 0) u8) ++ bX0 cy (u1 0) (u2 0) u9) ++ bX8 cy u10) ++ bX8 cy u11) ++ bX2 cy (u2 0) (u3 0) u12) ++ bX10 cy u13) ++ bX1 cy u14) ++ bJ4 cy 16 0 0 (fun _ => 0) u15)) := hD
  refine lv_aload_n (pc := 213) hx hb dX11_init_213 rfl (lv_at hl 1 rfl) ?_
  refine lv_iconst (pc := 214) hx hb dX11_init_214 zc_m1 ?_
  refine zr_put (pc := 215) cx lq_X11_107 hP hD hS 0 (a := a) rfl (v := .int (-1)) rfl rfl (Nat.le_of_ble_eq_true rfl) dX11_init_215 (fun H locs hP hD hS => ?_)
  have hP : va_P D vwCl ((a, .inr (12, [.ref (u1 0), .ref (u2 0), .ref (u3 0), .ref (u4 0), .ref (u5 0), .ref r, .ref (u8 0), .ref (u9 0), .ref (u10 0), .ref (u11 0), .ref (u12 0), .ref (u13 0), .ref (u14 0), .ref (u15 0), .int 0, .int (-1), .int 0])) :: (r, .inl (cy 5, 2, .inr (.inr (.inr (.inr (va_up (va_up (fun _ => none) 0 (some (u6 0))) 1 (some (u7 0)))))))) :: (((((((((((((((bX9 cy u1) ++ bX3 cy u2) ++ bX6 cy (u2 0) u3) ++ bX6 cy (u2 0) u4) ++ bX7 cy (u2 0) u5) ++ bX5 cy u6) ++ bX5 cy u7) ++ bX4 cy (u1 0) u8) ++ bX0 cy (u1 0) (u2 0) u9) ++ bX8 cy u10) ++ bX8 cy u11) ++ bX2 cy (u2 0) (u3 0) u12) ++ bX10 cy u13) ++ bX1 cy u14) ++ bJ4 cy 16 0 0 (fun _ => 0) u15)) H := hP
  have hD : va_D A ((a, .inr (12, [.ref (u1 0), .ref (u2 0), .ref (u3 0), .ref (u4 0), .ref (u5 0), .ref r, .ref (u8 0), .ref (u9 0), .ref (u10 0), .ref (u11 0), .ref (u12 0), .ref (u13 0), .ref (u14 0), .ref (u15 0), .int 0, .int (-1), .int 0])) :: (r, .inl (cy 5, 2, .inr (.inr (.inr (.inr (va_up (va_up (fun _ => none) 0 (some (u6 0))) 1 (some (u7 0)))))))) :: (((((((((((((((bX9 cy u1) ++ bX3 cy u2) ++ bX6 cy (u2 0) u3) ++ bX6 cy (u2 0) u4) ++ bX7 cy (u2 0) u5) ++ bX5 cy u6) ++ bX5 cy u7) ++ bX4 cy (u1 0) u8) ++ bX0 cy (u1 0) (u2 0) u9) ++ bX8 cy u10) ++ bX8 cy u11) ++ bX2 cy (u2 0) (u3 0) u12) ++ bX10 cy u13) ++ bX1 cy u14) ++ bJ4 cy 16 0 0 (fun _ => 0) u15)) := hD
  refine lv_aload_n (pc := 218) hx hb dX11_init_218 rfl (lv_at hl 1 rfl) ?_
  refine lv_iconst (pc := 219) hx hb dX11_init_219 zc_m1 ?_
  refine zr_put (pc := 220) cx lq_X11_111 hP hD hS 0 (a := a) rfl (v := .int (-1)) rfl rfl (Nat.le_of_ble_eq_true rfl) dX11_init_220 (fun H locs hP hD hS => ?_)
  have hP : va_P D vwCl ((a, .inr (12, [.ref (u1 0), .ref (u2 0), .ref (u3 0), .ref (u4 0), .ref (u5 0), .ref r, .ref (u8 0), .ref (u9 0), .ref (u10 0), .ref (u11 0), .ref (u12 0), .ref (u13 0), .ref (u14 0), .ref (u15 0), .int 0, .int (-1), .int (-1)])) :: (r, .inl (cy 5, 2, .inr (.inr (.inr (.inr (va_up (va_up (fun _ => none) 0 (some (u6 0))) 1 (some (u7 0)))))))) :: (((((((((((((((bX9 cy u1) ++ bX3 cy u2) ++ bX6 cy (u2 0) u3) ++ bX6 cy (u2 0) u4) ++ bX7 cy (u2 0) u5) ++ bX5 cy u6) ++ bX5 cy u7) ++ bX4 cy (u1 0) u8) ++ bX0 cy (u1 0) (u2 0) u9) ++ bX8 cy u10) ++ bX8 cy u11) ++ bX2 cy (u2 0) (u3 0) u12) ++ bX10 cy u13) ++ bX1 cy u14) ++ bJ4 cy 16 0 0 (fun _ => 0) u15)) H := hP
  have hD : va_D A ((a, .inr (12, [.ref (u1 0), .ref (u2 0), .ref (u3 0), .ref (u4 0), .ref (u5 0), .ref r, .ref (u8 0), .ref (u9 0), .ref (u10 0), .ref (u11 0), .ref (u12 0), .ref (u13 0), .ref (u14 0), .ref (u15 0), .int 0, .int (-1), .int (-1)])) :: (r, .inl (cy 5, 2, .inr (.inr (.inr (.inr (va_up (va_up (fun _ => none) 0 (some (u6 0))) 1 (some (u7 0)))))))) :: (((((((((((((((bX9 cy u1) ++ bX3 cy u2) ++ bX6 cy (u2 0) u3) ++ bX6 cy (u2 0) u4) ++ bX7 cy (u2 0) u5) ++ bX5 cy u6) ++ bX5 cy u7) ++ bX4 cy (u1 0) u8) ++ bX0 cy (u1 0) (u2 0) u9) ++ bX8 cy u10) ++ bX8 cy u11) ++ bX2 cy (u2 0) (u3 0) u12) ++ bX10 cy u13) ++ bX1 cy u14) ++ bJ4 cy 16 0 0 (fun _ => 0) u15)) := hD
  have er : (va_up (va_up (fun _ => none) 0 (some (u6 0))) 1 (some (u7 0))) = fun i => [u6 0, u7 0][i]? := by
    funext i
    match i with
    | 0 => rfl
    | 1 => rfl
    | i + 2 => rfl
  rw [er] at hP hD
  exact W.vret (pc := 223) hx hb hr (fun t ht hW => ⟨⟨(fun k => cond (Nat.blt k 1) (a) (cond (Nat.blt k 4) (u1 (k - 1)) (cond (Nat.blt k 14) (u2 (k - 4)) (cond (Nat.blt k 29) (u3 (k - 14)) (cond (Nat.blt k 44) (u4 (k - 29)) (cond (Nat.blt k 166) (u5 (k - 44)) (cond (Nat.blt k 167) (r) (cond (Nat.blt k 198) (u6 (k - 167)) (cond (Nat.blt k 229) (u7 (k - 198)) (cond (Nat.blt k 240) (u8 (k - 229)) (cond (Nat.blt k 245) (u9 (k - 240)) (cond (Nat.blt k 250) (u10 (k - 245)) (cond (Nat.blt k 255) (u11 (k - 250)) (cond (Nat.blt k 256) (u12 (k - 255)) (cond (Nat.blt k 261) (u13 (k - 256)) (cond (Nat.blt k 262) (u14 (k - 261)) (u15 (k - 262)))))))))))))))))), rfl, rfl, by rw [ht]; exact hP, hD⟩, hS.F ht⟩) hS.2.2 dX11_init_223
