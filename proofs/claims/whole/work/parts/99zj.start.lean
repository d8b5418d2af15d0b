/-! what stands at the law's entry, printed by wip/gen/start.py -/
def nvL : List Cond := flatC (Cond.and given_1 narrow_1)
theorem nv_of {args : Array Value} {s : State} (h : (Jvm.Cond.and given_1 narrow_1).before args s = true) {k : Nat} {w : Cond} (hw : nvL[k]? = some w) : w.before args s = true := flat_of_before _ h w (List.mem_of_getElem? hw)
theorem nv_cs : nvL[4]? = some (Cond.eq (Term.static "java/lang/String" "COMPACT_STRINGS" "Z") (.int 1)) := by decide +kernel
theorem nv_si : nvL[5]? = some (Cond.isRef (Term.static "jdk/internal/util/Preconditions" "SIOOBE_FORMATTER" "Ljava/util/function/BiFunction;")) := by decide +kernel
theorem nv_us : nvL[222]? = some (Cond.isRef (Term.static "java/lang/Throwable" "UNASSIGNED_STACK" "[Ljava/lang/StackTraceElement;")) := by decide +kernel
theorem nv_ss : nvL[223]? = some (Cond.isRef (Term.static "java/lang/Throwable" "SUPPRESSED_SENTINEL" "Ljava/util/List;")) := by decide +kernel
theorem nv_mo : nvL[10]? = some (Cond.arrayOf (Term.static "ParlourLeaves" "MOST_OF_SORT" "[I") .int) := by decide +kernel
theorem nv_mol : nvL[11]? = some (Cond.eq (.length (Term.static "ParlourLeaves" "MOST_OF_SORT" "[I")) (.int (Int32.ofNat 4))) := by decide +kernel
theorem nv_moe : ∀ j, j < 4 → nvL[12 + j]? = some (Cond.eq (.elem (Term.static "ParlourLeaves" "MOST_OF_SORT" "[I") (.int (Int32.ofNat j))) (.int (zMo j))) := by decide +kernel
theorem nv_do : nvL[17]? = some (Cond.arrayOf (Term.static "java/lang/Integer" "DigitOnes" "[B") .byte) := by decide +kernel
theorem nv_dol : nvL[18]? = some (Cond.eq (.length (Term.static "java/lang/Integer" "DigitOnes" "[B")) (.int (Int32.ofNat 100))) := by decide +kernel
theorem nv_doe : ∀ j, j < 100 → nvL[19 + j]? = some (Cond.eq (.elem (Term.static "java/lang/Integer" "DigitOnes" "[B") (.int (Int32.ofNat j))) (.int (nI (48 + j % 10)))) := by decide +kernel
theorem nv_dt : nvL[120]? = some (Cond.arrayOf (Term.static "java/lang/Integer" "DigitTens" "[B") .byte) := by decide +kernel
theorem nv_dtl : nvL[121]? = some (Cond.eq (.length (Term.static "java/lang/Integer" "DigitTens" "[B")) (.int (Int32.ofNat 100))) := by decide +kernel
theorem nv_dte : ∀ j, j < 100 → nvL[122 + j]? = some (Cond.eq (.elem (Term.static "java/lang/Integer" "DigitTens" "[B") (.int (Int32.ofNat j))) (.int (nI (48 + j / 10)))) := by decide +kernel
def zTm (i : Nat) : Term := .string (zOwn i) (zPl i)
def zB4 (i : Nat) : Nat := [270, 395, 410, 421].getD i 0
theorem nv_kx : ∀ i, i < 4 → nvL[zB4 i]? = some (Cond.exactly (zTm i) "java/lang/String") := by decide +kernel
theorem nv_kc : ∀ i, i < 4 → nvL[zB4 i + 1]? = some (Cond.eq (.field (zTm i) "java/lang/String" "coder" "B") (.int 0)) := by decide +kernel
theorem nv_ka : ∀ i, i < 4 → nvL[zB4 i + 2]? = some (Cond.arrayOf (.field (zTm i) "java/lang/String" "value" "[B") .byte) := by decide +kernel
theorem nv_kl : ∀ i, i < 4 → nvL[zB4 i + 3]? = some (Cond.eq (.length (.field (zTm i) "java/lang/String" "value" "[B")) (.int (Int32.ofNat (zLen.getD i 0)))) := by decide +kernel
theorem nv_ke : ∀ i, i < 4 → ∀ j, j < zLen.getD i 0 → nvL[zB4 i + 4 + j]? = some (Cond.eq (.elem (.field (zTm i) "java/lang/String" "value" "[B") (.int (Int32.ofNat j))) (.int ((zByt.getD i []).getD j 0))) := by decide +kernel
def zNe (i j : Nat) : Nat := (([[0, 409, 419, 431], [0, 0, 420, 432], [0, 0, 0, 433]] : List (List Nat)).getD i []).getD j 0
theorem nv_kn : ∀ i, i < 4 → ∀ j, j < 4 → i < j → nvL[zNe i j]? = some (Cond.not (Cond.eq (zTm i) (zTm j))) := by decide +kernel
theorem lt_1001 : (Jvm.Cond.privateMethod ({ cls := "java/lang/AbstractStringBuilder", name := "ensureCapacityInternal", desc := "(I)V" } : Jvm.MethodName)) ∈ lw_tbl := List.mem_append_right _ (List.mem_append_right _ (List.mem_append_right _ (List.mem_append_right _ (List.mem_append_right _ (List.mem_append_left _ (List.mem_of_getElem? (i := 41) rfl))))))
theorem lt_1002 : (Jvm.Cond.instanceMethod ({ cls := "java/lang/AbstractStringBuilder", name := "ensureCapacityInternal", desc := "(I)V" } : Jvm.MethodName)) ∈ lw_tbl := List.mem_append_right _ (List.mem_append_right _ (List.mem_append_right _ (List.mem_append_right _ (List.mem_append_right _ (List.mem_append_left _ (List.mem_of_getElem? (i := 42) rfl))))))
theorem lt_1005 : (Jvm.Cond.privateMethod ({ cls := "java/lang/AbstractStringBuilder", name := "newCapacity", desc := "(I)I" } : Jvm.MethodName)) ∈ lw_tbl := List.mem_append_right _ (List.mem_append_right _ (List.mem_append_right _ (List.mem_append_right _ (List.mem_append_right _ (List.mem_append_left _ (List.mem_of_getElem? (i := 45) rfl))))))
theorem lt_1006 : (Jvm.Cond.instanceMethod ({ cls := "java/lang/AbstractStringBuilder", name := "newCapacity", desc := "(I)I" } : Jvm.MethodName)) ∈ lw_tbl := List.mem_append_right _ (List.mem_append_right _ (List.mem_append_right _ (List.mem_append_right _ (List.mem_append_right _ (List.mem_append_left _ (List.mem_of_getElem? (i := 46) rfl))))))
theorem lt_1113 : (Jvm.Cond.privateMethod ({ cls := "java/lang/AbstractStringBuilder", name := "putStringAt", desc := "(ILjava/lang/String;)V" } : Jvm.MethodName)) ∈ lw_tbl := List.mem_append_right _ (List.mem_append_right _ (List.mem_append_right _ (List.mem_append_right _ (List.mem_append_right _ (List.mem_append_left _ (List.mem_of_getElem? (i := 153) rfl))))))
theorem lt_1114 : (Jvm.Cond.instanceMethod ({ cls := "java/lang/AbstractStringBuilder", name := "putStringAt", desc := "(ILjava/lang/String;)V" } : Jvm.MethodName)) ∈ lw_tbl := List.mem_append_right _ (List.mem_append_right _ (List.mem_append_right _ (List.mem_append_right _ (List.mem_append_right _ (List.mem_append_left _ (List.mem_of_getElem? (i := 154) rfl))))))
theorem lt_1117 : (Jvm.Cond.privateMethod ({ cls := "java/lang/AbstractStringBuilder", name := "inflateIfNeededFor", desc := "(Ljava/lang/String;)V" } : Jvm.MethodName)) ∈ lw_tbl := List.mem_append_right _ (List.mem_append_right _ (List.mem_append_right _ (List.mem_append_right _ (List.mem_append_right _ (List.mem_append_left _ (List.mem_of_getElem? (i := 157) rfl))))))
theorem lt_1118 : (Jvm.Cond.instanceMethod ({ cls := "java/lang/AbstractStringBuilder", name := "inflateIfNeededFor", desc := "(Ljava/lang/String;)V" } : Jvm.MethodName)) ∈ lw_tbl := List.mem_append_right _ (List.mem_append_right _ (List.mem_append_right _ (List.mem_append_right _ (List.mem_append_right _ (List.mem_append_left _ (List.mem_of_getElem? (i := 158) rfl))))))
theorem s_pvs {args : Array Value} {s : State} (hts : ∀ w ∈ lw_tbl, w.before args s = true) : zPvs s := by
  have h0 := hts _ (List.mem_filter.mp wd_1032s).1
  intro y hy
  simp only [zPvL, List.mem_cons, List.not_mem_nil, or_false] at hy
  rcases hy with rfl | rfl | rfl | rfl
  · exact va_tabs rfl rfl (z_selP ⟨by decide, by decide⟩ rfl h0 (hts _ lt_1001) (hts _ lt_1002))
  · exact va_tabs rfl rfl (z_selP ⟨by decide, by decide⟩ rfl h0 (hts _ lt_1005) (hts _ lt_1006))
  · exact va_tabs rfl rfl (z_selP ⟨by decide, by decide⟩ rfl h0 (hts _ lt_1113) (hts _ lt_1114))
  · exact va_tabs rfl rfl (z_selP ⟨by decide, by decide⟩ rfl h0 (hts _ lt_1117) (hts _ lt_1118))
theorem lt_280 : (Jvm.Cond.arrayOver (Jvm.ClassFile.FieldType.object "ParlourLeaves$Life")) ∈ lw_tbl := List.mem_append_right _ (List.mem_append_right _ (List.mem_append_left _ (List.mem_of_getElem? (i := 40) rfl)))
theorem lt_293 : (Jvm.Cond.arrayOver (Jvm.ClassFile.FieldType.object "ParlourLeaves$Image")) ∈ lw_tbl := List.mem_append_right _ (List.mem_append_right _ (List.mem_append_left _ (List.mem_of_getElem? (i := 53) rfl)))
theorem lt_220 : (Jvm.Cond.arrayOver (Jvm.ClassFile.FieldType.array Jvm.ClassFile.FieldType.int)) ∈ lw_tbl := List.mem_append_right _ (List.mem_append_left _ (List.mem_of_getElem? (i := 220) rfl))
theorem lt_608 : (Jvm.Cond.laysStatic "ParlourLeaves" "MOST_OF_SORT" "[I") ∈ lw_tbl := List.mem_append_right _ (List.mem_append_right _ (List.mem_append_right _ (List.mem_append_left _ (List.mem_of_getElem? (i := 128) rfl))))
theorem lt_1 : (Jvm.Cond.initialized "ParlourLeaves") ∈ lw_tbl := List.mem_append_right _ (List.mem_append_left _ (List.mem_of_getElem? (i := 1) rfl))
theorem lt_54 : (Jvm.Cond.laysStatic "java/lang/String" "COMPACT_STRINGS" "Z") ∈ lw_tbl := List.mem_append_right _ (List.mem_append_left _ (List.mem_of_getElem? (i := 54) rfl))
theorem lt_3 : (Jvm.Cond.initialized "java/lang/String") ∈ lw_tbl := List.mem_append_right _ (List.mem_append_left _ (List.mem_of_getElem? (i := 3) rfl))
theorem lt_1149 : (Jvm.Cond.laysStatic "java/lang/Integer" "DigitOnes" "[B") ∈ lw_tbl := List.mem_append_right _ (List.mem_append_right _ (List.mem_append_right _ (List.mem_append_right _ (List.mem_append_right _ (List.mem_append_left _ (List.mem_of_getElem? (i := 189) rfl))))))
theorem lt_27 : (Jvm.Cond.initialized "java/lang/Integer") ∈ lw_tbl := List.mem_append_right _ (List.mem_append_left _ (List.mem_of_getElem? (i := 27) rfl))
theorem lt_1151 : (Jvm.Cond.laysStatic "java/lang/Integer" "DigitTens" "[B") ∈ lw_tbl := List.mem_append_right _ (List.mem_append_right _ (List.mem_append_right _ (List.mem_append_right _ (List.mem_append_right _ (List.mem_append_left _ (List.mem_of_getElem? (i := 191) rfl))))))
theorem lt_70 : (Jvm.Cond.laysStatic "jdk/internal/util/Preconditions" "SIOOBE_FORMATTER" "Ljava/util/function/BiFunction;") ∈ lw_tbl := List.mem_append_right _ (List.mem_append_left _ (List.mem_of_getElem? (i := 70) rfl))
theorem lt_5 : (Jvm.Cond.initialized "jdk/internal/util/Preconditions") ∈ lw_tbl := List.mem_append_right _ (List.mem_append_left _ (List.mem_of_getElem? (i := 5) rfl))
theorem lt_1411 : (Jvm.Cond.laysStatic "java/lang/Throwable" "UNASSIGNED_STACK" "[Ljava/lang/StackTraceElement;") ∈ lw_tbl := List.mem_append_right _ (List.mem_append_right _ (List.mem_append_right _ (List.mem_append_right _ (List.mem_append_right _ (List.mem_append_right _ (List.mem_append_left _ (List.mem_of_getElem? (i := 211) rfl)))))))
theorem lt_22 : (Jvm.Cond.initialized "java/lang/Throwable") ∈ lw_tbl := List.mem_append_right _ (List.mem_append_left _ (List.mem_of_getElem? (i := 22) rfl))
theorem lt_1413 : (Jvm.Cond.laysStatic "java/lang/Throwable" "SUPPRESSED_SENTINEL" "Ljava/util/List;") ∈ lw_tbl := List.mem_append_right _ (List.mem_append_right _ (List.mem_append_right _ (List.mem_append_right _ (List.mem_append_right _ (List.mem_append_right _ (List.mem_append_left _ (List.mem_of_getElem? (i := 213) rfl)))))))
theorem lt_44 : (Jvm.Cond.stringRef "ParlourLeaves$Tape" (19 : Nat) "parlour sight plant fern person deed dusty proof does sponge carry day or and not blind in sees tells leaves dust number ") ∈ lw_tbl := List.mem_append_right _ (List.mem_append_left _ (List.mem_of_getElem? (i := 44) rfl))
theorem lt_1087 : (Jvm.Cond.stringRef "ParlourLeaves" (334 : Nat) " is a fern") ∈ lw_tbl := List.mem_append_right _ (List.mem_append_right _ (List.mem_append_right _ (List.mem_append_right _ (List.mem_append_right _ (List.mem_append_left _ (List.mem_of_getElem? (i := 127) rfl))))))
theorem lt_1134 : (Jvm.Cond.stringRef "ParlourLeaves" (342 : Nat) " has ") ∈ lw_tbl := List.mem_append_right _ (List.mem_append_right _ (List.mem_append_right _ (List.mem_append_right _ (List.mem_append_right _ (List.mem_append_left _ (List.mem_of_getElem? (i := 174) rfl))))))
theorem lt_1161 : (Jvm.Cond.stringRef "ParlourLeaves" (347 : Nat) " blind") ∈ lw_tbl := List.mem_append_right _ (List.mem_append_right _ (List.mem_append_right _ (List.mem_append_right _ (List.mem_append_right _ (List.mem_append_left _ (List.mem_of_getElem? (i := 201) rfl))))))
theorem s_env {args : Array Value} {s : State} (hts : ∀ w ∈ lw_tbl, w.before args s = true) (hgv : (Jvm.Cond.and given_1 narrow_1).before args s = true) : ∃ kK kV : Nat → Nat, zEn kK kV (zAL s) s := by
  have hA : ∀ a : Nat, a < s.heap.size → ¬ zAL s a := fun a h => Nat.not_le.mpr h
  obtain ⟨kK, kV, hS, hR⟩ := vk_Sof (args := args) (s := s) (N := 4) (tm := zTm) (len := zLen) (byt := zByt) (A := zAL s) (by decide) (fun i hi => nv_of hgv (nv_kx i hi)) (fun i hi => nv_of hgv (nv_kc i hi)) (fun i hi => nv_of hgv (nv_ka i hi)) (fun i hi => nv_of hgv (nv_kl i hi)) (fun i hi j hj => nv_of hgv (nv_ke i hi j hj)) (fun i j hi hj hne => by
    by_cases h : i < j
    · exact Or.inl (nv_of hgv (nv_kn i hi j hj h))
    · exact Or.inr (nv_of hgv (nv_kn j hj i hi (by omega)))) hA
  obtain ⟨t1, e1, g1⟩ := va_Tof (args := args) (s := s) (A := zAL s) (N := 100) (f := fun j => .int (nI (48 + j % 10))) (by decide) (nv_of hgv nv_do) (va_eqt (nv_of hgv nv_dol)) (fun j hj => va_eqt (nv_of hgv (nv_doe j hj))) hA
  obtain ⟨t2, e2, g2⟩ := va_Tof (args := args) (s := s) (A := zAL s) (N := 100) (f := fun j => .int (nI (48 + j / 10))) (by decide) (nv_of hgv nv_dt) (va_eqt (nv_of hgv nv_dtl)) (fun j hj => va_eqt (nv_of hgv (nv_dte j hj))) hA
  obtain ⟨t3, e3, g3⟩ := va_Tof (args := args) (s := s) (A := zAL s) (N := 4) (f := fun j => .int (zMo j)) (by decide) (nv_of hgv nv_mo) (va_eqt (nv_of hgv nv_mol)) (fun j hj => va_eqt (nv_of hgv (nv_moe j hj))) hA
  refine ⟨kK, kV, ⟨va_AO.of (hts _ lt_280), va_AO.of (hts _ lt_293), zw_ovA (Vm.Alike.refl s.vm) (hts _ lt_220)⟩, ⟨t3, va_Zof (hts _ lt_608) (hts _ lt_1) e3 hA, g3⟩, hS, fun i hi => ?_, va_Zof (hts _ lt_54) (hts _ lt_3) (va_eqi (nv_of hgv nv_cs)) hA, ⟨t1, t2, va_Zof (hts _ lt_1149) (hts _ lt_27) e1 hA, g1, va_Zof (hts _ lt_1151) (hts _ lt_27) e2 hA, g2⟩, ⟨va_Zqof (hts _ lt_70) (hts _ lt_5) (nv_of hgv nv_si) hA, va_Zqof (hts _ lt_1411) (hts _ lt_22) (nv_of hgv nv_us) hA, va_Zqof (hts _ lt_1413) (hts _ lt_22) (nv_of hgv nv_ss) hA, zLs.of (hts _ lt_1411) hA, zLs.of (hts _ lt_1413) hA⟩, s_pvs hts⟩
  rcases (show i = 0 ∨ i = 1 ∨ i = 2 ∨ i = 3 by omega) with rfl | rfl | rfl | rfl
  · exact vk_R.of (hts _ lt_44) (hR 0 (by decide))
  · exact vk_R.of (hts _ lt_1087) (hR 1 (by decide))
  · exact vk_R.of (hts _ lt_1134) (hR 2 (by decide))
  · exact vk_R.of (hts _ lt_1161) (hR 3 (by decide))
theorem lt_1345 : (Jvm.Cond.methodLinkNest "ParlourLeaves$Sentence" (123 : Nat) ({ cls := "ParlourLeaves", name := "hasBit", desc := "(II)Z" } : Jvm.MethodName) "ParlourLeaves") ∈ lw_tbl := List.mem_append_right _ (List.mem_append_right _ (List.mem_append_right _ (List.mem_append_right _ (List.mem_append_right _ (List.mem_append_right _ (List.mem_append_left _ (List.mem_of_getElem? (i := 145) rfl)))))))
theorem lt_1334 : (Jvm.Cond.methodLinkNest "ParlourLeaves$Sentence" (93 : Nat) ({ cls := "ParlourLeaves", name := "allBits", desc := "(I)I" } : Jvm.MethodName) "ParlourLeaves") ∈ lw_tbl := List.mem_append_right _ (List.mem_append_right _ (List.mem_append_right _ (List.mem_append_right _ (List.mem_append_right _ (List.mem_append_right _ (List.mem_append_left _ (List.mem_of_getElem? (i := 134) rfl)))))))
theorem lt_958 : (Jvm.Cond.methodLinkNest "ParlourLeaves$Way" (45 : Nat) ({ cls := "ParlourLeaves", name := "hasBit", desc := "(II)Z" } : Jvm.MethodName) "ParlourLeaves") ∈ lw_tbl := List.mem_append_right _ (List.mem_append_right _ (List.mem_append_right _ (List.mem_append_right _ (List.mem_append_left _ (List.mem_of_getElem? (i := 238) rfl)))))
theorem lt_898 : (Jvm.Cond.methodLinkNest "ParlourLeaves$Foresight" (70 : Nat) ({ cls := "ParlourLeaves", name := "hasBit", desc := "(II)Z" } : Jvm.MethodName) "ParlourLeaves") ∈ lw_tbl := List.mem_append_right _ (List.mem_append_right _ (List.mem_append_right _ (List.mem_append_right _ (List.mem_append_left _ (List.mem_of_getElem? (i := 178) rfl)))))
theorem lt_889 : (Jvm.Cond.methodLinkNest "ParlourLeaves$Foresight" (67 : Nat) ({ cls := "ParlourLeaves", name := "allBits", desc := "(I)I" } : Jvm.MethodName) "ParlourLeaves") ∈ lw_tbl := List.mem_append_right _ (List.mem_append_right _ (List.mem_append_right _ (List.mem_append_right _ (List.mem_append_left _ (List.mem_of_getElem? (i := 169) rfl)))))
theorem lt_802 : (Jvm.Cond.methodLinkNest "ParlourLeaves$Life" (93 : Nat) ({ cls := "ParlourLeaves", name := "hasBit", desc := "(II)Z" } : Jvm.MethodName) "ParlourLeaves") ∈ lw_tbl := List.mem_append_right _ (List.mem_append_right _ (List.mem_append_right _ (List.mem_append_right _ (List.mem_append_left _ (List.mem_of_getElem? (i := 82) rfl)))))
theorem lt_777 : (Jvm.Cond.methodLinkNest "ParlourLeaves$Life" (120 : Nat) ({ cls := "ParlourLeaves", name := "allBits", desc := "(I)I" } : Jvm.MethodName) "ParlourLeaves") ∈ lw_tbl := List.mem_append_right _ (List.mem_append_right _ (List.mem_append_right _ (List.mem_append_right _ (List.mem_append_left _ (List.mem_of_getElem? (i := 57) rfl)))))
theorem lt_644 : (Jvm.Cond.methodLinkNest "ParlourLeaves$HouseText" (113 : Nat) ({ cls := "ParlourLeaves", name := "hasBit", desc := "(II)Z" } : Jvm.MethodName) "ParlourLeaves") ∈ lw_tbl := List.mem_append_right _ (List.mem_append_right _ (List.mem_append_right _ (List.mem_append_left _ (List.mem_of_getElem? (i := 164) rfl))))
theorem lt_607 : (Jvm.Cond.fieldLinkNest "ParlourLeaves$House" (56 : Nat) "ParlourLeaves" "MOST_OF_SORT" "[I" "ParlourLeaves") ∈ lw_tbl := List.mem_append_right _ (List.mem_append_right _ (List.mem_append_right _ (List.mem_append_left _ (List.mem_of_getElem? (i := 127) rfl))))
theorem lt_466 : (Jvm.Cond.methodLinkNest "ParlourLeaves" (95 : Nat) ({ cls := "ParlourLeaves$Draws", name := "<init>", desc := "()V" } : Jvm.MethodName) "ParlourLeaves") ∈ lw_tbl := List.mem_append_right _ (List.mem_append_right _ (List.mem_append_left _ (List.mem_of_getElem? (i := 226) rfl)))
theorem lt_441 : (Jvm.Cond.methodLinkNest "ParlourLeaves" (88 : Nat) ({ cls := "ParlourLeaves$Way", name := "<init>", desc := "()V" } : Jvm.MethodName) "ParlourLeaves") ∈ lw_tbl := List.mem_append_right _ (List.mem_append_right _ (List.mem_append_left _ (List.mem_of_getElem? (i := 201) rfl)))
theorem lt_413 : (Jvm.Cond.methodLinkNest "ParlourLeaves" (69 : Nat) ({ cls := "ParlourLeaves$Sentence", name := "<init>", desc := "()V" } : Jvm.MethodName) "ParlourLeaves") ∈ lw_tbl := List.mem_append_right _ (List.mem_append_right _ (List.mem_append_left _ (List.mem_of_getElem? (i := 173) rfl)))
theorem lt_353 : (Jvm.Cond.methodLinkNest "ParlourLeaves$HouseText" (11 : Nat) ({ cls := "ParlourLeaves$House", name := "<init>", desc := "()V" } : Jvm.MethodName) "ParlourLeaves") ∈ lw_tbl := List.mem_append_right _ (List.mem_append_right _ (List.mem_append_left _ (List.mem_of_getElem? (i := 113) rfl)))
theorem lt_305 : (Jvm.Cond.methodLinkNest "ParlourLeaves$Image" (27 : Nat) ({ cls := "ParlourLeaves$Sentence", name := "<init>", desc := "()V" } : Jvm.MethodName) "ParlourLeaves") ∈ lw_tbl := List.mem_append_right _ (List.mem_append_right _ (List.mem_append_left _ (List.mem_of_getElem? (i := 65) rfl)))
theorem lt_300 : (Jvm.Cond.methodLinkNest "ParlourLeaves$Image" (9 : Nat) ({ cls := "ParlourLeaves$House", name := "<init>", desc := "()V" } : Jvm.MethodName) "ParlourLeaves") ∈ lw_tbl := List.mem_append_right _ (List.mem_append_right _ (List.mem_append_left _ (List.mem_of_getElem? (i := 60) rfl)))
theorem lt_295 : (Jvm.Cond.methodLinkNest "ParlourLeaves" (48 : Nat) ({ cls := "ParlourLeaves$Image", name := "<init>", desc := "()V" } : Jvm.MethodName) "ParlourLeaves") ∈ lw_tbl := List.mem_append_right _ (List.mem_append_right _ (List.mem_append_left _ (List.mem_of_getElem? (i := 55) rfl)))
theorem lt_143 : (Jvm.Cond.methodLinkNest "ParlourLeaves" (18 : Nat) ({ cls := "ParlourLeaves$House", name := "<init>", desc := "()V" } : Jvm.MethodName) "ParlourLeaves") ∈ lw_tbl := List.mem_append_right _ (List.mem_append_left _ (List.mem_of_getElem? (i := 143) rfl))
theorem zNL_in : ∀ w ∈ zNL, w ∈ lw_tbl := (List.forall_mem_cons.mpr ⟨lt_143, (List.forall_mem_cons.mpr ⟨lt_295, (List.forall_mem_cons.mpr ⟨lt_300, (List.forall_mem_cons.mpr ⟨lt_305, (List.forall_mem_cons.mpr ⟨lt_353, (List.forall_mem_cons.mpr ⟨lt_413, (List.forall_mem_cons.mpr ⟨lt_441, (List.forall_mem_cons.mpr ⟨lt_466, (List.forall_mem_cons.mpr ⟨lt_607, (List.forall_mem_cons.mpr ⟨lt_644, (List.forall_mem_cons.mpr ⟨lt_777, (List.forall_mem_cons.mpr ⟨lt_802, (List.forall_mem_cons.mpr ⟨lt_889, (List.forall_mem_cons.mpr ⟨lt_898, (List.forall_mem_cons.mpr ⟨lt_958, (List.forall_mem_cons.mpr ⟨lt_1334, (List.forall_mem_cons.mpr ⟨lt_1345, (fun _ h => absurd h List.not_mem_nil)⟩)⟩)⟩)⟩)⟩)⟩)⟩)⟩)⟩)⟩)⟩)⟩)⟩)⟩)⟩)⟩)⟩)
theorem zNL_tab : ∀ w ∈ zNL, w.onTables = true := by decide +kernel
theorem s_nest {args : Array Value} {s : State} (hts : ∀ w ∈ lw_tbl, w.before args s = true) : zKN s := fun w hw => va_Nw.of (zNL_tab w hw) (hts w (zNL_in w hw))
theorem lt_475 : (Jvm.Cond.instantiable "java/lang/StringBuilder" (4 : Nat)) ∈ lw_tbl := List.mem_append_right _ (List.mem_append_right _ (List.mem_append_left _ (List.mem_of_getElem? (i := 235) rfl)))
theorem lt_369 : (Jvm.Cond.instantiable "ParlourLeaves$BookText" (11 : Nat)) ∈ lw_tbl := List.mem_append_right _ (List.mem_append_right _ (List.mem_append_left _ (List.mem_of_getElem? (i := 129) rfl)))
theorem lt_465 : (Jvm.Cond.instantiable "ParlourLeaves$Draws" (1 : Nat)) ∈ lw_tbl := List.mem_append_right _ (List.mem_append_right _ (List.mem_append_left _ (List.mem_of_getElem? (i := 225) rfl)))
theorem lt_415 : (Jvm.Cond.instantiable "ParlourLeaves$Foresight" (5 : Nat)) ∈ lw_tbl := List.mem_append_right _ (List.mem_append_right _ (List.mem_append_left _ (List.mem_of_getElem? (i := 175) rfl)))
theorem lt_142 : (Jvm.Cond.instantiable "ParlourLeaves$House" (12 : Nat)) ∈ lw_tbl := List.mem_append_right _ (List.mem_append_left _ (List.mem_of_getElem? (i := 142) rfl))
theorem lt_347 : (Jvm.Cond.instantiable "ParlourLeaves$HouseText" (4 : Nat)) ∈ lw_tbl := List.mem_append_right _ (List.mem_append_right _ (List.mem_append_left _ (List.mem_of_getElem? (i := 107) rfl)))
theorem lt_294 : (Jvm.Cond.instantiable "ParlourLeaves$Image" (4 : Nat)) ∈ lw_tbl := List.mem_append_right _ (List.mem_append_right _ (List.mem_append_left _ (List.mem_of_getElem? (i := 54) rfl)))
theorem lt_214 : (Jvm.Cond.instantiable "ParlourLeaves$Life" (11 : Nat)) ∈ lw_tbl := List.mem_append_right _ (List.mem_append_left _ (List.mem_of_getElem? (i := 214) rfl))
theorem lt_274 : (Jvm.Cond.instantiable "ParlourLeaves$Past" (3 : Nat)) ∈ lw_tbl := List.mem_append_right _ (List.mem_append_right _ (List.mem_append_left _ (List.mem_of_getElem? (i := 34) rfl)))
theorem lt_304 : (Jvm.Cond.instantiable "ParlourLeaves$Sentence" (6 : Nat)) ∈ lw_tbl := List.mem_append_right _ (List.mem_append_right _ (List.mem_append_left _ (List.mem_of_getElem? (i := 64) rfl)))
theorem lt_39 : (Jvm.Cond.instantiable "ParlourLeaves$Tape" (11 : Nat)) ∈ lw_tbl := List.mem_append_right _ (List.mem_append_left _ (List.mem_of_getElem? (i := 39) rfl))
theorem lt_440 : (Jvm.Cond.instantiable "ParlourLeaves$Way" (5 : Nat)) ∈ lw_tbl := List.mem_append_right _ (List.mem_append_right _ (List.mem_append_left _ (List.mem_of_getElem? (i := 200) rfl)))
theorem lt_31 : (Jvm.Cond.instantiable "ParlourLeaves" (17 : Nat)) ∈ lw_tbl := List.mem_append_right _ (List.mem_append_left _ (List.mem_of_getElem? (i := 31) rfl))
theorem lt_1470 : (Jvm.Cond.instantiable "ParlourLeavesModel" (45 : Nat)) ∈ lw_tbl := List.mem_append_right _ (List.mem_append_right _ (List.mem_append_right _ (List.mem_append_right _ (List.mem_append_right _ (List.mem_append_right _ (List.mem_append_right _ (List.mem_append_left _ (List.mem_of_getElem? (i := 30) rfl))))))))
theorem lt_212 : (Jvm.Cond.arrayClass Jvm.ClassFile.FieldType.int) ∈ lw_tbl := List.mem_append_right _ (List.mem_append_left _ (List.mem_of_getElem? (i := 212) rfl))
theorem lt_139 : (Jvm.Cond.arrayClass Jvm.ClassFile.FieldType.long) ∈ lw_tbl := List.mem_append_right _ (List.mem_append_left _ (List.mem_of_getElem? (i := 139) rfl))
theorem lt_463 : (Jvm.Cond.arrayClass Jvm.ClassFile.FieldType.boolean) ∈ lw_tbl := List.mem_append_right _ (List.mem_append_right _ (List.mem_append_left _ (List.mem_of_getElem? (i := 223) rfl)))
theorem lt_138 : (Jvm.Cond.arrayClass Jvm.ClassFile.FieldType.char) ∈ lw_tbl := List.mem_append_right _ (List.mem_append_left _ (List.mem_of_getElem? (i := 138) rfl))
theorem lt_140 : (Jvm.Cond.arrayClass Jvm.ClassFile.FieldType.byte) ∈ lw_tbl := List.mem_append_right _ (List.mem_append_left _ (List.mem_of_getElem? (i := 140) rfl))
theorem s_known {args : Array Value} {s : State} (hts : ∀ w ∈ lw_tbl, w.before args s = true) : ∃ (D : va_G) (cy : Nat → ClassId), va_K D vwCl (zTy cy) s := by
  have hz : ∀ w ∈ zTB, w.before args s = true := fun w hw => hts w (List.mem_filter.mp hw).1
  obtain ⟨c0, i0, k0⟩ := u_known (C := RJ4) (T := TJ4) (N := 4) hz wsin_J4 (hts _ lt_475)
  obtain ⟨c1, i1, k1⟩ := u_known (C := RX0) (T := TX0) (N := 11) hz wsin_X0 (hts _ lt_369)
  obtain ⟨c2, i2, k2⟩ := u_known (C := RX1) (T := TX1) (N := 1) hz wsin_X1 (hts _ lt_465)
  obtain ⟨c3, i3, k3⟩ := u_known (C := RX2) (T := TX2) (N := 5) hz wsin_X2 (hts _ lt_415)
  obtain ⟨c4, i4, k4⟩ := u_known (C := RX3) (T := TX3) (N := 12) hz wsin_X3 (hts _ lt_142)
  obtain ⟨c5, i5, k5⟩ := u_known (C := RX4) (T := TX4) (N := 4) hz wsin_X4 (hts _ lt_347)
  obtain ⟨c6, i6, k6⟩ := u_known (C := RX5) (T := TX5) (N := 4) hz wsin_X5 (hts _ lt_294)
  obtain ⟨c7, i7, k7⟩ := u_known (C := RX6) (T := TX6) (N := 11) hz wsin_X6 (hts _ lt_214)
  obtain ⟨c8, i8, k8⟩ := u_known (C := RX7) (T := TX7) (N := 3) hz wsin_X7 (hts _ lt_274)
  obtain ⟨c9, i9, k9⟩ := u_known (C := RX8) (T := TX8) (N := 6) hz wsin_X8 (hts _ lt_304)
  obtain ⟨c10, i10, k10⟩ := u_known (C := RX9) (T := TX9) (N := 11) hz wsin_X9 (hts _ lt_39)
  obtain ⟨c11, i11, k11⟩ := u_known (C := RX10) (T := TX10) (N := 5) hz wsin_X10 (hts _ lt_440)
  obtain ⟨c12, i12, k12⟩ := u_known (C := RX11) (T := TX11) (N := 17) hz wsin_X11 (hts _ lt_31)
  obtain ⟨c13, i13, k13⟩ := u_known (C := RX12) (T := TX12) (N := 45) hz wsin_X12 (hts _ lt_1470)
  obtain ⟨y0, r0, w0, a0, b0, d0⟩ := Cond.arrayClass_spec (hts _ lt_212)
  obtain ⟨y1, r1, w1, a1, b1, d1⟩ := Cond.arrayClass_spec (hts _ lt_139)
  obtain ⟨y2, r2, w2, a2, b2, d2⟩ := Cond.arrayClass_spec (hts _ lt_463)
  obtain ⟨y3, r3, w3, a3, b3, d3⟩ := Cond.arrayClass_spec (hts _ lt_138)
  obtain ⟨y4, r4, w4, a4, b4, d4⟩ := Cond.arrayClass_spec (hts _ lt_140)
  obtain ⟨w5, y5, r5, a5, -, b5, d5, f5⟩ := Cond.arrayOver_spec (hts _ lt_293)
  obtain ⟨w6, y6, r6, a6, -, b6, d6, f6⟩ := Cond.arrayOver_spec (hts _ lt_280)
  obtain ⟨w7, y7, r7, a7, -, b7, d7, f7⟩ := zw_ovS (hts _ lt_220)
  refine ⟨(fun k => [c0, c1, c2, c3, c4, c5, c6, c7, c8, c9, c10, c11, c12, c13].getD k c0, fun k => [i0, i1, i2, i3, i4, i5, i6, i7, i8, i9, i10, i11, i12, i13].getD k i0), fun k => [y0, y1, y2, y3, y4, y5, y6, y7].getD k y0, ?_, ?_⟩
  · intro k q hq
    have hk : k < 14 := (List.getElem?_eq_some_iff.mp hq).1
    rcases (show k = 0 ∨ k = 1 ∨ k = 2 ∨ k = 3 ∨ k = 4 ∨ k = 5 ∨ k = 6 ∨ k = 7 ∨ k = 8 ∨ k = 9 ∨ k = 10 ∨ k = 11 ∨ k = 12 ∨ k = 13 by omega) with rfl | rfl | rfl | rfl | rfl | rfl | rfl | rfl | rfl | rfl | rfl | rfl | rfl | rfl
    · cases hq; exact k0
    · cases hq; exact k1
    · cases hq; exact k2
    · cases hq; exact k3
    · cases hq; exact k4
    · cases hq; exact k5
    · cases hq; exact k6
    · cases hq; exact k7
    · cases hq; exact k8
    · cases hq; exact k9
    · cases hq; exact k10
    · cases hq; exact k11
    · cases hq; exact k12
    · cases hq; exact k13
  · intro k q hq
    have hk : k < 8 := (List.getElem?_eq_some_iff.mp hq).1
    rcases (show k = 0 ∨ k = 1 ∨ k = 2 ∨ k = 3 ∨ k = 4 ∨ k = 5 ∨ k = 6 ∨ k = 7 by omega) with rfl | rfl | rfl | rfl | rfl | rfl | rfl | rfl
    · cases hq; exact ⟨fun n z => ⟨(fun k h => by cases h), r0, b0, w0, d0⟩, a0⟩
    · cases hq; exact ⟨fun n z => ⟨(fun k h => by cases h), r1, b1, w1, d1⟩, a1⟩
    · cases hq; exact ⟨fun n z => ⟨(fun k h => by cases h), r2, b2, w2, d2⟩, a2⟩
    · cases hq; exact ⟨fun n z => ⟨(fun k h => by cases h), r3, b3, w3, d3⟩, a3⟩
    · cases hq; exact ⟨fun n z => ⟨(fun k h => by cases h), r4, b4, w4, d4⟩, a4⟩
    · cases hq; exact ⟨fun n z => ⟨(fun k h => by cases h), r5, b5, w5, d5⟩, r5, w5, b5, d5, a5, f5⟩
    · cases hq; exact ⟨fun n z => ⟨(fun k h => by cases h), r6, b6, w6, d6⟩, r6, w6, b6, d6, a6, f6⟩
    · cases hq; exact ⟨fun n z => ⟨(fun k h => by cases h), r7, b7, w7, d7⟩, f7⟩
