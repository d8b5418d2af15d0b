/-! constructors, printed by wip/gen/ctor2.py -/
theorem dX4_init_4 : decode cX4_init 4 = .ok (.aload_n 0, 1) := by decide +kernel
theorem dX4_init_5 : decode cX4_init 5 = .ok (.new 9, 3) := by decide +kernel
theorem wd_352 : (Jvm.Cond.classLink "ParlourLeaves$HouseText" (9 : Nat) "ParlourLeaves$House") ∈ zTB := List.mem_filter.mpr ⟨List.mem_append_right _ (List.mem_append_right _ (List.mem_append_left _ (List.mem_of_getElem? (i := 112) rfl))), rfl⟩
theorem wd_142 : (Jvm.Cond.instantiable "ParlourLeaves$House" (12 : Nat)) ∈ zTB := List.mem_filter.mpr ⟨List.mem_append_right _ (List.mem_append_left _ (List.mem_of_getElem? (i := 142) rfl)), rfl⟩
theorem nw_X4_9 : zNw RX4 "ParlourLeaves$House" 9 4 [.null, .null, .null, .null, .null, .null, .null, .null, .null, .int 0, .int 0, .int 0] := ⟨TX3, 12, tyX3, rfl, rfl, wsin_X3, tyX3_ok, by decide +kernel, wd_352, wd_142, wd_7⟩
theorem dX4_init_8 : decode cX4_init 8 = .ok (.dup, 1) := by decide +kernel
theorem dX4_init_9 : decode cX4_init 9 = .ok (.invokespecial 11, 3) := by decide +kernel
theorem wd_144 : (Jvm.Cond.instanceMethod ({ cls := "ParlourLeaves$House", name := "<init>", desc := "()V" } : Jvm.MethodName)) ∈ zTB := List.mem_filter.mpr ⟨List.mem_append_right _ (List.mem_append_left _ (List.mem_of_getElem? (i := 144) rfl)), rfl⟩
theorem wd_145 : (Jvm.Cond.code ({ cls := "ParlourLeaves$House", name := "<init>", desc := "()V" } : Jvm.MethodName) prog_5_method_1_code (1 : Nat) (Option.none : Option Jvm.ClassFile.FieldType)) ∈ zTB := List.mem_filter.mpr ⟨List.mem_append_right _ (List.mem_append_left _ (List.mem_of_getElem? (i := 145) rfl)), rfl⟩
theorem cj_X4_11 : zCJ RX4 "ParlourLeaves" 11 yX3_init cX3_init 1 0 := ⟨⟨by decide, by decide, by decide +kernel⟩, rfl, List.mem_of_getElem? (i := 4) rfl, wd_144, wd_7, wd_145⟩
theorem dX4_init_12 : decode cX4_init 12 = .ok (.putfield 12, 3) := by decide +kernel
theorem lf_X4_12 : zLqF RX4 12 5 1 (.object "ParlourLeaves$House") := ⟨"ParlourLeaves$HouseText", RX4, TX4, 4, tyX4, rfl, by decide, wsin_X4, wd_355, rfl, rfl, rfl, by decide +kernel, tyX4_ok, nmX4⟩
theorem dX4_init_15 : decode cX4_init 15 = .ok (.aload_n 0, 1) := by decide +kernel
theorem dX4_init_16 : decode cX4_init 16 = .ok (.aload_n 1, 1) := by decide +kernel
theorem dX4_init_17 : decode cX4_init 17 = .ok (.putfield 18, 3) := by decide +kernel
theorem lf_X4_18 : zLqF RX4 18 5 0 (.object "ParlourLeaves$Tape") := ⟨"ParlourLeaves$HouseText", RX4, TX4, 4, tyX4, rfl, by decide, wsin_X4, wd_354, rfl, rfl, rfl, by decide +kernel, tyX4_ok, nmX4⟩
theorem dX4_init_20 : decode cX4_init 20 = .ok (.return_, 1) := by decide +kernel
def bX4 (cy : Nat → ClassId) (t : Nat) (q : Nat → Nat) : va_W := (q 0, .inr (5, [.ref t, .ref (q 1), .int 0, .int 0])) :: bX3 cy (fun i => q (1 + i))
theorem wd_351 : (Jvm.Cond.methodLink "ParlourLeaves$HouseText" (3 : Nat) ({ cls := "java/lang/Object", name := "<init>", desc := "()V" } : Jvm.MethodName)) ∈ zTB := List.mem_filter.mpr ⟨List.mem_append_right _ (List.mem_append_right _ (List.mem_append_left _ (List.mem_of_getElem? (i := 111) rfl))), rfl⟩
theorem dX4_init_0 : decode cX4_init 0 = .ok (.aload_n 0, 1) := by decide +kernel
theorem dX4_init_1 : decode cX4_init 1 = .ok (.invokespecial 3, 3) := by decide +kernel
set_option maxHeartbeats 1000000 in
set_option maxRecDepth 100000 in
theorem mX4_init {l : Launch} {D : va_G} {cy : Nat → ClassId} {kK kV : Nat → Nat} (t : Nat) (a sz : Nat) : zMc l yX4_init cX4_init 2 { frames := 2, cells := 10, slots := 105, locals := 79 } [.ref t] D cy kK kV sz a (.inr (5, [.null, .null, .int 0, .int 0])) (bX4 cy t) := by
  refine Met.ofW (cc := cX4_init) (maxL := 2) (ret := none) (by decide) rfl ?_
  intro p e s m args below meth c s₁ B hml hv
  obtain ⟨rfl, hsz, hP, hK, hE⟩ := hv
  have cx : zX RX4 cX4_init 2 p s m ([.ref a, .ref t]).toArray c D cy := ⟨B.exec, B.bytes, hml, findClass_of_methodNamed B.named, fun w hw => atoms_spec (ws := Cond.code yX4_init cX4_init 2 none :: zTB) B.pre w (List.mem_cons_of_mem _ hw), hK⟩
  have hx := cx.1
  have hb := cx.2.1
  have hr := B.returns
  have hlk := B.notSynchronized
  have hin : meth.name = "<init>" := (name_of_methodNamed B.named B.method).1
  subst hsz
  have hD : va_D (va_A [(a, .inr (5, [.null, .null, .int 0, .int 0]))] s.heap.size) [(a, .inr (5, [.null, .null, .int 0, .int 0]))] := z_one (Or.inl ⟨0, _, rfl⟩)
  generalize hAe : va_A [(a, .inr (5, [.null, .null, .int 0, .int 0]))] s.heap.size = A at hD hE ⊢
  have hA : ∀ q, s.heap.size ≤ q → A q := fun q h => by rw [← hAe]; exact Or.inr h
  have hS : va_S A s.heap s.heap [] := va_S.rf
  have hl := lv_entry ([.ref a, .ref t]) (n := 2) (Nat.le_of_ble_eq_true rfl)
  rw [lg_entry_eq]
  generalize (lg_sl ([.ref a, .ref t]) ++ List.replicate (2 - (lg_sl ([.ref a, .ref t])).length) Slot.unset).toArray = ls at hl ⊢
  have hl : lv_has ls 2 [(0, .ref a), (1, .ref t)] := hl
  refine lv_aload_n (pc := 0) hx hb dX4_init_0 rfl (lv_at hl 0 rfl) ?_
  refine W.objInit hx hb cx.2.2.2.1 (cx.2.2.2.2.1 _ wd_351) (cx.2.2.2.2.1 _ wd_36) (cx.2.2.2.2.1 _ wd_37) rfl (by rw [hml]; exact hl.1) rfl dX4_init_1 (Nat.le_of_ble_eq_true rfl) (Nat.le_of_ble_eq_true rfl) ?_
  refine W.eq (g2 := F0 m 4 ls []) rfl ?_
  refine lv_aload_n (pc := 4) hx hb dX4_init_4 rfl (lv_at hl 0 rfl) ?_
  have hP : va_P D vwCl ((a, .inr (5, [.null, .null, .int 0, .int 0])) :: ([] : va_W)) s.heap := hP
  have hD : va_D A ((a, .inr (5, [.null, .null, .int 0, .int 0])) :: ([] : va_W)) := hD
  refine zr_new (pc := 5) cx nw_X4_9 (N := 12) rfl hP hD hS hA (Nat.le_of_ble_eq_true rfl) (Nat.le_of_ble_eq_true rfl) dX4_init_5 (fun b1 H hP hD hS => ?_)
  refine lv_dup (pc := 8) hx hb dX4_init_8 rfl ?_
  refine zr_ctN (pc := 9) (As := []) (rest := [.ref b1, .ref a]) cx cj_X4_11 (mX3_init b1 H.size) ⟨Nat.le_of_ble_eq_true rfl, Nat.le_of_ble_eq_true rfl⟩ ⟨Nat.le_of_ble_eq_true rfl, Nat.le_of_ble_eq_true rfl⟩ hE hP hD hS hA hl.1 rfl rfl (Nat.le_of_ble_eq_true rfl) dX4_init_9 (fun u1 H locs hu1 hPn hDn hS => ?_)
  subst hu1
  have hP : va_P D vwCl ((a, .inr (5, [.null, .null, .int 0, .int 0])) :: (bX3 cy u1)) H := hPn
  have hD : va_D A ((a, .inr (5, [.null, .null, .int 0, .int 0])) :: (bX3 cy u1)) := hDn
  refine zr_putF (pc := 12) cx lf_X4_12 hin hP hD hS 0 (a := a) rfl (v := .ref (u1 0)) rfl rfl (Nat.le_of_ble_eq_true rfl) dX4_init_12 (fun H locs hP hD hS => ?_)
  have hP : va_P D vwCl ((a, .inr (5, [.null, .ref (u1 0), .int 0, .int 0])) :: (bX3 cy u1)) H := hP
  have hD : va_D A ((a, .inr (5, [.null, .ref (u1 0), .int 0, .int 0])) :: (bX3 cy u1)) := hD
  refine lv_aload_n (pc := 15) hx hb dX4_init_15 rfl (lv_at hl 0 rfl) ?_
  refine lv_aload_n (pc := 16) hx hb dX4_init_16 rfl (lv_at hl 1 rfl) ?_
  refine zr_putF (pc := 17) cx lf_X4_18 hin hP hD hS 0 (a := a) rfl (v := .ref t) rfl rfl (Nat.le_of_ble_eq_true rfl) dX4_init_17 (fun H locs hP hD hS => ?_)
  have hP : va_P D vwCl ((a, .inr (5, [.ref t, .ref (u1 0), .int 0, .int 0])) :: (bX3 cy u1)) H := hP
  have hD : va_D A ((a, .inr (5, [.ref t, .ref (u1 0), .int 0, .int 0])) :: (bX3 cy u1)) := hD
  exact W.vret (pc := 20) hx hb hr (fun t ht hW => ⟨⟨(fun k => cond (Nat.blt k 1) (a) (u1 (k - 1))), rfl, rfl, by rw [ht]; exact hP, hD⟩, hS.F ht⟩) hS.2.2 dX4_init_20
theorem dX5_init_4 : decode cX5_init 4 = .ok (.aload_n 0, 1) := by decide +kernel
theorem dX5_init_5 : decode cX5_init 5 = .ok (.new 7, 3) := by decide +kernel
theorem wd_299 : (Jvm.Cond.classLink "ParlourLeaves$Image" (7 : Nat) "ParlourLeaves$House") ∈ zTB := List.mem_filter.mpr ⟨List.mem_append_right _ (List.mem_append_right _ (List.mem_append_left _ (List.mem_of_getElem? (i := 59) rfl))), rfl⟩
theorem nw_X5_7 : zNw RX5 "ParlourLeaves$House" 7 4 [.null, .null, .null, .null, .null, .null, .null, .null, .null, .int 0, .int 0, .int 0] := ⟨TX3, 12, tyX3, rfl, rfl, wsin_X3, tyX3_ok, by decide +kernel, wd_299, wd_142, wd_7⟩
theorem dX5_init_8 : decode cX5_init 8 = .ok (.dup, 1) := by decide +kernel
theorem dX5_init_9 : decode cX5_init 9 = .ok (.invokespecial 9, 3) := by decide +kernel
theorem cj_X5_9 : zCJ RX5 "ParlourLeaves" 9 yX3_init cX3_init 1 0 := ⟨⟨by decide, by decide, by decide +kernel⟩, rfl, List.mem_of_getElem? (i := 2) rfl, wd_144, wd_7, wd_145⟩
theorem dX5_init_12 : decode cX5_init 12 = .ok (.putfield 10, 3) := by decide +kernel
theorem lf_X5_10 : zLqF RX5 10 6 0 (.object "ParlourLeaves$House") := ⟨"ParlourLeaves$Image", RX5, TX5, 4, tyX5, rfl, by decide, wsin_X5, wd_329, rfl, rfl, rfl, by decide +kernel, tyX5_ok, nmX5⟩
theorem dX5_init_15 : decode cX5_init 15 = .ok (.aload_n 0, 1) := by decide +kernel
theorem dX5_init_16 : decode cX5_init 16 = .ok (.new 16, 3) := by decide +kernel
theorem wd_301 : (Jvm.Cond.classLink "ParlourLeaves$Image" (16 : Nat) "ParlourLeaves$Life") ∈ zTB := List.mem_filter.mpr ⟨List.mem_append_right _ (List.mem_append_right _ (List.mem_append_left _ (List.mem_of_getElem? (i := 61) rfl))), rfl⟩
theorem wd_214 : (Jvm.Cond.instantiable "ParlourLeaves$Life" (11 : Nat)) ∈ zTB := List.mem_filter.mpr ⟨List.mem_append_right _ (List.mem_append_left _ (List.mem_of_getElem? (i := 214) rfl)), rfl⟩
theorem nw_X5_16 : zNw RX5 "ParlourLeaves$Life" 16 7 [.null, .int 0, .int 0, .null, .null, .null, .null, .null, .null, .null, .null] := ⟨TX6, 11, tyX6, rfl, rfl, wsin_X6, tyX6_ok, by decide +kernel, wd_301, wd_214, wd_8⟩
theorem dX5_init_19 : decode cX5_init 19 = .ok (.dup, 1) := by decide +kernel
theorem dX5_init_20 : decode cX5_init 20 = .ok (.aload_n 0, 1) := by decide +kernel
theorem dX5_init_21 : decode cX5_init 21 = .ok (.getfield 10, 3) := by decide +kernel
theorem dX5_init_24 : decode cX5_init 24 = .ok (.invokespecial 18, 3) := by decide +kernel
theorem wd_216 : (Jvm.Cond.instanceMethod ({ cls := "ParlourLeaves$Life", name := "<init>", desc := "(LParlourLeaves$House;)V" } : Jvm.MethodName)) ∈ zTB := List.mem_filter.mpr ⟨List.mem_append_right _ (List.mem_append_left _ (List.mem_of_getElem? (i := 216) rfl)), rfl⟩
theorem wd_217 : (Jvm.Cond.code ({ cls := "ParlourLeaves$Life", name := "<init>", desc := "(LParlourLeaves$House;)V" } : Jvm.MethodName) prog_8_method_1_code (2 : Nat) (Option.none : Option Jvm.ClassFile.FieldType)) ∈ zTB := List.mem_filter.mpr ⟨List.mem_append_right _ (List.mem_append_left _ (List.mem_of_getElem? (i := 217) rfl)), rfl⟩
theorem wd_302 : (Jvm.Cond.methodLink "ParlourLeaves$Image" (18 : Nat) ({ cls := "ParlourLeaves$Life", name := "<init>", desc := "(LParlourLeaves$House;)V" } : Jvm.MethodName)) ∈ zTB := List.mem_filter.mpr ⟨List.mem_append_right _ (List.mem_append_right _ (List.mem_append_left _ (List.mem_of_getElem? (i := 62) rfl))), rfl⟩
theorem ci_X5_18 : zCI RX5 18 yX6_init cX6_init 2 1 := ⟨⟨by decide, by decide, by decide +kernel⟩, rfl, wd_302, wd_216, wd_8, wd_217⟩
theorem dX5_init_27 : decode cX5_init 27 = .ok (.putfield 21, 3) := by decide +kernel
theorem lf_X5_21 : zLqF RX5 21 6 1 (.object "ParlourLeaves$Life") := ⟨"ParlourLeaves$Image", RX5, TX5, 4, tyX5, rfl, by decide, wsin_X5, wd_331, rfl, rfl, rfl, by decide +kernel, tyX5_ok, nmX5⟩
theorem dX5_init_30 : decode cX5_init 30 = .ok (.aload_n 0, 1) := by decide +kernel
theorem dX5_init_31 : decode cX5_init 31 = .ok (.new 25, 3) := by decide +kernel
theorem wd_303 : (Jvm.Cond.classLink "ParlourLeaves$Image" (25 : Nat) "ParlourLeaves$Sentence") ∈ zTB := List.mem_filter.mpr ⟨List.mem_append_right _ (List.mem_append_right _ (List.mem_append_left _ (List.mem_of_getElem? (i := 63) rfl))), rfl⟩
theorem wd_304 : (Jvm.Cond.instantiable "ParlourLeaves$Sentence" (6 : Nat)) ∈ zTB := List.mem_filter.mpr ⟨List.mem_append_right _ (List.mem_append_right _ (List.mem_append_left _ (List.mem_of_getElem? (i := 64) rfl))), rfl⟩
theorem nw_X5_25 : zNw RX5 "ParlourLeaves$Sentence" 25 9 [.null, .null, .null, .null, .int 0, .int 0] := ⟨TX8, 6, tyX8, rfl, rfl, wsin_X8, tyX8_ok, by decide +kernel, wd_303, wd_304, wd_11⟩
theorem dX5_init_34 : decode cX5_init 34 = .ok (.dup, 1) := by decide +kernel
theorem dX5_init_35 : decode cX5_init 35 = .ok (.invokespecial 27, 3) := by decide +kernel
theorem wd_306 : (Jvm.Cond.instanceMethod ({ cls := "ParlourLeaves$Sentence", name := "<init>", desc := "()V" } : Jvm.MethodName)) ∈ zTB := List.mem_filter.mpr ⟨List.mem_append_right _ (List.mem_append_right _ (List.mem_append_left _ (List.mem_of_getElem? (i := 66) rfl))), rfl⟩
theorem wd_307 : (Jvm.Cond.code ({ cls := "ParlourLeaves$Sentence", name := "<init>", desc := "()V" } : Jvm.MethodName) prog_10_method_1_code (1 : Nat) (Option.none : Option Jvm.ClassFile.FieldType)) ∈ zTB := List.mem_filter.mpr ⟨List.mem_append_right _ (List.mem_append_right _ (List.mem_append_left _ (List.mem_of_getElem? (i := 67) rfl))), rfl⟩
theorem cj_X5_27 : zCJ RX5 "ParlourLeaves" 27 yX8_init cX8_init 1 0 := ⟨⟨by decide, by decide, by decide +kernel⟩, rfl, List.mem_of_getElem? (i := 3) rfl, wd_306, wd_11, wd_307⟩
theorem dX5_init_38 : decode cX5_init 38 = .ok (.putfield 28, 3) := by decide +kernel
theorem lf_X5_28 : zLqF RX5 28 6 2 (.object "ParlourLeaves$Sentence") := ⟨"ParlourLeaves$Image", RX5, TX5, 4, tyX5, rfl, by decide, wsin_X5, wd_333, rfl, rfl, rfl, by decide +kernel, tyX5_ok, nmX5⟩
theorem dX5_init_41 : decode cX5_init 41 = .ok (.return_, 1) := by decide +kernel
def bX5 (cy : Nat → ClassId) (q : Nat → Nat) : va_W := (q 0, .inr (6, [.ref (q 1), .ref (q 11), .ref (q 26), .int 0])) :: ((bX3 cy (fun i => q (1 + i)) ++ bX6 cy (q 1) (fun i => q (11 + i))) ++ bX8 cy (fun i => q (26 + i)))
theorem wd_298 : (Jvm.Cond.methodLink "ParlourLeaves$Image" (1 : Nat) ({ cls := "java/lang/Object", name := "<init>", desc := "()V" } : Jvm.MethodName)) ∈ zTB := List.mem_filter.mpr ⟨List.mem_append_right _ (List.mem_append_right _ (List.mem_append_left _ (List.mem_of_getElem? (i := 58) rfl))), rfl⟩
theorem dX5_init_0 : decode cX5_init 0 = .ok (.aload_n 0, 1) := by decide +kernel
theorem dX5_init_1 : decode cX5_init 1 = .ok (.invokespecial 1, 3) := by decide +kernel
set_option maxHeartbeats 1000000 in
set_option maxRecDepth 100000 in
theorem mX5_init {l : Launch} {D : va_G} {cy : Nat → ClassId} {kK kV : Nat → Nat} (a sz : Nat) : zMc l yX5_init cX5_init 1 { frames := 2, cells := 30, slots := 426, locals := 80 } [] D cy kK kV sz a (.inr (6, [.null, .null, .null, .int 0])) (bX5 cy) := by
  refine Met.ofW (cc := cX5_init) (maxL := 1) (ret := none) (by decide) rfl ?_
  intro p e s m args below meth c s₁ B hml hv
  obtain ⟨rfl, hsz, hP, hK, hE⟩ := hv
  have cx : zX RX5 cX5_init 1 p s m ([.ref a]).toArray c D cy := ⟨B.exec, B.bytes, hml, findClass_of_methodNamed B.named, fun w hw => atoms_spec (ws := Cond.code yX5_init cX5_init 1 none :: zTB) B.pre w (List.mem_cons_of_mem _ hw), hK⟩
  have hx := cx.1
  have hb := cx.2.1
  have hr := B.returns
  have hlk := B.notSynchronized
  have hin : meth.name = "<init>" := (name_of_methodNamed B.named B.method).1
  subst hsz
  have hD : va_D (va_A [(a, .inr (6, [.null, .null, .null, .int 0]))] s.heap.size) [(a, .inr (6, [.null, .null, .null, .int 0]))] := z_one (Or.inl ⟨0, _, rfl⟩)
  generalize hAe : va_A [(a, .inr (6, [.null, .null, .null, .int 0]))] s.heap.size = A at hD hE ⊢
  have hA : ∀ q, s.heap.size ≤ q → A q := fun q h => by rw [← hAe]; exact Or.inr h
  have hS : va_S A s.heap s.heap [] := va_S.rf
  have hl := lv_entry ([.ref a]) (n := 1) (Nat.le_of_ble_eq_true rfl)
  rw [lg_entry_eq]
  generalize (lg_sl ([.ref a]) ++ List.replicate (1 - (lg_sl ([.ref a])).length) Slot.unset).toArray = ls at hl ⊢
  have hl : lv_has ls 1 [(0, .ref a)] := hl
  refine lv_aload_n (pc := 0) hx hb dX5_init_0 rfl (lv_at hl 0 rfl) ?_
  refine W.objInit hx hb cx.2.2.2.1 (cx.2.2.2.2.1 _ wd_298) (cx.2.2.2.2.1 _ wd_36) (cx.2.2.2.2.1 _ wd_37) rfl (by rw [hml]; exact hl.1) rfl dX5_init_1 (Nat.le_of_ble_eq_true rfl) (Nat.le_of_ble_eq_true rfl) ?_
  refine W.eq (g2 := F0 m 4 ls []) rfl ?_
  refine lv_aload_n (pc := 4) hx hb dX5_init_4 rfl (lv_at hl 0 rfl) ?_
  have hP : va_P D vwCl ((a, .inr (6, [.null, .null, .null, .int 0])) :: ([] : va_W)) s.heap := hP
  have hD : va_D A ((a, .inr (6, [.null, .null, .null, .int 0])) :: ([] : va_W)) := hD
  refine zr_new (pc := 5) cx nw_X5_7 (N := 12) rfl hP hD hS hA (Nat.le_of_ble_eq_true rfl) (Nat.le_of_ble_eq_true rfl) dX5_init_5 (fun b1 H hP hD hS => ?_)
  refine lv_dup (pc := 8) hx hb dX5_init_8 rfl ?_
  refine zr_ctN (pc := 9) (As := []) (rest := [.ref b1, .ref a]) cx cj_X5_9 (mX3_init b1 H.size) ⟨Nat.le_of_ble_eq_true rfl, Nat.le_of_ble_eq_true rfl⟩ ⟨Nat.le_of_ble_eq_true rfl, Nat.le_of_ble_eq_true rfl⟩ hE hP hD hS hA hl.1 rfl rfl (Nat.le_of_ble_eq_true rfl) dX5_init_9 (fun u1 H locs hu1 hPn hDn hS => ?_)
  subst hu1
  have hP : va_P D vwCl ((a, .inr (6, [.null, .null, .null, .int 0])) :: (bX3 cy u1)) H := hPn
  have hD : va_D A ((a, .inr (6, [.null, .null, .null, .int 0])) :: (bX3 cy u1)) := hDn
  refine zr_putF (pc := 12) cx lf_X5_10 hin hP hD hS 0 (a := a) rfl (v := .ref (u1 0)) rfl rfl (Nat.le_of_ble_eq_true rfl) dX5_init_12 (fun H locs hP hD hS => ?_)
  have hP : va_P D vwCl ((a, .inr (6, [.ref (u1 0), .null, .null, .int 0])) :: (bX3 cy u1)) H := hP
  have hD : va_D A ((a, .inr (6, [.ref (u1 0), .null, .null, .int 0])) :: (bX3 cy u1)) := hD
  refine lv_aload_n (pc := 15) hx hb dX5_init_15 rfl (lv_at hl 0 rfl) ?_
  refine zr_new (pc := 16) cx nw_X5_16 (N := 11) rfl hP hD hS hA (Nat.le_of_ble_eq_true rfl) (Nat.le_of_ble_eq_true rfl) dX5_init_16 (fun b2 H hP hD hS => ?_)
  refine lv_dup (pc := 19) hx hb dX5_init_19 rfl ?_
  refine lv_aload_n (pc := 20) hx hb dX5_init_20 rfl (lv_at hl 0 rfl) ?_
  refine zr_gett (pc := 21) cx lk_X5_10 hP 0 (a := a) rfl (v := .ref (u1 0)) rfl dX5_init_21 ?_
  refine zr_ctI (pc := 24) (As := [.ref (u1 0)]) (rest := [.ref b2, .ref a]) cx ci_X5_18 (mX6_init (u1 0) b2 H.size) ⟨Nat.le_of_ble_eq_true rfl, Nat.le_of_ble_eq_true rfl⟩ ⟨Nat.le_of_ble_eq_true rfl, Nat.le_of_ble_eq_true rfl⟩ hE hP hD hS hA hl.1 rfl rfl (Nat.le_of_ble_eq_true rfl) dX5_init_24 (fun u2 H locs hu2 hPn hDn hS => ?_)
  subst hu2
  have hP : va_P D vwCl ((a, .inr (6, [.ref (u1 0), .null, .null, .int 0])) :: ((bX3 cy u1) ++ bX6 cy (u1 0) u2)) H := hPn
  have hD : va_D A ((a, .inr (6, [.ref (u1 0), .null, .null, .int 0])) :: ((bX3 cy u1) ++ bX6 cy (u1 0) u2)) := hDn
  refine zr_putF (pc := 27) cx lf_X5_21 hin hP hD hS 0 (a := a) rfl (v := .ref (u2 0)) rfl rfl (Nat.le_of_ble_eq_true rfl) dX5_init_27 (fun H locs hP hD hS => ?_)
  have hP : va_P D vwCl ((a, .inr (6, [.ref (u1 0), .ref (u2 0), .null, .int 0])) :: ((bX3 cy u1) ++ bX6 cy (u1 0) u2)) H := hP
  have hD : va_D A ((a, .inr (6, [.ref (u1 0), .ref (u2 0), .null, .int 0])) :: ((bX3 cy u1) ++ bX6 cy (u1 0) u2)) := hD
  refine lv_aload_n (pc := 30) hx hb dX5_init_30 rfl (lv_at hl 0 rfl) ?_
  refine zr_new (pc := 31) cx nw_X5_25 (N := 6) rfl hP hD hS hA (Nat.le_of_ble_eq_true rfl) (Nat.le_of_ble_eq_true rfl) dX5_init_31 (fun b3 H hP hD hS => ?_)
  refine lv_dup (pc := 34) hx hb dX5_init_34 rfl ?_
  refine zr_ctN (pc := 35) (As := []) (rest := [.ref b3, .ref a]) cx cj_X5_27 (mX8_init b3 H.size) ⟨Nat.le_of_ble_eq_true rfl, Nat.le_of_ble_eq_true rfl⟩ ⟨Nat.le_of_ble_eq_true rfl, Nat.le_of_ble_eq_true rfl⟩ hE hP hD hS hA hl.1 rfl rfl (Nat.le_of_ble_eq_true rfl) dX5_init_35 (fun u3 H locs hu3 hPn hDn hS => ?_)
  subst hu3
  have hP : va_P D vwCl ((a, .inr (6, [.ref (u1 0), .ref (u2 0), .null, .int 0])) :: (((bX3 cy u1) ++ bX6 cy (u1 0) u2) ++ bX8 cy u3)) H := hPn
  have hD : va_D A ((a, .inr (6, [.ref (u1 0), .ref (u2 0), .null, .int 0])) :: (((bX3 cy u1) ++ bX6 cy (u1 0) u2) ++ bX8 cy u3)) := hDn
  refine zr_putF (pc := 38) cx lf_X5_28 hin hP hD hS 0 (a := a) rfl (v := .ref (u3 0)) rfl rfl (Nat.le_of_ble_eq_true rfl) dX5_init_38 (fun H locs hP hD hS => ?_)
  have hP : va_P D vwCl ((a, .inr (6, [.ref (u1 0), .ref (u2 0), .ref (u3 0), .int 0])) :: (((bX3 cy u1) ++ bX6 cy (u1 0) u2) ++ bX8 cy u3)) H := hP
  have hD : va_D A ((a, .inr (6, [.ref (u1 0), .ref (u2 0), .ref (u3 0), .int 0])) :: (((bX3 cy u1) ++ bX6 cy (u1 0) u2) ++ bX8 cy u3)) := hD
  exact W.vret (pc := 41) hx hb hr (fun t ht hW => ⟨⟨(fun k => cond (Nat.blt k 1) (a) (cond (Nat.blt k 11) (u1 (k - 1)) (cond (Nat.blt k 26) (u2 (k - 11)) (u3 (k - 26))))), rfl, rfl, by rw [ht]; exact hP, hD⟩, hS.F ht⟩) hS.2.2 dX5_init_41
