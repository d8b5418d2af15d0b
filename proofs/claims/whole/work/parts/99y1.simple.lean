/-! constructors, printed by wip/gen/ctor2.py -/
theorem dX1_init_4 : decode cX1_init 4 = .ok (.return_, 1) := by decide +kernel
def bX1 (cy : Nat → ClassId) (q : Nat → Nat) : va_W := [((q 0), .inr (2, [.int 0]))]
theorem wd_469 : (Jvm.Cond.methodLink "ParlourLeaves$Draws" (3 : Nat) ({ cls := "java/lang/Object", name := "<init>", desc := "()V" } : Jvm.MethodName)) ∈ zTB := List.mem_filter.mpr ⟨List.mem_append_right _ (List.mem_append_right _ (List.mem_append_left _ (List.mem_of_getElem? (i := 229) rfl))), rfl⟩
theorem dX1_init_0 : decode cX1_init 0 = .ok (.aload_n 0, 1) := by decide +kernel
theorem dX1_init_1 : decode cX1_init 1 = .ok (.invokespecial 3, 3) := by decide +kernel
set_option maxHeartbeats 1000000 in
set_option maxRecDepth 100000 in
theorem mX1_init {l : Launch} {D : va_G} {cy : Nat → ClassId} {kK kV : Nat → Nat} (a sz : Nat) : zMc l yX1_init cX1_init 1 { frames := 1, cells := 0, slots := 0, locals := 39 } [] D cy kK kV sz a (.inr (2, [.int 0])) (bX1 cy) := by
  refine Met.ofW (cc := cX1_init) (maxL := 1) (ret := none) (by decide) rfl ?_
  intro p e s m args below meth c s₁ B hml hv
  obtain ⟨rfl, hsz, hP, hK, hE⟩ := hv
  have cx : zX RX1 cX1_init 1 p s m ([.ref a]).toArray c D cy := ⟨B.exec, B.bytes, hml, findClass_of_methodNamed B.named, fun w hw => atoms_spec (ws := Cond.code yX1_init cX1_init 1 none :: zTB) B.pre w (List.mem_cons_of_mem _ hw), hK⟩
  have hx := cx.1
  have hb := cx.2.1
  have hr := B.returns
  have hlk := B.notSynchronized
  have hin : meth.name = "<init>" := (name_of_methodNamed B.named B.method).1
  subst hsz
  have hD : va_D (va_A [(a, .inr (2, [.int 0]))] s.heap.size) [(a, .inr (2, [.int 0]))] := z_one (Or.inl ⟨0, _, rfl⟩)
  generalize hAe : va_A [(a, .inr (2, [.int 0]))] s.heap.size = A at hD hE ⊢
  have hA : ∀ q, s.heap.size ≤ q → A q := fun q h => by rw [← hAe]; exact Or.inr h
  have hS : va_S A s.heap s.heap [] := va_S.rf
  have hl := lv_entry ([.ref a]) (n := 1) (Nat.le_of_ble_eq_true rfl)
  rw [lg_entry_eq]
  generalize (lg_sl ([.ref a]) ++ List.replicate (1 - (lg_sl ([.ref a])).length) Slot.unset).toArray = ls at hl ⊢
  have hl : lv_has ls 1 [(0, .ref a)] := hl
  refine lv_aload_n (pc := 0) hx hb dX1_init_0 rfl (lv_at hl 0 rfl) ?_
  refine W.objInit hx hb cx.2.2.2.1 (cx.2.2.2.2.1 _ wd_469) (cx.2.2.2.2.1 _ wd_36) (cx.2.2.2.2.1 _ wd_37) rfl (by rw [hml]; exact hl.1) rfl dX1_init_1 (Nat.le_of_ble_eq_true rfl) (Nat.le_of_ble_eq_true rfl) ?_
  refine W.eq (g2 := F0 m 4 ls []) rfl ?_
  exact W.vret (pc := 4) hx hb hr (fun t ht hW => ⟨⟨(fun k => [a].getD k 0), rfl, rfl, by rw [ht]; exact hP, hD⟩, hS.F ht⟩) hS.2.2 dX1_init_4
theorem dX3_init_4 : decode cX3_init 4 = .ok (.aload_n 0, 1) := by decide +kernel
theorem dX3_init_5 : decode cX3_init 5 = .ok (.iconst 4, 1) := by decide +kernel
theorem dX3_init_6 : decode cX3_init 6 = .ok (.newarray .int, 2) := by decide +kernel
theorem dX3_init_8 : decode cX3_init 8 = .ok (.putfield 9, 3) := by decide +kernel
theorem lf_X3_9 : zLqF RX3 9 4 0 (.array .int) := ⟨"ParlourLeaves$House", RX3, TX3, 12, tyX3, rfl, by decide, wsin_X3, wd_147, rfl, rfl, rfl, by decide +kernel, tyX3_ok, nmX3⟩
theorem dX3_init_11 : decode cX3_init 11 = .ok (.aload_n 0, 1) := by decide +kernel
theorem dX3_init_12 : decode cX3_init 12 = .ok (.iconst 5, 1) := by decide +kernel
theorem dX3_init_13 : decode cX3_init 13 = .ok (.newarray .int, 2) := by decide +kernel
theorem dX3_init_15 : decode cX3_init 15 = .ok (.putfield 15, 3) := by decide +kernel
theorem lf_X3_15 : zLqF RX3 15 4 1 (.array .int) := ⟨"ParlourLeaves$House", RX3, TX3, 12, tyX3, rfl, by decide, wsin_X3, wd_154, rfl, rfl, rfl, by decide +kernel, tyX3_ok, nmX3⟩
theorem dX3_init_18 : decode cX3_init 18 = .ok (.aload_n 0, 1) := by decide +kernel
theorem dX3_init_19 : decode cX3_init 19 = .ok (.bipush 6, 2) := by decide +kernel
theorem dX3_init_21 : decode cX3_init 21 = .ok (.newarray .int, 2) := by decide +kernel
theorem dX3_init_23 : decode cX3_init 23 = .ok (.putfield 18, 3) := by decide +kernel
theorem lf_X3_18 : zLqF RX3 18 4 2 (.array .int) := ⟨"ParlourLeaves$House", RX3, TX3, 12, tyX3, rfl, by decide, wsin_X3, wd_158, rfl, rfl, rfl, by decide +kernel, tyX3_ok, nmX3⟩
theorem dX3_init_26 : decode cX3_init 26 = .ok (.aload_n 0, 1) := by decide +kernel
theorem dX3_init_27 : decode cX3_init 27 = .ok (.bipush 6, 2) := by decide +kernel
theorem dX3_init_29 : decode cX3_init 29 = .ok (.newarray .int, 2) := by decide +kernel
theorem dX3_init_31 : decode cX3_init 31 = .ok (.putfield 21, 3) := by decide +kernel
theorem lf_X3_21 : zLqF RX3 21 4 3 (.array .int) := ⟨"ParlourLeaves$House", RX3, TX3, 12, tyX3, rfl, by decide, wsin_X3, wd_161, rfl, rfl, rfl, by decide +kernel, tyX3_ok, nmX3⟩
theorem dX3_init_34 : decode cX3_init 34 = .ok (.aload_n 0, 1) := by decide +kernel
theorem dX3_init_35 : decode cX3_init 35 = .ok (.bipush 6, 2) := by decide +kernel
theorem dX3_init_37 : decode cX3_init 37 = .ok (.newarray .int, 2) := by decide +kernel
theorem dX3_init_39 : decode cX3_init 39 = .ok (.putfield 24, 3) := by decide +kernel
theorem lf_X3_24 : zLqF RX3 24 4 4 (.array .int) := ⟨"ParlourLeaves$House", RX3, TX3, 12, tyX3, rfl, by decide, wsin_X3, wd_165, rfl, rfl, rfl, by decide +kernel, tyX3_ok, nmX3⟩
theorem dX3_init_42 : decode cX3_init 42 = .ok (.aload_n 0, 1) := by decide +kernel
theorem dX3_init_43 : decode cX3_init 43 = .ok (.bipush 6, 2) := by decide +kernel
theorem dX3_init_45 : decode cX3_init 45 = .ok (.newarray .long, 2) := by decide +kernel
theorem dX3_init_47 : decode cX3_init 47 = .ok (.putfield 27, 3) := by decide +kernel
theorem lf_X3_27 : zLqF RX3 27 4 5 (.array .long) := ⟨"ParlourLeaves$House", RX3, TX3, 12, tyX3, rfl, by decide, wsin_X3, wd_170, rfl, rfl, rfl, by decide +kernel, tyX3_ok, nmX3⟩
theorem dX3_init_50 : decode cX3_init 50 = .ok (.aload_n 0, 1) := by decide +kernel
theorem dX3_init_51 : decode cX3_init 51 = .ok (.bipush 20, 2) := by decide +kernel
theorem dX3_init_53 : decode cX3_init 53 = .ok (.newarray .long, 2) := by decide +kernel
theorem dX3_init_55 : decode cX3_init 55 = .ok (.putfield 31, 3) := by decide +kernel
theorem lf_X3_31 : zLqF RX3 31 4 6 (.array .long) := ⟨"ParlourLeaves$House", RX3, TX3, 12, tyX3, rfl, by decide, wsin_X3, wd_171, rfl, rfl, rfl, by decide +kernel, tyX3_ok, nmX3⟩
theorem dX3_init_58 : decode cX3_init 58 = .ok (.aload_n 0, 1) := by decide +kernel
theorem dX3_init_59 : decode cX3_init 59 = .ok (.bipush 20, 2) := by decide +kernel
theorem dX3_init_61 : decode cX3_init 61 = .ok (.newarray .int, 2) := by decide +kernel
theorem dX3_init_63 : decode cX3_init 63 = .ok (.putfield 34, 3) := by decide +kernel
theorem lf_X3_34 : zLqF RX3 34 4 7 (.array .int) := ⟨"ParlourLeaves$House", RX3, TX3, 12, tyX3, rfl, by decide, wsin_X3, wd_172, rfl, rfl, rfl, by decide +kernel, tyX3_ok, nmX3⟩
theorem dX3_init_66 : decode cX3_init 66 = .ok (.aload_n 0, 1) := by decide +kernel
theorem dX3_init_67 : decode cX3_init 67 = .ok (.bipush 20, 2) := by decide +kernel
theorem dX3_init_69 : decode cX3_init 69 = .ok (.newarray .int, 2) := by decide +kernel
theorem dX3_init_71 : decode cX3_init 71 = .ok (.putfield 37, 3) := by decide +kernel
theorem lf_X3_37 : zLqF RX3 37 4 8 (.array .int) := ⟨"ParlourLeaves$House", RX3, TX3, 12, tyX3, rfl, by decide, wsin_X3, wd_174, rfl, rfl, rfl, by decide +kernel, tyX3_ok, nmX3⟩
theorem dX3_init_74 : decode cX3_init 74 = .ok (.aload_n 0, 1) := by decide +kernel
theorem dX3_init_75 : decode cX3_init 75 = .ok (.bipush 6, 2) := by decide +kernel
theorem dX3_init_77 : decode cX3_init 77 = .ok (.putfield 40, 3) := by decide +kernel
theorem dX3_init_80 : decode cX3_init 80 = .ok (.aload_n 0, 1) := by decide +kernel
theorem dX3_init_81 : decode cX3_init 81 = .ok (.iconst 2, 1) := by decide +kernel
theorem dX3_init_82 : decode cX3_init 82 = .ok (.putfield 44, 3) := by decide +kernel
theorem dX3_init_85 : decode cX3_init 85 = .ok (.return_, 1) := by decide +kernel
def bX3 (cy : Nat → ClassId) (q : Nat → Nat) : va_W := [((q 0), .inr (4, [.ref (q 1), .ref (q 2), .ref (q 3), .ref (q 4), .ref (q 5), .ref (q 6), .ref (q 7), .ref (q 8), .ref (q 9), .int 0, .int 6, .int 2])), ((q 1), .inl (cy 0, 4, .inl (fun _ => 0))), ((q 2), .inl (cy 0, 5, .inl (fun _ => 0))), ((q 3), .inl (cy 0, 6, .inl (fun _ => 0))), ((q 4), .inl (cy 0, 6, .inl (fun _ => 0))), ((q 5), .inl (cy 0, 6, .inl (fun _ => 0))), ((q 6), .inl (cy 1, 6, .inr (.inl (fun _ => 0)))), ((q 7), .inl (cy 1, 20, .inr (.inl (fun _ => 0)))), ((q 8), .inl (cy 0, 20, .inl (fun _ => 0))), ((q 9), .inl (cy 0, 20, .inl (fun _ => 0)))]
theorem wd_146 : (Jvm.Cond.methodLink "ParlourLeaves$House" (3 : Nat) ({ cls := "java/lang/Object", name := "<init>", desc := "()V" } : Jvm.MethodName)) ∈ zTB := List.mem_filter.mpr ⟨List.mem_append_right _ (List.mem_append_left _ (List.mem_of_getElem? (i := 146) rfl)), rfl⟩
theorem dX3_init_0 : decode cX3_init 0 = .ok (.aload_n 0, 1) := by decide +kernel
theorem dX3_init_1 : decode cX3_init 1 = .ok (.invokespecial 3, 3) := by decide +kernel
set_option maxHeartbeats 1000000 in
set_option maxRecDepth 100000 in
theorem mX3_init {l : Launch} {D : va_G} {cy : Nat → ClassId} {kK kV : Nat → Nat} (a sz : Nat) : zMc l yX3_init cX3_init 1 { frames := 1, cells := 9, slots := 93, locals := 39 } [] D cy kK kV sz a (.inr (4, [.null, .null, .null, .null, .null, .null, .null, .null, .null, .int 0, .int 0, .int 0])) (bX3 cy) := by
  refine Met.ofW (cc := cX3_init) (maxL := 1) (ret := none) (by decide) rfl ?_
  intro p e s m args below meth c s₁ B hml hv
  obtain ⟨rfl, hsz, hP, hK, hE⟩ := hv
  have cx : zX RX3 cX3_init 1 p s m ([.ref a]).toArray c D cy := ⟨B.exec, B.bytes, hml, findClass_of_methodNamed B.named, fun w hw => atoms_spec (ws := Cond.code yX3_init cX3_init 1 none :: zTB) B.pre w (List.mem_cons_of_mem _ hw), hK⟩
  have hx := cx.1
  have hb := cx.2.1
  have hr := B.returns
  have hlk := B.notSynchronized
  have hin : meth.name = "<init>" := (name_of_methodNamed B.named B.method).1
  subst hsz
  have hD : va_D (va_A [(a, .inr (4, [.null, .null, .null, .null, .null, .null, .null, .null, .null, .int 0, .int 0, .int 0]))] s.heap.size) [(a, .inr (4, [.null, .null, .null, .null, .null, .null, .null, .null, .null, .int 0, .int 0, .int 0]))] := z_one (Or.inl ⟨0, _, rfl⟩)
  generalize hAe : va_A [(a, .inr (4, [.null, .null, .null, .null, .null, .null, .null, .null, .null, .int 0, .int 0, .int 0]))] s.heap.size = A at hD hE ⊢
  have hA : ∀ q, s.heap.size ≤ q → A q := fun q h => by rw [← hAe]; exact Or.inr h
  have hS : va_S A s.heap s.heap [] := va_S.rf
  have hl := lv_entry ([.ref a]) (n := 1) (Nat.le_of_ble_eq_true rfl)
  rw [lg_entry_eq]
  generalize (lg_sl ([.ref a]) ++ List.replicate (1 - (lg_sl ([.ref a])).length) Slot.unset).toArray = ls at hl ⊢
  have hl : lv_has ls 1 [(0, .ref a)] := hl
  refine lv_aload_n (pc := 0) hx hb dX3_init_0 rfl (lv_at hl 0 rfl) ?_
  refine W.objInit hx hb cx.2.2.2.1 (cx.2.2.2.2.1 _ wd_146) (cx.2.2.2.2.1 _ wd_36) (cx.2.2.2.2.1 _ wd_37) rfl (by rw [hml]; exact hl.1) rfl dX3_init_1 (Nat.le_of_ble_eq_true rfl) (Nat.le_of_ble_eq_true rfl) ?_
  refine W.eq (g2 := F0 m 4 ls []) rfl ?_
  refine lv_aload_n (pc := 4) hx hb dX3_init_4 rfl (lv_at hl 0 rfl) ?_
  refine lv_iconst (pc := 5) hx hb dX3_init_5 zc_4 ?_
  refine zr_newa (pc := 6) cx (atype := .int) (t := 0) (ty := .int) rfl rfl (fun _ _ => rfl) wd_212 hP hD hS hA (n := 4) (N' := 4) (a0 := (4, .inl (fun _ => 0))) (fun _ => rfl) (by decide) (by decide) (by decide) (Nat.le_of_ble_eq_true rfl) (Nat.le_of_ble_eq_true rfl) dX3_init_6 (fun q1 H hP hD hS => ?_)
  have hP : va_P D vwCl [(a, .inr (4, [.null, .null, .null, .null, .null, .null, .null, .null, .null, .int 0, .int 0, .int 0])), (q1, .inl (cy 0, 4, .inl (fun _ => 0)))] H := hP
  have hD : va_D A [(a, .inr (4, [.null, .null, .null, .null, .null, .null, .null, .null, .null, .int 0, .int 0, .int 0])), (q1, .inl (cy 0, 4, .inl (fun _ => 0)))] := hD
  refine zr_putF (pc := 8) cx lf_X3_9 hin hP hD hS 0 (a := a) rfl (v := .ref q1) rfl rfl (Nat.le_of_ble_eq_true rfl) dX3_init_8 (fun H locs hP hD hS => ?_)
  have hP : va_P D vwCl [(a, .inr (4, [.ref q1, .null, .null, .null, .null, .null, .null, .null, .null, .int 0, .int 0, .int 0])), (q1, .inl (cy 0, 4, .inl (fun _ => 0)))] H := hP
  have hD : va_D A [(a, .inr (4, [.ref q1, .null, .null, .null, .null, .null, .null, .null, .null, .int 0, .int 0, .int 0])), (q1, .inl (cy 0, 4, .inl (fun _ => 0)))] := hD
  refine lv_aload_n (pc := 11) hx hb dX3_init_11 rfl (lv_at hl 0 rfl) ?_
  refine lv_iconst (pc := 12) hx hb dX3_init_12 zc_5 ?_
  refine zr_newa (pc := 13) cx (atype := .int) (t := 0) (ty := .int) rfl rfl (fun _ _ => rfl) wd_212 hP hD hS hA (n := 5) (N' := 5) (a0 := (5, .inl (fun _ => 0))) (fun _ => rfl) (by decide) (by decide) (by decide) (Nat.le_of_ble_eq_true rfl) (Nat.le_of_ble_eq_true rfl) dX3_init_13 (fun q2 H hP hD hS => ?_)
  have hP : va_P D vwCl [(a, .inr (4, [.ref q1, .null, .null, .null, .null, .null, .null, .null, .null, .int 0, .int 0, .int 0])), (q1, .inl (cy 0, 4, .inl (fun _ => 0))), (q2, .inl (cy 0, 5, .inl (fun _ => 0)))] H := hP
  have hD : va_D A [(a, .inr (4, [.ref q1, .null, .null, .null, .null, .null, .null, .null, .null, .int 0, .int 0, .int 0])), (q1, .inl (cy 0, 4, .inl (fun _ => 0))), (q2, .inl (cy 0, 5, .inl (fun _ => 0)))] := hD
  refine zr_putF (pc := 15) cx lf_X3_15 hin hP hD hS 0 (a := a) rfl (v := .ref q2) rfl rfl (Nat.le_of_ble_eq_true rfl) dX3_init_15 (fun H locs hP hD hS => ?_)
  have hP : va_P D vwCl [(a, .inr (4, [.ref q1, .ref q2, .null, .null, .null, .null, .null, .null, .null, .int 0, .int 0, .int 0])), (q1, .inl (cy 0, 4, .inl (fun _ => 0))), (q2, .inl (cy 0, 5, .inl (fun _ => 0)))] H := hP
  have hD : va_D A [(a, .inr (4, [.ref q1, .ref q2, .null, .null, .null, .null, .null, .null, .null, .int 0, .int 0, .int 0])), (q1, .inl (cy 0, 4, .inl (fun _ => 0))), (q2, .inl (cy 0, 5, .inl (fun _ => 0)))] := hD
  refine lv_aload_n (pc := 18) hx hb dX3_init_18 rfl (lv_at hl 0 rfl) ?_
  refine lv_bipush (pc := 19) hx hb dX3_init_19 zb_6 ?_
  refine zr_newa (pc := 21) cx (atype := .int) (t := 0) (ty := .int) rfl rfl (fun _ _ => rfl) wd_212 hP hD hS hA (n := 6) (N' := 6) (a0 := (6, .inl (fun _ => 0))) (fun _ => rfl) (by decide) (by decide) (by decide) (Nat.le_of_ble_eq_true rfl) (Nat.le_of_ble_eq_true rfl) dX3_init_21 (fun q3 H hP hD hS => ?_)
  have hP : va_P D vwCl [(a, .inr (4, [.ref q1, .ref q2, .null, .null, .null, .null, .null, .null, .null, .int 0, .int 0, .int 0])), (q1, .inl (cy 0, 4, .inl (fun _ => 0))), (q2, .inl (cy 0, 5, .inl (fun _ => 0))), (q3, .inl (cy 0, 6, .inl (fun _ => 0)))] H := hP
  have hD : va_D A [(a, .inr (4, [.ref q1, .ref q2, .null, .null, .null, .null, .null, .null, .null, .int 0, .int 0, .int 0])), (q1, .inl (cy 0, 4, .inl (fun _ => 0))), (q2, .inl (cy 0, 5, .inl (fun _ => 0))), (q3, .inl (cy 0, 6, .inl (fun _ => 0)))] := hD
  refine zr_putF (pc := 23) cx lf_X3_18 hin hP hD hS 0 (a := a) rfl (v := .ref q3) rfl rfl (Nat.le_of_ble_eq_true rfl) dX3_init_23 (fun H locs hP hD hS => ?_)
  have hP : va_P D vwCl [(a, .inr (4, [.ref q1, .ref q2, .ref q3, .null, .null, .null, .null, .null, .null, .int 0, .int 0, .int 0])), (q1, .inl (cy 0, 4, .inl (fun _ => 0))), (q2, .inl (cy 0, 5, .inl (fun _ => 0))), (q3, .inl (cy 0, 6, .inl (fun _ => 0)))] H := hP
  have hD : va_D A [(a, .inr (4, [.ref q1, .ref q2, .ref q3, .null, .null, .null, .null, .null, .null, .int 0, .int 0, .int 0])), (q1, .inl (cy 0, 4, .inl (fun _ => 0))), (q2, .inl (cy 0, 5, .inl (fun _ => 0))), (q3, .inl (cy 0, 6, .inl (fun _ => 0)))] := hD
  refine lv_aload_n (pc := 26) hx hb dX3_init_26 rfl (lv_at hl 0 rfl) ?_
  refine lv_bipush (pc := 27) hx hb dX3_init_27 zb_6 ?_
  refine zr_newa (pc := 29) cx (atype := .int) (t := 0) (ty := .int) rfl rfl (fun _ _ => rfl) wd_212 hP hD hS hA (n := 6) (N' := 6) (a0 := (6, .inl (fun _ => 0))) (fun _ => rfl) (by decide) (by decide) (by decide) (Nat.le_of_ble_eq_true rfl) (Nat.le_of_ble_eq_true rfl) dX3_init_29 (fun q4 H hP hD hS => ?_)
  have hP : va_P D vwCl [(a, .inr (4, [.ref q1, .ref q2, .ref q3, .null, .null, .null, .null, .null, .null, .int 0, .int 0, .int 0])), (q1, .inl (cy 0, 4, .inl (fun _ => 0))), (q2, .inl (cy 0, 5, .inl (fun _ => 0))), (q3, .inl (cy 0, 6, .inl (fun _ => 0))), (q4, .inl (cy 0, 6, .inl (fun _ => 0)))] H := hP
  have hD : va_D A [(a, .inr (4, [.ref q1, .ref q2, .ref q3, .null, .null, .null, .null, .null, .null, .int 0, .int 0, .int 0])), (q1, .inl (cy 0, 4, .inl (fun _ => 0))), (q2, .inl (cy 0, 5, .inl (fun _ => 0))), (q3, .inl (cy 0, 6, .inl (fun _ => 0))), (q4, .inl (cy 0, 6, .inl (fun _ => 0)))] := hD
  refine zr_putF (pc := 31) cx lf_X3_21 hin hP hD hS 0 (a := a) rfl (v := .ref q4) rfl rfl (Nat.le_of_ble_eq_true rfl) dX3_init_31 (fun H locs hP hD hS => ?_)
  have hP : va_P D vwCl [(a, .inr (4, [.ref q1, .ref q2, .ref q3, .ref q4, .null, .null, .null, .null, .null, .int 0, .int 0, .int 0])), (q1, .inl (cy 0, 4, .inl (fun _ => 0))), (q2, .inl (cy 0, 5, .inl (fun _ => 0))), (q3, .inl (cy 0, 6, .inl (fun _ => 0))), (q4, .inl (cy 0, 6, .inl (fun _ => 0)))] H := hP
  have hD : va_D A [(a, .inr (4, [.ref q1, .ref q2, .ref q3, .ref q4, .null, .null, .null, .null, .null, .int 0, .int 0, .int 0])), (q1, .inl (cy 0, 4, .inl (fun _ => 0))), (q2, .inl (cy 0, 5, .inl (fun _ => 0))), (q3, .inl (cy 0, 6, .inl (fun _ => 0))), (q4, .inl (cy 0, 6, .inl (fun _ => 0)))] := hD
  refine lv_aload_n (pc := 34) hx hb dX3_init_34 rfl (lv_at hl 0 rfl) ?_
  refine lv_bipush (pc := 35) hx hb dX3_init_35 zb_6 ?_
  refine zr_newa (pc := 37) cx (atype := .int) (t := 0) (ty := .int) rfl rfl (fun _ _ => rfl) wd_212 hP hD hS hA (n := 6) (N' := 6) (a0 := (6, .inl (fun _ => 0))) (fun _ => rfl) (by decide) (by decide) (by decide) (Nat.le_of_ble_eq_true rfl) (Nat.le_of_ble_eq_true rfl) dX3_init_37 (fun q5 H hP hD hS => ?_)
  have hP : va_P D vwCl [(a, .inr (4, [.ref q1, .ref q2, .ref q3, .ref q4, .null, .null, .null, .null, .null, .int 0, .int 0, .int 0])), (q1, .inl (cy 0, 4, .inl (fun _ => 0))), (q2, .inl (cy 0, 5, .inl (fun _ => 0))), (q3, .inl (cy 0, 6, .inl (fun _ => 0))), (q4, .inl (cy 0, 6, .inl (fun _ => 0))), (q5, .inl (cy 0, 6, .inl (fun _ => 0)))] H := hP
  have hD : va_D A [(a, .inr (4, [.ref q1, .ref q2, .ref q3, .ref q4, .null, .null, .null, .null, .null, .int 0, .int 0, .int 0])), (q1, .inl (cy 0, 4, .inl (fun _ => 0))), (q2, .inl (cy 0, 5, .inl (fun _ => 0))), (q3, .inl (cy 0, 6, .inl (fun _ => 0))), (q4, .inl (cy 0, 6, .inl (fun _ => 0))), (q5, .inl (cy 0, 6, .inl (fun _ => 0)))] := hD
  refine zr_putF (pc := 39) cx lf_X3_24 hin hP hD hS 0 (a := a) rfl (v := .ref q5) rfl rfl (Nat.le_of_ble_eq_true rfl) dX3_init_39 (fun H locs hP hD hS => ?_)
  have hP : va_P D vwCl [(a, .inr (4, [.ref q1, .ref q2, .ref q3, .ref q4, .ref q5, .null, .null, .null, .null, .int 0, .int 0, .int 0])), (q1, .inl (cy 0, 4, .inl (fun _ => 0))), (q2, .inl (cy 0, 5, .inl (fun _ => 0))), (q3, .inl (cy 0, 6, .inl (fun _ => 0))), (q4, .inl (cy 0, 6, .inl (fun _ => 0))), (q5, .inl (cy 0, 6, .inl (fun _ => 0)))] H := hP
  have hD : va_D A [(a, .inr (4, [.ref q1, .ref q2, .ref q3, .ref q4, .ref q5, .null, .null, .null, .null, .int 0, .int 0, .int 0])), (q1, .inl (cy 0, 4, .inl (fun _ => 0))), (q2, .inl (cy 0, 5, .inl (fun _ => 0))), (q3, .inl (cy 0, 6, .inl (fun _ => 0))), (q4, .inl (cy 0, 6, .inl (fun _ => 0))), (q5, .inl (cy 0, 6, .inl (fun _ => 0)))] := hD
  refine lv_aload_n (pc := 42) hx hb dX3_init_42 rfl (lv_at hl 0 rfl) ?_
  refine lv_bipush (pc := 43) hx hb dX3_init_43 zb_6 ?_
  refine zr_newa (pc := 45) cx (atype := .long) (t := 1) (ty := .long) rfl rfl (fun _ _ => rfl) wd_139 hP hD hS hA (n := 6) (N' := 6) (a0 := (6, .inr (.inl (fun _ => 0)))) (fun _ => rfl) (by decide) (by decide) (by decide) (Nat.le_of_ble_eq_true rfl) (Nat.le_of_ble_eq_true rfl) dX3_init_45 (fun q6 H hP hD hS => ?_)
  have hP : va_P D vwCl [(a, .inr (4, [.ref q1, .ref q2, .ref q3, .ref q4, .ref q5, .null, .null, .null, .null, .int 0, .int 0, .int 0])), (q1, .inl (cy 0, 4, .inl (fun _ => 0))), (q2, .inl (cy 0, 5, .inl (fun _ => 0))), (q3, .inl (cy 0, 6, .inl (fun _ => 0))), (q4, .inl (cy 0, 6, .inl (fun _ => 0))), (q5, .inl (cy 0, 6, .inl (fun _ => 0))), (q6, .inl (cy 1, 6, .inr (.inl (fun _ => 0))))] H := hP
  have hD : va_D A [(a, .inr (4, [.ref q1, .ref q2, .ref q3, .ref q4, .ref q5, .null, .null, .null, .null, .int 0, .int 0, .int 0])), (q1, .inl (cy 0, 4, .inl (fun _ => 0))), (q2, .inl (cy 0, 5, .inl (fun _ => 0))), (q3, .inl (cy 0, 6, .inl (fun _ => 0))), (q4, .inl (cy 0, 6, .inl (fun _ => 0))), (q5, .inl (cy 0, 6, .inl (fun _ => 0))), (q6, .inl (cy 1, 6, .inr (.inl (fun _ => 0))))] := hD
  refine zr_putF (pc := 47) cx lf_X3_27 hin hP hD hS 0 (a := a) rfl (v := .ref q6) rfl rfl (Nat.le_of_ble_eq_true rfl) dX3_init_47 (fun H locs hP hD hS => ?_)
  have hP : va_P D vwCl [(a, .inr (4, [.ref q1, .ref q2, .ref q3, .ref q4, .ref q5, .ref q6, .null, .null, .null, .int 0, .int 0, .int 0])), (q1, .inl (cy 0, 4, .inl (fun _ => 0))), (q2, .inl (cy 0, 5, .inl (fun _ => 0))), (q3, .inl (cy 0, 6, .inl (fun _ => 0))), (q4, .inl (cy 0, 6, .inl (fun _ => 0))), (q5, .inl (cy 0, 6, .inl (fun _ => 0))), (q6, .inl (cy 1, 6, .inr (.inl (fun _ => 0))))] H := hP
  have hD : va_D A [(a, .inr (4, [.ref q1, .ref q2, .ref q3, .ref q4, .ref q5, .ref q6, .null, .null, .null, .int 0, .int 0, .int 0])), (q1, .inl (cy 0, 4, .inl (fun _ => 0))), (q2, .inl (cy 0, 5, .inl (fun _ => 0))), (q3, .inl (cy 0, 6, .inl (fun _ => 0))), (q4, .inl (cy 0, 6, .inl (fun _ => 0))), (q5, .inl (cy 0, 6, .inl (fun _ => 0))), (q6, .inl (cy 1, 6, .inr (.inl (fun _ => 0))))] := hD
  refine lv_aload_n (pc := 50) hx hb dX3_init_50 rfl (lv_at hl 0 rfl) ?_
  refine lv_bipush (pc := 51) hx hb dX3_init_51 zb_20 ?_
  refine zr_newa (pc := 53) cx (atype := .long) (t := 1) (ty := .long) rfl rfl (fun _ _ => rfl) wd_139 hP hD hS hA (n := 20) (N' := 20) (a0 := (20, .inr (.inl (fun _ => 0)))) (fun _ => rfl) (by decide) (by decide) (by decide) (Nat.le_of_ble_eq_true rfl) (Nat.le_of_ble_eq_true rfl) dX3_init_53 (fun q7 H hP hD hS => ?_)
  have hP : va_P D vwCl [(a, .inr (4, [.ref q1, .ref q2, .ref q3, .ref q4, .ref q5, .ref q6, .null, .null, .null, .int 0, .int 0, .int 0])), (q1, .inl (cy 0, 4, .inl (fun _ => 0))), (q2, .inl (cy 0, 5, .inl (fun _ => 0))), (q3, .inl (cy 0, 6, .inl (fun _ => 0))), (q4, .inl (cy 0, 6, .inl (fun _ => 0))), (q5, .inl (cy 0, 6, .inl (fun _ => 0))), (q6, .inl (cy 1, 6, .inr (.inl (fun _ => 0)))), (q7, .inl (cy 1, 20, .inr (.inl (fun _ => 0))))] H := hP
  have hD : va_D A [(a, .inr (4, [.ref q1, .ref q2, .ref q3, .ref q4, .ref q5, .ref q6, .null, .null, .null, .int 0, .int 0, .int 0])), (q1, .inl (cy 0, 4, .inl (fun _ => 0))), (q2, .inl (cy 0, 5, .inl (fun _ => 0))), (q3, .inl (cy 0, 6, .inl (fun _ => 0))), (q4, .inl (cy 0, 6, .inl (fun _ => 0))), (q5, .inl (cy 0, 6, .inl (fun _ => 0))), (q6, .inl (cy 1, 6, .inr (.inl (fun _ => 0)))), (q7, .inl (cy 1, 20, .inr (.inl (fun _ => 0))))] := hD
  refine zr_putF (pc := 55) cx lf_X3_31 hin hP hD hS 0 (a := a) rfl (v := .ref q7) rfl rfl (Nat.le_of_ble_eq_true rfl) dX3_init_55 (fun H locs hP hD hS => ?_)
  have hP : va_P D vwCl [(a, .inr (4, [.ref q1, .ref q2, .ref q3, .ref q4, .ref q5, .ref q6, .ref q7, .null, .null, .int 0, .int 0, .int 0])), (q1, .inl (cy 0, 4, .inl (fun _ => 0))), (q2, .inl (cy 0, 5, .inl (fun _ => 0))), (q3, .inl (cy 0, 6, .inl (fun _ => 0))), (q4, .inl (cy 0, 6, .inl (fun _ => 0))), (q5, .inl (cy 0, 6, .inl (fun _ => 0))), (q6, .inl (cy 1, 6, .inr (.inl (fun _ => 0)))), (q7, .inl (cy 1, 20, .inr (.inl (fun _ => 0))))] H := hP
  have hD : va_D A [(a, .inr (4, [.ref q1, .ref q2, .ref q3, .ref q4, .ref q5, .ref q6, .ref q7, .null, .null, .int 0, .int 0, .int 0])), (q1, .inl (cy 0, 4, .inl (fun _ => 0))), (q2, .inl (cy 0, 5, .inl (fun _ => 0))), (q3, .inl (cy 0, 6, .inl (fun _ => 0))), (q4, .inl (cy 0, 6, .inl (fun _ => 0))), (q5, .inl (cy 0, 6, .inl (fun _ => 0))), (q6, .inl (cy 1, 6, .inr (.inl (fun _ => 0)))), (q7, .inl (cy 1, 20, .inr (.inl (fun _ => 0))))] := hD
  refine lv_aload_n (pc := 58) hx hb dX3_init_58 rfl (lv_at hl 0 rfl) ?_
  refine lv_bipush (pc := 59) hx hb dX3_init_59 zb_20 ?_
  refine zr_newa (pc := 61) cx (atype := .int) (t := 0) (ty := .int) rfl rfl (fun _ _ => rfl) wd_212 hP hD hS hA (n := 20) (N' := 20) (a0 := (20, .inl (fun _ => 0))) (fun _ => rfl) (by decide) (by decide) (by decide) (Nat.le_of_ble_eq_true rfl) (Nat.le_of_ble_eq_true rfl) dX3_init_61 (fun q8 H hP hD hS => ?_)
  have hP : va_P D vwCl [(a, .inr (4, [.ref q1, .ref q2, .ref q3, .ref q4, .ref q5, .ref q6, .ref q7, .null, .null, .int 0, .int 0, .int 0])), (q1, .inl (cy 0, 4, .inl (fun _ => 0))), (q2, .inl (cy 0, 5, .inl (fun _ => 0))), (q3, .inl (cy 0, 6, .inl (fun _ => 0))), (q4, .inl (cy 0, 6, .inl (fun _ => 0))), (q5, .inl (cy 0, 6, .inl (fun _ => 0))), (q6, .inl (cy 1, 6, .inr (.inl (fun _ => 0)))), (q7, .inl (cy 1, 20, .inr (.inl (fun _ => 0)))), (q8, .inl (cy 0, 20, .inl (fun _ => 0)))] H := hP
  have hD : va_D A [(a, .inr (4, [.ref q1, .ref q2, .ref q3, .ref q4, .ref q5, .ref q6, .ref q7, .null, .null, .int 0, .int 0, .int 0])), (q1, .inl (cy 0, 4, .inl (fun _ => 0))), (q2, .inl (cy 0, 5, .inl (fun _ => 0))), (q3, .inl (cy 0, 6, .inl (fun _ => 0))), (q4, .inl (cy 0, 6, .inl (fun _ => 0))), (q5, .inl (cy 0, 6, .inl (fun _ => 0))), (q6, .inl (cy 1, 6, .inr (.inl (fun _ => 0)))), (q7, .inl (cy 1, 20, .inr (.inl (fun _ => 0)))), (q8, .inl (cy 0, 20, .inl (fun _ => 0)))] := hD
  refine zr_putF (pc := 63) cx lf_X3_34 hin hP hD hS 0 (a := a) rfl (v := .ref q8) rfl rfl (Nat.le_of_ble_eq_true rfl) dX3_init_63 (fun H locs hP hD hS => ?_)
  have hP : va_P D vwCl [(a, .inr (4, [.ref q1, .ref q2, .ref q3, .ref q4, .ref q5, .ref q6, .ref q7, .ref q8, .null, .int 0, .int 0, .int 0])), (q1, .inl (cy 0, 4, .inl (fun _ => 0))), (q2, .inl (cy 0, 5, .inl (fun _ => 0))), (q3, .inl (cy 0, 6, .inl (fun _ => 0))), (q4, .inl (cy 0, 6, .inl (fun _ => 0))), (q5, .inl (cy 0, 6, .inl (fun _ => 0))), (q6, .inl (cy 1, 6, .inr (.inl (fun _ => 0)))), (q7, .inl (cy 1, 20, .inr (.inl (fun _ => 0)))), (q8, .inl (cy 0, 20, .inl (fun _ => 0)))] H := hP
  have hD : va_D A [(a, .inr (4, [.ref q1, .ref q2, .ref q3, .ref q4, .ref q5, .ref q6, .ref q7, .ref q8, .null, .int 0, .int 0, .int 0])), (q1, .inl (cy 0, 4, .inl (fun _ => 0))), (q2, .inl (cy 0, 5, .inl (fun _ => 0))), (q3, .inl (cy 0, 6, .inl (fun _ => 0))), (q4, .inl (cy 0, 6, .inl (fun _ => 0))), (q5, .inl (cy 0, 6, .inl (fun _ => 0))), (q6, .inl (cy 1, 6, .inr (.inl (fun _ => 0)))), (q7, .inl (cy 1, 20, .inr (.inl (fun _ => 0)))), (q8, .inl (cy 0, 20, .inl (fun _ => 0)))] := hD
  refine lv_aload_n (pc := 66) hx hb dX3_init_66 rfl (lv_at hl 0 rfl) ?_
  refine lv_bipush (pc := 67) hx hb dX3_init_67 zb_20 ?_
  refine zr_newa (pc := 69) cx (atype := .int) (t := 0) (ty := .int) rfl rfl (fun _ _ => rfl) wd_212 hP hD hS hA (n := 20) (N' := 20) (a0 := (20, .inl (fun _ => 0))) (fun _ => rfl) (by decide) (by decide) (by decide) (Nat.le_of_ble_eq_true rfl) (Nat.le_of_ble_eq_true rfl) dX3_init_69 (fun q9 H hP hD hS => ?_)
  have hP : va_P D vwCl [(a, .inr (4, [.ref q1, .ref q2, .ref q3, .ref q4, .ref q5, .ref q6, .ref q7, .ref q8, .null, .int 0, .int 0, .int 0])), (q1, .inl (cy 0, 4, .inl (fun _ => 0))), (q2, .inl (cy 0, 5, .inl (fun _ => 0))), (q3, .inl (cy 0, 6, .inl (fun _ => 0))), (q4, .inl (cy 0, 6, .inl (fun _ => 0))), (q5, .inl (cy 0, 6, .inl (fun _ => 0))), (q6, .inl (cy 1, 6, .inr (.inl (fun _ => 0)))), (q7, .inl (cy 1, 20, .inr (.inl (fun _ => 0)))), (q8, .inl (cy 0, 20, .inl (fun _ => 0))), (q9, .inl (cy 0, 20, .inl (fun _ => 0)))] H := hP
  have hD : va_D A [(a, .inr (4, [.ref q1, .ref q2, .ref q3, .ref q4, .ref q5, .ref q6, .ref q7, .ref q8, .null, .int 0, .int 0, .int 0])), (q1, .inl (cy 0, 4, .inl (fun _ => 0))), (q2, .inl (cy 0, 5, .inl (fun _ => 0))), (q3, .inl (cy 0, 6, .inl (fun _ => 0))), (q4, .inl (cy 0, 6, .inl (fun _ => 0))), (q5, .inl (cy 0, 6, .inl (fun _ => 0))), (q6, .inl (cy 1, 6, .inr (.inl (fun _ => 0)))), (q7, .inl (cy 1, 20, .inr (.inl (fun _ => 0)))), (q8, .inl (cy 0, 20, .inl (fun _ => 0))), (q9, .inl (cy 0, 20, .inl (fun _ => 0)))] := hD
  refine zr_putF (pc := 71) cx lf_X3_37 hin hP hD hS 0 (a := a) rfl (v := .ref q9) rfl rfl (Nat.le_of_ble_eq_true rfl) dX3_init_71 (fun H locs hP hD hS => ?_)
  have hP : va_P D vwCl [(a, .inr (4, [.ref q1, .ref q2, .ref q3, .ref q4, .ref q5, .ref q6, .ref q7, .ref q8, .ref q9, .int 0, .int 0, .int 0])), (q1, .inl (cy 0, 4, .inl (fun _ => 0))), (q2, .inl (cy 0, 5, .inl (fun _ => 0))), (q3, .inl (cy 0, 6, .inl (fun _ => 0))), (q4, .inl (cy 0, 6, .inl (fun _ => 0))), (q5, .inl (cy 0, 6, .inl (fun _ => 0))), (q6, .inl (cy 1, 6, .inr (.inl (fun _ => 0)))), (q7, .inl (cy 1, 20, .inr (.inl (fun _ => 0)))), (q8, .inl (cy 0, 20, .inl (fun _ => 0))), (q9, .inl (cy 0, 20, .inl (fun _ => 0)))] H := hP
  have hD : va_D A [(a, .inr (4, [.ref q1, .ref q2, .ref q3, .ref q4, .ref q5, .ref q6, .ref q7, .ref q8, .ref q9, .int 0, .int 0, .int 0])), (q1, .inl (cy 0, 4, .inl (fun _ => 0))), (q2, .inl (cy 0, 5, .inl (fun _ => 0))), (q3, .inl (cy 0, 6, .inl (fun _ => 0))), (q4, .inl (cy 0, 6, .inl (fun _ => 0))), (q5, .inl (cy 0, 6, .inl (fun _ => 0))), (q6, .inl (cy 1, 6, .inr (.inl (fun _ => 0)))), (q7, .inl (cy 1, 20, .inr (.inl (fun _ => 0)))), (q8, .inl (cy 0, 20, .inl (fun _ => 0))), (q9, .inl (cy 0, 20, .inl (fun _ => 0)))] := hD
  refine lv_aload_n (pc := 74) hx hb dX3_init_74 rfl (lv_at hl 0 rfl) ?_
  refine lv_bipush (pc := 75) hx hb dX3_init_75 zb_6 ?_
  refine zr_put (pc := 77) cx lq_X3_40 hP hD hS 0 (a := a) rfl (v := .int 6) rfl rfl (Nat.le_of_ble_eq_true rfl) dX3_init_77 (fun H locs hP hD hS => ?_)
  have hP : va_P D vwCl [(a, .inr (4, [.ref q1, .ref q2, .ref q3, .ref q4, .ref q5, .ref q6, .ref q7, .ref q8, .ref q9, .int 0, .int 6, .int 0])), (q1, .inl (cy 0, 4, .inl (fun _ => 0))), (q2, .inl (cy 0, 5, .inl (fun _ => 0))), (q3, .inl (cy 0, 6, .inl (fun _ => 0))), (q4, .inl (cy 0, 6, .inl (fun _ => 0))), (q5, .inl (cy 0, 6, .inl (fun _ => 0))), (q6, .inl (cy 1, 6, .inr (.inl (fun _ => 0)))), (q7, .inl (cy 1, 20, .inr (.inl (fun _ => 0)))), (q8, .inl (cy 0, 20, .inl (fun _ => 0))), (q9, .inl (cy 0, 20, .inl (fun _ => 0)))] H := hP
  have hD : va_D A [(a, .inr (4, [.ref q1, .ref q2, .ref q3, .ref q4, .ref q5, .ref q6, .ref q7, .ref q8, .ref q9, .int 0, .int 6, .int 0])), (q1, .inl (cy 0, 4, .inl (fun _ => 0))), (q2, .inl (cy 0, 5, .inl (fun _ => 0))), (q3, .inl (cy 0, 6, .inl (fun _ => 0))), (q4, .inl (cy 0, 6, .inl (fun _ => 0))), (q5, .inl (cy 0, 6, .inl (fun _ => 0))), (q6, .inl (cy 1, 6, .inr (.inl (fun _ => 0)))), (q7, .inl (cy 1, 20, .inr (.inl (fun _ => 0)))), (q8, .inl (cy 0, 20, .inl (fun _ => 0))), (q9, .inl (cy 0, 20, .inl (fun _ => 0)))] := hD
  refine lv_aload_n (pc := 80) hx hb dX3_init_80 rfl (lv_at hl 0 rfl) ?_
  refine lv_iconst (pc := 81) hx hb dX3_init_81 zc_2 ?_
  refine zr_put (pc := 82) cx lq_X3_44 hP hD hS 0 (a := a) rfl (v := .int 2) rfl rfl (Nat.le_of_ble_eq_true rfl) dX3_init_82 (fun H locs hP hD hS => ?_)
  have hP : va_P D vwCl [(a, .inr (4, [.ref q1, .ref q2, .ref q3, .ref q4, .ref q5, .ref q6, .ref q7, .ref q8, .ref q9, .int 0, .int 6, .int 2])), (q1, .inl (cy 0, 4, .inl (fun _ => 0))), (q2, .inl (cy 0, 5, .inl (fun _ => 0))), (q3, .inl (cy 0, 6, .inl (fun _ => 0))), (q4, .inl (cy 0, 6, .inl (fun _ => 0))), (q5, .inl (cy 0, 6, .inl (fun _ => 0))), (q6, .inl (cy 1, 6, .inr (.inl (fun _ => 0)))), (q7, .inl (cy 1, 20, .inr (.inl (fun _ => 0)))), (q8, .inl (cy 0, 20, .inl (fun _ => 0))), (q9, .inl (cy 0, 20, .inl (fun _ => 0)))] H := hP
  have hD : va_D A [(a, .inr (4, [.ref q1, .ref q2, .ref q3, .ref q4, .ref q5, .ref q6, .ref q7, .ref q8, .ref q9, .int 0, .int 6, .int 2])), (q1, .inl (cy 0, 4, .inl (fun _ => 0))), (q2, .inl (cy 0, 5, .inl (fun _ => 0))), (q3, .inl (cy 0, 6, .inl (fun _ => 0))), (q4, .inl (cy 0, 6, .inl (fun _ => 0))), (q5, .inl (cy 0, 6, .inl (fun _ => 0))), (q6, .inl (cy 1, 6, .inr (.inl (fun _ => 0)))), (q7, .inl (cy 1, 20, .inr (.inl (fun _ => 0)))), (q8, .inl (cy 0, 20, .inl (fun _ => 0))), (q9, .inl (cy 0, 20, .inl (fun _ => 0)))] := hD
  exact W.vret (pc := 85) hx hb hr (fun t ht hW => ⟨⟨(fun k => [a, q1, q2, q3, q4, q5, q6, q7, q8, q9].getD k 0), rfl, rfl, by rw [ht]; exact hP, hD⟩, hS.F ht⟩) hS.2.2 dX3_init_85
theorem dX8_init_4 : decode cX8_init 4 = .ok (.aload_n 0, 1) := by decide +kernel
theorem dX8_init_5 : decode cX8_init 5 = .ok (.bipush 40, 2) := by decide +kernel
theorem dX8_init_7 : decode cX8_init 7 = .ok (.newarray .int, 2) := by decide +kernel
theorem dX8_init_9 : decode cX8_init 9 = .ok (.putfield 11, 3) := by decide +kernel
theorem lf_X8_11 : zLqF RX8 11 9 0 (.array .int) := ⟨"ParlourLeaves$Sentence", RX8, TX8, 6, tyX8, rfl, by decide, wsin_X8, wd_309, rfl, rfl, rfl, by decide +kernel, tyX8_ok, nmX8⟩
theorem dX8_init_12 : decode cX8_init 12 = .ok (.aload_n 0, 1) := by decide +kernel
theorem dX8_init_13 : decode cX8_init 13 = .ok (.bipush 40, 2) := by decide +kernel
theorem dX8_init_15 : decode cX8_init 15 = .ok (.newarray .int, 2) := by decide +kernel
theorem dX8_init_17 : decode cX8_init 17 = .ok (.putfield 15, 3) := by decide +kernel
theorem lf_X8_15 : zLqF RX8 15 9 1 (.array .int) := ⟨"ParlourLeaves$Sentence", RX8, TX8, 6, tyX8, rfl, by decide, wsin_X8, wd_310, rfl, rfl, rfl, by decide +kernel, tyX8_ok, nmX8⟩
theorem dX8_init_20 : decode cX8_init 20 = .ok (.aload_n 0, 1) := by decide +kernel
theorem dX8_init_21 : decode cX8_init 21 = .ok (.bipush 40, 2) := by decide +kernel
theorem dX8_init_23 : decode cX8_init 23 = .ok (.newarray .int, 2) := by decide +kernel
theorem dX8_init_25 : decode cX8_init 25 = .ok (.putfield 18, 3) := by decide +kernel
theorem lf_X8_18 : zLqF RX8 18 9 2 (.array .int) := ⟨"ParlourLeaves$Sentence", RX8, TX8, 6, tyX8, rfl, by decide, wsin_X8, wd_311, rfl, rfl, rfl, by decide +kernel, tyX8_ok, nmX8⟩
theorem dX8_init_28 : decode cX8_init 28 = .ok (.aload_n 0, 1) := by decide +kernel
theorem dX8_init_29 : decode cX8_init 29 = .ok (.bipush 40, 2) := by decide +kernel
theorem dX8_init_31 : decode cX8_init 31 = .ok (.newarray .int, 2) := by decide +kernel
theorem dX8_init_33 : decode cX8_init 33 = .ok (.putfield 21, 3) := by decide +kernel
theorem lf_X8_21 : zLqF RX8 21 9 3 (.array .int) := ⟨"ParlourLeaves$Sentence", RX8, TX8, 6, tyX8, rfl, by decide, wsin_X8, wd_312, rfl, rfl, rfl, by decide +kernel, tyX8_ok, nmX8⟩
theorem dX8_init_36 : decode cX8_init 36 = .ok (.return_, 1) := by decide +kernel
def bX8 (cy : Nat → ClassId) (q : Nat → Nat) : va_W := [((q 0), .inr (9, [.ref (q 1), .ref (q 2), .ref (q 3), .ref (q 4), .int 0, .int 0])), ((q 1), .inl (cy 0, 40, .inl (fun _ => 0))), ((q 2), .inl (cy 0, 40, .inl (fun _ => 0))), ((q 3), .inl (cy 0, 40, .inl (fun _ => 0))), ((q 4), .inl (cy 0, 40, .inl (fun _ => 0)))]
theorem wd_308 : (Jvm.Cond.methodLink "ParlourLeaves$Sentence" (3 : Nat) ({ cls := "java/lang/Object", name := "<init>", desc := "()V" } : Jvm.MethodName)) ∈ zTB := List.mem_filter.mpr ⟨List.mem_append_right _ (List.mem_append_right _ (List.mem_append_left _ (List.mem_of_getElem? (i := 68) rfl))), rfl⟩
theorem dX8_init_0 : decode cX8_init 0 = .ok (.aload_n 0, 1) := by decide +kernel
theorem dX8_init_1 : decode cX8_init 1 = .ok (.invokespecial 3, 3) := by decide +kernel
set_option maxHeartbeats 1000000 in
set_option maxRecDepth 100000 in
theorem mX8_init {l : Launch} {D : va_G} {cy : Nat → ClassId} {kK kV : Nat → Nat} (a sz : Nat) : zMc l yX8_init cX8_init 1 { frames := 1, cells := 4, slots := 160, locals := 39 } [] D cy kK kV sz a (.inr (9, [.null, .null, .null, .null, .int 0, .int 0])) (bX8 cy) := by
  refine Met.ofW (cc := cX8_init) (maxL := 1) (ret := none) (by decide) rfl ?_
  intro p e s m args below meth c s₁ B hml hv
  obtain ⟨rfl, hsz, hP, hK, hE⟩ := hv
  have cx : zX RX8 cX8_init 1 p s m ([.ref a]).toArray c D cy := ⟨B.exec, B.bytes, hml, findClass_of_methodNamed B.named, fun w hw => atoms_spec (ws := Cond.code yX8_init cX8_init 1 none :: zTB) B.pre w (List.mem_cons_of_mem _ hw), hK⟩
  have hx := cx.1
  have hb := cx.2.1
  have hr := B.returns
  have hlk := B.notSynchronized
  have hin : meth.name = "<init>" := (name_of_methodNamed B.named B.method).1
  subst hsz
  have hD : va_D (va_A [(a, .inr (9, [.null, .null, .null, .null, .int 0, .int 0]))] s.heap.size) [(a, .inr (9, [.null, .null, .null, .null, .int 0, .int 0]))] := z_one (Or.inl ⟨0, _, rfl⟩)
  generalize hAe : va_A [(a, .inr (9, [.null, .null, .null, .null, .int 0, .int 0]))] s.heap.size = A at hD hE ⊢
  have hA : ∀ q, s.heap.size ≤ q → A q := fun q h => by rw [← hAe]; exact Or.inr h
  have hS : va_S A s.heap s.heap [] := va_S.rf
  have hl := lv_entry ([.ref a]) (n := 1) (Nat.le_of_ble_eq_true rfl)
  rw [lg_entry_eq]
  generalize (lg_sl ([.ref a]) ++ List.replicate (1 - (lg_sl ([.ref a])).length) Slot.unset).toArray = ls at hl ⊢
  have hl : lv_has ls 1 [(0, .ref a)] := hl
  refine lv_aload_n (pc := 0) hx hb dX8_init_0 rfl (lv_at hl 0 rfl) ?_
  refine W.objInit hx hb cx.2.2.2.1 (cx.2.2.2.2.1 _ wd_308) (cx.2.2.2.2.1 _ wd_36) (cx.2.2.2.2.1 _ wd_37) rfl (by rw [hml]; exact hl.1) rfl dX8_init_1 (Nat.le_of_ble_eq_true rfl) (Nat.le_of_ble_eq_true rfl) ?_
  refine W.eq (g2 := F0 m 4 ls []) rfl ?_
  refine lv_aload_n (pc := 4) hx hb dX8_init_4 rfl (lv_at hl 0 rfl) ?_
  refine lv_bipush (pc := 5) hx hb dX8_init_5 zb_40 ?_
  refine zr_newa (pc := 7) cx (atype := .int) (t := 0) (ty := .int) rfl rfl (fun _ _ => rfl) wd_212 hP hD hS hA (n := 40) (N' := 40) (a0 := (40, .inl (fun _ => 0))) (fun _ => rfl) (by decide) (by decide) (by decide) (Nat.le_of_ble_eq_true rfl) (Nat.le_of_ble_eq_true rfl) dX8_init_7 (fun q1 H hP hD hS => ?_)
  have hP : va_P D vwCl [(a, .inr (9, [.null, .null, .null, .null, .int 0, .int 0])), (q1, .inl (cy 0, 40, .inl (fun _ => 0)))] H := hP
  have hD : va_D A [(a, .inr (9, [.null, .null, .null, .null, .int 0, .int 0])), (q1, .inl (cy 0, 40, .inl (fun _ => 0)))] := hD
  refine zr_putF (pc := 9) cx lf_X8_11 hin hP hD hS 0 (a := a) rfl (v := .ref q1) rfl rfl (Nat.le_of_ble_eq_true rfl) dX8_init_9 (fun H locs hP hD hS => ?_)
  have hP : va_P D vwCl [(a, .inr (9, [.ref q1, .null, .null, .null, .int 0, .int 0])), (q1, .inl (cy 0, 40, .inl (fun _ => 0)))] H := hP
  have hD : va_D A [(a, .inr (9, [.ref q1, .null, .null, .null, .int 0, .int 0])), (q1, .inl (cy 0, 40, .inl (fun _ => 0)))] := hD
  refine lv_aload_n (pc := 12) hx hb dX8_init_12 rfl (lv_at hl 0 rfl) ?_
  refine lv_bipush (pc := 13) hx hb dX8_init_13 zb_40 ?_
  refine zr_newa (pc := 15) cx (atype := .int) (t := 0) (ty := .int) rfl rfl (fun _ _ => rfl) wd_212 hP hD hS hA (n := 40) (N' := 40) (a0 := (40, .inl (fun _ => 0))) (fun _ => rfl) (by decide) (by decide) (by decide) (Nat.le_of_ble_eq_true rfl) (Nat.le_of_ble_eq_true rfl) dX8_init_15 (fun q2 H hP hD hS => ?_)
  have hP : va_P D vwCl [(a, .inr (9, [.ref q1, .null, .null, .null, .int 0, .int 0])), (q1, .inl (cy 0, 40, .inl (fun _ => 0))), (q2, .inl (cy 0, 40, .inl (fun _ => 0)))] H := hP
  have hD : va_D A [(a, .inr (9, [.ref q1, .null, .null, .null, .int 0, .int 0])), (q1, .inl (cy 0, 40, .inl (fun _ => 0))), (q2, .inl (cy 0, 40, .inl (fun _ => 0)))] := hD
  refine zr_putF (pc := 17) cx lf_X8_15 hin hP hD hS 0 (a := a) rfl (v := .ref q2) rfl rfl (Nat.le_of_ble_eq_true rfl) dX8_init_17 (fun H locs hP hD hS => ?_)
  have hP : va_P D vwCl [(a, .inr (9, [.ref q1, .ref q2, .null, .null, .int 0, .int 0])), (q1, .inl (cy 0, 40, .inl (fun _ => 0))), (q2, .inl (cy 0, 40, .inl (fun _ => 0)))] H := hP
  have hD : va_D A [(a, .inr (9, [.ref q1, .ref q2, .null, .null, .int 0, .int 0])), (q1, .inl (cy 0, 40, .inl (fun _ => 0))), (q2, .inl (cy 0, 40, .inl (fun _ => 0)))] := hD
  refine lv_aload_n (pc := 20) hx hb dX8_init_20 rfl (lv_at hl 0 rfl) ?_
  refine lv_bipush (pc := 21) hx hb dX8_init_21 zb_40 ?_
  refine zr_newa (pc := 23) cx (atype := .int) (t := 0) (ty := .int) rfl rfl (fun _ _ => rfl) wd_212 hP hD hS hA (n := 40) (N' := 40) (a0 := (40, .inl (fun _ => 0))) (fun _ => rfl) (by decide) (by decide) (by decide) (Nat.le_of_ble_eq_true rfl) (Nat.le_of_ble_eq_true rfl) dX8_init_23 (fun q3 H hP hD hS => ?_)
  have hP : va_P D vwCl [(a, .inr (9, [.ref q1, .ref q2, .null, .null, .int 0, .int 0])), (q1, .inl (cy 0, 40, .inl (fun _ => 0))), (q2, .inl (cy 0, 40, .inl (fun _ => 0))), (q3, .inl (cy 0, 40, .inl (fun _ => 0)))] H := hP
  have hD : va_D A [(a, .inr (9, [.ref q1, .ref q2, .null, .null, .int 0, .int 0])), (q1, .inl (cy 0, 40, .inl (fun _ => 0))), (q2, .inl (cy 0, 40, .inl (fun _ => 0))), (q3, .inl (cy 0, 40, .inl (fun _ => 0)))] := hD
  refine zr_putF (pc := 25) cx lf_X8_18 hin hP hD hS 0 (a := a) rfl (v := .ref q3) rfl rfl (Nat.le_of_ble_eq_true rfl) dX8_init_25 (fun H locs hP hD hS => ?_)
  have hP : va_P D vwCl [(a, .inr (9, [.ref q1, .ref q2, .ref q3, .null, .int 0, .int 0])), (q1, .inl (cy 0, 40, .inl (fun _ => 0))), (q2, .inl (cy 0, 40, .inl (fun _ => 0))), (q3, .inl (cy 0, 40, .inl (fun _ => 0)))] H := hP
  have hD : va_D A [(a, .inr (9, [.ref q1, .ref q2, .ref q3, .null, .int 0, .int 0])), (q1, .inl (cy 0, 40, .inl (fun _ => 0))), (q2, .inl (cy 0, 40, .inl (fun _ => 0))), (q3, .inl (cy 0, 40, .inl (fun _ => 0)))] := hD
  refine lv_aload_n (pc := 28) hx hb dX8_init_28 rfl (lv_at hl 0 rfl) ?_
  refine lv_bipush (pc := 29) hx hb dX8_init_29 zb_40 ?_
  refine zr_newa (pc := 31) cx (atype := .int) (t := 0) (ty := .int) rfl rfl (fun _ _ => rfl) wd_212 hP hD hS hA (n := 40) (N' := 40) (a0 := (40, .inl (fun _ => 0))) (fun _ => rfl) (by decide) (by decide) (by decide) (Nat.le_of_ble_eq_true rfl) (Nat.le_of_ble_eq_true rfl) dX8_init_31 (fun q4 H hP hD hS => ?_)
  have hP : va_P D vwCl [(a, .inr (9, [.ref q1, .ref q2, .ref q3, .null, .int 0, .int 0])), (q1, .inl (cy 0, 40, .inl (fun _ => 0))), (q2, .inl (cy 0, 40, .inl (fun _ => 0))), (q3, .inl (cy 0, 40, .inl (fun _ => 0))), (q4, .inl (cy 0, 40, .inl (fun _ => 0)))] H := hP
  have hD : va_D A [(a, .inr (9, [.ref q1, .ref q2, .ref q3, .null, .int 0, .int 0])), (q1, .inl (cy 0, 40, .inl (fun _ => 0))), (q2, .inl (cy 0, 40, .inl (fun _ => 0))), (q3, .inl (cy 0, 40, .inl (fun _ => 0))), (q4, .inl (cy 0, 40, .inl (fun _ => 0)))] := hD
  refine zr_putF (pc := 33) cx lf_X8_21 hin hP hD hS 0 (a := a) rfl (v := .ref q4) rfl rfl (Nat.le_of_ble_eq_true rfl) dX8_init_33 (fun H locs hP hD hS => ?_)
  have hP : va_P D vwCl [(a, .inr (9, [.ref q1, .ref q2, .ref q3, .ref q4, .int 0, .int 0])), (q1, .inl (cy 0, 40, .inl (fun _ => 0))), (q2, .inl (cy 0, 40, .inl (fun _ => 0))), (q3, .inl (cy 0, 40, .inl (fun _ => 0))), (q4, .inl (cy 0, 40, .inl (fun _ => 0)))] H := hP
  have hD : va_D A [(a, .inr (9, [.ref q1, .ref q2, .ref q3, .ref q4, .int 0, .int 0])), (q1, .inl (cy 0, 40, .inl (fun _ => 0))), (q2, .inl (cy 0, 40, .inl (fun _ => 0))), (q3, .inl (cy 0, 40, .inl (fun _ => 0))), (q4, .inl (cy 0, 40, .inl (fun _ => 0)))] := hD
  exact W.vret (pc := 36) hx hb hr (fun t ht hW => ⟨⟨(fun k => [a, q1, q2, q3, q4].getD k 0), rfl, rfl, by rw [ht]; exact hP, hD⟩, hS.F ht⟩) hS.2.2 dX8_init_36
theorem dX10_init_4 : decode cX10_init 4 = .ok (.aload_n 0, 1) := by decide +kernel
theorem dX10_init_5 : decode cX10_init 5 = .ok (.sipush 160, 3) := by decide +kernel
theorem dX10_init_8 : decode cX10_init 8 = .ok (.newarray .int, 2) := by decide +kernel
theorem dX10_init_10 : decode cX10_init 10 = .ok (.putfield 11, 3) := by decide +kernel
theorem lf_X10_11 : zLqF RX10 11 11 0 (.array .int) := ⟨"ParlourLeaves$Way", RX10, TX10, 5, tyX10, rfl, by decide, wsin_X10, wd_445, rfl, rfl, rfl, by decide +kernel, tyX10_ok, nmX10⟩
theorem dX10_init_13 : decode cX10_init 13 = .ok (.aload_n 0, 1) := by decide +kernel
theorem dX10_init_14 : decode cX10_init 14 = .ok (.sipush 160, 3) := by decide +kernel
theorem dX10_init_17 : decode cX10_init 17 = .ok (.newarray .int, 2) := by decide +kernel
theorem dX10_init_19 : decode cX10_init 19 = .ok (.putfield 15, 3) := by decide +kernel
theorem lf_X10_15 : zLqF RX10 15 11 1 (.array .int) := ⟨"ParlourLeaves$Way", RX10, TX10, 5, tyX10, rfl, by decide, wsin_X10, wd_446, rfl, rfl, rfl, by decide +kernel, tyX10_ok, nmX10⟩
theorem dX10_init_22 : decode cX10_init 22 = .ok (.aload_n 0, 1) := by decide +kernel
theorem dX10_init_23 : decode cX10_init 23 = .ok (.sipush 160, 3) := by decide +kernel
theorem dX10_init_26 : decode cX10_init 26 = .ok (.newarray .boolean, 2) := by decide +kernel
theorem dX10_init_28 : decode cX10_init 28 = .ok (.putfield 18, 3) := by decide +kernel
theorem lf_X10_18 : zLqF RX10 18 11 2 (.array .boolean) := ⟨"ParlourLeaves$Way", RX10, TX10, 5, tyX10, rfl, by decide, wsin_X10, wd_447, rfl, rfl, rfl, by decide +kernel, tyX10_ok, nmX10⟩
theorem dX10_init_31 : decode cX10_init 31 = .ok (.aload_n 0, 1) := by decide +kernel
theorem dX10_init_32 : decode cX10_init 32 = .ok (.sipush 160, 3) := by decide +kernel
theorem dX10_init_35 : decode cX10_init 35 = .ok (.newarray .int, 2) := by decide +kernel
theorem dX10_init_37 : decode cX10_init 37 = .ok (.putfield 22, 3) := by decide +kernel
theorem lf_X10_22 : zLqF RX10 22 11 3 (.array .int) := ⟨"ParlourLeaves$Way", RX10, TX10, 5, tyX10, rfl, by decide, wsin_X10, wd_448, rfl, rfl, rfl, by decide +kernel, tyX10_ok, nmX10⟩
theorem dX10_init_40 : decode cX10_init 40 = .ok (.return_, 1) := by decide +kernel
def bX10 (cy : Nat → ClassId) (q : Nat → Nat) : va_W := [((q 0), .inr (11, [.ref (q 1), .ref (q 2), .ref (q 3), .ref (q 4), .int 0])), ((q 1), .inl (cy 0, 160, .inl (fun _ => 0))), ((q 2), .inl (cy 0, 160, .inl (fun _ => 0))), ((q 3), .inl (cy 2, 160, .inl (fun _ => 0))), ((q 4), .inl (cy 0, 160, .inl (fun _ => 0)))]
theorem wd_444 : (Jvm.Cond.methodLink "ParlourLeaves$Way" (3 : Nat) ({ cls := "java/lang/Object", name := "<init>", desc := "()V" } : Jvm.MethodName)) ∈ zTB := List.mem_filter.mpr ⟨List.mem_append_right _ (List.mem_append_right _ (List.mem_append_left _ (List.mem_of_getElem? (i := 204) rfl))), rfl⟩
theorem dX10_init_0 : decode cX10_init 0 = .ok (.aload_n 0, 1) := by decide +kernel
theorem dX10_init_1 : decode cX10_init 1 = .ok (.invokespecial 3, 3) := by decide +kernel
set_option maxHeartbeats 1000000 in
set_option maxRecDepth 100000 in
theorem mX10_init {l : Launch} {D : va_G} {cy : Nat → ClassId} {kK kV : Nat → Nat} (a sz : Nat) : zMc l yX10_init cX10_init 1 { frames := 1, cells := 4, slots := 640, locals := 39 } [] D cy kK kV sz a (.inr (11, [.null, .null, .null, .null, .int 0])) (bX10 cy) := by
  refine Met.ofW (cc := cX10_init) (maxL := 1) (ret := none) (by decide) rfl ?_
  intro p e s m args below meth c s₁ B hml hv
  obtain ⟨rfl, hsz, hP, hK, hE⟩ := hv
  have cx : zX RX10 cX10_init 1 p s m ([.ref a]).toArray c D cy := ⟨B.exec, B.bytes, hml, findClass_of_methodNamed B.named, fun w hw => atoms_spec (ws := Cond.code yX10_init cX10_init 1 none :: zTB) B.pre w (List.mem_cons_of_mem _ hw), hK⟩
  have hx := cx.1
  have hb := cx.2.1
  have hr := B.returns
  have hlk := B.notSynchronized
  have hin : meth.name = "<init>" := (name_of_methodNamed B.named B.method).1
  subst hsz
  have hD : va_D (va_A [(a, .inr (11, [.null, .null, .null, .null, .int 0]))] s.heap.size) [(a, .inr (11, [.null, .null, .null, .null, .int 0]))] := z_one (Or.inl ⟨0, _, rfl⟩)
  generalize hAe : va_A [(a, .inr (11, [.null, .null, .null, .null, .int 0]))] s.heap.size = A at hD hE ⊢
  have hA : ∀ q, s.heap.size ≤ q → A q := fun q h => by rw [← hAe]; exact Or.inr h
  have hS : va_S A s.heap s.heap [] := va_S.rf
  have hl := lv_entry ([.ref a]) (n := 1) (Nat.le_of_ble_eq_true rfl)
  rw [lg_entry_eq]
  generalize (lg_sl ([.ref a]) ++ List.replicate (1 - (lg_sl ([.ref a])).length) Slot.unset).toArray = ls at hl ⊢
  have hl : lv_has ls 1 [(0, .ref a)] := hl
  refine lv_aload_n (pc := 0) hx hb dX10_init_0 rfl (lv_at hl 0 rfl) ?_
  refine W.objInit hx hb cx.2.2.2.1 (cx.2.2.2.2.1 _ wd_444) (cx.2.2.2.2.1 _ wd_36) (cx.2.2.2.2.1 _ wd_37) rfl (by rw [hml]; exact hl.1) rfl dX10_init_1 (Nat.le_of_ble_eq_true rfl) (Nat.le_of_ble_eq_true rfl) ?_
  refine W.eq (g2 := F0 m 4 ls []) rfl ?_
  refine lv_aload_n (pc := 4) hx hb dX10_init_4 rfl (lv_at hl 0 rfl) ?_
  refine lv_sipush (pc := 5) hx hb dX10_init_5 zs_160 ?_
  refine zr_newa (pc := 8) cx (atype := .int) (t := 0) (ty := .int) rfl rfl (fun _ _ => rfl) wd_212 hP hD hS hA (n := 160) (N' := 160) (a0 := (160, .inl (fun _ => 0))) (fun _ => rfl) (by decide) (by decide) (by decide) (Nat.le_of_ble_eq_true rfl) (Nat.le_of_ble_eq_true rfl) dX10_init_8 (fun q1 H hP hD hS => ?_)
  have hP : va_P D vwCl [(a, .inr (11, [.null, .null, .null, .null, .int 0])), (q1, .inl (cy 0, 160, .inl (fun _ => 0)))] H := hP
  have hD : va_D A [(a, .inr (11, [.null, .null, .null, .null, .int 0])), (q1, .inl (cy 0, 160, .inl (fun _ => 0)))] := hD
  refine zr_putF (pc := 10) cx lf_X10_11 hin hP hD hS 0 (a := a) rfl (v := .ref q1) rfl rfl (Nat.le_of_ble_eq_true rfl) dX10_init_10 (fun H locs hP hD hS => ?_)
  have hP : va_P D vwCl [(a, .inr (11, [.ref q1, .null, .null, .null, .int 0])), (q1, .inl (cy 0, 160, .inl (fun _ => 0)))] H := hP
  have hD : va_D A [(a, .inr (11, [.ref q1, .null, .null, .null, .int 0])), (q1, .inl (cy 0, 160, .inl (fun _ => 0)))] := hD
  refine lv_aload_n (pc := 13) hx hb dX10_init_13 rfl (lv_at hl 0 rfl) ?_
  refine lv_sipush (pc := 14) hx hb dX10_init_14 zs_160 ?_
  refine zr_newa (pc := 17) cx (atype := .int) (t := 0) (ty := .int) rfl rfl (fun _ _ => rfl) wd_212 hP hD hS hA (n := 160) (N' := 160) (a0 := (160, .inl (fun _ => 0))) (fun _ => rfl) (by decide) (by decide) (by decide) (Nat.le_of_ble_eq_true rfl) (Nat.le_of_ble_eq_true rfl) dX10_init_17 (fun q2 H hP hD hS => ?_)
  have hP : va_P D vwCl [(a, .inr (11, [.ref q1, .null, .null, .null, .int 0])), (q1, .inl (cy 0, 160, .inl (fun _ => 0))), (q2, .inl (cy 0, 160, .inl (fun _ => 0)))] H := hP
  have hD : va_D A [(a, .inr (11, [.ref q1, .null, .null, .null, .int 0])), (q1, .inl (cy 0, 160, .inl (fun _ => 0))), (q2, .inl (cy 0, 160, .inl (fun _ => 0)))] := hD
  refine zr_putF (pc := 19) cx lf_X10_15 hin hP hD hS 0 (a := a) rfl (v := .ref q2) rfl rfl (Nat.le_of_ble_eq_true rfl) dX10_init_19 (fun H locs hP hD hS => ?_)
  have hP : va_P D vwCl [(a, .inr (11, [.ref q1, .ref q2, .null, .null, .int 0])), (q1, .inl (cy 0, 160, .inl (fun _ => 0))), (q2, .inl (cy 0, 160, .inl (fun _ => 0)))] H := hP
  have hD : va_D A [(a, .inr (11, [.ref q1, .ref q2, .null, .null, .int 0])), (q1, .inl (cy 0, 160, .inl (fun _ => 0))), (q2, .inl (cy 0, 160, .inl (fun _ => 0)))] := hD
  refine lv_aload_n (pc := 22) hx hb dX10_init_22 rfl (lv_at hl 0 rfl) ?_
  refine lv_sipush (pc := 23) hx hb dX10_init_23 zs_160 ?_
  refine zr_newa (pc := 26) cx (atype := .boolean) (t := 2) (ty := .boolean) rfl rfl (fun _ _ => rfl) wd_463 hP hD hS hA (n := 160) (N' := 160) (a0 := (160, .inl (fun _ => 0))) (fun _ => rfl) (by decide) (by decide) (by decide) (Nat.le_of_ble_eq_true rfl) (Nat.le_of_ble_eq_true rfl) dX10_init_26 (fun q3 H hP hD hS => ?_)
  have hP : va_P D vwCl [(a, .inr (11, [.ref q1, .ref q2, .null, .null, .int 0])), (q1, .inl (cy 0, 160, .inl (fun _ => 0))), (q2, .inl (cy 0, 160, .inl (fun _ => 0))), (q3, .inl (cy 2, 160, .inl (fun _ => 0)))] H := hP
  have hD : va_D A [(a, .inr (11, [.ref q1, .ref q2, .null, .null, .int 0])), (q1, .inl (cy 0, 160, .inl (fun _ => 0))), (q2, .inl (cy 0, 160, .inl (fun _ => 0))), (q3, .inl (cy 2, 160, .inl (fun _ => 0)))] := hD
  refine zr_putF (pc := 28) cx lf_X10_18 hin hP hD hS 0 (a := a) rfl (v := .ref q3) rfl rfl (Nat.le_of_ble_eq_true rfl) dX10_init_28 (fun H locs hP hD hS => ?_)
  have hP : va_P D vwCl [(a, .inr (11, [.ref q1, .ref q2, .ref q3, .null, .int 0])), (q1, .inl (cy 0, 160, .inl (fun _ => 0))), (q2, .inl (cy 0, 160, .inl (fun _ => 0))), (q3, .inl (cy 2, 160, .inl (fun _ => 0)))] H := hP
  have hD : va_D A [(a, .inr (11, [.ref q1, .ref q2, .ref q3, .null, .int 0])), (q1, .inl (cy 0, 160, .inl (fun _ => 0))), (q2, .inl (cy 0, 160, .inl (fun _ => 0))), (q3, .inl (cy 2, 160, .inl (fun _ => 0)))] := hD
  refine lv_aload_n (pc := 31) hx hb dX10_init_31 rfl (lv_at hl 0 rfl) ?_
  refine lv_sipush (pc := 32) hx hb dX10_init_32 zs_160 ?_
  refine zr_newa (pc := 35) cx (atype := .int) (t := 0) (ty := .int) rfl rfl (fun _ _ => rfl) wd_212 hP hD hS hA (n := 160) (N' := 160) (a0 := (160, .inl (fun _ => 0))) (fun _ => rfl) (by decide) (by decide) (by decide) (Nat.le_of_ble_eq_true rfl) (Nat.le_of_ble_eq_true rfl) dX10_init_35 (fun q4 H hP hD hS => ?_)
  have hP : va_P D vwCl [(a, .inr (11, [.ref q1, .ref q2, .ref q3, .null, .int 0])), (q1, .inl (cy 0, 160, .inl (fun _ => 0))), (q2, .inl (cy 0, 160, .inl (fun _ => 0))), (q3, .inl (cy 2, 160, .inl (fun _ => 0))), (q4, .inl (cy 0, 160, .inl (fun _ => 0)))] H := hP
  have hD : va_D A [(a, .inr (11, [.ref q1, .ref q2, .ref q3, .null, .int 0])), (q1, .inl (cy 0, 160, .inl (fun _ => 0))), (q2, .inl (cy 0, 160, .inl (fun _ => 0))), (q3, .inl (cy 2, 160, .inl (fun _ => 0))), (q4, .inl (cy 0, 160, .inl (fun _ => 0)))] := hD
  refine zr_putF (pc := 37) cx lf_X10_22 hin hP hD hS 0 (a := a) rfl (v := .ref q4) rfl rfl (Nat.le_of_ble_eq_true rfl) dX10_init_37 (fun H locs hP hD hS => ?_)
  have hP : va_P D vwCl [(a, .inr (11, [.ref q1, .ref q2, .ref q3, .ref q4, .int 0])), (q1, .inl (cy 0, 160, .inl (fun _ => 0))), (q2, .inl (cy 0, 160, .inl (fun _ => 0))), (q3, .inl (cy 2, 160, .inl (fun _ => 0))), (q4, .inl (cy 0, 160, .inl (fun _ => 0)))] H := hP
  have hD : va_D A [(a, .inr (11, [.ref q1, .ref q2, .ref q3, .ref q4, .int 0])), (q1, .inl (cy 0, 160, .inl (fun _ => 0))), (q2, .inl (cy 0, 160, .inl (fun _ => 0))), (q3, .inl (cy 2, 160, .inl (fun _ => 0))), (q4, .inl (cy 0, 160, .inl (fun _ => 0)))] := hD
  exact W.vret (pc := 40) hx hb hr (fun t ht hW => ⟨⟨(fun k => [a, q1, q2, q3, q4].getD k 0), rfl, rfl, by rw [ht]; exact hP, hD⟩, hS.F ht⟩) hS.2.2 dX10_init_40
theorem dX6_init_4 : decode cX6_init 4 = .ok (.aload_n 0, 1) := by decide +kernel
theorem dX6_init_5 : decode cX6_init 5 = .ok (.bipush 12, 2) := by decide +kernel
theorem dX6_init_7 : decode cX6_init 7 = .ok (.newarray .int, 2) := by decide +kernel
theorem dX6_init_9 : decode cX6_init 9 = .ok (.putfield 9, 3) := by decide +kernel
theorem lf_X6_9 : zLqF RX6 9 7 3 (.array .int) := ⟨"ParlourLeaves$Life", RX6, TX6, 11, tyX6, rfl, by decide, wsin_X6, wd_230, rfl, rfl, rfl, by decide +kernel, tyX6_ok, nmX6⟩
theorem dX6_init_12 : decode cX6_init 12 = .ok (.aload_n 0, 1) := by decide +kernel
theorem dX6_init_13 : decode cX6_init 13 = .ok (.bipush 12, 2) := by decide +kernel
theorem dX6_init_15 : decode cX6_init 15 = .ok (.newarray .int, 2) := by decide +kernel
theorem dX6_init_17 : decode cX6_init 17 = .ok (.putfield 15, 3) := by decide +kernel
theorem lf_X6_15 : zLqF RX6 15 7 4 (.array .int) := ⟨"ParlourLeaves$Life", RX6, TX6, 11, tyX6, rfl, by decide, wsin_X6, wd_232, rfl, rfl, rfl, by decide +kernel, tyX6_ok, nmX6⟩
theorem dX6_init_20 : decode cX6_init 20 = .ok (.aload_n 0, 1) := by decide +kernel
theorem dX6_init_21 : decode cX6_init 21 = .ok (.bipush 12, 2) := by decide +kernel
theorem dX6_init_23 : decode cX6_init 23 = .ok (.newarray .int, 2) := by decide +kernel
theorem dX6_init_25 : decode cX6_init 25 = .ok (.putfield 18, 3) := by decide +kernel
theorem lf_X6_18 : zLqF RX6 18 7 5 (.array .int) := ⟨"ParlourLeaves$Life", RX6, TX6, 11, tyX6, rfl, by decide, wsin_X6, wd_234, rfl, rfl, rfl, by decide +kernel, tyX6_ok, nmX6⟩
theorem dX6_init_28 : decode cX6_init 28 = .ok (.aload_n 0, 1) := by decide +kernel
theorem dX6_init_29 : decode cX6_init 29 = .ok (.bipush 12, 2) := by decide +kernel
theorem dX6_init_31 : decode cX6_init 31 = .ok (.newarray .int, 2) := by decide +kernel
theorem dX6_init_33 : decode cX6_init 33 = .ok (.putfield 21, 3) := by decide +kernel
theorem lf_X6_21 : zLqF RX6 21 7 6 (.array .int) := ⟨"ParlourLeaves$Life", RX6, TX6, 11, tyX6, rfl, by decide, wsin_X6, wd_236, rfl, rfl, rfl, by decide +kernel, tyX6_ok, nmX6⟩
theorem dX6_init_36 : decode cX6_init 36 = .ok (.aload_n 0, 1) := by decide +kernel
theorem dX6_init_37 : decode cX6_init 37 = .ok (.bipush 6, 2) := by decide +kernel
theorem dX6_init_39 : decode cX6_init 39 = .ok (.bipush 12, 2) := by decide +kernel
theorem dX6_init_41 : decode cX6_init 41 = .ok (.multianewarray 24 2, 4) := by decide +kernel
theorem wd_219 : (Jvm.Cond.classLink "ParlourLeaves$Life" (24 : Nat) "[[I") ∈ zTB := List.mem_filter.mpr ⟨List.mem_append_right _ (List.mem_append_left _ (List.mem_of_getElem? (i := 219) rfl)), rfl⟩
theorem dX6_init_45 : decode cX6_init 45 = .ok (.putfield 26, 3) := by decide +kernel
theorem lf_X6_26 : zLqF RX6 26 7 7 (.array (.array .int)) := ⟨"ParlourLeaves$Life", RX6, TX6, 11, tyX6, rfl, by decide, wsin_X6, wd_238, rfl, rfl, rfl, by decide +kernel, tyX6_ok, nmX6⟩
theorem dX6_init_48 : decode cX6_init 48 = .ok (.aload_n 0, 1) := by decide +kernel
theorem dX6_init_49 : decode cX6_init 49 = .ok (.bipush 6, 2) := by decide +kernel
theorem dX6_init_51 : decode cX6_init 51 = .ok (.newarray .int, 2) := by decide +kernel
theorem dX6_init_53 : decode cX6_init 53 = .ok (.putfield 29, 3) := by decide +kernel
theorem lf_X6_29 : zLqF RX6 29 7 8 (.array .int) := ⟨"ParlourLeaves$Life", RX6, TX6, 11, tyX6, rfl, by decide, wsin_X6, wd_241, rfl, rfl, rfl, by decide +kernel, tyX6_ok, nmX6⟩
theorem dX6_init_56 : decode cX6_init 56 = .ok (.aload_n 0, 1) := by decide +kernel
theorem dX6_init_57 : decode cX6_init 57 = .ok (.bipush 6, 2) := by decide +kernel
theorem dX6_init_59 : decode cX6_init 59 = .ok (.newarray .int, 2) := by decide +kernel
theorem dX6_init_61 : decode cX6_init 61 = .ok (.putfield 32, 3) := by decide +kernel
theorem lf_X6_32 : zLqF RX6 32 7 9 (.array .int) := ⟨"ParlourLeaves$Life", RX6, TX6, 11, tyX6, rfl, by decide, wsin_X6, wd_242, rfl, rfl, rfl, by decide +kernel, tyX6_ok, nmX6⟩
theorem dX6_init_64 : decode cX6_init 64 = .ok (.aload_n 0, 1) := by decide +kernel
theorem dX6_init_65 : decode cX6_init 65 = .ok (.bipush 6, 2) := by decide +kernel
theorem dX6_init_67 : decode cX6_init 67 = .ok (.newarray .int, 2) := by decide +kernel
theorem dX6_init_69 : decode cX6_init 69 = .ok (.putfield 35, 3) := by decide +kernel
theorem lf_X6_35 : zLqF RX6 35 7 10 (.array .int) := ⟨"ParlourLeaves$Life", RX6, TX6, 11, tyX6, rfl, by decide, wsin_X6, wd_246, rfl, rfl, rfl, by decide +kernel, tyX6_ok, nmX6⟩
theorem dX6_init_72 : decode cX6_init 72 = .ok (.aload_n 0, 1) := by decide +kernel
theorem dX6_init_73 : decode cX6_init 73 = .ok (.aload_n 1, 1) := by decide +kernel
theorem dX6_init_74 : decode cX6_init 74 = .ok (.putfield 38, 3) := by decide +kernel
theorem lf_X6_38 : zLqF RX6 38 7 0 (.object "ParlourLeaves$House") := ⟨"ParlourLeaves$Life", RX6, TX6, 11, tyX6, rfl, by decide, wsin_X6, wd_221, rfl, rfl, rfl, by decide +kernel, tyX6_ok, nmX6⟩
theorem dX6_init_77 : decode cX6_init 77 = .ok (.return_, 1) := by decide +kernel
def bX6 (cy : Nat → ClassId) (h : Nat) (q : Nat → Nat) : va_W := [((q 0), .inr (7, [.ref h, .int 0, .int 0, .ref (q 1), .ref (q 2), .ref (q 3), .ref (q 4), .ref ((q 5)), .ref (q 12), .ref (q 13), .ref (q 14)])), ((q 1), .inl (cy 0, 12, .inl (fun _ => 0))), ((q 2), .inl (cy 0, 12, .inl (fun _ => 0))), ((q 3), .inl (cy 0, 12, .inl (fun _ => 0))), ((q 4), .inl (cy 0, 12, .inl (fun _ => 0))), ((q 5), .inl (cy 7, 6, .inr (.inr (.inr (.inr (fun i => [(q 6), (q 7), (q 8), (q 9), (q 10), (q 11)][i]?)))))), ((q 6), .inl (cy 0, 12, .inl (fun _ => 0))), ((q 7), .inl (cy 0, 12, .inl (fun _ => 0))), ((q 8), .inl (cy 0, 12, .inl (fun _ => 0))), ((q 9), .inl (cy 0, 12, .inl (fun _ => 0))), ((q 10), .inl (cy 0, 12, .inl (fun _ => 0))), ((q 11), .inl (cy 0, 12, .inl (fun _ => 0))), ((q 12), .inl (cy 0, 6, .inl (fun _ => 0))), ((q 13), .inl (cy 0, 6, .inl (fun _ => 0))), ((q 14), .inl (cy 0, 6, .inl (fun _ => 0)))]
theorem wd_218 : (Jvm.Cond.methodLink "ParlourLeaves$Life" (3 : Nat) ({ cls := "java/lang/Object", name := "<init>", desc := "()V" } : Jvm.MethodName)) ∈ zTB := List.mem_filter.mpr ⟨List.mem_append_right _ (List.mem_append_left _ (List.mem_of_getElem? (i := 218) rfl)), rfl⟩
theorem dX6_init_0 : decode cX6_init 0 = .ok (.aload_n 0, 1) := by decide +kernel
theorem dX6_init_1 : decode cX6_init 1 = .ok (.invokespecial 3, 3) := by decide +kernel
set_option maxHeartbeats 1000000 in
set_option maxRecDepth 100000 in
theorem mX6_init {l : Launch} {D : va_G} {cy : Nat → ClassId} {kK kV : Nat → Nat} (h : Nat) (a sz : Nat) : zMc l yX6_init cX6_init 2 { frames := 1, cells := 14, slots := 144, locals := 39 } [.ref h] D cy kK kV sz a (.inr (7, [.null, .int 0, .int 0, .null, .null, .null, .null, .null, .null, .null, .null])) (bX6 cy h) := by
  refine Met.ofW (cc := cX6_init) (maxL := 2) (ret := none) (by decide) rfl ?_
  intro p e s m args below meth c s₁ B hml hv
  obtain ⟨rfl, hsz, hP, hK, hE⟩ := hv
  have cx : zX RX6 cX6_init 2 p s m ([.ref a, .ref h]).toArray c D cy := ⟨B.exec, B.bytes, hml, findClass_of_methodNamed B.named, fun w hw => atoms_spec (ws := Cond.code yX6_init cX6_init 2 none :: zTB) B.pre w (List.mem_cons_of_mem _ hw), hK⟩
  have hx := cx.1
  have hb := cx.2.1
  have hr := B.returns
  have hlk := B.notSynchronized
  have hin : meth.name = "<init>" := (name_of_methodNamed B.named B.method).1
  subst hsz
  have hD : va_D (va_A [(a, .inr (7, [.null, .int 0, .int 0, .null, .null, .null, .null, .null, .null, .null, .null]))] s.heap.size) [(a, .inr (7, [.null, .int 0, .int 0, .null, .null, .null, .null, .null, .null, .null, .null]))] := z_one (Or.inl ⟨0, _, rfl⟩)
  generalize hAe : va_A [(a, .inr (7, [.null, .int 0, .int 0, .null, .null, .null, .null, .null, .null, .null, .null]))] s.heap.size = A at hD hE ⊢
  have hA : ∀ q, s.heap.size ≤ q → A q := fun q h => by rw [← hAe]; exact Or.inr h
  have hS : va_S A s.heap s.heap [] := va_S.rf
  have hl := lv_entry ([.ref a, .ref h]) (n := 2) (Nat.le_of_ble_eq_true rfl)
  rw [lg_entry_eq]
  generalize (lg_sl ([.ref a, .ref h]) ++ List.replicate (2 - (lg_sl ([.ref a, .ref h])).length) Slot.unset).toArray = ls at hl ⊢
  have hl : lv_has ls 2 [(0, .ref a), (1, .ref h)] := hl
  refine lv_aload_n (pc := 0) hx hb dX6_init_0 rfl (lv_at hl 0 rfl) ?_
  refine W.objInit hx hb cx.2.2.2.1 (cx.2.2.2.2.1 _ wd_218) (cx.2.2.2.2.1 _ wd_36) (cx.2.2.2.2.1 _ wd_37) rfl (by rw [hml]; exact hl.1) rfl dX6_init_1 (Nat.le_of_ble_eq_true rfl) (Nat.le_of_ble_eq_true rfl) ?_
  refine W.eq (g2 := F0 m 4 ls []) rfl ?_
  refine lv_aload_n (pc := 4) hx hb dX6_init_4 rfl (lv_at hl 0 rfl) ?_
  refine lv_bipush (pc := 5) hx hb dX6_init_5 zb_12 ?_
  refine zr_newa (pc := 7) cx (atype := .int) (t := 0) (ty := .int) rfl rfl (fun _ _ => rfl) wd_212 hP hD hS hA (n := 12) (N' := 12) (a0 := (12, .inl (fun _ => 0))) (fun _ => rfl) (by decide) (by decide) (by decide) (Nat.le_of_ble_eq_true rfl) (Nat.le_of_ble_eq_true rfl) dX6_init_7 (fun q1 H hP hD hS => ?_)
  have hP : va_P D vwCl [(a, .inr (7, [.null, .int 0, .int 0, .null, .null, .null, .null, .null, .null, .null, .null])), (q1, .inl (cy 0, 12, .inl (fun _ => 0)))] H := hP
  have hD : va_D A [(a, .inr (7, [.null, .int 0, .int 0, .null, .null, .null, .null, .null, .null, .null, .null])), (q1, .inl (cy 0, 12, .inl (fun _ => 0)))] := hD
  refine zr_putF (pc := 9) cx lf_X6_9 hin hP hD hS 0 (a := a) rfl (v := .ref q1) rfl rfl (Nat.le_of_ble_eq_true rfl) dX6_init_9 (fun H locs hP hD hS => ?_)
  have hP : va_P D vwCl [(a, .inr (7, [.null, .int 0, .int 0, .ref q1, .null, .null, .null, .null, .null, .null, .null])), (q1, .inl (cy 0, 12, .inl (fun _ => 0)))] H := hP
  have hD : va_D A [(a, .inr (7, [.null, .int 0, .int 0, .ref q1, .null, .null, .null, .null, .null, .null, .null])), (q1, .inl (cy 0, 12, .inl (fun _ => 0)))] := hD
  refine lv_aload_n (pc := 12) hx hb dX6_init_12 rfl (lv_at hl 0 rfl) ?_
  refine lv_bipush (pc := 13) hx hb dX6_init_13 zb_12 ?_
  refine zr_newa (pc := 15) cx (atype := .int) (t := 0) (ty := .int) rfl rfl (fun _ _ => rfl) wd_212 hP hD hS hA (n := 12) (N' := 12) (a0 := (12, .inl (fun _ => 0))) (fun _ => rfl) (by decide) (by decide) (by decide) (Nat.le_of_ble_eq_true rfl) (Nat.le_of_ble_eq_true rfl) dX6_init_15 (fun q2 H hP hD hS => ?_)
  have hP : va_P D vwCl [(a, .inr (7, [.null, .int 0, .int 0, .ref q1, .null, .null, .null, .null, .null, .null, .null])), (q1, .inl (cy 0, 12, .inl (fun _ => 0))), (q2, .inl (cy 0, 12, .inl (fun _ => 0)))] H := hP
  have hD : va_D A [(a, .inr (7, [.null, .int 0, .int 0, .ref q1, .null, .null, .null, .null, .null, .null, .null])), (q1, .inl (cy 0, 12, .inl (fun _ => 0))), (q2, .inl (cy 0, 12, .inl (fun _ => 0)))] := hD
  refine zr_putF (pc := 17) cx lf_X6_15 hin hP hD hS 0 (a := a) rfl (v := .ref q2) rfl rfl (Nat.le_of_ble_eq_true rfl) dX6_init_17 (fun H locs hP hD hS => ?_)
  have hP : va_P D vwCl [(a, .inr (7, [.null, .int 0, .int 0, .ref q1, .ref q2, .null, .null, .null, .null, .null, .null])), (q1, .inl (cy 0, 12, .inl (fun _ => 0))), (q2, .inl (cy 0, 12, .inl (fun _ => 0)))] H := hP
  have hD : va_D A [(a, .inr (7, [.null, .int 0, .int 0, .ref q1, .ref q2, .null, .null, .null, .null, .null, .null])), (q1, .inl (cy 0, 12, .inl (fun _ => 0))), (q2, .inl (cy 0, 12, .inl (fun _ => 0)))] := hD
  refine lv_aload_n (pc := 20) hx hb dX6_init_20 rfl (lv_at hl 0 rfl) ?_
  refine lv_bipush (pc := 21) hx hb dX6_init_21 zb_12 ?_
  refine zr_newa (pc := 23) cx (atype := .int) (t := 0) (ty := .int) rfl rfl (fun _ _ => rfl) wd_212 hP hD hS hA (n := 12) (N' := 12) (a0 := (12, .inl (fun _ => 0))) (fun _ => rfl) (by decide) (by decide) (by decide) (Nat.le_of_ble_eq_true rfl) (Nat.le_of_ble_eq_true rfl) dX6_init_23 (fun q3 H hP hD hS => ?_)
  have hP : va_P D vwCl [(a, .inr (7, [.null, .int 0, .int 0, .ref q1, .ref q2, .null, .null, .null, .null, .null, .null])), (q1, .inl (cy 0, 12, .inl (fun _ => 0))), (q2, .inl (cy 0, 12, .inl (fun _ => 0))), (q3, .inl (cy 0, 12, .inl (fun _ => 0)))] H := hP
  have hD : va_D A [(a, .inr (7, [.null, .int 0, .int 0, .ref q1, .ref q2, .null, .null, .null, .null, .null, .null])), (q1, .inl (cy 0, 12, .inl (fun _ => 0))), (q2, .inl (cy 0, 12, .inl (fun _ => 0))), (q3, .inl (cy 0, 12, .inl (fun _ => 0)))] := hD
  refine zr_putF (pc := 25) cx lf_X6_18 hin hP hD hS 0 (a := a) rfl (v := .ref q3) rfl rfl (Nat.le_of_ble_eq_true rfl) dX6_init_25 (fun H locs hP hD hS => ?_)
  have hP : va_P D vwCl [(a, .inr (7, [.null, .int 0, .int 0, .ref q1, .ref q2, .ref q3, .null, .null, .null, .null, .null])), (q1, .inl (cy 0, 12, .inl (fun _ => 0))), (q2, .inl (cy 0, 12, .inl (fun _ => 0))), (q3, .inl (cy 0, 12, .inl (fun _ => 0)))] H := hP
  have hD : va_D A [(a, .inr (7, [.null, .int 0, .int 0, .ref q1, .ref q2, .ref q3, .null, .null, .null, .null, .null])), (q1, .inl (cy 0, 12, .inl (fun _ => 0))), (q2, .inl (cy 0, 12, .inl (fun _ => 0))), (q3, .inl (cy 0, 12, .inl (fun _ => 0)))] := hD
  refine lv_aload_n (pc := 28) hx hb dX6_init_28 rfl (lv_at hl 0 rfl) ?_
  refine lv_bipush (pc := 29) hx hb dX6_init_29 zb_12 ?_
  refine zr_newa (pc := 31) cx (atype := .int) (t := 0) (ty := .int) rfl rfl (fun _ _ => rfl) wd_212 hP hD hS hA (n := 12) (N' := 12) (a0 := (12, .inl (fun _ => 0))) (fun _ => rfl) (by decide) (by decide) (by decide) (Nat.le_of_ble_eq_true rfl) (Nat.le_of_ble_eq_true rfl) dX6_init_31 (fun q4 H hP hD hS => ?_)
  have hP : va_P D vwCl [(a, .inr (7, [.null, .int 0, .int 0, .ref q1, .ref q2, .ref q3, .null, .null, .null, .null, .null])), (q1, .inl (cy 0, 12, .inl (fun _ => 0))), (q2, .inl (cy 0, 12, .inl (fun _ => 0))), (q3, .inl (cy 0, 12, .inl (fun _ => 0))), (q4, .inl (cy 0, 12, .inl (fun _ => 0)))] H := hP
  have hD : va_D A [(a, .inr (7, [.null, .int 0, .int 0, .ref q1, .ref q2, .ref q3, .null, .null, .null, .null, .null])), (q1, .inl (cy 0, 12, .inl (fun _ => 0))), (q2, .inl (cy 0, 12, .inl (fun _ => 0))), (q3, .inl (cy 0, 12, .inl (fun _ => 0))), (q4, .inl (cy 0, 12, .inl (fun _ => 0)))] := hD
  refine zr_putF (pc := 33) cx lf_X6_21 hin hP hD hS 0 (a := a) rfl (v := .ref q4) rfl rfl (Nat.le_of_ble_eq_true rfl) dX6_init_33 (fun H locs hP hD hS => ?_)
  have hP : va_P D vwCl [(a, .inr (7, [.null, .int 0, .int 0, .ref q1, .ref q2, .ref q3, .ref q4, .null, .null, .null, .null])), (q1, .inl (cy 0, 12, .inl (fun _ => 0))), (q2, .inl (cy 0, 12, .inl (fun _ => 0))), (q3, .inl (cy 0, 12, .inl (fun _ => 0))), (q4, .inl (cy 0, 12, .inl (fun _ => 0)))] H := hP
  have hD : va_D A [(a, .inr (7, [.null, .int 0, .int 0, .ref q1, .ref q2, .ref q3, .ref q4, .null, .null, .null, .null])), (q1, .inl (cy 0, 12, .inl (fun _ => 0))), (q2, .inl (cy 0, 12, .inl (fun _ => 0))), (q3, .inl (cy 0, 12, .inl (fun _ => 0))), (q4, .inl (cy 0, 12, .inl (fun _ => 0)))] := hD
  refine lv_aload_n (pc := 36) hx hb dX6_init_36 rfl (lv_at hl 0 rfl) ?_
  refine lv_bipush (pc := 37) hx hb dX6_init_37 zb_6 ?_
  refine lv_bipush (pc := 39) hx hb dX6_init_39 zb_12 ?_
  refine zr_multi (pc := 41) cx hE.1.2.2 wd_219 wd_212 hP hD hS hA (Nat.le_of_ble_eq_true rfl) (Nat.le_of_ble_eq_true rfl) dX6_init_41 (fun qm H hP hD hS => ?_)
  have hP : va_P D vwCl [(a, .inr (7, [.null, .int 0, .int 0, .ref q1, .ref q2, .ref q3, .ref q4, .null, .null, .null, .null])), (q1, .inl (cy 0, 12, .inl (fun _ => 0))), (q2, .inl (cy 0, 12, .inl (fun _ => 0))), (q3, .inl (cy 0, 12, .inl (fun _ => 0))), (q4, .inl (cy 0, 12, .inl (fun _ => 0))), (qm 0, .inl (cy 7, 6, .inr (.inr (.inr (.inr (fun i => [qm 1, qm 2, qm 3, qm 4, qm 5, qm 6][i]?)))))), (qm 1, .inl (cy 0, 12, .inl (fun _ => 0))), (qm 2, .inl (cy 0, 12, .inl (fun _ => 0))), (qm 3, .inl (cy 0, 12, .inl (fun _ => 0))), (qm 4, .inl (cy 0, 12, .inl (fun _ => 0))), (qm 5, .inl (cy 0, 12, .inl (fun _ => 0))), (qm 6, .inl (cy 0, 12, .inl (fun _ => 0)))] H := hP
  have hD : va_D A [(a, .inr (7, [.null, .int 0, .int 0, .ref q1, .ref q2, .ref q3, .ref q4, .null, .null, .null, .null])), (q1, .inl (cy 0, 12, .inl (fun _ => 0))), (q2, .inl (cy 0, 12, .inl (fun _ => 0))), (q3, .inl (cy 0, 12, .inl (fun _ => 0))), (q4, .inl (cy 0, 12, .inl (fun _ => 0))), (qm 0, .inl (cy 7, 6, .inr (.inr (.inr (.inr (fun i => [qm 1, qm 2, qm 3, qm 4, qm 5, qm 6][i]?)))))), (qm 1, .inl (cy 0, 12, .inl (fun _ => 0))), (qm 2, .inl (cy 0, 12, .inl (fun _ => 0))), (qm 3, .inl (cy 0, 12, .inl (fun _ => 0))), (qm 4, .inl (cy 0, 12, .inl (fun _ => 0))), (qm 5, .inl (cy 0, 12, .inl (fun _ => 0))), (qm 6, .inl (cy 0, 12, .inl (fun _ => 0)))] := hD
  refine zr_putF (pc := 45) cx lf_X6_26 hin hP hD hS 0 (a := a) rfl (v := .ref (qm 0)) rfl rfl (Nat.le_of_ble_eq_true rfl) dX6_init_45 (fun H locs hP hD hS => ?_)
  have hP : va_P D vwCl [(a, .inr (7, [.null, .int 0, .int 0, .ref q1, .ref q2, .ref q3, .ref q4, .ref (qm 0), .null, .null, .null])), (q1, .inl (cy 0, 12, .inl (fun _ => 0))), (q2, .inl (cy 0, 12, .inl (fun _ => 0))), (q3, .inl (cy 0, 12, .inl (fun _ => 0))), (q4, .inl (cy 0, 12, .inl (fun _ => 0))), (qm 0, .inl (cy 7, 6, .inr (.inr (.inr (.inr (fun i => [qm 1, qm 2, qm 3, qm 4, qm 5, qm 6][i]?)))))), (qm 1, .inl (cy 0, 12, .inl (fun _ => 0))), (qm 2, .inl (cy 0, 12, .inl (fun _ => 0))), (qm 3, .inl (cy 0, 12, .inl (fun _ => 0))), (qm 4, .inl (cy 0, 12, .inl (fun _ => 0))), (qm 5, .inl (cy 0, 12, .inl (fun _ => 0))), (qm 6, .inl (cy 0, 12, .inl (fun _ => 0)))] H := hP
  have hD : va_D A [(a, .inr (7, [.null, .int 0, .int 0, .ref q1, .ref q2, .ref q3, .ref q4, .ref (qm 0), .null, .null, .null])), (q1, .inl (cy 0, 12, .inl (fun _ => 0))), (q2, .inl (cy 0, 12, .inl (fun _ => 0))), (q3, .inl (cy 0, 12, .inl (fun _ => 0))), (q4, .inl (cy 0, 12, .inl (fun _ => 0))), (qm 0, .inl (cy 7, 6, .inr (.inr (.inr (.inr (fun i => [qm 1, qm 2, qm 3, qm 4, qm 5, qm 6][i]?)))))), (qm 1, .inl (cy 0, 12, .inl (fun _ => 0))), (qm 2, .inl (cy 0, 12, .inl (fun _ => 0))), (qm 3, .inl (cy 0, 12, .inl (fun _ => 0))), (qm 4, .inl (cy 0, 12, .inl (fun _ => 0))), (qm 5, .inl (cy 0, 12, .inl (fun _ => 0))), (qm 6, .inl (cy 0, 12, .inl (fun _ => 0)))] := hD
  refine lv_aload_n (pc := 48) hx hb dX6_init_48 rfl (lv_at hl 0 rfl) ?_
  refine lv_bipush (pc := 49) hx hb dX6_init_49 zb_6 ?_
  refine zr_newa (pc := 51) cx (atype := .int) (t := 0) (ty := .int) rfl rfl (fun _ _ => rfl) wd_212 hP hD hS hA (n := 6) (N' := 6) (a0 := (6, .inl (fun _ => 0))) (fun _ => rfl) (by decide) (by decide) (by decide) (Nat.le_of_ble_eq_true rfl) (Nat.le_of_ble_eq_true rfl) dX6_init_51 (fun q5 H hP hD hS => ?_)
  have hP : va_P D vwCl [(a, .inr (7, [.null, .int 0, .int 0, .ref q1, .ref q2, .ref q3, .ref q4, .ref (qm 0), .null, .null, .null])), (q1, .inl (cy 0, 12, .inl (fun _ => 0))), (q2, .inl (cy 0, 12, .inl (fun _ => 0))), (q3, .inl (cy 0, 12, .inl (fun _ => 0))), (q4, .inl (cy 0, 12, .inl (fun _ => 0))), (qm 0, .inl (cy 7, 6, .inr (.inr (.inr (.inr (fun i => [qm 1, qm 2, qm 3, qm 4, qm 5, qm 6][i]?)))))), (qm 1, .inl (cy 0, 12, .inl (fun _ => 0))), (qm 2, .inl (cy 0, 12, .inl (fun _ => 0))), (qm 3, .inl (cy 0, 12, .inl (fun _ => 0))), (qm 4, .inl (cy 0, 12, .inl (fun _ => 0))), (qm 5, .inl (cy 0, 12, .inl (fun _ => 0))), (qm 6, .inl (cy 0, 12, .inl (fun _ => 0))), (q5, .inl (cy 0, 6, .inl (fun _ => 0)))] H := hP
  have hD : va_D A [(a, .inr (7, [.null, .int 0, .int 0, .ref q1, .ref q2, .ref q3, .ref q4, .ref (qm 0), .null, .null, .null])), (q1, .inl (cy 0, 12, .inl (fun _ => 0))), (q2, .inl (cy 0, 12, .inl (fun _ => 0))), (q3, .inl (cy 0, 12, .inl (fun _ => 0))), (q4, .inl (cy 0, 12, .inl (fun _ => 0))), (qm 0, .inl (cy 7, 6, .inr (.inr (.inr (.inr (fun i => [qm 1, qm 2, qm 3, qm 4, qm 5, qm 6][i]?)))))), (qm 1, .inl (cy 0, 12, .inl (fun _ => 0))), (qm 2, .inl (cy 0, 12, .inl (fun _ => 0))), (qm 3, .inl (cy 0, 12, .inl (fun _ => 0))), (qm 4, .inl (cy 0, 12, .inl (fun _ => 0))), (qm 5, .inl (cy 0, 12, .inl (fun _ => 0))), (qm 6, .inl (cy 0, 12, .inl (fun _ => 0))), (q5, .inl (cy 0, 6, .inl (fun _ => 0)))] := hD
  refine zr_putF (pc := 53) cx lf_X6_29 hin hP hD hS 0 (a := a) rfl (v := .ref q5) rfl rfl (Nat.le_of_ble_eq_true rfl) dX6_init_53 (fun H locs hP hD hS => ?_)
  have hP : va_P D vwCl [(a, .inr (7, [.null, .int 0, .int 0, .ref q1, .ref q2, .ref q3, .ref q4, .ref (qm 0), .ref q5, .null, .null])), (q1, .inl (cy 0, 12, .inl (fun _ => 0))), (q2, .inl (cy 0, 12, .inl (fun _ => 0))), (q3, .inl (cy 0, 12, .inl (fun _ => 0))), (q4, .inl (cy 0, 12, .inl (fun _ => 0))), (qm 0, .inl (cy 7, 6, .inr (.inr (.inr (.inr (fun i => [qm 1, qm 2, qm 3, qm 4, qm 5, qm 6][i]?)))))), (qm 1, .inl (cy 0, 12, .inl (fun _ => 0))), (qm 2, .inl (cy 0, 12, .inl (fun _ => 0))), (qm 3, .inl (cy 0, 12, .inl (fun _ => 0))), (qm 4, .inl (cy 0, 12, .inl (fun _ => 0))), (qm 5, .inl (cy 0, 12, .inl (fun _ => 0))), (qm 6, .inl (cy 0, 12, .inl (fun _ => 0))), (q5, .inl (cy 0, 6, .inl (fun _ => 0)))] H := hP
  have hD : va_D A [(a, .inr (7, [.null, .int 0, .int 0, .ref q1, .ref q2, .ref q3, .ref q4, .ref (qm 0), .ref q5, .null, .null])), (q1, .inl (cy 0, 12, .inl (fun _ => 0))), (q2, .inl (cy 0, 12, .inl (fun _ => 0))), (q3, .inl (cy 0, 12, .inl (fun _ => 0))), (q4, .inl (cy 0, 12, .inl (fun _ => 0))), (qm 0, .inl (cy 7, 6, .inr (.inr (.inr (.inr (fun i => [qm 1, qm 2, qm 3, qm 4, qm 5, qm 6][i]?)))))), (qm 1, .inl (cy 0, 12, .inl (fun _ => 0))), (qm 2, .inl (cy 0, 12, .inl (fun _ => 0))), (qm 3, .inl (cy 0, 12, .inl (fun _ => 0))), (qm 4, .inl (cy 0, 12, .inl (fun _ => 0))), (qm 5, .inl (cy 0, 12, .inl (fun _ => 0))), (qm 6, .inl (cy 0, 12, .inl (fun _ => 0))), (q5, .inl (cy 0, 6, .inl (fun _ => 0)))] := hD
  refine lv_aload_n (pc := 56) hx hb dX6_init_56 rfl (lv_at hl 0 rfl) ?_
  refine lv_bipush (pc := 57) hx hb dX6_init_57 zb_6 ?_
  refine zr_newa (pc := 59) cx (atype := .int) (t := 0) (ty := .int) rfl rfl (fun _ _ => rfl) wd_212 hP hD hS hA (n := 6) (N' := 6) (a0 := (6, .inl (fun _ => 0))) (fun _ => rfl) (by decide) (by decide) (by decide) (Nat.le_of_ble_eq_true rfl) (Nat.le_of_ble_eq_true rfl) dX6_init_59 (fun q6 H hP hD hS => ?_)
  have hP : va_P D vwCl [(a, .inr (7, [.null, .int 0, .int 0, .ref q1, .ref q2, .ref q3, .ref q4, .ref (qm 0), .ref q5, .null, .null])), (q1, .inl (cy 0, 12, .inl (fun _ => 0))), (q2, .inl (cy 0, 12, .inl (fun _ => 0))), (q3, .inl (cy 0, 12, .inl (fun _ => 0))), (q4, .inl (cy 0, 12, .inl (fun _ => 0))), (qm 0, .inl (cy 7, 6, .inr (.inr (.inr (.inr (fun i => [qm 1, qm 2, qm 3, qm 4, qm 5, qm 6][i]?)))))), (qm 1, .inl (cy 0, 12, .inl (fun _ => 0))), (qm 2, .inl (cy 0, 12, .inl (fun _ => 0))), (qm 3, .inl (cy 0, 12, .inl (fun _ => 0))), (qm 4, .inl (cy 0, 12, .inl (fun _ => 0))), (qm 5, .inl (cy 0, 12, .inl (fun _ => 0))), (qm 6, .inl (cy 0, 12, .inl (fun _ => 0))), (q5, .inl (cy 0, 6, .inl (fun _ => 0))), (q6, .inl (cy 0, 6, .inl (fun _ => 0)))] H := hP
  have hD : va_D A [(a, .inr (7, [.null, .int 0, .int 0, .ref q1, .ref q2, .ref q3, .ref q4, .ref (qm 0), .ref q5, .null, .null])), (q1, .inl (cy 0, 12, .inl (fun _ => 0))), (q2, .inl (cy 0, 12, .inl (fun _ => 0))), (q3, .inl (cy 0, 12, .inl (fun _ => 0))), (q4, .inl (cy 0, 12, .inl (fun _ => 0))), (qm 0, .inl (cy 7, 6, .inr (.inr (.inr (.inr (fun i => [qm 1, qm 2, qm 3, qm 4, qm 5, qm 6][i]?)))))), (qm 1, .inl (cy 0, 12, .inl (fun _ => 0))), (qm 2, .inl (cy 0, 12, .inl (fun _ => 0))), (qm 3, .inl (cy 0, 12, .inl (fun _ => 0))), (qm 4, .inl (cy 0, 12, .inl (fun _ => 0))), (qm 5, .inl (cy 0, 12, .inl (fun _ => 0))), (qm 6, .inl (cy 0, 12, .inl (fun _ => 0))), (q5, .inl (cy 0, 6, .inl (fun _ => 0))), (q6, .inl (cy 0, 6, .inl (fun _ => 0)))] := hD
  refine zr_putF (pc := 61) cx lf_X6_32 hin hP hD hS 0 (a := a) rfl (v := .ref q6) rfl rfl (Nat.le_of_ble_eq_true rfl) dX6_init_61 (fun H locs hP hD hS => ?_)
  have hP : va_P D vwCl [(a, .inr (7, [.null, .int 0, .int 0, .ref q1, .ref q2, .ref q3, .ref q4, .ref (qm 0), .ref q5, .ref q6, .null])), (q1, .inl (cy 0, 12, .inl (fun _ => 0))), (q2, .inl (cy 0, 12, .inl (fun _ => 0))), (q3, .inl (cy 0, 12, .inl (fun _ => 0))), (q4, .inl (cy 0, 12, .inl (fun _ => 0))), (qm 0, .inl (cy 7, 6, .inr (.inr (.inr (.inr (fun i => [qm 1, qm 2, qm 3, qm 4, qm 5, qm 6][i]?)))))), (qm 1, .inl (cy 0, 12, .inl (fun _ => 0))), (qm 2, .inl (cy 0, 12, .inl (fun _ => 0))), (qm 3, .inl (cy 0, 12, .inl (fun _ => 0))), (qm 4, .inl (cy 0, 12, .inl (fun _ => 0))), (qm 5, .inl (cy 0, 12, .inl (fun _ => 0))), (qm 6, .inl (cy 0, 12, .inl (fun _ => 0))), (q5, .inl (cy 0, 6, .inl (fun _ => 0))), (q6, .inl (cy 0, 6, .inl (fun _ => 0)))] H := hP
  have hD : va_D A [(a, .inr (7, [.null, .int 0, .int 0, .ref q1, .ref q2, .ref q3, .ref q4, .ref (qm 0), .ref q5, .ref q6, .null])), (q1, .inl (cy 0, 12, .inl (fun _ => 0))), (q2, .inl (cy 0, 12, .inl (fun _ => 0))), (q3, .inl (cy 0, 12, .inl (fun _ => 0))), (q4, .inl (cy 0, 12, .inl (fun _ => 0))), (qm 0, .inl (cy 7, 6, .inr (.inr (.inr (.inr (fun i => [qm 1, qm 2, qm 3, qm 4, qm 5, qm 6][i]?)))))), (qm 1, .inl (cy 0, 12, .inl (fun _ => 0))), (qm 2, .inl (cy 0, 12, .inl (fun _ => 0))), (qm 3, .inl (cy 0, 12, .inl (fun _ => 0))), (qm 4, .inl (cy 0, 12, .inl (fun _ => 0))), (qm 5, .inl (cy 0, 12, .inl (fun _ => 0))), (qm 6, .inl (cy 0, 12, .inl (fun _ => 0))), (q5, .inl (cy 0, 6, .inl (fun _ => 0))), (q6, .inl (cy 0, 6, .inl (fun _ => 0)))] := hD
  refine lv_aload_n (pc := 64) hx hb dX6_init_64 rfl (lv_at hl 0 rfl) ?_
  refine lv_bipush (pc := 65) hx hb dX6_init_65 zb_6 ?_
  refine zr_newa (pc := 67) cx (atype := .int) (t := 0) (ty := .int) rfl rfl (fun _ _ => rfl) wd_212 hP hD hS hA (n := 6) (N' := 6) (a0 := (6, .inl (fun _ => 0))) (fun _ => rfl) (by decide) (by decide) (by decide) (Nat.le_of_ble_eq_true rfl) (Nat.le_of_ble_eq_true rfl) dX6_init_67 (fun q7 H hP hD hS => ?_)
  have hP : va_P D vwCl [(a, .inr (7, [.null, .int 0, .int 0, .ref q1, .ref q2, .ref q3, .ref q4, .ref (qm 0), .ref q5, .ref q6, .null])), (q1, .inl (cy 0, 12, .inl (fun _ => 0))), (q2, .inl (cy 0, 12, .inl (fun _ => 0))), (q3, .inl (cy 0, 12, .inl (fun _ => 0))), (q4, .inl (cy 0, 12, .inl (fun _ => 0))), (qm 0, .inl (cy 7, 6, .inr (.inr (.inr (.inr (fun i => [qm 1, qm 2, qm 3, qm 4, qm 5, qm 6][i]?)))))), (qm 1, .inl (cy 0, 12, .inl (fun _ => 0))), (qm 2, .inl (cy 0, 12, .inl (fun _ => 0))), (qm 3, .inl (cy 0, 12, .inl (fun _ => 0))), (qm 4, .inl (cy 0, 12, .inl (fun _ => 0))), (qm 5, .inl (cy 0, 12, .inl (fun _ => 0))), (qm 6, .inl (cy 0, 12, .inl (fun _ => 0))), (q5, .inl (cy 0, 6, .inl (fun _ => 0))), (q6, .inl (cy 0, 6, .inl (fun _ => 0))), (q7, .inl (cy 0, 6, .inl (fun _ => 0)))] H := hP
  have hD : va_D A [(a, .inr (7, [.null, .int 0, .int 0, .ref q1, .ref q2, .ref q3, .ref q4, .ref (qm 0), .ref q5, .ref q6, .null])), (q1, .inl (cy 0, 12, .inl (fun _ => 0))), (q2, .inl (cy 0, 12, .inl (fun _ => 0))), (q3, .inl (cy 0, 12, .inl (fun _ => 0))), (q4, .inl (cy 0, 12, .inl (fun _ => 0))), (qm 0, .inl (cy 7, 6, .inr (.inr (.inr (.inr (fun i => [qm 1, qm 2, qm 3, qm 4, qm 5, qm 6][i]?)))))), (qm 1, .inl (cy 0, 12, .inl (fun _ => 0))), (qm 2, .inl (cy 0, 12, .inl (fun _ => 0))), (qm 3, .inl (cy 0, 12, .inl (fun _ => 0))), (qm 4, .inl (cy 0, 12, .inl (fun _ => 0))), (qm 5, .inl (cy 0, 12, .inl (fun _ => 0))), (qm 6, .inl (cy 0, 12, .inl (fun _ => 0))), (q5, .inl (cy 0, 6, .inl (fun _ => 0))), (q6, .inl (cy 0, 6, .inl (fun _ => 0))), (q7, .inl (cy 0, 6, .inl (fun _ => 0)))] := hD
  refine zr_putF (pc := 69) cx lf_X6_35 hin hP hD hS 0 (a := a) rfl (v := .ref q7) rfl rfl (Nat.le_of_ble_eq_true rfl) dX6_init_69 (fun H locs hP hD hS => ?_)
  have hP : va_P D vwCl [(a, .inr (7, [.null, .int 0, .int 0, .ref q1, .ref q2, .ref q3, .ref q4, .ref (qm 0), .ref q5, .ref q6, .ref q7])), (q1, .inl (cy 0, 12, .inl (fun _ => 0))), (q2, .inl (cy 0, 12, .inl (fun _ => 0))), (q3, .inl (cy 0, 12, .inl (fun _ => 0))), (q4, .inl (cy 0, 12, .inl (fun _ => 0))), (qm 0, .inl (cy 7, 6, .inr (.inr (.inr (.inr (fun i => [qm 1, qm 2, qm 3, qm 4, qm 5, qm 6][i]?)))))), (qm 1, .inl (cy 0, 12, .inl (fun _ => 0))), (qm 2, .inl (cy 0, 12, .inl (fun _ => 0))), (qm 3, .inl (cy 0, 12, .inl (fun _ => 0))), (qm 4, .inl (cy 0, 12, .inl (fun _ => 0))), (qm 5, .inl (cy 0, 12, .inl (fun _ => 0))), (qm 6, .inl (cy 0, 12, .inl (fun _ => 0))), (q5, .inl (cy 0, 6, .inl (fun _ => 0))), (q6, .inl (cy 0, 6, .inl (fun _ => 0))), (q7, .inl (cy 0, 6, .inl (fun _ => 0)))] H := hP
  have hD : va_D A [(a, .inr (7, [.null, .int 0, .int 0, .ref q1, .ref q2, .ref q3, .ref q4, .ref (qm 0), .ref q5, .ref q6, .ref q7])), (q1, .inl (cy 0, 12, .inl (fun _ => 0))), (q2, .inl (cy 0, 12, .inl (fun _ => 0))), (q3, .inl (cy 0, 12, .inl (fun _ => 0))), (q4, .inl (cy 0, 12, .inl (fun _ => 0))), (qm 0, .inl (cy 7, 6, .inr (.inr (.inr (.inr (fun i => [qm 1, qm 2, qm 3, qm 4, qm 5, qm 6][i]?)))))), (qm 1, .inl (cy 0, 12, .inl (fun _ => 0))), (qm 2, .inl (cy 0, 12, .inl (fun _ => 0))), (qm 3, .inl (cy 0, 12, .inl (fun _ => 0))), (qm 4, .inl (cy 0, 12, .inl (fun _ => 0))), (qm 5, .inl (cy 0, 12, .inl (fun _ => 0))), (qm 6, .inl (cy 0, 12, .inl (fun _ => 0))), (q5, .inl (cy 0, 6, .inl (fun _ => 0))), (q6, .inl (cy 0, 6, .inl (fun _ => 0))), (q7, .inl (cy 0, 6, .inl (fun _ => 0)))] := hD
  refine lv_aload_n (pc := 72) hx hb dX6_init_72 rfl (lv_at hl 0 rfl) ?_
  refine lv_aload_n (pc := 73) hx hb dX6_init_73 rfl (lv_at hl 1 rfl) ?_
  refine zr_putF (pc := 74) cx lf_X6_38 hin hP hD hS 0 (a := a) rfl (v := .ref h) rfl rfl (Nat.le_of_ble_eq_true rfl) dX6_init_74 (fun H locs hP hD hS => ?_)
  have hP : va_P D vwCl [(a, .inr (7, [.ref h, .int 0, .int 0, .ref q1, .ref q2, .ref q3, .ref q4, .ref (qm 0), .ref q5, .ref q6, .ref q7])), (q1, .inl (cy 0, 12, .inl (fun _ => 0))), (q2, .inl (cy 0, 12, .inl (fun _ => 0))), (q3, .inl (cy 0, 12, .inl (fun _ => 0))), (q4, .inl (cy 0, 12, .inl (fun _ => 0))), (qm 0, .inl (cy 7, 6, .inr (.inr (.inr (.inr (fun i => [qm 1, qm 2, qm 3, qm 4, qm 5, qm 6][i]?)))))), (qm 1, .inl (cy 0, 12, .inl (fun _ => 0))), (qm 2, .inl (cy 0, 12, .inl (fun _ => 0))), (qm 3, .inl (cy 0, 12, .inl (fun _ => 0))), (qm 4, .inl (cy 0, 12, .inl (fun _ => 0))), (qm 5, .inl (cy 0, 12, .inl (fun _ => 0))), (qm 6, .inl (cy 0, 12, .inl (fun _ => 0))), (q5, .inl (cy 0, 6, .inl (fun _ => 0))), (q6, .inl (cy 0, 6, .inl (fun _ => 0))), (q7, .inl (cy 0, 6, .inl (fun _ => 0)))] H := hP
  have hD : va_D A [(a, .inr (7, [.ref h, .int 0, .int 0, .ref q1, .ref q2, .ref q3, .ref q4, .ref (qm 0), .ref q5, .ref q6, .ref q7])), (q1, .inl (cy 0, 12, .inl (fun _ => 0))), (q2, .inl (cy 0, 12, .inl (fun _ => 0))), (q3, .inl (cy 0, 12, .inl (fun _ => 0))), (q4, .inl (cy 0, 12, .inl (fun _ => 0))), (qm 0, .inl (cy 7, 6, .inr (.inr (.inr (.inr (fun i => [qm 1, qm 2, qm 3, qm 4, qm 5, qm 6][i]?)))))), (qm 1, .inl (cy 0, 12, .inl (fun _ => 0))), (qm 2, .inl (cy 0, 12, .inl (fun _ => 0))), (qm 3, .inl (cy 0, 12, .inl (fun _ => 0))), (qm 4, .inl (cy 0, 12, .inl (fun _ => 0))), (qm 5, .inl (cy 0, 12, .inl (fun _ => 0))), (qm 6, .inl (cy 0, 12, .inl (fun _ => 0))), (q5, .inl (cy 0, 6, .inl (fun _ => 0))), (q6, .inl (cy 0, 6, .inl (fun _ => 0))), (q7, .inl (cy 0, 6, .inl (fun _ => 0)))] := hD
  exact W.vret (pc := 77) hx hb hr (fun t ht hW => ⟨⟨(fun k => [a, q1, q2, q3, q4, qm 0, qm 1, qm 2, qm 3, qm 4, qm 5, qm 6, q5, q6, q7].getD k 0), rfl, rfl, by rw [ht]; exact hP, hD⟩, hS.F ht⟩) hS.2.2 dX6_init_77
theorem dX0_init_4 : decode cX0_init 4 = .ok (.aload_n 0, 1) := by decide +kernel
theorem dX0_init_5 : decode cX0_init 5 = .ok (.bipush 40, 2) := by decide +kernel
theorem dX0_init_7 : decode cX0_init 7 = .ok (.newarray .int, 2) := by decide +kernel
theorem dX0_init_9 : decode cX0_init 9 = .ok (.putfield 9, 3) := by decide +kernel
theorem lf_X0_9 : zLqF RX0 9 1 2 (.array .int) := ⟨"ParlourLeaves$BookText", RX0, TX0, 11, tyX0, rfl, by decide, wsin_X0, wd_376, rfl, rfl, rfl, by decide +kernel, tyX0_ok, nmX0⟩
theorem dX0_init_12 : decode cX0_init 12 = .ok (.aload_n 0, 1) := by decide +kernel
theorem dX0_init_13 : decode cX0_init 13 = .ok (.bipush 40, 2) := by decide +kernel
theorem dX0_init_15 : decode cX0_init 15 = .ok (.newarray .int, 2) := by decide +kernel
theorem dX0_init_17 : decode cX0_init 17 = .ok (.putfield 15, 3) := by decide +kernel
theorem lf_X0_15 : zLqF RX0 15 1 3 (.array .int) := ⟨"ParlourLeaves$BookText", RX0, TX0, 11, tyX0, rfl, by decide, wsin_X0, wd_377, rfl, rfl, rfl, by decide +kernel, tyX0_ok, nmX0⟩
theorem dX0_init_20 : decode cX0_init 20 = .ok (.aload_n 0, 1) := by decide +kernel
theorem dX0_init_21 : decode cX0_init 21 = .ok (.bipush 40, 2) := by decide +kernel
theorem dX0_init_23 : decode cX0_init 23 = .ok (.newarray .int, 2) := by decide +kernel
theorem dX0_init_25 : decode cX0_init 25 = .ok (.putfield 18, 3) := by decide +kernel
theorem lf_X0_18 : zLqF RX0 18 1 4 (.array .int) := ⟨"ParlourLeaves$BookText", RX0, TX0, 11, tyX0, rfl, by decide, wsin_X0, wd_378, rfl, rfl, rfl, by decide +kernel, tyX0_ok, nmX0⟩
theorem dX0_init_28 : decode cX0_init 28 = .ok (.aload_n 0, 1) := by decide +kernel
theorem dX0_init_29 : decode cX0_init 29 = .ok (.bipush 40, 2) := by decide +kernel
theorem dX0_init_31 : decode cX0_init 31 = .ok (.newarray .int, 2) := by decide +kernel
theorem dX0_init_33 : decode cX0_init 33 = .ok (.putfield 21, 3) := by decide +kernel
theorem lf_X0_21 : zLqF RX0 21 1 5 (.array .int) := ⟨"ParlourLeaves$BookText", RX0, TX0, 11, tyX0, rfl, by decide, wsin_X0, wd_379, rfl, rfl, rfl, by decide +kernel, tyX0_ok, nmX0⟩
theorem dX0_init_36 : decode cX0_init 36 = .ok (.aload_n 0, 1) := by decide +kernel
theorem dX0_init_37 : decode cX0_init 37 = .ok (.iconst (-1), 1) := by decide +kernel
theorem dX0_init_38 : decode cX0_init 38 = .ok (.putfield 24, 3) := by decide +kernel
theorem dX0_init_41 : decode cX0_init 41 = .ok (.aload_n 0, 1) := by decide +kernel
theorem dX0_init_42 : decode cX0_init 42 = .ok (.iconst (-1), 1) := by decide +kernel
theorem dX0_init_43 : decode cX0_init 43 = .ok (.putfield 28, 3) := by decide +kernel
theorem dX0_init_46 : decode cX0_init 46 = .ok (.aload_n 0, 1) := by decide +kernel
theorem dX0_init_47 : decode cX0_init 47 = .ok (.iconst (-1), 1) := by decide +kernel
theorem dX0_init_48 : decode cX0_init 48 = .ok (.putfield 31, 3) := by decide +kernel
theorem dX0_init_51 : decode cX0_init 51 = .ok (.aload_n 0, 1) := by decide +kernel
theorem dX0_init_52 : decode cX0_init 52 = .ok (.iconst (-1), 1) := by decide +kernel
theorem dX0_init_53 : decode cX0_init 53 = .ok (.putfield 34, 3) := by decide +kernel
theorem dX0_init_56 : decode cX0_init 56 = .ok (.aload_n 0, 1) := by decide +kernel
theorem dX0_init_57 : decode cX0_init 57 = .ok (.aload_n 1, 1) := by decide +kernel
theorem dX0_init_58 : decode cX0_init 58 = .ok (.putfield 37, 3) := by decide +kernel
theorem lf_X0_37 : zLqF RX0 37 1 0 (.object "ParlourLeaves$Tape") := ⟨"ParlourLeaves$BookText", RX0, TX0, 11, tyX0, rfl, by decide, wsin_X0, wd_374, rfl, rfl, rfl, by decide +kernel, tyX0_ok, nmX0⟩
theorem dX0_init_61 : decode cX0_init 61 = .ok (.aload_n 0, 1) := by decide +kernel
theorem dX0_init_62 : decode cX0_init 62 = .ok (.aload_n 2, 1) := by decide +kernel
theorem dX0_init_63 : decode cX0_init 63 = .ok (.putfield 41, 3) := by decide +kernel
theorem lf_X0_41 : zLqF RX0 41 1 1 (.object "ParlourLeaves$House") := ⟨"ParlourLeaves$BookText", RX0, TX0, 11, tyX0, rfl, by decide, wsin_X0, wd_375, rfl, rfl, rfl, by decide +kernel, tyX0_ok, nmX0⟩
theorem dX0_init_66 : decode cX0_init 66 = .ok (.return_, 1) := by decide +kernel
def bX0 (cy : Nat → ClassId) (t : Nat) (h : Nat) (q : Nat → Nat) : va_W := [((q 0), .inr (1, [.ref t, .ref h, .ref (q 1), .ref (q 2), .ref (q 3), .ref (q 4), .int 0, .int (-1), .int (-1), .int (-1), .int (-1)])), ((q 1), .inl (cy 0, 40, .inl (fun _ => 0))), ((q 2), .inl (cy 0, 40, .inl (fun _ => 0))), ((q 3), .inl (cy 0, 40, .inl (fun _ => 0))), ((q 4), .inl (cy 0, 40, .inl (fun _ => 0)))]
theorem wd_373 : (Jvm.Cond.methodLink "ParlourLeaves$BookText" (3 : Nat) ({ cls := "java/lang/Object", name := "<init>", desc := "()V" } : Jvm.MethodName)) ∈ zTB := List.mem_filter.mpr ⟨List.mem_append_right _ (List.mem_append_right _ (List.mem_append_left _ (List.mem_of_getElem? (i := 133) rfl))), rfl⟩
theorem dX0_init_0 : decode cX0_init 0 = .ok (.aload_n 0, 1) := by decide +kernel
theorem dX0_init_1 : decode cX0_init 1 = .ok (.invokespecial 3, 3) := by decide +kernel
set_option maxHeartbeats 1000000 in
set_option maxRecDepth 100000 in
theorem mX0_init {l : Launch} {D : va_G} {cy : Nat → ClassId} {kK kV : Nat → Nat} (t : Nat) (h : Nat) (a sz : Nat) : zMc l yX0_init cX0_init 3 { frames := 1, cells := 4, slots := 160, locals := 39 } [.ref t, .ref h] D cy kK kV sz a (.inr (1, [.null, .null, .null, .null, .null, .null, .int 0, .int 0, .int 0, .int 0, .int 0])) (bX0 cy t h) := by
  refine Met.ofW (cc := cX0_init) (maxL := 3) (ret := none) (by decide) rfl ?_
  intro p e s m args below meth c s₁ B hml hv
  obtain ⟨rfl, hsz, hP, hK, hE⟩ := hv
  have cx : zX RX0 cX0_init 3 p s m ([.ref a, .ref t, .ref h]).toArray c D cy := ⟨B.exec, B.bytes, hml, findClass_of_methodNamed B.named, fun w hw => atoms_spec (ws := Cond.code yX0_init cX0_init 3 none :: zTB) B.pre w (List.mem_cons_of_mem _ hw), hK⟩
  have hx := cx.1
  have hb := cx.2.1
  have hr := B.returns
  have hlk := B.notSynchronized
  have hin : meth.name = "<init>" := (name_of_methodNamed B.named B.method).1
  subst hsz
  have hD : va_D (va_A [(a, .inr (1, [.null, .null, .null, .null, .null, .null, .int 0, .int 0, .int 0, .int 0, .int 0]))] s.heap.size) [(a, .inr (1, [.null, .null, .null, .null, .null, .null, .int 0, .int 0, .int 0, .int 0, .int 0]))] := z_one (Or.inl ⟨0, _, rfl⟩)
  generalize hAe : va_A [(a, .inr (1, [.null, .null, .null, .null, .null, .null, .int 0, .int 0, .int 0, .int 0, .int 0]))] s.heap.size = A at hD hE ⊢
  have hA : ∀ q, s.heap.size ≤ q → A q := fun q h => by rw [← hAe]; exact Or.inr h
  have hS : va_S A s.heap s.heap [] := va_S.rf
  have hl := lv_entry ([.ref a, .ref t, .ref h]) (n := 3) (Nat.le_of_ble_eq_true rfl)
  rw [lg_entry_eq]
  generalize (lg_sl ([.ref a, .ref t, .ref h]) ++ List.replicate (3 - (lg_sl ([.ref a, .ref t, .ref h])).length) Slot.unset).toArray = ls at hl ⊢
  have hl : lv_has ls 3 [(0, .ref a), (1, .ref t), (2, .ref h)] := hl
  refine lv_aload_n (pc := 0) hx hb dX0_init_0 rfl (lv_at hl 0 rfl) ?_
  refine W.objInit hx hb cx.2.2.2.1 (cx.2.2.2.2.1 _ wd_373) (cx.2.2.2.2.1 _ wd_36) (cx.2.2.2.2.1 _ wd_37) rfl (by rw [hml]; exact hl.1) rfl dX0_init_1 (Nat.le_of_ble_eq_true rfl) (Nat.le_of_ble_eq_true rfl) ?_
  refine W.eq (g2 := F0 m 4 ls []) rfl ?_
  refine lv_aload_n (pc := 4) hx hb dX0_init_4 rfl (lv_at hl 0 rfl) ?_
  refine lv_bipush (pc := 5) hx hb dX0_init_5 zb_40 ?_
  refine zr_newa (pc := 7) cx (atype := .int) (t := 0) (ty := .int) rfl rfl (fun _ _ => rfl) wd_212 hP hD hS hA (n := 40) (N' := 40) (a0 := (40, .inl (fun _ => 0))) (fun _ => rfl) (by decide) (by decide) (by decide) (Nat.le_of_ble_eq_true rfl) (Nat.le_of_ble_eq_true rfl) dX0_init_7 (fun q1 H hP hD hS => ?_)
  have hP : va_P D vwCl [(a, .inr (1, [.null, .null, .null, .null, .null, .null, .int 0, .int 0, .int 0, .int 0, .int 0])), (q1, .inl (cy 0, 40, .inl (fun _ => 0)))] H := hP
  have hD : va_D A [(a, .inr (1, [.null, .null, .null, .null, .null, .null, .int 0, .int 0, .int 0, .int 0, .int 0])), (q1, .inl (cy 0, 40, .inl (fun _ => 0)))] := hD
  refine zr_putF (pc := 9) cx lf_X0_9 hin hP hD hS 0 (a := a) rfl (v := .ref q1) rfl rfl (Nat.le_of_ble_eq_true rfl) dX0_init_9 (fun H locs hP hD hS => ?_)
  have hP : va_P D vwCl [(a, .inr (1, [.null, .null, .ref q1, .null, .null, .null, .int 0, .int 0, .int 0, .int 0, .int 0])), (q1, .inl (cy 0, 40, .inl (fun _ => 0)))] H := hP
  have hD : va_D A [(a, .inr (1, [.null, .null, .ref q1, .null, .null, .null, .int 0, .int 0, .int 0, .int 0, .int 0])), (q1, .inl (cy 0, 40, .inl (fun _ => 0)))] := hD
  refine lv_aload_n (pc := 12) hx hb dX0_init_12 rfl (lv_at hl 0 rfl) ?_
  refine lv_bipush (pc := 13) hx hb dX0_init_13 zb_40 ?_
  refine zr_newa (pc := 15) cx (atype := .int) (t := 0) (ty := .int) rfl rfl (fun _ _ => rfl) wd_212 hP hD hS hA (n := 40) (N' := 40) (a0 := (40, .inl (fun _ => 0))) (fun _ => rfl) (by decide) (by decide) (by decide) (Nat.le_of_ble_eq_true rfl) (Nat.le_of_ble_eq_true rfl) dX0_init_15 (fun q2 H hP hD hS => ?_)
  have hP : va_P D vwCl [(a, .inr (1, [.null, .null, .ref q1, .null, .null, .null, .int 0, .int 0, .int 0, .int 0, .int 0])), (q1, .inl (cy 0, 40, .inl (fun _ => 0))), (q2, .inl (cy 0, 40, .inl (fun _ => 0)))] H := hP
  have hD : va_D A [(a, .inr (1, [.null, .null, .ref q1, .null, .null, .null, .int 0, .int 0, .int 0, .int 0, .int 0])), (q1, .inl (cy 0, 40, .inl (fun _ => 0))), (q2, .inl (cy 0, 40, .inl (fun _ => 0)))] := hD
  refine zr_putF (pc := 17) cx lf_X0_15 hin hP hD hS 0 (a := a) rfl (v := .ref q2) rfl rfl (Nat.le_of_ble_eq_true rfl) dX0_init_17 (fun H locs hP hD hS => ?_)
  have hP : va_P D vwCl [(a, .inr (1, [.null, .null, .ref q1, .ref q2, .null, .null, .int 0, .int 0, .int 0, .int 0, .int 0])), (q1, .inl (cy 0, 40, .inl (fun _ => 0))), (q2, .inl (cy 0, 40, .inl (fun _ => 0)))] H := hP
  have hD : va_D A [(a, .inr (1, [.null, .null, .ref q1, .ref q2, .null, .null, .int 0, .int 0, .int 0, .int 0, .int 0])), (q1, .inl (cy 0, 40, .inl (fun _ => 0))), (q2, .inl (cy 0, 40, .inl (fun _ => 0)))] := hD
  refine lv_aload_n (pc := 20) hx hb dX0_init_20 rfl (lv_at hl 0 rfl) ?_
  refine lv_bipush (pc := 21) hx hb dX0_init_21 zb_40 ?_
  refine zr_newa (pc := 23) cx (atype := .int) (t := 0) (ty := .int) rfl rfl (fun _ _ => rfl) wd_212 hP hD hS hA (n := 40) (N' := 40) (a0 := (40, .inl (fun _ => 0))) (fun _ => rfl) (by decide) (by decide) (by decide) (Nat.le_of_ble_eq_true rfl) (Nat.le_of_ble_eq_true rfl) dX0_init_23 (fun q3 H hP hD hS => ?_)
  have hP : va_P D vwCl [(a, .inr (1, [.null, .null, .ref q1, .ref q2, .null, .null, .int 0, .int 0, .int 0, .int 0, .int 0])), (q1, .inl (cy 0, 40, .inl (fun _ => 0))), (q2, .inl (cy 0, 40, .inl (fun _ => 0))), (q3, .inl (cy 0, 40, .inl (fun _ => 0)))] H := hP
  have hD : va_D A [(a, .inr (1, [.null, .null, .ref q1, .ref q2, .null, .null, .int 0, .int 0, .int 0, .int 0, .int 0])), (q1, .inl (cy 0, 40, .inl (fun _ => 0))), (q2, .inl (cy 0, 40, .inl (fun _ => 0))), (q3, .inl (cy 0, 40, .inl (fun _ => 0)))] := hD
  refine zr_putF (pc := 25) cx lf_X0_18 hin hP hD hS 0 (a := a) rfl (v := .ref q3) rfl rfl (Nat.le_of_ble_eq_true rfl) dX0_init_25 (fun H locs hP hD hS => ?_)
  have hP : va_P D vwCl [(a, .inr (1, [.null, .null, .ref q1, .ref q2, .ref q3, .null, .int 0, .int 0, .int 0, .int 0, .int 0])), (q1, .inl (cy 0, 40, .inl (fun _ => 0))), (q2, .inl (cy 0, 40, .inl (fun _ => 0))), (q3, .inl (cy 0, 40, .inl (fun _ => 0)))] H := hP
  have hD : va_D A [(a, .inr (1, [.null, .null, .ref q1, .ref q2, .ref q3, .null, .int 0, .int 0, .int 0, .int 0, .int 0])), (q1, .inl (cy 0, 40, .inl (fun _ => 0))), (q2, .inl (cy 0, 40, .inl (fun _ => 0))), (q3, .inl (cy 0, 40, .inl (fun _ => 0)))] := hD
  refine lv_aload_n (pc := 28) hx hb dX0_init_28 rfl (lv_at hl 0 rfl) ?_
  refine lv_bipush (pc := 29) hx hb dX0_init_29 zb_40 ?_
  refine zr_newa (pc := 31) cx (atype := .int) (t := 0) (ty := .int) rfl rfl (fun _ _ => rfl) wd_212 hP hD hS hA (n := 40) (N' := 40) (a0 := (40, .inl (fun _ => 0))) (fun _ => rfl) (by decide) (by decide) (by decide) (Nat.le_of_ble_eq_true rfl) (Nat.le_of_ble_eq_true rfl) dX0_init_31 (fun q4 H hP hD hS => ?_)
  have hP : va_P D vwCl [(a, .inr (1, [.null, .null, .ref q1, .ref q2, .ref q3, .null, .int 0, .int 0, .int 0, .int 0, .int 0])), (q1, .inl (cy 0, 40, .inl (fun _ => 0))), (q2, .inl (cy 0, 40, .inl (fun _ => 0))), (q3, .inl (cy 0, 40, .inl (fun _ => 0))), (q4, .inl (cy 0, 40, .inl (fun _ => 0)))] H := hP
  have hD : va_D A [(a, .inr (1, [.null, .null, .ref q1, .ref q2, .ref q3, .null, .int 0, .int 0, .int 0, .int 0, .int 0])), (q1, .inl (cy 0, 40, .inl (fun _ => 0))), (q2, .inl (cy 0, 40, .inl (fun _ => 0))), (q3, .inl (cy 0, 40, .inl (fun _ => 0))), (q4, .inl (cy 0, 40, .inl (fun _ => 0)))] := hD
  refine zr_putF (pc := 33) cx lf_X0_21 hin hP hD hS 0 (a := a) rfl (v := .ref q4) rfl rfl (Nat.le_of_ble_eq_true rfl) dX0_init_33 (fun H locs hP hD hS => ?_)
  have hP : va_P D vwCl [(a, .inr (1, [.null, .null, .ref q1, .ref q2, .ref q3, .ref q4, .int 0, .int 0, .int 0, .int 0, .int 0])), (q1, .inl (cy 0, 40, .inl (fun _ => 0))), (q2, .inl (cy 0, 40, .inl (fun _ => 0))), (q3, .inl (cy 0, 40, .inl (fun _ => 0))), (q4, .inl (cy 0, 40, .inl (fun _ => 0)))] H := hP
  have hD : va_D A [(a, .inr (1, [.null, .null, .ref q1, .ref q2, .ref q3, .ref q4, .int 0, .int 0, .int 0, .int 0, .int 0])), (q1, .inl (cy 0, 40, .inl (fun _ => 0))), (q2, .inl (cy 0, 40, .inl (fun _ => 0))), (q3, .inl (cy 0, 40, .inl (fun _ => 0))), (q4, .inl (cy 0, 40, .inl (fun _ => 0)))] := hD
  refine lv_aload_n (pc := 36) hx hb dX0_init_36 rfl (lv_at hl 0 rfl) ?_
  refine lv_iconst (pc := 37) hx hb dX0_init_37 zc_m1 ?_
  refine zr_put (pc := 38) cx lq_X0_24 hP hD hS 0 (a := a) rfl (v := .int (-1)) rfl rfl (Nat.le_of_ble_eq_true rfl) dX0_init_38 (fun H locs hP hD hS => ?_)
  have hP : va_P D vwCl [(a, .inr (1, [.null, .null, .ref q1, .ref q2, .ref q3, .ref q4, .int 0, .int (-1), .int 0, .int 0, .int 0])), (q1, .inl (cy 0, 40, .inl (fun _ => 0))), (q2, .inl (cy 0, 40, .inl (fun _ => 0))), (q3, .inl (cy 0, 40, .inl (fun _ => 0))), (q4, .inl (cy 0, 40, .inl (fun _ => 0)))] H := hP
  have hD : va_D A [(a, .inr (1, [.null, .null, .ref q1, .ref q2, .ref q3, .ref q4, .int 0, .int (-1), .int 0, .int 0, .int 0])), (q1, .inl (cy 0, 40, .inl (fun _ => 0))), (q2, .inl (cy 0, 40, .inl (fun _ => 0))), (q3, .inl (cy 0, 40, .inl (fun _ => 0))), (q4, .inl (cy 0, 40, .inl (fun _ => 0)))] := hD
  refine lv_aload_n (pc := 41) hx hb dX0_init_41 rfl (lv_at hl 0 rfl) ?_
  refine lv_iconst (pc := 42) hx hb dX0_init_42 zc_m1 ?_
  refine zr_put (pc := 43) cx lq_X0_28 hP hD hS 0 (a := a) rfl (v := .int (-1)) rfl rfl (Nat.le_of_ble_eq_true rfl) dX0_init_43 (fun H locs hP hD hS => ?_)
  have hP : va_P D vwCl [(a, .inr (1, [.null, .null, .ref q1, .ref q2, .ref q3, .ref q4, .int 0, .int (-1), .int (-1), .int 0, .int 0])), (q1, .inl (cy 0, 40, .inl (fun _ => 0))), (q2, .inl (cy 0, 40, .inl (fun _ => 0))), (q3, .inl (cy 0, 40, .inl (fun _ => 0))), (q4, .inl (cy 0, 40, .inl (fun _ => 0)))] H := hP
  have hD : va_D A [(a, .inr (1, [.null, .null, .ref q1, .ref q2, .ref q3, .ref q4, .int 0, .int (-1), .int (-1), .int 0, .int 0])), (q1, .inl (cy 0, 40, .inl (fun _ => 0))), (q2, .inl (cy 0, 40, .inl (fun _ => 0))), (q3, .inl (cy 0, 40, .inl (fun _ => 0))), (q4, .inl (cy 0, 40, .inl (fun _ => 0)))] := hD
  refine lv_aload_n (pc := 46) hx hb dX0_init_46 rfl (lv_at hl 0 rfl) ?_
  refine lv_iconst (pc := 47) hx hb dX0_init_47 zc_m1 ?_
  refine zr_put (pc := 48) cx lq_X0_31 hP hD hS 0 (a := a) rfl (v := .int (-1)) rfl rfl (Nat.le_of_ble_eq_true rfl) dX0_init_48 (fun H locs hP hD hS => ?_)
  have hP : va_P D vwCl [(a, .inr (1, [.null, .null, .ref q1, .ref q2, .ref q3, .ref q4, .int 0, .int (-1), .int (-1), .int (-1), .int 0])), (q1, .inl (cy 0, 40, .inl (fun _ => 0))), (q2, .inl (cy 0, 40, .inl (fun _ => 0))), (q3, .inl (cy 0, 40, .inl (fun _ => 0))), (q4, .inl (cy 0, 40, .inl (fun _ => 0)))] H := hP
  have hD : va_D A [(a, .inr (1, [.null, .null, .ref q1, .ref q2, .ref q3, .ref q4, .int 0, .int (-1), .int (-1), .int (-1), .int 0])), (q1, .inl (cy 0, 40, .inl (fun _ => 0))), (q2, .inl (cy 0, 40, .inl (fun _ => 0))), (q3, .inl (cy 0, 40, .inl (fun _ => 0))), (q4, .inl (cy 0, 40, .inl (fun _ => 0)))] := hD
  refine lv_aload_n (pc := 51) hx hb dX0_init_51 rfl (lv_at hl 0 rfl) ?_
  refine lv_iconst (pc := 52) hx hb dX0_init_52 zc_m1 ?_
  refine zr_put (pc := 53) cx lq_X0_34 hP hD hS 0 (a := a) rfl (v := .int (-1)) rfl rfl (Nat.le_of_ble_eq_true rfl) dX0_init_53 (fun H locs hP hD hS => ?_)
  have hP : va_P D vwCl [(a, .inr (1, [.null, .null, .ref q1, .ref q2, .ref q3, .ref q4, .int 0, .int (-1), .int (-1), .int (-1), .int (-1)])), (q1, .inl (cy 0, 40, .inl (fun _ => 0))), (q2, .inl (cy 0, 40, .inl (fun _ => 0))), (q3, .inl (cy 0, 40, .inl (fun _ => 0))), (q4, .inl (cy 0, 40, .inl (fun _ => 0)))] H := hP
  have hD : va_D A [(a, .inr (1, [.null, .null, .ref q1, .ref q2, .ref q3, .ref q4, .int 0, .int (-1), .int (-1), .int (-1), .int (-1)])), (q1, .inl (cy 0, 40, .inl (fun _ => 0))), (q2, .inl (cy 0, 40, .inl (fun _ => 0))), (q3, .inl (cy 0, 40, .inl (fun _ => 0))), (q4, .inl (cy 0, 40, .inl (fun _ => 0)))] := hD
  refine lv_aload_n (pc := 56) hx hb dX0_init_56 rfl (lv_at hl 0 rfl) ?_
  refine lv_aload_n (pc := 57) hx hb dX0_init_57 rfl (lv_at hl 1 rfl) ?_
  refine zr_putF (pc := 58) cx lf_X0_37 hin hP hD hS 0 (a := a) rfl (v := .ref t) rfl rfl (Nat.le_of_ble_eq_true rfl) dX0_init_58 (fun H locs hP hD hS => ?_)
  have hP : va_P D vwCl [(a, .inr (1, [.ref t, .null, .ref q1, .ref q2, .ref q3, .ref q4, .int 0, .int (-1), .int (-1), .int (-1), .int (-1)])), (q1, .inl (cy 0, 40, .inl (fun _ => 0))), (q2, .inl (cy 0, 40, .inl (fun _ => 0))), (q3, .inl (cy 0, 40, .inl (fun _ => 0))), (q4, .inl (cy 0, 40, .inl (fun _ => 0)))] H := hP
  have hD : va_D A [(a, .inr (1, [.ref t, .null, .ref q1, .ref q2, .ref q3, .ref q4, .int 0, .int (-1), .int (-1), .int (-1), .int (-1)])), (q1, .inl (cy 0, 40, .inl (fun _ => 0))), (q2, .inl (cy 0, 40, .inl (fun _ => 0))), (q3, .inl (cy 0, 40, .inl (fun _ => 0))), (q4, .inl (cy 0, 40, .inl (fun _ => 0)))] := hD
  refine lv_aload_n (pc := 61) hx hb dX0_init_61 rfl (lv_at hl 0 rfl) ?_
  refine lv_aload_n (pc := 62) hx hb dX0_init_62 rfl (lv_at hl 2 rfl) ?_
  refine zr_putF (pc := 63) cx lf_X0_41 hin hP hD hS 0 (a := a) rfl (v := .ref h) rfl rfl (Nat.le_of_ble_eq_true rfl) dX0_init_63 (fun H locs hP hD hS => ?_)
  have hP : va_P D vwCl [(a, .inr (1, [.ref t, .ref h, .ref q1, .ref q2, .ref q3, .ref q4, .int 0, .int (-1), .int (-1), .int (-1), .int (-1)])), (q1, .inl (cy 0, 40, .inl (fun _ => 0))), (q2, .inl (cy 0, 40, .inl (fun _ => 0))), (q3, .inl (cy 0, 40, .inl (fun _ => 0))), (q4, .inl (cy 0, 40, .inl (fun _ => 0)))] H := hP
  have hD : va_D A [(a, .inr (1, [.ref t, .ref h, .ref q1, .ref q2, .ref q3, .ref q4, .int 0, .int (-1), .int (-1), .int (-1), .int (-1)])), (q1, .inl (cy 0, 40, .inl (fun _ => 0))), (q2, .inl (cy 0, 40, .inl (fun _ => 0))), (q3, .inl (cy 0, 40, .inl (fun _ => 0))), (q4, .inl (cy 0, 40, .inl (fun _ => 0)))] := hD
  exact W.vret (pc := 66) hx hb hr (fun t ht hW => ⟨⟨(fun k => [a, q1, q2, q3, q4].getD k 0), rfl, rfl, by rw [ht]; exact hP, hD⟩, hS.F ht⟩) hS.2.2 dX0_init_66
theorem dX2_init_4 : decode cX2_init 4 = .ok (.aload_n 0, 1) := by decide +kernel
theorem dX2_init_5 : decode cX2_init 5 = .ok (.iconst (-1), 1) := by decide +kernel
theorem dX2_init_6 : decode cX2_init 6 = .ok (.putfield 9, 3) := by decide +kernel
theorem dX2_init_9 : decode cX2_init 9 = .ok (.aload_n 0, 1) := by decide +kernel
theorem dX2_init_10 : decode cX2_init 10 = .ok (.iconst (-1), 1) := by decide +kernel
theorem dX2_init_11 : decode cX2_init 11 = .ok (.putfield 15, 3) := by decide +kernel
theorem dX2_init_14 : decode cX2_init 14 = .ok (.aload_n 0, 1) := by decide +kernel
theorem dX2_init_15 : decode cX2_init 15 = .ok (.iconst (-1), 1) := by decide +kernel
theorem dX2_init_16 : decode cX2_init 16 = .ok (.putfield 18, 3) := by decide +kernel
theorem dX2_init_19 : decode cX2_init 19 = .ok (.aload_n 0, 1) := by decide +kernel
theorem dX2_init_20 : decode cX2_init 20 = .ok (.aload_n 1, 1) := by decide +kernel
theorem dX2_init_21 : decode cX2_init 21 = .ok (.putfield 21, 3) := by decide +kernel
theorem lf_X2_21 : zLqF RX2 21 3 0 (.object "ParlourLeaves$House") := ⟨"ParlourLeaves$Foresight", RX2, TX2, 5, tyX2, rfl, by decide, wsin_X2, wd_420, rfl, rfl, rfl, by decide +kernel, tyX2_ok, nmX2⟩
theorem dX2_init_24 : decode cX2_init 24 = .ok (.aload_n 0, 1) := by decide +kernel
theorem dX2_init_25 : decode cX2_init 25 = .ok (.aload_n 2, 1) := by decide +kernel
theorem dX2_init_26 : decode cX2_init 26 = .ok (.putfield 25, 3) := by decide +kernel
theorem lf_X2_25 : zLqF RX2 25 3 1 (.object "ParlourLeaves$Life") := ⟨"ParlourLeaves$Foresight", RX2, TX2, 5, tyX2, rfl, by decide, wsin_X2, wd_421, rfl, rfl, rfl, by decide +kernel, tyX2_ok, nmX2⟩
theorem dX2_init_29 : decode cX2_init 29 = .ok (.return_, 1) := by decide +kernel
def bX2 (cy : Nat → ClassId) (h : Nat) (lf : Nat) (q : Nat → Nat) : va_W := [((q 0), .inr (3, [.ref h, .ref lf, .int (-1), .int (-1), .int (-1)]))]
theorem wd_419 : (Jvm.Cond.methodLink "ParlourLeaves$Foresight" (3 : Nat) ({ cls := "java/lang/Object", name := "<init>", desc := "()V" } : Jvm.MethodName)) ∈ zTB := List.mem_filter.mpr ⟨List.mem_append_right _ (List.mem_append_right _ (List.mem_append_left _ (List.mem_of_getElem? (i := 179) rfl))), rfl⟩
theorem dX2_init_0 : decode cX2_init 0 = .ok (.aload_n 0, 1) := by decide +kernel
theorem dX2_init_1 : decode cX2_init 1 = .ok (.invokespecial 3, 3) := by decide +kernel
set_option maxHeartbeats 1000000 in
set_option maxRecDepth 100000 in
theorem mX2_init {l : Launch} {D : va_G} {cy : Nat → ClassId} {kK kV : Nat → Nat} (h : Nat) (lf : Nat) (a sz : Nat) : zMc l yX2_init cX2_init 3 { frames := 1, cells := 0, slots := 0, locals := 39 } [.ref h, .ref lf] D cy kK kV sz a (.inr (3, [.null, .null, .int 0, .int 0, .int 0])) (bX2 cy h lf) := by
  refine Met.ofW (cc := cX2_init) (maxL := 3) (ret := none) (by decide) rfl ?_
  intro p e s m args below meth c s₁ B hml hv
  obtain ⟨rfl, hsz, hP, hK, hE⟩ := hv
  have cx : zX RX2 cX2_init 3 p s m ([.ref a, .ref h, .ref lf]).toArray c D cy := ⟨B.exec, B.bytes, hml, findClass_of_methodNamed B.named, fun w hw => atoms_spec (ws := Cond.code yX2_init cX2_init 3 none :: zTB) B.pre w (List.mem_cons_of_mem _ hw), hK⟩
  have hx := cx.1
  have hb := cx.2.1
  have hr := B.returns
  have hlk := B.notSynchronized
  have hin : meth.name = "<init>" := (name_of_methodNamed B.named B.method).1
  subst hsz
  have hD : va_D (va_A [(a, .inr (3, [.null, .null, .int 0, .int 0, .int 0]))] s.heap.size) [(a, .inr (3, [.null, .null, .int 0, .int 0, .int 0]))] := z_one (Or.inl ⟨0, _, rfl⟩)
  generalize hAe : va_A [(a, .inr (3, [.null, .null, .int 0, .int 0, .int 0]))] s.heap.size = A at hD hE ⊢
  have hA : ∀ q, s.heap.size ≤ q → A q := fun q h => by rw [← hAe]; exact Or.inr h
  have hS : va_S A s.heap s.heap [] := va_S.rf
  have hl := lv_entry ([.ref a, .ref h, .ref lf]) (n := 3) (Nat.le_of_ble_eq_true rfl)
  rw [lg_entry_eq]
  generalize (lg_sl ([.ref a, .ref h, .ref lf]) ++ List.replicate (3 - (lg_sl ([.ref a, .ref h, .ref lf])).length) Slot.unset).toArray = ls at hl ⊢
  have hl : lv_has ls 3 [(0, .ref a), (1, .ref h), (2, .ref lf)] := hl
  refine lv_aload_n (pc := 0) hx hb dX2_init_0 rfl (lv_at hl 0 rfl) ?_
  refine W.objInit hx hb cx.2.2.2.1 (cx.2.2.2.2.1 _ wd_419) (cx.2.2.2.2.1 _ wd_36) (cx.2.2.2.2.1 _ wd_37) rfl (by rw [hml]; exact hl.1) rfl dX2_init_1 (Nat.le_of_ble_eq_true rfl) (Nat.le_of_ble_eq_true rfl) ?_
  refine W.eq (g2 := F0 m 4 ls []) rfl ?_
  refine lv_aload_n (pc := 4) hx hb dX2_init_4 rfl (lv_at hl 0 rfl) ?_
  refine lv_iconst (pc := 5) hx hb dX2_init_5 zc_m1 ?_
  refine zr_put (pc := 6) cx lq_X2_9 hP hD hS 0 (a := a) rfl (v := .int (-1)) rfl rfl (Nat.le_of_ble_eq_true rfl) dX2_init_6 (fun H locs hP hD hS => ?_)
  have hP : va_P D vwCl [(a, .inr (3, [.null, .null, .int (-1), .int 0, .int 0]))] H := hP
  have hD : va_D A [(a, .inr (3, [.null, .null, .int (-1), .int 0, .int 0]))] := hD
  refine lv_aload_n (pc := 9) hx hb dX2_init_9 rfl (lv_at hl 0 rfl) ?_
  refine lv_iconst (pc := 10) hx hb dX2_init_10 zc_m1 ?_
  refine zr_put (pc := 11) cx lq_X2_15 hP hD hS 0 (a := a) rfl (v := .int (-1)) rfl rfl (Nat.le_of_ble_eq_true rfl) dX2_init_11 (fun H locs hP hD hS => ?_)
  have hP : va_P D vwCl [(a, .inr (3, [.null, .null, .int (-1), .int (-1), .int 0]))] H := hP
  have hD : va_D A [(a, .inr (3, [.null, .null, .int (-1), .int (-1), .int 0]))] := hD
  refine lv_aload_n (pc := 14) hx hb dX2_init_14 rfl (lv_at hl 0 rfl) ?_
  refine lv_iconst (pc := 15) hx hb dX2_init_15 zc_m1 ?_
  refine zr_put (pc := 16) cx lq_X2_18 hP hD hS 0 (a := a) rfl (v := .int (-1)) rfl rfl (Nat.le_of_ble_eq_true rfl) dX2_init_16 (fun H locs hP hD hS => ?_)
  have hP : va_P D vwCl [(a, .inr (3, [.null, .null, .int (-1), .int (-1), .int (-1)]))] H := hP
  have hD : va_D A [(a, .inr (3, [.null, .null, .int (-1), .int (-1), .int (-1)]))] := hD
  refine lv_aload_n (pc := 19) hx hb dX2_init_19 rfl (lv_at hl 0 rfl) ?_
  refine lv_aload_n (pc := 20) hx hb dX2_init_20 rfl (lv_at hl 1 rfl) ?_
  refine zr_putF (pc := 21) cx lf_X2_21 hin hP hD hS 0 (a := a) rfl (v := .ref h) rfl rfl (Nat.le_of_ble_eq_true rfl) dX2_init_21 (fun H locs hP hD hS => ?_)
  have hP : va_P D vwCl [(a, .inr (3, [.ref h, .null, .int (-1), .int (-1), .int (-1)]))] H := hP
  have hD : va_D A [(a, .inr (3, [.ref h, .null, .int (-1), .int (-1), .int (-1)]))] := hD
  refine lv_aload_n (pc := 24) hx hb dX2_init_24 rfl (lv_at hl 0 rfl) ?_
  refine lv_aload_n (pc := 25) hx hb dX2_init_25 rfl (lv_at hl 2 rfl) ?_
  refine zr_putF (pc := 26) cx lf_X2_25 hin hP hD hS 0 (a := a) rfl (v := .ref lf) rfl rfl (Nat.le_of_ble_eq_true rfl) dX2_init_26 (fun H locs hP hD hS => ?_)
  have hP : va_P D vwCl [(a, .inr (3, [.ref h, .ref lf, .int (-1), .int (-1), .int (-1)]))] H := hP
  have hD : va_D A [(a, .inr (3, [.ref h, .ref lf, .int (-1), .int (-1), .int (-1)]))] := hD
  exact W.vret (pc := 29) hx hb hr (fun t ht hW => ⟨⟨(fun k => [a].getD k 0), rfl, rfl, by rw [ht]; exact hP, hD⟩, hS.F ht⟩) hS.2.2 dX2_init_29
