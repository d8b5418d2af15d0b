/-! the builder's constructors, printed by wip/gen/jinit.py -/
theorem wd_495 : (Jvm.Cond.lays "java/lang/StringBuilder" "java/lang/AbstractStringBuilder" "value" "[B") ∈ zTB := List.mem_filter.mpr ⟨List.mem_append_right _ (List.mem_append_right _ (List.mem_append_right _ (List.mem_append_left _ (List.mem_of_getElem? (i := 15) rfl)))), rfl⟩
theorem wd_497 : (Jvm.Cond.lays "java/lang/StringBuilder" "java/lang/AbstractStringBuilder" "coder" "B") ∈ zTB := List.mem_filter.mpr ⟨List.mem_append_right _ (List.mem_append_right _ (List.mem_append_right _ (List.mem_append_left _ (List.mem_of_getElem? (i := 17) rfl)))), rfl⟩
theorem wd_499 : (Jvm.Cond.lays "java/lang/StringBuilder" "java/lang/AbstractStringBuilder" "maybeLatin1" "Z") ∈ zTB := List.mem_filter.mpr ⟨List.mem_append_right _ (List.mem_append_right _ (List.mem_append_right _ (List.mem_append_left _ (List.mem_of_getElem? (i := 19) rfl)))), rfl⟩
theorem wd_501 : (Jvm.Cond.lays "java/lang/StringBuilder" "java/lang/AbstractStringBuilder" "count" "I") ∈ zTB := List.mem_filter.mpr ⟨List.mem_append_right _ (List.mem_append_right _ (List.mem_append_right _ (List.mem_append_left _ (List.mem_of_getElem? (i := 21) rfl)))), rfl⟩
theorem wsin_J4 : ∀ w ∈ u_ws RJ4 TJ4 4, w ∈ zTB := (List.forall_mem_cons.mpr ⟨wd_495, (List.forall_mem_cons.mpr ⟨wd_497, (List.forall_mem_cons.mpr ⟨wd_499, (List.forall_mem_cons.mpr ⟨wd_501, (fun _ h => absurd h List.not_mem_nil)⟩)⟩)⟩)⟩)
def bJ4 (cy : Nat → ClassId) (cap : Nat) (cnt ml : Int32) (g : Nat → Int32) (q : Nat → Nat) : va_W := [(q 0, .inr (0, [.ref (q 1), .int 0, .int ml, .int cnt])), (q 1, .inl (cy 4, cap, .inl g))]
theorem wd_491 : (Jvm.Cond.fieldLink "java/lang/AbstractStringBuilder" (15 : Nat) "java/lang/AbstractStringBuilder" "value" "[B") ∈ zTB := List.mem_filter.mpr ⟨List.mem_append_right _ (List.mem_append_right _ (List.mem_append_right _ (List.mem_append_left _ (List.mem_of_getElem? (i := 11) rfl)))), rfl⟩
theorem lq_J5_15 : zLq RJ5 15 0 0 (.array .byte) := ⟨"java/lang/AbstractStringBuilder", RJ4, TJ4, 4, tyJ4, rfl, by decide, wsin_J4, wd_491, rfl, rfl, by decide +kernel, tyJ4_ok, nmJ4⟩
theorem lk_J5_15 : zLk RJ5 15 0 0 := ⟨"java/lang/AbstractStringBuilder", RJ4, TJ4, 4, rfl, by decide, wsin_J4, wd_491, rfl⟩
theorem wd_492 : (Jvm.Cond.fieldLink "java/lang/AbstractStringBuilder" (22 : Nat) "java/lang/AbstractStringBuilder" "coder" "B") ∈ zTB := List.mem_filter.mpr ⟨List.mem_append_right _ (List.mem_append_right _ (List.mem_append_right _ (List.mem_append_left _ (List.mem_of_getElem? (i := 12) rfl)))), rfl⟩
theorem lq_J5_22 : zLq RJ5 22 0 1 .byte := ⟨"java/lang/AbstractStringBuilder", RJ4, TJ4, 4, tyJ4, rfl, by decide, wsin_J4, wd_492, rfl, rfl, by decide +kernel, tyJ4_ok, nmJ4⟩
theorem lk_J5_22 : zLk RJ5 22 0 1 := ⟨"java/lang/AbstractStringBuilder", RJ4, TJ4, 4, rfl, by decide, wsin_J4, wd_492, rfl⟩
theorem wd_493 : (Jvm.Cond.fieldLink "java/lang/AbstractStringBuilder" (73 : Nat) "java/lang/AbstractStringBuilder" "maybeLatin1" "Z") ∈ zTB := List.mem_filter.mpr ⟨List.mem_append_right _ (List.mem_append_right _ (List.mem_append_right _ (List.mem_append_left _ (List.mem_of_getElem? (i := 13) rfl)))), rfl⟩
theorem lq_J5_73 : zLq RJ5 73 0 2 .boolean := ⟨"java/lang/AbstractStringBuilder", RJ4, TJ4, 4, tyJ4, rfl, by decide, wsin_J4, wd_493, rfl, rfl, by decide +kernel, tyJ4_ok, nmJ4⟩
theorem lk_J5_73 : zLk RJ5 73 0 2 := ⟨"java/lang/AbstractStringBuilder", RJ4, TJ4, 4, rfl, by decide, wsin_J4, wd_493, rfl⟩
theorem wd_494 : (Jvm.Cond.fieldLink "java/lang/AbstractStringBuilder" (79 : Nat) "java/lang/AbstractStringBuilder" "count" "I") ∈ zTB := List.mem_filter.mpr ⟨List.mem_append_right _ (List.mem_append_right _ (List.mem_append_right _ (List.mem_append_left _ (List.mem_of_getElem? (i := 14) rfl)))), rfl⟩
theorem lq_J5_79 : zLq RJ5 79 0 3 .int := ⟨"java/lang/AbstractStringBuilder", RJ4, TJ4, 4, tyJ4, rfl, by decide, wsin_J4, wd_494, rfl, rfl, by decide +kernel, tyJ4_ok, nmJ4⟩
theorem lk_J5_79 : zLk RJ5 79 0 3 := ⟨"java/lang/AbstractStringBuilder", RJ4, TJ4, 4, rfl, by decide, wsin_J4, wd_494, rfl⟩
theorem dJ5_init_d00df_0 : decode cJ5_init_d00df 0 = .ok (.aload_n 0, 1) := by decide +kernel
theorem dJ5_init_d00df_1 : decode cJ5_init_d00df 1 = .ok (.invokespecial 3, 3) := by decide +kernel
theorem wd_482 : (Jvm.Cond.methodLink "java/lang/AbstractStringBuilder" (3 : Nat) ({ cls := "java/lang/Object", name := "<init>", desc := "()V" } : Jvm.MethodName)) ∈ zTB := List.mem_filter.mpr ⟨List.mem_append_right _ (List.mem_append_right _ (List.mem_append_right _ (List.mem_append_left _ (List.mem_of_getElem? (i := 2) rfl)))), rfl⟩
theorem dJ5_init_d00df_4 : decode cJ5_init_d00df 4 = .ok (.getstatic 18, 3) := by decide +kernel
theorem wd_483 : (Jvm.Cond.fieldLink "java/lang/AbstractStringBuilder" (18 : Nat) "java/lang/String" "COMPACT_STRINGS" "Z") ∈ zTB := List.mem_filter.mpr ⟨List.mem_append_right _ (List.mem_append_right _ (List.mem_append_right _ (List.mem_append_left _ (List.mem_of_getElem? (i := 3) rfl)))), rfl⟩
theorem dJ5_init_d00df_7 : decode cJ5_init_d00df 7 = .ok (.ifCond .eq 18, 3) := by decide +kernel
theorem dJ5_init_d00df_10 : decode cJ5_init_d00df 10 = .ok (.aload_n 0, 1) := by decide +kernel
theorem dJ5_init_d00df_11 : decode cJ5_init_d00df 11 = .ok (.iload_n 1, 1) := by decide +kernel
theorem dJ5_init_d00df_12 : decode cJ5_init_d00df 12 = .ok (.newarray .byte, 2) := by decide +kernel
theorem wd_140 : (Jvm.Cond.arrayClass Jvm.ClassFile.FieldType.byte) ∈ zTB := List.mem_filter.mpr ⟨List.mem_append_right _ (List.mem_append_left _ (List.mem_of_getElem? (i := 140) rfl)), rfl⟩
theorem dJ5_init_d00df_14 : decode cJ5_init_d00df 14 = .ok (.putfield 15, 3) := by decide +kernel
theorem dJ5_init_d00df_17 : decode cJ5_init_d00df 17 = .ok (.aload_n 0, 1) := by decide +kernel
theorem dJ5_init_d00df_18 : decode cJ5_init_d00df 18 = .ok (.iconst 0, 1) := by decide +kernel
theorem dJ5_init_d00df_19 : decode cJ5_init_d00df 19 = .ok (.putfield 22, 3) := by decide +kernel
theorem dJ5_init_d00df_22 : decode cJ5_init_d00df 22 = .ok (.goto 16, 3) := by decide +kernel
theorem dJ5_init_d00df_38 : decode cJ5_init_d00df 38 = .ok (.return_, 1) := by decide +kernel
set_option maxHeartbeats 1000000 in
set_option maxRecDepth 100000 in
theorem mJ5_init_d00df {l : Launch} {D : va_G} {cy : Nat → ClassId} {kK kV : Nat → Nat} (a sz : Nat) : zMc l yJ5_init_d00df cJ5_init_d00df 2 { frames := 1, cells := 1, slots := 16, locals := 39 } [.int 16] D cy kK kV sz a (.inr (0, [.null, .int 0, .int 0, .int 0])) (bJ4 cy 16 0 0 (fun _ => 0)) := by
  refine Met.ofW (cc := cJ5_init_d00df) (maxL := 2) (ret := none) (by decide) rfl ?_
  intro p e s m args below meth c s₁ B hml hv
  obtain ⟨rfl, hsz, hP, hK, hE⟩ := hv
  have cx : zX RJ5 cJ5_init_d00df 2 p s m ([.ref a, .int 16]).toArray c D cy := ⟨B.exec, B.bytes, hml, findClass_of_methodNamed B.named, fun w hw => atoms_spec (ws := Cond.code yJ5_init_d00df cJ5_init_d00df 2 none :: zTB) B.pre w (List.mem_cons_of_mem _ hw), hK⟩
  have hx := cx.1
  have hb := cx.2.1
  have hr := B.returns
  have hlk := B.notSynchronized
  subst hsz
  have hD : va_D (va_A [(a, .inr (0, [.null, .int 0, .int 0, .int 0]))] s.heap.size) [(a, .inr (0, [.null, .int 0, .int 0, .int 0]))] := z_one (Or.inl ⟨0, _, rfl⟩)
  generalize hAe : va_A [(a, .inr (0, [.null, .int 0, .int 0, .int 0]))] s.heap.size = A at hD hE ⊢
  have hA : ∀ q, s.heap.size ≤ q → A q := fun q h => by rw [← hAe]; exact Or.inr h
  have hS : va_S A s.heap s.heap [] := va_S.rf
  have hl := lv_entry ([.ref a, .int 16]) (n := 2) (Nat.le_of_ble_eq_true rfl)
  rw [lg_entry_eq]
  generalize (lg_sl ([.ref a, .int 16]) ++ List.replicate (2 - (lg_sl ([.ref a, .int 16])).length) Slot.unset).toArray = ls at hl ⊢
  have hl : lv_has ls 2 [(0, .ref a), (1, .int 16)] := hl
  refine lv_aload_n (pc := 0) hx hb dJ5_init_d00df_0 rfl (lv_at hl 0 rfl) ?_
  refine W.objInit hx hb cx.2.2.2.1 (cx.2.2.2.2.1 _ wd_482) (cx.2.2.2.2.1 _ wd_36) (cx.2.2.2.2.1 _ wd_37) rfl (by rw [hml]; exact hl.1) rfl dJ5_init_d00df_1 (Nat.le_of_ble_eq_true rfl) (Nat.le_of_ble_eq_true rfl) ?_
  refine W.eq (g2 := F0 m 4 ls []) rfl ?_
  refine va_gets (pc := 4) (A := A) hx hb hE.2.2.2.2.1 hS cx.2.2.2.1 (cx.2.2.2.2.1 _ wd_483) (fun _ h => h) dJ5_init_d00df_4 ?_
  refine lv_if_eq (pc := 7) (tgt := 25) hx hb dJ5_init_d00df_7 (by decide) (fun c0 => absurd c0 (by decide)) (fun c0 => ?_)
  refine lv_aload_n (pc := 10) hx hb dJ5_init_d00df_10 rfl (lv_at hl 0 rfl) ?_
  refine lv_iload_n (pc := 11) hx hb dJ5_init_d00df_11 rfl (lv_at hl 1 rfl) ?_
  refine zr_newa (pc := 12) cx (atype := .byte) (t := 4) (ty := .byte) rfl rfl (fun _ _ => rfl) wd_140 hP hD hS hA (n := 16) (N' := 16) (a0 := (16, .inl (fun _ => 0))) (fun _ => rfl) (by decide) (by decide) (by decide) (Nat.le_of_ble_eq_true rfl) (Nat.le_of_ble_eq_true rfl) dJ5_init_d00df_12 (fun r H hP hD hS => ?_)
  have hP : va_P D vwCl [(a, .inr (0, [.null, .int 0, .int 0, .int 0])), (r, .inl (cy 4, 16, .inl (fun _ => 0)))] H := hP
  have hD : va_D A [(a, .inr (0, [.null, .int 0, .int 0, .int 0])), (r, .inl (cy 4, 16, .inl (fun _ => 0)))] := hD
  refine zr_put (pc := 14) cx lq_J5_15 hP hD hS 0 (a := a) rfl (v := .ref r) rfl rfl (Nat.le_of_ble_eq_true rfl) dJ5_init_d00df_14 (fun H locs hP hD hS => ?_)
  have hP : va_P D vwCl [(a, .inr (0, [.ref r, .int 0, .int 0, .int 0])), (r, .inl (cy 4, 16, .inl (fun _ => 0)))] H := hP
  have hD : va_D A [(a, .inr (0, [.ref r, .int 0, .int 0, .int 0])), (r, .inl (cy 4, 16, .inl (fun _ => 0)))] := hD
  refine lv_aload_n (pc := 17) hx hb dJ5_init_d00df_17 rfl (lv_at hl 0 rfl) ?_
  refine lv_iconst (pc := 18) hx hb dJ5_init_d00df_18 zc_0 ?_
  refine zr_put (pc := 19) cx lq_J5_22 hP hD hS 0 (a := a) rfl (v := .int 0) rfl rfl (Nat.le_of_ble_eq_true rfl) dJ5_init_d00df_19 (fun H locs hP hD hS => ?_)
  have hP : va_P D vwCl [(a, .inr (0, [.ref r, .int 0, .int 0, .int 0])), (r, .inl (cy 4, 16, .inl (fun _ => 0)))] H := hP
  have hD : va_D A [(a, .inr (0, [.ref r, .int 0, .int 0, .int 0])), (r, .inl (cy 4, 16, .inl (fun _ => 0)))] := hD
  refine lv_goto (pc := 22) (tgt := 38) hx hb dJ5_init_d00df_22 (by decide) ?_
  exact W.vret (pc := 38) hx hb hr (fun t ht hW => ⟨⟨(fun k => [a, r].getD k 0), rfl, rfl, by rw [ht]; exact hP, hD⟩, hS.F ht⟩) hS.2.2 dJ5_init_d00df_38
theorem wd_479 : (Jvm.Cond.methodLink "java/lang/StringBuilder" (1 : Nat) ({ cls := "java/lang/AbstractStringBuilder", name := "<init>", desc := "(I)V" } : Jvm.MethodName)) ∈ zTB := List.mem_filter.mpr ⟨List.mem_append_right _ (List.mem_append_right _ (List.mem_append_left _ (List.mem_of_getElem? (i := 239) rfl))), rfl⟩
theorem wd_480 : (Jvm.Cond.instanceMethod ({ cls := "java/lang/AbstractStringBuilder", name := "<init>", desc := "(I)V" } : Jvm.MethodName)) ∈ zTB := List.mem_filter.mpr ⟨List.mem_append_right _ (List.mem_append_right _ (List.mem_append_right _ (List.mem_append_left _ (List.mem_of_getElem? (i := 0) rfl)))), rfl⟩
theorem wd_17 : (Jvm.Cond.initialized "java/lang/AbstractStringBuilder") ∈ zTB := List.mem_filter.mpr ⟨List.mem_append_right _ (List.mem_append_left _ (List.mem_of_getElem? (i := 17) rfl)), rfl⟩
theorem wd_481 : (Jvm.Cond.code ({ cls := "java/lang/AbstractStringBuilder", name := "<init>", desc := "(I)V" } : Jvm.MethodName) prog_16_method_2_code (2 : Nat) (Option.none : Option Jvm.ClassFile.FieldType)) ∈ zTB := List.mem_filter.mpr ⟨List.mem_append_right _ (List.mem_append_right _ (List.mem_append_right _ (List.mem_append_left _ (List.mem_of_getElem? (i := 1) rfl)))), rfl⟩
theorem ci_J4_1 : zCI RJ4 1 yJ5_init_d00df cJ5_init_d00df 2 1 := ⟨⟨by decide, by decide, by decide +kernel⟩, rfl, wd_479, wd_480, wd_17, wd_481⟩
theorem dJ4_init_da8c8_0 : decode cJ4_init_da8c8 0 = .ok (.aload_n 0, 1) := by decide +kernel
theorem dJ4_init_da8c8_1 : decode cJ4_init_da8c8 1 = .ok (.bipush 16, 2) := by decide +kernel
theorem dJ4_init_da8c8_3 : decode cJ4_init_da8c8 3 = .ok (.invokespecial 1, 3) := by decide +kernel
theorem dJ4_init_da8c8_6 : decode cJ4_init_da8c8 6 = .ok (.return_, 1) := by decide +kernel
set_option maxHeartbeats 1000000 in
set_option maxRecDepth 100000 in
theorem mJ4_init_da8c8 {l : Launch} {D : va_G} {cy : Nat → ClassId} {kK kV : Nat → Nat} (a sz : Nat) : zMc l yJ4_init_da8c8 cJ4_init_da8c8 1 { frames := 2, cells := 1, slots := 16, locals := 60 } [] D cy kK kV sz a (.inr (0, [.null, .int 0, .int 0, .int 0])) (bJ4 cy 16 0 0 (fun _ => 0)) := by
  refine Met.ofW (cc := cJ4_init_da8c8) (maxL := 1) (ret := none) (by decide) rfl ?_
  intro p e s m args below meth c s₁ B hml hv
  obtain ⟨rfl, hsz, hP, hK, hE⟩ := hv
  have cx : zX RJ4 cJ4_init_da8c8 1 p s m ([.ref a]).toArray c D cy := ⟨B.exec, B.bytes, hml, findClass_of_methodNamed B.named, fun w hw => atoms_spec (ws := Cond.code yJ4_init_da8c8 cJ4_init_da8c8 1 none :: zTB) B.pre w (List.mem_cons_of_mem _ hw), hK⟩
  have hx := cx.1
  have hb := cx.2.1
  have hr := B.returns
  have hlk := B.notSynchronized
  subst hsz
  have hD : va_D (va_A [(a, .inr (0, [.null, .int 0, .int 0, .int 0]))] s.heap.size) [(a, .inr (0, [.null, .int 0, .int 0, .int 0]))] := z_one (Or.inl ⟨0, _, rfl⟩)
  generalize hAe : va_A [(a, .inr (0, [.null, .int 0, .int 0, .int 0]))] s.heap.size = A at hD hE ⊢
  have hA : ∀ q, s.heap.size ≤ q → A q := fun q h => by rw [← hAe]; exact Or.inr h
  have hS : va_S A s.heap s.heap [] := va_S.rf
  have hl := lv_entry ([.ref a]) (n := 1) (Nat.le_of_ble_eq_true rfl)
  rw [lg_entry_eq]
  generalize (lg_sl ([.ref a]) ++ List.replicate (1 - (lg_sl ([.ref a])).length) Slot.unset).toArray = ls at hl ⊢
  have hl : lv_has ls 1 [(0, .ref a)] := hl
  refine lv_aload_n (pc := 0) hx hb dJ4_init_da8c8_0 rfl (lv_at hl 0 rfl) ?_
  refine lv_bipush (pc := 1) hx hb dJ4_init_da8c8_1 zb_16 ?_
  refine zr_ctI (ws := []) (pc := 3) (As := [.int 16]) (rest := []) cx ci_J4_1 (mJ5_init_d00df a s.heap.size) ⟨Nat.le_of_ble_eq_true rfl, Nat.le_of_ble_eq_true rfl⟩ ⟨Nat.le_of_ble_eq_true rfl, Nat.le_of_ble_eq_true rfl⟩ hE hP hD hS hA hl.1 rfl rfl (Nat.le_of_ble_eq_true rfl) dJ4_init_da8c8_3 (fun u H locs hu hPn hDn hS => ?_)
  exact W.vret (pc := 6) hx hb hr (fun t ht hW => ⟨⟨u, rfl, hu, by rw [ht]; exact hPn, hDn⟩, hS.F ht⟩) hS.2.2 dJ4_init_da8c8_6
