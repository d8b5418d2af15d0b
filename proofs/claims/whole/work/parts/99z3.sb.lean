/-! the builder's members, printed by wip/gen/sb.py -/
theorem cap_sh {c : Nat} (h : c = 16 ∨ c = 34) : (Int32.ofNat c) >>> ((0 : Int32) &&& 31) = nI c := by rcases h with rfl | rfl <;> decide
theorem ch_nar : ∀ ch, ch < 128 → vp_nar .byte ((nI ch).toInt8.toInt32) = nI ch := by decide +kernel
theorem ch_rd : ∀ ch, ch < 128 → zI2c (nI ch &&& 255) = nI ch ∧ narrow .char (.int (nI ch)) = .int (nI ch) := by decide +kernel
theorem dJ5_isLatin1_aae02_0 : decode cJ5_isLatin1_aae02 0 = .ok (.getstatic 18, 3) := by decide +kernel
theorem dJ5_isLatin1_aae02_3 : decode cJ5_isLatin1_aae02 3 = .ok (.ifCond .eq 14, 3) := by decide +kernel
theorem dJ5_isLatin1_aae02_6 : decode cJ5_isLatin1_aae02 6 = .ok (.aload_n 0, 1) := by decide +kernel
theorem dJ5_isLatin1_aae02_7 : decode cJ5_isLatin1_aae02 7 = .ok (.getfield 22, 3) := by decide +kernel
theorem dJ5_isLatin1_aae02_10 : decode cJ5_isLatin1_aae02 10 = .ok (.ifCond .ne 7, 3) := by decide +kernel
theorem dJ5_isLatin1_aae02_13 : decode cJ5_isLatin1_aae02 13 = .ok (.iconst 1, 1) := by decide +kernel
theorem dJ5_isLatin1_aae02_14 : decode cJ5_isLatin1_aae02 14 = .ok (.goto 4, 3) := by decide +kernel
theorem dJ5_isLatin1_aae02_18 : decode cJ5_isLatin1_aae02 18 = .ok (.ireturn, 1) := by decide +kernel
abbrev rmJ5_isLatin1_aae02 : Room := { frames := 1, cells := 0, slots := 0, locals := 0 }
set_option maxHeartbeats 1000000 in
set_option maxRecDepth 100000 in
theorem mJ5_isLatin1 {l : Launch} {D : va_G} {cy : Nat → ClassId} {kK kV : Nat → Nat} {b : Nat} {n : Int32} {u : zU}  : zMi l yJ5_isLatin1_aae02 cJ5_isLatin1_aae02 1 (some .boolean) rmJ5_isLatin1_aae02 [.ref b] (zPb D cy kK kV (fun _ => False) (zBx cy b n u)) 1 := by
  refine Met.ofW (cc := cJ5_isLatin1_aae02) (maxL := 1) (ret := (some .boolean)) (by decide) rfl ?_
  intro p e s m args below meth c s₁ B hml hv
  obtain ⟨rfl, hP, hK, hE⟩ := hv
  have cx : zX RJ5 cJ5_isLatin1_aae02 1 p s m ([.ref b]).toArray c D cy := ⟨B.exec, B.bytes, hml, findClass_of_methodNamed B.named, fun w hw => atoms_spec (ws := Cond.code yJ5_isLatin1_aae02 cJ5_isLatin1_aae02 1 (some .boolean) :: zTB) B.pre w (List.mem_cons_of_mem _ hw), hK⟩
  have hx := cx.1
  have hb := cx.2.1
  have hr := B.returns
  have hlk := B.notSynchronized
  have hl := lv_entry ([.ref b]) (n := 1) (Nat.le_of_ble_eq_true rfl)
  rw [lg_entry_eq]
  generalize (lg_sl ([.ref b]) ++ List.replicate (1 - (lg_sl ([.ref b])).length) Slot.unset).toArray = ls at hl ⊢
  have hl : lv_has ls 1 [(0, .ref b)] := hl
  refine va_gets (pc := 0) (A := fun _ => False) hx hb hE.2.2.2.2.1 va_S.rf cx.2.2.2.1 (cx.2.2.2.2.1 _ wd_483) (fun _ h => h) dJ5_isLatin1_aae02_0 ?_
  refine lv_if_eq (pc := 3) (tgt := 17) hx hb dJ5_isLatin1_aae02_3 (by decide) (fun c0 => absurd c0 (by decide)) (fun c0 => ?_)
  refine lv_aload_n (pc := 6) hx hb dJ5_isLatin1_aae02_6 rfl (lv_at hl 0 rfl) ?_
  refine zr_gett (pc := 7) cx lk_J5_22 hP 0 (a := b) rfl (v := .int 0) rfl dJ5_isLatin1_aae02_7 ?_
  refine lv_if_ne (pc := 10) (tgt := 17) hx hb dJ5_isLatin1_aae02_10 (by decide) (fun c0 => absurd rfl c0) (fun c0 => ?_)
  refine lv_iconst (pc := 13) hx hb dJ5_isLatin1_aae02_13 zc_1 ?_
  refine lv_goto (pc := 14) (tgt := 18) hx hb dJ5_isLatin1_aae02_14 (by decide) ?_
  exact zr_reN (pc := 18) cx hr hlk rfl rfl dJ5_isLatin1_aae02_18

theorem dJ5_length_8abf5_0 : decode cJ5_length_8abf5 0 = .ok (.aload_n 0, 1) := by decide +kernel
theorem dJ5_length_8abf5_1 : decode cJ5_length_8abf5 1 = .ok (.getfield 79, 3) := by decide +kernel
theorem dJ5_length_8abf5_4 : decode cJ5_length_8abf5 4 = .ok (.ireturn, 1) := by decide +kernel
abbrev rmJ5_length_8abf5 : Room := { frames := 1, cells := 0, slots := 0, locals := 0 }
set_option maxHeartbeats 1000000 in
set_option maxRecDepth 100000 in
theorem mJ5_length {l : Launch} {D : va_G} {cy : Nat → ClassId} {kK kV : Nat → Nat} {b : Nat} {n : Int32} {u : zU}  : zMi l yJ5_length_8abf5 cJ5_length_8abf5 1 (some .int) rmJ5_length_8abf5 [.ref b] (zPb D cy kK kV (fun _ => False) (zBx cy b n u)) n := by
  refine Met.ofW (cc := cJ5_length_8abf5) (maxL := 1) (ret := (some .int)) (by decide) rfl ?_
  intro p e s m args below meth c s₁ B hml hv
  obtain ⟨rfl, hP, hK, hE⟩ := hv
  have cx : zX RJ5 cJ5_length_8abf5 1 p s m ([.ref b]).toArray c D cy := ⟨B.exec, B.bytes, hml, findClass_of_methodNamed B.named, fun w hw => atoms_spec (ws := Cond.code yJ5_length_8abf5 cJ5_length_8abf5 1 (some .int) :: zTB) B.pre w (List.mem_cons_of_mem _ hw), hK⟩
  have hx := cx.1
  have hb := cx.2.1
  have hr := B.returns
  have hlk := B.notSynchronized
  have hl := lv_entry ([.ref b]) (n := 1) (Nat.le_of_ble_eq_true rfl)
  rw [lg_entry_eq]
  generalize (lg_sl ([.ref b]) ++ List.replicate (1 - (lg_sl ([.ref b])).length) Slot.unset).toArray = ls at hl ⊢
  have hl : lv_has ls 1 [(0, .ref b)] := hl
  refine lv_aload_n (pc := 0) hx hb dJ5_length_8abf5_0 rfl (lv_at hl 0 rfl) ?_
  refine zr_gett (pc := 1) cx lk_J5_79 hP 0 (a := b) rfl (v := .int n) rfl dJ5_length_8abf5_1 ?_
  exact zr_reN (pc := 4) cx hr hlk rfl rfl dJ5_length_8abf5_4

theorem dJ4_length_8abf5_0 : decode cJ4_length_8abf5 0 = .ok (.aload_n 0, 1) := by decide +kernel
theorem dJ4_length_8abf5_1 : decode cJ4_length_8abf5 1 = .ok (.invokespecial 343, 3) := by decide +kernel
theorem wd_1131 : (Jvm.Cond.methodLink "java/lang/StringBuilder" (343 : Nat) ({ cls := "java/lang/AbstractStringBuilder", name := "length", desc := "()I" } : Jvm.MethodName)) ∈ zTB := List.mem_filter.mpr ⟨List.mem_append_right _ (List.mem_append_right _ (List.mem_append_right _ (List.mem_append_right _ (List.mem_append_right _ (List.mem_append_left _ (List.mem_of_getElem? (i := 171) rfl)))))), rfl⟩
theorem wd_2119 : (Jvm.Cond.sameMethod "java/lang/AbstractStringBuilder" "java/lang/AbstractStringBuilder" "length" "()I") ∈ zTB := List.mem_filter.mpr ⟨List.mem_append_right _ (List.mem_append_right _ (List.mem_append_right _ (List.mem_append_right _ (List.mem_append_right _ (List.mem_append_right _ (List.mem_append_right _ (List.mem_append_right _ (List.mem_append_right _ (List.mem_of_getElem? (i := 199) rfl))))))))), rfl⟩
theorem wd_503 : (Jvm.Cond.superclass "java/lang/StringBuilder" "java/lang/AbstractStringBuilder") ∈ zTB := List.mem_filter.mpr ⟨List.mem_append_right _ (List.mem_append_right _ (List.mem_append_right _ (List.mem_append_left _ (List.mem_of_getElem? (i := 23) rfl)))), rfl⟩
theorem wd_1132 : (Jvm.Cond.instanceMethod ({ cls := "java/lang/AbstractStringBuilder", name := "length", desc := "()I" } : Jvm.MethodName)) ∈ zTB := List.mem_filter.mpr ⟨List.mem_append_right _ (List.mem_append_right _ (List.mem_append_right _ (List.mem_append_right _ (List.mem_append_right _ (List.mem_append_left _ (List.mem_of_getElem? (i := 172) rfl)))))), rfl⟩
theorem wd_1133 : (Jvm.Cond.code ({ cls := "java/lang/AbstractStringBuilder", name := "length", desc := "()I" } : Jvm.MethodName) prog_16_method_6_code (1 : Nat) (Option.some Jvm.ClassFile.FieldType.int)) ∈ zTB := List.mem_filter.mpr ⟨List.mem_append_right _ (List.mem_append_right _ (List.mem_append_right _ (List.mem_append_right _ (List.mem_append_right _ (List.mem_append_left _ (List.mem_of_getElem? (i := 173) rfl)))))), rfl⟩
theorem cu_J4_343 : zCU RJ4 343 yJ5_length_8abf5 cJ5_length_8abf5 1 (some .int) 0 := ⟨⟨by decide, by decide, by decide +kernel⟩, by decide, wd_1131, wd_2119, wd_503, wd_1132, wd_17, wd_1133⟩
theorem dJ4_length_8abf5_4 : decode cJ4_length_8abf5 4 = .ok (.ireturn, 1) := by decide +kernel
abbrev rmJ4_length_8abf5 : Room := { frames := 2, cells := 0, slots := 0, locals := 20 }
set_option maxHeartbeats 1000000 in
set_option maxRecDepth 100000 in
theorem mJ4_length {l : Launch} {D : va_G} {cy : Nat → ClassId} {kK kV : Nat → Nat} {b : Nat} {n : Int32} {u : zU}  : zMi l yJ4_length_8abf5 cJ4_length_8abf5 1 (some .int) rmJ4_length_8abf5 [.ref b] (zPb D cy kK kV (fun _ => False) (zBx cy b n u)) n := by
  refine Met.ofW (cc := cJ4_length_8abf5) (maxL := 1) (ret := (some .int)) (by decide) rfl ?_
  intro p e s m args below meth c s₁ B hml hv
  obtain ⟨rfl, hP, hK, hE⟩ := hv
  have cx : zX RJ4 cJ4_length_8abf5 1 p s m ([.ref b]).toArray c D cy := ⟨B.exec, B.bytes, hml, findClass_of_methodNamed B.named, fun w hw => atoms_spec (ws := Cond.code yJ4_length_8abf5 cJ4_length_8abf5 1 (some .int) :: zTB) B.pre w (List.mem_cons_of_mem _ hw), hK⟩
  have hx := cx.1
  have hb := cx.2.1
  have hr := B.returns
  have hlk := B.notSynchronized
  have hl := lv_entry ([.ref b]) (n := 1) (Nat.le_of_ble_eq_true rfl)
  rw [lg_entry_eq]
  generalize (lg_sl ([.ref b]) ++ List.replicate (1 - (lg_sl ([.ref b])).length) Slot.unset).toArray = ls at hl ⊢
  have hl : lv_has ls 1 [(0, .ref b)] := hl
  refine lv_aload_n (pc := 0) hx hb dJ4_length_8abf5_0 rfl (lv_at hl 0 rfl) ?_
  refine zr_uI (pc := 1) (As := []) (rest := []) cx cu_J4_343 (mJ5_length) ⟨⟨rfl, rfl⟩, Nat.le_of_ble_eq_true rfl, Nat.le_of_ble_eq_true rfl⟩ ⟨Nat.le_of_ble_eq_true rfl, Nat.le_of_ble_eq_true rfl⟩ (zr_preB cx zPb_bl (zr_pb cx hE va_S.rf (fun _ h => h.elim) hP) hP rfl) hl.1 rfl rfl (Nat.le_of_ble_eq_true rfl) dJ4_length_8abf5_1 ?_
  exact zr_reN (pc := 4) cx hr hlk rfl rfl dJ4_length_8abf5_4

theorem dJ5_ensureCapacityInternal_d00df_0 : decode cJ5_ensureCapacityInternal_d00df 0 = .ok (.aload_n 0, 1) := by decide +kernel
theorem dJ5_ensureCapacityInternal_d00df_1 : decode cJ5_ensureCapacityInternal_d00df 1 = .ok (.getfield 15, 3) := by decide +kernel
theorem dJ5_ensureCapacityInternal_d00df_4 : decode cJ5_ensureCapacityInternal_d00df 4 = .ok (.arraylength, 1) := by decide +kernel
theorem dJ5_ensureCapacityInternal_d00df_5 : decode cJ5_ensureCapacityInternal_d00df 5 = .ok (.aload_n 0, 1) := by decide +kernel
theorem dJ5_ensureCapacityInternal_d00df_6 : decode cJ5_ensureCapacityInternal_d00df 6 = .ok (.getfield 22, 3) := by decide +kernel
theorem dJ5_ensureCapacityInternal_d00df_9 : decode cJ5_ensureCapacityInternal_d00df 9 = .ok (.ishr, 1) := by decide +kernel
theorem dJ5_ensureCapacityInternal_d00df_10 : decode cJ5_ensureCapacityInternal_d00df 10 = .ok (.istore_n 2, 1) := by decide +kernel
theorem dJ5_ensureCapacityInternal_d00df_11 : decode cJ5_ensureCapacityInternal_d00df 11 = .ok (.iload_n 1, 1) := by decide +kernel
theorem dJ5_ensureCapacityInternal_d00df_12 : decode cJ5_ensureCapacityInternal_d00df 12 = .ok (.iload_n 2, 1) := by decide +kernel
theorem dJ5_ensureCapacityInternal_d00df_13 : decode cJ5_ensureCapacityInternal_d00df 13 = .ok (.isub, 1) := by decide +kernel
theorem dJ5_ensureCapacityInternal_d00df_14 : decode cJ5_ensureCapacityInternal_d00df 14 = .ok (.ifCond .le 24, 3) := by decide +kernel
theorem dJ5_ensureCapacityInternal_d00df_38 : decode cJ5_ensureCapacityInternal_d00df 38 = .ok (.return_, 1) := by decide +kernel
abbrev rmJ5_ensureCapacityInternal_d00df : Room := { frames := 1, cells := 0, slots := 0, locals := 0 }
set_option maxHeartbeats 1000000 in
set_option maxRecDepth 100000 in
theorem mJ5_ensure {l : Launch} {D : va_G} {cy : Nat → ClassId} {kK kV : Nat → Nat} {b : Nat} {n : Int32} {u : zU} {x : Int32} (h0 : x - (Int32.ofNat u.2.1 >>> ((0 : Int32) &&& 31)) ≤ 0) : zMu l yJ5_ensureCapacityInternal_d00df cJ5_ensureCapacityInternal_d00df 3 rmJ5_ensureCapacityInternal_d00df [.ref b, .int x] (zPb D cy kK kV (fun _ => False) (zBx cy b n u)) := by
  refine Met.ofW (cc := cJ5_ensureCapacityInternal_d00df) (maxL := 3) (ret := none) (by decide) rfl ?_
  intro p e s m args below meth c s₁ B hml hv
  obtain ⟨rfl, hP, hK, hE⟩ := hv
  have cx : zX RJ5 cJ5_ensureCapacityInternal_d00df 3 p s m ([.ref b, .int x]).toArray c D cy := ⟨B.exec, B.bytes, hml, findClass_of_methodNamed B.named, fun w hw => atoms_spec (ws := Cond.code yJ5_ensureCapacityInternal_d00df cJ5_ensureCapacityInternal_d00df 3 none :: zTB) B.pre w (List.mem_cons_of_mem _ hw), hK⟩
  have hx := cx.1
  have hb := cx.2.1
  have hr := B.returns
  have hlk := B.notSynchronized
  have hl := lv_entry ([.ref b, .int x]) (n := 3) (Nat.le_of_ble_eq_true rfl)
  rw [lg_entry_eq]
  generalize (lg_sl ([.ref b, .int x]) ++ List.replicate (3 - (lg_sl ([.ref b, .int x])).length) Slot.unset).toArray = ls at hl ⊢
  have hl : lv_has ls 3 [(0, .ref b), (1, .int x)] := hl
  refine lv_aload_n (pc := 0) hx hb dJ5_ensureCapacityInternal_d00df_0 rfl (lv_at hl 0 rfl) ?_
  refine zr_gett (pc := 1) cx lk_J5_15 hP 0 (a := b) rfl (v := .ref u.1) rfl dJ5_ensureCapacityInternal_d00df_1 ?_
  refine va_alen (pc := 4) hx hb cx.2.2.2.2.2.1 hP 1 4 rfl rfl (v := Int32.ofNat u.2.1) rfl dJ5_ensureCapacityInternal_d00df_4 ?_
  refine lv_aload_n (pc := 5) hx hb dJ5_ensureCapacityInternal_d00df_5 rfl (lv_at hl 0 rfl) ?_
  refine zr_gett (pc := 6) cx lk_J5_22 hP 0 (a := b) rfl (v := .int 0) rfl dJ5_ensureCapacityInternal_d00df_6 ?_
  refine lv_ishr (pc := 9) hx hb dJ5_ensureCapacityInternal_d00df_9 ?_
  refine lv_istore_n (lv' := [(2, .int ((Int32.ofNat u.2.1) >>> (0 &&& 31))), (0, .ref b), (1, .int x)]) (pc := 10) hx hb dJ5_ensureCapacityInternal_d00df_10 rfl hl (by decide) rfl (fun ls hl => ?_)
  refine lv_iload_n (pc := 11) hx hb dJ5_ensureCapacityInternal_d00df_11 rfl (lv_at hl 2 rfl) ?_
  refine lv_iload_n (pc := 12) hx hb dJ5_ensureCapacityInternal_d00df_12 rfl (lv_at hl 0 rfl) ?_
  refine lv_isub (pc := 13) hx hb dJ5_ensureCapacityInternal_d00df_13 ?_
  refine lv_if_le (pc := 14) (tgt := 38) hx hb dJ5_ensureCapacityInternal_d00df_14 (by decide) (fun c0 => ?_) (fun c0 => absurd h0 c0)
  exact zr_reU (pc := 38) cx hr hlk dJ5_ensureCapacityInternal_d00df_38

theorem dJ1_canEncode_fc78d_0 : decode cJ1_canEncode_fc78d 0 = .ok (.iload_n 0, 1) := by decide +kernel
theorem dJ1_canEncode_fc78d_1 : decode cJ1_canEncode_fc78d 1 = .ok (.sipush 255, 3) := by decide +kernel
theorem dJ1_canEncode_fc78d_4 : decode cJ1_canEncode_fc78d 4 = .ok (.if_icmp .gt 7, 3) := by decide +kernel
theorem dJ1_canEncode_fc78d_7 : decode cJ1_canEncode_fc78d 7 = .ok (.iconst 1, 1) := by decide +kernel
theorem dJ1_canEncode_fc78d_8 : decode cJ1_canEncode_fc78d 8 = .ok (.goto 4, 3) := by decide +kernel
theorem dJ1_canEncode_fc78d_12 : decode cJ1_canEncode_fc78d 12 = .ok (.ireturn, 1) := by decide +kernel
abbrev rmJ1_canEncode_fc78d : Room := { frames := 1, cells := 0, slots := 0, locals := 0 }
set_option maxHeartbeats 1000000 in
set_option maxRecDepth 100000 in
theorem mJ1_canEncode {l : Launch} {D : va_G} {cy : Nat → ClassId} {kK kV : Nat → Nat} {x : Int32} (h0 : ¬ (255 : Int32) < x) : zMi l yJ1_canEncode_fc78d cJ1_canEncode_fc78d 1 (some .boolean) rmJ1_canEncode_fc78d [.int x] (zPe D cy kK kV (fun _ => False)) 1 := by
  refine Met.ofW (cc := cJ1_canEncode_fc78d) (maxL := 1) (ret := (some .boolean)) (by decide) rfl ?_
  intro p e s m args below meth c s₁ B hml hv
  obtain ⟨rfl, hK, hE⟩ := hv
  have cx : zX RJ1 cJ1_canEncode_fc78d 1 p s m ([.int x]).toArray c D cy := ⟨B.exec, B.bytes, hml, findClass_of_methodNamed B.named, fun w hw => atoms_spec (ws := Cond.code yJ1_canEncode_fc78d cJ1_canEncode_fc78d 1 (some .boolean) :: zTB) B.pre w (List.mem_cons_of_mem _ hw), hK⟩
  have hx := cx.1
  have hb := cx.2.1
  have hr := B.returns
  have hlk := B.notSynchronized
  have hl := lv_entry ([.int x]) (n := 1) (Nat.le_of_ble_eq_true rfl)
  rw [lg_entry_eq]
  generalize (lg_sl ([.int x]) ++ List.replicate (1 - (lg_sl ([.int x])).length) Slot.unset).toArray = ls at hl ⊢
  have hl : lv_has ls 1 [(0, .int x)] := hl
  refine lv_iload_n (pc := 0) hx hb dJ1_canEncode_fc78d_0 rfl (lv_at hl 0 rfl) ?_
  refine lv_sipush (pc := 1) hx hb dJ1_canEncode_fc78d_1 zs_255 ?_
  refine lv_icmp_gt (pc := 4) (tgt := 11) hx hb dJ1_canEncode_fc78d_4 (by decide) (fun c0 => absurd c0 h0) (fun c0 => ?_)
  refine lv_iconst (pc := 7) hx hb dJ1_canEncode_fc78d_7 zc_1 ?_
  refine lv_goto (pc := 8) (tgt := 12) hx hb dJ1_canEncode_fc78d_8 (by decide) ?_
  exact zr_reN (pc := 12) cx hr hlk rfl rfl dJ1_canEncode_fc78d_12

theorem dJ5_charAt_5068e_0 : decode cJ5_charAt_5068e 0 = .ok (.aload_n 0, 1) := by decide +kernel
theorem dJ5_charAt_5068e_1 : decode cJ5_charAt_5068e 1 = .ok (.getfield 22, 3) := by decide +kernel
theorem dJ5_charAt_5068e_4 : decode cJ5_charAt_5068e 4 = .ok (.istore_n 2, 1) := by decide +kernel
theorem dJ5_charAt_5068e_5 : decode cJ5_charAt_5068e 5 = .ok (.aload_n 0, 1) := by decide +kernel
theorem dJ5_charAt_5068e_6 : decode cJ5_charAt_5068e 6 = .ok (.getfield 15, 3) := by decide +kernel
theorem dJ5_charAt_5068e_9 : decode cJ5_charAt_5068e 9 = .ok (.astore_n 3, 1) := by decide +kernel
theorem dJ5_charAt_5068e_10 : decode cJ5_charAt_5068e 10 = .ok (.aload_n 0, 1) := by decide +kernel
theorem dJ5_charAt_5068e_11 : decode cJ5_charAt_5068e 11 = .ok (.getfield 79, 3) := by decide +kernel
theorem dJ5_charAt_5068e_14 : decode cJ5_charAt_5068e 14 = .ok (.aload_n 3, 1) := by decide +kernel
theorem dJ5_charAt_5068e_15 : decode cJ5_charAt_5068e 15 = .ok (.arraylength, 1) := by decide +kernel
theorem dJ5_charAt_5068e_16 : decode cJ5_charAt_5068e 16 = .ok (.iload_n 2, 1) := by decide +kernel
theorem dJ5_charAt_5068e_17 : decode cJ5_charAt_5068e 17 = .ok (.ishr, 1) := by decide +kernel
theorem dJ5_charAt_5068e_18 : decode cJ5_charAt_5068e 18 = .ok (.invokestatic 138, 3) := by decide +kernel
theorem wd_1173 : (Jvm.Cond.methodLink "java/lang/AbstractStringBuilder" (138 : Nat) ({ cls := "java/lang/Math", name := "min", desc := "(II)I" } : Jvm.MethodName)) ∈ zTB := List.mem_filter.mpr ⟨List.mem_append_right _ (List.mem_append_right _ (List.mem_append_right _ (List.mem_append_right _ (List.mem_append_right _ (List.mem_append_left _ (List.mem_of_getElem? (i := 213) rfl)))))), rfl⟩
theorem dJ5_charAt_5068e_21 : decode cJ5_charAt_5068e 21 = .ok (.istore 4, 2) := by decide +kernel
theorem dJ5_charAt_5068e_23 : decode cJ5_charAt_5068e 23 = .ok (.iload_n 1, 1) := by decide +kernel
theorem dJ5_charAt_5068e_24 : decode cJ5_charAt_5068e 24 = .ok (.iload 4, 2) := by decide +kernel
theorem dJ5_charAt_5068e_26 : decode cJ5_charAt_5068e 26 = .ok (.invokestatic 144, 3) := by decide +kernel
theorem wd_1174 : (Jvm.Cond.methodLink "java/lang/AbstractStringBuilder" (144 : Nat) ({ cls := "java/lang/String", name := "checkIndex", desc := "(II)V" } : Jvm.MethodName)) ∈ zTB := List.mem_filter.mpr ⟨List.mem_append_right _ (List.mem_append_right _ (List.mem_append_right _ (List.mem_append_right _ (List.mem_append_right _ (List.mem_append_left _ (List.mem_of_getElem? (i := 214) rfl)))))), rfl⟩
theorem cs_J5_144 : zCS RJ5 144 yJ0_checkIndex_df160 cJ0_checkIndex_df160 2 none 2 := ⟨⟨by decide, by decide, by decide +kernel⟩, wd_1174, wd_67, wd_3, wd_68⟩
theorem dJ5_charAt_5068e_29 : decode cJ5_charAt_5068e 29 = .ok (.iload_n 2, 1) := by decide +kernel
theorem dJ5_charAt_5068e_30 : decode cJ5_charAt_5068e 30 = .ok (.ifCond .ne 12, 3) := by decide +kernel
theorem dJ5_charAt_5068e_33 : decode cJ5_charAt_5068e 33 = .ok (.aload_n 3, 1) := by decide +kernel
theorem dJ5_charAt_5068e_34 : decode cJ5_charAt_5068e 34 = .ok (.iload_n 1, 1) := by decide +kernel
theorem dJ5_charAt_5068e_35 : decode cJ5_charAt_5068e 35 = .ok (.baload, 1) := by decide +kernel
theorem dJ5_charAt_5068e_36 : decode cJ5_charAt_5068e 36 = .ok (.sipush 255, 3) := by decide +kernel
theorem dJ5_charAt_5068e_39 : decode cJ5_charAt_5068e 39 = .ok (.iand, 1) := by decide +kernel
theorem dJ5_charAt_5068e_40 : decode cJ5_charAt_5068e 40 = .ok (.i2c, 1) := by decide +kernel
theorem dJ5_charAt_5068e_41 : decode cJ5_charAt_5068e 41 = .ok (.ireturn, 1) := by decide +kernel
abbrev rmJ5_charAt_5068e : Room := { frames := 3, cells := 0, slots := 0, locals := 43 }
set_option maxHeartbeats 1000000 in
set_option maxRecDepth 100000 in
theorem mJ5_charAt {l : Launch} {D : va_G} {cy : Nat → ClassId} {kK kV : Nat → Nat} {b : Nat} {u : zU} {i N k : Nat} (h16 : u.2.1 = 16 ∨ u.2.1 = 34) (hN : N ≤ u.2.1) (hi : i < N) (hc : u.2.2.2 i = nI k) (hk : k < 128) : zMi l yJ5_charAt_5068e cJ5_charAt_5068e 5 (some .char) rmJ5_charAt_5068e [.ref b, .int (nI i)] (zPb D cy kK kV (fun _ => False) (zBx cy b (nI N) u)) (nI k) := by
  refine Met.ofW (cc := cJ5_charAt_5068e) (maxL := 5) (ret := (some .char)) (by decide) rfl ?_
  intro p e s m args below meth c s₁ B hml hv
  obtain ⟨rfl, hP, hK, hE⟩ := hv
  have cx : zX RJ5 cJ5_charAt_5068e 5 p s m ([.ref b, .int (nI i)]).toArray c D cy := ⟨B.exec, B.bytes, hml, findClass_of_methodNamed B.named, fun w hw => atoms_spec (ws := Cond.code yJ5_charAt_5068e cJ5_charAt_5068e 5 (some .char) :: zTB) B.pre w (List.mem_cons_of_mem _ hw), hK⟩
  have hx := cx.1
  have hb := cx.2.1
  have hr := B.returns
  have hlk := B.notSynchronized
  have hl := lv_entry ([.ref b, .int (nI i)]) (n := 5) (Nat.le_of_ble_eq_true rfl)
  rw [lg_entry_eq]
  generalize (lg_sl ([.ref b, .int (nI i)]) ++ List.replicate (5 - (lg_sl ([.ref b, .int (nI i)])).length) Slot.unset).toArray = ls at hl ⊢
  have hl : lv_has ls 5 [(0, .ref b), (1, .int (nI i))] := hl
  refine lv_aload_n (pc := 0) hx hb dJ5_charAt_5068e_0 rfl (lv_at hl 0 rfl) ?_
  refine zr_gett (pc := 1) cx lk_J5_22 hP 0 (a := b) rfl (v := .int 0) rfl dJ5_charAt_5068e_1 ?_
  refine lv_istore_n (lv' := [(2, .int 0), (0, .ref b), (1, .int (nI i))]) (pc := 4) hx hb dJ5_charAt_5068e_4 rfl hl (by decide) rfl (fun ls hl => ?_)
  refine lv_aload_n (pc := 5) hx hb dJ5_charAt_5068e_5 rfl (lv_at hl 1 rfl) ?_
  refine zr_gett (pc := 6) cx lk_J5_15 hP 0 (a := b) rfl (v := .ref u.1) rfl dJ5_charAt_5068e_6 ?_
  refine lv_astore_n (lv' := [(3, .ref u.1), (2, .int 0), (0, .ref b), (1, .int (nI i))]) (pc := 9) hx hb dJ5_charAt_5068e_9 rfl hl (by decide) rfl (fun ls hl => ?_)
  refine lv_aload_n (pc := 10) hx hb dJ5_charAt_5068e_10 rfl (lv_at hl 2 rfl) ?_
  refine zr_gett (pc := 11) cx lk_J5_79 hP 0 (a := b) rfl (v := .int (nI N)) rfl dJ5_charAt_5068e_11 ?_
  refine lv_aload_n (pc := 14) hx hb dJ5_charAt_5068e_14 rfl (lv_at hl 0 rfl) ?_
  refine va_alen (pc := 15) hx hb cx.2.2.2.2.2.1 hP 1 4 rfl rfl (v := Int32.ofNat u.2.1) rfl dJ5_charAt_5068e_15 ?_
  refine lv_iload_n (pc := 16) hx hb dJ5_charAt_5068e_16 rfl (lv_at hl 1 rfl) ?_
  refine lv_ishr (pc := 17) hx hb dJ5_charAt_5068e_17 ?_
  refine va_mmin (pc := 18) hx hb (by rw [hml]; exact hl.1.symm) cx.2.2.2.1 (cx.2.2.2.2.1 _ wd_1173) (cx.2.2.2.2.1 _ wd_589) (cx.2.2.2.2.1 _ wd_20) (cx.2.2.2.2.1 _ wd_590) (Nat.le_of_ble_eq_true rfl) (Nat.le_of_ble_eq_true rfl) (Nat.le_of_ble_eq_true rfl) (Nat.le_of_ble_eq_true rfl) dJ5_charAt_5068e_18 ?_
  rw [cap_sh h16, if_neg (nI_nlt hN (by omega))]
  refine lv_istore (lv' := [(4, .int (nI N)), (3, .ref u.1), (2, .int 0), (0, .ref b), (1, .int (nI i))]) (pc := 21) hx hb dJ5_charAt_5068e_21 hl (by decide) rfl (fun ls hl => ?_)
  refine lv_iload_n (pc := 23) hx hb dJ5_charAt_5068e_23 rfl (lv_at hl 4 rfl) ?_
  refine lv_iload (pc := 24) hx hb dJ5_charAt_5068e_24 (lv_at hl 0 rfl) ?_
  refine zr_SU (pc := 26) (As := [.int (nI i), .int (nI N)]) (rest := []) cx cs_J5_144 (mJ0_checkIndex (nI_pos (by omega)) (nI_lt hi (by omega))) ⟨⟨rfl, rfl⟩, Nat.le_of_ble_eq_true rfl, Nat.le_of_ble_eq_true rfl⟩ ⟨Nat.le_of_ble_eq_true rfl, Nat.le_of_ble_eq_true rfl⟩ (zr_preE cx hE va_S.rf (fun _ h => h.elim)) hl.1 rfl rfl (Nat.le_of_ble_eq_true rfl) dJ5_charAt_5068e_26 ?_
  refine lv_iload_n (pc := 29) hx hb dJ5_charAt_5068e_29 rfl (lv_at hl 2 rfl) ?_
  refine lv_if_ne (pc := 30) (tgt := 42) hx hb dJ5_charAt_5068e_30 (by decide) (fun c0 => absurd rfl c0) (fun c0 => ?_)
  refine lv_aload_n (pc := 33) hx hb dJ5_charAt_5068e_33 rfl (lv_at hl 1 rfl) ?_
  refine lv_iload_n (pc := 34) hx hb dJ5_charAt_5068e_34 rfl (lv_at hl 4 rfl) ?_
  refine va_bald (pc := 35) hx hb cx.2.2.2.2.2.1 hP 1 4 rfl rfl (nI_in (show i < u.2.1 by omega) (by omega)) dJ5_charAt_5068e_35 ?_
  rw [nI_clamp (by omega), hc]
  refine lv_sipush (pc := 36) hx hb dJ5_charAt_5068e_36 zs_255 ?_
  refine lv_iand (pc := 39) hx hb dJ5_charAt_5068e_39 ?_
  refine lv_i2c (v := (zI2c ((nI k) &&& (255 : Int32)))) (pc := 40) hx hb dJ5_charAt_5068e_40 rfl ?_
  exact zr_reN (pc := 41) cx hr hlk (ch_rd k hk).1 (by rw [(ch_rd k hk).1]; exact (ch_rd k hk).2) dJ5_charAt_5068e_41

theorem dJ4_charAt_5068e_0 : decode cJ4_charAt_5068e 0 = .ok (.aload_n 0, 1) := by decide +kernel
theorem dJ4_charAt_5068e_1 : decode cJ4_charAt_5068e 1 = .ok (.iload_n 1, 1) := by decide +kernel
theorem dJ4_charAt_5068e_2 : decode cJ4_charAt_5068e 2 = .ok (.invokespecial 329, 3) := by decide +kernel
theorem wd_1170 : (Jvm.Cond.methodLink "java/lang/StringBuilder" (329 : Nat) ({ cls := "java/lang/AbstractStringBuilder", name := "charAt", desc := "(I)C" } : Jvm.MethodName)) ∈ zTB := List.mem_filter.mpr ⟨List.mem_append_right _ (List.mem_append_right _ (List.mem_append_right _ (List.mem_append_right _ (List.mem_append_right _ (List.mem_append_left _ (List.mem_of_getElem? (i := 210) rfl)))))), rfl⟩
theorem wd_2121 : (Jvm.Cond.sameMethod "java/lang/AbstractStringBuilder" "java/lang/AbstractStringBuilder" "charAt" "(I)C") ∈ zTB := List.mem_filter.mpr ⟨List.mem_append_right _ (List.mem_append_right _ (List.mem_append_right _ (List.mem_append_right _ (List.mem_append_right _ (List.mem_append_right _ (List.mem_append_right _ (List.mem_append_right _ (List.mem_append_right _ (List.mem_of_getElem? (i := 201) rfl))))))))), rfl⟩
theorem wd_1171 : (Jvm.Cond.instanceMethod ({ cls := "java/lang/AbstractStringBuilder", name := "charAt", desc := "(I)C" } : Jvm.MethodName)) ∈ zTB := List.mem_filter.mpr ⟨List.mem_append_right _ (List.mem_append_right _ (List.mem_append_right _ (List.mem_append_right _ (List.mem_append_right _ (List.mem_append_left _ (List.mem_of_getElem? (i := 211) rfl)))))), rfl⟩
theorem wd_1172 : (Jvm.Cond.code ({ cls := "java/lang/AbstractStringBuilder", name := "charAt", desc := "(I)C" } : Jvm.MethodName) prog_16_method_14_code (5 : Nat) (Option.some Jvm.ClassFile.FieldType.char)) ∈ zTB := List.mem_filter.mpr ⟨List.mem_append_right _ (List.mem_append_right _ (List.mem_append_right _ (List.mem_append_right _ (List.mem_append_right _ (List.mem_append_left _ (List.mem_of_getElem? (i := 212) rfl)))))), rfl⟩
theorem cu_J4_329 : zCU RJ4 329 yJ5_charAt_5068e cJ5_charAt_5068e 5 (some .char) 1 := ⟨⟨by decide, by decide, by decide +kernel⟩, by decide, wd_1170, wd_2121, wd_503, wd_1171, wd_17, wd_1172⟩
theorem dJ4_charAt_5068e_5 : decode cJ4_charAt_5068e 5 = .ok (.ireturn, 1) := by decide +kernel
abbrev rmJ4_charAt_5068e : Room := { frames := 4, cells := 0, slots := 0, locals := 67 }
set_option maxHeartbeats 1000000 in
set_option maxRecDepth 100000 in
theorem mJ4_charAt {l : Launch} {D : va_G} {cy : Nat → ClassId} {kK kV : Nat → Nat} {b : Nat} {u : zU} {i N k : Nat} (h16 : u.2.1 = 16 ∨ u.2.1 = 34) (hN : N ≤ u.2.1) (hi : i < N) (hc : u.2.2.2 i = nI k) (hk : k < 128) : zMi l yJ4_charAt_5068e cJ4_charAt_5068e 2 (some .char) rmJ4_charAt_5068e [.ref b, .int (nI i)] (zPb D cy kK kV (fun _ => False) (zBx cy b (nI N) u)) (nI k) := by
  refine Met.ofW (cc := cJ4_charAt_5068e) (maxL := 2) (ret := (some .char)) (by decide) rfl ?_
  intro p e s m args below meth c s₁ B hml hv
  obtain ⟨rfl, hP, hK, hE⟩ := hv
  have cx : zX RJ4 cJ4_charAt_5068e 2 p s m ([.ref b, .int (nI i)]).toArray c D cy := ⟨B.exec, B.bytes, hml, findClass_of_methodNamed B.named, fun w hw => atoms_spec (ws := Cond.code yJ4_charAt_5068e cJ4_charAt_5068e 2 (some .char) :: zTB) B.pre w (List.mem_cons_of_mem _ hw), hK⟩
  have hx := cx.1
  have hb := cx.2.1
  have hr := B.returns
  have hlk := B.notSynchronized
  have hl := lv_entry ([.ref b, .int (nI i)]) (n := 2) (Nat.le_of_ble_eq_true rfl)
  rw [lg_entry_eq]
  generalize (lg_sl ([.ref b, .int (nI i)]) ++ List.replicate (2 - (lg_sl ([.ref b, .int (nI i)])).length) Slot.unset).toArray = ls at hl ⊢
  have hl : lv_has ls 2 [(0, .ref b), (1, .int (nI i))] := hl
  refine lv_aload_n (pc := 0) hx hb dJ4_charAt_5068e_0 rfl (lv_at hl 0 rfl) ?_
  refine lv_iload_n (pc := 1) hx hb dJ4_charAt_5068e_1 rfl (lv_at hl 1 rfl) ?_
  refine zr_uI (pc := 2) (As := [.int (nI i)]) (rest := []) cx cu_J4_329 (mJ5_charAt h16 hN hi hc hk) ⟨⟨rfl, rfl⟩, Nat.le_of_ble_eq_true rfl, Nat.le_of_ble_eq_true rfl⟩ ⟨Nat.le_of_ble_eq_true rfl, Nat.le_of_ble_eq_true rfl⟩ (zr_preB cx zPb_bl (zr_pb cx hE va_S.rf (fun _ h => h.elim) hP) hP rfl) hl.1 rfl rfl (Nat.le_of_ble_eq_true rfl) dJ4_charAt_5068e_2 ?_
  exact zr_reN (pc := 5) cx hr hlk rfl (ch_rd k hk).2 dJ4_charAt_5068e_5

theorem dJ5_setLength_d00df_0 : decode cJ5_setLength_d00df 0 = .ok (.iload_n 1, 1) := by decide +kernel
theorem dJ5_setLength_d00df_1 : decode cJ5_setLength_d00df 1 = .ok (.ifCond .ge 12, 3) := by decide +kernel
theorem dJ5_setLength_d00df_13 : decode cJ5_setLength_d00df 13 = .ok (.aload_n 0, 1) := by decide +kernel
theorem dJ5_setLength_d00df_14 : decode cJ5_setLength_d00df 14 = .ok (.iload_n 1, 1) := by decide +kernel
theorem dJ5_setLength_d00df_15 : decode cJ5_setLength_d00df 15 = .ok (.invokevirtual 100, 3) := by decide +kernel
theorem wd_1000 : (Jvm.Cond.methodLink "java/lang/AbstractStringBuilder" (100 : Nat) ({ cls := "java/lang/AbstractStringBuilder", name := "ensureCapacityInternal", desc := "(I)V" } : Jvm.MethodName)) ∈ zTB := List.mem_filter.mpr ⟨List.mem_append_right _ (List.mem_append_right _ (List.mem_append_right _ (List.mem_append_right _ (List.mem_append_right _ (List.mem_append_left _ (List.mem_of_getElem? (i := 40) rfl)))))), rfl⟩
theorem wd_1002 : (Jvm.Cond.instanceMethod ({ cls := "java/lang/AbstractStringBuilder", name := "ensureCapacityInternal", desc := "(I)V" } : Jvm.MethodName)) ∈ zTB := List.mem_filter.mpr ⟨List.mem_append_right _ (List.mem_append_right _ (List.mem_append_right _ (List.mem_append_right _ (List.mem_append_right _ (List.mem_append_left _ (List.mem_of_getElem? (i := 42) rfl)))))), rfl⟩
theorem wd_1003 : (Jvm.Cond.code ({ cls := "java/lang/AbstractStringBuilder", name := "ensureCapacityInternal", desc := "(I)V" } : Jvm.MethodName) prog_16_method_9_code (3 : Nat) (Option.none : Option Jvm.ClassFile.FieldType)) ∈ zTB := List.mem_filter.mpr ⟨List.mem_append_right _ (List.mem_append_right _ (List.mem_append_right _ (List.mem_append_right _ (List.mem_append_right _ (List.mem_append_left _ (List.mem_of_getElem? (i := 43) rfl)))))), rfl⟩
theorem cb_J5_100 : zCB RJ5 100 yJ5_ensureCapacityInternal_d00df cJ5_ensureCapacityInternal_d00df 3 none 1 := ⟨⟨by decide, by decide, by decide +kernel⟩, wd_1000, wd_1002, Or.inr (by decide), wd_17, wd_1003⟩
theorem dJ5_setLength_d00df_18 : decode cJ5_setLength_d00df 18 = .ok (.aload_n 0, 1) := by decide +kernel
theorem dJ5_setLength_d00df_19 : decode cJ5_setLength_d00df 19 = .ok (.getfield 79, 3) := by decide +kernel
theorem dJ5_setLength_d00df_22 : decode cJ5_setLength_d00df 22 = .ok (.iload_n 1, 1) := by decide +kernel
theorem dJ5_setLength_d00df_23 : decode cJ5_setLength_d00df 23 = .ok (.if_icmp .ge 40, 3) := by decide +kernel
theorem dJ5_setLength_d00df_63 : decode cJ5_setLength_d00df 63 = .ok (.aload_n 0, 1) := by decide +kernel
theorem dJ5_setLength_d00df_64 : decode cJ5_setLength_d00df 64 = .ok (.getfield 79, 3) := by decide +kernel
theorem dJ5_setLength_d00df_67 : decode cJ5_setLength_d00df 67 = .ok (.iload_n 1, 1) := by decide +kernel
theorem dJ5_setLength_d00df_68 : decode cJ5_setLength_d00df 68 = .ok (.if_icmp .le 8, 3) := by decide +kernel
theorem dJ5_setLength_d00df_76 : decode cJ5_setLength_d00df 76 = .ok (.aload_n 0, 1) := by decide +kernel
theorem dJ5_setLength_d00df_77 : decode cJ5_setLength_d00df 77 = .ok (.iload_n 1, 1) := by decide +kernel
theorem dJ5_setLength_d00df_78 : decode cJ5_setLength_d00df 78 = .ok (.putfield 79, 3) := by decide +kernel
theorem dJ5_setLength_d00df_81 : decode cJ5_setLength_d00df 81 = .ok (.return_, 1) := by decide +kernel
theorem dJ5_setLength_d00df_71 : decode cJ5_setLength_d00df 71 = .ok (.aload_n 0, 1) := by decide +kernel
theorem dJ5_setLength_d00df_72 : decode cJ5_setLength_d00df 72 = .ok (.iconst 1, 1) := by decide +kernel
theorem dJ5_setLength_d00df_73 : decode cJ5_setLength_d00df 73 = .ok (.putfield 73, 3) := by decide +kernel
abbrev rmJ5_setLength_d00df : Room := { frames := 2, cells := 0, slots := 0, locals := 22 }
set_option maxHeartbeats 1000000 in
set_option maxRecDepth 100000 in
theorem mJ5_setLength {l : Launch} {D : va_G} {cy : Nat → ClassId} {kK kV : Nat → Nat} {A : Nat → Prop} {b : Nat} {tx : List Nat} {u : zU} (hu : zOkB tx u) (hD : va_D A (zBx cy b (nI tx.length) u))  : zMz l yJ5_setLength_d00df cJ5_setLength_d00df 2 rmJ5_setLength_d00df [.int 0] D cy kK kV A b (nI tx.length) u [] := by
  refine Met.ofW (cc := cJ5_setLength_d00df) (maxL := 2) (ret := none) (by decide) rfl ?_
  intro p e s m args below meth c s₁ B hml hv
  obtain ⟨rfl, hA, hP, hK, hE⟩ := hv
  have cx : zX RJ5 cJ5_setLength_d00df 2 p s m ([.ref b, .int 0]).toArray c D cy := ⟨B.exec, B.bytes, hml, findClass_of_methodNamed B.named, fun w hw => atoms_spec (ws := Cond.code yJ5_setLength_d00df cJ5_setLength_d00df 2 none :: zTB) B.pre w (List.mem_cons_of_mem _ hw), hK⟩
  have hx := cx.1
  have hb := cx.2.1
  have hr := B.returns
  have hlk := B.notSynchronized
  have hS : va_S A s.heap s.heap [] := va_S.rf
  have hl := lv_entry ([.ref b, .int 0]) (n := 2) (Nat.le_of_ble_eq_true rfl)
  rw [lg_entry_eq]
  generalize (lg_sl ([.ref b, .int 0]) ++ List.replicate (2 - (lg_sl ([.ref b, .int 0])).length) Slot.unset).toArray = ls at hl ⊢
  have hl : lv_has ls 2 [(0, .ref b), (1, .int 0)] := hl
  have hlt : tx.length < 2 ^ 31 := by have := hu.2.1; rcases hu.1 with h | h <;> omega
  have hu0 : zOkB [] (u.1, u.2.1, 1, u.2.2.2) := ⟨hu.1, Nat.zero_le _, fun j x h => by simp at h, fun x h => by simp at h, hu.2.2.2.2⟩
  have hu0u : zOkB [] u := ⟨hu.1, Nat.zero_le _, fun j x h => by simp at h, fun x h => by simp at h, hu.2.2.2.2⟩
  by_cases hle : nI tx.length ≤ 0
  · refine lv_iload_n (pc := 0) hx hb dJ5_setLength_d00df_0 rfl (lv_at hl 1 rfl) ?_
    refine lv_if_ge (pc := 1) (tgt := 13) hx hb dJ5_setLength_d00df_1 (by decide) (fun c0 => ?_) (fun c0 => absurd (by decide) c0)
    refine lv_aload_n (pc := 13) hx hb dJ5_setLength_d00df_13 rfl (lv_at hl 0 rfl) ?_
    refine lv_iload_n (pc := 14) hx hb dJ5_setLength_d00df_14 rfl (lv_at hl 1 rfl) ?_
    refine zr_bU (pc := 15) (As := [.int 0]) (rest := []) cx hE.2.2.2.2.2.2.2 cb_J5_100 (mJ5_ensure (by rcases hu.1 with h | h <;> rw [h] <;> decide)) ⟨⟨rfl, rfl⟩, Nat.le_of_ble_eq_true rfl, Nat.le_of_ble_eq_true rfl⟩ ⟨Nat.le_of_ble_eq_true rfl, Nat.le_of_ble_eq_true rfl⟩ (zr_preB cx zPb_bl (zr_pb cx hE hS (fun _ h => h.elim) hP) hP rfl) hl.1 rfl rfl (Nat.le_of_ble_eq_true rfl) dJ5_setLength_d00df_15 ?_
    refine lv_aload_n (pc := 18) hx hb dJ5_setLength_d00df_18 rfl (lv_at hl 0 rfl) ?_
    refine zr_gett (pc := 19) cx lk_J5_79 hP 0 (a := b) rfl (v := .int (nI tx.length)) rfl dJ5_setLength_d00df_19 ?_
    refine lv_iload_n (pc := 22) hx hb dJ5_setLength_d00df_22 rfl (lv_at hl 1 rfl) ?_
    refine lv_icmp_ge (pc := 23) (tgt := 63) hx hb dJ5_setLength_d00df_23 (by decide) (fun c0 => ?_) (fun c0 => absurd (nI_pos' hlt) c0)
    refine lv_aload_n (pc := 63) hx hb dJ5_setLength_d00df_63 rfl (lv_at hl 0 rfl) ?_
    refine zr_gett (pc := 64) cx lk_J5_79 hP 0 (a := b) rfl (v := .int (nI tx.length)) rfl dJ5_setLength_d00df_64 ?_
    refine lv_iload_n (pc := 67) hx hb dJ5_setLength_d00df_67 rfl (lv_at hl 1 rfl) ?_
    refine lv_icmp_le (pc := 68) (tgt := 76) hx hb dJ5_setLength_d00df_68 (by decide) (fun c0 => ?_) (fun c0 => absurd hle c0)
    refine lv_aload_n (pc := 76) hx hb dJ5_setLength_d00df_76 rfl (lv_at hl 0 rfl) ?_
    refine lv_iload_n (pc := 77) hx hb dJ5_setLength_d00df_77 rfl (lv_at hl 1 rfl) ?_
    refine zr_put (pc := 78) cx lq_J5_79 hP hD hS 0 (a := b) rfl (v := .int 0) rfl rfl (Nat.le_of_ble_eq_true rfl) dJ5_setLength_d00df_78 (fun H locs hP hD hS => ?_)
    have hP : va_P D vwCl (zBx cy b 0 u) H := hP
    have hD : va_D A (zBx cy b 0 u) := hD
    exact W.vret (pc := 81) hx hb hr (fun t ht hW => ⟨⟨u, rfl, hu0u, by rw [ht]; exact hP, hD⟩, hS.F ht⟩) hS.2.2 dJ5_setLength_d00df_81
  · refine lv_iload_n (pc := 0) hx hb dJ5_setLength_d00df_0 rfl (lv_at hl 1 rfl) ?_
    refine lv_if_ge (pc := 1) (tgt := 13) hx hb dJ5_setLength_d00df_1 (by decide) (fun c0 => ?_) (fun c0 => absurd (by decide) c0)
    refine lv_aload_n (pc := 13) hx hb dJ5_setLength_d00df_13 rfl (lv_at hl 0 rfl) ?_
    refine lv_iload_n (pc := 14) hx hb dJ5_setLength_d00df_14 rfl (lv_at hl 1 rfl) ?_
    refine zr_bU (pc := 15) (As := [.int 0]) (rest := []) cx hE.2.2.2.2.2.2.2 cb_J5_100 (mJ5_ensure (by rcases hu.1 with h | h <;> rw [h] <;> decide)) ⟨⟨rfl, rfl⟩, Nat.le_of_ble_eq_true rfl, Nat.le_of_ble_eq_true rfl⟩ ⟨Nat.le_of_ble_eq_true rfl, Nat.le_of_ble_eq_true rfl⟩ (zr_preB cx zPb_bl (zr_pb cx hE hS (fun _ h => h.elim) hP) hP rfl) hl.1 rfl rfl (Nat.le_of_ble_eq_true rfl) dJ5_setLength_d00df_15 ?_
    refine lv_aload_n (pc := 18) hx hb dJ5_setLength_d00df_18 rfl (lv_at hl 0 rfl) ?_
    refine zr_gett (pc := 19) cx lk_J5_79 hP 0 (a := b) rfl (v := .int (nI tx.length)) rfl dJ5_setLength_d00df_19 ?_
    refine lv_iload_n (pc := 22) hx hb dJ5_setLength_d00df_22 rfl (lv_at hl 1 rfl) ?_
    refine lv_icmp_ge (pc := 23) (tgt := 63) hx hb dJ5_setLength_d00df_23 (by decide) (fun c0 => ?_) (fun c0 => absurd (nI_pos' hlt) c0)
    refine lv_aload_n (pc := 63) hx hb dJ5_setLength_d00df_63 rfl (lv_at hl 0 rfl) ?_
    refine zr_gett (pc := 64) cx lk_J5_79 hP 0 (a := b) rfl (v := .int (nI tx.length)) rfl dJ5_setLength_d00df_64 ?_
    refine lv_iload_n (pc := 67) hx hb dJ5_setLength_d00df_67 rfl (lv_at hl 1 rfl) ?_
    refine lv_icmp_le (pc := 68) (tgt := 76) hx hb dJ5_setLength_d00df_68 (by decide) (fun c0 => absurd c0 hle) (fun c0 => ?_)
    refine lv_aload_n (pc := 71) hx hb dJ5_setLength_d00df_71 rfl (lv_at hl 0 rfl) ?_
    refine lv_iconst (pc := 72) hx hb dJ5_setLength_d00df_72 zc_1 ?_
    refine zr_put (pc := 73) cx lq_J5_73 hP hD hS 0 (a := b) rfl (v := .int 1) rfl rfl (Nat.le_of_ble_eq_true rfl) dJ5_setLength_d00df_73 (fun H locs hP hD hS => ?_)
    have hP : va_P D vwCl (zBx cy b (nI tx.length) (u.1, u.2.1, 1, u.2.2.2)) H := hP
    have hD : va_D A (zBx cy b (nI tx.length) (u.1, u.2.1, 1, u.2.2.2)) := hD
    refine lv_aload_n (pc := 76) hx hb dJ5_setLength_d00df_76 rfl (lv_at hl 0 rfl) ?_
    refine lv_iload_n (pc := 77) hx hb dJ5_setLength_d00df_77 rfl (lv_at hl 1 rfl) ?_
    refine zr_put (pc := 78) cx lq_J5_79 hP hD hS 0 (a := b) rfl (v := .int 0) rfl rfl (Nat.le_of_ble_eq_true rfl) dJ5_setLength_d00df_78 (fun H locs hP hD hS => ?_)
    have hP : va_P D vwCl (zBx cy b 0 (u.1, u.2.1, 1, u.2.2.2)) H := hP
    have hD : va_D A (zBx cy b 0 (u.1, u.2.1, 1, u.2.2.2)) := hD
    exact W.vret (pc := 81) hx hb hr (fun t ht hW => ⟨⟨(u.1, u.2.1, 1, u.2.2.2), rfl, hu0, by rw [ht]; exact hP, hD⟩, hS.F ht⟩) hS.2.2 dJ5_setLength_d00df_81

theorem dJ4_setLength_d00df_0 : decode cJ4_setLength_d00df 0 = .ok (.aload_n 0, 1) := by decide +kernel
theorem dJ4_setLength_d00df_1 : decode cJ4_setLength_d00df 1 = .ok (.iload_n 1, 1) := by decide +kernel
theorem dJ4_setLength_d00df_2 : decode cJ4_setLength_d00df 2 = .ok (.invokespecial 333, 3) := by decide +kernel
theorem wd_997 : (Jvm.Cond.methodLink "java/lang/StringBuilder" (333 : Nat) ({ cls := "java/lang/AbstractStringBuilder", name := "setLength", desc := "(I)V" } : Jvm.MethodName)) ∈ zTB := List.mem_filter.mpr ⟨List.mem_append_right _ (List.mem_append_right _ (List.mem_append_right _ (List.mem_append_right _ (List.mem_append_right _ (List.mem_append_left _ (List.mem_of_getElem? (i := 37) rfl)))))), rfl⟩
theorem wd_2110 : (Jvm.Cond.sameMethod "java/lang/AbstractStringBuilder" "java/lang/AbstractStringBuilder" "setLength" "(I)V") ∈ zTB := List.mem_filter.mpr ⟨List.mem_append_right _ (List.mem_append_right _ (List.mem_append_right _ (List.mem_append_right _ (List.mem_append_right _ (List.mem_append_right _ (List.mem_append_right _ (List.mem_append_right _ (List.mem_append_right _ (List.mem_of_getElem? (i := 190) rfl))))))))), rfl⟩
theorem wd_998 : (Jvm.Cond.instanceMethod ({ cls := "java/lang/AbstractStringBuilder", name := "setLength", desc := "(I)V" } : Jvm.MethodName)) ∈ zTB := List.mem_filter.mpr ⟨List.mem_append_right _ (List.mem_append_right _ (List.mem_append_right _ (List.mem_append_right _ (List.mem_append_right _ (List.mem_append_left _ (List.mem_of_getElem? (i := 38) rfl)))))), rfl⟩
theorem wd_999 : (Jvm.Cond.code ({ cls := "java/lang/AbstractStringBuilder", name := "setLength", desc := "(I)V" } : Jvm.MethodName) prog_16_method_13_code (2 : Nat) (Option.none : Option Jvm.ClassFile.FieldType)) ∈ zTB := List.mem_filter.mpr ⟨List.mem_append_right _ (List.mem_append_right _ (List.mem_append_right _ (List.mem_append_right _ (List.mem_append_right _ (List.mem_append_left _ (List.mem_of_getElem? (i := 39) rfl)))))), rfl⟩
theorem cu_J4_333 : zCU RJ4 333 yJ5_setLength_d00df cJ5_setLength_d00df 2 none 1 := ⟨⟨by decide, by decide, by decide +kernel⟩, by decide, wd_997, wd_2110, wd_503, wd_998, wd_17, wd_999⟩
theorem dJ4_setLength_d00df_5 : decode cJ4_setLength_d00df 5 = .ok (.return_, 1) := by decide +kernel
abbrev rmJ4_setLength_d00df : Room := { frames := 3, cells := 0, slots := 0, locals := 43 }
set_option maxHeartbeats 1000000 in
set_option maxRecDepth 100000 in
theorem mJ4_setLength {l : Launch} {D : va_G} {cy : Nat → ClassId} {kK kV : Nat → Nat} {A : Nat → Prop} {b : Nat} {tx : List Nat} {u : zU} (hu : zOkB tx u) (hD : va_D A (zBx cy b (nI tx.length) u))  : zMz l yJ4_setLength_d00df cJ4_setLength_d00df 2 rmJ4_setLength_d00df [.int 0] D cy kK kV A b (nI tx.length) u [] := by
  refine Met.ofW (cc := cJ4_setLength_d00df) (maxL := 2) (ret := none) (by decide) rfl ?_
  intro p e s m args below meth c s₁ B hml hv
  obtain ⟨rfl, hA, hP, hK, hE⟩ := hv
  have cx : zX RJ4 cJ4_setLength_d00df 2 p s m ([.ref b, .int 0]).toArray c D cy := ⟨B.exec, B.bytes, hml, findClass_of_methodNamed B.named, fun w hw => atoms_spec (ws := Cond.code yJ4_setLength_d00df cJ4_setLength_d00df 2 none :: zTB) B.pre w (List.mem_cons_of_mem _ hw), hK⟩
  have hx := cx.1
  have hb := cx.2.1
  have hr := B.returns
  have hlk := B.notSynchronized
  have hS : va_S A s.heap s.heap [] := va_S.rf
  have hl := lv_entry ([.ref b, .int 0]) (n := 2) (Nat.le_of_ble_eq_true rfl)
  rw [lg_entry_eq]
  generalize (lg_sl ([.ref b, .int 0]) ++ List.replicate (2 - (lg_sl ([.ref b, .int 0])).length) Slot.unset).toArray = ls at hl ⊢
  have hl : lv_has ls 2 [(0, .ref b), (1, .int 0)] := hl
  refine lv_aload_n (pc := 0) hx hb dJ4_setLength_d00df_0 rfl (lv_at hl 0 rfl) ?_
  refine lv_iload_n (pc := 1) hx hb dJ4_setLength_d00df_1 rfl (lv_at hl 1 rfl) ?_
  refine zr_zU (pc := 2) (As := [.int 0]) (rest := []) cx cu_J4_333 (mJ5_setLength hu hD) ⟨Nat.le_of_ble_eq_true rfl, Nat.le_of_ble_eq_true rfl⟩ ⟨Nat.le_of_ble_eq_true rfl, Nat.le_of_ble_eq_true rfl⟩ hE (fun _ h => h) hA hP hS hl.1 rfl rfl (Nat.le_of_ble_eq_true rfl) dJ4_setLength_d00df_2 (fun u2 H locs hu2 hP hD hz hk2 hS => ?_)
  exact W.vret (pc := 5) hx hb hr (fun t ht hW => ⟨⟨u2, rfl, hu2, by rw [ht]; exact hP, hD⟩, hS.F ht⟩) hS.2.2 dJ4_setLength_d00df_5

theorem ch_fit : ∀ c, c < 128 → fits .byte (.int (nI c)) = true := by decide +kernel
theorem zOkB_l {tx l : List Nat} {u : zU} {r cap : Nat} {ml : Int32} {g : Nat → Int32} (hu : zOkB tx u) (hcap : cap = 16 ∨ cap = 34) (hl : tx.length + l.length ≤ cap) (hc : ∀ x ∈ l, x < 128) (h1 : ∀ j, j < tx.length → g j = u.2.2.2 j) (h2 : ∀ i x, l[i]? = some x → g (tx.length + i) = nI x) (h3 : ∀ j, fits .byte (.int (g j)) = true) : zOkB (tx ++ l) (r, cap, ml, g) := by
  obtain ⟨a1, a2, a3, a4, a5⟩ := hu
  refine ⟨hcap, by rw [List.length_append]; exact hl, fun j x hx => ?_, fun x hx => ?_, h3⟩
  · show g j = nI x
    by_cases e : j < tx.length
    · rw [List.getElem?_append_left e] at hx
      rw [h1 j e]
      exact a3 j x hx
    · rw [List.getElem?_append_right (by omega)] at hx
      have := h2 _ x hx
      rwa [show tx.length + (j - tx.length) = j by omega] at this
  · rcases List.mem_append.mp hx with h | h
    · exact a4 x h
    · exact hc x h
theorem fit_upd {g : Nat → Int32} {k c : Nat} (h : ∀ j, fits .byte (.int (g j)) = true) (hc : c < 128) : ∀ j, fits .byte (.int (upd g k (nI c) j)) = true := by
  intro j
  by_cases e : j = k
  · rw [show upd g k (nI c) j = nI c from by simp [upd, e]]; exact ch_fit c hc
  · rw [show upd g k (nI c) j = g j from by simp [upd, e]]; exact h j
theorem zOkB_1 {tx : List Nat} {u : zU} {ch : Nat} (hu : zOkB tx u) (hl : tx.length + 1 ≤ u.2.1) (hc : ch < 128) : zOkB (tx ++ [ch]) (u.1, u.2.1, u.2.2.1, upd u.2.2.2 tx.length (nI ch)) :=
  zOkB_l hu hu.1 hl (fun x hx => by rw [List.mem_singleton] at hx; subst hx; exact hc) (fun j hj => by simp [upd]; omega) (fun i x hx => by
    have : i < 1 := (List.getElem?_eq_some_iff.mp hx).1
    have e : i = 0 := by omega
    subst e
    cases hx
    simp [upd]) (fit_upd hu.2.2.2.2 hc)
theorem dJ5_append_3fe6f_0 : decode cJ5_append_3fe6f 0 = .ok (.aload_n 0, 1) := by decide +kernel
theorem dJ5_append_3fe6f_1 : decode cJ5_append_3fe6f 1 = .ok (.aload_n 0, 1) := by decide +kernel
theorem dJ5_append_3fe6f_2 : decode cJ5_append_3fe6f 2 = .ok (.getfield 79, 3) := by decide +kernel
theorem dJ5_append_3fe6f_5 : decode cJ5_append_3fe6f 5 = .ok (.iconst 1, 1) := by decide +kernel
theorem dJ5_append_3fe6f_6 : decode cJ5_append_3fe6f 6 = .ok (.iadd, 1) := by decide +kernel
theorem dJ5_append_3fe6f_7 : decode cJ5_append_3fe6f 7 = .ok (.invokevirtual 100, 3) := by decide +kernel
theorem dJ5_append_3fe6f_10 : decode cJ5_append_3fe6f 10 = .ok (.aload_n 0, 1) := by decide +kernel
theorem dJ5_append_3fe6f_11 : decode cJ5_append_3fe6f 11 = .ok (.invokevirtual 83, 3) := by decide +kernel
theorem wd_1032 : (Jvm.Cond.selects "java/lang/StringBuilder" ({ cls := "java/lang/AbstractStringBuilder", name := "isLatin1", desc := "()Z" } : Jvm.MethodName) ({ cls := "java/lang/AbstractStringBuilder", name := "isLatin1", desc := "()Z" } : Jvm.MethodName)) ∈ zTB := List.mem_filter.mpr ⟨List.mem_append_right _ (List.mem_append_right _ (List.mem_append_right _ (List.mem_append_right _ (List.mem_append_right _ (List.mem_append_left _ (List.mem_of_getElem? (i := 72) rfl)))))), rfl⟩
theorem wd_1029 : (Jvm.Cond.methodLink "java/lang/AbstractStringBuilder" (83 : Nat) ({ cls := "java/lang/AbstractStringBuilder", name := "isLatin1", desc := "()Z" } : Jvm.MethodName)) ∈ zTB := List.mem_filter.mpr ⟨List.mem_append_right _ (List.mem_append_right _ (List.mem_append_right _ (List.mem_append_right _ (List.mem_append_right _ (List.mem_append_left _ (List.mem_of_getElem? (i := 69) rfl)))))), rfl⟩
theorem wd_1030 : (Jvm.Cond.instanceMethod ({ cls := "java/lang/AbstractStringBuilder", name := "isLatin1", desc := "()Z" } : Jvm.MethodName)) ∈ zTB := List.mem_filter.mpr ⟨List.mem_append_right _ (List.mem_append_right _ (List.mem_append_right _ (List.mem_append_right _ (List.mem_append_right _ (List.mem_append_left _ (List.mem_of_getElem? (i := 70) rfl)))))), rfl⟩
theorem wd_1033 : (Jvm.Cond.code ({ cls := "java/lang/AbstractStringBuilder", name := "isLatin1", desc := "()Z" } : Jvm.MethodName) prog_16_method_68_code (1 : Nat) (Option.some Jvm.ClassFile.FieldType.boolean)) ∈ zTB := List.mem_filter.mpr ⟨List.mem_append_right _ (List.mem_append_right _ (List.mem_append_right _ (List.mem_append_right _ (List.mem_append_right _ (List.mem_append_left _ (List.mem_of_getElem? (i := 73) rfl)))))), rfl⟩
theorem cb_J5_83 : zCB RJ5 83 yJ5_isLatin1_aae02 cJ5_isLatin1_aae02 1 (some .boolean) 0 := ⟨⟨by decide, by decide, by decide +kernel⟩, wd_1029, wd_1030, Or.inl wd_1032, wd_17, wd_1033⟩
theorem dJ5_append_3fe6f_14 : decode cJ5_append_3fe6f 14 = .ok (.ifCond .eq 31, 3) := by decide +kernel
theorem dJ5_append_3fe6f_17 : decode cJ5_append_3fe6f 17 = .ok (.iload_n 1, 1) := by decide +kernel
theorem dJ5_append_3fe6f_18 : decode cJ5_append_3fe6f 18 = .ok (.invokestatic 191, 3) := by decide +kernel
theorem wd_1059 : (Jvm.Cond.methodLink "java/lang/AbstractStringBuilder" (191 : Nat) ({ cls := "java/lang/StringLatin1", name := "canEncode", desc := "(C)Z" } : Jvm.MethodName)) ∈ zTB := List.mem_filter.mpr ⟨List.mem_append_right _ (List.mem_append_right _ (List.mem_append_right _ (List.mem_append_right _ (List.mem_append_right _ (List.mem_append_left _ (List.mem_of_getElem? (i := 99) rfl)))))), rfl⟩
theorem wd_1060 : (Jvm.Cond.static ({ cls := "java/lang/StringLatin1", name := "canEncode", desc := "(C)Z" } : Jvm.MethodName)) ∈ zTB := List.mem_filter.mpr ⟨List.mem_append_right _ (List.mem_append_right _ (List.mem_append_right _ (List.mem_append_right _ (List.mem_append_right _ (List.mem_append_left _ (List.mem_of_getElem? (i := 100) rfl)))))), rfl⟩
theorem wd_1061 : (Jvm.Cond.code ({ cls := "java/lang/StringLatin1", name := "canEncode", desc := "(C)Z" } : Jvm.MethodName) prog_28_method_3_code (1 : Nat) (Option.some Jvm.ClassFile.FieldType.boolean)) ∈ zTB := List.mem_filter.mpr ⟨List.mem_append_right _ (List.mem_append_right _ (List.mem_append_right _ (List.mem_append_right _ (List.mem_append_right _ (List.mem_append_left _ (List.mem_of_getElem? (i := 101) rfl)))))), rfl⟩
theorem cs_J5_191 : zCS RJ5 191 yJ1_canEncode_fc78d cJ1_canEncode_fc78d 1 (some .boolean) 1 := ⟨⟨by decide, by decide, by decide +kernel⟩, wd_1059, wd_1060, wd_4, wd_1061⟩
theorem dJ5_append_3fe6f_21 : decode cJ5_append_3fe6f 21 = .ok (.ifCond .eq 24, 3) := by decide +kernel
theorem dJ5_append_3fe6f_24 : decode cJ5_append_3fe6f 24 = .ok (.aload_n 0, 1) := by decide +kernel
theorem dJ5_append_3fe6f_25 : decode cJ5_append_3fe6f 25 = .ok (.getfield 15, 3) := by decide +kernel
theorem dJ5_append_3fe6f_28 : decode cJ5_append_3fe6f 28 = .ok (.aload_n 0, 1) := by decide +kernel
theorem dJ5_append_3fe6f_29 : decode cJ5_append_3fe6f 29 = .ok (.dup, 1) := by decide +kernel
theorem dJ5_append_3fe6f_30 : decode cJ5_append_3fe6f 30 = .ok (.getfield 79, 3) := by decide +kernel
theorem dJ5_append_3fe6f_33 : decode cJ5_append_3fe6f 33 = .ok (.dup_x1, 1) := by decide +kernel
theorem dJ5_append_3fe6f_34 : decode cJ5_append_3fe6f 34 = .ok (.iconst 1, 1) := by decide +kernel
theorem dJ5_append_3fe6f_35 : decode cJ5_append_3fe6f 35 = .ok (.iadd, 1) := by decide +kernel
theorem dJ5_append_3fe6f_36 : decode cJ5_append_3fe6f 36 = .ok (.putfield 79, 3) := by decide +kernel
theorem dJ5_append_3fe6f_39 : decode cJ5_append_3fe6f 39 = .ok (.iload_n 1, 1) := by decide +kernel
theorem dJ5_append_3fe6f_40 : decode cJ5_append_3fe6f 40 = .ok (.i2b, 1) := by decide +kernel
theorem dJ5_append_3fe6f_41 : decode cJ5_append_3fe6f 41 = .ok (.bastore, 1) := by decide +kernel
theorem dJ5_append_3fe6f_42 : decode cJ5_append_3fe6f 42 = .ok (.goto 33, 3) := by decide +kernel
theorem dJ5_append_3fe6f_75 : decode cJ5_append_3fe6f 75 = .ok (.aload_n 0, 1) := by decide +kernel
theorem dJ5_append_3fe6f_76 : decode cJ5_append_3fe6f 76 = .ok (.areturn, 1) := by decide +kernel
abbrev rmJ5_append_3fe6f : Room := { frames := 2, cells := 0, slots := 0, locals := 22 }
theorem sub_le0 {a c : Nat} (h : a ≤ c) (hc : c < 100) : nI a - nI c ≤ 0 := by
  have key : ∀ c, c < 100 → ∀ a, a ≤ c → nI a - nI c ≤ 0 := by decide +kernel
  exact key c hc a h
set_option maxHeartbeats 1000000 in
set_option maxRecDepth 100000 in
theorem mJ5_appendC {l : Launch} {D : va_G} {cy : Nat → ClassId} {kK kV : Nat → Nat} {A : Nat → Prop} {b : Nat} {tx : List Nat} {u : zU} (hu : zOkB tx u) (hD : va_D A (zBx cy b (nI tx.length) u)) {ch : Nat} (hc : ch < 128) (hl1 : tx.length + 1 ≤ u.2.1)  : zMap l yJ5_append_3fe6f cJ5_append_3fe6f 2 (some (.object "java/lang/AbstractStringBuilder")) rmJ5_append_3fe6f [.int (nI ch)] D cy kK kV A b (nI tx.length) u (tx ++ [ch]) := by
  refine Met.ofW (cc := cJ5_append_3fe6f) (maxL := 2) (ret := (some (.object "java/lang/AbstractStringBuilder"))) (by decide) rfl ?_
  intro p e s m args below meth c s₁ B hml hv
  obtain ⟨rfl, hA, hP, hK, hE⟩ := hv
  have cx : zX RJ5 cJ5_append_3fe6f 2 p s m ([.ref b, .int (nI ch)]).toArray c D cy := ⟨B.exec, B.bytes, hml, findClass_of_methodNamed B.named, fun w hw => atoms_spec (ws := Cond.code yJ5_append_3fe6f cJ5_append_3fe6f 2 (some (.object "java/lang/AbstractStringBuilder")) :: zTB) B.pre w (List.mem_cons_of_mem _ hw), hK⟩
  have hx := cx.1
  have hb := cx.2.1
  have hr := B.returns
  have hlk := B.notSynchronized
  have hS : va_S A s.heap s.heap [] := va_S.rf
  have hl := lv_entry ([.ref b, .int (nI ch)]) (n := 2) (Nat.le_of_ble_eq_true rfl)
  rw [lg_entry_eq]
  generalize (lg_sl ([.ref b, .int (nI ch)]) ++ List.replicate (2 - (lg_sl ([.ref b, .int (nI ch)])).length) Slot.unset).toArray = ls at hl ⊢
  have hl : lv_has ls 2 [(0, .ref b), (1, .int (nI ch))] := hl
  have hcap : u.2.1 < 100 := by rcases hu.1 with h | h <;> omega
  have hle : nI (tx.length + 1) - nI u.2.1 ≤ 0 := sub_le0 hl1 hcap
  refine lv_aload_n (pc := 0) hx hb dJ5_append_3fe6f_0 rfl (lv_at hl 0 rfl) ?_
  refine lv_aload_n (pc := 1) hx hb dJ5_append_3fe6f_1 rfl (lv_at hl 0 rfl) ?_
  refine zr_gett (pc := 2) cx lk_J5_79 hP 0 (a := b) rfl (v := .int (nI tx.length)) rfl dJ5_append_3fe6f_2 ?_
  refine lv_iconst (pc := 5) hx hb dJ5_append_3fe6f_5 zc_1 ?_
  refine lv_iadd (pc := 6) hx hb dJ5_append_3fe6f_6 ?_
  refine zr_bU (pc := 7) (As := [.int ((nI tx.length) + (1 : Int32))]) (rest := []) cx hE.2.2.2.2.2.2.2 cb_J5_100 (mJ5_ensure (by rw [cap_sh hu.1, ← nI_succ]; exact hle)) ⟨⟨rfl, rfl⟩, Nat.le_of_ble_eq_true rfl, Nat.le_of_ble_eq_true rfl⟩ ⟨Nat.le_of_ble_eq_true rfl, Nat.le_of_ble_eq_true rfl⟩ (zr_preB cx zPb_bl (zr_pb cx hE hS (fun _ h => h.elim) hP) hP rfl) hl.1 rfl rfl (Nat.le_of_ble_eq_true rfl) dJ5_append_3fe6f_7 ?_
  refine lv_aload_n (pc := 10) hx hb dJ5_append_3fe6f_10 rfl (lv_at hl 0 rfl) ?_
  refine zr_bI (pc := 11) (As := []) (rest := []) cx hE.2.2.2.2.2.2.2 cb_J5_83 (mJ5_isLatin1) ⟨⟨rfl, rfl⟩, Nat.le_of_ble_eq_true rfl, Nat.le_of_ble_eq_true rfl⟩ ⟨Nat.le_of_ble_eq_true rfl, Nat.le_of_ble_eq_true rfl⟩ (zr_preB cx zPb_bl (zr_pb cx hE hS (fun _ h => h.elim) hP) hP rfl) hl.1 rfl rfl (Nat.le_of_ble_eq_true rfl) dJ5_append_3fe6f_11 ?_
  refine lv_if_eq (pc := 14) (tgt := 45) hx hb dJ5_append_3fe6f_14 (by decide) (fun c0 => absurd c0 (by decide)) (fun c0 => ?_)
  refine lv_iload_n (pc := 17) hx hb dJ5_append_3fe6f_17 rfl (lv_at hl 1 rfl) ?_
  refine zr_SI (pc := 18) (As := [.int (nI ch)]) (rest := []) cx cs_J5_191 (mJ1_canEncode (nI_nlt (a := 255) (b := ch) (by omega) (by omega))) ⟨⟨rfl, rfl⟩, Nat.le_of_ble_eq_true rfl, Nat.le_of_ble_eq_true rfl⟩ ⟨Nat.le_of_ble_eq_true rfl, Nat.le_of_ble_eq_true rfl⟩ (zr_preE cx hE hS (fun _ h => h.elim)) hl.1 rfl rfl (Nat.le_of_ble_eq_true rfl) dJ5_append_3fe6f_18 ?_
  refine lv_if_eq (pc := 21) (tgt := 45) hx hb dJ5_append_3fe6f_21 (by decide) (fun c0 => absurd c0 (by decide)) (fun c0 => ?_)
  refine lv_aload_n (pc := 24) hx hb dJ5_append_3fe6f_24 rfl (lv_at hl 0 rfl) ?_
  refine zr_gett (pc := 25) cx lk_J5_15 hP 0 (a := b) rfl (v := .ref u.1) rfl dJ5_append_3fe6f_25 ?_
  refine lv_aload_n (pc := 28) hx hb dJ5_append_3fe6f_28 rfl (lv_at hl 0 rfl) ?_
  refine lv_dup (pc := 29) hx hb dJ5_append_3fe6f_29 rfl ?_
  refine zr_gett (pc := 30) cx lk_J5_79 hP 0 (a := b) rfl (v := .int (nI tx.length)) rfl dJ5_append_3fe6f_30 ?_
  refine lv_dup_x1 (pc := 33) hx hb dJ5_append_3fe6f_33 rfl rfl ?_
  refine lv_iconst (pc := 34) hx hb dJ5_append_3fe6f_34 zc_1 ?_
  refine lv_iadd (pc := 35) hx hb dJ5_append_3fe6f_35 ?_
  refine zr_put (pc := 36) cx lq_J5_79 hP hD hS 0 (a := b) rfl (v := .int (nI tx.length + 1)) rfl rfl (Nat.le_of_ble_eq_true rfl) dJ5_append_3fe6f_36 (fun H locs hP hD hS => ?_)
  have hP : va_P D vwCl (zBx cy b (nI tx.length + 1) u) H := hP
  have hD : va_D A (zBx cy b (nI tx.length + 1) u) := hD
  refine lv_iload_n (pc := 39) hx hb dJ5_append_3fe6f_39 rfl (lv_at hl 1 rfl) ?_
  refine lv_i2b (v := (((nI ch)).toInt8.toInt32)) (pc := 40) hx hb dJ5_append_3fe6f_40 rfl ?_
  refine va_bast (pc := 41) hx hb cx.2.2.2.2.2.1 hP hD hS 1 4 rfl rfl (nI_in (show tx.length < u.2.1 by omega) (by omega)) dJ5_append_3fe6f_41 (fun H locs hP hD hS => ?_)
  rw [nI_clamp (by omega), ch_nar ch hc] at hP hD
  have hP : va_P D vwCl (zBx cy b (nI tx.length + 1) (u.1, u.2.1, u.2.2.1, upd u.2.2.2 tx.length (nI ch))) H := hP
  have hD : va_D A (zBx cy b (nI tx.length + 1) (u.1, u.2.1, u.2.2.1, upd u.2.2.2 tx.length (nI ch))) := hD
  refine lv_goto (pc := 42) (tgt := 75) hx hb dJ5_append_3fe6f_42 (by decide) ?_
  refine lv_aload_n (pc := 75) hx hb dJ5_append_3fe6f_75 rfl (lv_at hl 0 rfl) ?_
  rw [← nI_succ] at hP hD
  have hP : va_P D vwCl (zBx cy b (nI (tx ++ [ch]).length) (u.1, u.2.1, u.2.2.1, upd u.2.2.2 tx.length (nI ch))) H := by rw [List.length_append]; exact hP
  have hD : va_D A (zBx cy b (nI (tx ++ [ch]).length) (u.1, u.2.1, u.2.2.1, upd u.2.2.2 tx.length (nI ch))) := by rw [List.length_append]; exact hD
  exact W.aret (pc := 76) hx hb hr (Or.inl ⟨_, rfl⟩) (Or.inr ⟨_, rfl⟩) (fun t ht hW => ⟨⟨(u.1, u.2.1, u.2.2.1, upd u.2.2.2 tx.length (nI ch)), b, rfl, zOkB_1 hu hl1 hc, rfl, by rw [ht]; exact hP, hD⟩, hS.F ht⟩) hS.2.2 dJ5_append_3fe6f_76

theorem dJ4_append_cf468_0 : decode cJ4_append_cf468 0 = .ok (.aload_n 0, 1) := by decide +kernel
theorem dJ4_append_cf468_1 : decode cJ4_append_cf468 1 = .ok (.iload_n 1, 1) := by decide +kernel
theorem dJ4_append_cf468_2 : decode cJ4_append_cf468 2 = .ok (.invokespecial 50, 3) := by decide +kernel
theorem wd_1056 : (Jvm.Cond.methodLink "java/lang/StringBuilder" (50 : Nat) ({ cls := "java/lang/AbstractStringBuilder", name := "append", desc := "(C)Ljava/lang/AbstractStringBuilder;" } : Jvm.MethodName)) ∈ zTB := List.mem_filter.mpr ⟨List.mem_append_right _ (List.mem_append_right _ (List.mem_append_right _ (List.mem_append_right _ (List.mem_append_right _ (List.mem_append_left _ (List.mem_of_getElem? (i := 96) rfl)))))), rfl⟩
theorem wd_2113 : (Jvm.Cond.sameMethod "java/lang/AbstractStringBuilder" "java/lang/AbstractStringBuilder" "append" "(C)Ljava/lang/AbstractStringBuilder;") ∈ zTB := List.mem_filter.mpr ⟨List.mem_append_right _ (List.mem_append_right _ (List.mem_append_right _ (List.mem_append_right _ (List.mem_append_right _ (List.mem_append_right _ (List.mem_append_right _ (List.mem_append_right _ (List.mem_append_right _ (List.mem_of_getElem? (i := 193) rfl))))))))), rfl⟩
theorem wd_1057 : (Jvm.Cond.instanceMethod ({ cls := "java/lang/AbstractStringBuilder", name := "append", desc := "(C)Ljava/lang/AbstractStringBuilder;" } : Jvm.MethodName)) ∈ zTB := List.mem_filter.mpr ⟨List.mem_append_right _ (List.mem_append_right _ (List.mem_append_right _ (List.mem_append_right _ (List.mem_append_right _ (List.mem_append_left _ (List.mem_of_getElem? (i := 97) rfl)))))), rfl⟩
theorem wd_1058 : (Jvm.Cond.code ({ cls := "java/lang/AbstractStringBuilder", name := "append", desc := "(C)Ljava/lang/AbstractStringBuilder;" } : Jvm.MethodName) prog_16_method_31_code (2 : Nat) (Option.some (Jvm.ClassFile.FieldType.object "java/lang/AbstractStringBuilder"))) ∈ zTB := List.mem_filter.mpr ⟨List.mem_append_right _ (List.mem_append_right _ (List.mem_append_right _ (List.mem_append_right _ (List.mem_append_right _ (List.mem_append_left _ (List.mem_of_getElem? (i := 98) rfl)))))), rfl⟩
theorem cu_J4_50 : zCU RJ4 50 yJ5_append_3fe6f cJ5_append_3fe6f 2 (some (.object "java/lang/AbstractStringBuilder")) 1 := ⟨⟨by decide, by decide, by decide +kernel⟩, by decide, wd_1056, wd_2113, wd_503, wd_1057, wd_17, wd_1058⟩
theorem dJ4_append_cf468_5 : decode cJ4_append_cf468 5 = .ok (.pop, 1) := by decide +kernel
theorem dJ4_append_cf468_6 : decode cJ4_append_cf468 6 = .ok (.aload_n 0, 1) := by decide +kernel
theorem dJ4_append_cf468_7 : decode cJ4_append_cf468 7 = .ok (.areturn, 1) := by decide +kernel
abbrev rmJ4_append_cf468 : Room := { frames := 3, cells := 0, slots := 0, locals := 43 }
set_option maxHeartbeats 1000000 in
set_option maxRecDepth 100000 in
theorem mJ4_appendC {l : Launch} {D : va_G} {cy : Nat → ClassId} {kK kV : Nat → Nat} {A : Nat → Prop} {b : Nat} {tx : List Nat} {u : zU} (hu : zOkB tx u) (hD : va_D A (zBx cy b (nI tx.length) u)) {ch : Nat} (hc : ch < 128) (hl1 : tx.length + 1 ≤ u.2.1)  : zMap l yJ4_append_cf468 cJ4_append_cf468 2 (some (.object "java/lang/StringBuilder")) rmJ4_append_cf468 [.int (nI ch)] D cy kK kV A b (nI tx.length) u (tx ++ [ch]) := by
  refine Met.ofW (cc := cJ4_append_cf468) (maxL := 2) (ret := (some (.object "java/lang/StringBuilder"))) (by decide) rfl ?_
  intro p e s m args below meth c s₁ B hml hv
  obtain ⟨rfl, hA, hP, hK, hE⟩ := hv
  have cx : zX RJ4 cJ4_append_cf468 2 p s m ([.ref b, .int (nI ch)]).toArray c D cy := ⟨B.exec, B.bytes, hml, findClass_of_methodNamed B.named, fun w hw => atoms_spec (ws := Cond.code yJ4_append_cf468 cJ4_append_cf468 2 (some (.object "java/lang/StringBuilder")) :: zTB) B.pre w (List.mem_cons_of_mem _ hw), hK⟩
  have hx := cx.1
  have hb := cx.2.1
  have hr := B.returns
  have hlk := B.notSynchronized
  have hS : va_S A s.heap s.heap [] := va_S.rf
  have hl := lv_entry ([.ref b, .int (nI ch)]) (n := 2) (Nat.le_of_ble_eq_true rfl)
  rw [lg_entry_eq]
  generalize (lg_sl ([.ref b, .int (nI ch)]) ++ List.replicate (2 - (lg_sl ([.ref b, .int (nI ch)])).length) Slot.unset).toArray = ls at hl ⊢
  have hl : lv_has ls 2 [(0, .ref b), (1, .int (nI ch))] := hl
  refine lv_aload_n (pc := 0) hx hb dJ4_append_cf468_0 rfl (lv_at hl 0 rfl) ?_
  refine lv_iload_n (pc := 1) hx hb dJ4_append_cf468_1 rfl (lv_at hl 1 rfl) ?_
  refine zr_aU (pc := 2) (As := [.int (nI ch)]) (rest := []) cx cu_J4_50 (mJ5_appendC hu hD hc hl1) ⟨Nat.le_of_ble_eq_true rfl, Nat.le_of_ble_eq_true rfl⟩ ⟨Nat.le_of_ble_eq_true rfl, Nat.le_of_ble_eq_true rfl⟩ hE (fun _ h => h) hA hP hS hl.1 rfl rfl (Nat.le_of_ble_eq_true rfl) dJ4_append_cf468_2 (fun u2 H locs hu2 hP hD hz hk2 hS => ?_)
  refine lv_pop (pc := 5) hx hb dJ4_append_cf468_5 rfl ?_
  refine lv_aload_n (pc := 6) hx hb dJ4_append_cf468_6 rfl (lv_at hl 0 rfl) ?_
  exact W.aret (pc := 7) hx hb hr (Or.inl ⟨_, rfl⟩) (Or.inr ⟨_, rfl⟩) (fun t ht hW => ⟨⟨u2, b, rfl, hu2, rfl, by rw [ht]; exact hP, hD⟩, hS.F ht⟩) hS.2.2 dJ4_append_cf468_7

