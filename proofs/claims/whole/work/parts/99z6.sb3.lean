/-! a String constant's bytes into the builder, and its growth, printed by wip/gen/sb3.py -/
def zStr (i : Nat) : List Nat := match i with
  | 1 => [32, 105, 115, 32, 97, 32, 102, 101, 114, 110]
  | 2 => [32, 104, 97, 115, 32]
  | 3 => [32, 98, 108, 105, 110, 100]
  | _ => []
theorem zStr_ok : ∀ i, i < 4 → 1 ≤ i → (zStr i).length = zLen.getD i 0 ∧ (∀ j, j < (zStr i).length → (zByt.getD i []).getD j 0 = nI ((zStr i).getD j 0)) ∧ ∀ x ∈ zStr i, x < 128 := by decide +kernel
theorem zByt_fit : ∀ i, i < 4 → ∀ k, k < zLen.getD i 0 → fits .byte (.int ((zByt.getD i []).getD k 0)) = true := by decide +kernel
def zCpy (i : Nat) (g : Nat → Int32) (m : Nat) : Nat → Int32 := va_cpy (fun j => (zByt.getD i []).getD j 0) g 0 m (zLen.getD i 0)
theorem dJ0_getBytes_840e7_0 : decode cJ0_getBytes_840e7 0 = .ok (.aload_n 0, 1) := by decide +kernel
theorem dJ0_getBytes_840e7_1 : decode cJ0_getBytes_840e7 1 = .ok (.invokevirtual 335, 3) := by decide +kernel
theorem dJ0_getBytes_840e7_4 : decode cJ0_getBytes_840e7 4 = .ok (.iload_n 3, 1) := by decide +kernel
theorem dJ0_getBytes_840e7_5 : decode cJ0_getBytes_840e7 5 = .ok (.if_icmp .ne 23, 3) := by decide +kernel
theorem dJ0_getBytes_840e7_8 : decode cJ0_getBytes_840e7 8 = .ok (.aload_n 0, 1) := by decide +kernel
theorem dJ0_getBytes_840e7_9 : decode cJ0_getBytes_840e7 9 = .ok (.getfield 9, 3) := by decide +kernel
theorem dJ0_getBytes_840e7_12 : decode cJ0_getBytes_840e7 12 = .ok (.iconst 0, 1) := by decide +kernel
theorem dJ0_getBytes_840e7_13 : decode cJ0_getBytes_840e7 13 = .ok (.aload_n 1, 1) := by decide +kernel
theorem dJ0_getBytes_840e7_14 : decode cJ0_getBytes_840e7 14 = .ok (.iload_n 2, 1) := by decide +kernel
theorem dJ0_getBytes_840e7_15 : decode cJ0_getBytes_840e7 15 = .ok (.iload_n 3, 1) := by decide +kernel
theorem dJ0_getBytes_840e7_16 : decode cJ0_getBytes_840e7 16 = .ok (.ishl, 1) := by decide +kernel
theorem dJ0_getBytes_840e7_17 : decode cJ0_getBytes_840e7 17 = .ok (.aload_n 0, 1) := by decide +kernel
theorem dJ0_getBytes_840e7_18 : decode cJ0_getBytes_840e7 18 = .ok (.getfield 9, 3) := by decide +kernel
theorem dJ0_getBytes_840e7_21 : decode cJ0_getBytes_840e7 21 = .ok (.arraylength, 1) := by decide +kernel
theorem dJ0_getBytes_840e7_22 : decode cJ0_getBytes_840e7 22 = .ok (.invokestatic 212, 3) := by decide +kernel
theorem wd_1125 : (Jvm.Cond.methodLink "java/lang/String" (212 : Nat) ({ cls := "java/lang/System", name := "arraycopy", desc := "(Ljava/lang/Object;ILjava/lang/Object;II)V" } : Jvm.MethodName)) ∈ zTB := List.mem_filter.mpr ⟨List.mem_append_right _ (List.mem_append_right _ (List.mem_append_right _ (List.mem_append_right _ (List.mem_append_right _ (List.mem_append_left _ (List.mem_of_getElem? (i := 165) rfl)))))), rfl⟩
theorem dJ0_getBytes_840e7_25 : decode cJ0_getBytes_840e7 25 = .ok (.goto 18, 3) := by decide +kernel
theorem dJ0_getBytes_840e7_43 : decode cJ0_getBytes_840e7 43 = .ok (.return_, 1) := by decide +kernel
abbrev rmJ0_getBytes_840e7 : Room := { frames := 2, cells := 0, slots := 0, locals := 60 }
set_option maxHeartbeats 1000000 in
set_option maxRecDepth 100000 in
theorem mJ0_getBytes {l : Launch} {D : va_G} {cy : Nat → ClassId} {kK kV : Nat → Nat} {A : Nat → Prop} {b : Nat} {n : Int32} {u : zU} {i mm : Nat} (hi : i < 4) (hc : u.2.1 < 100) (hm : mm + zLen.getD i 0 ≤ u.2.1) (hD : va_D A (zBx cy b n u))  : zMw l yJ0_getBytes_840e7 cJ0_getBytes_840e7 4 rmJ0_getBytes_840e7 [.ref (kK i), .ref u.1, .int (nI mm), .int 0] D cy kK kV A (zBx cy b n u) (zBx cy b n (u.1, u.2.1, u.2.2.1, zCpy i u.2.2.2 mm)) := by
  refine Met.ofW (cc := cJ0_getBytes_840e7) (maxL := 4) (ret := none) (by decide) rfl ?_
  intro p e s m args below meth c s₁ B hml hv
  obtain ⟨rfl, hA, hP, hK, hE⟩ := hv
  have cx : zX RJ0 cJ0_getBytes_840e7 4 p s m ([.ref (kK i), .ref u.1, .int (nI mm), .int 0]).toArray c D cy := ⟨B.exec, B.bytes, hml, findClass_of_methodNamed B.named, fun w hw => atoms_spec (ws := Cond.code yJ0_getBytes_840e7 cJ0_getBytes_840e7 4 none :: zTB) B.pre w (List.mem_cons_of_mem _ hw), hK⟩
  have hx := cx.1
  have hb := cx.2.1
  have hr := B.returns
  have hlk := B.notSynchronized
  have hS : va_S A s.heap s.heap [] := va_S.rf
  have hl := lv_entry ([.ref (kK i), .ref u.1, .int (nI mm), .int 0]) (n := 4) (Nat.le_of_ble_eq_true rfl)
  rw [lg_entry_eq]
  generalize (lg_sl ([.ref (kK i), .ref u.1, .int (nI mm), .int 0]) ++ List.replicate (4 - (lg_sl ([.ref (kK i), .ref u.1, .int (nI mm), .int 0])).length) Slot.unset).toArray = ls at hl ⊢
  have hl : lv_has ls 4 [(0, .ref (kK i)), (1, .ref u.1), (2, .int (nI mm)), (3, .int 0)] := hl
  refine lv_aload_n (pc := 0) hx hb dJ0_getBytes_840e7_0 rfl (lv_at hl 0 rfl) ?_
  refine zr_VIg (pc := 1) (q := kK) (k := i) (As := []) (rest := []) cx cv_J0_335 (mJ0_coder hi) ⟨⟨rfl, rfl⟩, Nat.le_of_ble_eq_true rfl, Nat.le_of_ble_eq_true rfl⟩ ⟨Nat.le_of_ble_eq_true rfl, Nat.le_of_ble_eq_true rfl⟩ (zr_preKs cx hE hS hi) hl.1 rfl rfl (Nat.le_of_ble_eq_true rfl) dJ0_getBytes_840e7_1 ?_
  refine lv_iload_n (pc := 4) hx hb dJ0_getBytes_840e7_4 rfl (lv_at hl 3 rfl) ?_
  refine lv_icmp_ne (pc := 5) (tgt := 28) hx hb dJ0_getBytes_840e7_5 (by decide) (fun c0 => absurd rfl c0) (fun c0 => ?_)
  refine lv_aload_n (pc := 8) hx hb dJ0_getBytes_840e7_8 rfl (lv_at hl 0 rfl) ?_
  refine vk_getf (pc := 9) (A := A) hx hb (hE.2.2.1.1 i hi).2.2.1 hS cx.2.2.2.1 (cx.2.2.2.2.1 _ wd_2140) (fun _ h => h) dJ0_getBytes_840e7_9 ?_
  refine lv_iconst (pc := 12) hx hb dJ0_getBytes_840e7_12 zc_0 ?_
  refine lv_aload_n (pc := 13) hx hb dJ0_getBytes_840e7_13 rfl (lv_at hl 1 rfl) ?_
  refine lv_iload_n (pc := 14) hx hb dJ0_getBytes_840e7_14 rfl (lv_at hl 2 rfl) ?_
  refine lv_iload_n (pc := 15) hx hb dJ0_getBytes_840e7_15 rfl (lv_at hl 3 rfl) ?_
  refine lv_ishl (pc := 16) hx hb dJ0_getBytes_840e7_16 ?_
  rw [shl0 (show mm < 200 by omega)]
  refine lv_aload_n (pc := 17) hx hb dJ0_getBytes_840e7_17 rfl (lv_at hl 0 rfl) ?_
  refine vk_getf (pc := 18) (A := A) hx hb (hE.2.2.1.1 i hi).2.2.1 hS cx.2.2.2.1 (cx.2.2.2.2.1 _ wd_2140) (fun _ h => h) dJ0_getBytes_840e7_18 ?_
  refine va_tlen (pc := 21) (A := A) hx hb (hE.2.2.1.1 i hi).2.2.2 hS (v := nI (zLen.getD i 0)) rfl dJ0_getBytes_840e7_21 ?_
  refine vk_copyt (pc := 22) hx hb (by rw [hml]; exact hl.1.symm) cx.2.2.2.1 (cx.2.2.2.2.1 _ wd_1125) (cx.2.2.2.2.1 _ wd_678) (cx.2.2.2.2.1 _ wd_677) (cx.2.2.2.2.1 _ wd_21) cx.2.2.2.2.2.1 hP hD hS (hE.2.2.1.1 i hi).2.2.2 1 4 rfl rfl (by decide) (nI_pos (by omega)) (nI_pos (by omega)) (by rw [nI_clamp (by omega)]; show 0 + _ ≤ _; omega) (by rw [nI_clamp (by omega), nI_clamp (by omega)]; exact hm) (fun j hj => by rw [nI_clamp (by omega)] at hj; show fits .byte (.int ((zByt.getD i []).getD (0 + j) 0)) = true; rw [Nat.zero_add]; exact zByt_fit i hi j hj) (Nat.le_of_ble_eq_true rfl) (Nat.le_of_ble_eq_true rfl) dJ0_getBytes_840e7_22 (fun H locs hP hD hS => ?_)
  rw [nI_clamp (by omega), nI_clamp (by omega)] at hP hD
  have hP : va_P D vwCl (zBx cy b n (u.1, u.2.1, u.2.2.1, zCpy i u.2.2.2 mm)) H := hP
  refine lv_goto (pc := 25) (tgt := 43) hx hb dJ0_getBytes_840e7_25 (by decide) ?_
  exact W.vret (pc := 43) hx hb hr (fun t ht hW => ⟨⟨(), rfl, trivial, (show va_P D vwCl _ t.heap from by rw [ht]; exact hP)⟩, hS.F ht⟩) hS.2.2 dJ0_getBytes_840e7_43

theorem dJ5_inflateIfNeededFor_a7421_0 : decode cJ5_inflateIfNeededFor_a7421 0 = .ok (.getstatic 18, 3) := by decide +kernel
theorem dJ5_inflateIfNeededFor_a7421_3 : decode cJ5_inflateIfNeededFor_a7421 3 = .ok (.ifCond .eq 18, 3) := by decide +kernel
theorem dJ5_inflateIfNeededFor_a7421_6 : decode cJ5_inflateIfNeededFor_a7421 6 = .ok (.aload_n 0, 1) := by decide +kernel
theorem dJ5_inflateIfNeededFor_a7421_7 : decode cJ5_inflateIfNeededFor_a7421 7 = .ok (.getfield 22, 3) := by decide +kernel
theorem dJ5_inflateIfNeededFor_a7421_10 : decode cJ5_inflateIfNeededFor_a7421 10 = .ok (.aload_n 1, 1) := by decide +kernel
theorem dJ5_inflateIfNeededFor_a7421_11 : decode cJ5_inflateIfNeededFor_a7421 11 = .ok (.invokevirtual 40, 3) := by decide +kernel
theorem wd_1120 : (Jvm.Cond.methodLink "java/lang/AbstractStringBuilder" (40 : Nat) ({ cls := "java/lang/String", name := "coder", desc := "()B" } : Jvm.MethodName)) ∈ zTB := List.mem_filter.mpr ⟨List.mem_append_right _ (List.mem_append_right _ (List.mem_append_right _ (List.mem_append_right _ (List.mem_append_right _ (List.mem_append_left _ (List.mem_of_getElem? (i := 160) rfl)))))), rfl⟩
theorem cv_J5_40 : zCV RJ5 "java/lang/String" 40 yJ0_coder_7d493 cJ0_coder_7d493 1 (some .byte) 0 := ⟨rfl, ⟨by decide, by decide, by decide +kernel⟩, wd_1120, wd_50, wd_51, wd_3, wd_52⟩
theorem dJ5_inflateIfNeededFor_a7421_14 : decode cJ5_inflateIfNeededFor_a7421 14 = .ok (.if_icmp .eq 7, 3) := by decide +kernel
theorem dJ5_inflateIfNeededFor_a7421_21 : decode cJ5_inflateIfNeededFor_a7421 21 = .ok (.return_, 1) := by decide +kernel
abbrev rmJ5_inflateIfNeededFor_a7421 : Room := { frames := 2, cells := 0, slots := 0, locals := 20 }
set_option maxHeartbeats 1000000 in
set_option maxRecDepth 100000 in
theorem mJ5_inflateIf {l : Launch} {D : va_G} {cy : Nat → ClassId} {kK kV : Nat → Nat} {b : Nat} {n : Int32} {u : zU} {i : Nat} (hi : i < 4)  : zMu l yJ5_inflateIfNeededFor_a7421 cJ5_inflateIfNeededFor_a7421 2 rmJ5_inflateIfNeededFor_a7421 [.ref b, .ref (kK i)] (zPb D cy kK kV (fun _ => False) (zBx cy b n u)) := by
  refine Met.ofW (cc := cJ5_inflateIfNeededFor_a7421) (maxL := 2) (ret := none) (by decide) rfl ?_
  intro p e s m args below meth c s₁ B hml hv
  obtain ⟨rfl, hP, hK, hE⟩ := hv
  have cx : zX RJ5 cJ5_inflateIfNeededFor_a7421 2 p s m ([.ref b, .ref (kK i)]).toArray c D cy := ⟨B.exec, B.bytes, hml, findClass_of_methodNamed B.named, fun w hw => atoms_spec (ws := Cond.code yJ5_inflateIfNeededFor_a7421 cJ5_inflateIfNeededFor_a7421 2 none :: zTB) B.pre w (List.mem_cons_of_mem _ hw), hK⟩
  have hx := cx.1
  have hb := cx.2.1
  have hr := B.returns
  have hlk := B.notSynchronized
  have hl := lv_entry ([.ref b, .ref (kK i)]) (n := 2) (Nat.le_of_ble_eq_true rfl)
  rw [lg_entry_eq]
  generalize (lg_sl ([.ref b, .ref (kK i)]) ++ List.replicate (2 - (lg_sl ([.ref b, .ref (kK i)])).length) Slot.unset).toArray = ls at hl ⊢
  have hl : lv_has ls 2 [(0, .ref b), (1, .ref (kK i))] := hl
  refine va_gets (pc := 0) (A := fun _ => False) hx hb hE.2.2.2.2.1 va_S.rf cx.2.2.2.1 (cx.2.2.2.2.1 _ wd_483) (fun _ h => h) dJ5_inflateIfNeededFor_a7421_0 ?_
  refine lv_if_eq (pc := 3) (tgt := 21) hx hb dJ5_inflateIfNeededFor_a7421_3 (by decide) (fun c0 => absurd c0 (by decide)) (fun c0 => ?_)
  refine lv_aload_n (pc := 6) hx hb dJ5_inflateIfNeededFor_a7421_6 rfl (lv_at hl 0 rfl) ?_
  refine zr_gett (pc := 7) cx lk_J5_22 hP 0 (a := b) rfl (v := .int 0) rfl dJ5_inflateIfNeededFor_a7421_7 ?_
  refine lv_aload_n (pc := 10) hx hb dJ5_inflateIfNeededFor_a7421_10 rfl (lv_at hl 1 rfl) ?_
  refine zr_VIg (pc := 11) (q := kK) (k := i) (As := []) (rest := [.int 0]) cx cv_J5_40 (mJ0_coder hi) ⟨⟨rfl, rfl⟩, Nat.le_of_ble_eq_true rfl, Nat.le_of_ble_eq_true rfl⟩ ⟨Nat.le_of_ble_eq_true rfl, Nat.le_of_ble_eq_true rfl⟩ (zr_preKs cx hE va_S.rf hi) hl.1 rfl rfl (Nat.le_of_ble_eq_true rfl) dJ5_inflateIfNeededFor_a7421_11 ?_
  refine lv_icmp_eq (pc := 14) (tgt := 21) hx hb dJ5_inflateIfNeededFor_a7421_14 (by decide) (fun c0 => ?_) (fun c0 => absurd rfl c0)
  exact zr_reU (pc := 21) cx hr hlk dJ5_inflateIfNeededFor_a7421_21

theorem dJ5_putStringAt_47b60_0 : decode cJ5_putStringAt_47b60 0 = .ok (.aload_n 0, 1) := by decide +kernel
theorem dJ5_putStringAt_47b60_1 : decode cJ5_putStringAt_47b60 1 = .ok (.aload_n 2, 1) := by decide +kernel
theorem dJ5_putStringAt_47b60_2 : decode cJ5_putStringAt_47b60 2 = .ok (.invokevirtual 397, 3) := by decide +kernel
theorem wd_1116 : (Jvm.Cond.methodLink "java/lang/AbstractStringBuilder" (397 : Nat) ({ cls := "java/lang/AbstractStringBuilder", name := "inflateIfNeededFor", desc := "(Ljava/lang/String;)V" } : Jvm.MethodName)) ∈ zTB := List.mem_filter.mpr ⟨List.mem_append_right _ (List.mem_append_right _ (List.mem_append_right _ (List.mem_append_right _ (List.mem_append_right _ (List.mem_append_left _ (List.mem_of_getElem? (i := 156) rfl)))))), rfl⟩
theorem wd_1118 : (Jvm.Cond.instanceMethod ({ cls := "java/lang/AbstractStringBuilder", name := "inflateIfNeededFor", desc := "(Ljava/lang/String;)V" } : Jvm.MethodName)) ∈ zTB := List.mem_filter.mpr ⟨List.mem_append_right _ (List.mem_append_right _ (List.mem_append_right _ (List.mem_append_right _ (List.mem_append_right _ (List.mem_append_left _ (List.mem_of_getElem? (i := 158) rfl)))))), rfl⟩
theorem wd_1119 : (Jvm.Cond.code ({ cls := "java/lang/AbstractStringBuilder", name := "inflateIfNeededFor", desc := "(Ljava/lang/String;)V" } : Jvm.MethodName) prog_16_method_71_code (2 : Nat) (Option.none : Option Jvm.ClassFile.FieldType)) ∈ zTB := List.mem_filter.mpr ⟨List.mem_append_right _ (List.mem_append_right _ (List.mem_append_right _ (List.mem_append_right _ (List.mem_append_right _ (List.mem_append_left _ (List.mem_of_getElem? (i := 159) rfl)))))), rfl⟩
theorem cb_J5_397 : zCB RJ5 397 yJ5_inflateIfNeededFor_a7421 cJ5_inflateIfNeededFor_a7421 2 none 1 := ⟨⟨by decide, by decide, by decide +kernel⟩, wd_1116, wd_1118, Or.inr (by decide), wd_17, wd_1119⟩
theorem dJ5_putStringAt_47b60_5 : decode cJ5_putStringAt_47b60 5 = .ok (.aload_n 2, 1) := by decide +kernel
theorem dJ5_putStringAt_47b60_6 : decode cJ5_putStringAt_47b60 6 = .ok (.aload_n 0, 1) := by decide +kernel
theorem dJ5_putStringAt_47b60_7 : decode cJ5_putStringAt_47b60 7 = .ok (.getfield 15, 3) := by decide +kernel
theorem dJ5_putStringAt_47b60_10 : decode cJ5_putStringAt_47b60 10 = .ok (.iload_n 1, 1) := by decide +kernel
theorem dJ5_putStringAt_47b60_11 : decode cJ5_putStringAt_47b60 11 = .ok (.aload_n 0, 1) := by decide +kernel
theorem dJ5_putStringAt_47b60_12 : decode cJ5_putStringAt_47b60 12 = .ok (.getfield 22, 3) := by decide +kernel
theorem dJ5_putStringAt_47b60_15 : decode cJ5_putStringAt_47b60 15 = .ok (.invokevirtual 399, 3) := by decide +kernel
theorem wd_1121 : (Jvm.Cond.methodLink "java/lang/AbstractStringBuilder" (399 : Nat) ({ cls := "java/lang/String", name := "getBytes", desc := "([BIB)V" } : Jvm.MethodName)) ∈ zTB := List.mem_filter.mpr ⟨List.mem_append_right _ (List.mem_append_right _ (List.mem_append_right _ (List.mem_append_right _ (List.mem_append_right _ (List.mem_append_left _ (List.mem_of_getElem? (i := 161) rfl)))))), rfl⟩
theorem wd_1122 : (Jvm.Cond.instanceMethod ({ cls := "java/lang/String", name := "getBytes", desc := "([BIB)V" } : Jvm.MethodName)) ∈ zTB := List.mem_filter.mpr ⟨List.mem_append_right _ (List.mem_append_right _ (List.mem_append_right _ (List.mem_append_right _ (List.mem_append_right _ (List.mem_append_left _ (List.mem_of_getElem? (i := 162) rfl)))))), rfl⟩
theorem wd_1123 : (Jvm.Cond.selects "java/lang/String" ({ cls := "java/lang/String", name := "getBytes", desc := "([BIB)V" } : Jvm.MethodName) ({ cls := "java/lang/String", name := "getBytes", desc := "([BIB)V" } : Jvm.MethodName)) ∈ zTB := List.mem_filter.mpr ⟨List.mem_append_right _ (List.mem_append_right _ (List.mem_append_right _ (List.mem_append_right _ (List.mem_append_right _ (List.mem_append_left _ (List.mem_of_getElem? (i := 163) rfl)))))), rfl⟩
theorem wd_1124 : (Jvm.Cond.code ({ cls := "java/lang/String", name := "getBytes", desc := "([BIB)V" } : Jvm.MethodName) prog_26_method_147_code (4 : Nat) (Option.none : Option Jvm.ClassFile.FieldType)) ∈ zTB := List.mem_filter.mpr ⟨List.mem_append_right _ (List.mem_append_right _ (List.mem_append_right _ (List.mem_append_right _ (List.mem_append_right _ (List.mem_append_left _ (List.mem_of_getElem? (i := 164) rfl)))))), rfl⟩
theorem cv_J5_399 : zCV RJ5 "java/lang/String" 399 yJ0_getBytes_840e7 cJ0_getBytes_840e7 4 none 3 := ⟨rfl, ⟨by decide, by decide, by decide +kernel⟩, wd_1121, wd_1122, wd_1123, wd_3, wd_1124⟩
theorem dJ5_putStringAt_47b60_18 : decode cJ5_putStringAt_47b60 18 = .ok (.return_, 1) := by decide +kernel
abbrev rmJ5_putStringAt_47b60 : Room := { frames := 3, cells := 0, slots := 0, locals := 83 }
set_option maxHeartbeats 1000000 in
set_option maxRecDepth 100000 in
theorem mJ5_putString {l : Launch} {D : va_G} {cy : Nat → ClassId} {kK kV : Nat → Nat} {A : Nat → Prop} {b : Nat} {n : Int32} {u : zU} {i mm : Nat} (hi : i < 4) (hc : u.2.1 < 100) (hm : mm + zLen.getD i 0 ≤ u.2.1) (hD : va_D A (zBx cy b n u))  : zMw l yJ5_putStringAt_47b60 cJ5_putStringAt_47b60 3 rmJ5_putStringAt_47b60 [.ref b, .int (nI mm), .ref (kK i)] D cy kK kV A (zBx cy b n u) (zBx cy b n (u.1, u.2.1, u.2.2.1, zCpy i u.2.2.2 mm)) := by
  refine Met.ofW (cc := cJ5_putStringAt_47b60) (maxL := 3) (ret := none) (by decide) rfl ?_
  intro p e s m args below meth c s₁ B hml hv
  obtain ⟨rfl, hA, hP, hK, hE⟩ := hv
  have cx : zX RJ5 cJ5_putStringAt_47b60 3 p s m ([.ref b, .int (nI mm), .ref (kK i)]).toArray c D cy := ⟨B.exec, B.bytes, hml, findClass_of_methodNamed B.named, fun w hw => atoms_spec (ws := Cond.code yJ5_putStringAt_47b60 cJ5_putStringAt_47b60 3 none :: zTB) B.pre w (List.mem_cons_of_mem _ hw), hK⟩
  have hx := cx.1
  have hb := cx.2.1
  have hr := B.returns
  have hlk := B.notSynchronized
  have hS : va_S A s.heap s.heap [] := va_S.rf
  have hl := lv_entry ([.ref b, .int (nI mm), .ref (kK i)]) (n := 3) (Nat.le_of_ble_eq_true rfl)
  rw [lg_entry_eq]
  generalize (lg_sl ([.ref b, .int (nI mm), .ref (kK i)]) ++ List.replicate (3 - (lg_sl ([.ref b, .int (nI mm), .ref (kK i)])).length) Slot.unset).toArray = ls at hl ⊢
  have hl : lv_has ls 3 [(0, .ref b), (1, .int (nI mm)), (2, .ref (kK i))] := hl
  refine lv_aload_n (pc := 0) hx hb dJ5_putStringAt_47b60_0 rfl (lv_at hl 0 rfl) ?_
  refine lv_aload_n (pc := 1) hx hb dJ5_putStringAt_47b60_1 rfl (lv_at hl 2 rfl) ?_
  refine zr_bU (pc := 2) (As := [.ref (kK i)]) (rest := []) cx hE.2.2.2.2.2.2.2 cb_J5_397 (mJ5_inflateIf hi) ⟨⟨rfl, rfl⟩, Nat.le_of_ble_eq_true rfl, Nat.le_of_ble_eq_true rfl⟩ ⟨Nat.le_of_ble_eq_true rfl, Nat.le_of_ble_eq_true rfl⟩ (zr_preB cx zPb_bl (zr_pb cx hE hS (fun _ h => h.elim) hP) hP rfl) hl.1 rfl rfl (Nat.le_of_ble_eq_true rfl) dJ5_putStringAt_47b60_2 ?_
  refine lv_aload_n (pc := 5) hx hb dJ5_putStringAt_47b60_5 rfl (lv_at hl 2 rfl) ?_
  refine lv_aload_n (pc := 6) hx hb dJ5_putStringAt_47b60_6 rfl (lv_at hl 0 rfl) ?_
  refine zr_gett (pc := 7) cx lk_J5_15 hP 0 (a := b) rfl (v := .ref u.1) rfl dJ5_putStringAt_47b60_7 ?_
  refine lv_iload_n (pc := 10) hx hb dJ5_putStringAt_47b60_10 rfl (lv_at hl 1 rfl) ?_
  refine lv_aload_n (pc := 11) hx hb dJ5_putStringAt_47b60_11 rfl (lv_at hl 0 rfl) ?_
  refine zr_gett (pc := 12) cx lk_J5_22 hP 0 (a := b) rfl (v := .int 0) rfl dJ5_putStringAt_47b60_12 ?_
  refine zr_kW (pc := 15) (As := [.ref u.1, .int (nI mm), .int 0]) (rest := []) cx cv_J5_399 hi (mJ0_getBytes hi hc hm hD) ⟨⟨rfl, rfl⟩, Nat.le_of_ble_eq_true rfl, Nat.le_of_ble_eq_true rfl⟩ ⟨Nat.le_of_ble_eq_true rfl, Nat.le_of_ble_eq_true rfl⟩ hE (fun _ h => h) hA hP hS hl.1 rfl rfl (Nat.le_of_ble_eq_true rfl) dJ5_putStringAt_47b60_15 (fun H locs hP hz hk2 hS => ?_)
  exact W.vret (pc := 18) hx hb hr (fun t ht hW => ⟨⟨(), rfl, trivial, (show va_P D vwCl _ t.heap from by rw [ht]; exact hP)⟩, hS.F ht⟩) hS.2.2 dJ5_putStringAt_47b60_18

theorem dJ8_newLength_cabcc_0 : decode cJ8_newLength_cabcc 0 = .ok (.iload_n 0, 1) := by decide +kernel
theorem dJ8_newLength_cabcc_1 : decode cJ8_newLength_cabcc 1 = .ok (.iload_n 1, 1) := by decide +kernel
theorem dJ8_newLength_cabcc_2 : decode cJ8_newLength_cabcc 2 = .ok (.iload_n 2, 1) := by decide +kernel
theorem dJ8_newLength_cabcc_3 : decode cJ8_newLength_cabcc 3 = .ok (.invokestatic 194, 3) := by decide +kernel
theorem wd_1011 : (Jvm.Cond.methodLink "jdk/internal/util/ArraysSupport" (194 : Nat) ({ cls := "java/lang/Math", name := "max", desc := "(II)I" } : Jvm.MethodName)) ∈ zTB := List.mem_filter.mpr ⟨List.mem_append_right _ (List.mem_append_right _ (List.mem_append_right _ (List.mem_append_right _ (List.mem_append_right _ (List.mem_append_left _ (List.mem_of_getElem? (i := 51) rfl)))))), rfl⟩
theorem dJ8_newLength_cabcc_6 : decode cJ8_newLength_cabcc 6 = .ok (.iadd, 1) := by decide +kernel
theorem dJ8_newLength_cabcc_7 : decode cJ8_newLength_cabcc 7 = .ok (.istore_n 3, 1) := by decide +kernel
theorem dJ8_newLength_cabcc_8 : decode cJ8_newLength_cabcc 8 = .ok (.iconst 0, 1) := by decide +kernel
theorem dJ8_newLength_cabcc_9 : decode cJ8_newLength_cabcc 9 = .ok (.iload_n 3, 1) := by decide +kernel
theorem dJ8_newLength_cabcc_10 : decode cJ8_newLength_cabcc 10 = .ok (.if_icmp .ge 11, 3) := by decide +kernel
theorem dJ8_newLength_cabcc_13 : decode cJ8_newLength_cabcc 13 = .ok (.iload_n 3, 1) := by decide +kernel
theorem dJ8_newLength_cabcc_14 : decode cJ8_newLength_cabcc 14 = .ok (.ldc 200, 2) := by decide +kernel
theorem wd_1012 : (Jvm.Cond.constant "jdk/internal/util/ArraysSupport" (200 : Nat) (2147483639 : Int32)) ∈ zTB := List.mem_filter.mpr ⟨List.mem_append_right _ (List.mem_append_right _ (List.mem_append_right _ (List.mem_append_right _ (List.mem_append_right _ (List.mem_append_left _ (List.mem_of_getElem? (i := 52) rfl)))))), rfl⟩
theorem dJ8_newLength_cabcc_16 : decode cJ8_newLength_cabcc 16 = .ok (.if_icmp .gt 5, 3) := by decide +kernel
theorem dJ8_newLength_cabcc_19 : decode cJ8_newLength_cabcc 19 = .ok (.iload_n 3, 1) := by decide +kernel
theorem dJ8_newLength_cabcc_20 : decode cJ8_newLength_cabcc 20 = .ok (.ireturn, 1) := by decide +kernel
abbrev rmJ8_newLength_cabcc : Room := { frames := 1, cells := 0, slots := 0, locals := 40 }
set_option maxHeartbeats 1000000 in
set_option maxRecDepth 100000 in
theorem mJ8_newLength {l : Launch} {D : va_G} {cy : Nat → ClassId} {kK kV : Nat → Nat} {x : Int32} (h0 : x < 18)  : zMi l yJ8_newLength_cabcc cJ8_newLength_cabcc 4 (some .int) rmJ8_newLength_cabcc [.int 16, .int x, .int 18] (zPe D cy kK kV (fun _ => False)) 34 := by
  refine Met.ofW (cc := cJ8_newLength_cabcc) (maxL := 4) (ret := (some .int)) (by decide) rfl ?_
  intro p e s m args below meth c s₁ B hml hv
  obtain ⟨rfl, hK, hE⟩ := hv
  have cx : zX RJ8 cJ8_newLength_cabcc 4 p s m ([.int 16, .int x, .int 18]).toArray c D cy := ⟨B.exec, B.bytes, hml, findClass_of_methodNamed B.named, fun w hw => atoms_spec (ws := Cond.code yJ8_newLength_cabcc cJ8_newLength_cabcc 4 (some .int) :: zTB) B.pre w (List.mem_cons_of_mem _ hw), hK⟩
  have hx := cx.1
  have hb := cx.2.1
  have hr := B.returns
  have hlk := B.notSynchronized
  have hl := lv_entry ([.int 16, .int x, .int 18]) (n := 4) (Nat.le_of_ble_eq_true rfl)
  rw [lg_entry_eq]
  generalize (lg_sl ([.int 16, .int x, .int 18]) ++ List.replicate (4 - (lg_sl ([.int 16, .int x, .int 18])).length) Slot.unset).toArray = ls at hl ⊢
  have hl : lv_has ls 4 [(0, .int 16), (1, .int x), (2, .int 18)] := hl
  refine lv_iload_n (pc := 0) hx hb dJ8_newLength_cabcc_0 rfl (lv_at hl 0 rfl) ?_
  refine lv_iload_n (pc := 1) hx hb dJ8_newLength_cabcc_1 rfl (lv_at hl 1 rfl) ?_
  refine lv_iload_n (pc := 2) hx hb dJ8_newLength_cabcc_2 rfl (lv_at hl 2 rfl) ?_
  refine va_mmax (pc := 3) hx hb (by rw [hml]; exact hl.1.symm) cx.2.2.2.1 (cx.2.2.2.2.1 _ wd_1011) (cx.2.2.2.2.1 _ wd_808) (cx.2.2.2.2.1 _ wd_20) (cx.2.2.2.2.1 _ wd_809) (Nat.le_of_ble_eq_true rfl) (Nat.le_of_ble_eq_true rfl) (Nat.le_of_ble_eq_true rfl) (Nat.le_of_ble_eq_true rfl) dJ8_newLength_cabcc_3 ?_
  rw [if_pos h0]
  refine lv_iadd (pc := 6) hx hb dJ8_newLength_cabcc_6 ?_
  rw [show (16 : Int32) + 18 = 34 by decide]
  refine lv_istore_n (lv' := [(3, .int 34), (0, .int 16), (1, .int x), (2, .int 18)]) (pc := 7) hx hb dJ8_newLength_cabcc_7 rfl hl (by decide) rfl (fun ls hl => ?_)
  refine lv_iconst (pc := 8) hx hb dJ8_newLength_cabcc_8 zc_0 ?_
  refine lv_iload_n (pc := 9) hx hb dJ8_newLength_cabcc_9 rfl (lv_at hl 0 rfl) ?_
  refine lv_icmp_ge (pc := 10) (tgt := 21) hx hb dJ8_newLength_cabcc_10 (by decide) (fun c0 => absurd c0 (by decide)) (fun c0 => ?_)
  refine lv_iload_n (pc := 13) hx hb dJ8_newLength_cabcc_13 rfl (lv_at hl 0 rfl) ?_
  refine lv_ldc (pc := 14) hx hb cx.2.2.2.1 (cx.2.2.2.2.1 _ wd_1012) dJ8_newLength_cabcc_14 ?_
  refine lv_icmp_gt (pc := 16) (tgt := 21) hx hb dJ8_newLength_cabcc_16 (by decide) (fun c0 => absurd c0 (by decide)) (fun c0 => ?_)
  refine lv_iload_n (pc := 19) hx hb dJ8_newLength_cabcc_19 rfl (lv_at hl 0 rfl) ?_
  exact zr_reN (pc := 20) cx hr hlk rfl rfl dJ8_newLength_cabcc_20

theorem gr_a : ∀ x, 16 < x → x ≤ 33 → nI x - 16 < 18 ∧ ¬ nI x - 16 ≤ 0 ∧ (34 : Int32) ≠ 2147483647 := by
  have key : ∀ x, x < 34 → 16 < x → nI x - 16 < 18 ∧ ¬ nI x - 16 ≤ 0 ∧ (34 : Int32) ≠ 2147483647 := by decide
  exact fun x h1 h2 => key x (by omega) h1
theorem dJ5_newCapacity_0f7a4_0 : decode cJ5_newCapacity_0f7a4 0 = .ok (.aload_n 0, 1) := by decide +kernel
theorem dJ5_newCapacity_0f7a4_1 : decode cJ5_newCapacity_0f7a4 1 = .ok (.getfield 15, 3) := by decide +kernel
theorem dJ5_newCapacity_0f7a4_4 : decode cJ5_newCapacity_0f7a4 4 = .ok (.arraylength, 1) := by decide +kernel
theorem dJ5_newCapacity_0f7a4_5 : decode cJ5_newCapacity_0f7a4 5 = .ok (.istore_n 2, 1) := by decide +kernel
theorem dJ5_newCapacity_0f7a4_6 : decode cJ5_newCapacity_0f7a4 6 = .ok (.iload_n 1, 1) := by decide +kernel
theorem dJ5_newCapacity_0f7a4_7 : decode cJ5_newCapacity_0f7a4 7 = .ok (.aload_n 0, 1) := by decide +kernel
theorem dJ5_newCapacity_0f7a4_8 : decode cJ5_newCapacity_0f7a4 8 = .ok (.getfield 22, 3) := by decide +kernel
theorem dJ5_newCapacity_0f7a4_11 : decode cJ5_newCapacity_0f7a4 11 = .ok (.ishl, 1) := by decide +kernel
theorem dJ5_newCapacity_0f7a4_12 : decode cJ5_newCapacity_0f7a4 12 = .ok (.istore_n 3, 1) := by decide +kernel
theorem dJ5_newCapacity_0f7a4_13 : decode cJ5_newCapacity_0f7a4 13 = .ok (.iload_n 3, 1) := by decide +kernel
theorem dJ5_newCapacity_0f7a4_14 : decode cJ5_newCapacity_0f7a4 14 = .ok (.iload_n 2, 1) := by decide +kernel
theorem dJ5_newCapacity_0f7a4_15 : decode cJ5_newCapacity_0f7a4 15 = .ok (.isub, 1) := by decide +kernel
theorem dJ5_newCapacity_0f7a4_16 : decode cJ5_newCapacity_0f7a4 16 = .ok (.istore 4, 2) := by decide +kernel
theorem dJ5_newCapacity_0f7a4_18 : decode cJ5_newCapacity_0f7a4 18 = .ok (.iload_n 2, 1) := by decide +kernel
theorem dJ5_newCapacity_0f7a4_19 : decode cJ5_newCapacity_0f7a4 19 = .ok (.iload 4, 2) := by decide +kernel
theorem dJ5_newCapacity_0f7a4_21 : decode cJ5_newCapacity_0f7a4 21 = .ok (.iload_n 2, 1) := by decide +kernel
theorem dJ5_newCapacity_0f7a4_22 : decode cJ5_newCapacity_0f7a4 22 = .ok (.iconst 2, 1) := by decide +kernel
theorem dJ5_newCapacity_0f7a4_23 : decode cJ5_newCapacity_0f7a4 23 = .ok (.aload_n 0, 1) := by decide +kernel
theorem dJ5_newCapacity_0f7a4_24 : decode cJ5_newCapacity_0f7a4 24 = .ok (.getfield 22, 3) := by decide +kernel
theorem dJ5_newCapacity_0f7a4_27 : decode cJ5_newCapacity_0f7a4 27 = .ok (.ishl, 1) := by decide +kernel
theorem dJ5_newCapacity_0f7a4_28 : decode cJ5_newCapacity_0f7a4 28 = .ok (.iadd, 1) := by decide +kernel
theorem dJ5_newCapacity_0f7a4_29 : decode cJ5_newCapacity_0f7a4 29 = .ok (.invokestatic 114, 3) := by decide +kernel
theorem wd_1008 : (Jvm.Cond.methodLink "java/lang/AbstractStringBuilder" (114 : Nat) ({ cls := "jdk/internal/util/ArraysSupport", name := "newLength", desc := "(III)I" } : Jvm.MethodName)) ∈ zTB := List.mem_filter.mpr ⟨List.mem_append_right _ (List.mem_append_right _ (List.mem_append_right _ (List.mem_append_right _ (List.mem_append_right _ (List.mem_append_left _ (List.mem_of_getElem? (i := 48) rfl)))))), rfl⟩
theorem wd_1009 : (Jvm.Cond.static ({ cls := "jdk/internal/util/ArraysSupport", name := "newLength", desc := "(III)I" } : Jvm.MethodName)) ∈ zTB := List.mem_filter.mpr ⟨List.mem_append_right _ (List.mem_append_right _ (List.mem_append_right _ (List.mem_append_right _ (List.mem_append_right _ (List.mem_append_left _ (List.mem_of_getElem? (i := 49) rfl)))))), rfl⟩
theorem wd_28 : (Jvm.Cond.initialized "jdk/internal/util/ArraysSupport") ∈ zTB := List.mem_filter.mpr ⟨List.mem_append_right _ (List.mem_append_left _ (List.mem_of_getElem? (i := 28) rfl)), rfl⟩
theorem wd_1010 : (Jvm.Cond.code ({ cls := "jdk/internal/util/ArraysSupport", name := "newLength", desc := "(III)I" } : Jvm.MethodName) prog_36_method_27_code (4 : Nat) (Option.some Jvm.ClassFile.FieldType.int)) ∈ zTB := List.mem_filter.mpr ⟨List.mem_append_right _ (List.mem_append_right _ (List.mem_append_right _ (List.mem_append_right _ (List.mem_append_right _ (List.mem_append_left _ (List.mem_of_getElem? (i := 50) rfl)))))), rfl⟩
theorem cs_J5_114 : zCS RJ5 114 yJ8_newLength_cabcc cJ8_newLength_cabcc 4 (some .int) 3 := ⟨⟨by decide, by decide, by decide +kernel⟩, wd_1008, wd_1009, wd_28, wd_1010⟩
theorem dJ5_newCapacity_0f7a4_32 : decode cJ5_newCapacity_0f7a4 32 = .ok (.istore 5, 2) := by decide +kernel
theorem dJ5_newCapacity_0f7a4_34 : decode cJ5_newCapacity_0f7a4 34 = .ok (.iload 5, 2) := by decide +kernel
theorem dJ5_newCapacity_0f7a4_36 : decode cJ5_newCapacity_0f7a4 36 = .ok (.ldc 39, 2) := by decide +kernel
theorem wd_1016 : (Jvm.Cond.constant "java/lang/AbstractStringBuilder" (39 : Nat) (2147483647 : Int32)) ∈ zTB := List.mem_filter.mpr ⟨List.mem_append_right _ (List.mem_append_right _ (List.mem_append_right _ (List.mem_append_right _ (List.mem_append_right _ (List.mem_append_left _ (List.mem_of_getElem? (i := 56) rfl)))))), rfl⟩
theorem dJ5_newCapacity_0f7a4_38 : decode cJ5_newCapacity_0f7a4 38 = .ok (.if_icmp .ne 13, 3) := by decide +kernel
theorem dJ5_newCapacity_0f7a4_51 : decode cJ5_newCapacity_0f7a4 51 = .ok (.iload 5, 2) := by decide +kernel
theorem dJ5_newCapacity_0f7a4_53 : decode cJ5_newCapacity_0f7a4 53 = .ok (.aload_n 0, 1) := by decide +kernel
theorem dJ5_newCapacity_0f7a4_54 : decode cJ5_newCapacity_0f7a4 54 = .ok (.getfield 22, 3) := by decide +kernel
theorem dJ5_newCapacity_0f7a4_57 : decode cJ5_newCapacity_0f7a4 57 = .ok (.ishr, 1) := by decide +kernel
theorem dJ5_newCapacity_0f7a4_58 : decode cJ5_newCapacity_0f7a4 58 = .ok (.ireturn, 1) := by decide +kernel
abbrev rmJ5_newCapacity_0f7a4 : Room := { frames := 2, cells := 0, slots := 0, locals := 63 }
set_option maxHeartbeats 1000000 in
set_option maxRecDepth 100000 in
theorem mJ5_newCapacity {l : Launch} {D : va_G} {cy : Nat → ClassId} {kK kV : Nat → Nat} {b r x : Nat} {n ml : Int32} {g : Nat → Int32} (hx1 : 16 < x) (hx2 : x ≤ 33)  : zMi l yJ5_newCapacity_0f7a4 cJ5_newCapacity_0f7a4 6 (some .int) rmJ5_newCapacity_0f7a4 [.ref b, .int (nI x)] (zPb D cy kK kV (fun _ => False) (zBx cy b n (r, 16, ml, g))) 34 := by
  refine Met.ofW (cc := cJ5_newCapacity_0f7a4) (maxL := 6) (ret := (some .int)) (by decide) rfl ?_
  intro p e s m args below meth c s₁ B hml hv
  obtain ⟨rfl, hP, hK, hE⟩ := hv
  have cx : zX RJ5 cJ5_newCapacity_0f7a4 6 p s m ([.ref b, .int (nI x)]).toArray c D cy := ⟨B.exec, B.bytes, hml, findClass_of_methodNamed B.named, fun w hw => atoms_spec (ws := Cond.code yJ5_newCapacity_0f7a4 cJ5_newCapacity_0f7a4 6 (some .int) :: zTB) B.pre w (List.mem_cons_of_mem _ hw), hK⟩
  have hx := cx.1
  have hb := cx.2.1
  have hr := B.returns
  have hlk := B.notSynchronized
  have hl := lv_entry ([.ref b, .int (nI x)]) (n := 6) (Nat.le_of_ble_eq_true rfl)
  rw [lg_entry_eq]
  generalize (lg_sl ([.ref b, .int (nI x)]) ++ List.replicate (6 - (lg_sl ([.ref b, .int (nI x)])).length) Slot.unset).toArray = ls at hl ⊢
  have hl : lv_has ls 6 [(0, .ref b), (1, .int (nI x))] := hl
  refine lv_aload_n (pc := 0) hx hb dJ5_newCapacity_0f7a4_0 rfl (lv_at hl 0 rfl) ?_
  refine zr_gett (pc := 1) cx lk_J5_15 hP 0 (a := b) rfl (v := .ref r) rfl dJ5_newCapacity_0f7a4_1 ?_
  refine va_alen (pc := 4) hx hb cx.2.2.2.2.2.1 hP 1 4 rfl rfl (v := 16) rfl dJ5_newCapacity_0f7a4_4 ?_
  refine lv_istore_n (lv' := [(2, .int 16), (0, .ref b), (1, .int (nI x))]) (pc := 5) hx hb dJ5_newCapacity_0f7a4_5 rfl hl (by decide) rfl (fun ls hl => ?_)
  refine lv_iload_n (pc := 6) hx hb dJ5_newCapacity_0f7a4_6 rfl (lv_at hl 2 rfl) ?_
  refine lv_aload_n (pc := 7) hx hb dJ5_newCapacity_0f7a4_7 rfl (lv_at hl 1 rfl) ?_
  refine zr_gett (pc := 8) cx lk_J5_22 hP 0 (a := b) rfl (v := .int 0) rfl dJ5_newCapacity_0f7a4_8 ?_
  refine lv_ishl (pc := 11) hx hb dJ5_newCapacity_0f7a4_11 ?_
  rw [shl0 (show x < 200 by omega)]
  refine lv_istore_n (lv' := [(3, .int (nI x)), (2, .int 16), (0, .ref b), (1, .int (nI x))]) (pc := 12) hx hb dJ5_newCapacity_0f7a4_12 rfl hl (by decide) rfl (fun ls hl => ?_)
  refine lv_iload_n (pc := 13) hx hb dJ5_newCapacity_0f7a4_13 rfl (lv_at hl 0 rfl) ?_
  refine lv_iload_n (pc := 14) hx hb dJ5_newCapacity_0f7a4_14 rfl (lv_at hl 1 rfl) ?_
  refine lv_isub (pc := 15) hx hb dJ5_newCapacity_0f7a4_15 ?_
  refine lv_istore (lv' := [(4, .int ((nI x) - 16)), (3, .int (nI x)), (2, .int 16), (0, .ref b), (1, .int (nI x))]) (pc := 16) hx hb dJ5_newCapacity_0f7a4_16 hl (by decide) rfl (fun ls hl => ?_)
  refine lv_iload_n (pc := 18) hx hb dJ5_newCapacity_0f7a4_18 rfl (lv_at hl 2 rfl) ?_
  refine lv_iload (pc := 19) hx hb dJ5_newCapacity_0f7a4_19 (lv_at hl 0 rfl) ?_
  refine lv_iload_n (pc := 21) hx hb dJ5_newCapacity_0f7a4_21 rfl (lv_at hl 2 rfl) ?_
  refine lv_iconst (pc := 22) hx hb dJ5_newCapacity_0f7a4_22 zc_2 ?_
  refine lv_aload_n (pc := 23) hx hb dJ5_newCapacity_0f7a4_23 rfl (lv_at hl 3 rfl) ?_
  refine zr_gett (pc := 24) cx lk_J5_22 hP 0 (a := b) rfl (v := .int 0) rfl dJ5_newCapacity_0f7a4_24 ?_
  refine lv_ishl (pc := 27) hx hb dJ5_newCapacity_0f7a4_27 ?_
  rw [show (2 : Int32) <<< ((0 : Int32) &&& 31) = 2 by decide]
  refine lv_iadd (pc := 28) hx hb dJ5_newCapacity_0f7a4_28 ?_
  rw [show (16 : Int32) + 2 = 18 by decide]
  refine zr_SI (pc := 29) (As := [.int 16, .int ((nI x) - 16), .int 18]) (rest := []) cx cs_J5_114 (mJ8_newLength (gr_a x hx1 hx2).1) ⟨⟨rfl, rfl⟩, Nat.le_of_ble_eq_true rfl, Nat.le_of_ble_eq_true rfl⟩ ⟨Nat.le_of_ble_eq_true rfl, Nat.le_of_ble_eq_true rfl⟩ (zr_preE cx hE va_S.rf (fun _ h => h.elim)) hl.1 rfl rfl (Nat.le_of_ble_eq_true rfl) dJ5_newCapacity_0f7a4_29 ?_
  refine lv_istore (lv' := [(5, .int 34), (4, .int ((nI x) - 16)), (3, .int (nI x)), (2, .int 16), (0, .ref b), (1, .int (nI x))]) (pc := 32) hx hb dJ5_newCapacity_0f7a4_32 hl (by decide) rfl (fun ls hl => ?_)
  refine lv_iload (pc := 34) hx hb dJ5_newCapacity_0f7a4_34 (lv_at hl 0 rfl) ?_
  refine lv_ldc (pc := 36) hx hb cx.2.2.2.1 (cx.2.2.2.2.1 _ wd_1016) dJ5_newCapacity_0f7a4_36 ?_
  refine lv_icmp_ne (pc := 38) (tgt := 51) hx hb dJ5_newCapacity_0f7a4_38 (by decide) (fun c0 => ?_) (fun c0 => absurd c0 (by decide))
  refine lv_iload (pc := 51) hx hb dJ5_newCapacity_0f7a4_51 (lv_at hl 0 rfl) ?_
  refine lv_aload_n (pc := 53) hx hb dJ5_newCapacity_0f7a4_53 rfl (lv_at hl 4 rfl) ?_
  refine zr_gett (pc := 54) cx lk_J5_22 hP 0 (a := b) rfl (v := .int 0) rfl dJ5_newCapacity_0f7a4_54 ?_
  refine lv_ishr (pc := 57) hx hb dJ5_newCapacity_0f7a4_57 ?_
  exact zr_reN (pc := 58) cx hr hlk (by decide) rfl dJ5_newCapacity_0f7a4_58

theorem cpy16 {g : Nat → Int32} {j : Nat} (h : j < 16) : va_cpy g (fun _ => 0) 0 0 16 j = g j := by
  unfold va_cpy
  rw [if_pos ⟨Nat.zero_le _, by omega⟩, Nat.zero_add, Nat.sub_zero]
theorem fit16 {g : Nat → Int32} (h : ∀ j, fits .byte (.int (g j)) = true) : ∀ j, fits .byte (.int (va_cpy g (fun _ => 0) 0 0 16 j)) = true := by
  intro j
  unfold va_cpy
  split
  · exact h _
  · rfl
theorem dJ7_copyOf_9075b_0 : decode cJ7_copyOf_9075b 0 = .ok (.iload_n 1, 1) := by decide +kernel
theorem dJ7_copyOf_9075b_1 : decode cJ7_copyOf_9075b 1 = .ok (.aload_n 0, 1) := by decide +kernel
theorem dJ7_copyOf_9075b_2 : decode cJ7_copyOf_9075b 2 = .ok (.arraylength, 1) := by decide +kernel
theorem dJ7_copyOf_9075b_3 : decode cJ7_copyOf_9075b 3 = .ok (.if_icmp .ne 11, 3) := by decide +kernel
theorem dJ7_copyOf_9075b_14 : decode cJ7_copyOf_9075b 14 = .ok (.iload_n 1, 1) := by decide +kernel
theorem dJ7_copyOf_9075b_15 : decode cJ7_copyOf_9075b 15 = .ok (.newarray .byte, 2) := by decide +kernel
theorem dJ7_copyOf_9075b_17 : decode cJ7_copyOf_9075b 17 = .ok (.astore_n 2, 1) := by decide +kernel
theorem dJ7_copyOf_9075b_18 : decode cJ7_copyOf_9075b 18 = .ok (.aload_n 0, 1) := by decide +kernel
theorem dJ7_copyOf_9075b_19 : decode cJ7_copyOf_9075b 19 = .ok (.iconst 0, 1) := by decide +kernel
theorem dJ7_copyOf_9075b_20 : decode cJ7_copyOf_9075b 20 = .ok (.aload_n 2, 1) := by decide +kernel
theorem dJ7_copyOf_9075b_21 : decode cJ7_copyOf_9075b 21 = .ok (.iconst 0, 1) := by decide +kernel
theorem dJ7_copyOf_9075b_22 : decode cJ7_copyOf_9075b 22 = .ok (.aload_n 0, 1) := by decide +kernel
theorem dJ7_copyOf_9075b_23 : decode cJ7_copyOf_9075b 23 = .ok (.arraylength, 1) := by decide +kernel
theorem dJ7_copyOf_9075b_24 : decode cJ7_copyOf_9075b 24 = .ok (.iload_n 1, 1) := by decide +kernel
theorem dJ7_copyOf_9075b_25 : decode cJ7_copyOf_9075b 25 = .ok (.invokestatic 304, 3) := by decide +kernel
theorem wd_1027 : (Jvm.Cond.methodLink "java/util/Arrays" (304 : Nat) ({ cls := "java/lang/Math", name := "min", desc := "(II)I" } : Jvm.MethodName)) ∈ zTB := List.mem_filter.mpr ⟨List.mem_append_right _ (List.mem_append_right _ (List.mem_append_right _ (List.mem_append_right _ (List.mem_append_right _ (List.mem_append_left _ (List.mem_of_getElem? (i := 67) rfl)))))), rfl⟩
theorem dJ7_copyOf_9075b_28 : decode cJ7_copyOf_9075b 28 = .ok (.invokestatic 150, 3) := by decide +kernel
theorem wd_1028 : (Jvm.Cond.methodLink "java/util/Arrays" (150 : Nat) ({ cls := "java/lang/System", name := "arraycopy", desc := "(Ljava/lang/Object;ILjava/lang/Object;II)V" } : Jvm.MethodName)) ∈ zTB := List.mem_filter.mpr ⟨List.mem_append_right _ (List.mem_append_right _ (List.mem_append_right _ (List.mem_append_right _ (List.mem_append_right _ (List.mem_append_left _ (List.mem_of_getElem? (i := 68) rfl)))))), rfl⟩
theorem dJ7_copyOf_9075b_31 : decode cJ7_copyOf_9075b 31 = .ok (.aload_n 2, 1) := by decide +kernel
theorem dJ7_copyOf_9075b_32 : decode cJ7_copyOf_9075b 32 = .ok (.areturn, 1) := by decide +kernel
abbrev rmJ7_copyOf_9075b : Room := { frames := 1, cells := 1, slots := 34, locals := 60 }
set_option maxHeartbeats 1000000 in
set_option maxRecDepth 100000 in
theorem mJ7_copyOf {l : Launch} {D : va_G} {cy : Nat → ClassId} {kK kV : Nat → Nat} {A : Nat → Prop} {b r : Nat} {n ml : Int32} {g : Nat → Int32} (hf : ∀ j, fits .byte (.int (g j)) = true) (hD : va_D A (zBx cy b n (r, 16, ml, g)))  : Met l yJ7_copyOf_9075b (Cond.code yJ7_copyOf_9075b cJ7_copyOf_9075b 3 (some (.array .byte)) :: zTB) rmJ7_copyOf_9075b (va_Pc [.ref r, .int 34] (zPf D cy kK kV A (zBx cy b n (r, 16, ml, g)))) (va_Qr (fun (g2 : Nat → Int32) => (∀ j, j < 16 → g2 j = g j) ∧ ∀ j, fits .byte (.int (g2 j)) = true) (fun g2 r2 t => va_P D vwCl [(b, .inr (0, [.ref r, .int 0, .int ml, .int n])), (r, .inl (cy 4, 16, .inl g)), (r2, .inl (cy 4, 34, .inl g2))] t.heap ∧ va_D A [(b, .inr (0, [.ref r, .int 0, .int ml, .int n])), (r, .inl (cy 4, 16, .inl g)), (r2, .inl (cy 4, 34, .inl g2))]) A) 1 34 A := by
  refine Met.ofW (cc := cJ7_copyOf_9075b) (maxL := 3) (ret := (some (.array .byte))) (by decide) rfl ?_
  intro p e s m args below meth c s₁ B hml hv
  obtain ⟨rfl, hA, hP, hK, hE⟩ := hv
  have cx : zX RJ7 cJ7_copyOf_9075b 3 p s m ([.ref r, .int 34]).toArray c D cy := ⟨B.exec, B.bytes, hml, findClass_of_methodNamed B.named, fun w hw => atoms_spec (ws := Cond.code yJ7_copyOf_9075b cJ7_copyOf_9075b 3 (some (.array .byte)) :: zTB) B.pre w (List.mem_cons_of_mem _ hw), hK⟩
  have hx := cx.1
  have hb := cx.2.1
  have hr := B.returns
  have hlk := B.notSynchronized
  have hS : va_S A s.heap s.heap [] := va_S.rf
  have hl := lv_entry ([.ref r, .int 34]) (n := 3) (Nat.le_of_ble_eq_true rfl)
  rw [lg_entry_eq]
  generalize (lg_sl ([.ref r, .int 34]) ++ List.replicate (3 - (lg_sl ([.ref r, .int 34])).length) Slot.unset).toArray = ls at hl ⊢
  have hl : lv_has ls 3 [(0, .ref r), (1, .int 34)] := hl
  refine lv_iload_n (pc := 0) hx hb dJ7_copyOf_9075b_0 rfl (lv_at hl 1 rfl) ?_
  refine lv_aload_n (pc := 1) hx hb dJ7_copyOf_9075b_1 rfl (lv_at hl 0 rfl) ?_
  refine va_alen (pc := 2) hx hb cx.2.2.2.2.2.1 hP 1 4 rfl rfl (v := 16) rfl dJ7_copyOf_9075b_2 ?_
  refine lv_icmp_ne (pc := 3) (tgt := 14) hx hb dJ7_copyOf_9075b_3 (by decide) (fun c0 => ?_) (fun c0 => absurd c0 (by decide))
  refine lv_iload_n (pc := 14) hx hb dJ7_copyOf_9075b_14 rfl (lv_at hl 1 rfl) ?_
  refine zr_newa (pc := 15) cx (atype := .byte) (t := 4) (ty := .byte) rfl rfl (fun _ _ => rfl) wd_140 hP hD hS hA (n := 34) (N' := 34) (a0 := (34, .inl (fun _ => 0))) (fun _ => rfl) (by decide) (by decide) (by decide) (Nat.le_of_ble_eq_true rfl) (Nat.le_of_ble_eq_true rfl) dJ7_copyOf_9075b_15 (fun r2 H hP hD hS => ?_)
  have hP : va_P D vwCl [(b, .inr (0, [.ref r, .int 0, .int ml, .int n])), (r, .inl (cy 4, 16, .inl g)), (r2, .inl (cy 4, 34, .inl (fun _ => 0)))] H := hP
  have hD : va_D A [(b, .inr (0, [.ref r, .int 0, .int ml, .int n])), (r, .inl (cy 4, 16, .inl g)), (r2, .inl (cy 4, 34, .inl (fun _ => 0)))] := hD
  refine lv_astore_n (lv' := [(2, .ref r2), (0, .ref r), (1, .int 34)]) (pc := 17) hx hb dJ7_copyOf_9075b_17 rfl hl (by decide) rfl (fun ls hl => ?_)
  refine lv_aload_n (pc := 18) hx hb dJ7_copyOf_9075b_18 rfl (lv_at hl 1 rfl) ?_
  refine lv_iconst (pc := 19) hx hb dJ7_copyOf_9075b_19 zc_0 ?_
  refine lv_aload_n (pc := 20) hx hb dJ7_copyOf_9075b_20 rfl (lv_at hl 0 rfl) ?_
  refine lv_iconst (pc := 21) hx hb dJ7_copyOf_9075b_21 zc_0 ?_
  refine lv_aload_n (pc := 22) hx hb dJ7_copyOf_9075b_22 rfl (lv_at hl 1 rfl) ?_
  refine va_alen (pc := 23) hx hb cx.2.2.2.2.2.1 hP 1 4 rfl rfl (v := 16) rfl dJ7_copyOf_9075b_23 ?_
  refine lv_iload_n (pc := 24) hx hb dJ7_copyOf_9075b_24 rfl (lv_at hl 2 rfl) ?_
  refine va_mmin (pc := 25) hx hb (by rw [hml]; exact hl.1.symm) cx.2.2.2.1 (cx.2.2.2.2.1 _ wd_1027) (cx.2.2.2.2.1 _ wd_589) (cx.2.2.2.2.1 _ wd_20) (cx.2.2.2.2.1 _ wd_590) (Nat.le_of_ble_eq_true rfl) (Nat.le_of_ble_eq_true rfl) (Nat.le_of_ble_eq_true rfl) (Nat.le_of_ble_eq_true rfl) dJ7_copyOf_9075b_25 ?_
  rw [if_neg (show ¬ (34 : Int32) < 16 by decide)]
  refine va_copyi (pc := 28) hx hb (by rw [hml]; exact hl.1.symm) cx.2.2.2.1 (cx.2.2.2.2.1 _ wd_1028) (cx.2.2.2.2.1 _ wd_678) (cx.2.2.2.2.1 _ wd_677) (cx.2.2.2.2.1 _ wd_21) cx.2.2.2.2.2.1 hP hD hS 1 2 4 4 rfl rfl rfl rfl rfl (by decide) (by decide) (by decide) (Nat.le_of_ble_eq_true rfl) (Nat.le_of_ble_eq_true rfl) (fun j _ => by show fits .byte (.int (g (0 + j))) = true; exact hf _) (Nat.le_of_ble_eq_true rfl) (Nat.le_of_ble_eq_true rfl) dJ7_copyOf_9075b_28 (fun H locs hP hD hS => ?_)
  have hP : va_P D vwCl [(b, .inr (0, [.ref r, .int 0, .int ml, .int n])), (r, .inl (cy 4, 16, .inl g)), (r2, .inl (cy 4, 34, .inl (va_cpy g (fun _ => 0) 0 0 16)))] H := hP
  have hD : va_D A [(b, .inr (0, [.ref r, .int 0, .int ml, .int n])), (r, .inl (cy 4, 16, .inl g)), (r2, .inl (cy 4, 34, .inl (va_cpy g (fun _ => 0) 0 0 16)))] := hD
  refine lv_aload_n (pc := 31) hx hb dJ7_copyOf_9075b_31 rfl (lv_at hl 0 rfl) ?_
  exact W.aret (pc := 32) hx hb hr (Or.inr ⟨_, rfl⟩) (Or.inr ⟨_, rfl⟩) (fun t ht hW => ⟨⟨(va_cpy g (fun _ => 0) 0 0 16), r2, rfl, ⟨fun j hj => cpy16 hj, fit16 hf⟩, (show va_P D vwCl _ t.heap from by rw [ht]; exact hP), hD⟩, hS.F ht⟩) hS.2.2 dJ7_copyOf_9075b_32

theorem dJ5_ensureCapacityInternal_d00df_17 : decode cJ5_ensureCapacityInternal_d00df 17 = .ok (.aload_n 0, 1) := by decide +kernel
theorem dJ5_ensureCapacityInternal_d00df_18 : decode cJ5_ensureCapacityInternal_d00df 18 = .ok (.aload_n 0, 1) := by decide +kernel
theorem dJ5_ensureCapacityInternal_d00df_19 : decode cJ5_ensureCapacityInternal_d00df 19 = .ok (.getfield 15, 3) := by decide +kernel
theorem dJ5_ensureCapacityInternal_d00df_22 : decode cJ5_ensureCapacityInternal_d00df 22 = .ok (.aload_n 0, 1) := by decide +kernel
theorem dJ5_ensureCapacityInternal_d00df_23 : decode cJ5_ensureCapacityInternal_d00df 23 = .ok (.iload_n 1, 1) := by decide +kernel
theorem dJ5_ensureCapacityInternal_d00df_24 : decode cJ5_ensureCapacityInternal_d00df 24 = .ok (.invokevirtual 104, 3) := by decide +kernel
theorem wd_1004 : (Jvm.Cond.methodLink "java/lang/AbstractStringBuilder" (104 : Nat) ({ cls := "java/lang/AbstractStringBuilder", name := "newCapacity", desc := "(I)I" } : Jvm.MethodName)) ∈ zTB := List.mem_filter.mpr ⟨List.mem_append_right _ (List.mem_append_right _ (List.mem_append_right _ (List.mem_append_right _ (List.mem_append_right _ (List.mem_append_left _ (List.mem_of_getElem? (i := 44) rfl)))))), rfl⟩
theorem wd_1006 : (Jvm.Cond.instanceMethod ({ cls := "java/lang/AbstractStringBuilder", name := "newCapacity", desc := "(I)I" } : Jvm.MethodName)) ∈ zTB := List.mem_filter.mpr ⟨List.mem_append_right _ (List.mem_append_right _ (List.mem_append_right _ (List.mem_append_right _ (List.mem_append_right _ (List.mem_append_left _ (List.mem_of_getElem? (i := 46) rfl)))))), rfl⟩
theorem wd_1007 : (Jvm.Cond.code ({ cls := "java/lang/AbstractStringBuilder", name := "newCapacity", desc := "(I)I" } : Jvm.MethodName) prog_16_method_10_code (6 : Nat) (Option.some Jvm.ClassFile.FieldType.int)) ∈ zTB := List.mem_filter.mpr ⟨List.mem_append_right _ (List.mem_append_right _ (List.mem_append_right _ (List.mem_append_right _ (List.mem_append_right _ (List.mem_append_left _ (List.mem_of_getElem? (i := 47) rfl)))))), rfl⟩
theorem cb_J5_104 : zCB RJ5 104 yJ5_newCapacity_0f7a4 cJ5_newCapacity_0f7a4 6 (some .int) 1 := ⟨⟨by decide, by decide, by decide +kernel⟩, wd_1004, wd_1006, Or.inr (by decide), wd_17, wd_1007⟩
theorem dJ5_ensureCapacityInternal_d00df_27 : decode cJ5_ensureCapacityInternal_d00df 27 = .ok (.aload_n 0, 1) := by decide +kernel
theorem dJ5_ensureCapacityInternal_d00df_28 : decode cJ5_ensureCapacityInternal_d00df 28 = .ok (.getfield 22, 3) := by decide +kernel
theorem dJ5_ensureCapacityInternal_d00df_31 : decode cJ5_ensureCapacityInternal_d00df 31 = .ok (.ishl, 1) := by decide +kernel
theorem dJ5_ensureCapacityInternal_d00df_32 : decode cJ5_ensureCapacityInternal_d00df 32 = .ok (.invokestatic 108, 3) := by decide +kernel
theorem wd_1017 : (Jvm.Cond.methodLink "java/lang/AbstractStringBuilder" (108 : Nat) ({ cls := "java/util/Arrays", name := "copyOf", desc := "([BI)[B" } : Jvm.MethodName)) ∈ zTB := List.mem_filter.mpr ⟨List.mem_append_right _ (List.mem_append_right _ (List.mem_append_right _ (List.mem_append_right _ (List.mem_append_right _ (List.mem_append_left _ (List.mem_of_getElem? (i := 57) rfl)))))), rfl⟩
theorem wd_1018 : (Jvm.Cond.static ({ cls := "java/util/Arrays", name := "copyOf", desc := "([BI)[B" } : Jvm.MethodName)) ∈ zTB := List.mem_filter.mpr ⟨List.mem_append_right _ (List.mem_append_right _ (List.mem_append_right _ (List.mem_append_right _ (List.mem_append_right _ (List.mem_append_left _ (List.mem_of_getElem? (i := 58) rfl)))))), rfl⟩
theorem wd_29 : (Jvm.Cond.initialized "java/util/Arrays") ∈ zTB := List.mem_filter.mpr ⟨List.mem_append_right _ (List.mem_append_left _ (List.mem_of_getElem? (i := 29) rfl)), rfl⟩
theorem wd_1019 : (Jvm.Cond.code ({ cls := "java/util/Arrays", name := "copyOf", desc := "([BI)[B" } : Jvm.MethodName) prog_34_method_121_code (3 : Nat) (Option.some (Jvm.ClassFile.FieldType.array Jvm.ClassFile.FieldType.byte))) ∈ zTB := List.mem_filter.mpr ⟨List.mem_append_right _ (List.mem_append_right _ (List.mem_append_right _ (List.mem_append_right _ (List.mem_append_right _ (List.mem_append_left _ (List.mem_of_getElem? (i := 59) rfl)))))), rfl⟩
theorem cs_J5_108 : zCS RJ5 108 yJ7_copyOf_9075b cJ7_copyOf_9075b 3 (some (.array .byte)) 2 := ⟨⟨by decide, by decide, by decide +kernel⟩, wd_1017, wd_1018, wd_29, wd_1019⟩
theorem dJ5_ensureCapacityInternal_d00df_35 : decode cJ5_ensureCapacityInternal_d00df 35 = .ok (.putfield 15, 3) := by decide +kernel
abbrev rmEnsG : Room := { frames := 3, cells := 1, slots := 34, locals := 88 }
theorem zr_cwSg {own : String} {index : Nat} {y : MethodName} {bytes cc : ByteArray} {maxL nL n mc ms : Nat} {ret : Option FieldType} {R rm : Room} {p : Program} {s : State} {m : MethodId} {args : Array Value} {c : Code} {D : va_G} {cy : Nat → ClassId} (cx : zX own cc nL p s m args c D cy) (cv : zCS own index y bytes maxL ret n) (h1 : rm.cells = mc) (h2 : rm.slots = ms) (hR : rm.frames + 1 ≤ R.frames ∧ 8 + (maxL + 11) + rm.locals ≤ R.locals) : CallB R s args own index y bytes maxL ret (Cond.code y bytes maxL ret :: zTB) rm mc ms n ∧ (Cond.static y).before args s = true := by
  obtain ⟨hx, hb, -, hown, hts, hK, hKn⟩ := cx
  obtain ⟨h3, w1, w2, w4, w5⟩ := cv
  exact ⟨callB_of n hts (zGoodC w5) rfl h1 h2 (hts _ w4) (hts _ w1) h3 hR, hts _ w2⟩
set_option maxHeartbeats 1000000 in
set_option maxRecDepth 100000 in
theorem mJ5_ensureG {l : Launch} {D : va_G} {cy : Nat → ClassId} {kK kV : Nat → Nat} {A : Nat → Prop} {b r x : Nat} {n ml : Int32} {g : Nat → Int32} (hx1 : 16 < x) (hx2 : x ≤ 33) (hf : ∀ j, fits .byte (.int (g j)) = true) (hD : va_D A (zBx cy b n (r, 16, ml, g)))  : Met l yJ5_ensureCapacityInternal_d00df (Cond.code yJ5_ensureCapacityInternal_d00df cJ5_ensureCapacityInternal_d00df 3 none :: zTB) rmEnsG (va_Pc [.ref b, .int (nI x)] (zPf D cy kK kV A (zBx cy b n (r, 16, ml, g)))) (va_Qv (fun (u2 : zU) => u2.2.1 = 34 ∧ u2.2.2.1 = ml ∧ (∀ j, j < 16 → u2.2.2.2 j = g j) ∧ ∀ j, fits .byte (.int (u2.2.2.2 j)) = true) (fun u2 t => va_P D vwCl (zBx cy b n u2) t.heap ∧ va_D A (zBx cy b n u2)) A) 1 34 A := by
  refine Met.ofW (cc := cJ5_ensureCapacityInternal_d00df) (maxL := 3) (ret := none) (by decide) rfl ?_
  intro p e s m args below meth c s₁ B hml hv
  obtain ⟨rfl, hA, hP, hK, hE⟩ := hv
  have cx : zX RJ5 cJ5_ensureCapacityInternal_d00df 3 p s m ([.ref b, .int (nI x)]).toArray c D cy := ⟨B.exec, B.bytes, hml, findClass_of_methodNamed B.named, fun w hw => atoms_spec (ws := Cond.code yJ5_ensureCapacityInternal_d00df cJ5_ensureCapacityInternal_d00df 3 none :: zTB) B.pre w (List.mem_cons_of_mem _ hw), hK⟩
  have hx := cx.1
  have hb := cx.2.1
  have hr := B.returns
  have hlk := B.notSynchronized
  have hS : va_S A s.heap s.heap [] := va_S.rf
  have hl := lv_entry ([.ref b, .int (nI x)]) (n := 3) (Nat.le_of_ble_eq_true rfl)
  rw [lg_entry_eq]
  generalize (lg_sl ([.ref b, .int (nI x)]) ++ List.replicate (3 - (lg_sl ([.ref b, .int (nI x)])).length) Slot.unset).toArray = ls at hl ⊢
  have hl : lv_has ls 3 [(0, .ref b), (1, .int (nI x))] := hl
  refine lv_aload_n (pc := 0) hx hb dJ5_ensureCapacityInternal_d00df_0 rfl (lv_at hl 0 rfl) ?_
  refine zr_gett (pc := 1) cx lk_J5_15 hP 0 (a := b) rfl (v := .ref r) rfl dJ5_ensureCapacityInternal_d00df_1 ?_
  refine va_alen (pc := 4) hx hb cx.2.2.2.2.2.1 hP 1 4 rfl rfl (v := 16) rfl dJ5_ensureCapacityInternal_d00df_4 ?_
  refine lv_aload_n (pc := 5) hx hb dJ5_ensureCapacityInternal_d00df_5 rfl (lv_at hl 0 rfl) ?_
  refine zr_gett (pc := 6) cx lk_J5_22 hP 0 (a := b) rfl (v := .int 0) rfl dJ5_ensureCapacityInternal_d00df_6 ?_
  refine lv_ishr (pc := 9) hx hb dJ5_ensureCapacityInternal_d00df_9 ?_
  rw [show (16 : Int32) >>> ((0 : Int32) &&& 31) = 16 by decide]
  refine lv_istore_n (lv' := [(2, .int 16), (0, .ref b), (1, .int (nI x))]) (pc := 10) hx hb dJ5_ensureCapacityInternal_d00df_10 rfl hl (by decide) rfl (fun ls hl => ?_)
  refine lv_iload_n (pc := 11) hx hb dJ5_ensureCapacityInternal_d00df_11 rfl (lv_at hl 2 rfl) ?_
  refine lv_iload_n (pc := 12) hx hb dJ5_ensureCapacityInternal_d00df_12 rfl (lv_at hl 0 rfl) ?_
  refine lv_isub (pc := 13) hx hb dJ5_ensureCapacityInternal_d00df_13 ?_
  refine lv_if_le (pc := 14) (tgt := 38) hx hb dJ5_ensureCapacityInternal_d00df_14 (by decide) (fun c0 => absurd c0 (gr_a x hx1 hx2).2.1) (fun c0 => ?_)
  refine lv_aload_n (pc := 17) hx hb dJ5_ensureCapacityInternal_d00df_17 rfl (lv_at hl 1 rfl) ?_
  refine lv_aload_n (pc := 18) hx hb dJ5_ensureCapacityInternal_d00df_18 rfl (lv_at hl 1 rfl) ?_
  refine zr_gett (pc := 19) cx lk_J5_15 hP 0 (a := b) rfl (v := .ref r) rfl dJ5_ensureCapacityInternal_d00df_19 ?_
  refine lv_aload_n (pc := 22) hx hb dJ5_ensureCapacityInternal_d00df_22 rfl (lv_at hl 1 rfl) ?_
  refine lv_iload_n (pc := 23) hx hb dJ5_ensureCapacityInternal_d00df_23 rfl (lv_at hl 2 rfl) ?_
  refine zr_bI (pc := 24) (As := [.int (nI x)]) (rest := [.ref r, .ref b]) cx hE.2.2.2.2.2.2.2 cb_J5_104 (mJ5_newCapacity hx1 hx2) ⟨⟨rfl, rfl⟩, Nat.le_of_ble_eq_true rfl, Nat.le_of_ble_eq_true rfl⟩ ⟨Nat.le_of_ble_eq_true rfl, Nat.le_of_ble_eq_true rfl⟩ (zr_preB cx zPb_bl (zr_pb cx hE hS (fun _ h => h.elim) hP) hP rfl) hl.1 rfl rfl (Nat.le_of_ble_eq_true rfl) dJ5_ensureCapacityInternal_d00df_24 ?_
  refine lv_aload_n (pc := 27) hx hb dJ5_ensureCapacityInternal_d00df_27 rfl (lv_at hl 1 rfl) ?_
  refine zr_gett (pc := 28) cx lk_J5_22 hP 0 (a := b) rfl (v := .int 0) rfl dJ5_ensureCapacityInternal_d00df_28 ?_
  refine lv_ishl (pc := 31) hx hb dJ5_ensureCapacityInternal_d00df_31 ?_
  rw [show (34 : Int32) <<< ((0 : Int32) &&& 31) = 34 by decide]
  refine va_callr (va_runS (As := [.ref r, .int 34]) (rest := [.ref b]) (zr_fix cx) (mJ7_copyOf hf hD) (zr_cwSg cx cs_J5_108 rfl rfl ⟨Nat.le_of_ble_eq_true rfl, Nat.le_of_ble_eq_true rfl⟩) (zr_preS zPf_bl (zr_pf cx hE hS (fun _ h => h) hA hP)) rfl rfl hl.1 rfl (lv_room (Nat.le_of_ble_eq_true rfl)) dJ5_ensureCapacityInternal_d00df_32 ⟨Nat.le_of_ble_eq_true rfl, Nat.le_of_ble_eq_true rfl⟩) hS (fun q _ h => h) (fun _ h => h) (fun g2 r2 t H locs ht _ hg2 hb2 hz hk2 hS => ?_)
  obtain ⟨hP, hD⟩ := hb2
  subst ht
  refine zr_put (pc := 35) cx lq_J5_15 hP hD hS 0 (a := b) rfl (v := .ref r2) rfl rfl (Nat.le_of_ble_eq_true rfl) dJ5_ensureCapacityInternal_d00df_35 (fun H locs hP hD hS => ?_)
  have hP : va_P D vwCl [(b, .inr (0, [.ref r2, .int 0, .int ml, .int n])), (r, .inl (cy 4, 16, .inl g)), (r2, .inl (cy 4, 34, .inl g2))] H := hP
  have hD : va_D A [(b, .inr (0, [.ref r2, .int 0, .int ml, .int n])), (r, .inl (cy 4, 16, .inl g)), (r2, .inl (cy 4, 34, .inl g2))] := hD
  have hP := hP.sub (ws' := zBx cy b n (r2, 34, ml, g2)) [0, 2] rfl
  have hD := hD.sub (ws' := zBx cy b n (r2, 34, ml, g2)) [0, 2] (by decide) rfl
  exact W.vret (pc := 38) hx hb hr (fun t ht hW => ⟨⟨(r2, 34, ml, g2), rfl, ⟨rfl, rfl, hg2⟩, (show va_P D vwCl _ t.heap from by rw [ht]; exact hP), hD⟩, hS.F ht⟩) hS.2.2 dJ5_ensureCapacityInternal_d00df_38

