/-! constructors, printed by wip/gen/ctor2.py -/
theorem dX7_init_4 : decode cX7_init 4 = .ok (.aload_n 0, 1) := by decide +kernel
theorem dX7_init_5 : decode cX7_init 5 = .ok (.bipush 8, 2) := by decide +kernel
theorem dX7_init_7 : decode cX7_init 7 = .ok (.anewarray 9, 3) := by decide +kernel
theorem wd_279 : (Jvm.Cond.classLink "ParlourLeaves$Past" (9 : Nat) "ParlourLeaves$Life") ∈ zTB := List.mem_filter.mpr ⟨List.mem_append_right _ (List.mem_append_right _ (List.mem_append_left _ (List.mem_of_getElem? (i := 39) rfl))), rfl⟩
theorem dX7_init_10 : decode cX7_init 10 = .ok (.putfield 11, 3) := by decide +kernel
theorem lf_X7_11 : zLqF RX7 11 8 0 (.array (.object "ParlourLeaves$Life")) := ⟨"ParlourLeaves$Past", RX7, TX7, 3, tyX7, rfl, by decide, wsin_X7, wd_282, rfl, rfl, rfl, by decide +kernel, tyX7_ok, nmX7⟩
theorem dX7_init_13 : decode cX7_init 13 = .ok (.iconst 0, 1) := by decide +kernel
theorem dX7_init_14 : decode cX7_init 14 = .ok (.istore_n 2, 1) := by decide +kernel
theorem dX7_init_15 : decode cX7_init 15 = .ok (.iload_n 2, 1) := by decide +kernel
theorem dX7_init_16 : decode cX7_init 16 = .ok (.bipush 8, 2) := by decide +kernel
theorem dX7_init_18 : decode cX7_init 18 = .ok (.if_icmp .ge 23, 3) := by decide +kernel
theorem dX7_init_21 : decode cX7_init 21 = .ok (.aload_n 0, 1) := by decide +kernel
theorem dX7_init_22 : decode cX7_init 22 = .ok (.getfield 11, 3) := by decide +kernel
theorem dX7_init_25 : decode cX7_init 25 = .ok (.iload_n 2, 1) := by decide +kernel
theorem dX7_init_26 : decode cX7_init 26 = .ok (.new 9, 3) := by decide +kernel
theorem nw_X7_9 : zNw RX7 "ParlourLeaves$Life" 9 7 [.null, .int 0, .int 0, .null, .null, .null, .null, .null, .null, .null, .null] := ⟨TX6, 11, tyX6, rfl, rfl, wsin_X6, tyX6_ok, by decide +kernel, wd_279, wd_214, wd_8⟩
theorem dX7_init_29 : decode cX7_init 29 = .ok (.dup, 1) := by decide +kernel
theorem dX7_init_30 : decode cX7_init 30 = .ok (.aload_n 1, 1) := by decide +kernel
theorem dX7_init_31 : decode cX7_init 31 = .ok (.invokespecial 17, 3) := by decide +kernel
theorem wd_281 : (Jvm.Cond.methodLink "ParlourLeaves$Past" (17 : Nat) ({ cls := "ParlourLeaves$Life", name := "<init>", desc := "(LParlourLeaves$House;)V" } : Jvm.MethodName)) ∈ zTB := List.mem_filter.mpr ⟨List.mem_append_right _ (List.mem_append_right _ (List.mem_append_left _ (List.mem_of_getElem? (i := 41) rfl))), rfl⟩
theorem ci_X7_17 : zCI RX7 17 yX6_init cX6_init 2 1 := ⟨⟨by decide, by decide, by decide +kernel⟩, rfl, wd_281, wd_216, wd_8, wd_217⟩
theorem dX7_init_34 : decode cX7_init 34 = .ok (.aastore, 1) := by decide +kernel
theorem zi_0_8 : zIx 0 8 = true := by decide
theorem dX7_init_35 : decode cX7_init 35 = .ok (.iinc 2 1, 3) := by decide +kernel
theorem dX7_init_38 : decode cX7_init 38 = .ok (.goto (-23), 3) := by decide +kernel
theorem zi_1_8 : zIx 1 8 = true := by decide
theorem zi_2_8 : zIx 2 8 = true := by decide
theorem zi_3_8 : zIx 3 8 = true := by decide
theorem zi_4_8 : zIx 4 8 = true := by decide
theorem zi_5_8 : zIx 5 8 = true := by decide
theorem zi_6_8 : zIx 6 8 = true := by decide
theorem zi_7_8 : zIx 7 8 = true := by decide
theorem dX7_init_41 : decode cX7_init 41 = .ok (.return_, 1) := by decide +kernel
def bX7 (cy : Nat → ClassId) (h : Nat) (q : Nat → Nat) : va_W := (q 0, .inr (8, [.ref (q 1), .int 0, .int 0])) :: (q 1, .inl (cy 6, 8, .inr (.inr (.inr (.inr (fun i => [q 2, q 17, q 32, q 47, q 62, q 77, q 92, q 107][i]?)))))) :: (((((((bX6 cy (h) (fun i => q (2 + i)) ++ bX6 cy (h) (fun i => q (17 + i))) ++ bX6 cy (h) (fun i => q (32 + i))) ++ bX6 cy (h) (fun i => q (47 + i))) ++ bX6 cy (h) (fun i => q (62 + i))) ++ bX6 cy (h) (fun i => q (77 + i))) ++ bX6 cy (h) (fun i => q (92 + i))) ++ bX6 cy (h) (fun i => q (107 + i)))
theorem wd_278 : (Jvm.Cond.methodLink "ParlourLeaves$Past" (3 : Nat) ({ cls := "java/lang/Object", name := "<init>", desc := "()V" } : Jvm.MethodName)) ∈ zTB := List.mem_filter.mpr ⟨List.mem_append_right _ (List.mem_append_right _ (List.mem_append_left _ (List.mem_of_getElem? (i := 38) rfl))), rfl⟩
theorem dX7_init_0 : decode cX7_init 0 = .ok (.aload_n 0, 1) := by decide +kernel
theorem dX7_init_1 : decode cX7_init 1 = .ok (.invokespecial 3, 3) := by decide +kernel
set_option maxHeartbeats 1000000 in
set_option maxRecDepth 100000 in
theorem mX7_init {l : Launch} {D : va_G} {cy : Nat → ClassId} {kK kV : Nat → Nat} (h : Nat) (a sz : Nat) : zMc l yX7_init cX7_init 3 { frames := 2, cells := 121, slots := 1248, locals := 80 } [.ref h] D cy kK kV sz a (.inr (8, [.null, .int 0, .int 0])) (bX7 cy h) := by
  refine Met.ofW (cc := cX7_init) (maxL := 3) (ret := none) (by decide) rfl ?_
  intro p e s m args below meth c s₁ B hml hv
  obtain ⟨rfl, hsz, hP, hK, hE⟩ := hv
  have cx : zX RX7 cX7_init 3 p s m ([.ref a, .ref h]).toArray c D cy := ⟨B.exec, B.bytes, hml, findClass_of_methodNamed B.named, fun w hw => atoms_spec (ws := Cond.code yX7_init cX7_init 3 none :: zTB) B.pre w (List.mem_cons_of_mem _ hw), hK⟩
  have hx := cx.1
  have hb := cx.2.1
  have hr := B.returns
  have hlk := B.notSynchronized
  have hin : meth.name = "<init>" := (name_of_methodNamed B.named B.method).1
  subst hsz
  have hD : va_D (va_A [(a, .inr (8, [.null, .int 0, .int 0]))] s.heap.size) [(a, .inr (8, [.null, .int 0, .int 0]))] := z_one (Or.inl ⟨0, _, rfl⟩)
  generalize hAe : va_A [(a, .inr (8, [.null, .int 0, .int 0]))] s.heap.size = A at hD hE ⊢
  have hA : ∀ q, s.heap.size ≤ q → A q := fun q h => by rw [← hAe]; exact Or.inr h
  have hS : va_S A s.heap s.heap [] := va_S.rf
  have hl := lv_entry ([.ref a, .ref h]) (n := 3) (Nat.le_of_ble_eq_true rfl)
  rw [lg_entry_eq]
  generalize (lg_sl ([.ref a, .ref h]) ++ List.replicate (3 - (lg_sl ([.ref a, .ref h])).length) Slot.unset).toArray = ls at hl ⊢
  have hl : lv_has ls 3 [(0, .ref a), (1, .ref h)] := hl
  refine lv_aload_n (pc := 0) hx hb dX7_init_0 rfl (lv_at hl 0 rfl) ?_
  refine W.objInit hx hb cx.2.2.2.1 (cx.2.2.2.2.1 _ wd_278) (cx.2.2.2.2.1 _ wd_36) (cx.2.2.2.2.1 _ wd_37) rfl (by rw [hml]; exact hl.1) rfl dX7_init_1 (Nat.le_of_ble_eq_true rfl) (Nat.le_of_ble_eq_true rfl) ?_
  refine W.eq (g2 := F0 m 4 ls []) rfl ?_
  refine lv_aload_n (pc := 4) hx hb dX7_init_4 rfl (lv_at hl 0 rfl) ?_
  refine lv_bipush (pc := 5) hx hb dX7_init_5 zb_8 ?_
  refine zr_newq (pc := 7) cx (t := 6) rfl hE.1.1 wd_279 hP hD hS hA (n := 8) (N' := 8) (by decide) (by decide) (by decide) (Nat.le_of_ble_eq_true rfl) (Nat.le_of_ble_eq_true rfl) dX7_init_7 (fun r H hP hD hS => ?_)
  have hP : va_P D vwCl ((a, .inr (8, [.null, .int 0, .int 0])) :: (r, .inl (cy 6, 8, .inr (.inr (.inr (.inr (fun _ => none)))))) :: ([] : va_W)) H := hP
  have hD : va_D A ((a, .inr (8, [.null, .int 0, .int 0])) :: (r, .inl (cy 6, 8, .inr (.inr (.inr (.inr (fun _ => none)))))) :: ([] : va_W)) := hD
  refine zr_putF (pc := 10) cx lf_X7_11 hin hP hD hS 0 (a := a) rfl (v := .ref r) rfl rfl (Nat.le_of_ble_eq_true rfl) dX7_init_10 (fun H locs hP hD hS => ?_)
  have hP : va_P D vwCl ((a, .inr (8, [.ref r, .int 0, .int 0])) :: (r, .inl (cy 6, 8, .inr (.inr (.inr (.inr (fun _ => none)))))) :: ([] : va_W)) H := hP
  have hD : va_D A ((a, .inr (8, [.ref r, .int 0, .int 0])) :: (r, .inl (cy 6, 8, .inr (.inr (.inr (.inr (fun _ => none)))))) :: ([] : va_W)) := hD
  refine lv_iconst (pc := 13) hx hb dX7_init_13 zc_0 ?_
  refine lv_istore_n (lv' := [(2, .int 0), (0, .ref a), (1, .ref h)]) (pc := 14) hx hb dX7_init_14 rfl hl (by decide) rfl (fun ls hl => ?_)
  refine lv_iload_n (pc := 15) hx hb dX7_init_15 rfl (lv_at hl 0 rfl) ?_
  refine lv_bipush (pc := 16) hx hb dX7_init_16 zb_8 ?_
  refine lv_icmp_ge (pc := 18) (tgt := 41) hx hb dX7_init_18 (by decide) (fun c1 => absurd c1 (by decide)) (fun _ => ?_)
  refine lv_aload_n (pc := 21) hx hb dX7_init_21 rfl (lv_at hl 1 rfl) ?_
  refine zr_gett (pc := 22) cx lk_X7_11 hP 0 (a := a) rfl (v := .ref r) rfl dX7_init_22 ?_
  refine lv_iload_n (pc := 25) hx hb dX7_init_25 rfl (lv_at hl 0 rfl) ?_
  refine zr_new (pc := 26) cx nw_X7_9 (N := 11) rfl hP hD hS hA (Nat.le_of_ble_eq_true rfl) (Nat.le_of_ble_eq_true rfl) dX7_init_26 (fun b1 H hP hD hS => ?_)
  refine lv_dup (pc := 29) hx hb dX7_init_29 rfl ?_
  refine lv_aload_n (pc := 30) hx hb dX7_init_30 rfl (lv_at hl 2 rfl) ?_
  refine zr_ctI (pc := 31) (As := [.ref h]) (rest := [.ref b1, .int 0, .ref r]) cx ci_X7_17 (mX6_init h b1 H.size) ⟨Nat.le_of_ble_eq_true rfl, Nat.le_of_ble_eq_true rfl⟩ ⟨Nat.le_of_ble_eq_true rfl, Nat.le_of_ble_eq_true rfl⟩ hE hP hD hS hA hl.1 rfl rfl (Nat.le_of_ble_eq_true rfl) dX7_init_31 (fun u1 H locs hu1 hPn hDn hS => ?_)
  subst hu1
  have hP : va_P D vwCl ((a, .inr (8, [.ref r, .int 0, .int 0])) :: (r, .inl (cy 6, 8, .inr (.inr (.inr (.inr (fun _ => none)))))) :: (bX6 cy (h) u1)) H := hPn
  have hD : va_D A ((a, .inr (8, [.ref r, .int 0, .int 0])) :: (r, .inl (cy 6, 8, .inr (.inr (.inr (.inr (fun _ => none)))))) :: (bX6 cy (h) u1)) := hDn
  refine va_astq (pc := 34) hx hb cx.2.2.2.2.2.1 hP hD hS 1 6 2 7 (r := (RX6, TX6, 11)) (v := u1 0) rfl rfl rfl rfl (zIx_in zi_0_8) dX7_init_34 (fun H locs hP hD hS => ?_)
  have hP : va_P D vwCl ((a, .inr (8, [.ref r, .int 0, .int 0])) :: (r, .inl (cy 6, 8, .inr (.inr (.inr (.inr (va_up (fun _ => none) 0 (some (u1 0)))))))) :: (bX6 cy (h) u1)) H := hP
  have hD : va_D A ((a, .inr (8, [.ref r, .int 0, .int 0])) :: (r, .inl (cy 6, 8, .inr (.inr (.inr (.inr (va_up (fun _ => none) 0 (some (u1 0)))))))) :: (bX6 cy (h) u1)) := hD
  refine lv_iinc (v := 1) (lv' := [(2, .int 1), (0, .ref a), (1, .ref h)]) (pc := 35) hx hb dX7_init_35 hl (k := 0) rfl (by decide) (by decide) rfl (fun ls hl => ?_)
  refine lv_goto (pc := 38) (tgt := 15) hx hb dX7_init_38 (by decide) ?_
  refine lv_iload_n (pc := 15) hx hb dX7_init_15 rfl (lv_at hl 0 rfl) ?_
  refine lv_bipush (pc := 16) hx hb dX7_init_16 zb_8 ?_
  refine lv_icmp_ge (pc := 18) (tgt := 41) hx hb dX7_init_18 (by decide) (fun c1 => absurd c1 (by decide)) (fun _ => ?_)
  refine lv_aload_n (pc := 21) hx hb dX7_init_21 rfl (lv_at hl 1 rfl) ?_
  refine zr_gett (pc := 22) cx lk_X7_11 hP 0 (a := a) rfl (v := .ref r) rfl dX7_init_22 ?_
  refine lv_iload_n (pc := 25) hx hb dX7_init_25 rfl (lv_at hl 0 rfl) ?_
  refine zr_new (pc := 26) cx nw_X7_9 (N := 11) rfl hP hD hS hA (Nat.le_of_ble_eq_true rfl) (Nat.le_of_ble_eq_true rfl) dX7_init_26 (fun b2 H hP hD hS => ?_)
  refine lv_dup (pc := 29) hx hb dX7_init_29 rfl ?_
  refine lv_aload_n (pc := 30) hx hb dX7_init_30 rfl (lv_at hl 2 rfl) ?_
  refine zr_ctI (pc := 31) (As := [.ref h]) (rest := [.ref b2, .int 1, .ref r]) cx ci_X7_17 (mX6_init h b2 H.size) ⟨Nat.le_of_ble_eq_true rfl, Nat.le_of_ble_eq_true rfl⟩ ⟨Nat.le_of_ble_eq_true rfl, Nat.le_of_ble_eq_true rfl⟩ hE hP hD hS hA hl.1 rfl rfl (Nat.le_of_ble_eq_true rfl) dX7_init_31 (fun u2 H locs hu2 hPn hDn hS => ?_)
  subst hu2
  have hP : va_P D vwCl ((a, .inr (8, [.ref r, .int 0, .int 0])) :: (r, .inl (cy 6, 8, .inr (.inr (.inr (.inr (va_up (fun _ => none) 0 (some (u1 0)))))))) :: ((bX6 cy (h) u1) ++ bX6 cy (h) u2)) H := hPn
  have hD : va_D A ((a, .inr (8, [.ref r, .int 0, .int 0])) :: (r, .inl (cy 6, 8, .inr (.inr (.inr (.inr (va_up (fun _ => none) 0 (some (u1 0)))))))) :: ((bX6 cy (h) u1) ++ bX6 cy (h) u2)) := hDn
  refine va_astq (pc := 34) hx hb cx.2.2.2.2.2.1 hP hD hS 1 6 17 7 (r := (RX6, TX6, 11)) (v := u2 0) rfl rfl rfl rfl (zIx_in zi_1_8) dX7_init_34 (fun H locs hP hD hS => ?_)
  have hP : va_P D vwCl ((a, .inr (8, [.ref r, .int 0, .int 0])) :: (r, .inl (cy 6, 8, .inr (.inr (.inr (.inr (va_up (va_up (fun _ => none) 0 (some (u1 0))) 1 (some (u2 0)))))))) :: ((bX6 cy (h) u1) ++ bX6 cy (h) u2)) H := hP
  have hD : va_D A ((a, .inr (8, [.ref r, .int 0, .int 0])) :: (r, .inl (cy 6, 8, .inr (.inr (.inr (.inr (va_up (va_up (fun _ => none) 0 (some (u1 0))) 1 (some (u2 0)))))))) :: ((bX6 cy (h) u1) ++ bX6 cy (h) u2)) := hD
  refine lv_iinc (v := 2) (lv' := [(2, .int 2), (0, .ref a), (1, .ref h)]) (pc := 35) hx hb dX7_init_35 hl (k := 0) rfl (by decide) (by decide) rfl (fun ls hl => ?_)
  refine lv_goto (pc := 38) (tgt := 15) hx hb dX7_init_38 (by decide) ?_
  refine lv_iload_n (pc := 15) hx hb dX7_init_15 rfl (lv_at hl 0 rfl) ?_
  refine lv_bipush (pc := 16) hx hb dX7_init_16 zb_8 ?_
  refine lv_icmp_ge (pc := 18) (tgt := 41) hx hb dX7_init_18 (by decide) (fun c1 => absurd c1 (by decide)) (fun _ => ?_)
  refine lv_aload_n (pc := 21) hx hb dX7_init_21 rfl (lv_at hl 1 rfl) ?_
  refine zr_gett (pc := 22) cx lk_X7_11 hP 0 (a := a) rfl (v := .ref r) rfl dX7_init_22 ?_
  refine lv_iload_n (pc := 25) hx hb dX7_init_25 rfl (lv_at hl 0 rfl) ?_
  refine zr_new (pc := 26) cx nw_X7_9 (N := 11) rfl hP hD hS hA (Nat.le_of_ble_eq_true rfl) (Nat.le_of_ble_eq_true rfl) dX7_init_26 (fun b3 H hP hD hS => ?_)
  refine lv_dup (pc := 29) hx hb dX7_init_29 rfl ?_
  refine lv_aload_n (pc := 30) hx hb dX7_init_30 rfl (lv_at hl 2 rfl) ?_
  refine zr_ctI (pc := 31) (As := [.ref h]) (rest := [.ref b3, .int 2, .ref r]) cx ci_X7_17 (mX6_init h b3 H.size) ⟨Nat.le_of_ble_eq_true rfl, Nat.le_of_ble_eq_true rfl⟩ ⟨Nat.le_of_ble_eq_true rfl, Nat.le_of_ble_eq_true rfl⟩ hE hP hD hS hA hl.1 rfl rfl (Nat.le_of_ble_eq_true rfl) dX7_init_31 (fun u3 H locs hu3 hPn hDn hS => ?_)
  subst hu3
  have hP : va_P D vwCl ((a, .inr (8, [.ref r, .int 0, .int 0])) :: (r, .inl (cy 6, 8, .inr (.inr (.inr (.inr (va_up (va_up (fun _ => none) 0 (some (u1 0))) 1 (some (u2 0)))))))) :: (((bX6 cy (h) u1) ++ bX6 cy (h) u2) ++ bX6 cy (h) u3)) H := hPn
  have hD : va_D A ((a, .inr (8, [.ref r, .int 0, .int 0])) :: (r, .inl (cy 6, 8, .inr (.inr (.inr (.inr (va_up (va_up (fun _ => none) 0 (some (u1 0))) 1 (some (u2 0)))))))) :: (((bX6 cy (h) u1) ++ bX6 cy (h) u2) ++ bX6 cy (h) u3)) := hDn
  refine va_astq (pc := 34) hx hb cx.2.2.2.2.2.1 hP hD hS 1 6 32 7 (r := (RX6, TX6, 11)) (v := u3 0) rfl rfl rfl rfl (zIx_in zi_2_8) dX7_init_34 (fun H locs hP hD hS => ?_)
  have hP : va_P D vwCl ((a, .inr (8, [.ref r, .int 0, .int 0])) :: (r, .inl (cy 6, 8, .inr (.inr (.inr (.inr (va_up (va_up (va_up (fun _ => none) 0 (some (u1 0))) 1 (some (u2 0))) 2 (some (u3 0)))))))) :: (((bX6 cy (h) u1) ++ bX6 cy (h) u2) ++ bX6 cy (h) u3)) H := hP
  have hD : va_D A ((a, .inr (8, [.ref r, .int 0, .int 0])) :: (r, .inl (cy 6, 8, .inr (.inr (.inr (.inr (va_up (va_up (va_up (fun _ => none) 0 (some (u1 0))) 1 (some (u2 0))) 2 (some (u3 0)))))))) :: (((bX6 cy (h) u1) ++ bX6 cy (h) u2) ++ bX6 cy (h) u3)) := hD
  refine lv_iinc (v := 3) (lv' := [(2, .int 3), (0, .ref a), (1, .ref h)]) (pc := 35) hx hb dX7_init_35 hl (k := 0) rfl (by decide) (by decide) rfl (fun ls hl => ?_)
  refine lv_goto (pc := 38) (tgt := 15) hx hb dX7_init_38 (by decide) ?_
  refine lv_iload_n (pc := 15) hx hb dX7_init_15 rfl (lv_at hl 0 rfl) ?_
  refine lv_bipush (pc := 16) hx hb dX7_init_16 zb_8 ?_
  refine lv_icmp_ge (pc := 18) (tgt := 41) hx hb dX7_init_18 (by decide) (fun c1 => absurd c1 (by decide)) (fun _ => ?_)
  refine lv_aload_n (pc := 21) hx hb dX7_init_21 rfl (lv_at hl 1 rfl) ?_
  refine zr_gett (pc := 22) cx lk_X7_11 hP 0 (a := a) rfl (v := .ref r) rfl dX7_init_22 ?_
  refine lv_iload_n (pc := 25) hx hb dX7_init_25 rfl (lv_at hl 0 rfl) ?_
  refine zr_new (pc := 26) cx nw_X7_9 (N := 11) rfl hP hD hS hA (Nat.le_of_ble_eq_true rfl) (Nat.le_of_ble_eq_true rfl) dX7_init_26 (fun b4 H hP hD hS => ?_)
  refine lv_dup (pc := 29) hx hb dX7_init_29 rfl ?_
  refine lv_aload_n (pc := 30) hx hb dX7_init_30 rfl (lv_at hl 2 rfl) ?_
  refine zr_ctI (pc := 31) (As := [.ref h]) (rest := [.ref b4, .int 3, .ref r]) cx ci_X7_17 (mX6_init h b4 H.size) ⟨Nat.le_of_ble_eq_true rfl, Nat.le_of_ble_eq_true rfl⟩ ⟨Nat.le_of_ble_eq_true rfl, Nat.le_of_ble_eq_true rfl⟩ hE hP hD hS hA hl.1 rfl rfl (Nat.le_of_ble_eq_true rfl) dX7_init_31 (fun u4 H locs hu4 hPn hDn hS => ?_)
  subst hu4
  have hP : va_P D vwCl ((a, .inr (8, [.ref r, .int 0, .int 0])) :: (r, .inl (cy 6, 8, .inr (.inr (.inr (.inr (va_up (va_up (va_up (fun _ => none) 0 (some (u1 0))) 1 (some (u2 0))) 2 (some (u3 0)))))))) :: ((((bX6 cy (h) u1) ++ bX6 cy (h) u2) ++ bX6 cy (h) u3) ++ bX6 cy (h) u4)) H := hPn
  have hD : va_D A ((a, .inr (8, [.ref r, .int 0, .int 0])) :: (r, .inl (cy 6, 8, .inr (.inr (.inr (.inr (va_up (va_up (va_up (fun _ => none) 0 (some (u1 0))) 1 (some (u2 0))) 2 (some (u3 0)))))))) :: ((((bX6 cy (h) u1) ++ bX6 cy (h) u2) ++ bX6 cy (h) u3) ++ bX6 cy (h) u4)) := hDn
  refine va_astq (pc := 34) hx hb cx.2.2.2.2.2.1 hP hD hS 1 6 47 7 (r := (RX6, TX6, 11)) (v := u4 0) rfl rfl rfl rfl (zIx_in zi_3_8) dX7_init_34 (fun H locs hP hD hS => ?_)
  have hP : va_P D vwCl ((a, .inr (8, [.ref r, .int 0, .int 0])) :: (r, .inl (cy 6, 8, .inr (.inr (.inr (.inr (va_up (va_up (va_up (va_up (fun _ => none) 0 (some (u1 0))) 1 (some (u2 0))) 2 (some (u3 0))) 3 (some (u4 0)))))))) :: ((((bX6 cy (h) u1) ++ bX6 cy (h) u2) ++ bX6 cy (h) u3) ++ bX6 cy (h) u4)) H := hP
  have hD : va_D A ((a, .inr (8, [.ref r, .int 0, .int 0])) :: (r, .inl (cy 6, 8, .inr (.inr (.inr (.inr (va_up (va_up (va_up (va_up (fun _ => none) 0 (some (u1 0))) 1 (some (u2 0))) 2 (some (u3 0))) 3 (some (u4 0)))))))) :: ((((bX6 cy (h) u1) ++ bX6 cy (h) u2) ++ bX6 cy (h) u3) ++ bX6 cy (h) u4)) := hD
  refine lv_iinc (v := 4) (lv' := [(2, .int 4), (0, .ref a), (1, .ref h)]) (pc := 35) hx hb dX7_init_35 hl (k := 0) rfl (by decide) (by decide) rfl (fun ls hl => ?_)
  refine lv_goto (pc := 38) (tgt := 15) hx hb dX7_init_38 (by decide) ?_
  refine lv_iload_n (pc := 15) hx hb dX7_init_15 rfl (lv_at hl 0 rfl) ?_
  refine lv_bipush (pc := 16) hx hb dX7_init_16 zb_8 ?_
  refine lv_icmp_ge (pc := 18) (tgt := 41) hx hb dX7_init_18 (by decide) (fun c1 => absurd c1 (by decide)) (fun _ => ?_)
  refine lv_aload_n (pc := 21) hx hb dX7_init_21 rfl (lv_at hl 1 rfl) ?_
  refine zr_gett (pc := 22) cx lk_X7_11 hP 0 (a := a) rfl (v := .ref r) rfl dX7_init_22 ?_
  refine lv_iload_n (pc := 25) hx hb dX7_init_25 rfl (lv_at hl 0 rfl) ?_
  refine zr_new (pc := 26) cx nw_X7_9 (N := 11) rfl hP hD hS hA (Nat.le_of_ble_eq_true rfl) (Nat.le_of_ble_eq_true rfl) dX7_init_26 (fun b5 H hP hD hS => ?_)
  refine lv_dup (pc := 29) hx hb dX7_init_29 rfl ?_
  refine lv_aload_n (pc := 30) hx hb dX7_init_30 rfl (lv_at hl 2 rfl) ?_
  refine zr_ctI (pc := 31) (As := [.ref h]) (rest := [.ref b5, .int 4, .ref r]) cx ci_X7_17 (mX6_init h b5 H.size) ⟨Nat.le_of_ble_eq_true rfl, Nat.le_of_ble_eq_true rfl⟩ ⟨Nat.le_of_ble_eq_true rfl, Nat.le_of_ble_eq_true rfl⟩ hE hP hD hS hA hl.1 rfl rfl (Nat.le_of_ble_eq_true rfl) dX7_init_31 (fun u5 H locs hu5 hPn hDn hS => ?_)
  subst hu5
  have hP : va_P D vwCl ((a, .inr (8, [.ref r, .int 0, .int 0])) :: (r, .inl (cy 6, 8, .inr (.inr (.inr (.inr (va_up (va_up (va_up (va_up (fun _ => none) 0 (some (u1 0))) 1 (some (u2 0))) 2 (some (u3 0))) 3 (some (u4 0)))))))) :: (((((bX6 cy (h) u1) ++ bX6 cy (h) u2) ++ bX6 cy (h) u3) ++ bX6 cy (h) u4) ++ bX6 cy (h) u5)) H := hPn
  have hD : va_D A ((a, .inr (8, [.ref r, .int 0, .int 0])) :: (r, .inl (cy 6, 8, .inr (.inr (.inr (.inr (va_up (va_up (va_up (va_up (fun _ => none) 0 (some (u1 0))) 1 (some (u2 0))) 2 (some (u3 0))) 3 (some (u4 0)))))))) :: (((((bX6 cy (h) u1) ++ bX6 cy (h) u2) ++ bX6 cy (h) u3) ++ bX6 cy (h) u4) ++ bX6 cy (h) u5)) := hDn
  refine va_astq (pc := 34) hx hb cx.2.2.2.2.2.1 hP hD hS 1 6 62 7 (r := (RX6, TX6, 11)) (v := u5 0) rfl rfl rfl rfl (zIx_in zi_4_8) dX7_init_34 (fun H locs hP hD hS => ?_)
  have hP : va_P D vwCl ((a, .inr (8, [.ref r, .int 0, .int 0])) :: (r, .inl (cy 6, 8, .inr (.inr (.inr (.inr (va_up (va_up (va_up (va_up (va_up (fun _ => none) 0 (some (u1 0))) 1 (some (u2 0))) 2 (some (u3 0))) 3 (some (u4 0))) 4 (some (u5 0)))))))) :: (((((bX6 cy (h) u1) ++ bX6 cy (h) u2) ++ bX6 cy (h) u3) ++ bX6 cy (h) u4) ++ bX6 cy (h) u5)) H := hP
  have hD : va_D A ((a, .inr (8, [.ref r, .int 0, .int 0])) :: (r, .inl (cy 6, 8, .inr (.inr (.inr (.inr (va_up (va_up (va_up (va_up (va_up (fun _ => none) 0 (some (u1 0))) 1 (some (u2 0))) 2 (some (u3 0))) 3 (some (u4 0))) 4 (some (u5 0)))))))) :: (((((bX6 cy (h) u1) ++ bX6 cy (h) u2) ++ bX6 cy (h) u3) ++ bX6 cy (h) u4) ++ bX6 cy (h) u5)) := hD
  refine lv_iinc (v := 5) (lv' := [(2, .int 5), (0, .ref a), (1, .ref h)]) (pc := 35) hx hb dX7_init_35 hl (k := 0) rfl (by decide) (by decide) rfl (fun ls hl => ?_)
  refine lv_goto (pc := 38) (tgt := 15) hx hb dX7_init_38 (by decide) ?_
  refine lv_iload_n (pc := 15) hx hb dX7_init_15 rfl (lv_at hl 0 rfl) ?_
  refine lv_bipush (pc := 16) hx hb dX7_init_16 zb_8 ?_
  refine lv_icmp_ge (pc := 18) (tgt := 41) hx hb dX7_init_18 (by decide) (fun c1 => absurd c1 (by decide)) (fun _ => ?_)
  refine lv_aload_n (pc := 21) hx hb dX7_init_21 rfl (lv_at hl 1 rfl) ?_
  refine zr_gett (pc := 22) cx lk_X7_11 hP 0 (a := a) rfl (v := .ref r) rfl dX7_init_22 ?_
  refine lv_iload_n (pc := 25) hx hb dX7_init_25 rfl (lv_at hl 0 rfl) ?_
  refine zr_new (pc := 26) cx nw_X7_9 (N := 11) rfl hP hD hS hA (Nat.le_of_ble_eq_true rfl) (Nat.le_of_ble_eq_true rfl) dX7_init_26 (fun b6 H hP hD hS => ?_)
  refine lv_dup (pc := 29) hx hb dX7_init_29 rfl ?_
  refine lv_aload_n (pc := 30) hx hb dX7_init_30 rfl (lv_at hl 2 rfl) ?_
  refine zr_ctI (pc := 31) (As := [.ref h]) (rest := [.ref b6, .int 5, .ref r]) cx ci_X7_17 (mX6_init h b6 H.size) ⟨Nat.le_of_ble_eq_true rfl, Nat.le_of_ble_eq_true rfl⟩ ⟨Nat.le_of_ble_eq_true rfl, Nat.le_of_ble_eq_true rfl⟩ hE hP hD hS hA hl.1 rfl rfl (Nat.le_of_ble_eq_true rfl) dX7_init_31 (fun u6 H locs hu6 hPn hDn hS => ?_)
  subst hu6
  have hP : va_P D vwCl ((a, .inr (8, [.ref r, .int 0, .int 0])) :: (r, .inl (cy 6, 8, .inr (.inr (.inr (.inr (va_up (va_up (va_up (va_up (va_up (fun _ => none) 0 (some (u1 0))) 1 (some (u2 0))) 2 (some (u3 0))) 3 (some (u4 0))) 4 (some (u5 0)))))))) :: ((((((bX6 cy (h) u1) ++ bX6 cy (h) u2) ++ bX6 cy (h) u3) ++ bX6 cy (h) u4) ++ bX6 cy (h) u5) ++ bX6 cy (h) u6)) H := hPn
  have hD : va_D A ((a, .inr (8, [.ref r, .int 0, .int 0])) :: (r, .inl (cy 6, 8, .inr (.inr (.inr (.inr (va_up (va_up (va_up (va_up (va_up (fun _ => none) 0 (some (u1 0))) 1 (some (u2 0))) 2 (some (u3 0))) 3 (some (u4 0))) 4 (some (u5 0)))))))) :: ((((((bX6 cy (h) u1) ++ bX6 cy (h) u2) ++ bX6 cy (h) u3) ++ bX6 cy (h) u4) ++ bX6 cy (h) u5) ++ bX6 cy (h) u6)) := hDn
  refine va_astq (pc := 34) hx hb cx.2.2.2.2.2.1 hP hD hS 1 6 77 7 (r := (RX6, TX6, 11)) (v := u6 0) rfl rfl rfl rfl (zIx_in zi_5_8) dX7_init_34 (fun H locs hP hD hS => ?_)
  have hP : va_P D vwCl ((a, .inr (8, [.ref r, .int 0, .int 0])) :: (r, .inl (cy 6, 8, .inr (.inr (.inr (.inr (va_up (va_up (va_up (va_up (va_up (va_up (fun _ => none) 0 (some (u1 0))) 1 (some (u2 0))) 2 (some (u3 0))) 3 (some (u4 0))) 4 (some (u5 0))) 5 (some (u6 0)))))))) :: ((((((bX6 cy (h) u1) ++ bX6 cy (h) u2) ++ bX6 cy (h) u3) ++ bX6 cy (h) u4) ++ bX6 cy (h) u5) ++ bX6 cy (h) u6)) H := hP
  have hD : va_D A ((a, .inr (8, [.ref r, .int 0, .int 0])) :: (r, .inl (cy 6, 8, .inr (.inr (.inr (.inr (va_up (va_up (va_up (va_up (va_up (va_up (fun _ => none) 0 (some (u1 0))) 1 (some (u2 0))) 2 (some (u3 0))) 3 (some (u4 0))) 4 (some (u5 0))) 5 (some (u6 0)))))))) :: ((((((bX6 cy (h) u1) ++ bX6 cy (h) u2) ++ bX6 cy (h) u3) ++ bX6 cy (h) u4) ++ bX6 cy (h) u5) ++ bX6 cy (h) u6)) := hD
  refine lv_iinc (v := 6) (lv' := [(2, .int 6), (0, .ref a), (1, .ref h)]) (pc := 35) hx hb dX7_init_35 hl (k := 0) rfl (by decide) (by decide) rfl (fun ls hl => ?_)
  refine lv_goto (pc := 38) (tgt := 15) hx hb dX7_init_38 (by decide) ?_
  refine lv_iload_n (pc := 15) hx hb dX7_init_15 rfl (lv_at hl 0 rfl) ?_
  refine lv_bipush (pc := 16) hx hb dX7_init_16 zb_8 ?_
  refine lv_icmp_ge (pc := 18) (tgt := 41) hx hb dX7_init_18 (by decide) (fun c1 => absurd c1 (by decide)) (fun _ => ?_)
  refine lv_aload_n (pc := 21) hx hb dX7_init_21 rfl (lv_at hl 1 rfl) ?_
  refine zr_gett (pc := 22) cx lk_X7_11 hP 0 (a := a) rfl (v := .ref r) rfl dX7_init_22 ?_
  refine lv_iload_n (pc := 25) hx hb dX7_init_25 rfl (lv_at hl 0 rfl) ?_
  refine zr_new (pc := 26) cx nw_X7_9 (N := 11) rfl hP hD hS hA (Nat.le_of_ble_eq_true rfl) (Nat.le_of_ble_eq_true rfl) dX7_init_26 (fun b7 H hP hD hS => ?_)
  refine lv_dup (pc := 29) hx hb dX7_init_29 rfl ?_
  refine lv_aload_n (pc := 30) hx hb dX7_init_30 rfl (lv_at hl 2 rfl) ?_
  refine zr_ctI (pc := 31) (As := [.ref h]) (rest := [.ref b7, .int 6, .ref r]) cx ci_X7_17 (mX6_init h b7 H.size) ⟨Nat.le_of_ble_eq_true rfl, Nat.le_of_ble_eq_true rfl⟩ ⟨Nat.le_of_ble_eq_true rfl, Nat.le_of_ble_eq_true rfl⟩ hE hP hD hS hA hl.1 rfl rfl (Nat.le_of_ble_eq_true rfl) dX7_init_31 (fun u7 H locs hu7 hPn hDn hS => ?_)
  subst hu7
  have hP : va_P D vwCl ((a, .inr (8, [.ref r, .int 0, .int 0])) :: (r, .inl (cy 6, 8, .inr (.inr (.inr (.inr (va_up (va_up (va_up (va_up (va_up (va_up (fun _ => none) 0 (some (u1 0))) 1 (some (u2 0))) 2 (some (u3 0))) 3 (some (u4 0))) 4 (some (u5 0))) 5 (some (u6 0)))))))) :: (((((((bX6 cy (h) u1) ++ bX6 cy (h) u2) ++ bX6 cy (h) u3) ++ bX6 cy (h) u4) ++ bX6 cy (h) u5) ++ bX6 cy (h) u6) ++ bX6 cy (h) u7)) H := hPn
  have hD : va_D A ((a, .inr (8, [.ref r, .int 0, .int 0])) :: (r, .inl (cy 6, 8, .inr (.inr (.inr (.inr (va_up (va_up (va_up (va_up (va_up (va_up (fun _ => none) 0 (some (u1 0))) 1 (some (u2 0))) 2 (some (u3 0))) 3 (some (u4 0))) 4 (some (u5 0))) 5 (some (u6 0)))))))) :: (((((((bX6 cy (h) u1) ++ bX6 cy (h) u2) ++ bX6 cy (h) u3) ++ bX6 cy (h) u4) ++ bX6 cy (h) u5) ++ bX6 cy (h) u6) ++ bX6 cy (h) u7)) := hDn
  refine va_astq (pc := 34) hx hb cx.2.2.2.2.2.1 hP hD hS 1 6 92 7 (r := (RX6, TX6, 11)) (v := u7 0) rfl rfl rfl rfl (zIx_in zi_6_8) dX7_init_34 (fun H locs hP hD hS => ?_)
  have hP : va_P D vwCl ((a, .inr (8, [.ref r, .int 0, .int 0])) :: (r, .inl (cy 6, 8, .inr (.inr (.inr (.inr (va_up (va_up (va_up (va_up (va_up (va_up (va_up (fun _ => none) 0 (some (u1 0))) 1 (some (u2 0))) 2 (some (u3 0))) 3 (some (u4 0))) 4 (some (u5 0))) 5 (some (u6 0))) 6 (some (u7 0)))))))) :: (((((((bX6 cy (h) u1) ++ bX6 cy (h) u2) ++ bX6 cy (h) u3) ++ bX6 cy (h) u4) ++ bX6 cy (h) u5) ++ bX6 cy (h) u6) ++ bX6 cy (h) u7)) H := hP
  have hD : va_D A ((a, .inr (8, [.ref r, .int 0, .int 0])) :: (r, .inl (cy 6, 8, .inr (.inr (.inr (.inr (va_up (va_up (va_up (va_up (va_up (va_up (va_up (fun _ => none) 0 (some (u1 0))) 1 (some (u2 0))) 2 (some (u3 0))) 3 (some (u4 0))) 4 (some (u5 0))) 5 (some (u6 0))) 6 (some (u7 0)))))))) :: (((((((bX6 cy (h) u1) ++ bX6 cy (h) u2) ++ bX6 cy (h) u3) ++ bX6 cy (h) u4) ++ bX6 cy (h) u5) ++ bX6 cy (h) u6) ++ bX6 cy (h) u7)) := hD
  refine lv_iinc (v := 7) (lv' := [(2, .int 7), (0, .ref a), (1, .ref h)]) (pc := 35) hx hb dX7_init_35 hl (k := 0) rfl (by decide) (by decide) rfl (fun ls hl => ?_)
  refine lv_goto (pc := 38) (tgt := 15) hx hb dX7_init_38 (by decide) ?_
  refine lv_iload_n (pc := 15) hx hb dX7_init_15 rfl (lv_at hl 0 rfl) ?_
  refine lv_bipush (pc := 16) hx hb dX7_init_16 zb_8 ?_
  refine lv_icmp_ge (pc := 18) (tgt := 41) hx hb dX7_init_18 (by decide) (fun c1 => absurd c1 (by decide)) (fun _ => ?_)
  refine lv_aload_n (pc := 21) hx hb dX7_init_21 rfl (lv_at hl 1 rfl) ?_
  refine zr_gett (pc := 22) cx lk_X7_11 hP 0 (a := a) rfl (v := .ref r) rfl dX7_init_22 ?_
  refine lv_iload_n (pc := 25) hx hb dX7_init_25 rfl (lv_at hl 0 rfl) ?_
  refine zr_new (pc := 26) cx nw_X7_9 (N := 11) rfl hP hD hS hA (Nat.le_of_ble_eq_true rfl) (Nat.le_of_ble_eq_true rfl) dX7_init_26 (fun b8 H hP hD hS => ?_)
  refine lv_dup (pc := 29) hx hb dX7_init_29 rfl ?_
  refine lv_aload_n (pc := 30) hx hb dX7_init_30 rfl (lv_at hl 2 rfl) ?_
  refine zr_ctI (pc := 31) (As := [.ref h]) (rest := [.ref b8, .int 7, .ref r]) cx ci_X7_17 (mX6_init h b8 H.size) ⟨Nat.le_of_ble_eq_true rfl, Nat.le_of_ble_eq_true rfl⟩ ⟨Nat.le_of_ble_eq_true rfl, Nat.le_of_ble_eq_true rfl⟩ hE hP hD hS hA hl.1 rfl rfl (Nat.le_of_ble_eq_true rfl) dX7_init_31 (fun u8 H locs hu8 hPn hDn hS => ?_)
  subst hu8
  have hP : va_P D vwCl ((a, .inr (8, [.ref r, .int 0, .int 0])) :: (r, .inl (cy 6, 8, .inr (.inr (.inr (.inr (va_up (va_up (va_up (va_up (va_up (va_up (va_up (fun _ => none) 0 (some (u1 0))) 1 (some (u2 0))) 2 (some (u3 0))) 3 (some (u4 0))) 4 (some (u5 0))) 5 (some (u6 0))) 6 (some (u7 0)))))))) :: ((((((((bX6 cy (h) u1) ++ bX6 cy (h) u2) ++ bX6 cy (h) u3) ++ bX6 cy (h) u4) ++ bX6 cy (h) u5) ++ bX6 cy (h) u6) ++ bX6 cy (h) u7) ++ bX6 cy (h) u8)) H := hPn
  have hD : va_D A ((a, .inr (8, [.ref r, .int 0, .int 0])) :: (r, .inl (cy 6, 8, .inr (.inr (.inr (.inr (va_up (va_up (va_up (va_up (va_up (va_up (va_up (fun _ => none) 0 (some (u1 0))) 1 (some (u2 0))) 2 (some (u3 0))) 3 (some (u4 0))) 4 (some (u5 0))) 5 (some (u6 0))) 6 (some (u7 0)))))))) :: ((((((((bX6 cy (h) u1) ++ bX6 cy (h) u2) ++ bX6 cy (h) u3) ++ bX6 cy (h) u4) ++ bX6 cy (h) u5) ++ bX6 cy (h) u6) ++ bX6 cy (h) u7) ++ bX6 cy (h) u8)) := hDn
  refine va_astq (pc := 34) hx hb cx.2.2.2.2.2.1 hP hD hS 1 6 107 7 (r := (RX6, TX6, 11)) (v := u8 0) rfl rfl rfl rfl (zIx_in zi_7_8) dX7_init_34 (fun H locs hP hD hS => ?_)
  have hP : va_P D vwCl ((a, .inr (8, [.ref r, .int 0, .int 0])) :: (r, .inl (cy 6, 8, .inr (.inr (.inr (.inr (va_up (va_up (va_up (va_up (va_up (va_up (va_up (va_up (fun _ => none) 0 (some (u1 0))) 1 (some (u2 0))) 2 (some (u3 0))) 3 (some (u4 0))) 4 (some (u5 0))) 5 (some (u6 0))) 6 (some (u7 0))) 7 (some (u8 0)))))))) :: ((((((((bX6 cy (h) u1) ++ bX6 cy (h) u2) ++ bX6 cy (h) u3) ++ bX6 cy (h) u4) ++ bX6 cy (h) u5) ++ bX6 cy (h) u6) ++ bX6 cy (h) u7) ++ bX6 cy (h) u8)) H := hP
  have hD : va_D A ((a, .inr (8, [.ref r, .int 0, .int 0])) :: (r, .inl (cy 6, 8, .inr (.inr (.inr (.inr (va_up (va_up (va_up (va_up (va_up (va_up (va_up (va_up (fun _ => none) 0 (some (u1 0))) 1 (some (u2 0))) 2 (some (u3 0))) 3 (some (u4 0))) 4 (some (u5 0))) 5 (some (u6 0))) 6 (some (u7 0))) 7 (some (u8 0)))))))) :: ((((((((bX6 cy (h) u1) ++ bX6 cy (h) u2) ++ bX6 cy (h) u3) ++ bX6 cy (h) u4) ++ bX6 cy (h) u5) ++ bX6 cy (h) u6) ++ bX6 cy (h) u7) ++ bX6 cy (h) u8)) := hD
  refine lv_iinc (v := 8) (lv' := [(2, .int 8), (0, .ref a), (1, .ref h)]) (pc := 35) hx hb dX7_init_35 hl (k := 0) rfl (by decide) (by decide) rfl (fun ls hl => ?_)
  refine lv_goto (pc := 38) (tgt := 15) hx hb dX7_init_38 (by decide) ?_
  refine lv_iload_n (pc := 15) hx hb dX7_init_15 rfl (lv_at hl 0 rfl) ?_
  refine lv_bipush (pc := 16) hx hb dX7_init_16 zb_8 ?_
  refine lv_icmp_ge (pc := 18) (tgt := 41) hx hb dX7_init_18 (by decide) (fun _ => ?_) (fun c1 => absurd c1 (by decide))
  have er : (va_up (va_up (va_up (va_up (va_up (va_up (va_up (va_up (fun _ => none) 0 (some (u1 0))) 1 (some (u2 0))) 2 (some (u3 0))) 3 (some (u4 0))) 4 (some (u5 0))) 5 (some (u6 0))) 6 (some (u7 0))) 7 (some (u8 0))) = fun i => [u1 0, u2 0, u3 0, u4 0, u5 0, u6 0, u7 0, u8 0][i]? := by
    funext i
    match i with
    | 0 => rfl
    | 1 => rfl
    | 2 => rfl
    | 3 => rfl
    | 4 => rfl
    | 5 => rfl
    | 6 => rfl
    | 7 => rfl
    | i + 8 => rfl
  rw [er] at hP hD
  exact W.vret (pc := 41) hx hb hr (fun t ht hW => ⟨⟨(fun k => cond (Nat.blt k 1) (a) (cond (Nat.blt k 2) (r) (cond (Nat.blt k 17) (u1 (k - 2)) (cond (Nat.blt k 32) (u2 (k - 17)) (cond (Nat.blt k 47) (u3 (k - 32)) (cond (Nat.blt k 62) (u4 (k - 47)) (cond (Nat.blt k 77) (u5 (k - 62)) (cond (Nat.blt k 92) (u6 (k - 77)) (cond (Nat.blt k 107) (u7 (k - 92)) (u8 (k - 107))))))))))), rfl, rfl, by rw [ht]; exact hP, hD⟩, hS.F ht⟩) hS.2.2 dX7_init_41
