/-! the tape's constructor, printed by wip/gen/tape.py -/
def kStep (w : Nat × (Nat → Int64)) (c : Int32) : Nat × (Nat → Int64) := if c = 32 then (w.1 + 1, w.2) else (w.1, vp_updL w.2 w.1 (zLsh (w.2 w.1) 5 ||| (c - 97 + 1).toInt64))
def kAt : Nat → Nat × (Nat → Int64)
  | 0 => (0, fun _ => 0)
  | i + 1 => kStep (kAt i) (zKeyT.getD i 0)
theorem kAt_w : ∀ i, i < 121 → (kAt i).1 < 22 := by decide +kernel
theorem kAt_fin : rKey (kAt 121).2 := by unfold rKey; decide +kernel
def bX9 (cy : Nat → ClassId) (q : Nat → Nat) : va_W := [(q 0, .inr (10, [.ref (q 1), .int 0, .ref (q 2), .int 0, .int 0, .int 0, .int 0, .long 0, .int 0, .int 0, .int 0])), ((q 1), .inl (cy 3, 940, .inl (fun _ => 0))), ((q 2), .inl (cy 1, 22, .inr (.inl (kAt 121).2)))]
theorem dX9_init_25 : decode cX9_init 25 = .ok (.iload_n 2, 1) := by decide +kernel
theorem dX9_init_26 : decode cX9_init 26 = .ok (.ldc 19, 2) := by decide +kernel
theorem dX9_init_28 : decode cX9_init 28 = .ok (.invokevirtual 21, 3) := by decide +kernel
theorem wd_45 : (Jvm.Cond.methodLink "ParlourLeaves$Tape" (21 : Nat) ({ cls := "java/lang/String", name := "length", desc := "()I" } : Jvm.MethodName)) ∈ zTB := List.mem_filter.mpr ⟨List.mem_append_right _ (List.mem_append_left _ (List.mem_of_getElem? (i := 45) rfl)), rfl⟩
theorem wd_46 : (Jvm.Cond.instanceMethod ({ cls := "java/lang/String", name := "length", desc := "()I" } : Jvm.MethodName)) ∈ zTB := List.mem_filter.mpr ⟨List.mem_append_right _ (List.mem_append_left _ (List.mem_of_getElem? (i := 46) rfl)), rfl⟩
theorem wd_47 : (Jvm.Cond.selects "java/lang/String" ({ cls := "java/lang/String", name := "length", desc := "()I" } : Jvm.MethodName) ({ cls := "java/lang/String", name := "length", desc := "()I" } : Jvm.MethodName)) ∈ zTB := List.mem_filter.mpr ⟨List.mem_append_right _ (List.mem_append_left _ (List.mem_of_getElem? (i := 47) rfl)), rfl⟩
theorem wd_48 : (Jvm.Cond.code ({ cls := "java/lang/String", name := "length", desc := "()I" } : Jvm.MethodName) prog_26_method_54_code (1 : Nat) (Option.some Jvm.ClassFile.FieldType.int)) ∈ zTB := List.mem_filter.mpr ⟨List.mem_append_right _ (List.mem_append_left _ (List.mem_of_getElem? (i := 48) rfl)), rfl⟩
theorem cv_X9_21 : zCV RX9 "java/lang/String" 21 yJ0_length_8abf5 cJ0_length_8abf5 1 (some .int) 0 := ⟨rfl, ⟨by decide, by decide, by decide +kernel⟩, wd_45, wd_46, wd_47, wd_3, wd_48⟩
theorem dX9_init_31 : decode cX9_init 31 = .ok (.if_icmp .ge 56, 3) := by decide +kernel
theorem dX9_init_34 : decode cX9_init 34 = .ok (.iload_n 1, 1) := by decide +kernel
theorem dX9_init_35 : decode cX9_init 35 = .ok (.bipush 22, 2) := by decide +kernel
theorem dX9_init_37 : decode cX9_init 37 = .ok (.if_icmp .ge 50, 3) := by decide +kernel
theorem dX9_init_40 : decode cX9_init 40 = .ok (.ldc 19, 2) := by decide +kernel
theorem dX9_init_42 : decode cX9_init 42 = .ok (.iload_n 2, 1) := by decide +kernel
theorem dX9_init_43 : decode cX9_init 43 = .ok (.invokevirtual 27, 3) := by decide +kernel
theorem wd_55 : (Jvm.Cond.methodLink "ParlourLeaves$Tape" (27 : Nat) ({ cls := "java/lang/String", name := "charAt", desc := "(I)C" } : Jvm.MethodName)) ∈ zTB := List.mem_filter.mpr ⟨List.mem_append_right _ (List.mem_append_left _ (List.mem_of_getElem? (i := 55) rfl)), rfl⟩
theorem wd_56 : (Jvm.Cond.instanceMethod ({ cls := "java/lang/String", name := "charAt", desc := "(I)C" } : Jvm.MethodName)) ∈ zTB := List.mem_filter.mpr ⟨List.mem_append_right _ (List.mem_append_left _ (List.mem_of_getElem? (i := 56) rfl)), rfl⟩
theorem wd_57 : (Jvm.Cond.selects "java/lang/String" ({ cls := "java/lang/String", name := "charAt", desc := "(I)C" } : Jvm.MethodName) ({ cls := "java/lang/String", name := "charAt", desc := "(I)C" } : Jvm.MethodName)) ∈ zTB := List.mem_filter.mpr ⟨List.mem_append_right _ (List.mem_append_left _ (List.mem_of_getElem? (i := 57) rfl)), rfl⟩
theorem wd_58 : (Jvm.Cond.code ({ cls := "java/lang/String", name := "charAt", desc := "(I)C" } : Jvm.MethodName) prog_26_method_56_code (2 : Nat) (Option.some Jvm.ClassFile.FieldType.char)) ∈ zTB := List.mem_filter.mpr ⟨List.mem_append_right _ (List.mem_append_left _ (List.mem_of_getElem? (i := 58) rfl)), rfl⟩
theorem cv_X9_27 : zCV RX9 "java/lang/String" 27 yJ0_charAt_5068e cJ0_charAt_5068e 2 (some .char) 1 := ⟨rfl, ⟨by decide, by decide, by decide +kernel⟩, wd_55, wd_56, wd_57, wd_3, wd_58⟩
theorem dX9_init_46 : decode cX9_init 46 = .ok (.istore_n 3, 1) := by decide +kernel
theorem dX9_init_47 : decode cX9_init 47 = .ok (.iload_n 3, 1) := by decide +kernel
theorem dX9_init_48 : decode cX9_init 48 = .ok (.bipush 32, 2) := by decide +kernel
theorem dX9_init_50 : decode cX9_init 50 = .ok (.if_icmp .ne 9, 3) := by decide +kernel
theorem dX9_init_59 : decode cX9_init 59 = .ok (.aload_n 0, 1) := by decide +kernel
theorem dX9_init_60 : decode cX9_init 60 = .ok (.getfield 15, 3) := by decide +kernel
theorem dX9_init_63 : decode cX9_init 63 = .ok (.iload_n 1, 1) := by decide +kernel
theorem dX9_init_64 : decode cX9_init 64 = .ok (.aload_n 0, 1) := by decide +kernel
theorem dX9_init_65 : decode cX9_init 65 = .ok (.getfield 15, 3) := by decide +kernel
theorem dX9_init_68 : decode cX9_init 68 = .ok (.iload_n 1, 1) := by decide +kernel
theorem dX9_init_69 : decode cX9_init 69 = .ok (.laload, 1) := by decide +kernel
theorem dX9_init_70 : decode cX9_init 70 = .ok (.iconst 5, 1) := by decide +kernel
theorem dX9_init_71 : decode cX9_init 71 = .ok (.lshl, 1) := by decide +kernel
theorem dX9_init_72 : decode cX9_init 72 = .ok (.iload_n 3, 1) := by decide +kernel
theorem dX9_init_73 : decode cX9_init 73 = .ok (.bipush 97, 2) := by decide +kernel
theorem dX9_init_75 : decode cX9_init 75 = .ok (.isub, 1) := by decide +kernel
theorem dX9_init_76 : decode cX9_init 76 = .ok (.iconst 1, 1) := by decide +kernel
theorem dX9_init_77 : decode cX9_init 77 = .ok (.iadd, 1) := by decide +kernel
theorem dX9_init_78 : decode cX9_init 78 = .ok (.i2l, 1) := by decide +kernel
theorem dX9_init_79 : decode cX9_init 79 = .ok (.lor, 1) := by decide +kernel
theorem dX9_init_80 : decode cX9_init 80 = .ok (.lastore, 1) := by decide +kernel
theorem dX9_init_53 : decode cX9_init 53 = .ok (.iinc 1 1, 3) := by decide +kernel
theorem dX9_init_56 : decode cX9_init 56 = .ok (.goto 25, 3) := by decide +kernel
theorem dX9_init_81 : decode cX9_init 81 = .ok (.iinc 2 1, 3) := by decide +kernel
theorem dX9_init_84 : decode cX9_init 84 = .ok (.goto (-59), 3) := by decide +kernel
set_option maxHeartbeats 1000000 in
set_option maxRecDepth 100000 in
theorem tape_loop {p : Program} {l : Launch} {e : Env} {s : State} {m : MethodId} {args : Array Value} {below : List Frame} {meth : Method} {c : Code} {D : va_G} {cy : Nat → ClassId} {A : Nat → Prop} {Q : State → Prop} {kK kV : Nat → Nat} {R : Room} {cells slots : Nat} {a q1 q2 : Nat} (cx : zX RX9 cX9_init 4 p s m args c D cy) (hE : zEn kK kV A s) (hRf : 5 ≤ R.frames) (hRl : 200 ≤ R.locals) (hRc : zRc cells slots R)
    (kk : ∀ (ls : Array Slot) (H : Heap) (locs : List Loc), va_P D vwCl [(a, .inr (10, [.ref q1, .int 0, .ref q2, .int 0, .int 0, .int 0, .int 0, .long 0, .int 0, .int 0, .int 0])), (q1, .inl (cy 3, 940, .inl (fun _ => 0))), (q2, .inl (cy 1, 22, .inr (.inl (kAt 121).2)))] H → va_D A [(a, .inr (10, [.ref q1, .int 0, .ref q2, .int 0, .int 0, .int 0, .int 0, .long 0, .int 0, .int 0, .int 0])), (q1, .inl (cy 3, 940, .inl (fun _ => 0))), (q2, .inl (cy 1, 22, .inr (.inl (kAt 121).2)))] → va_S A s.heap H locs → lv_has ls 4 [(2, .int (nI 121)), (1, .int (nI (kAt 121).1)), (0, .ref a)] → W p l e R s m args below meth c H locs cells slots Q (F0 m 87 ls [])) :
    ∀ (n i : Nat), i + n = 121 → ∀ (ls : Array Slot) (H : Heap) (locs : List Loc), va_P D vwCl [(a, .inr (10, [.ref q1, .int 0, .ref q2, .int 0, .int 0, .int 0, .int 0, .long 0, .int 0, .int 0, .int 0])), (q1, .inl (cy 3, 940, .inl (fun _ => 0))), (q2, .inl (cy 1, 22, .inr (.inl (kAt i).2)))] H → va_D A [(a, .inr (10, [.ref q1, .int 0, .ref q2, .int 0, .int 0, .int 0, .int 0, .long 0, .int 0, .int 0, .int 0])), (q1, .inl (cy 3, 940, .inl (fun _ => 0))), (q2, .inl (cy 1, 22, .inr (.inl (kAt i).2)))] → va_S A s.heap H locs → lv_has ls 4 [(2, .int (nI i)), (1, .int (nI (kAt i).1)), (0, .ref a)] → W p l e R s m args below meth c H locs cells slots Q (F0 m 25 ls []) := by
  have hx := cx.1
  have hb := cx.2.1
  intro n
  induction n with
  | zero =>
    intro i hn ls H locs hP hD hS hl
    have ei : i = 121 := by omega
    subst ei
    refine lv_iload_n (pc := 25) hx hb dX9_init_25 rfl (lv_at hl 0 rfl) ?_
    refine va_ldcS (pc := 26) hx hb cx.2.2.2.1 (hE.2.2.2.1 0 (by decide)) dX9_init_26 ?_
    refine zr_VIg (pc := 28) (q := kK) (k := 0) (As := []) (rest := [.int (nI 121)]) cx cv_X9_21 (mJ0_length (by decide)) ⟨⟨rfl, rfl⟩, Nat.le_trans (Nat.le_of_ble_eq_true rfl) hRf, Nat.le_trans (Nat.le_of_ble_eq_true rfl) hRl⟩ hRc (zr_preKs cx hE hS (by decide)) hl.1 rfl rfl (Nat.le_of_ble_eq_true rfl) dX9_init_28 ?_
    refine lv_icmp_ge (pc := 31) (tgt := 87) hx hb dX9_init_31 (by decide) (fun c0 => ?_) (fun c0 => absurd (nI_le (a := 121) (b := 121) (by decide) (by decide)) c0)
    exact kk ls H locs hP hD hS (lv_sub hl [0, 1, 2] rfl)
  | succ n ih =>
    intro i hn ls H locs hP hD hS hl
    have hi : i < 121 := by omega
    have hw := kAt_w i hi
    refine lv_iload_n (pc := 25) hx hb dX9_init_25 rfl (lv_at hl 0 rfl) ?_
    refine va_ldcS (pc := 26) hx hb cx.2.2.2.1 (hE.2.2.2.1 0 (by decide)) dX9_init_26 ?_
    refine zr_VIg (pc := 28) (q := kK) (k := 0) (As := []) (rest := [.int (nI i)]) cx cv_X9_21 (mJ0_length (by decide)) ⟨⟨rfl, rfl⟩, Nat.le_trans (Nat.le_of_ble_eq_true rfl) hRf, Nat.le_trans (Nat.le_of_ble_eq_true rfl) hRl⟩ hRc (zr_preKs cx hE hS (by decide)) hl.1 rfl rfl (Nat.le_of_ble_eq_true rfl) dX9_init_28 ?_
    refine lv_icmp_ge (pc := 31) (tgt := 87) hx hb dX9_init_31 (by decide) (fun c0 => absurd c0 (nI_ge hi (by decide))) (fun c0 => ?_)
    refine lv_iload_n (pc := 34) hx hb dX9_init_34 rfl (lv_at hl 1 rfl) ?_
    refine lv_bipush (pc := 35) hx hb dX9_init_35 zb_22 ?_
    refine lv_icmp_ge (pc := 37) (tgt := 87) hx hb dX9_init_37 (by decide) (fun c0 => absurd c0 (nI_ge hw (by decide))) (fun c0 => ?_)
    refine va_ldcS (pc := 40) hx hb cx.2.2.2.1 (hE.2.2.2.1 0 (by decide)) dX9_init_40 ?_
    refine lv_iload_n (pc := 42) hx hb dX9_init_42 rfl (lv_at hl 0 rfl) ?_
    refine zr_VIg (pc := 43) (q := kK) (k := 0) (As := [.int (nI i)]) (rest := []) cx cv_X9_27 (mJ0_charAt (by decide) hi) ⟨⟨rfl, rfl⟩, Nat.le_trans (Nat.le_of_ble_eq_true rfl) hRf, Nat.le_trans (Nat.le_of_ble_eq_true rfl) hRl⟩ hRc (zr_preKs cx hE hS (by decide)) hl.1 rfl rfl (Nat.le_of_ble_eq_true rfl) dX9_init_43 ?_
    refine lv_istore_n (lv' := [(3, .int (zKeyT.getD i 0)), (2, .int (nI i)), (1, .int (nI (kAt i).1)), (0, .ref a)]) (pc := 46) hx hb dX9_init_46 rfl hl (by decide) rfl (fun ls hl => ?_)
    refine lv_iload_n (pc := 47) hx hb dX9_init_47 rfl (lv_at hl 0 rfl) ?_
    refine lv_bipush (pc := 48) hx hb dX9_init_48 zb_32 ?_
    refine lv_icmp_ne (pc := 50) (tgt := 59) hx hb dX9_init_50 (by decide) (fun c0 => ?_) (fun c0 => ?_)
    · refine lv_aload_n (pc := 59) hx hb dX9_init_59 rfl (lv_at hl 3 rfl) ?_
      refine zr_gett (pc := 60) cx lk_X9_15 hP 0 (a := a) rfl (v := .ref q2) rfl dX9_init_60 ?_
      refine lv_iload_n (pc := 63) hx hb dX9_init_63 rfl (lv_at hl 2 rfl) ?_
      refine lv_aload_n (pc := 64) hx hb dX9_init_64 rfl (lv_at hl 3 rfl) ?_
      refine zr_gett (pc := 65) cx lk_X9_15 hP 0 (a := a) rfl (v := .ref q2) rfl dX9_init_65 ?_
      refine lv_iload_n (pc := 68) hx hb dX9_init_68 rfl (lv_at hl 2 rfl) ?_
      refine va_lald (pc := 69) hx hb cx.2.2.2.2.2.1 hP 2 1 rfl rfl (nI_in hw (by decide)) dX9_init_69 ?_
      rw [nI_clamp (by omega)]
      refine lv_iconst (pc := 70) hx hb dX9_init_70 zc_5 ?_
      refine lv_lshl (v := (zLsh ((kAt i).2 (kAt i).1) (5 : Int32))) (pc := 71) hx hb dX9_init_71 rfl ?_
      refine lv_iload_n (pc := 72) hx hb dX9_init_72 rfl (lv_at hl 0 rfl) ?_
      refine lv_bipush (pc := 73) hx hb dX9_init_73 zb_97 ?_
      refine lv_isub (pc := 75) hx hb dX9_init_75 ?_
      refine lv_iconst (pc := 76) hx hb dX9_init_76 zc_1 ?_
      refine lv_iadd (pc := 77) hx hb dX9_init_77 ?_
      refine lv_i2l (v := (((((zKeyT.getD i 0) - (97 : Int32)) + (1 : Int32))).toInt64)) (pc := 78) hx hb dX9_init_78 rfl ?_
      refine lv_lor (pc := 79) hx hb dX9_init_79 ?_
      refine va_last (pc := 80) hx hb cx.2.2.2.2.2.1 hP hD hS 2 1 rfl rfl (nI_in hw (by decide)) dX9_init_80 (fun H locs hP hD hS => ?_)
      rw [nI_clamp (by omega)] at hP hD
      refine lv_iinc (v := (nI (i + 1))) (lv' := [(2, .int (nI (i + 1))), (3, .int (zKeyT.getD i 0)), (1, .int (nI (kAt i).1)), (0, .ref a)]) (pc := 81) hx hb dX9_init_81 hl (k := 1) rfl (by rw [zc_1, ← nI_succ]) (by decide) rfl (fun ls hl => ?_)
      refine lv_goto (pc := 84) (tgt := 25) hx hb dX9_init_84 (by decide) ?_
      have ek : kAt (i + 1) = ((kAt i).1, vp_updL (kAt i).2 (kAt i).1 (zLsh ((kAt i).2 (kAt i).1) 5 ||| (zKeyT.getD i 0 - 97 + 1).toInt64)) := if_neg c0
      refine ih (i + 1) (by omega) ls H locs ?_ ?_ hS ?_
      · rw [ek]; exact hP
      · rw [ek]; exact hD
      · rw [ek]; exact lv_sub hl [0, 2, 3] rfl
    · refine lv_iinc (v := (nI ((kAt i).1 + 1))) (lv' := [(1, .int (nI ((kAt i).1 + 1))), (3, .int (zKeyT.getD i 0)), (2, .int (nI i)), (0, .ref a)]) (pc := 53) hx hb dX9_init_53 hl (k := 2) rfl (by rw [zc_1, ← nI_succ]) (by decide) rfl (fun ls hl => ?_)
      refine lv_goto (pc := 56) (tgt := 81) hx hb dX9_init_56 (by decide) ?_
      refine lv_iinc (v := (nI (i + 1))) (lv' := [(2, .int (nI (i + 1))), (1, .int (nI ((kAt i).1 + 1))), (3, .int (zKeyT.getD i 0)), (0, .ref a)]) (pc := 81) hx hb dX9_init_81 hl (k := 2) rfl (by rw [zc_1, ← nI_succ]) (by decide) rfl (fun ls hl => ?_)
      refine lv_goto (pc := 84) (tgt := 25) hx hb dX9_init_84 (by decide) ?_
      have ek : kAt (i + 1) = ((kAt i).1 + 1, (kAt i).2) := if_pos c0
      refine ih (i + 1) (by omega) ls H locs ?_ ?_ hS ?_
      · rw [ek]; exact hP
      · rw [ek]; exact hD
      · rw [ek]; exact lv_sub hl [0, 1, 3] rfl
theorem dX9_init_4 : decode cX9_init 4 = .ok (.aload_n 0, 1) := by decide +kernel
theorem dX9_init_5 : decode cX9_init 5 = .ok (.sipush 940, 3) := by decide +kernel
theorem dX9_init_8 : decode cX9_init 8 = .ok (.newarray .char, 2) := by decide +kernel
theorem wd_138 : (Jvm.Cond.arrayClass Jvm.ClassFile.FieldType.char) ∈ zTB := List.mem_filter.mpr ⟨List.mem_append_right _ (List.mem_append_left _ (List.mem_of_getElem? (i := 138) rfl)), rfl⟩
theorem dX9_init_10 : decode cX9_init 10 = .ok (.putfield 9, 3) := by decide +kernel
theorem lf_X9_9 : zLqF RX9 9 10 0 (.array .char) := ⟨"ParlourLeaves$Tape", RX9, TX9, 11, tyX9, rfl, by decide, wsin_X9, wd_93, rfl, rfl, rfl, by decide +kernel, tyX9_ok, nmX9⟩
theorem dX9_init_13 : decode cX9_init 13 = .ok (.aload_n 0, 1) := by decide +kernel
theorem dX9_init_14 : decode cX9_init 14 = .ok (.bipush 22, 2) := by decide +kernel
theorem dX9_init_16 : decode cX9_init 16 = .ok (.newarray .long, 2) := by decide +kernel
theorem dX9_init_18 : decode cX9_init 18 = .ok (.putfield 15, 3) := by decide +kernel
theorem lf_X9_15 : zLqF RX9 15 10 2 (.array .long) := ⟨"ParlourLeaves$Tape", RX9, TX9, 11, tyX9, rfl, by decide, wsin_X9, wd_98, rfl, rfl, rfl, by decide +kernel, tyX9_ok, nmX9⟩
theorem dX9_init_21 : decode cX9_init 21 = .ok (.iconst 0, 1) := by decide +kernel
theorem wd_43 : (Jvm.Cond.methodLink "ParlourLeaves$Tape" (3 : Nat) ({ cls := "java/lang/Object", name := "<init>", desc := "()V" } : Jvm.MethodName)) ∈ zTB := List.mem_filter.mpr ⟨List.mem_append_right _ (List.mem_append_left _ (List.mem_of_getElem? (i := 43) rfl)), rfl⟩
theorem dX9_init_0 : decode cX9_init 0 = .ok (.aload_n 0, 1) := by decide +kernel
theorem dX9_init_1 : decode cX9_init 1 = .ok (.invokespecial 3, 3) := by decide +kernel
theorem dX9_init_22 : decode cX9_init 22 = .ok (.istore_n 1, 1) := by decide +kernel
theorem dX9_init_23 : decode cX9_init 23 = .ok (.iconst 0, 1) := by decide +kernel
theorem dX9_init_24 : decode cX9_init 24 = .ok (.istore_n 2, 1) := by decide +kernel
theorem dX9_init_87 : decode cX9_init 87 = .ok (.return_, 1) := by decide +kernel
set_option maxHeartbeats 1000000 in
set_option maxRecDepth 100000 in
theorem mX9_init {l : Launch} {D : va_G} {cy : Nat → ClassId} {kK kV : Nat → Nat} (a sz : Nat) : zMc l yX9_init cX9_init 4 { frames := 5, cells := 2, slots := 962, locals := 200 } [] D cy kK kV sz a (.inr (10, [.null, .int 0, .null, .int 0, .int 0, .int 0, .int 0, .long 0, .int 0, .int 0, .int 0])) (bX9 cy) := by
  refine Met.ofW (cc := cX9_init) (maxL := 4) (ret := none) (by decide) rfl ?_
  intro p e s m args below meth c s₁ B hml hv
  obtain ⟨rfl, hsz, hP, hK, hE⟩ := hv
  have cx : zX RX9 cX9_init 4 p s m ([.ref a]).toArray c D cy := ⟨B.exec, B.bytes, hml, findClass_of_methodNamed B.named, fun w hw => atoms_spec (ws := Cond.code yX9_init cX9_init 4 none :: zTB) B.pre w (List.mem_cons_of_mem _ hw), hK⟩
  have hx := cx.1
  have hb := cx.2.1
  have hr := B.returns
  have hlk := B.notSynchronized
  have hin : meth.name = "<init>" := (name_of_methodNamed B.named B.method).1
  subst hsz
  have hD : va_D (va_A [(a, .inr (10, [.null, .int 0, .null, .int 0, .int 0, .int 0, .int 0, .long 0, .int 0, .int 0, .int 0]))] s.heap.size) [(a, .inr (10, [.null, .int 0, .null, .int 0, .int 0, .int 0, .int 0, .long 0, .int 0, .int 0, .int 0]))] := z_one (Or.inl ⟨0, _, rfl⟩)
  generalize hAe : va_A [(a, .inr (10, [.null, .int 0, .null, .int 0, .int 0, .int 0, .int 0, .long 0, .int 0, .int 0, .int 0]))] s.heap.size = A at hD hE ⊢
  have hA : ∀ q, s.heap.size ≤ q → A q := fun q h => by rw [← hAe]; exact Or.inr h
  have hS : va_S A s.heap s.heap [] := va_S.rf
  have hl := lv_entry ([.ref a]) (n := 4) (Nat.le_of_ble_eq_true rfl)
  rw [lg_entry_eq]
  generalize (lg_sl ([.ref a]) ++ List.replicate (4 - (lg_sl ([.ref a])).length) Slot.unset).toArray = ls at hl ⊢
  have hl : lv_has ls 4 [(0, .ref a)] := hl
  refine lv_aload_n (pc := 0) hx hb dX9_init_0 rfl (lv_at hl 0 rfl) ?_
  refine W.objInit hx hb cx.2.2.2.1 (cx.2.2.2.2.1 _ wd_43) (cx.2.2.2.2.1 _ wd_36) (cx.2.2.2.2.1 _ wd_37) rfl (by rw [hml]; exact hl.1) rfl dX9_init_1 (Nat.le_of_ble_eq_true rfl) (Nat.le_of_ble_eq_true rfl) ?_
  refine W.eq (g2 := F0 m 4 ls []) rfl ?_
  refine lv_aload_n (pc := 4) hx hb dX9_init_4 rfl (lv_at hl 0 rfl) ?_
  refine lv_sipush (pc := 5) hx hb dX9_init_5 zs_940 ?_
  refine zr_newa (pc := 8) cx (atype := .char) (t := 3) (ty := .char) rfl rfl (fun _ _ => rfl) wd_138 hP hD hS hA (n := 940) (N' := 940) (a0 := (940, .inl (fun _ => 0))) (fun _ => rfl) (by decide) (by decide) (by decide) (Nat.le_of_ble_eq_true rfl) (Nat.le_of_ble_eq_true rfl) dX9_init_8 (fun q1 H hP hD hS => ?_)
  have hP : va_P D vwCl [(a, .inr (10, [.null, .int 0, .null, .int 0, .int 0, .int 0, .int 0, .long 0, .int 0, .int 0, .int 0])), (q1, .inl (cy 3, 940, .inl (fun _ => 0)))] H := hP
  have hD : va_D A [(a, .inr (10, [.null, .int 0, .null, .int 0, .int 0, .int 0, .int 0, .long 0, .int 0, .int 0, .int 0])), (q1, .inl (cy 3, 940, .inl (fun _ => 0)))] := hD
  refine zr_putF (pc := 10) cx lf_X9_9 hin hP hD hS 0 (a := a) rfl (v := .ref q1) rfl rfl (Nat.le_of_ble_eq_true rfl) dX9_init_10 (fun H locs hP hD hS => ?_)
  have hP : va_P D vwCl [(a, .inr (10, [.ref q1, .int 0, .null, .int 0, .int 0, .int 0, .int 0, .long 0, .int 0, .int 0, .int 0])), (q1, .inl (cy 3, 940, .inl (fun _ => 0)))] H := hP
  have hD : va_D A [(a, .inr (10, [.ref q1, .int 0, .null, .int 0, .int 0, .int 0, .int 0, .long 0, .int 0, .int 0, .int 0])), (q1, .inl (cy 3, 940, .inl (fun _ => 0)))] := hD
  refine lv_aload_n (pc := 13) hx hb dX9_init_13 rfl (lv_at hl 0 rfl) ?_
  refine lv_bipush (pc := 14) hx hb dX9_init_14 zb_22 ?_
  refine zr_newa (pc := 16) cx (atype := .long) (t := 1) (ty := .long) rfl rfl (fun _ _ => rfl) wd_139 hP hD hS hA (n := 22) (N' := 22) (a0 := (22, .inr (.inl (fun _ => 0)))) (fun _ => rfl) (by decide) (by decide) (by decide) (Nat.le_of_ble_eq_true rfl) (Nat.le_of_ble_eq_true rfl) dX9_init_16 (fun q2 H hP hD hS => ?_)
  have hP : va_P D vwCl [(a, .inr (10, [.ref q1, .int 0, .null, .int 0, .int 0, .int 0, .int 0, .long 0, .int 0, .int 0, .int 0])), (q1, .inl (cy 3, 940, .inl (fun _ => 0))), (q2, .inl (cy 1, 22, .inr (.inl (fun _ => 0))))] H := hP
  have hD : va_D A [(a, .inr (10, [.ref q1, .int 0, .null, .int 0, .int 0, .int 0, .int 0, .long 0, .int 0, .int 0, .int 0])), (q1, .inl (cy 3, 940, .inl (fun _ => 0))), (q2, .inl (cy 1, 22, .inr (.inl (fun _ => 0))))] := hD
  refine zr_putF (pc := 18) cx lf_X9_15 hin hP hD hS 0 (a := a) rfl (v := .ref q2) rfl rfl (Nat.le_of_ble_eq_true rfl) dX9_init_18 (fun H locs hP hD hS => ?_)
  have hP : va_P D vwCl [(a, .inr (10, [.ref q1, .int 0, .ref q2, .int 0, .int 0, .int 0, .int 0, .long 0, .int 0, .int 0, .int 0])), (q1, .inl (cy 3, 940, .inl (fun _ => 0))), (q2, .inl (cy 1, 22, .inr (.inl (fun _ => 0))))] H := hP
  have hD : va_D A [(a, .inr (10, [.ref q1, .int 0, .ref q2, .int 0, .int 0, .int 0, .int 0, .long 0, .int 0, .int 0, .int 0])), (q1, .inl (cy 3, 940, .inl (fun _ => 0))), (q2, .inl (cy 1, 22, .inr (.inl (fun _ => 0))))] := hD
  refine lv_iconst (pc := 21) hx hb dX9_init_21 zc_0 ?_
  refine lv_istore_n (lv' := [(1, .int (0 : Int32)), (0, .ref a)]) (pc := 22) hx hb dX9_init_22 rfl hl (by decide) rfl (fun ls hl => ?_)
  refine lv_iconst (pc := 23) hx hb dX9_init_23 zc_0 ?_
  refine lv_istore_n (lv' := [(2, .int (0 : Int32)), (1, .int (0 : Int32)), (0, .ref a)]) (pc := 24) hx hb dX9_init_24 rfl hl (by decide) rfl (fun ls hl => ?_)
  refine tape_loop cx hE (Nat.le_refl _) (Nat.le_refl _) ⟨Nat.le_of_ble_eq_true rfl, Nat.le_of_ble_eq_true rfl⟩ (fun ls H locs hP hD hS hl => ?_) 121 0 rfl ls H _ hP hD hS hl
  exact W.vret (pc := 87) hx hb hr (fun t ht hW => ⟨⟨(fun k => [a, q1, q2].getD k 0), rfl, rfl, by rw [ht]; exact hP, hD⟩, hS.F ht⟩) hS.2.2 dX9_init_87
