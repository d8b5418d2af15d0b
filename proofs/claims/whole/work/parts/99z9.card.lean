/-! the plant's name into the builder, printed by wip/gen/card.py -/
theorem zNA {A : Nat → Prop} {q : Nat → Nat} (h : ∀ k, k < 262 → ¬ A (q k)) {cy : Nat → ClassId} {S : zSt} {k : Nat} {x : Nat × va_E} (hx : (zW zsh zNC cy q S)[k]? = some x) : ¬ A x.1 := by
  have hk : k < 262 := by have := (List.getElem?_eq_some_iff.mp hx).1; simpa [zW] using this
  rw [zW_at hk rfl] at hx
  cases hx
  exact h k hk
theorem dX3_appendPlantName_3 : decode cX3_appendPlantName 3 = .ok (.iload_n 3, 1) := by decide +kernel
theorem dX3_appendPlantName_4 : decode cX3_appendPlantName 4 = .ok (.ifCond .lt 42, 3) := by decide +kernel
theorem dX3_appendPlantName_7 : decode cX3_appendPlantName 7 = .ok (.aload_n 0, 1) := by decide +kernel
theorem dX3_appendPlantName_8 : decode cX3_appendPlantName 8 = .ok (.getfield 27, 3) := by decide +kernel
theorem dX3_appendPlantName_11 : decode cX3_appendPlantName 11 = .ok (.iload_n 2, 1) := by decide +kernel
theorem dX3_appendPlantName_12 : decode cX3_appendPlantName 12 = .ok (.laload, 1) := by decide +kernel
theorem dX3_appendPlantName_13 : decode cX3_appendPlantName 13 = .ok (.iload_n 3, 1) := by decide +kernel
theorem dX3_appendPlantName_14 : decode cX3_appendPlantName 14 = .ok (.lushr, 1) := by decide +kernel
theorem dX3_appendPlantName_15 : decode cX3_appendPlantName 15 = .ok (.ldc2_w 59, 3) := by decide +kernel
theorem wd_1051 : (Jvm.Cond.constantLong "ParlourLeaves$House" (59 : Nat) (31 : Int64)) ∈ zTB := List.mem_filter.mpr ⟨List.mem_append_right _ (List.mem_append_right _ (List.mem_append_right _ (List.mem_append_right _ (List.mem_append_right _ (List.mem_append_left _ (List.mem_of_getElem? (i := 91) rfl)))))), rfl⟩
theorem dX3_appendPlantName_18 : decode cX3_appendPlantName 18 = .ok (.land, 1) := by decide +kernel
theorem dX3_appendPlantName_19 : decode cX3_appendPlantName 19 = .ok (.l2i, 1) := by decide +kernel
theorem dX3_appendPlantName_20 : decode cX3_appendPlantName 20 = .ok (.istore 4, 2) := by decide +kernel
theorem dX3_appendPlantName_22 : decode cX3_appendPlantName 22 = .ok (.iload 4, 2) := by decide +kernel
theorem dX3_appendPlantName_27 : decode cX3_appendPlantName 27 = .ok (.aload_n 1, 1) := by decide +kernel
theorem dX3_appendPlantName_28 : decode cX3_appendPlantName 28 = .ok (.bipush 97, 2) := by decide +kernel
theorem dX3_appendPlantName_30 : decode cX3_appendPlantName 30 = .ok (.iload 4, 2) := by decide +kernel
theorem dX3_appendPlantName_32 : decode cX3_appendPlantName 32 = .ok (.iadd, 1) := by decide +kernel
theorem dX3_appendPlantName_33 : decode cX3_appendPlantName 33 = .ok (.iconst 1, 1) := by decide +kernel
theorem dX3_appendPlantName_34 : decode cX3_appendPlantName 34 = .ok (.isub, 1) := by decide +kernel
theorem dX3_appendPlantName_35 : decode cX3_appendPlantName 35 = .ok (.i2c, 1) := by decide +kernel
theorem dX3_appendPlantName_36 : decode cX3_appendPlantName 36 = .ok (.invokevirtual 61, 3) := by decide +kernel
theorem wd_1054 : (Jvm.Cond.selects "java/lang/StringBuilder" ({ cls := "java/lang/StringBuilder", name := "append", desc := "(C)Ljava/lang/StringBuilder;" } : Jvm.MethodName) ({ cls := "java/lang/StringBuilder", name := "append", desc := "(C)Ljava/lang/StringBuilder;" } : Jvm.MethodName)) ∈ zTB := List.mem_filter.mpr ⟨List.mem_append_right _ (List.mem_append_right _ (List.mem_append_right _ (List.mem_append_right _ (List.mem_append_right _ (List.mem_append_left _ (List.mem_of_getElem? (i := 94) rfl)))))), rfl⟩
theorem wd_1052 : (Jvm.Cond.methodLink "ParlourLeaves$House" (61 : Nat) ({ cls := "java/lang/StringBuilder", name := "append", desc := "(C)Ljava/lang/StringBuilder;" } : Jvm.MethodName)) ∈ zTB := List.mem_filter.mpr ⟨List.mem_append_right _ (List.mem_append_right _ (List.mem_append_right _ (List.mem_append_right _ (List.mem_append_right _ (List.mem_append_left _ (List.mem_of_getElem? (i := 92) rfl)))))), rfl⟩
theorem wd_1053 : (Jvm.Cond.instanceMethod ({ cls := "java/lang/StringBuilder", name := "append", desc := "(C)Ljava/lang/StringBuilder;" } : Jvm.MethodName)) ∈ zTB := List.mem_filter.mpr ⟨List.mem_append_right _ (List.mem_append_right _ (List.mem_append_right _ (List.mem_append_right _ (List.mem_append_right _ (List.mem_append_left _ (List.mem_of_getElem? (i := 93) rfl)))))), rfl⟩
theorem wd_1055 : (Jvm.Cond.code ({ cls := "java/lang/StringBuilder", name := "append", desc := "(C)Ljava/lang/StringBuilder;" } : Jvm.MethodName) prog_27_method_14_code (2 : Nat) (Option.some (Jvm.ClassFile.FieldType.object "java/lang/StringBuilder"))) ∈ zTB := List.mem_filter.mpr ⟨List.mem_append_right _ (List.mem_append_right _ (List.mem_append_right _ (List.mem_append_right _ (List.mem_append_right _ (List.mem_append_left _ (List.mem_of_getElem? (i := 95) rfl)))))), rfl⟩
theorem cb_X3_61 : zCB RX3 61 yJ4_append_cf468 cJ4_append_cf468 2 (some (.object "java/lang/StringBuilder")) 1 := ⟨⟨by decide, by decide, by decide +kernel⟩, wd_1052, wd_1053, Or.inl wd_1054, wd_18, wd_1055⟩
theorem dX3_appendPlantName_39 : decode cX3_appendPlantName 39 = .ok (.pop, 1) := by decide +kernel
theorem zc_m5 : Int32.ofInt (-5) = (-5 : Int32) := by decide
theorem dX3_appendPlantName_40 : decode cX3_appendPlantName 40 = .ok (.iinc 3 (-5), 3) := by decide +kernel
theorem dX3_appendPlantName_43 : decode cX3_appendPlantName 43 = .ok (.goto (-40), 3) := by decide +kernel
theorem dX3_appendPlantName_24 : decode cX3_appendPlantName 24 = .ok (.ifCond .eq 16, 3) := by decide +kernel
set_option maxHeartbeats 1000000 in
set_option maxRecDepth 100000 in
theorem apn_loop {p : Program} {l0 : Launch} {e : Env} {s : State} {m : MethodId} {args : Array Value} {below : List Frame} {meth : Method} {c : Code} {D : va_G} {cy : Nat → ClassId} {A : Nat → Prop} {Q : State → Prop} {kK kV q : Nat → Nat} {S : zSt} {R : Room} {cells slots : Nat} {b j : Nat} {l : List Nat} (cx : zX RX3 cX3_appendPlantName 5 p s m args c D cy) (hE : zEn kK kV A s) (hA : ∀ q, s.heap.size ≤ q → A q) (hsep : ∀ k, k < 262 → ¬ A (q k)) (hj : j < 6) (hw : S.2 10 j = lN (f32 l)) (ok : dOk l) (h7 : l.length ≤ 7) (hRf : 4 ≤ R.frames) (hRl : 64 ≤ R.locals) (hRc : cells + 0 ≤ R.cells) (hRs : slots + 0 ≤ R.slots)
    (kk : ∀ (u : zU) (H : Heap) (locs : List Loc) (ls : Array Slot), zOkB (lTx l 0) u → va_P D vwCl (zBx cy b (nI (lTx l 0).length) u) H → va_D A (zBx cy b (nI (lTx l 0).length) u) → va_S A s.heap H locs → lv_has ls 5 [(3, .int (shA 0)), (0, .ref (q 4)), (1, .ref b), (2, .int (nI j))] → W p l0 e R s m args below meth c H locs cells slots Q (F0 m 46 ls [])) :
    ∀ (k : Nat), k ≤ 7 → ∀ (u : zU) (H : Heap) (locs : List Loc) (ls : Array Slot), zOkB (lTx l k) u → va_P D vwCl (zBx cy b (nI (lTx l k).length) u) H → va_D A (zBx cy b (nI (lTx l k).length) u) → va_P D vwCl (zW zsh zNC cy q S) H → va_S A s.heap H locs → lv_has ls 5 [(3, .int (shA k)), (0, .ref (q 4)), (1, .ref b), (2, .int (nI j))] → W p l0 e R s m args below meth c H locs cells slots Q (F0 m 3 ls []) := by
  have hx := cx.1
  have hb := cx.2.1
  intro k
  induction k with
  | zero =>
    intro _ u H locs ls hu hP hD hC hS hl
    refine lv_iload_n (pc := 3) hx hb dX3_appendPlantName_3 rfl (lv_at hl 0 rfl) ?_
    refine lv_if_lt (pc := 4) (tgt := 46) hx hb dX3_appendPlantName_4 (by decide) (fun c0 => ?_) (fun c0 => absurd (by decide) c0)
    exact kk u H locs ls hu hP hD hS hl
  | succ k ih =>
    intro hk7 u H locs ls hu hP hD hC hS hl
    have hk : k < 7 := by omega
    refine lv_iload_n (pc := 3) hx hb dX3_appendPlantName_3 rfl (lv_at hl 0 rfl) ?_
    refine lv_if_lt (pc := 4) (tgt := 46) hx hb dX3_appendPlantName_4 (by decide) (fun c0 => absurd c0 (shA_s k hk).2.2) (fun c0 => ?_)
    refine lv_aload_n (pc := 7) hx hb dX3_appendPlantName_7 rfl (lv_at hl 1 rfl) ?_
    refine zr_getR (pc := 8) (t := 10) cx lk_X3_27 hC nC_4 sC_4 rfl dX3_appendPlantName_8 ?_
    refine lv_iload_n (pc := 11) hx hb dX3_appendPlantName_11 rfl (lv_at hl 3 rfl) ?_
    refine zr_lald (pc := 12) cx hC nC_10 sC_10 (zIx_nI hj (by decide)) dX3_appendPlantName_12 ?_
    rw [nI_clamp (by omega), hw]
    refine lv_iload_n (pc := 13) hx hb dX3_appendPlantName_13 rfl (lv_at hl 0 rfl) ?_
    refine lv_lushr (v := (zLus (lN (f32 l)) (shA (k + 1)))) (pc := 14) hx hb dX3_appendPlantName_14 rfl ?_
    refine lv_ldc2 (pc := 15) hx hb cx.2.2.2.1 (cx.2.2.2.2.1 _ wd_1051) dX3_appendPlantName_15 ?_
    refine lv_land (pc := 18) hx hb dX3_appendPlantName_18 ?_
    refine lv_l2i (v := nI (lAt l k)) (pc := 19) hx hb dX3_appendPlantName_19 (lAt_eq ok h7 hk) ?_
    refine lv_istore (lv' := [(4, .int (nI (lAt l k))), (3, .int (shA (k + 1))), (0, .ref (q 4)), (1, .ref b), (2, .int (nI j))]) (pc := 20) hx hb dX3_appendPlantName_20 hl (by decide) rfl (fun ls hl => ?_)
    refine lv_iload (pc := 22) hx hb dX3_appendPlantName_22 (lv_at hl 0 rfl) ?_
    refine lv_if_eq (pc := 24) (tgt := 40) hx hb dX3_appendPlantName_24 (by decide) (fun c0 => ?_) (fun c0 => ?_)
    · have h0 : lAt l k = 0 := by
        have key : ∀ x, x < 27 → nI x = 0 → x = 0 := by decide
        exact key _ (lAt_lt ok k) c0
      rw [← lTx_0 k ok h0] at hu hP hD
      refine lv_iinc (v := (shA k)) (lv' := [(3, .int (shA k)), (4, .int (nI (lAt l k))), (0, .ref (q 4)), (1, .ref b), (2, .int (nI j))]) (pc := 40) hx hb dX3_appendPlantName_40 hl (k := 1) rfl (by rw [zc_m5]; exact (shA_s k hk).2.1) (by decide) rfl (fun ls hl => ?_)
      refine lv_goto (pc := 43) (tgt := 3) hx hb dX3_appendPlantName_43 (by decide) ?_
      have hl := lv_sub hl [0, 2, 3, 4] rfl
      exact ih (by omega) u H locs ls hu hP hD hC hS hl
    · have h0 : lAt l k ≠ 0 := fun e => c0 (by rw [e]; rfl)
      obtain ⟨et, hkl⟩ := lTx_s k h0
      have hc128 : 96 + lAt l k < 128 := by have := lAt_lt ok k; omega
      have hl1 : (lTx l (k + 1)).length + 1 ≤ u.2.1 := by rw [lTx_len]; rcases hu.1 with h | h <;> omega
      refine lv_aload_n (pc := 27) hx hb dX3_appendPlantName_27 rfl (lv_at hl 3 rfl) ?_
      refine lv_bipush (pc := 28) hx hb dX3_appendPlantName_28 zb_97 ?_
      refine lv_iload (pc := 30) hx hb dX3_appendPlantName_30 (lv_at hl 0 rfl) ?_
      refine lv_iadd (pc := 32) hx hb dX3_appendPlantName_32 ?_
      refine lv_iconst (pc := 33) hx hb dX3_appendPlantName_33 zc_1 ?_
      refine lv_isub (pc := 34) hx hb dX3_appendPlantName_34 ?_
      refine lv_i2c (v := nI (96 + lAt l k)) (pc := 35) hx hb dX3_appendPlantName_35 (lAt_ch _ (lAt_lt ok k)) ?_
      refine zr_aV (pc := 36) (As := [.int (nI (96 + lAt l k))]) (rest := []) cx hE.2.2.2.2.2.2.2 cb_X3_61 (mJ4_appendC hu hD hc128 hl1) ⟨Nat.le_trans (Nat.le_of_ble_eq_true rfl) hRf, Nat.le_trans (Nat.le_of_ble_eq_true rfl) hRl⟩ ⟨hRc, hRs⟩ hE (fun _ h => h) (fun q h => hA q (Nat.le_trans hS.1 h)) hP hS hl.1 rfl rfl (Nat.le_of_ble_eq_true rfl) dX3_appendPlantName_36 (fun u H locs hu hP hD hz hk2 hS => ?_)
      have hC : va_P D vwCl (zW zsh zNC cy q S) H := hC.kept (fun k x hx => hk2 x.1 (hC k x hx).lt (zNA hsep hx))
      refine lv_pop (pc := 39) hx hb dX3_appendPlantName_39 rfl ?_
      rw [← et] at hu hP hD
      refine lv_iinc (v := (shA k)) (lv' := [(3, .int (shA k)), (4, .int (nI (lAt l k))), (0, .ref (q 4)), (1, .ref b), (2, .int (nI j))]) (pc := 40) hx hb dX3_appendPlantName_40 hl (k := 1) rfl (by rw [zc_m5]; exact (shA_s k hk).2.1) (by decide) rfl (fun ls hl => ?_)
      refine lv_goto (pc := 43) (tgt := 3) hx hb dX3_appendPlantName_43 (by decide) ?_
      have hl := lv_sub hl [0, 2, 3, 4] rfl
      exact ih (by omega) u H locs ls hu hP hD hC hS hl
theorem dX3_appendPlantName_0 : decode cX3_appendPlantName 0 = .ok (.bipush 30, 2) := by decide +kernel
theorem dX3_appendPlantName_2 : decode cX3_appendPlantName 2 = .ok (.istore_n 3, 1) := by decide +kernel
theorem dX3_appendPlantName_46 : decode cX3_appendPlantName 46 = .ok (.return_, 1) := by decide +kernel
abbrev rmX3_appendPlantName : Room := { frames := 4, cells := 0, slots := 0, locals := 64 }
set_option maxHeartbeats 1000000 in
set_option maxRecDepth 100000 in
theorem mX3_appendName {l : Launch} {D : va_G} {cy : Nat → ClassId} {kK kV : Nat → Nat} {A : Nat → Prop} {q : Nat → Nat} {S : zSt} {b j : Nat} {u : zU} {l1 : List Nat} (hsep : ∀ k, k < 262 → ¬ A (q k)) (hj : j < 6) (hw : S.2 10 j = lN (f32 l1)) (ok : dOk l1) (h7 : l1.length ≤ 7) (hu : zOkB [] u) (hD : va_D A (zBx cy b (nI ([] : List Nat).length) u))  : Met l yX3_appendPlantName (Cond.code yX3_appendPlantName cX3_appendPlantName 5 none :: zTB) rmX3_appendPlantName (va_Pc [.ref (q 4), .ref b, .int (nI j)] (fun U => zPr zsh zNC D cy q S U ∧ zPf D cy kK kV A (zBx cy b (nI ([] : List Nat).length) u) U)) (va_Qv (fun (u2 : zU) => zOkB (l1.map (fun c => 96 + c)) u2) (fun u2 t => va_P D vwCl (zBx cy b (nI (l1.map (fun c => 96 + c)).length) u2) t.heap ∧ va_D A (zBx cy b (nI (l1.map (fun c => 96 + c)).length) u2)) A) 0 0 A := by
  refine Met.ofW (cc := cX3_appendPlantName) (maxL := 5) (ret := none) (by decide) rfl ?_
  intro p e s m args below meth c s₁ B hml hv
  obtain ⟨rfl, ⟨hC, hK⟩, hA, hP, -, hE⟩ := hv
  have cx : zX RX3 cX3_appendPlantName 5 p s m ([.ref (q 4), .ref b, .int (nI j)]).toArray c D cy := ⟨B.exec, B.bytes, hml, findClass_of_methodNamed B.named, fun w hw => atoms_spec (ws := Cond.code yX3_appendPlantName cX3_appendPlantName 5 none :: zTB) B.pre w (List.mem_cons_of_mem _ hw), hK⟩
  have hx := cx.1
  have hb := cx.2.1
  have hr := B.returns
  have hlk := B.notSynchronized
  have hS : va_S A s.heap s.heap [] := va_S.rf
  have hl := lv_entry ([.ref (q 4), .ref b, .int (nI j)]) (n := 5) (Nat.le_of_ble_eq_true rfl)
  rw [lg_entry_eq]
  generalize (lg_sl ([.ref (q 4), .ref b, .int (nI j)]) ++ List.replicate (5 - (lg_sl ([.ref (q 4), .ref b, .int (nI j)])).length) Slot.unset).toArray = ls at hl ⊢
  have hl : lv_has ls 5 [(0, .ref (q 4)), (1, .ref b), (2, .int (nI j))] := hl
  refine lv_bipush (pc := 0) hx hb dX3_appendPlantName_0 zb_30 ?_
  refine lv_istore_n (lv' := [(3, .int (30 : Int32)), (0, .ref (q 4)), (1, .ref b), (2, .int (nI j))]) (pc := 2) hx hb dX3_appendPlantName_2 rfl hl (by decide) rfl (fun ls hl => ?_)
  refine apn_loop cx hE hA hsep hj hw ok h7 (Nat.le_of_ble_eq_true rfl) (Nat.le_of_ble_eq_true rfl) (Nat.le_of_ble_eq_true rfl) (Nat.le_of_ble_eq_true rfl) (fun u H locs ls hu hP hD hS hl => ?_) 7 (Nat.le_refl _) u s.heap [] ls ?_ ?_ ?_ hC hS hl
  · rw [lTx_e] at hu hP hD
    exact W.vret (pc := 46) hx hb hr (fun t ht hW => ⟨⟨u, rfl, hu, (show va_P D vwCl _ t.heap from by rw [ht]; exact hP), hD⟩, hS.F ht⟩) hS.2.2 dX3_appendPlantName_46
  · rw [lTx_7 h7]; exact hu
  · rw [lTx_7 h7]; exact hP
  · rw [lTx_7 h7]; exact hD

