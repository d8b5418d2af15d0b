theorem zs_165 : (Int16.ofInt (165)).toInt32 = (165 : Int32) := by decide
theorem zs_240 : (Int16.ofInt (240)).toInt32 = (240 : Int32) := by decide
theorem dX12_said_0 : decode cX12_said 0 = .ok (.aload_n 0, 1) := by decide +kernel
theorem dX12_said_1 : decode cX12_said 1 = .ok (.iconst 0, 1) := by decide +kernel
theorem dX12_said_2 : decode cX12_said 2 = .ok (.putfield 1, 3) := by decide +kernel
theorem dX12_said_5 : decode cX12_said 5 = .ok (.aload_n 0, 1) := by decide +kernel
theorem dX12_said_6 : decode cX12_said 6 = .ok (.getfield 98, 3) := by decide +kernel
theorem dX12_said_9 : decode cX12_said 9 = .ok (.sipush 164, 3) := by decide +kernel
theorem dX12_said_12 : decode cX12_said 12 = .ok (.iaload, 1) := by decide +kernel
theorem dX12_said_13 : decode cX12_said 13 = .ok (.ifCond .ne 5, 3) := by decide +kernel
theorem dX12_said_16 : decode cX12_said 16 = .ok (.iconst (-1), 1) := by decide +kernel
theorem dX12_said_17 : decode cX12_said 17 = .ok (.ireturn, 1) := by decide +kernel
theorem dX12_said_18 : decode cX12_said 18 = .ok (.iconst 0, 1) := by decide +kernel
theorem dX12_said_19 : decode cX12_said 19 = .ok (.istore_n 2, 1) := by decide +kernel
theorem dX12_said_20 : decode cX12_said 20 = .ok (.iconst 0, 1) := by decide +kernel
theorem dX12_said_21 : decode cX12_said 21 = .ok (.istore_n 3, 1) := by decide +kernel
theorem dX12_said_22 : decode cX12_said 22 = .ok (.iload_n 3, 1) := by decide +kernel
theorem dX12_said_23 : decode cX12_said 23 = .ok (.aload_n 0, 1) := by decide +kernel
theorem dX12_said_24 : decode cX12_said 24 = .ok (.getfield 98, 3) := by decide +kernel
theorem dX12_said_27 : decode cX12_said 27 = .ok (.iconst 1, 1) := by decide +kernel
theorem dX12_said_28 : decode cX12_said 28 = .ok (.iaload, 1) := by decide +kernel
theorem dX12_said_29 : decode cX12_said 29 = .ok (.if_icmp .ge 38, 3) := by decide +kernel
theorem dX12_said_32 : decode cX12_said 32 = .ok (.aload_n 0, 1) := by decide +kernel
theorem dX12_said_33 : decode cX12_said 33 = .ok (.aload_n 0, 1) := by decide +kernel
theorem dX12_said_34 : decode cX12_said 34 = .ok (.getfield 98, 3) := by decide +kernel
theorem dX12_said_37 : decode cX12_said 37 = .ok (.sipush 165, 3) := by decide +kernel
theorem dX12_said_40 : decode cX12_said 40 = .ok (.iaload, 1) := by decide +kernel
theorem dX12_said_41 : decode cX12_said 41 = .ok (.iload_n 3, 1) := by decide +kernel
theorem dX12_said_42 : decode cX12_said 42 = .ok (.invokevirtual 440, 3) := by decide +kernel
theorem dX12_said_45 : decode cX12_said 45 = .ok (.ifCond .ne 6, 3) := by decide +kernel
theorem dX12_said_48 : decode cX12_said 48 = .ok (.goto 13, 3) := by decide +kernel
theorem dX12_said_51 : decode cX12_said 51 = .ok (.iload_n 2, 1) := by decide +kernel
theorem dX12_said_52 : decode cX12_said 52 = .ok (.iload_n 1, 1) := by decide +kernel
theorem dX12_said_53 : decode cX12_said 53 = .ok (.if_icmp .ne 5, 3) := by decide +kernel
theorem dX12_said_56 : decode cX12_said 56 = .ok (.iload_n 3, 1) := by decide +kernel
theorem dX12_said_57 : decode cX12_said 57 = .ok (.ireturn, 1) := by decide +kernel
theorem dX12_said_58 : decode cX12_said 58 = .ok (.iinc 2 1, 3) := by decide +kernel
theorem dX12_said_61 : decode cX12_said 61 = .ok (.iinc 3 1, 3) := by decide +kernel
theorem dX12_said_64 : decode cX12_said 64 = .ok (.goto (-42), 3) := by decide +kernel
theorem dX12_said_67 : decode cX12_said 67 = .ok (.iload_n 1, 1) := by decide +kernel
theorem dX12_said_68 : decode cX12_said 68 = .ok (.iconst (-1), 1) := by decide +kernel
theorem dX12_said_69 : decode cX12_said 69 = .ok (.if_icmp .ne 7, 3) := by decide +kernel
theorem dX12_said_72 : decode cX12_said 72 = .ok (.iload_n 2, 1) := by decide +kernel
theorem dX12_said_73 : decode cX12_said 73 = .ok (.goto 4, 3) := by decide +kernel
theorem dX12_said_76 : decode cX12_said 76 = .ok (.iconst (-1), 1) := by decide +kernel
theorem dX12_said_77 : decode cX12_said 77 = .ok (.ireturn, 1) := by decide +kernel
theorem dX12_sentence_0 : decode cX12_sentence 0 = .ok (.aload_n 0, 1) := by decide +kernel
theorem dX12_sentence_1 : decode cX12_sentence 1 = .ok (.sipush 200, 3) := by decide +kernel
theorem dX12_sentence_4 : decode cX12_sentence 4 = .ok (.invokevirtual 206, 3) := by decide +kernel
theorem dX12_sentence_7 : decode cX12_sentence 7 = .ok (.aload_n 0, 1) := by decide +kernel
theorem dX12_sentence_8 : decode cX12_sentence 8 = .ok (.iconst 0, 1) := by decide +kernel
theorem dX12_sentence_9 : decode cX12_sentence 9 = .ok (.putfield 403, 3) := by decide +kernel
theorem dX12_sentence_12 : decode cX12_sentence 12 = .ok (.aload_n 0, 1) := by decide +kernel
theorem dX12_sentence_13 : decode cX12_sentence 13 = .ok (.iconst 0, 1) := by decide +kernel
theorem dX12_sentence_14 : decode cX12_sentence 14 = .ok (.putfield 419, 3) := by decide +kernel
theorem dX12_sentence_17 : decode cX12_sentence 17 = .ok (.aload_n 0, 1) := by decide +kernel
theorem dX12_sentence_18 : decode cX12_sentence 18 = .ok (.iconst 0, 1) := by decide +kernel
theorem dX12_sentence_19 : decode cX12_sentence 19 = .ok (.putfield 422, 3) := by decide +kernel
theorem dX12_sentence_22 : decode cX12_sentence 22 = .ok (.aload_n 0, 1) := by decide +kernel
theorem dX12_sentence_23 : decode cX12_sentence 23 = .ok (.invokevirtual 437, 3) := by decide +kernel
theorem dX12_sentence_26 : decode cX12_sentence 26 = .ok (.ifCond .ne 10, 3) := by decide +kernel
theorem dX12_sentence_29 : decode cX12_sentence 29 = .ok (.iconst (-1), 1) := by decide +kernel
theorem dX12_sentence_30 : decode cX12_sentence 30 = .ok (.aload_n 0, 1) := by decide +kernel
theorem dX12_sentence_31 : decode cX12_sentence 31 = .ok (.getfield 69, 3) := by decide +kernel
theorem dX12_sentence_34 : decode cX12_sentence 34 = .ok (.isub, 1) := by decide +kernel
theorem dX12_sentence_35 : decode cX12_sentence 35 = .ok (.ireturn, 1) := by decide +kernel
theorem dX12_sentence_36 : decode cX12_sentence 36 = .ok (.aload_n 0, 1) := by decide +kernel
theorem dX12_sentence_37 : decode cX12_sentence 37 = .ok (.getfield 30, 3) := by decide +kernel
theorem dX12_sentence_40 : decode cX12_sentence 40 = .ok (.ifCond .eq 16, 3) := by decide +kernel
theorem dX12_sentence_43 : decode cX12_sentence 43 = .ok (.aload_n 0, 1) := by decide +kernel
theorem dX12_sentence_44 : decode cX12_sentence 44 = .ok (.iconst 1, 1) := by decide +kernel
theorem dX12_sentence_45 : decode cX12_sentence 45 = .ok (.invokevirtual 72, 3) := by decide +kernel
theorem dX12_sentence_48 : decode cX12_sentence 48 = .ok (.pop, 1) := by decide +kernel
theorem dX12_sentence_49 : decode cX12_sentence 49 = .ok (.iconst (-1), 1) := by decide +kernel
theorem dX12_sentence_50 : decode cX12_sentence 50 = .ok (.aload_n 0, 1) := by decide +kernel
theorem dX12_sentence_51 : decode cX12_sentence 51 = .ok (.getfield 69, 3) := by decide +kernel
theorem dX12_sentence_54 : decode cX12_sentence 54 = .ok (.isub, 1) := by decide +kernel
theorem dX12_sentence_55 : decode cX12_sentence 55 = .ok (.ireturn, 1) := by decide +kernel
theorem dX12_sentence_56 : decode cX12_sentence 56 = .ok (.aload_n 0, 1) := by decide +kernel
theorem dX12_sentence_57 : decode cX12_sentence 57 = .ok (.getfield 98, 3) := by decide +kernel
theorem dX12_sentence_60 : decode cX12_sentence 60 = .ok (.sipush 164, 3) := by decide +kernel
theorem dX12_sentence_63 : decode cX12_sentence 63 = .ok (.iconst 1, 1) := by decide +kernel
theorem dX12_sentence_64 : decode cX12_sentence 64 = .ok (.iastore, 1) := by decide +kernel
theorem dX12_sentence_65 : decode cX12_sentence 65 = .ok (.aload_n 0, 1) := by decide +kernel
theorem dX12_sentence_66 : decode cX12_sentence 66 = .ok (.getfield 98, 3) := by decide +kernel
theorem dX12_sentence_69 : decode cX12_sentence 69 = .ok (.sipush 165, 3) := by decide +kernel
theorem dX12_sentence_72 : decode cX12_sentence 72 = .ok (.aload_n 0, 1) := by decide +kernel
theorem dX12_sentence_73 : decode cX12_sentence 73 = .ok (.getfield 409, 3) := by decide +kernel
theorem dX12_sentence_76 : decode cX12_sentence 76 = .ok (.iastore, 1) := by decide +kernel
theorem dX12_sentence_77 : decode cX12_sentence 77 = .ok (.iconst 0, 1) := by decide +kernel
theorem dX12_sentence_78 : decode cX12_sentence 78 = .ok (.istore_n 1, 1) := by decide +kernel
theorem dX12_sentence_79 : decode cX12_sentence 79 = .ok (.iload_n 1, 1) := by decide +kernel
theorem dX12_sentence_80 : decode cX12_sentence 80 = .ok (.sipush 240, 3) := by decide +kernel
theorem dX12_sentence_83 : decode cX12_sentence 83 = .ok (.if_icmp .ge 25, 3) := by decide +kernel
theorem dX12_sentence_86 : decode cX12_sentence 86 = .ok (.aload_n 0, 1) := by decide +kernel
theorem dX12_sentence_87 : decode cX12_sentence 87 = .ok (.getfield 98, 3) := by decide +kernel
theorem dX12_sentence_90 : decode cX12_sentence 90 = .ok (.sipush 166, 3) := by decide +kernel
theorem dX12_sentence_93 : decode cX12_sentence 93 = .ok (.iload_n 1, 1) := by decide +kernel
theorem dX12_sentence_94 : decode cX12_sentence 94 = .ok (.iadd, 1) := by decide +kernel
theorem dX12_sentence_95 : decode cX12_sentence 95 = .ok (.aload_n 0, 1) := by decide +kernel
theorem dX12_sentence_96 : decode cX12_sentence 96 = .ok (.getfield 154, 3) := by decide +kernel
theorem dX12_sentence_99 : decode cX12_sentence 99 = .ok (.iload_n 1, 1) := by decide +kernel
theorem dX12_sentence_100 : decode cX12_sentence 100 = .ok (.iaload, 1) := by decide +kernel
theorem dX12_sentence_101 : decode cX12_sentence 101 = .ok (.iastore, 1) := by decide +kernel
theorem dX12_sentence_102 : decode cX12_sentence 102 = .ok (.iinc 1 1, 3) := by decide +kernel
theorem dX12_sentence_105 : decode cX12_sentence 105 = .ok (.goto (-26), 3) := by decide +kernel
theorem dX12_sentence_108 : decode cX12_sentence 108 = .ok (.aload_n 0, 1) := by decide +kernel
theorem dX12_sentence_109 : decode cX12_sentence 109 = .ok (.getfield 419, 3) := by decide +kernel
theorem dX12_sentence_112 : decode cX12_sentence 112 = .ok (.ireturn, 1) := by decide +kernel
-- X12_said
abbrev rmX12_said : Room := { frames := 68, cells := 0, slots := 0, locals := 1823 }
def fX12_said_61 (S : zSt)  (v1 : Int32) (v2 : Int32) (v3 : Int32) : Option ((Int32 × Int32) ⊕ (Int32 × zSt)) :=
  zLt (v3 + (1 : Int32)) (fun x14 => some (.inl (v2, x14)))
set_option maxHeartbeats 4000000 in
set_option maxRecDepth 100000 in
theorem kX12_said_61 {p : Program} {l : Launch} {e : Env} {s : State} {m : MethodId} {args : Array Value} {below : List Frame} {meth : Method} {c : Code} {D : va_G} {cy : Nat → ClassId} {q : Nat → Nat} {A : Nat → Prop} (cx : zX RX12 cX12_said 4 p s m args c D cy) (hr : meth.sig.returnType = (some .int)) (hlk : meth.locks = false) (hq : zQ A q zNM) {z : (Int32 × zSt)} {S : zSt} {v1 : Int32} {v2 : Int32} {v3 : Int32} {C1 : ((Int32 × Int32) ⊕ (Int32 × zSt)) → Prop} (hb1 : ∀ (v2 : Int32) (v3 : Int32), C1 (.inl (v2, v3)) → ∀ (H : Heap) (locs : List Loc), va_P D vwCl (zW zshM zNM cy q S) H → va_S A s.heap H locs → ∀ (ls : Array Slot), lv_has ls 4 [(0, .ref (q 0)), (1, .int v1), (2, .int v2), (3, .int v3)] → W p l e rmX12_said s m args below meth c H locs 0 0 (MQ below (va_Qi (fun (r : Int32) (u : zSt) => (r, u) = z) (fun u t => va_P D vwCl (zW zshM zNM cy q u) t.heap) A) args s 0 0 A) (F0 m 22 ls [])) (hx1 : ∀ a, C1 (.inr a) → a = z) {x : ((Int32 × Int32) ⊕ (Int32 × zSt))} (h : fX12_said_61 S v1 v2 v3 = some x) (hc : C1 x) {H : Heap} {locs : List Loc} (hP : va_P D vwCl (zW zshM zNM cy q S) H) (hS : va_S A s.heap H locs) {ls : Array Slot} (hl : lv_has ls 4 [(0, .ref (q 0)), (1, .int v1), (2, .int v2), (3, .int v3)]) : W p l e rmX12_said s m args below meth c H locs 0 0 (MQ below (va_Qi (fun (r : Int32) (u : zSt) => (r, u) = z) (fun u t => va_P D vwCl (zW zshM zNM cy q u) t.heap) A) args s 0 0 A) (F0 m 61 ls []) := by
  have hx := cx.1
  have hb := cx.2.1
  unfold fX12_said_61 at h
  obtain ⟨x14, ex14, h⟩ := zLt_e h
  refine lv_iinc (v := x14) (lv' := [(3, .int x14), (0, .ref (q 0)), (1, .int v1), (2, .int v2)]) (pc := 61) hx hb dX12_said_61 hl (k := 3) rfl (by rw [zc_1]; exact ex14.symm) (by decide) rfl (fun ls hl => ?_)
  refine lv_goto (pc := 64) (tgt := 22) hx hb dX12_said_64 (by decide) ?_
  cases h
  exact hb1 _ _ hc _ _ hP hS _ (lv_sub hl [1, 2, 3, 0] rfl)
def fX12_said_22 (S : zSt)  (v1 : Int32) (t : (Int32 × Int32)) : Option ((Int32 × Int32) ⊕ (Int32 × zSt)) :=
  match t with
  | (v2, v3) => zGd (zIx (1 : Int32) 406) (zBr ((S.1 2 (1 : Int32).toNatClampNeg) ≤ v3) (zXr (zBr (v1 = (-1 : Int32)) (some (v2, S)) (some ((-1 : Int32), S)))) (zGd (zIx (165 : Int32) 406) (zBd (gHO 64 0 S (S.1 2 (165 : Int32).toNatClampNeg) v3) (fun r10 => zBr (r10 = 0) (fX12_said_61 S v1 v2 v3) (zBr (v2 = v1) (zXr (some (v3, S))) (zLt (v2 + (1 : Int32)) (fun x13 => fX12_said_61 S v1 x13 v3)))))))
set_option maxHeartbeats 4000000 in
set_option maxRecDepth 100000 in
theorem kX12_said_22B {p : Program} {l : Launch} {e : Env} {s : State} {m : MethodId} {args : Array Value} {below : List Frame} {meth : Method} {c : Code} {D : va_G} {cy : Nat → ClassId} {q : Nat → Nat} {A : Nat → Prop} (cx : zX RX12 cX12_said 4 p s m args c D cy) (hr : meth.sig.returnType = (some .int)) (hlk : meth.locks = false) (hq : zQ A q zNM) {z : (Int32 × zSt)} {S : zSt} {v1 : Int32} {v2 : Int32} {v3 : Int32} {C1 : ((Int32 × Int32) ⊕ (Int32 × zSt)) → Prop} (hb1 : ∀ (v2 : Int32) (v3 : Int32), C1 (.inl (v2, v3)) → ∀ (H : Heap) (locs : List Loc), va_P D vwCl (zW zshM zNM cy q S) H → va_S A s.heap H locs → ∀ (ls : Array Slot), lv_has ls 4 [(0, .ref (q 0)), (1, .int v1), (2, .int v2), (3, .int v3)] → W p l e rmX12_said s m args below meth c H locs 0 0 (MQ below (va_Qi (fun (r : Int32) (u : zSt) => (r, u) = z) (fun u t => va_P D vwCl (zW zshM zNM cy q u) t.heap) A) args s 0 0 A) (F0 m 22 ls [])) (hx1 : ∀ a, C1 (.inr a) → a = z) {x : ((Int32 × Int32) ⊕ (Int32 × zSt))} (h : fX12_said_22 S v1 (v2, v3) = some x) (hc : C1 x) {H : Heap} {locs : List Loc} (hP : va_P D vwCl (zW zshM zNM cy q S) H) (hS : va_S A s.heap H locs) {ls : Array Slot} (hl : lv_has ls 4 [(0, .ref (q 0)), (1, .int v1), (2, .int v2), (3, .int v3)]) : W p l e rmX12_said s m args below meth c H locs 0 0 (MQ below (va_Qi (fun (r : Int32) (u : zSt) => (r, u) = z) (fun u t => va_P D vwCl (zW zshM zNM cy q u) t.heap) A) args s 0 0 A) (F0 m 22 ls []) := by
  have hx := cx.1
  have hb := cx.2.1
  unfold fX12_said_22 at h
  dsimp only at h
  refine lv_iload_n (pc := 22) hx hb dX12_said_22 rfl (lv_at hl 3 rfl) ?_
  refine lv_aload_n (pc := 23) hx hb dX12_said_23 rfl (lv_at hl 0 rfl) ?_
  refine zr_getR (pc := 24) (t := 2) cx lk_X12_98 hP nM_0 sM_0 rfl dX12_said_24 ?_
  refine lv_iconst (pc := 27) hx hb dX12_said_27 zc_1 ?_
  obtain ⟨g4, h⟩ := zGd_e h
  refine zr_iald (pc := 28) cx hP nM_2 sM_2 g4 dX12_said_28 ?_
  refine lv_icmp_ge (pc := 29) (tgt := 67) hx hb dX12_said_29 (by decide) (fun c5 => ?_) (fun c5 => ?_)
  · replace h := zBr_t c5 h
    obtain ⟨y6, h, ex⟩ := zXr_e h
    have hc := hx1 y6 (by rw [ex] at hc; exact hc)
    rw [hc] at h
    refine lv_iload_n (pc := 67) hx hb dX12_said_67 rfl (lv_at hl 1 rfl) ?_
    refine lv_iconst (pc := 68) hx hb dX12_said_68 zc_m1 ?_
    refine lv_icmp_ne (pc := 69) (tgt := 76) hx hb dX12_said_69 (by decide) (fun c7 => ?_) (fun c7 => ?_)
    · replace h := zBr_f c7 h
      refine lv_iconst (pc := 76) hx hb dX12_said_76 zc_m1 ?_
      have hz := Option.some.inj h
      exact zr_rqI (pc := 77) cx hr hlk hP hS hz dX12_said_77
    · replace h := zBr_t c7 h
      refine lv_iload_n (pc := 72) hx hb dX12_said_72 rfl (lv_at hl 2 rfl) ?_
      refine lv_goto (pc := 73) (tgt := 77) hx hb dX12_said_73 (by decide) ?_
      have hz := Option.some.inj h
      exact zr_rqI (pc := 77) cx hr hlk hP hS hz dX12_said_77
  · replace h := zBr_f c5 h
    refine lv_aload_n (pc := 32) hx hb dX12_said_32 rfl (lv_at hl 0 rfl) ?_
    refine lv_aload_n (pc := 33) hx hb dX12_said_33 rfl (lv_at hl 0 rfl) ?_
    refine zr_getR (pc := 34) (t := 2) cx lk_X12_98 hP nM_0 sM_0 rfl dX12_said_34 ?_
    refine lv_sipush (pc := 37) hx hb dX12_said_37 zs_165 ?_
    obtain ⟨g8, h⟩ := zGd_e h
    refine zr_iald (pc := 40) cx hP nM_2 sM_2 g8 dX12_said_40 ?_
    refine lv_iload_n (pc := 41) hx hb dX12_said_41 rfl (lv_at hl 3 rfl) ?_
    obtain ⟨r10, k9, h⟩ := zBd_e h
    refine zr_VI (pc := 42) (rest := []) cx cv_X12_440 ((gHO_ok 64) _ _ _ _ k9) ⟨⟨rfl, rfl⟩, Nat.le_of_ble_eq_true rfl, Nat.le_of_ble_eq_true rfl⟩ ⟨Nat.le_of_ble_eq_true rfl, Nat.le_of_ble_eq_true rfl⟩ hP nM_0 sM_0 rfl hl.1 rfl rfl (Nat.le_of_ble_eq_true rfl) dX12_said_42 ?_
    refine lv_if_ne (pc := 45) (tgt := 51) hx hb dX12_said_45 (by decide) (fun c11 => ?_) (fun c11 => ?_)
    · replace h := zBr_f c11 h
      refine lv_iload_n (pc := 51) hx hb dX12_said_51 rfl (lv_at hl 2 rfl) ?_
      refine lv_iload_n (pc := 52) hx hb dX12_said_52 rfl (lv_at hl 1 rfl) ?_
      refine lv_icmp_ne (pc := 53) (tgt := 58) hx hb dX12_said_53 (by decide) (fun c12 => ?_) (fun c12 => ?_)
      · replace h := zBr_f c12 h
        obtain ⟨x13, ex13, h⟩ := zLt_e h
        refine lv_iinc (v := x13) (lv' := [(2, .int x13), (0, .ref (q 0)), (1, .int v1), (3, .int v3)]) (pc := 58) hx hb dX12_said_58 hl (k := 2) rfl (by rw [zc_1]; exact ex13.symm) (by decide) rfl (fun ls hl => ?_)
        exact kX12_said_61 cx hr hlk hq hb1 hx1 h hc hP hS (lv_sub hl [1, 2, 0, 3] rfl)
      · replace h := zBr_t c12 h
        obtain ⟨y15, h, ex⟩ := zXr_e h
        have hc := hx1 y15 (by rw [ex] at hc; exact hc)
        rw [hc] at h
        refine lv_iload_n (pc := 56) hx hb dX12_said_56 rfl (lv_at hl 3 rfl) ?_
        have hz := Option.some.inj h
        exact zr_rqI (pc := 57) cx hr hlk hP hS hz dX12_said_57
    · replace h := zBr_t c11 h
      refine lv_goto (pc := 48) (tgt := 61) hx hb dX12_said_48 (by decide) ?_
      exact kX12_said_61 cx hr hlk hq hb1 hx1 h hc hP hS (lv_sub hl [0, 1, 2, 3] rfl)
set_option maxHeartbeats 4000000 in
set_option maxRecDepth 100000 in
theorem kX12_said_22 {p : Program} {l : Launch} {e : Env} {s : State} {m : MethodId} {args : Array Value} {below : List Frame} {meth : Method} {c : Code} {D : va_G} {cy : Nat → ClassId} {q : Nat → Nat} {A : Nat → Prop} (cx : zX RX12 cX12_said 4 p s m args c D cy) (hr : meth.sig.returnType = (some .int)) (hlk : meth.locks = false) (hq : zQ A q zNM) {z : (Int32 × zSt)} {S : zSt} {v1 : Int32} : ∀ (n : Nat) (v2 : Int32) (v3 : Int32), zLp (fX12_said_22 S v1) n (v2, v3) = some z → ∀ (H : Heap) (locs : List Loc), va_P D vwCl (zW zshM zNM cy q S) H → va_S A s.heap H locs → ∀ (ls : Array Slot), lv_has ls 4 [(0, .ref (q 0)), (1, .int v1), (2, .int v2), (3, .int v3)] → W p l e rmX12_said s m args below meth c H locs 0 0 (MQ below (va_Qi (fun (r : Int32) (u : zSt) => (r, u) = z) (fun u t => va_P D vwCl (zW zshM zNM cy q u) t.heap) A) args s 0 0 A) (F0 m 22 ls []) := by
  intro n
  induction n with
  | zero =>
    intro v2 v3 h
    cases h
  | succ n ih =>
    intro v2 v3 h H locs hP hS ls hl
    obtain ⟨x, h, hk⟩ := zLp_e h
    exact kX12_said_22B cx hr hlk hq  (C1 := zKt (fun t => zLp (fX12_said_22 S v1) n t = some z) (fun a => a = z)) (fun v2 v3 ht H locs hP hS ls hl => ih v2 v3 ht H locs hP hS ls hl) (fun a ha => ha) h hk hP hS hl
def fX12_said (S : zSt) (v1 : Int32) : Option (Int32 × zSt) :=
  zLt (zI S 0 0 (0 : Int32)) (fun S1 => zGd (zIx (164 : Int32) 406) (zBr ((S1.1 2 (164 : Int32).toNatClampNeg) = 0) (some ((-1 : Int32), S1)) (zLp (fX12_said_22 S1 v1) 2000 ((0 : Int32), (0 : Int32)))))
set_option maxHeartbeats 4000000 in
set_option maxRecDepth 100000 in
theorem mX12_said {l : Launch} {D : va_G} {cy : Nat → ClassId} {q : Nat → Nat} {A : Nat → Prop} {S : zSt} {v1 : Int32} (hq : zQ A q zNM) {z : (Int32 × zSt)} (h : fX12_said S v1 = some z) : zMq l yX12_said cX12_said 4 (some .int) rmX12_said [.ref (q 0), .int v1] zshM zNM D cy q A S z := by
  refine Met.ofW (cc := cX12_said) (maxL := 4) (ret := (some .int)) (by decide) rfl ?_
  intro p e s m args below meth c s₁ B hml hv
  obtain ⟨rfl, hP, hK⟩ := hv
  have cx : zX RX12 cX12_said 4 p s m ([.ref (q 0), .int v1]).toArray c D cy := ⟨B.exec, B.bytes, hml, findClass_of_methodNamed B.named, fun w hw => atoms_spec (ws := Cond.code yX12_said cX12_said 4 (some .int) :: zTB) B.pre w (List.mem_cons_of_mem _ hw), hK⟩
  have hx := cx.1
  have hb := cx.2.1
  have hr := B.returns
  have hlk := B.notSynchronized
  have hS : va_S A s.heap s.heap [] := va_S.rf
  have hl := lv_entry ([.ref (q 0), .int v1]) (n := 4) (Nat.le_of_ble_eq_true rfl)
  rw [lg_entry_eq]
  generalize (lg_sl ([.ref (q 0), .int v1]) ++ List.replicate (4 - (lg_sl ([.ref (q 0), .int v1])).length) Slot.unset).toArray = ls at hl ⊢
  have hl : lv_has ls 4 [(0, .ref (q 0)), (1, .int v1)] := hl
  unfold fX12_said at h
  refine lv_aload_n (pc := 0) hx hb dX12_said_0 rfl (lv_at hl 0 rfl) ?_
  refine lv_iconst (pc := 1) hx hb dX12_said_1 zc_0 ?_
  obtain ⟨S1, eS1, h⟩ := zLt_e h
  refine zr_putI (pc := 2) cx lq_X12_1 hq hP hS nM_0 sM_0 rfl rfl rfl dX12_said_2 (fun H locs hP hS => ?_)
  rw [← eS1] at hP
  refine lv_aload_n (pc := 5) hx hb dX12_said_5 rfl (lv_at hl 0 rfl) ?_
  refine zr_getR (pc := 6) (t := 2) cx lk_X12_98 hP nM_0 sM_0 rfl dX12_said_6 ?_
  refine lv_sipush (pc := 9) hx hb dX12_said_9 zs_164 ?_
  obtain ⟨g2, h⟩ := zGd_e h
  refine zr_iald (pc := 12) cx hP nM_2 sM_2 g2 dX12_said_12 ?_
  refine lv_if_ne (pc := 13) (tgt := 18) hx hb dX12_said_13 (by decide) (fun c3 => ?_) (fun c3 => ?_)
  · replace h := zBr_f c3 h
    refine lv_iconst (pc := 18) hx hb dX12_said_18 zc_0 ?_
    refine lv_istore_n (lv' := [(2, .int (0 : Int32)), (0, .ref (q 0)), (1, .int v1)]) (pc := 19) hx hb dX12_said_19 rfl hl (by decide) rfl (fun ls hl => ?_)
    refine lv_iconst (pc := 20) hx hb dX12_said_20 zc_0 ?_
    refine lv_istore_n (lv' := [(3, .int (0 : Int32)), (2, .int (0 : Int32)), (0, .ref (q 0)), (1, .int v1)]) (pc := 21) hx hb dX12_said_21 rfl hl (by decide) rfl (fun ls hl => ?_)
    exact kX12_said_22 cx hr hlk hq 2000 _ _ h _ _ hP hS _ (lv_sub hl [2, 3, 1, 0] rfl)
  · replace h := zBr_t c3 h
    refine lv_iconst (pc := 16) hx hb dX12_said_16 zc_m1 ?_
    have hz := Option.some.inj h
    exact zr_rqI (pc := 17) cx hr hlk hP hS hz dX12_said_17
-- X12_sentence
abbrev rmX12_sentence : Room := { frames := 66, cells := 0, slots := 0, locals := 1513 }
def fX12_sentence_79  (t : (zSt × Int32)) : Option ((zSt × Int32) ⊕ (Int32 × zSt)) :=
  match t with
  | (S, v1) => zBr ((240 : Int32) ≤ v1) (zXr (some ((S.1 0 42), S))) (zGd (zIx v1 240) (zGd (zIx ((166 : Int32) + v1) 406) (zLt (zI S 2 ((166 : Int32) + v1).toNatClampNeg (S.1 18 v1.toNatClampNeg)) (fun S19 => zLt (v1 + (1 : Int32)) (fun x20 => some (.inl (S19, x20)))))))
set_option maxHeartbeats 4000000 in
set_option maxRecDepth 100000 in
theorem kX12_sentence_79B {p : Program} {l : Launch} {e : Env} {s : State} {m : MethodId} {args : Array Value} {below : List Frame} {meth : Method} {c : Code} {D : va_G} {cy : Nat → ClassId} {q : Nat → Nat} {A : Nat → Prop} (cx : zX RX12 cX12_sentence 2 p s m args c D cy) (hr : meth.sig.returnType = (some .int)) (hlk : meth.locks = false) (hq : zQ A q zNM) {z : (Int32 × zSt)} {S : zSt} {v1 : Int32} {C1 : ((zSt × Int32) ⊕ (Int32 × zSt)) → Prop} (hb1 : ∀ (S : zSt) (v1 : Int32), C1 (.inl (S, v1)) → ∀ (H : Heap) (locs : List Loc), va_P D vwCl (zW zshM zNM cy q S) H → va_S A s.heap H locs → ∀ (ls : Array Slot), lv_has ls 2 [(0, .ref (q 0)), (1, .int v1)] → W p l e rmX12_sentence s m args below meth c H locs 0 0 (MQ below (va_Qi (fun (r : Int32) (u : zSt) => (r, u) = z) (fun u t => va_P D vwCl (zW zshM zNM cy q u) t.heap) A) args s 0 0 A) (F0 m 79 ls [])) (hx1 : ∀ a, C1 (.inr a) → a = z) {x : ((zSt × Int32) ⊕ (Int32 × zSt))} (h : fX12_sentence_79 (S, v1) = some x) (hc : C1 x) {H : Heap} {locs : List Loc} (hP : va_P D vwCl (zW zshM zNM cy q S) H) (hS : va_S A s.heap H locs) {ls : Array Slot} (hl : lv_has ls 2 [(0, .ref (q 0)), (1, .int v1)]) : W p l e rmX12_sentence s m args below meth c H locs 0 0 (MQ below (va_Qi (fun (r : Int32) (u : zSt) => (r, u) = z) (fun u t => va_P D vwCl (zW zshM zNM cy q u) t.heap) A) args s 0 0 A) (F0 m 79 ls []) := by
  have hx := cx.1
  have hb := cx.2.1
  unfold fX12_sentence_79 at h
  dsimp only at h
  refine lv_iload_n (pc := 79) hx hb dX12_sentence_79 rfl (lv_at hl 1 rfl) ?_
  refine lv_sipush (pc := 80) hx hb dX12_sentence_80 zs_240 ?_
  refine lv_icmp_ge (pc := 83) (tgt := 108) hx hb dX12_sentence_83 (by decide) (fun c15 => ?_) (fun c15 => ?_)
  · replace h := zBr_t c15 h
    obtain ⟨y16, h, ex⟩ := zXr_e h
    have hc := hx1 y16 (by rw [ex] at hc; exact hc)
    rw [hc] at h
    refine lv_aload_n (pc := 108) hx hb dX12_sentence_108 rfl (lv_at hl 0 rfl) ?_
    refine zr_getI (pc := 109) cx lk_X12_419 hP nM_0 sM_0 rfl dX12_sentence_109 ?_
    have hz := Option.some.inj h
    exact zr_rqI (pc := 112) cx hr hlk hP hS hz dX12_sentence_112
  · replace h := zBr_f c15 h
    refine lv_aload_n (pc := 86) hx hb dX12_sentence_86 rfl (lv_at hl 0 rfl) ?_
    refine zr_getR (pc := 87) (t := 2) cx lk_X12_98 hP nM_0 sM_0 rfl dX12_sentence_87 ?_
    refine lv_sipush (pc := 90) hx hb dX12_sentence_90 zs_166 ?_
    refine lv_iload_n (pc := 93) hx hb dX12_sentence_93 rfl (lv_at hl 1 rfl) ?_
    refine lv_iadd (pc := 94) hx hb dX12_sentence_94 ?_
    refine lv_aload_n (pc := 95) hx hb dX12_sentence_95 rfl (lv_at hl 0 rfl) ?_
    refine zr_getR (pc := 96) (t := 18) cx lk_X12_154 hP nM_0 sM_0 rfl dX12_sentence_96 ?_
    refine lv_iload_n (pc := 99) hx hb dX12_sentence_99 rfl (lv_at hl 1 rfl) ?_
    obtain ⟨g17, h⟩ := zGd_e h
    refine zr_iald (pc := 100) cx hP nM_18 sM_18 g17 dX12_sentence_100 ?_
    obtain ⟨g18, h⟩ := zGd_e h
    obtain ⟨S19, eS19, h⟩ := zLt_e h
    refine zr_iast (pc := 101) cx hq hP hS nM_2 sM_2 g18 dX12_sentence_101 (fun H locs hP hS => ?_)
    rw [← eS19] at hP
    obtain ⟨x20, ex20, h⟩ := zLt_e h
    refine lv_iinc (v := x20) (lv' := [(1, .int x20), (0, .ref (q 0))]) (pc := 102) hx hb dX12_sentence_102 hl (k := 1) rfl (by rw [zc_1]; exact ex20.symm) (by decide) rfl (fun ls hl => ?_)
    refine lv_goto (pc := 105) (tgt := 79) hx hb dX12_sentence_105 (by decide) ?_
    cases h
    exact hb1 _ _ hc _ _ hP hS _ (lv_sub hl [1, 0] rfl)
set_option maxHeartbeats 4000000 in
set_option maxRecDepth 100000 in
theorem kX12_sentence_79 {p : Program} {l : Launch} {e : Env} {s : State} {m : MethodId} {args : Array Value} {below : List Frame} {meth : Method} {c : Code} {D : va_G} {cy : Nat → ClassId} {q : Nat → Nat} {A : Nat → Prop} (cx : zX RX12 cX12_sentence 2 p s m args c D cy) (hr : meth.sig.returnType = (some .int)) (hlk : meth.locks = false) (hq : zQ A q zNM) {z : (Int32 × zSt)} : ∀ (n : Nat) (S : zSt) (v1 : Int32), zLp (fX12_sentence_79) n (S, v1) = some z → ∀ (H : Heap) (locs : List Loc), va_P D vwCl (zW zshM zNM cy q S) H → va_S A s.heap H locs → ∀ (ls : Array Slot), lv_has ls 2 [(0, .ref (q 0)), (1, .int v1)] → W p l e rmX12_sentence s m args below meth c H locs 0 0 (MQ below (va_Qi (fun (r : Int32) (u : zSt) => (r, u) = z) (fun u t => va_P D vwCl (zW zshM zNM cy q u) t.heap) A) args s 0 0 A) (F0 m 79 ls []) := by
  intro n
  induction n with
  | zero =>
    intro S v1 h
    cases h
  | succ n ih =>
    intro S v1 h H locs hP hS ls hl
    obtain ⟨x, h, hk⟩ := zLp_e h
    exact kX12_sentence_79B cx hr hlk hq  (C1 := zKt (fun t => zLp (fX12_sentence_79) n t = some z) (fun a => a = z)) (fun S v1 ht H locs hP hS ls hl => ih S v1 ht H locs hP hS ls hl) (fun a ha => ha) h hk hP hS hl
def fX12_sentence (S : zSt) : Option (Int32 × zSt) :=
  zBd (fX12_begin S (200 : Int32)) (fun S2 => zLt (zI S2 0 41 (0 : Int32)) (fun S3 => zLt (zI S3 0 42 (0 : Int32)) (fun S4 => zLt (zI S4 0 43 (0 : Int32)) (fun S5 => zBp (gSR 60 0 S5) (fun r8 S7 => zBr (r8 = 0) (some (((-1 : Int32) - (S7.1 0 11)), S7)) (zBr ((S7.1 0 7) = 0) (zGd (zIx (164 : Int32) 406) (zLt (zI S7 2 (164 : Int32).toNatClampNeg (1 : Int32)) (fun S12 => zGd (zIx (165 : Int32) 406) (zLt (zI S12 2 (165 : Int32).toNatClampNeg (S12.1 0 44)) (fun S14 => zLp (fX12_sentence_79) 2000 (S14, (0 : Int32))))))) (zBp (fX12_bad S7 (1 : Int32)) (fun r23 S22 => some (((-1 : Int32) - (S22.1 0 11)), S22)))))))))
set_option maxHeartbeats 4000000 in
set_option maxRecDepth 100000 in
theorem mX12_sentence {l : Launch} {D : va_G} {cy : Nat → ClassId} {q : Nat → Nat} {A : Nat → Prop} {S : zSt} (hq : zQ A q zNM) {z : (Int32 × zSt)} (h : fX12_sentence S = some z) : zMq l yX12_sentence cX12_sentence 2 (some .int) rmX12_sentence [.ref (q 0)] zshM zNM D cy q A S z := by
  refine Met.ofW (cc := cX12_sentence) (maxL := 2) (ret := (some .int)) (by decide) rfl ?_
  intro p e s m args below meth c s₁ B hml hv
  obtain ⟨rfl, hP, hK⟩ := hv
  have cx : zX RX12 cX12_sentence 2 p s m ([.ref (q 0)]).toArray c D cy := ⟨B.exec, B.bytes, hml, findClass_of_methodNamed B.named, fun w hw => atoms_spec (ws := Cond.code yX12_sentence cX12_sentence 2 (some .int) :: zTB) B.pre w (List.mem_cons_of_mem _ hw), hK⟩
  have hx := cx.1
  have hb := cx.2.1
  have hr := B.returns
  have hlk := B.notSynchronized
  have hS : va_S A s.heap s.heap [] := va_S.rf
  have hl := lv_entry ([.ref (q 0)]) (n := 2) (Nat.le_of_ble_eq_true rfl)
  rw [lg_entry_eq]
  generalize (lg_sl ([.ref (q 0)]) ++ List.replicate (2 - (lg_sl ([.ref (q 0)])).length) Slot.unset).toArray = ls at hl ⊢
  have hl : lv_has ls 2 [(0, .ref (q 0))] := hl
  unfold fX12_sentence at h
  refine lv_aload_n (pc := 0) hx hb dX12_sentence_0 rfl (lv_at hl 0 rfl) ?_
  refine lv_sipush (pc := 1) hx hb dX12_sentence_1 zs_200 ?_
  obtain ⟨S2, k1, h⟩ := zBd_e h
  refine zr_VV (pc := 4) (rest := []) cx cv_X12_206 (mX12_begin hq k1) ⟨⟨rfl, rfl⟩, Nat.le_of_ble_eq_true rfl, Nat.le_of_ble_eq_true rfl⟩ ⟨Nat.le_of_ble_eq_true rfl, Nat.le_of_ble_eq_true rfl⟩ hP hS nM_0 sM_0 rfl hl.1 rfl rfl (Nat.le_of_ble_eq_true rfl) dX12_sentence_4 (fun H locs hP hS => ?_)
  refine lv_aload_n (pc := 7) hx hb dX12_sentence_7 rfl (lv_at hl 0 rfl) ?_
  refine lv_iconst (pc := 8) hx hb dX12_sentence_8 zc_0 ?_
  obtain ⟨S3, eS3, h⟩ := zLt_e h
  refine zr_putI (pc := 9) cx lq_X12_403 hq hP hS nM_0 sM_0 rfl rfl rfl dX12_sentence_9 (fun H locs hP hS => ?_)
  rw [← eS3] at hP
  refine lv_aload_n (pc := 12) hx hb dX12_sentence_12 rfl (lv_at hl 0 rfl) ?_
  refine lv_iconst (pc := 13) hx hb dX12_sentence_13 zc_0 ?_
  obtain ⟨S4, eS4, h⟩ := zLt_e h
  refine zr_putI (pc := 14) cx lq_X12_419 hq hP hS nM_0 sM_0 rfl rfl rfl dX12_sentence_14 (fun H locs hP hS => ?_)
  rw [← eS4] at hP
  refine lv_aload_n (pc := 17) hx hb dX12_sentence_17 rfl (lv_at hl 0 rfl) ?_
  refine lv_iconst (pc := 18) hx hb dX12_sentence_18 zc_0 ?_
  obtain ⟨S5, eS5, h⟩ := zLt_e h
  refine zr_putI (pc := 19) cx lq_X12_422 hq hP hS nM_0 sM_0 rfl rfl rfl dX12_sentence_19 (fun H locs hP hS => ?_)
  rw [← eS5] at hP
  refine lv_aload_n (pc := 22) hx hb dX12_sentence_22 rfl (lv_at hl 0 rfl) ?_
  obtain ⟨r8, S7, k6, h⟩ := zBp_e h
  refine zr_VQ (pc := 23) (rest := []) cx cv_X12_437 ((gSR_ok hq 60).1 _ _ k6) ⟨⟨rfl, rfl⟩, Nat.le_of_ble_eq_true rfl, Nat.le_of_ble_eq_true rfl⟩ ⟨Nat.le_of_ble_eq_true rfl, Nat.le_of_ble_eq_true rfl⟩ hP hS nM_0 sM_0 rfl hl.1 rfl rfl (Nat.le_of_ble_eq_true rfl) dX12_sentence_23 (fun H locs hP hS => ?_)
  refine lv_if_ne (pc := 26) (tgt := 36) hx hb dX12_sentence_26 (by decide) (fun c9 => ?_) (fun c9 => ?_)
  · replace h := zBr_f c9 h
    refine lv_aload_n (pc := 36) hx hb dX12_sentence_36 rfl (lv_at hl 0 rfl) ?_
    refine zr_getI (pc := 37) cx lk_X12_30 hP nM_0 sM_0 rfl dX12_sentence_37 ?_
    refine lv_if_eq (pc := 40) (tgt := 56) hx hb dX12_sentence_40 (by decide) (fun c10 => ?_) (fun c10 => ?_)
    · replace h := zBr_t c10 h
      refine lv_aload_n (pc := 56) hx hb dX12_sentence_56 rfl (lv_at hl 0 rfl) ?_
      refine zr_getR (pc := 57) (t := 2) cx lk_X12_98 hP nM_0 sM_0 rfl dX12_sentence_57 ?_
      refine lv_sipush (pc := 60) hx hb dX12_sentence_60 zs_164 ?_
      refine lv_iconst (pc := 63) hx hb dX12_sentence_63 zc_1 ?_
      obtain ⟨g11, h⟩ := zGd_e h
      obtain ⟨S12, eS12, h⟩ := zLt_e h
      refine zr_iast (pc := 64) cx hq hP hS nM_2 sM_2 g11 dX12_sentence_64 (fun H locs hP hS => ?_)
      rw [← eS12] at hP
      refine lv_aload_n (pc := 65) hx hb dX12_sentence_65 rfl (lv_at hl 0 rfl) ?_
      refine zr_getR (pc := 66) (t := 2) cx lk_X12_98 hP nM_0 sM_0 rfl dX12_sentence_66 ?_
      refine lv_sipush (pc := 69) hx hb dX12_sentence_69 zs_165 ?_
      refine lv_aload_n (pc := 72) hx hb dX12_sentence_72 rfl (lv_at hl 0 rfl) ?_
      refine zr_getI (pc := 73) cx lk_X12_409 hP nM_0 sM_0 rfl dX12_sentence_73 ?_
      obtain ⟨g13, h⟩ := zGd_e h
      obtain ⟨S14, eS14, h⟩ := zLt_e h
      refine zr_iast (pc := 76) cx hq hP hS nM_2 sM_2 g13 dX12_sentence_76 (fun H locs hP hS => ?_)
      rw [← eS14] at hP
      refine lv_iconst (pc := 77) hx hb dX12_sentence_77 zc_0 ?_
      refine lv_istore_n (lv' := [(1, .int (0 : Int32)), (0, .ref (q 0))]) (pc := 78) hx hb dX12_sentence_78 rfl hl (by decide) rfl (fun ls hl => ?_)
      exact kX12_sentence_79 cx hr hlk hq 2000 _ _ h _ _ hP hS _ (lv_sub hl [1, 0] rfl)
    · replace h := zBr_f c10 h
      refine lv_aload_n (pc := 43) hx hb dX12_sentence_43 rfl (lv_at hl 0 rfl) ?_
      refine lv_iconst (pc := 44) hx hb dX12_sentence_44 zc_1 ?_
      obtain ⟨r23, S22, k21, h⟩ := zBp_e h
      refine zr_VQ (pc := 45) (rest := []) cx cv_X12_72 (mX12_bad hq k21) ⟨⟨rfl, rfl⟩, Nat.le_of_ble_eq_true rfl, Nat.le_of_ble_eq_true rfl⟩ ⟨Nat.le_of_ble_eq_true rfl, Nat.le_of_ble_eq_true rfl⟩ hP hS nM_0 sM_0 rfl hl.1 rfl rfl (Nat.le_of_ble_eq_true rfl) dX12_sentence_45 (fun H locs hP hS => ?_)
      refine lv_pop (pc := 48) hx hb dX12_sentence_48 rfl ?_
      refine lv_iconst (pc := 49) hx hb dX12_sentence_49 zc_m1 ?_
      refine lv_aload_n (pc := 50) hx hb dX12_sentence_50 rfl (lv_at hl 0 rfl) ?_
      refine zr_getI (pc := 51) cx lk_X12_69 hP nM_0 sM_0 rfl dX12_sentence_51 ?_
      refine lv_isub (pc := 54) hx hb dX12_sentence_54 ?_
      have hz := Option.some.inj h
      exact zr_rqI (pc := 55) cx hr hlk hP hS hz dX12_sentence_55
  · replace h := zBr_t c9 h
    refine lv_iconst (pc := 29) hx hb dX12_sentence_29 zc_m1 ?_
    refine lv_aload_n (pc := 30) hx hb dX12_sentence_30 rfl (lv_at hl 0 rfl) ?_
    refine zr_getI (pc := 31) cx lk_X12_69 hP nM_0 sM_0 rfl dX12_sentence_31 ?_
    refine lv_isub (pc := 34) hx hb dX12_sentence_34 ?_
    have hz := Option.some.inj h
    exact zr_rqI (pc := 35) cx hr hlk hP hS hz dX12_sentence_35
