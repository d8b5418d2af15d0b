/-! append of a number, printed by wip/gen/sb2.py -/
theorem sz_a : ∀ k, k < 10 → ¬ (-(nI k)) ≤ (-10 : Int32) := by decide
theorem sz_b : ∀ k, k < 13 → 10 ≤ k → (-(nI k)) ≤ (-10 : Int32) ∧ ¬ (-(nI k)) ≤ ((10 : Int32) * (-10 : Int32)) := by decide
theorem sz_c : ∀ k, k < 13 → ¬ nI k < 0 := by decide
theorem dig1 {k : Nat} (h : k < 10) : (dig k).length = 1 := by unfold dig; rw [if_pos h]; rfl
theorem dig2 {k : Nat} (h : ¬ k < 10) : (dig k).length = 2 := by unfold dig; rw [if_neg h]; rfl
theorem dJ6_stringSize_0f7a4_0 : decode cJ6_stringSize_0f7a4 0 = .ok (.iconst 1, 1) := by decide +kernel
theorem dJ6_stringSize_0f7a4_1 : decode cJ6_stringSize_0f7a4 1 = .ok (.istore_n 1, 1) := by decide +kernel
theorem dJ6_stringSize_0f7a4_2 : decode cJ6_stringSize_0f7a4 2 = .ok (.iload_n 0, 1) := by decide +kernel
theorem dJ6_stringSize_0f7a4_3 : decode cJ6_stringSize_0f7a4 3 = .ok (.ifCond .lt 8, 3) := by decide +kernel
theorem dJ6_stringSize_0f7a4_6 : decode cJ6_stringSize_0f7a4 6 = .ok (.iconst 0, 1) := by decide +kernel
theorem dJ6_stringSize_0f7a4_7 : decode cJ6_stringSize_0f7a4 7 = .ok (.istore_n 1, 1) := by decide +kernel
theorem dJ6_stringSize_0f7a4_8 : decode cJ6_stringSize_0f7a4 8 = .ok (.iload_n 0, 1) := by decide +kernel
theorem dJ6_stringSize_0f7a4_9 : decode cJ6_stringSize_0f7a4 9 = .ok (.ineg, 1) := by decide +kernel
theorem dJ6_stringSize_0f7a4_10 : decode cJ6_stringSize_0f7a4 10 = .ok (.istore_n 0, 1) := by decide +kernel
theorem dJ6_stringSize_0f7a4_11 : decode cJ6_stringSize_0f7a4 11 = .ok (.bipush (-10), 2) := by decide +kernel
theorem zb_m10 : (Int8.ofInt (-10)).toInt32 = (-10 : Int32) := by decide
theorem dJ6_stringSize_0f7a4_13 : decode cJ6_stringSize_0f7a4 13 = .ok (.istore_n 2, 1) := by decide +kernel
theorem dJ6_stringSize_0f7a4_14 : decode cJ6_stringSize_0f7a4 14 = .ok (.iconst 1, 1) := by decide +kernel
theorem dJ6_stringSize_0f7a4_15 : decode cJ6_stringSize_0f7a4 15 = .ok (.istore_n 3, 1) := by decide +kernel
theorem dJ6_stringSize_0f7a4_16 : decode cJ6_stringSize_0f7a4 16 = .ok (.iload_n 3, 1) := by decide +kernel
theorem dJ6_stringSize_0f7a4_17 : decode cJ6_stringSize_0f7a4 17 = .ok (.bipush 10, 2) := by decide +kernel
theorem dJ6_stringSize_0f7a4_19 : decode cJ6_stringSize_0f7a4 19 = .ok (.if_icmp .ge 23, 3) := by decide +kernel
theorem dJ6_stringSize_0f7a4_22 : decode cJ6_stringSize_0f7a4 22 = .ok (.iload_n 0, 1) := by decide +kernel
theorem dJ6_stringSize_0f7a4_23 : decode cJ6_stringSize_0f7a4 23 = .ok (.iload_n 2, 1) := by decide +kernel
theorem dJ6_stringSize_0f7a4_24 : decode cJ6_stringSize_0f7a4 24 = .ok (.if_icmp .le 7, 3) := by decide +kernel
theorem dJ6_stringSize_0f7a4_27 : decode cJ6_stringSize_0f7a4 27 = .ok (.iload_n 3, 1) := by decide +kernel
theorem dJ6_stringSize_0f7a4_28 : decode cJ6_stringSize_0f7a4 28 = .ok (.iload_n 1, 1) := by decide +kernel
theorem dJ6_stringSize_0f7a4_29 : decode cJ6_stringSize_0f7a4 29 = .ok (.iadd, 1) := by decide +kernel
theorem dJ6_stringSize_0f7a4_30 : decode cJ6_stringSize_0f7a4 30 = .ok (.ireturn, 1) := by decide +kernel
theorem dJ6_stringSize_0f7a4_31 : decode cJ6_stringSize_0f7a4 31 = .ok (.bipush 10, 2) := by decide +kernel
theorem dJ6_stringSize_0f7a4_33 : decode cJ6_stringSize_0f7a4 33 = .ok (.iload_n 2, 1) := by decide +kernel
theorem dJ6_stringSize_0f7a4_34 : decode cJ6_stringSize_0f7a4 34 = .ok (.imul, 1) := by decide +kernel
theorem dJ6_stringSize_0f7a4_35 : decode cJ6_stringSize_0f7a4 35 = .ok (.istore_n 2, 1) := by decide +kernel
theorem dJ6_stringSize_0f7a4_36 : decode cJ6_stringSize_0f7a4 36 = .ok (.iinc 3 1, 3) := by decide +kernel
theorem dJ6_stringSize_0f7a4_39 : decode cJ6_stringSize_0f7a4 39 = .ok (.goto (-23), 3) := by decide +kernel
abbrev rmJ6_stringSize_0f7a4 : Room := { frames := 1, cells := 0, slots := 0, locals := 0 }
set_option maxHeartbeats 1000000 in
set_option maxRecDepth 100000 in
theorem mJ6_stringSize {l : Launch} {D : va_G} {cy : Nat → ClassId} {kK kV : Nat → Nat} {k : Nat} (hk : k < 13) : zMi l yJ6_stringSize_0f7a4 cJ6_stringSize_0f7a4 4 (some .int) rmJ6_stringSize_0f7a4 [.int (nI k)] (zPe D cy kK kV (fun _ => False)) (nI (dig k).length) := by
  refine Met.ofW (cc := cJ6_stringSize_0f7a4) (maxL := 4) (ret := (some .int)) (by decide) rfl ?_
  intro p e s m args below meth c s₁ B hml hv
  obtain ⟨rfl, hK, hE⟩ := hv
  have cx : zX RJ6 cJ6_stringSize_0f7a4 4 p s m ([.int (nI k)]).toArray c D cy := ⟨B.exec, B.bytes, hml, findClass_of_methodNamed B.named, fun w hw => atoms_spec (ws := Cond.code yJ6_stringSize_0f7a4 cJ6_stringSize_0f7a4 4 (some .int) :: zTB) B.pre w (List.mem_cons_of_mem _ hw), hK⟩
  have hx := cx.1
  have hb := cx.2.1
  have hr := B.returns
  have hlk := B.notSynchronized
  have hl := lv_entry ([.int (nI k)]) (n := 4) (Nat.le_of_ble_eq_true rfl)
  rw [lg_entry_eq]
  generalize (lg_sl ([.int (nI k)]) ++ List.replicate (4 - (lg_sl ([.int (nI k)])).length) Slot.unset).toArray = ls at hl ⊢
  have hl : lv_has ls 4 [(0, .int (nI k))] := hl
  by_cases h9 : k < 10
  · refine lv_iconst (pc := 0) hx hb dJ6_stringSize_0f7a4_0 zc_1 ?_
    refine lv_istore_n (lv' := [(1, .int (1 : Int32)), (0, .int (nI k))]) (pc := 1) hx hb dJ6_stringSize_0f7a4_1 rfl hl (by decide) rfl (fun ls hl => ?_)
    refine lv_iload_n (pc := 2) hx hb dJ6_stringSize_0f7a4_2 rfl (lv_at hl 1 rfl) ?_
    refine lv_if_lt (pc := 3) (tgt := 11) hx hb dJ6_stringSize_0f7a4_3 (by decide) (fun c0 => absurd c0 (sz_c k hk)) (fun c0 => ?_)
    refine lv_iconst (pc := 6) hx hb dJ6_stringSize_0f7a4_6 zc_0 ?_
    refine lv_istore_n (lv' := [(1, .int (0 : Int32)), (0, .int (nI k))]) (pc := 7) hx hb dJ6_stringSize_0f7a4_7 rfl hl (by decide) rfl (fun ls hl => ?_)
    refine lv_iload_n (pc := 8) hx hb dJ6_stringSize_0f7a4_8 rfl (lv_at hl 1 rfl) ?_
    refine lv_ineg (pc := 9) hx hb dJ6_stringSize_0f7a4_9 ?_
    refine lv_istore_n (lv' := [(0, .int (-(nI k))), (1, .int (0 : Int32))]) (pc := 10) hx hb dJ6_stringSize_0f7a4_10 rfl hl (by decide) rfl (fun ls hl => ?_)
    refine lv_bipush (pc := 11) hx hb dJ6_stringSize_0f7a4_11 zb_m10 ?_
    refine lv_istore_n (lv' := [(2, .int (-10 : Int32)), (0, .int (-(nI k))), (1, .int (0 : Int32))]) (pc := 13) hx hb dJ6_stringSize_0f7a4_13 rfl hl (by decide) rfl (fun ls hl => ?_)
    refine lv_iconst (pc := 14) hx hb dJ6_stringSize_0f7a4_14 zc_1 ?_
    refine lv_istore_n (lv' := [(3, .int (1 : Int32)), (2, .int (-10 : Int32)), (0, .int (-(nI k))), (1, .int (0 : Int32))]) (pc := 15) hx hb dJ6_stringSize_0f7a4_15 rfl hl (by decide) rfl (fun ls hl => ?_)
    refine lv_iload_n (pc := 16) hx hb dJ6_stringSize_0f7a4_16 rfl (lv_at hl 0 rfl) ?_
    refine lv_bipush (pc := 17) hx hb dJ6_stringSize_0f7a4_17 zb_10 ?_
    refine lv_icmp_ge (pc := 19) (tgt := 42) hx hb dJ6_stringSize_0f7a4_19 (by decide) (fun c0 => absurd c0 (by decide)) (fun c0 => ?_)
    refine lv_iload_n (pc := 22) hx hb dJ6_stringSize_0f7a4_22 rfl (lv_at hl 2 rfl) ?_
    refine lv_iload_n (pc := 23) hx hb dJ6_stringSize_0f7a4_23 rfl (lv_at hl 1 rfl) ?_
    refine lv_icmp_le (pc := 24) (tgt := 31) hx hb dJ6_stringSize_0f7a4_24 (by decide) (fun c0 => absurd c0 (sz_a k h9)) (fun c0 => ?_)
    refine lv_iload_n (pc := 27) hx hb dJ6_stringSize_0f7a4_27 rfl (lv_at hl 0 rfl) ?_
    refine lv_iload_n (pc := 28) hx hb dJ6_stringSize_0f7a4_28 rfl (lv_at hl 3 rfl) ?_
    refine lv_iadd (pc := 29) hx hb dJ6_stringSize_0f7a4_29 ?_
    exact zr_reN (pc := 30) cx hr hlk (by rw [dig1 h9]; decide) rfl dJ6_stringSize_0f7a4_30
  · refine lv_iconst (pc := 0) hx hb dJ6_stringSize_0f7a4_0 zc_1 ?_
    refine lv_istore_n (lv' := [(1, .int (1 : Int32)), (0, .int (nI k))]) (pc := 1) hx hb dJ6_stringSize_0f7a4_1 rfl hl (by decide) rfl (fun ls hl => ?_)
    refine lv_iload_n (pc := 2) hx hb dJ6_stringSize_0f7a4_2 rfl (lv_at hl 1 rfl) ?_
    refine lv_if_lt (pc := 3) (tgt := 11) hx hb dJ6_stringSize_0f7a4_3 (by decide) (fun c0 => absurd c0 (sz_c k hk)) (fun c0 => ?_)
    refine lv_iconst (pc := 6) hx hb dJ6_stringSize_0f7a4_6 zc_0 ?_
    refine lv_istore_n (lv' := [(1, .int (0 : Int32)), (0, .int (nI k))]) (pc := 7) hx hb dJ6_stringSize_0f7a4_7 rfl hl (by decide) rfl (fun ls hl => ?_)
    refine lv_iload_n (pc := 8) hx hb dJ6_stringSize_0f7a4_8 rfl (lv_at hl 1 rfl) ?_
    refine lv_ineg (pc := 9) hx hb dJ6_stringSize_0f7a4_9 ?_
    refine lv_istore_n (lv' := [(0, .int (-(nI k))), (1, .int (0 : Int32))]) (pc := 10) hx hb dJ6_stringSize_0f7a4_10 rfl hl (by decide) rfl (fun ls hl => ?_)
    refine lv_bipush (pc := 11) hx hb dJ6_stringSize_0f7a4_11 zb_m10 ?_
    refine lv_istore_n (lv' := [(2, .int (-10 : Int32)), (0, .int (-(nI k))), (1, .int (0 : Int32))]) (pc := 13) hx hb dJ6_stringSize_0f7a4_13 rfl hl (by decide) rfl (fun ls hl => ?_)
    refine lv_iconst (pc := 14) hx hb dJ6_stringSize_0f7a4_14 zc_1 ?_
    refine lv_istore_n (lv' := [(3, .int (1 : Int32)), (2, .int (-10 : Int32)), (0, .int (-(nI k))), (1, .int (0 : Int32))]) (pc := 15) hx hb dJ6_stringSize_0f7a4_15 rfl hl (by decide) rfl (fun ls hl => ?_)
    refine lv_iload_n (pc := 16) hx hb dJ6_stringSize_0f7a4_16 rfl (lv_at hl 0 rfl) ?_
    refine lv_bipush (pc := 17) hx hb dJ6_stringSize_0f7a4_17 zb_10 ?_
    refine lv_icmp_ge (pc := 19) (tgt := 42) hx hb dJ6_stringSize_0f7a4_19 (by decide) (fun c0 => absurd c0 (by decide)) (fun c0 => ?_)
    refine lv_iload_n (pc := 22) hx hb dJ6_stringSize_0f7a4_22 rfl (lv_at hl 2 rfl) ?_
    refine lv_iload_n (pc := 23) hx hb dJ6_stringSize_0f7a4_23 rfl (lv_at hl 1 rfl) ?_
    refine lv_icmp_le (pc := 24) (tgt := 31) hx hb dJ6_stringSize_0f7a4_24 (by decide) (fun c0 => ?_) (fun c0 => absurd (sz_b k hk (by omega)).1 c0)
    refine lv_bipush (pc := 31) hx hb dJ6_stringSize_0f7a4_31 zb_10 ?_
    refine lv_iload_n (pc := 33) hx hb dJ6_stringSize_0f7a4_33 rfl (lv_at hl 1 rfl) ?_
    refine lv_imul (pc := 34) hx hb dJ6_stringSize_0f7a4_34 ?_
    refine lv_istore_n (lv' := [(2, .int ((10 : Int32) * (-10 : Int32))), (3, .int (1 : Int32)), (0, .int (-(nI k))), (1, .int (0 : Int32))]) (pc := 35) hx hb dJ6_stringSize_0f7a4_35 rfl hl (by decide) rfl (fun ls hl => ?_)
    refine lv_iinc (v := ((1 : Int32) + (1 : Int32))) (lv' := [(3, .int ((1 : Int32) + (1 : Int32))), (2, .int ((10 : Int32) * (-10 : Int32))), (0, .int (-(nI k))), (1, .int (0 : Int32))]) (pc := 36) hx hb dJ6_stringSize_0f7a4_36 hl (k := 1) rfl (by rw [zc_1]) (by decide) rfl (fun ls hl => ?_)
    refine lv_goto (pc := 39) (tgt := 16) hx hb dJ6_stringSize_0f7a4_39 (by decide) ?_
    refine lv_iload_n (pc := 16) hx hb dJ6_stringSize_0f7a4_16 rfl (lv_at hl 0 rfl) ?_
    refine lv_bipush (pc := 17) hx hb dJ6_stringSize_0f7a4_17 zb_10 ?_
    refine lv_icmp_ge (pc := 19) (tgt := 42) hx hb dJ6_stringSize_0f7a4_19 (by decide) (fun c0 => absurd c0 (by decide)) (fun c0 => ?_)
    refine lv_iload_n (pc := 22) hx hb dJ6_stringSize_0f7a4_22 rfl (lv_at hl 2 rfl) ?_
    refine lv_iload_n (pc := 23) hx hb dJ6_stringSize_0f7a4_23 rfl (lv_at hl 1 rfl) ?_
    refine lv_icmp_le (pc := 24) (tgt := 31) hx hb dJ6_stringSize_0f7a4_24 (by decide) (fun c0 => absurd c0 (sz_b k hk (by omega)).2) (fun c0 => ?_)
    refine lv_iload_n (pc := 27) hx hb dJ6_stringSize_0f7a4_27 rfl (lv_at hl 0 rfl) ?_
    refine lv_iload_n (pc := 28) hx hb dJ6_stringSize_0f7a4_28 rfl (lv_at hl 3 rfl) ?_
    refine lv_iadd (pc := 29) hx hb dJ6_stringSize_0f7a4_29 ?_
    exact zr_reN (pc := 30) cx hr hlk (by rw [dig2 h9]; decide) rfl dJ6_stringSize_0f7a4_30

theorem by_nar : ∀ c, c < 128 → vp_nar .byte (nI c) = nI c := by decide +kernel
theorem gc_a : ∀ k, k < 13 → (-100 : Int32) < -(nI k) ∧ 0 ≤ nI k := by decide
theorem gc_b : ∀ k, k < 10 → (-9 : Int32) ≤ -(nI k) := by decide
theorem gc_c : ∀ k, k < 13 → 10 ≤ k → ¬ (-9 : Int32) ≤ -(nI k) := by decide
theorem gc_d : ∀ k, k < 13 → -(-(nI k)) = nI k := by decide
def dgG (g : Nat → Int32) (m k : Nat) : Nat → Int32 := if k < 10 then upd g m (nI (48 + k % 10)) else upd (upd g (m + 1) (nI (48 + k % 10))) m (nI (48 + k / 10))
theorem dJ6_getChars_ba4f3_0 : decode cJ6_getChars_ba4f3 0 = .ok (.iload_n 1, 1) := by decide +kernel
theorem dJ6_getChars_ba4f3_1 : decode cJ6_getChars_ba4f3 1 = .ok (.istore 5, 2) := by decide +kernel
theorem dJ6_getChars_ba4f3_3 : decode cJ6_getChars_ba4f3 3 = .ok (.iload_n 0, 1) := by decide +kernel
theorem dJ6_getChars_ba4f3_4 : decode cJ6_getChars_ba4f3 4 = .ok (.ifCond .ge 7, 3) := by decide +kernel
theorem dJ6_getChars_ba4f3_11 : decode cJ6_getChars_ba4f3 11 = .ok (.iconst 0, 1) := by decide +kernel
theorem dJ6_getChars_ba4f3_12 : decode cJ6_getChars_ba4f3 12 = .ok (.istore 6, 2) := by decide +kernel
theorem dJ6_getChars_ba4f3_14 : decode cJ6_getChars_ba4f3 14 = .ok (.iload 6, 2) := by decide +kernel
theorem dJ6_getChars_ba4f3_16 : decode cJ6_getChars_ba4f3 16 = .ok (.ifCond .ne 6, 3) := by decide +kernel
theorem dJ6_getChars_ba4f3_19 : decode cJ6_getChars_ba4f3 19 = .ok (.iload_n 0, 1) := by decide +kernel
theorem dJ6_getChars_ba4f3_20 : decode cJ6_getChars_ba4f3 20 = .ok (.ineg, 1) := by decide +kernel
theorem dJ6_getChars_ba4f3_21 : decode cJ6_getChars_ba4f3 21 = .ok (.istore_n 0, 1) := by decide +kernel
theorem dJ6_getChars_ba4f3_22 : decode cJ6_getChars_ba4f3 22 = .ok (.iload_n 0, 1) := by decide +kernel
theorem dJ6_getChars_ba4f3_23 : decode cJ6_getChars_ba4f3 23 = .ok (.bipush (-100), 2) := by decide +kernel
theorem zb_m100 : (Int8.ofInt (-100)).toInt32 = (-100 : Int32) := by decide
theorem dJ6_getChars_ba4f3_25 : decode cJ6_getChars_ba4f3 25 = .ok (.if_icmp .gt 47, 3) := by decide +kernel
theorem dJ6_getChars_ba4f3_72 : decode cJ6_getChars_ba4f3 72 = .ok (.aload_n 2, 1) := by decide +kernel
theorem dJ6_getChars_ba4f3_73 : decode cJ6_getChars_ba4f3 73 = .ok (.iinc 5 (-1), 3) := by decide +kernel
theorem dJ6_getChars_ba4f3_76 : decode cJ6_getChars_ba4f3 76 = .ok (.iload 5, 2) := by decide +kernel
theorem dJ6_getChars_ba4f3_78 : decode cJ6_getChars_ba4f3 78 = .ok (.getstatic 83, 3) := by decide +kernel
theorem wd_1148 : (Jvm.Cond.fieldLink "java/lang/Integer" (83 : Nat) "java/lang/Integer" "DigitOnes" "[B") ∈ zTB := List.mem_filter.mpr ⟨List.mem_append_right _ (List.mem_append_right _ (List.mem_append_right _ (List.mem_append_right _ (List.mem_append_right _ (List.mem_append_left _ (List.mem_of_getElem? (i := 188) rfl)))))), rfl⟩
theorem dJ6_getChars_ba4f3_81 : decode cJ6_getChars_ba4f3 81 = .ok (.iload_n 0, 1) := by decide +kernel
theorem dJ6_getChars_ba4f3_82 : decode cJ6_getChars_ba4f3 82 = .ok (.ineg, 1) := by decide +kernel
theorem dJ6_getChars_ba4f3_83 : decode cJ6_getChars_ba4f3 83 = .ok (.baload, 1) := by decide +kernel
theorem dJ6_getChars_ba4f3_84 : decode cJ6_getChars_ba4f3 84 = .ok (.bastore, 1) := by decide +kernel
theorem dJ6_getChars_ba4f3_85 : decode cJ6_getChars_ba4f3 85 = .ok (.iload_n 0, 1) := by decide +kernel
theorem dJ6_getChars_ba4f3_86 : decode cJ6_getChars_ba4f3 86 = .ok (.bipush (-9), 2) := by decide +kernel
theorem zb_m9 : (Int8.ofInt (-9)).toInt32 = (-9 : Int32) := by decide
theorem dJ6_getChars_ba4f3_88 : decode cJ6_getChars_ba4f3 88 = .ok (.if_icmp .ge 16, 3) := by decide +kernel
theorem dJ6_getChars_ba4f3_104 : decode cJ6_getChars_ba4f3 104 = .ok (.iload 6, 2) := by decide +kernel
theorem dJ6_getChars_ba4f3_106 : decode cJ6_getChars_ba4f3 106 = .ok (.ifCond .eq 12, 3) := by decide +kernel
theorem dJ6_getChars_ba4f3_118 : decode cJ6_getChars_ba4f3 118 = .ok (.iload 5, 2) := by decide +kernel
theorem dJ6_getChars_ba4f3_120 : decode cJ6_getChars_ba4f3 120 = .ok (.ireturn, 1) := by decide +kernel
theorem dJ6_getChars_ba4f3_91 : decode cJ6_getChars_ba4f3 91 = .ok (.aload_n 2, 1) := by decide +kernel
theorem dJ6_getChars_ba4f3_92 : decode cJ6_getChars_ba4f3 92 = .ok (.iinc 5 (-1), 3) := by decide +kernel
theorem dJ6_getChars_ba4f3_95 : decode cJ6_getChars_ba4f3 95 = .ok (.iload 5, 2) := by decide +kernel
theorem dJ6_getChars_ba4f3_97 : decode cJ6_getChars_ba4f3 97 = .ok (.getstatic 87, 3) := by decide +kernel
theorem wd_1150 : (Jvm.Cond.fieldLink "java/lang/Integer" (87 : Nat) "java/lang/Integer" "DigitTens" "[B") ∈ zTB := List.mem_filter.mpr ⟨List.mem_append_right _ (List.mem_append_right _ (List.mem_append_right _ (List.mem_append_right _ (List.mem_append_right _ (List.mem_append_left _ (List.mem_of_getElem? (i := 190) rfl)))))), rfl⟩
theorem dJ6_getChars_ba4f3_100 : decode cJ6_getChars_ba4f3 100 = .ok (.iload_n 0, 1) := by decide +kernel
theorem dJ6_getChars_ba4f3_101 : decode cJ6_getChars_ba4f3 101 = .ok (.ineg, 1) := by decide +kernel
theorem dJ6_getChars_ba4f3_102 : decode cJ6_getChars_ba4f3 102 = .ok (.baload, 1) := by decide +kernel
theorem dJ6_getChars_ba4f3_103 : decode cJ6_getChars_ba4f3 103 = .ok (.bastore, 1) := by decide +kernel
abbrev rmJ6_getChars_ba4f3 : Room := { frames := 1, cells := 0, slots := 0, locals := 0 }
set_option maxHeartbeats 1000000 in
set_option maxRecDepth 100000 in
theorem mJ6_getChars {l : Launch} {D : va_G} {cy : Nat → ClassId} {kK kV : Nat → Nat} {A : Nat → Prop} {b : Nat} {n P : Int32} {u : zU} {k mm : Nat} (hk : k < 13) (hc : u.2.1 < 100) (hm : mm + (dig k).length ≤ u.2.1) (hPk : P = nI (mm + (dig k).length)) (hD : va_D A (zBx cy b n u))  : zMg l yJ6_getChars_ba4f3 cJ6_getChars_ba4f3 7 (some .int) rmJ6_getChars_ba4f3 [.int (nI k), .int P, .ref u.1] D cy kK kV A (zBx cy b n u) (zBx cy b n (u.1, u.2.1, u.2.2.1, dgG u.2.2.2 mm k)) := by
  refine Met.ofW (cc := cJ6_getChars_ba4f3) (maxL := 7) (ret := (some .int)) (by decide) rfl ?_
  intro p e s m args below meth c s₁ B hml hv
  obtain ⟨rfl, hA, hP, hK, hE⟩ := hv
  have cx : zX RJ6 cJ6_getChars_ba4f3 7 p s m ([.int (nI k), .int P, .ref u.1]).toArray c D cy := ⟨B.exec, B.bytes, hml, findClass_of_methodNamed B.named, fun w hw => atoms_spec (ws := Cond.code yJ6_getChars_ba4f3 cJ6_getChars_ba4f3 7 (some .int) :: zTB) B.pre w (List.mem_cons_of_mem _ hw), hK⟩
  have hx := cx.1
  have hb := cx.2.1
  have hr := B.returns
  have hlk := B.notSynchronized
  have hS : va_S A s.heap s.heap [] := va_S.rf
  have hdl : (k < 10 ∧ (dig k).length = 1) ∨ (¬ k < 10 ∧ (dig k).length = 2) := by by_cases h : k < 10; exact Or.inl ⟨h, dig1 h⟩; exact Or.inr ⟨h, dig2 h⟩
  have hl := lv_entry ([.int (nI k), .int P, .ref u.1]) (n := 7) (Nat.le_of_ble_eq_true rfl)
  rw [lg_entry_eq]
  generalize (lg_sl ([.int (nI k), .int P, .ref u.1]) ++ List.replicate (7 - (lg_sl ([.int (nI k), .int P, .ref u.1])).length) Slot.unset).toArray = ls at hl ⊢
  have hl : lv_has ls 7 [(0, .int (nI k)), (1, .int P), (2, .ref u.1)] := hl
  obtain ⟨⟨t1, t2, hZ1, hT1, hZ2, hT2⟩, -⟩ := hE.2.2.2.2.2
  by_cases h9 : k < 10
  · have eP : P = nI (mm + 1) := by rw [hPk, dig1 h9]
    subst eP
    refine lv_iload_n (pc := 0) hx hb dJ6_getChars_ba4f3_0 rfl (lv_at hl 1 rfl) ?_
    refine lv_istore (lv' := [(5, .int (nI (mm + 1))), (0, .int (nI k)), (1, .int (nI (mm + 1))), (2, .ref u.1)]) (pc := 1) hx hb dJ6_getChars_ba4f3_1 hl (by decide) rfl (fun ls hl => ?_)
    refine lv_iload_n (pc := 3) hx hb dJ6_getChars_ba4f3_3 rfl (lv_at hl 1 rfl) ?_
    refine lv_if_ge (pc := 4) (tgt := 11) hx hb dJ6_getChars_ba4f3_4 (by decide) (fun c0 => ?_) (fun c0 => absurd (gc_a k hk).2 c0)
    refine lv_iconst (pc := 11) hx hb dJ6_getChars_ba4f3_11 zc_0 ?_
    refine lv_istore (lv' := [(6, .int (0 : Int32)), (5, .int (nI (mm + 1))), (0, .int (nI k)), (1, .int (nI (mm + 1))), (2, .ref u.1)]) (pc := 12) hx hb dJ6_getChars_ba4f3_12 hl (by decide) rfl (fun ls hl => ?_)
    refine lv_iload (pc := 14) hx hb dJ6_getChars_ba4f3_14 (lv_at hl 0 rfl) ?_
    refine lv_if_ne (pc := 16) (tgt := 22) hx hb dJ6_getChars_ba4f3_16 (by decide) (fun c0 => absurd rfl c0) (fun c0 => ?_)
    refine lv_iload_n (pc := 19) hx hb dJ6_getChars_ba4f3_19 rfl (lv_at hl 2 rfl) ?_
    refine lv_ineg (pc := 20) hx hb dJ6_getChars_ba4f3_20 ?_
    refine lv_istore_n (lv' := [(0, .int (-(nI k))), (6, .int (0 : Int32)), (5, .int (nI (mm + 1))), (1, .int (nI (mm + 1))), (2, .ref u.1)]) (pc := 21) hx hb dJ6_getChars_ba4f3_21 rfl hl (by decide) rfl (fun ls hl => ?_)
    refine lv_iload_n (pc := 22) hx hb dJ6_getChars_ba4f3_22 rfl (lv_at hl 0 rfl) ?_
    refine lv_bipush (pc := 23) hx hb dJ6_getChars_ba4f3_23 zb_m100 ?_
    refine lv_icmp_gt (pc := 25) (tgt := 72) hx hb dJ6_getChars_ba4f3_25 (by decide) (fun c0 => ?_) (fun c0 => absurd (gc_a k hk).1 c0)
    refine lv_aload_n (pc := 72) hx hb dJ6_getChars_ba4f3_72 rfl (lv_at hl 4 rfl) ?_
    refine lv_iinc (v := (nI mm)) (lv' := [(5, .int (nI mm)), (0, .int (-(nI k))), (6, .int (0 : Int32)), (1, .int (nI (mm + 1))), (2, .ref u.1)]) (pc := 73) hx hb dJ6_getChars_ba4f3_73 hl (k := 2) rfl (by rw [zc_m1]; exact nI_dec) (by decide) rfl (fun ls hl => ?_)
    refine lv_iload (pc := 76) hx hb dJ6_getChars_ba4f3_76 (lv_at hl 0 rfl) ?_
    refine va_gets (pc := 78) (A := A) hx hb hZ1 hS cx.2.2.2.1 (cx.2.2.2.2.1 _ wd_1148) (fun _ h => h) dJ6_getChars_ba4f3_78 ?_
    refine lv_iload_n (pc := 81) hx hb dJ6_getChars_ba4f3_81 rfl (lv_at hl 1 rfl) ?_
    refine lv_ineg (pc := 82) hx hb dJ6_getChars_ba4f3_82 ?_
    refine va_tb (pc := 83) (A := A) hx hb hT1 hS (by rw [gc_d k hk]; exact nI_in (show k < 100 by omega) (by decide)) (v := .int (nI (48 + k % 10))) (by rw [gc_d k hk, nI_clamp (by omega)]) dJ6_getChars_ba4f3_83 ?_
    refine va_bast (pc := 84) hx hb cx.2.2.2.2.2.1 hP hD hS 1 4 rfl rfl (nI_in (show mm < u.2.1 by omega) (show u.2.1 < 2 ^ 31 by omega)) dJ6_getChars_ba4f3_84 (fun H locs hP hD hS => ?_)
    rw [nI_clamp (by omega), by_nar _ (by omega)] at hP hD
    have hP : va_P D vwCl (zBx cy b n (u.1, u.2.1, u.2.2.1, upd u.2.2.2 mm (nI (48 + k % 10)))) H := hP
    have hD : va_D A (zBx cy b n (u.1, u.2.1, u.2.2.1, upd u.2.2.2 mm (nI (48 + k % 10)))) := hD
    refine lv_iload_n (pc := 85) hx hb dJ6_getChars_ba4f3_85 rfl (lv_at hl 1 rfl) ?_
    refine lv_bipush (pc := 86) hx hb dJ6_getChars_ba4f3_86 zb_m9 ?_
    refine lv_icmp_ge (pc := 88) (tgt := 104) hx hb dJ6_getChars_ba4f3_88 (by decide) (fun c0 => ?_) (fun c0 => absurd (gc_b k h9) c0)
    refine lv_iload (pc := 104) hx hb dJ6_getChars_ba4f3_104 (lv_at hl 2 rfl) ?_
    refine lv_if_eq (pc := 106) (tgt := 118) hx hb dJ6_getChars_ba4f3_106 (by decide) (fun c0 => ?_) (fun c0 => absurd rfl c0)
    refine lv_iload (pc := 118) hx hb dJ6_getChars_ba4f3_118 (lv_at hl 0 rfl) ?_
    exact W.iret (pc := 120) hx hb hr (fun t ht hW => ⟨⟨_, (), rfl, trivial, (show va_P D vwCl _ t.heap from by rw [ht]; rw [show dgG u.2.2.2 mm k = _ from if_pos h9]; exact hP)⟩, hS.F ht⟩) hS.2.2 dJ6_getChars_ba4f3_120
  · have eP : P = nI (mm + 1 + 1) := by rw [hPk, dig2 h9]
    subst eP
    refine lv_iload_n (pc := 0) hx hb dJ6_getChars_ba4f3_0 rfl (lv_at hl 1 rfl) ?_
    refine lv_istore (lv' := [(5, .int (nI (mm + 1 + 1))), (0, .int (nI k)), (1, .int (nI (mm + 1 + 1))), (2, .ref u.1)]) (pc := 1) hx hb dJ6_getChars_ba4f3_1 hl (by decide) rfl (fun ls hl => ?_)
    refine lv_iload_n (pc := 3) hx hb dJ6_getChars_ba4f3_3 rfl (lv_at hl 1 rfl) ?_
    refine lv_if_ge (pc := 4) (tgt := 11) hx hb dJ6_getChars_ba4f3_4 (by decide) (fun c0 => ?_) (fun c0 => absurd (gc_a k hk).2 c0)
    refine lv_iconst (pc := 11) hx hb dJ6_getChars_ba4f3_11 zc_0 ?_
    refine lv_istore (lv' := [(6, .int (0 : Int32)), (5, .int (nI (mm + 1 + 1))), (0, .int (nI k)), (1, .int (nI (mm + 1 + 1))), (2, .ref u.1)]) (pc := 12) hx hb dJ6_getChars_ba4f3_12 hl (by decide) rfl (fun ls hl => ?_)
    refine lv_iload (pc := 14) hx hb dJ6_getChars_ba4f3_14 (lv_at hl 0 rfl) ?_
    refine lv_if_ne (pc := 16) (tgt := 22) hx hb dJ6_getChars_ba4f3_16 (by decide) (fun c0 => absurd rfl c0) (fun c0 => ?_)
    refine lv_iload_n (pc := 19) hx hb dJ6_getChars_ba4f3_19 rfl (lv_at hl 2 rfl) ?_
    refine lv_ineg (pc := 20) hx hb dJ6_getChars_ba4f3_20 ?_
    refine lv_istore_n (lv' := [(0, .int (-(nI k))), (6, .int (0 : Int32)), (5, .int (nI (mm + 1 + 1))), (1, .int (nI (mm + 1 + 1))), (2, .ref u.1)]) (pc := 21) hx hb dJ6_getChars_ba4f3_21 rfl hl (by decide) rfl (fun ls hl => ?_)
    refine lv_iload_n (pc := 22) hx hb dJ6_getChars_ba4f3_22 rfl (lv_at hl 0 rfl) ?_
    refine lv_bipush (pc := 23) hx hb dJ6_getChars_ba4f3_23 zb_m100 ?_
    refine lv_icmp_gt (pc := 25) (tgt := 72) hx hb dJ6_getChars_ba4f3_25 (by decide) (fun c0 => ?_) (fun c0 => absurd (gc_a k hk).1 c0)
    refine lv_aload_n (pc := 72) hx hb dJ6_getChars_ba4f3_72 rfl (lv_at hl 4 rfl) ?_
    refine lv_iinc (v := (nI (mm + 1))) (lv' := [(5, .int (nI (mm + 1))), (0, .int (-(nI k))), (6, .int (0 : Int32)), (1, .int (nI (mm + 1 + 1))), (2, .ref u.1)]) (pc := 73) hx hb dJ6_getChars_ba4f3_73 hl (k := 2) rfl (by rw [zc_m1]; exact nI_dec) (by decide) rfl (fun ls hl => ?_)
    refine lv_iload (pc := 76) hx hb dJ6_getChars_ba4f3_76 (lv_at hl 0 rfl) ?_
    refine va_gets (pc := 78) (A := A) hx hb hZ1 hS cx.2.2.2.1 (cx.2.2.2.2.1 _ wd_1148) (fun _ h => h) dJ6_getChars_ba4f3_78 ?_
    refine lv_iload_n (pc := 81) hx hb dJ6_getChars_ba4f3_81 rfl (lv_at hl 1 rfl) ?_
    refine lv_ineg (pc := 82) hx hb dJ6_getChars_ba4f3_82 ?_
    refine va_tb (pc := 83) (A := A) hx hb hT1 hS (by rw [gc_d k hk]; exact nI_in (show k < 100 by omega) (by decide)) (v := .int (nI (48 + k % 10))) (by rw [gc_d k hk, nI_clamp (by omega)]) dJ6_getChars_ba4f3_83 ?_
    refine va_bast (pc := 84) hx hb cx.2.2.2.2.2.1 hP hD hS 1 4 rfl rfl (nI_in (show mm + 1 < u.2.1 by omega) (show u.2.1 < 2 ^ 31 by omega)) dJ6_getChars_ba4f3_84 (fun H locs hP hD hS => ?_)
    rw [nI_clamp (by omega), by_nar _ (by omega)] at hP hD
    have hP : va_P D vwCl (zBx cy b n (u.1, u.2.1, u.2.2.1, upd u.2.2.2 (mm + 1) (nI (48 + k % 10)))) H := hP
    have hD : va_D A (zBx cy b n (u.1, u.2.1, u.2.2.1, upd u.2.2.2 (mm + 1) (nI (48 + k % 10)))) := hD
    refine lv_iload_n (pc := 85) hx hb dJ6_getChars_ba4f3_85 rfl (lv_at hl 1 rfl) ?_
    refine lv_bipush (pc := 86) hx hb dJ6_getChars_ba4f3_86 zb_m9 ?_
    refine lv_icmp_ge (pc := 88) (tgt := 104) hx hb dJ6_getChars_ba4f3_88 (by decide) (fun c0 => absurd c0 (gc_c k hk (by omega))) (fun c0 => ?_)
    refine lv_aload_n (pc := 91) hx hb dJ6_getChars_ba4f3_91 rfl (lv_at hl 4 rfl) ?_
    refine lv_iinc (v := (nI mm)) (lv' := [(5, .int (nI mm)), (0, .int (-(nI k))), (6, .int (0 : Int32)), (1, .int (nI (mm + 1 + 1))), (2, .ref u.1)]) (pc := 92) hx hb dJ6_getChars_ba4f3_92 hl (k := 0) rfl (by rw [zc_m1]; exact nI_dec) (by decide) rfl (fun ls hl => ?_)
    refine lv_iload (pc := 95) hx hb dJ6_getChars_ba4f3_95 (lv_at hl 0 rfl) ?_
    refine va_gets (pc := 97) (A := A) hx hb hZ2 hS cx.2.2.2.1 (cx.2.2.2.2.1 _ wd_1150) (fun _ h => h) dJ6_getChars_ba4f3_97 ?_
    refine lv_iload_n (pc := 100) hx hb dJ6_getChars_ba4f3_100 rfl (lv_at hl 1 rfl) ?_
    refine lv_ineg (pc := 101) hx hb dJ6_getChars_ba4f3_101 ?_
    refine va_tb (pc := 102) (A := A) hx hb hT2 hS (by rw [gc_d k hk]; exact nI_in (show k < 100 by omega) (by decide)) (v := .int (nI (48 + k / 10))) (by rw [gc_d k hk, nI_clamp (by omega)]) dJ6_getChars_ba4f3_102 ?_
    refine va_bast (pc := 103) hx hb cx.2.2.2.2.2.1 hP hD hS 1 4 rfl rfl (nI_in (show mm < u.2.1 by omega) (show u.2.1 < 2 ^ 31 by omega)) dJ6_getChars_ba4f3_103 (fun H locs hP hD hS => ?_)
    rw [nI_clamp (by omega), by_nar _ (by omega)] at hP hD
    have hP : va_P D vwCl (zBx cy b n (u.1, u.2.1, u.2.2.1, upd (upd u.2.2.2 (mm + 1) (nI (48 + k % 10))) mm (nI (48 + k / 10)))) H := hP
    have hD : va_D A (zBx cy b n (u.1, u.2.1, u.2.2.1, upd (upd u.2.2.2 (mm + 1) (nI (48 + k % 10))) mm (nI (48 + k / 10)))) := hD
    refine lv_iload (pc := 104) hx hb dJ6_getChars_ba4f3_104 (lv_at hl 2 rfl) ?_
    refine lv_if_eq (pc := 106) (tgt := 118) hx hb dJ6_getChars_ba4f3_106 (by decide) (fun c0 => ?_) (fun c0 => absurd rfl c0)
    refine lv_iload (pc := 118) hx hb dJ6_getChars_ba4f3_118 (lv_at hl 0 rfl) ?_
    exact W.iret (pc := 120) hx hb hr (fun t ht hW => ⟨⟨_, (), rfl, trivial, (show va_P D vwCl _ t.heap from by rw [ht]; rw [show dgG u.2.2.2 mm k = _ from if_neg h9]; exact hP)⟩, hS.F ht⟩) hS.2.2 dJ6_getChars_ba4f3_120

theorem dig_lt {k : Nat} (hk : k < 13) : ∀ x ∈ dig k, x < 128 := by
  have key : ∀ k, k < 13 → ∀ x ∈ dig k, x < 128 := by decide
  exact key k hk
theorem zupd_ne {g : Nat → Int32} {k j : Nat} {v : Int32} (h : j ≠ k) : upd g k v j = g j := by simp [upd, h]
theorem zOkB_d {tx : List Nat} {u : zU} {k : Nat} (hu : zOkB tx u) (hk : k < 13) (hl : tx.length + (dig k).length ≤ u.2.1) : zOkB (tx ++ dig k) (u.1, u.2.1, u.2.2.1, dgG u.2.2.2 tx.length k) := by
  refine zOkB_l hu hu.1 hl (dig_lt hk) (fun j hj => ?_) (fun i x hx => ?_) ?_
  · unfold dgG
    split
    · exact zupd_ne (by omega)
    · rw [zupd_ne (by omega), zupd_ne (by omega)]
  · unfold dig at hx
    unfold dgG
    by_cases h : k < 10
    · rw [if_pos h] at hx ⊢
      have : i < 1 := (List.getElem?_eq_some_iff.mp hx).1
      have e : i = 0 := by omega
      subst e
      cases hx
      rw [show k % 10 = k by omega]
      simp [upd]
    · rw [if_neg h] at hx ⊢
      have : i < 2 := (List.getElem?_eq_some_iff.mp hx).1
      rcases (show i = 0 ∨ i = 1 by omega) with rfl | rfl
      · cases hx
        rw [show 48 + k / 10 = 49 by omega]
        simp [upd]
      · cases hx
        rw [show 48 + k % 10 = 48 + (k - 10) by omega]
        simp [upd]
  · unfold dgG
    split
    · exact fit_upd hu.2.2.2.2 (by omega)
    · exact fit_upd (fit_upd hu.2.2.2.2 (by omega)) (by omega)
theorem zBx_D {A : Nat → Prop} {cy : Nat → ClassId} {b : Nat} {n n' : Int32} {u : zU} {cap : Nat} {ml : Int32} {g : Nat → Int32} (h : va_D A (zBx cy b n u)) : va_D A (zBx cy b n' (u.1, cap, ml, g)) := by
  have h0 := h.2 0 _ rfl
  have h1 := h.2 1 _ rfl
  have hne : b ≠ u.1 := fun e => by
    have := h.1 0 1 _ _ rfl rfl e
    omega
  rw [z_Dm]
  refine ⟨List.Pairwise.cons (fun x hx => ?_) (List.Pairwise.cons (fun x hx => by cases hx) List.Pairwise.nil), fun x hx => ?_⟩
  · rw [List.mem_singleton] at hx
    subst hx
    exact hne
  · rcases List.mem_cons.mp hx with rfl | hx
    · exact h0
    · rw [List.mem_singleton] at hx
      subst hx
      exact h1
theorem dJ5_append_c97b9_0 : decode cJ5_append_c97b9 0 = .ok (.aload_n 0, 1) := by decide +kernel
theorem dJ5_append_c97b9_1 : decode cJ5_append_c97b9 1 = .ok (.getfield 79, 3) := by decide +kernel
theorem dJ5_append_c97b9_4 : decode cJ5_append_c97b9 4 = .ok (.istore_n 2, 1) := by decide +kernel
theorem dJ5_append_c97b9_5 : decode cJ5_append_c97b9 5 = .ok (.iload_n 2, 1) := by decide +kernel
theorem dJ5_append_c97b9_6 : decode cJ5_append_c97b9 6 = .ok (.iload_n 1, 1) := by decide +kernel
theorem dJ5_append_c97b9_7 : decode cJ5_append_c97b9 7 = .ok (.invokestatic 245, 3) := by decide +kernel
theorem wd_1142 : (Jvm.Cond.methodLink "java/lang/AbstractStringBuilder" (245 : Nat) ({ cls := "java/lang/Integer", name := "stringSize", desc := "(I)I" } : Jvm.MethodName)) ∈ zTB := List.mem_filter.mpr ⟨List.mem_append_right _ (List.mem_append_right _ (List.mem_append_right _ (List.mem_append_right _ (List.mem_append_right _ (List.mem_append_left _ (List.mem_of_getElem? (i := 182) rfl)))))), rfl⟩
theorem wd_1143 : (Jvm.Cond.static ({ cls := "java/lang/Integer", name := "stringSize", desc := "(I)I" } : Jvm.MethodName)) ∈ zTB := List.mem_filter.mpr ⟨List.mem_append_right _ (List.mem_append_right _ (List.mem_append_right _ (List.mem_append_right _ (List.mem_append_right _ (List.mem_append_left _ (List.mem_of_getElem? (i := 183) rfl)))))), rfl⟩
theorem wd_1144 : (Jvm.Cond.code ({ cls := "java/lang/Integer", name := "stringSize", desc := "(I)I" } : Jvm.MethodName) prog_22_method_13_code (4 : Nat) (Option.some Jvm.ClassFile.FieldType.int)) ∈ zTB := List.mem_filter.mpr ⟨List.mem_append_right _ (List.mem_append_right _ (List.mem_append_right _ (List.mem_append_right _ (List.mem_append_right _ (List.mem_append_left _ (List.mem_of_getElem? (i := 184) rfl)))))), rfl⟩
theorem cs_J5_245 : zCS RJ5 245 yJ6_stringSize_0f7a4 cJ6_stringSize_0f7a4 4 (some .int) 1 := ⟨⟨by decide, by decide, by decide +kernel⟩, wd_1142, wd_1143, wd_27, wd_1144⟩
theorem dJ5_append_c97b9_10 : decode cJ5_append_c97b9 10 = .ok (.iadd, 1) := by decide +kernel
theorem dJ5_append_c97b9_11 : decode cJ5_append_c97b9 11 = .ok (.istore_n 3, 1) := by decide +kernel
theorem dJ5_append_c97b9_12 : decode cJ5_append_c97b9 12 = .ok (.aload_n 0, 1) := by decide +kernel
theorem dJ5_append_c97b9_13 : decode cJ5_append_c97b9 13 = .ok (.iload_n 3, 1) := by decide +kernel
theorem dJ5_append_c97b9_14 : decode cJ5_append_c97b9 14 = .ok (.invokevirtual 100, 3) := by decide +kernel
theorem dJ5_append_c97b9_17 : decode cJ5_append_c97b9 17 = .ok (.aload_n 0, 1) := by decide +kernel
theorem dJ5_append_c97b9_18 : decode cJ5_append_c97b9 18 = .ok (.invokevirtual 83, 3) := by decide +kernel
theorem dJ5_append_c97b9_21 : decode cJ5_append_c97b9 21 = .ok (.ifCond .eq 16, 3) := by decide +kernel
theorem dJ5_append_c97b9_24 : decode cJ5_append_c97b9 24 = .ok (.iload_n 1, 1) := by decide +kernel
theorem dJ5_append_c97b9_25 : decode cJ5_append_c97b9 25 = .ok (.iload_n 3, 1) := by decide +kernel
theorem dJ5_append_c97b9_26 : decode cJ5_append_c97b9 26 = .ok (.aload_n 0, 1) := by decide +kernel
theorem dJ5_append_c97b9_27 : decode cJ5_append_c97b9 27 = .ok (.getfield 15, 3) := by decide +kernel
theorem dJ5_append_c97b9_30 : decode cJ5_append_c97b9 30 = .ok (.invokestatic 248, 3) := by decide +kernel
theorem wd_1145 : (Jvm.Cond.methodLink "java/lang/AbstractStringBuilder" (248 : Nat) ({ cls := "java/lang/Integer", name := "getChars", desc := "(II[B)I" } : Jvm.MethodName)) ∈ zTB := List.mem_filter.mpr ⟨List.mem_append_right _ (List.mem_append_right _ (List.mem_append_right _ (List.mem_append_right _ (List.mem_append_right _ (List.mem_append_left _ (List.mem_of_getElem? (i := 185) rfl)))))), rfl⟩
theorem wd_1146 : (Jvm.Cond.static ({ cls := "java/lang/Integer", name := "getChars", desc := "(II[B)I" } : Jvm.MethodName)) ∈ zTB := List.mem_filter.mpr ⟨List.mem_append_right _ (List.mem_append_right _ (List.mem_append_right _ (List.mem_append_right _ (List.mem_append_right _ (List.mem_append_left _ (List.mem_of_getElem? (i := 186) rfl)))))), rfl⟩
theorem wd_1147 : (Jvm.Cond.code ({ cls := "java/lang/Integer", name := "getChars", desc := "(II[B)I" } : Jvm.MethodName) prog_22_method_12_code (7 : Nat) (Option.some Jvm.ClassFile.FieldType.int)) ∈ zTB := List.mem_filter.mpr ⟨List.mem_append_right _ (List.mem_append_right _ (List.mem_append_right _ (List.mem_append_right _ (List.mem_append_right _ (List.mem_append_left _ (List.mem_of_getElem? (i := 187) rfl)))))), rfl⟩
theorem cs_J5_248 : zCS RJ5 248 yJ6_getChars_ba4f3 cJ6_getChars_ba4f3 7 (some .int) 3 := ⟨⟨by decide, by decide, by decide +kernel⟩, wd_1145, wd_1146, wd_27, wd_1147⟩
theorem dJ5_append_c97b9_33 : decode cJ5_append_c97b9 33 = .ok (.pop, 1) := by decide +kernel
theorem dJ5_append_c97b9_34 : decode cJ5_append_c97b9 34 = .ok (.goto 14, 3) := by decide +kernel
theorem dJ5_append_c97b9_48 : decode cJ5_append_c97b9 48 = .ok (.aload_n 0, 1) := by decide +kernel
theorem dJ5_append_c97b9_49 : decode cJ5_append_c97b9 49 = .ok (.iload_n 3, 1) := by decide +kernel
theorem dJ5_append_c97b9_50 : decode cJ5_append_c97b9 50 = .ok (.putfield 79, 3) := by decide +kernel
theorem dJ5_append_c97b9_53 : decode cJ5_append_c97b9 53 = .ok (.aload_n 0, 1) := by decide +kernel
theorem dJ5_append_c97b9_54 : decode cJ5_append_c97b9 54 = .ok (.areturn, 1) := by decide +kernel
abbrev rmJ5_append_c97b9 : Room := { frames := 2, cells := 0, slots := 0, locals := 26 }
set_option maxHeartbeats 1000000 in
set_option maxRecDepth 100000 in
theorem mJ5_appendI {l : Launch} {D : va_G} {cy : Nat → ClassId} {kK kV : Nat → Nat} {A : Nat → Prop} {b : Nat} {tx : List Nat} {u : zU} (hu : zOkB tx u) (hD : va_D A (zBx cy b (nI tx.length) u)) {k : Nat} (hk : k < 13) (hl1 : tx.length + (dig k).length ≤ u.2.1)  : zMap l yJ5_append_c97b9 cJ5_append_c97b9 4 (some (.object "java/lang/AbstractStringBuilder")) rmJ5_append_c97b9 [.int (nI k)] D cy kK kV A b (nI tx.length) u (tx ++ dig k) := by
  refine Met.ofW (cc := cJ5_append_c97b9) (maxL := 4) (ret := (some (.object "java/lang/AbstractStringBuilder"))) (by decide) rfl ?_
  intro p e s m args below meth c s₁ B hml hv
  obtain ⟨rfl, hA, hP, hK, hE⟩ := hv
  have cx : zX RJ5 cJ5_append_c97b9 4 p s m ([.ref b, .int (nI k)]).toArray c D cy := ⟨B.exec, B.bytes, hml, findClass_of_methodNamed B.named, fun w hw => atoms_spec (ws := Cond.code yJ5_append_c97b9 cJ5_append_c97b9 4 (some (.object "java/lang/AbstractStringBuilder")) :: zTB) B.pre w (List.mem_cons_of_mem _ hw), hK⟩
  have hx := cx.1
  have hb := cx.2.1
  have hr := B.returns
  have hlk := B.notSynchronized
  have hS : va_S A s.heap s.heap [] := va_S.rf
  have hl := lv_entry ([.ref b, .int (nI k)]) (n := 4) (Nat.le_of_ble_eq_true rfl)
  rw [lg_entry_eq]
  generalize (lg_sl ([.ref b, .int (nI k)]) ++ List.replicate (4 - (lg_sl ([.ref b, .int (nI k)])).length) Slot.unset).toArray = ls at hl ⊢
  have hl : lv_has ls 4 [(0, .ref b), (1, .int (nI k))] := hl
  have hcap : u.2.1 < 100 := by rcases hu.1 with h | h <;> omega
  refine lv_aload_n (pc := 0) hx hb dJ5_append_c97b9_0 rfl (lv_at hl 0 rfl) ?_
  refine zr_gett (pc := 1) cx lk_J5_79 hP 0 (a := b) rfl (v := .int (nI tx.length)) rfl dJ5_append_c97b9_1 ?_
  refine lv_istore_n (lv' := [(2, .int (nI tx.length)), (0, .ref b), (1, .int (nI k))]) (pc := 4) hx hb dJ5_append_c97b9_4 rfl hl (by decide) rfl (fun ls hl => ?_)
  refine lv_iload_n (pc := 5) hx hb dJ5_append_c97b9_5 rfl (lv_at hl 0 rfl) ?_
  refine lv_iload_n (pc := 6) hx hb dJ5_append_c97b9_6 rfl (lv_at hl 2 rfl) ?_
  refine zr_SI (pc := 7) (As := [.int (nI k)]) (rest := [.int (nI tx.length)]) cx cs_J5_245 (mJ6_stringSize hk) ⟨⟨rfl, rfl⟩, Nat.le_of_ble_eq_true rfl, Nat.le_of_ble_eq_true rfl⟩ ⟨Nat.le_of_ble_eq_true rfl, Nat.le_of_ble_eq_true rfl⟩ (zr_preE cx hE hS (fun _ h => h.elim)) hl.1 rfl rfl (Nat.le_of_ble_eq_true rfl) dJ5_append_c97b9_7 ?_
  refine lv_iadd (pc := 10) hx hb dJ5_append_c97b9_10 ?_
  rw [z_addI]
  refine lv_istore_n (lv' := [(3, .int (nI (tx.length + (dig k).length))), (2, .int (nI tx.length)), (0, .ref b), (1, .int (nI k))]) (pc := 11) hx hb dJ5_append_c97b9_11 rfl hl (by decide) rfl (fun ls hl => ?_)
  refine lv_aload_n (pc := 12) hx hb dJ5_append_c97b9_12 rfl (lv_at hl 2 rfl) ?_
  refine lv_iload_n (pc := 13) hx hb dJ5_append_c97b9_13 rfl (lv_at hl 0 rfl) ?_
  refine zr_bU (pc := 14) (As := [.int (nI (tx.length + (dig k).length))]) (rest := []) cx hE.2.2.2.2.2.2.2 cb_J5_100 (mJ5_ensure (by rw [cap_sh hu.1]; exact sub_le0 hl1 hcap)) ⟨⟨rfl, rfl⟩, Nat.le_of_ble_eq_true rfl, Nat.le_of_ble_eq_true rfl⟩ ⟨Nat.le_of_ble_eq_true rfl, Nat.le_of_ble_eq_true rfl⟩ (zr_preB cx zPb_bl (zr_pb cx hE hS (fun _ h => h.elim) hP) hP rfl) hl.1 rfl rfl (Nat.le_of_ble_eq_true rfl) dJ5_append_c97b9_14 ?_
  refine lv_aload_n (pc := 17) hx hb dJ5_append_c97b9_17 rfl (lv_at hl 2 rfl) ?_
  refine zr_bI (pc := 18) (As := []) (rest := []) cx hE.2.2.2.2.2.2.2 cb_J5_83 (mJ5_isLatin1) ⟨⟨rfl, rfl⟩, Nat.le_of_ble_eq_true rfl, Nat.le_of_ble_eq_true rfl⟩ ⟨Nat.le_of_ble_eq_true rfl, Nat.le_of_ble_eq_true rfl⟩ (zr_preB cx zPb_bl (zr_pb cx hE hS (fun _ h => h.elim) hP) hP rfl) hl.1 rfl rfl (Nat.le_of_ble_eq_true rfl) dJ5_append_c97b9_18 ?_
  refine lv_if_eq (pc := 21) (tgt := 37) hx hb dJ5_append_c97b9_21 (by decide) (fun c0 => absurd c0 (by decide)) (fun c0 => ?_)
  refine lv_iload_n (pc := 24) hx hb dJ5_append_c97b9_24 rfl (lv_at hl 3 rfl) ?_
  refine lv_iload_n (pc := 25) hx hb dJ5_append_c97b9_25 rfl (lv_at hl 0 rfl) ?_
  refine lv_aload_n (pc := 26) hx hb dJ5_append_c97b9_26 rfl (lv_at hl 2 rfl) ?_
  refine zr_gett (pc := 27) cx lk_J5_15 hP 0 (a := b) rfl (v := .ref u.1) rfl dJ5_append_c97b9_27 ?_
  refine zr_gS (pc := 30) (As := [.int (nI k), .int (nI (tx.length + (dig k).length)), .ref u.1]) (rest := []) cx cs_J5_248 (mJ6_getChars hk hcap hl1 rfl hD) ⟨⟨rfl, rfl⟩, Nat.le_of_ble_eq_true rfl, Nat.le_of_ble_eq_true rfl⟩ ⟨Nat.le_of_ble_eq_true rfl, Nat.le_of_ble_eq_true rfl⟩ hE (fun _ h => h) hA hP hS hl.1 rfl rfl (Nat.le_of_ble_eq_true rfl) dJ5_append_c97b9_30 (fun x9 H locs hP hz hk2 hS => ?_)
  have hD : va_D A (zBx cy b (nI tx.length) (u.1, u.2.1, u.2.2.1, dgG u.2.2.2 tx.length k)) := zBx_D hD
  refine lv_pop (pc := 33) hx hb dJ5_append_c97b9_33 rfl ?_
  refine lv_goto (pc := 34) (tgt := 48) hx hb dJ5_append_c97b9_34 (by decide) ?_
  refine lv_aload_n (pc := 48) hx hb dJ5_append_c97b9_48 rfl (lv_at hl 2 rfl) ?_
  refine lv_iload_n (pc := 49) hx hb dJ5_append_c97b9_49 rfl (lv_at hl 0 rfl) ?_
  refine zr_put (pc := 50) cx lq_J5_79 hP hD hS 0 (a := b) rfl (v := .int (nI (tx.length + (dig k).length))) rfl rfl (Nat.le_of_ble_eq_true rfl) dJ5_append_c97b9_50 (fun H locs hP hD hS => ?_)
  have hP : va_P D vwCl (zBx cy b (nI (tx.length + (dig k).length)) (u.1, u.2.1, u.2.2.1, dgG u.2.2.2 tx.length k)) H := hP
  have hD : va_D A (zBx cy b (nI (tx.length + (dig k).length)) (u.1, u.2.1, u.2.2.1, dgG u.2.2.2 tx.length k)) := hD
  refine lv_aload_n (pc := 53) hx hb dJ5_append_c97b9_53 rfl (lv_at hl 2 rfl) ?_
  have hP : va_P D vwCl (zBx cy b (nI (tx ++ dig k).length) (u.1, u.2.1, u.2.2.1, dgG u.2.2.2 tx.length k)) H := by rw [List.length_append]; exact hP
  have hD : va_D A (zBx cy b (nI (tx ++ dig k).length) (u.1, u.2.1, u.2.2.1, dgG u.2.2.2 tx.length k)) := by rw [List.length_append]; exact hD
  exact W.aret (pc := 54) hx hb hr (Or.inl ⟨_, rfl⟩) (Or.inr ⟨_, rfl⟩) (fun t ht hW => ⟨⟨(u.1, u.2.1, u.2.2.1, dgG u.2.2.2 tx.length k), b, rfl, zOkB_d hu hk hl1, rfl, by rw [ht]; exact hP, hD⟩, hS.F ht⟩) hS.2.2 dJ5_append_c97b9_54

theorem dJ4_append_bf812_0 : decode cJ4_append_bf812 0 = .ok (.aload_n 0, 1) := by decide +kernel
theorem dJ4_append_bf812_1 : decode cJ4_append_bf812 1 = .ok (.iload_n 1, 1) := by decide +kernel
theorem dJ4_append_bf812_2 : decode cJ4_append_bf812 2 = .ok (.invokespecial 53, 3) := by decide +kernel
theorem wd_1139 : (Jvm.Cond.methodLink "java/lang/StringBuilder" (53 : Nat) ({ cls := "java/lang/AbstractStringBuilder", name := "append", desc := "(I)Ljava/lang/AbstractStringBuilder;" } : Jvm.MethodName)) ∈ zTB := List.mem_filter.mpr ⟨List.mem_append_right _ (List.mem_append_right _ (List.mem_append_right _ (List.mem_append_right _ (List.mem_append_right _ (List.mem_append_left _ (List.mem_of_getElem? (i := 179) rfl)))))), rfl⟩
theorem wd_2120 : (Jvm.Cond.sameMethod "java/lang/AbstractStringBuilder" "java/lang/AbstractStringBuilder" "append" "(I)Ljava/lang/AbstractStringBuilder;") ∈ zTB := List.mem_filter.mpr ⟨List.mem_append_right _ (List.mem_append_right _ (List.mem_append_right _ (List.mem_append_right _ (List.mem_append_right _ (List.mem_append_right _ (List.mem_append_right _ (List.mem_append_right _ (List.mem_append_right _ (List.mem_of_getElem? (i := 200) rfl))))))))), rfl⟩
theorem wd_1140 : (Jvm.Cond.instanceMethod ({ cls := "java/lang/AbstractStringBuilder", name := "append", desc := "(I)Ljava/lang/AbstractStringBuilder;" } : Jvm.MethodName)) ∈ zTB := List.mem_filter.mpr ⟨List.mem_append_right _ (List.mem_append_right _ (List.mem_append_right _ (List.mem_append_right _ (List.mem_append_right _ (List.mem_append_left _ (List.mem_of_getElem? (i := 180) rfl)))))), rfl⟩
theorem wd_1141 : (Jvm.Cond.code ({ cls := "java/lang/AbstractStringBuilder", name := "append", desc := "(I)Ljava/lang/AbstractStringBuilder;" } : Jvm.MethodName) prog_16_method_32_code (4 : Nat) (Option.some (Jvm.ClassFile.FieldType.object "java/lang/AbstractStringBuilder"))) ∈ zTB := List.mem_filter.mpr ⟨List.mem_append_right _ (List.mem_append_right _ (List.mem_append_right _ (List.mem_append_right _ (List.mem_append_right _ (List.mem_append_left _ (List.mem_of_getElem? (i := 181) rfl)))))), rfl⟩
theorem cu_J4_53 : zCU RJ4 53 yJ5_append_c97b9 cJ5_append_c97b9 4 (some (.object "java/lang/AbstractStringBuilder")) 1 := ⟨⟨by decide, by decide, by decide +kernel⟩, by decide, wd_1139, wd_2120, wd_503, wd_1140, wd_17, wd_1141⟩
theorem dJ4_append_bf812_5 : decode cJ4_append_bf812 5 = .ok (.pop, 1) := by decide +kernel
theorem dJ4_append_bf812_6 : decode cJ4_append_bf812 6 = .ok (.aload_n 0, 1) := by decide +kernel
theorem dJ4_append_bf812_7 : decode cJ4_append_bf812 7 = .ok (.areturn, 1) := by decide +kernel
abbrev rmJ4_append_bf812 : Room := { frames := 3, cells := 0, slots := 0, locals := 49 }
set_option maxHeartbeats 1000000 in
set_option maxRecDepth 100000 in
theorem mJ4_appendI {l : Launch} {D : va_G} {cy : Nat → ClassId} {kK kV : Nat → Nat} {A : Nat → Prop} {b : Nat} {tx : List Nat} {u : zU} (hu : zOkB tx u) (hD : va_D A (zBx cy b (nI tx.length) u)) {k : Nat} (hk : k < 13) (hl1 : tx.length + (dig k).length ≤ u.2.1)  : zMap l yJ4_append_bf812 cJ4_append_bf812 2 (some (.object "java/lang/StringBuilder")) rmJ4_append_bf812 [.int (nI k)] D cy kK kV A b (nI tx.length) u (tx ++ dig k) := by
  refine Met.ofW (cc := cJ4_append_bf812) (maxL := 2) (ret := (some (.object "java/lang/StringBuilder"))) (by decide) rfl ?_
  intro p e s m args below meth c s₁ B hml hv
  obtain ⟨rfl, hA, hP, hK, hE⟩ := hv
  have cx : zX RJ4 cJ4_append_bf812 2 p s m ([.ref b, .int (nI k)]).toArray c D cy := ⟨B.exec, B.bytes, hml, findClass_of_methodNamed B.named, fun w hw => atoms_spec (ws := Cond.code yJ4_append_bf812 cJ4_append_bf812 2 (some (.object "java/lang/StringBuilder")) :: zTB) B.pre w (List.mem_cons_of_mem _ hw), hK⟩
  have hx := cx.1
  have hb := cx.2.1
  have hr := B.returns
  have hlk := B.notSynchronized
  have hS : va_S A s.heap s.heap [] := va_S.rf
  have hl := lv_entry ([.ref b, .int (nI k)]) (n := 2) (Nat.le_of_ble_eq_true rfl)
  rw [lg_entry_eq]
  generalize (lg_sl ([.ref b, .int (nI k)]) ++ List.replicate (2 - (lg_sl ([.ref b, .int (nI k)])).length) Slot.unset).toArray = ls at hl ⊢
  have hl : lv_has ls 2 [(0, .ref b), (1, .int (nI k))] := hl
  refine lv_aload_n (pc := 0) hx hb dJ4_append_bf812_0 rfl (lv_at hl 0 rfl) ?_
  refine lv_iload_n (pc := 1) hx hb dJ4_append_bf812_1 rfl (lv_at hl 1 rfl) ?_
  refine zr_aU (pc := 2) (As := [.int (nI k)]) (rest := []) cx cu_J4_53 (mJ5_appendI hu hD hk hl1) ⟨Nat.le_of_ble_eq_true rfl, Nat.le_of_ble_eq_true rfl⟩ ⟨Nat.le_of_ble_eq_true rfl, Nat.le_of_ble_eq_true rfl⟩ hE (fun _ h => h) hA hP hS hl.1 rfl rfl (Nat.le_of_ble_eq_true rfl) dJ4_append_bf812_2 (fun u2 H locs hu2 hP hD hz hk2 hS => ?_)
  refine lv_pop (pc := 5) hx hb dJ4_append_bf812_5 rfl ?_
  refine lv_aload_n (pc := 6) hx hb dJ4_append_bf812_6 rfl (lv_at hl 0 rfl) ?_
  exact W.aret (pc := 7) hx hb hr (Or.inl ⟨_, rfl⟩) (Or.inr ⟨_, rfl⟩) (fun t ht hW => ⟨⟨u2, b, rfl, hu2, rfl, by rw [ht]; exact hP, hD⟩, hS.F ht⟩) hS.2.2 dJ4_append_bf812_7

