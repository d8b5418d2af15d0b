/-! append of a String constant, printed by wip/gen/sb4.py -/
theorem zOkB_s {tx : List Nat} {u u2 : zU} {i : Nat} (hu : zOkB tx u) (hi : i < 4) (hi1 : 1 ≤ i) (hc : u2.2.1 = 16 ∨ u2.2.1 = 34) (hl : tx.length + zLen.getD i 0 ≤ u2.2.1) (h1 : ∀ j, j < tx.length → u2.2.2.2 j = u.2.2.2 j) (h2 : ∀ j, fits .byte (.int (u2.2.2.2 j)) = true) : zOkB (tx ++ zStr i) (u2.1, u2.2.1, u2.2.2.1, zCpy i u2.2.2.2 tx.length) := by
  obtain ⟨e1, e2, e3⟩ := zStr_ok i hi hi1
  refine zOkB_l hu hc (by rw [e1]; exact hl) e3 (fun j hj => ?_) (fun k x hx => ?_) (fun j => ?_)
  · unfold zCpy va_cpy
    rw [if_neg (by omega)]
    exact h1 j hj
  · have hk := (List.getElem?_eq_some_iff.mp hx).1
    unfold zCpy va_cpy
    rw [if_pos ⟨by omega, by rw [← e1]; omega⟩, Nat.zero_add, Nat.add_sub_cancel_left]
    show (zByt.getD i []).getD k 0 = nI x
    rw [e2 k hk]
    congr 1
    rw [List.getD_eq_getElem?_getD, hx]
    rfl
  · unfold zCpy va_cpy
    split
    · exact zByt_fit i hi _ (by omega)
    · exact h2 j
theorem dJ5_append_cf1ce_0 : decode cJ5_append_cf1ce 0 = .ok (.aload_n 1, 1) := by decide +kernel
theorem dJ5_append_cf1ce_1 : decode cJ5_append_cf1ce 1 = .ok (.ifnonnull 8, 3) := by decide +kernel
theorem dJ5_append_cf1ce_9 : decode cJ5_append_cf1ce 9 = .ok (.aload_n 1, 1) := by decide +kernel
theorem dJ5_append_cf1ce_10 : decode cJ5_append_cf1ce 10 = .ok (.invokevirtual 32, 3) := by decide +kernel
theorem wd_1111 : (Jvm.Cond.methodLink "java/lang/AbstractStringBuilder" (32 : Nat) ({ cls := "java/lang/String", name := "length", desc := "()I" } : Jvm.MethodName)) ∈ zTB := List.mem_filter.mpr ⟨List.mem_append_right _ (List.mem_append_right _ (List.mem_append_right _ (List.mem_append_right _ (List.mem_append_right _ (List.mem_append_left _ (List.mem_of_getElem? (i := 151) rfl)))))), rfl⟩
theorem cv_J5_32 : zCV RJ5 "java/lang/String" 32 yJ0_length_8abf5 cJ0_length_8abf5 1 (some .int) 0 := ⟨rfl, ⟨by decide, by decide, by decide +kernel⟩, wd_1111, wd_46, wd_47, wd_3, wd_48⟩
theorem dJ5_append_cf1ce_13 : decode cJ5_append_cf1ce 13 = .ok (.istore_n 2, 1) := by decide +kernel
theorem dJ5_append_cf1ce_14 : decode cJ5_append_cf1ce 14 = .ok (.aload_n 0, 1) := by decide +kernel
theorem dJ5_append_cf1ce_15 : decode cJ5_append_cf1ce 15 = .ok (.aload_n 0, 1) := by decide +kernel
theorem dJ5_append_cf1ce_16 : decode cJ5_append_cf1ce 16 = .ok (.getfield 79, 3) := by decide +kernel
theorem dJ5_append_cf1ce_19 : decode cJ5_append_cf1ce 19 = .ok (.iload_n 2, 1) := by decide +kernel
theorem dJ5_append_cf1ce_20 : decode cJ5_append_cf1ce 20 = .ok (.iadd, 1) := by decide +kernel
theorem dJ5_append_cf1ce_21 : decode cJ5_append_cf1ce 21 = .ok (.invokevirtual 100, 3) := by decide +kernel
theorem dJ5_append_cf1ce_24 : decode cJ5_append_cf1ce 24 = .ok (.aload_n 0, 1) := by decide +kernel
theorem dJ5_append_cf1ce_25 : decode cJ5_append_cf1ce 25 = .ok (.aload_n 0, 1) := by decide +kernel
theorem dJ5_append_cf1ce_26 : decode cJ5_append_cf1ce 26 = .ok (.getfield 79, 3) := by decide +kernel
theorem dJ5_append_cf1ce_29 : decode cJ5_append_cf1ce 29 = .ok (.aload_n 1, 1) := by decide +kernel
theorem dJ5_append_cf1ce_30 : decode cJ5_append_cf1ce 30 = .ok (.invokevirtual 208, 3) := by decide +kernel
theorem wd_1112 : (Jvm.Cond.methodLink "java/lang/AbstractStringBuilder" (208 : Nat) ({ cls := "java/lang/AbstractStringBuilder", name := "putStringAt", desc := "(ILjava/lang/String;)V" } : Jvm.MethodName)) ∈ zTB := List.mem_filter.mpr ⟨List.mem_append_right _ (List.mem_append_right _ (List.mem_append_right _ (List.mem_append_right _ (List.mem_append_right _ (List.mem_append_left _ (List.mem_of_getElem? (i := 152) rfl)))))), rfl⟩
theorem wd_1114 : (Jvm.Cond.instanceMethod ({ cls := "java/lang/AbstractStringBuilder", name := "putStringAt", desc := "(ILjava/lang/String;)V" } : Jvm.MethodName)) ∈ zTB := List.mem_filter.mpr ⟨List.mem_append_right _ (List.mem_append_right _ (List.mem_append_right _ (List.mem_append_right _ (List.mem_append_right _ (List.mem_append_left _ (List.mem_of_getElem? (i := 154) rfl)))))), rfl⟩
theorem wd_1115 : (Jvm.Cond.code ({ cls := "java/lang/AbstractStringBuilder", name := "putStringAt", desc := "(ILjava/lang/String;)V" } : Jvm.MethodName) prog_16_method_73_code (3 : Nat) (Option.none : Option Jvm.ClassFile.FieldType)) ∈ zTB := List.mem_filter.mpr ⟨List.mem_append_right _ (List.mem_append_right _ (List.mem_append_right _ (List.mem_append_right _ (List.mem_append_right _ (List.mem_append_left _ (List.mem_of_getElem? (i := 155) rfl)))))), rfl⟩
theorem cb_J5_208 : zCB RJ5 208 yJ5_putStringAt_47b60 cJ5_putStringAt_47b60 3 none 2 := ⟨⟨by decide, by decide, by decide +kernel⟩, wd_1112, wd_1114, Or.inr (by decide), wd_17, wd_1115⟩
theorem dJ5_append_cf1ce_33 : decode cJ5_append_cf1ce 33 = .ok (.aload_n 0, 1) := by decide +kernel
theorem dJ5_append_cf1ce_34 : decode cJ5_append_cf1ce 34 = .ok (.dup, 1) := by decide +kernel
theorem dJ5_append_cf1ce_35 : decode cJ5_append_cf1ce 35 = .ok (.getfield 79, 3) := by decide +kernel
theorem dJ5_append_cf1ce_38 : decode cJ5_append_cf1ce 38 = .ok (.iload_n 2, 1) := by decide +kernel
theorem dJ5_append_cf1ce_39 : decode cJ5_append_cf1ce 39 = .ok (.iadd, 1) := by decide +kernel
theorem dJ5_append_cf1ce_40 : decode cJ5_append_cf1ce 40 = .ok (.putfield 79, 3) := by decide +kernel
theorem dJ5_append_cf1ce_43 : decode cJ5_append_cf1ce 43 = .ok (.aload_n 0, 1) := by decide +kernel
theorem dJ5_append_cf1ce_44 : decode cJ5_append_cf1ce 44 = .ok (.areturn, 1) := by decide +kernel
abbrev rmJ5_append_cf1ce : Room := { frames := 4, cells := 1, slots := 34, locals := 110 }
set_option maxHeartbeats 1000000 in
set_option maxRecDepth 100000 in
theorem mJ5_appendS {l : Launch} {D : va_G} {cy : Nat → ClassId} {kK kV : Nat → Nat} {A : Nat → Prop} {b : Nat} {tx : List Nat} {u : zU} (hu : zOkB tx u) (hD : va_D A (zBx cy b (nI tx.length) u)) {i : Nat} (hi : i < 4) (hi1 : 1 ≤ i) (hl34 : tx.length + zLen.getD i 0 ≤ 33)  : zMap l yJ5_append_cf1ce cJ5_append_cf1ce 3 (some (.object "java/lang/AbstractStringBuilder")) rmJ5_append_cf1ce [.ref (kK i)] D cy kK kV A b (nI tx.length) u (tx ++ zStr i) := by
  refine Met.ofW (cc := cJ5_append_cf1ce) (maxL := 3) (ret := (some (.object "java/lang/AbstractStringBuilder"))) (by decide) rfl ?_
  intro p e s m args below meth c s₁ B hml hv
  obtain ⟨rfl, hA, hP, hK, hE⟩ := hv
  have cx : zX RJ5 cJ5_append_cf1ce 3 p s m ([.ref b, .ref (kK i)]).toArray c D cy := ⟨B.exec, B.bytes, hml, findClass_of_methodNamed B.named, fun w hw => atoms_spec (ws := Cond.code yJ5_append_cf1ce cJ5_append_cf1ce 3 (some (.object "java/lang/AbstractStringBuilder")) :: zTB) B.pre w (List.mem_cons_of_mem _ hw), hK⟩
  have hx := cx.1
  have hb := cx.2.1
  have hr := B.returns
  have hlk := B.notSynchronized
  have hS : va_S A s.heap s.heap [] := va_S.rf
  have hl := lv_entry ([.ref b, .ref (kK i)]) (n := 3) (Nat.le_of_ble_eq_true rfl)
  rw [lg_entry_eq]
  generalize (lg_sl ([.ref b, .ref (kK i)]) ++ List.replicate (3 - (lg_sl ([.ref b, .ref (kK i)])).length) Slot.unset).toArray = ls at hl ⊢
  have hl : lv_has ls 3 [(0, .ref b), (1, .ref (kK i))] := hl
  have hsl := (zStr_ok i hi hi1).1
  have hll := zLen_le i hi
  by_cases hm : tx.length + zLen.getD i 0 ≤ u.2.1
  · have hc : u.2.1 < 100 := by rcases hu.1 with h | h <;> omega
    refine lv_aload_n (pc := 0) hx hb dJ5_append_cf1ce_0 rfl (lv_at hl 1 rfl) ?_
    refine lv_ifnonnull (pc := 1) (tgt := 9) hx hb dJ5_append_cf1ce_1 (by decide) ?_
    refine lv_aload_n (pc := 9) hx hb dJ5_append_cf1ce_9 rfl (lv_at hl 1 rfl) ?_
    refine zr_VIg (pc := 10) (q := kK) (k := i) (As := []) (rest := []) cx cv_J5_32 (mJ0_length hi) ⟨⟨rfl, rfl⟩, Nat.le_of_ble_eq_true rfl, Nat.le_of_ble_eq_true rfl⟩ ⟨Nat.le_of_ble_eq_true rfl, Nat.le_of_ble_eq_true rfl⟩ (zr_preKs cx hE hS hi) hl.1 rfl rfl (Nat.le_of_ble_eq_true rfl) dJ5_append_cf1ce_10 ?_
    refine lv_istore_n (lv' := [(2, .int (nI (zLen.getD i 0))), (0, .ref b), (1, .ref (kK i))]) (pc := 13) hx hb dJ5_append_cf1ce_13 rfl hl (by decide) rfl (fun ls hl => ?_)
    refine lv_aload_n (pc := 14) hx hb dJ5_append_cf1ce_14 rfl (lv_at hl 1 rfl) ?_
    refine lv_aload_n (pc := 15) hx hb dJ5_append_cf1ce_15 rfl (lv_at hl 1 rfl) ?_
    refine zr_gett (pc := 16) cx lk_J5_79 hP 0 (a := b) rfl (v := .int (nI tx.length)) rfl dJ5_append_cf1ce_16 ?_
    refine lv_iload_n (pc := 19) hx hb dJ5_append_cf1ce_19 rfl (lv_at hl 0 rfl) ?_
    refine lv_iadd (pc := 20) hx hb dJ5_append_cf1ce_20 ?_
    rw [z_addI]
    refine zr_bU (pc := 21) (As := [.int (nI (tx.length + zLen.getD i 0))]) (rest := []) cx hE.2.2.2.2.2.2.2 cb_J5_100 (mJ5_ensure (by rw [cap_sh hu.1]; exact sub_le0 hm hc)) ⟨⟨rfl, rfl⟩, Nat.le_of_ble_eq_true rfl, Nat.le_of_ble_eq_true rfl⟩ ⟨Nat.le_of_ble_eq_true rfl, Nat.le_of_ble_eq_true rfl⟩ (zr_preB cx zPb_bl (zr_pb cx hE hS (fun _ h => h.elim) hP) hP rfl) hl.1 rfl rfl (Nat.le_of_ble_eq_true rfl) dJ5_append_cf1ce_21 ?_
    refine lv_aload_n (pc := 24) hx hb dJ5_append_cf1ce_24 rfl (lv_at hl 1 rfl) ?_
    refine lv_aload_n (pc := 25) hx hb dJ5_append_cf1ce_25 rfl (lv_at hl 1 rfl) ?_
    refine zr_gett (pc := 26) cx lk_J5_79 hP 0 (a := b) rfl (v := .int (nI tx.length)) rfl dJ5_append_cf1ce_26 ?_
    refine lv_aload_n (pc := 29) hx hb dJ5_append_cf1ce_29 rfl (lv_at hl 2 rfl) ?_
    refine zr_bW (pc := 30) (As := [.int (nI tx.length), .ref (kK i)]) (rest := []) cx hE.2.2.2.2.2.2.2 cb_J5_208 (mJ5_putString (n := nI tx.length) (u := u) hi hc hm hD) ⟨Nat.le_of_ble_eq_true rfl, Nat.le_of_ble_eq_true rfl⟩ ⟨Nat.le_of_ble_eq_true rfl, Nat.le_of_ble_eq_true rfl⟩ hE (fun _ h => h) (fun q h => hA q (Nat.le_trans hS.1 h)) hP rfl hS hl.1 rfl rfl (Nat.le_of_ble_eq_true rfl) dJ5_append_cf1ce_30 (fun H locs hP hz hk2 hS => ?_)
    have hD : va_D A (zBx cy b (nI tx.length) (u.1, u.2.1, u.2.2.1, zCpy i u.2.2.2 tx.length)) := zBx_D hD
    refine lv_aload_n (pc := 33) hx hb dJ5_append_cf1ce_33 rfl (lv_at hl 1 rfl) ?_
    refine lv_dup (pc := 34) hx hb dJ5_append_cf1ce_34 rfl ?_
    refine zr_gett (pc := 35) cx lk_J5_79 hP 0 (a := b) rfl (v := .int (nI tx.length)) rfl dJ5_append_cf1ce_35 ?_
    refine lv_iload_n (pc := 38) hx hb dJ5_append_cf1ce_38 rfl (lv_at hl 0 rfl) ?_
    refine lv_iadd (pc := 39) hx hb dJ5_append_cf1ce_39 ?_
    rw [z_addI]
    refine zr_put (pc := 40) cx lq_J5_79 hP hD hS 0 (a := b) rfl (v := .int (nI (tx.length + zLen.getD i 0))) rfl rfl (Nat.le_of_ble_eq_true rfl) dJ5_append_cf1ce_40 (fun H locs hP hD hS => ?_)
    have hP : va_P D vwCl (zBx cy b (nI (tx.length + zLen.getD i 0)) (u.1, u.2.1, u.2.2.1, zCpy i u.2.2.2 tx.length)) H := hP
    have hD : va_D A (zBx cy b (nI (tx.length + zLen.getD i 0)) (u.1, u.2.1, u.2.2.1, zCpy i u.2.2.2 tx.length)) := hD
    refine lv_aload_n (pc := 43) hx hb dJ5_append_cf1ce_43 rfl (lv_at hl 1 rfl) ?_
    have hP : va_P D vwCl (zBx cy b (nI (tx ++ zStr i).length) (u.1, u.2.1, u.2.2.1, zCpy i u.2.2.2 tx.length)) H := by rw [List.length_append, hsl]; exact hP
    have hD : va_D A (zBx cy b (nI (tx ++ zStr i).length) (u.1, u.2.1, u.2.2.1, zCpy i u.2.2.2 tx.length)) := by rw [List.length_append, hsl]; exact hD
    refine W.widen (k := 1) (n := 34) (Nat.zero_le _) (Nat.zero_le _) ?_
    exact W.aret (pc := 44) hx hb hr (Or.inl ⟨_, rfl⟩) (Or.inr ⟨_, rfl⟩) (fun t ht hW => ⟨⟨(u.1, u.2.1, u.2.2.1, zCpy i u.2.2.2 tx.length), b, rfl, (zOkB_s hu hi hi1 hu.1 hm (fun _ _ => rfl) hu.2.2.2.2), rfl, by rw [ht]; exact hP, hD⟩, hS.F ht⟩) hS.2.2 dJ5_append_cf1ce_44
  · obtain ⟨r, cap, ml, g⟩ := u
    have e16 : cap = 16 := by rcases hu.1 with h | h; exact h; exact absurd (Nat.le_trans hl34 (by show 33 ≤ cap; rw [show cap = 34 from h]; decide)) hm
    subst e16
    have hx1 : 16 < tx.length + zLen.getD i 0 := Nat.lt_of_not_le hm
    have hx2 : tx.length + zLen.getD i 0 ≤ 33 := hl34
    refine lv_aload_n (pc := 0) hx hb dJ5_append_cf1ce_0 rfl (lv_at hl 1 rfl) ?_
    refine lv_ifnonnull (pc := 1) (tgt := 9) hx hb dJ5_append_cf1ce_1 (by decide) ?_
    refine lv_aload_n (pc := 9) hx hb dJ5_append_cf1ce_9 rfl (lv_at hl 1 rfl) ?_
    refine zr_VIg (pc := 10) (q := kK) (k := i) (As := []) (rest := []) cx cv_J5_32 (mJ0_length hi) ⟨⟨rfl, rfl⟩, Nat.le_of_ble_eq_true rfl, Nat.le_of_ble_eq_true rfl⟩ ⟨Nat.le_of_ble_eq_true rfl, Nat.le_of_ble_eq_true rfl⟩ (zr_preKs cx hE hS hi) hl.1 rfl rfl (Nat.le_of_ble_eq_true rfl) dJ5_append_cf1ce_10 ?_
    refine lv_istore_n (lv' := [(2, .int (nI (zLen.getD i 0))), (0, .ref b), (1, .ref (kK i))]) (pc := 13) hx hb dJ5_append_cf1ce_13 rfl hl (by decide) rfl (fun ls hl => ?_)
    refine lv_aload_n (pc := 14) hx hb dJ5_append_cf1ce_14 rfl (lv_at hl 1 rfl) ?_
    refine lv_aload_n (pc := 15) hx hb dJ5_append_cf1ce_15 rfl (lv_at hl 1 rfl) ?_
    refine zr_gett (pc := 16) cx lk_J5_79 hP 0 (a := b) rfl (v := .int (nI tx.length)) rfl dJ5_append_cf1ce_16 ?_
    refine lv_iload_n (pc := 19) hx hb dJ5_append_cf1ce_19 rfl (lv_at hl 0 rfl) ?_
    refine lv_iadd (pc := 20) hx hb dJ5_append_cf1ce_20 ?_
    rw [z_addI]
    refine va_callv (va_runV (As := [.int (nI (tx.length + zLen.getD i 0))]) (rest := []) (zr_fix cx) (mJ5_ensureG hx1 hx2 hu.2.2.2.2 hD) (zr_cwB cx hE.2.2.2.2.2.2.2 cb_J5_100 rfl rfl ⟨Nat.le_of_ble_eq_true rfl, Nat.le_of_ble_eq_true rfl⟩) (zr_preB cx zPf_bl (zr_pf cx hE hS (fun _ h => h) hA hP) hP rfl) rfl rfl hl.1 rfl (lv_room (Nat.le_of_ble_eq_true rfl)) dJ5_append_cf1ce_21 ⟨Nat.le_of_ble_eq_true rfl, Nat.le_of_ble_eq_true rfl⟩) hS (fun q _ h => h) (fun _ h => h) (fun u2 t H locs ht _ hu2 hb2 hz hk2 hS => ?_)
    obtain ⟨hP, hD⟩ := hb2
    subst ht
    obtain ⟨hc34, -, hg1, hg2⟩ := hu2
    have hc : u2.2.1 < 100 := by omega
    have hm : tx.length + zLen.getD i 0 ≤ u2.2.1 := by omega
    refine lv_aload_n (pc := 24) hx hb dJ5_append_cf1ce_24 rfl (lv_at hl 1 rfl) ?_
    refine lv_aload_n (pc := 25) hx hb dJ5_append_cf1ce_25 rfl (lv_at hl 1 rfl) ?_
    refine zr_gett (pc := 26) cx lk_J5_79 hP 0 (a := b) rfl (v := .int (nI tx.length)) rfl dJ5_append_cf1ce_26 ?_
    refine lv_aload_n (pc := 29) hx hb dJ5_append_cf1ce_29 rfl (lv_at hl 2 rfl) ?_
    refine zr_bW (pc := 30) (As := [.int (nI tx.length), .ref (kK i)]) (rest := []) cx hE.2.2.2.2.2.2.2 cb_J5_208 (mJ5_putString (n := nI tx.length) (u := u2) hi hc hm hD) ⟨Nat.le_of_ble_eq_true rfl, Nat.le_of_ble_eq_true rfl⟩ ⟨Nat.le_of_ble_eq_true rfl, Nat.le_of_ble_eq_true rfl⟩ hE (fun _ h => h) (fun q h => hA q (Nat.le_trans hS.1 h)) hP rfl hS hl.1 rfl rfl (Nat.le_of_ble_eq_true rfl) dJ5_append_cf1ce_30 (fun H locs hP hz hk2 hS => ?_)
    have hD : va_D A (zBx cy b (nI tx.length) (u2.1, u2.2.1, u2.2.2.1, zCpy i u2.2.2.2 tx.length)) := zBx_D hD
    refine lv_aload_n (pc := 33) hx hb dJ5_append_cf1ce_33 rfl (lv_at hl 1 rfl) ?_
    refine lv_dup (pc := 34) hx hb dJ5_append_cf1ce_34 rfl ?_
    refine zr_gett (pc := 35) cx lk_J5_79 hP 0 (a := b) rfl (v := .int (nI tx.length)) rfl dJ5_append_cf1ce_35 ?_
    refine lv_iload_n (pc := 38) hx hb dJ5_append_cf1ce_38 rfl (lv_at hl 0 rfl) ?_
    refine lv_iadd (pc := 39) hx hb dJ5_append_cf1ce_39 ?_
    rw [z_addI]
    refine zr_put (pc := 40) cx lq_J5_79 hP hD hS 0 (a := b) rfl (v := .int (nI (tx.length + zLen.getD i 0))) rfl rfl (Nat.le_of_ble_eq_true rfl) dJ5_append_cf1ce_40 (fun H locs hP hD hS => ?_)
    have hP : va_P D vwCl (zBx cy b (nI (tx.length + zLen.getD i 0)) (u2.1, u2.2.1, u2.2.2.1, zCpy i u2.2.2.2 tx.length)) H := hP
    have hD : va_D A (zBx cy b (nI (tx.length + zLen.getD i 0)) (u2.1, u2.2.1, u2.2.2.1, zCpy i u2.2.2.2 tx.length)) := hD
    refine lv_aload_n (pc := 43) hx hb dJ5_append_cf1ce_43 rfl (lv_at hl 1 rfl) ?_
    have hP : va_P D vwCl (zBx cy b (nI (tx ++ zStr i).length) (u2.1, u2.2.1, u2.2.2.1, zCpy i u2.2.2.2 tx.length)) H := by rw [List.length_append, hsl]; exact hP
    have hD : va_D A (zBx cy b (nI (tx ++ zStr i).length) (u2.1, u2.2.1, u2.2.2.1, zCpy i u2.2.2.2 tx.length)) := by rw [List.length_append, hsl]; exact hD
    exact W.aret (pc := 44) hx hb hr (Or.inl ⟨_, rfl⟩) (Or.inr ⟨_, rfl⟩) (fun t ht hW => ⟨⟨(u2.1, u2.2.1, u2.2.2.1, zCpy i u2.2.2.2 tx.length), b, rfl, (zOkB_s (u2 := u2) hu hi hi1 (Or.inr hc34) (by omega) (fun j hj => hg1 j (by have := hu.2.1; exact Nat.lt_of_lt_of_le hj this)) hg2), rfl, by rw [ht]; exact hP, hD⟩, hS.F ht⟩) hS.2.2 dJ5_append_cf1ce_44

theorem dJ4_append_15ec4_0 : decode cJ4_append_15ec4 0 = .ok (.aload_n 0, 1) := by decide +kernel
theorem dJ4_append_15ec4_1 : decode cJ4_append_15ec4 1 = .ok (.aload_n 1, 1) := by decide +kernel
theorem dJ4_append_15ec4_2 : decode cJ4_append_15ec4 2 = .ok (.invokespecial 29, 3) := by decide +kernel
theorem wd_1092 : (Jvm.Cond.methodLink "java/lang/StringBuilder" (29 : Nat) ({ cls := "java/lang/AbstractStringBuilder", name := "append", desc := "(Ljava/lang/String;)Ljava/lang/AbstractStringBuilder;" } : Jvm.MethodName)) ∈ zTB := List.mem_filter.mpr ⟨List.mem_append_right _ (List.mem_append_right _ (List.mem_append_right _ (List.mem_append_right _ (List.mem_append_right _ (List.mem_append_left _ (List.mem_of_getElem? (i := 132) rfl)))))), rfl⟩
theorem wd_2115 : (Jvm.Cond.sameMethod "java/lang/AbstractStringBuilder" "java/lang/AbstractStringBuilder" "append" "(Ljava/lang/String;)Ljava/lang/AbstractStringBuilder;") ∈ zTB := List.mem_filter.mpr ⟨List.mem_append_right _ (List.mem_append_right _ (List.mem_append_right _ (List.mem_append_right _ (List.mem_append_right _ (List.mem_append_right _ (List.mem_append_right _ (List.mem_append_right _ (List.mem_append_right _ (List.mem_of_getElem? (i := 195) rfl))))))))), rfl⟩
theorem wd_1093 : (Jvm.Cond.instanceMethod ({ cls := "java/lang/AbstractStringBuilder", name := "append", desc := "(Ljava/lang/String;)Ljava/lang/AbstractStringBuilder;" } : Jvm.MethodName)) ∈ zTB := List.mem_filter.mpr ⟨List.mem_append_right _ (List.mem_append_right _ (List.mem_append_right _ (List.mem_append_right _ (List.mem_append_right _ (List.mem_append_left _ (List.mem_of_getElem? (i := 133) rfl)))))), rfl⟩
theorem wd_1094 : (Jvm.Cond.code ({ cls := "java/lang/AbstractStringBuilder", name := "append", desc := "(Ljava/lang/String;)Ljava/lang/AbstractStringBuilder;" } : Jvm.MethodName) prog_16_method_22_code (3 : Nat) (Option.some (Jvm.ClassFile.FieldType.object "java/lang/AbstractStringBuilder"))) ∈ zTB := List.mem_filter.mpr ⟨List.mem_append_right _ (List.mem_append_right _ (List.mem_append_right _ (List.mem_append_right _ (List.mem_append_right _ (List.mem_append_left _ (List.mem_of_getElem? (i := 134) rfl)))))), rfl⟩
theorem cu_J4_29 : zCU RJ4 29 yJ5_append_cf1ce cJ5_append_cf1ce 3 (some (.object "java/lang/AbstractStringBuilder")) 1 := ⟨⟨by decide, by decide, by decide +kernel⟩, by decide, wd_1092, wd_2115, wd_503, wd_1093, wd_17, wd_1094⟩
theorem dJ4_append_15ec4_5 : decode cJ4_append_15ec4 5 = .ok (.pop, 1) := by decide +kernel
theorem dJ4_append_15ec4_6 : decode cJ4_append_15ec4 6 = .ok (.aload_n 0, 1) := by decide +kernel
theorem dJ4_append_15ec4_7 : decode cJ4_append_15ec4 7 = .ok (.areturn, 1) := by decide +kernel
abbrev rmJ4_append_15ec4 : Room := { frames := 5, cells := 1, slots := 34, locals := 132 }
set_option maxHeartbeats 1000000 in
set_option maxRecDepth 100000 in
theorem mJ4_appendS {l : Launch} {D : va_G} {cy : Nat → ClassId} {kK kV : Nat → Nat} {A : Nat → Prop} {b : Nat} {tx : List Nat} {u : zU} (hu : zOkB tx u) (hD : va_D A (zBx cy b (nI tx.length) u)) {i : Nat} (hi : i < 4) (hi1 : 1 ≤ i) (hl34 : tx.length + zLen.getD i 0 ≤ 33)  : zMap l yJ4_append_15ec4 cJ4_append_15ec4 2 (some (.object "java/lang/StringBuilder")) rmJ4_append_15ec4 [.ref (kK i)] D cy kK kV A b (nI tx.length) u (tx ++ zStr i) := by
  refine Met.ofW (cc := cJ4_append_15ec4) (maxL := 2) (ret := (some (.object "java/lang/StringBuilder"))) (by decide) rfl ?_
  intro p e s m args below meth c s₁ B hml hv
  obtain ⟨rfl, hA, hP, hK, hE⟩ := hv
  have cx : zX RJ4 cJ4_append_15ec4 2 p s m ([.ref b, .ref (kK i)]).toArray c D cy := ⟨B.exec, B.bytes, hml, findClass_of_methodNamed B.named, fun w hw => atoms_spec (ws := Cond.code yJ4_append_15ec4 cJ4_append_15ec4 2 (some (.object "java/lang/StringBuilder")) :: zTB) B.pre w (List.mem_cons_of_mem _ hw), hK⟩
  have hx := cx.1
  have hb := cx.2.1
  have hr := B.returns
  have hlk := B.notSynchronized
  have hS : va_S A s.heap s.heap [] := va_S.rf
  have hl := lv_entry ([.ref b, .ref (kK i)]) (n := 2) (Nat.le_of_ble_eq_true rfl)
  rw [lg_entry_eq]
  generalize (lg_sl ([.ref b, .ref (kK i)]) ++ List.replicate (2 - (lg_sl ([.ref b, .ref (kK i)])).length) Slot.unset).toArray = ls at hl ⊢
  have hl : lv_has ls 2 [(0, .ref b), (1, .ref (kK i))] := hl
  refine lv_aload_n (pc := 0) hx hb dJ4_append_15ec4_0 rfl (lv_at hl 0 rfl) ?_
  refine lv_aload_n (pc := 1) hx hb dJ4_append_15ec4_1 rfl (lv_at hl 1 rfl) ?_
  refine zr_aU (pc := 2) (As := [.ref (kK i)]) (rest := []) cx cu_J4_29 (mJ5_appendS hu hD hi hi1 hl34) ⟨Nat.le_of_ble_eq_true rfl, Nat.le_of_ble_eq_true rfl⟩ ⟨Nat.le_of_ble_eq_true rfl, Nat.le_of_ble_eq_true rfl⟩ hE (fun _ h => h) hA hP hS hl.1 rfl rfl (Nat.le_of_ble_eq_true rfl) dJ4_append_15ec4_2 (fun u2 H locs hu2 hP hD hz hk2 hS => ?_)
  refine lv_pop (pc := 5) hx hb dJ4_append_15ec4_5 rfl ?_
  refine lv_aload_n (pc := 6) hx hb dJ4_append_15ec4_6 rfl (lv_at hl 0 rfl) ?_
  exact W.aret (pc := 7) hx hb hr (Or.inl ⟨_, rfl⟩) (Or.inr ⟨_, rfl⟩) (fun t ht hW => ⟨⟨u2, b, rfl, hu2, rfl, by rw [ht]; exact hP, hD⟩, hS.F ht⟩) hS.2.2 dJ4_append_15ec4_7

