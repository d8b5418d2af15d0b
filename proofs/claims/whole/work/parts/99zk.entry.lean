/-! the law's walk from its entry to its loop, printed by wip/gen/start2.py -/
theorem wd_30 : (Jvm.Cond.classLink "ParlourLeavesLaw" (8 : Nat) "ParlourLeaves") ∈ zTB := List.mem_filter.mpr ⟨List.mem_append_right _ (List.mem_append_left _ (List.mem_of_getElem? (i := 30) rfl)), rfl⟩
theorem wd_31 : (Jvm.Cond.instantiable "ParlourLeaves" (17 : Nat)) ∈ zTB := List.mem_filter.mpr ⟨List.mem_append_right _ (List.mem_append_left _ (List.mem_of_getElem? (i := 31) rfl)), rfl⟩
theorem nw_L_8 : zNw RL "ParlourLeaves" 8 12 [.null, .null, .null, .null, .null, .null, .null, .null, .null, .null, .null, .null, .null, .null, .int 0, .int 0, .int 0] := ⟨TX11, 17, tyX11, rfl, rfl, wsin_X11, tyX11_ok, by decide +kernel, wd_30, wd_31, wd_1⟩
theorem wd_1476 : (Jvm.Cond.classLink "ParlourLeavesLaw" (19 : Nat) "ParlourLeavesModel") ∈ zTB := List.mem_filter.mpr ⟨List.mem_append_right _ (List.mem_append_right _ (List.mem_append_right _ (List.mem_append_right _ (List.mem_append_right _ (List.mem_append_right _ (List.mem_append_right _ (List.mem_append_left _ (List.mem_of_getElem? (i := 36) rfl)))))))), rfl⟩
theorem wd_1470 : (Jvm.Cond.instantiable "ParlourLeavesModel" (45 : Nat)) ∈ zTB := List.mem_filter.mpr ⟨List.mem_append_right _ (List.mem_append_right _ (List.mem_append_right _ (List.mem_append_right _ (List.mem_append_right _ (List.mem_append_right _ (List.mem_append_right _ (List.mem_append_left _ (List.mem_of_getElem? (i := 30) rfl)))))))), rfl⟩
theorem nw_L_19 : zNw RL "ParlourLeavesModel" 19 13 [.int 0, .null, .int 0, .int 0, .int 0, .int 0, .int 0, .int 0, .int 0, .int 0, .int 0, .int 0, .long 0, .int 0, .null, .null, .null, .null, .null, .null, .null, .null, .null, .null, .int 0, .int 0, .int 0, .null, .null, .int 0, .null, .int 0, .int 0, .null, .int 0, .int 0, .null, .null, .int 0, .int 0, .null, .int 0, .int 0, .int 0, .int 0] := ⟨TX12, 45, tyX12, rfl, rfl, wsin_X12, tyX12_ok, by decide +kernel, wd_1476, wd_1470, wd_19⟩
theorem wd_32 : (Jvm.Cond.methodLink "ParlourLeavesLaw" (18 : Nat) ({ cls := "ParlourLeaves", name := "<init>", desc := "()V" } : Jvm.MethodName)) ∈ zTB := List.mem_filter.mpr ⟨List.mem_append_right _ (List.mem_append_left _ (List.mem_of_getElem? (i := 32) rfl)), rfl⟩
theorem wd_33 : (Jvm.Cond.instanceMethod ({ cls := "ParlourLeaves", name := "<init>", desc := "()V" } : Jvm.MethodName)) ∈ zTB := List.mem_filter.mpr ⟨List.mem_append_right _ (List.mem_append_left _ (List.mem_of_getElem? (i := 33) rfl)), rfl⟩
theorem wd_34 : (Jvm.Cond.code ({ cls := "ParlourLeaves", name := "<init>", desc := "()V" } : Jvm.MethodName) prog_1_method_1_code (2 : Nat) (Option.none : Option Jvm.ClassFile.FieldType)) ∈ zTB := List.mem_filter.mpr ⟨List.mem_append_right _ (List.mem_append_left _ (List.mem_of_getElem? (i := 34) rfl)), rfl⟩
theorem ci_L_18 : zCI RL 18 yX11_init cX11_init 2 0 := ⟨⟨by decide, by decide, by decide +kernel⟩, rfl, wd_32, wd_33, wd_1, wd_34⟩
theorem wd_1477 : (Jvm.Cond.methodLink "ParlourLeavesLaw" (21 : Nat) ({ cls := "ParlourLeavesModel", name := "<init>", desc := "()V" } : Jvm.MethodName)) ∈ zTB := List.mem_filter.mpr ⟨List.mem_append_right _ (List.mem_append_right _ (List.mem_append_right _ (List.mem_append_right _ (List.mem_append_right _ (List.mem_append_right _ (List.mem_append_right _ (List.mem_append_left _ (List.mem_of_getElem? (i := 37) rfl)))))))), rfl⟩
theorem wd_1478 : (Jvm.Cond.instanceMethod ({ cls := "ParlourLeavesModel", name := "<init>", desc := "()V" } : Jvm.MethodName)) ∈ zTB := List.mem_filter.mpr ⟨List.mem_append_right _ (List.mem_append_right _ (List.mem_append_right _ (List.mem_append_right _ (List.mem_append_right _ (List.mem_append_right _ (List.mem_append_right _ (List.mem_append_left _ (List.mem_of_getElem? (i := 38) rfl)))))))), rfl⟩
theorem wd_1479 : (Jvm.Cond.code ({ cls := "ParlourLeavesModel", name := "<init>", desc := "()V" } : Jvm.MethodName) prog_14_method_26_code (1 : Nat) (Option.none : Option Jvm.ClassFile.FieldType)) ∈ zTB := List.mem_filter.mpr ⟨List.mem_append_right _ (List.mem_append_right _ (List.mem_append_right _ (List.mem_append_right _ (List.mem_append_right _ (List.mem_append_right _ (List.mem_append_right _ (List.mem_append_left _ (List.mem_of_getElem? (i := 39) rfl)))))))), rfl⟩
theorem ci_L_21 : zCI RL 21 yX12_init cX12_init 1 0 := ⟨⟨by decide, by decide, by decide +kernel⟩, rfl, wd_1477, wd_1478, wd_19, wd_1479⟩
theorem gWm_mem {cy : Nat → ClassId} {q : Nat → Nat} {k : Nat} (hk : k < 264) : ∃ x ∈ gWm cy q, x.1 = q k := by
  obtain ⟨h1, h2⟩ := zPi_lt k hk
  have e : ((gWm cy q).map Prod.fst)[zPi k]? = some (q k) := by
    rw [gWm_fst, gWm_at q _ h1, h2]
  rw [List.getElem?_map] at e
  cases hx : (gWm cy q)[zPi k]? with
  | none => rw [hx] at e; cases e
  | some x => rw [hx] at e; exact ⟨x, List.mem_of_getElem? hx, Option.some.inj e⟩
theorem zW_mem2 {sh : Nat → zSp} {N : Nat} {cy : Nat → ClassId} {q : Nat → Nat} {S : zSt} {k : Nat} (hk : k < N) : ∃ x ∈ zW sh N cy q S, x.1 = q k := ⟨_, List.mem_of_getElem? (zW_at hk rfl), rfl⟩
theorem z_Dapp {A : Nat → Prop} {a b : va_W} (h : va_D A (a ++ b)) : va_D A a ∧ va_D A b ∧ ∀ x ∈ a, ∀ y ∈ b, x.1 ≠ y.1 := by
  rw [z_Dm, List.pairwise_append] at h
  obtain ⟨⟨h1, h2, h3⟩, h4⟩ := h
  exact ⟨z_Dm.mpr ⟨h1, fun x hx => h4 x (List.mem_append_left _ hx)⟩, z_Dm.mpr ⟨h2, fun x hx => h4 x (List.mem_append_right _ hx)⟩, h3⟩
theorem z_Papp {D : va_G} {cl : List vw_C} {a b : va_W} {H : Heap} (h : va_P D cl (a ++ b) H) : va_P D cl a H ∧ va_P D cl b H := by
  rw [z_Pm] at h
  exact ⟨z_Pm.mpr fun x hx => h x (List.mem_append_left _ hx), z_Pm.mpr fun x hx => h x (List.mem_append_right _ hx)⟩
theorem zIv_new {D : va_G} {cy : Nat → ClassId} {s : State} {q qm : Nat → Nat} {o : Nat} {H : Heap} {locs : List Loc} (hP : va_P D vwCl ((gWm cy q ++ zW zshM 19 cy qm tNew) ++ [(o, .inl (cy 1, 1, .inr (.inl (fun _ => 0))))]) H) (hD : va_D (zAL s) ((gWm cy q ++ zW zshM 19 cy qm tNew) ++ [(o, .inl (cy 1, 1, .inr (.inl (fun _ => 0))))])) (hS : va_S (zAL s) s.heap H locs) : zIv D cy s q qm o H locs := by
  obtain ⟨hD1, hD3, hX1⟩ := z_Dapp hD
  obtain ⟨hDC, hDM, hX2⟩ := z_Dapp hD1
  obtain ⟨hP1, hPo⟩ := z_Papp hP
  obtain ⟨hPC, hPM⟩ := z_Papp hP1
  obtain ⟨hPw, hPb⟩ := gWm_zW hPC
  have hqC := gWm_zQ hDC
  have hqM := zQ_list hDM
  have ho : ∀ x ∈ gWm cy q ++ zW zshM 19 cy qm tNew, x.1 ≠ o := fun x hx => hX1 x hx (o, .inl (cy 1, 1, .inr (.inl (fun _ => 0)))) (List.mem_singleton.mpr rfl)
  have hoC : ∀ k, k < 264 → q k ≠ o := fun k hk => by
    obtain ⟨x, hx, e⟩ := gWm_mem (cy := cy) (q := q) hk
    rw [← e]
    exact ho x (List.mem_append_left _ hx)
  have hoM : ∀ j, j < 19 → qm j ≠ o := fun j hj => by
    obtain ⟨x, hx, e⟩ := zW_mem2 (sh := zshM) (N := 19) (cy := cy) (q := qm) (S := tNew) hj
    rw [← e]
    exact ho x (List.mem_append_right _ hx)
  have hCM : ∀ k, k < 264 → ∀ j, j < 19 → q k ≠ qm j := fun k hk j hj => by
    obtain ⟨x, hx, e⟩ := gWm_mem (cy := cy) (q := q) hk
    obtain ⟨y, hy, e2⟩ := zW_mem2 (sh := zshM) (N := 19) (cy := cy) (q := qm) (S := tNew) hj
    rw [← e, ← e2]
    exact hX2 x hx y hy
  refine ⟨sNew, tNew, [], (q 263, 16, 0, fun _ => 0), fun _ => 0, RelT_new, ⟨Or.inl rfl, Nat.zero_le _, (fun j x h => by simp at h), (fun x h => by cases h), fun _ => rfl⟩, ⟨⟨fun i j hi hj e => hqC.1 i j (by omega) (by omega) e, fun k hk => hqC.2 k (by omega)⟩, fun k hk e => ?_, hqC.2 263 (by omega), hqM, fun k hk j hj => hCM k (by omega) j hj, fun j hj e => hCM 263 (by omega) j hj e.symm, hD3.2 0 _ rfl, fun k hk => hoC k (by omega), hoM, hoC 263 (by omega)⟩, ⟨hPw, hPb, hPM, hPo⟩, hS⟩
  have := hqC.1 k 263 (by omega) (by omega) e
  omega
section ZCm
variable {p : Program} {l : Launch} {e : Env} {R : Room} {s : State} {m : MethodId} {args : Array Value} {below : List Frame} {meth : Method} {c : Code} {H : Heap} {locs : List Loc} {cells slots : Nat} {Q : State → Prop}
variable {own : String} {cc : ByteArray} {nL pc : Nat} {ls : Array Slot} {rest : List Value} {D : va_G} {cy : Nat → ClassId} {A : Nat → Prop} {ws : va_W} {index b : Nat}
theorem zr_ctM (cx : zX own cc nL p s m args c D cy) (cv : zCI own index yX12_init cX12_init 1 0) (hR : 2 + 1 ≤ R.frames ∧ 8 + (1 + 11) + 40 ≤ R.locals) (hRc : cells + 18 ≤ R.cells ∧ slots + 4189 ≤ R.slots) (hP : va_P D vwCl (ws ++ [(b, .inr (13, [.int 0, .null, .int 0, .int 0, .int 0, .int 0, .int 0, .int 0, .int 0, .int 0, .int 0, .int 0, .long 0, .int 0, .null, .null, .null, .null, .null, .null, .null, .null, .null, .null, .int 0, .int 0, .int 0, .null, .null, .int 0, .null, .int 0, .int 0, .null, .int 0, .int 0, .null, .null, .int 0, .int 0, .null, .int 0, .int 0, .int 0, .int 0]))]) H) (hD : va_D A (ws ++ [(b, .inr (13, [.int 0, .null, .int 0, .int 0, .int 0, .int 0, .int 0, .int 0, .int 0, .int 0, .int 0, .int 0, .long 0, .int 0, .null, .null, .null, .null, .null, .null, .null, .null, .null, .null, .int 0, .int 0, .int 0, .null, .null, .int 0, .null, .int 0, .int 0, .null, .int 0, .int 0, .null, .null, .int 0, .int 0, .null, .int 0, .int 0, .int 0, .int 0]))])) (hS : va_S A s.heap H locs) (hA : ∀ q, s.heap.size ≤ q → A q) (hl : ls.size = nL) {st0 : List Value} (hst : st0 = .ref b :: rest) (hW : (rest.map fun v => v.category).sum ≤ 8) (hdg : decode cc pc = .ok (.invokespecial index, 3))
    (kk : ∀ (u : Nat → Nat) (H1 : Heap) (locs1 : List Loc), u 0 = b → va_P D vwCl (ws ++ zW zshM 19 cy u tNew) H1 → va_D A (ws ++ zW zshM 19 cy u tNew) → va_S A s.heap H1 locs1 → W p l e R s m args below meth c H1 locs1 (cells + 18) (slots + 4189) Q (F0 m (pc + 3) ls rest)) : W p l e R s m args below meth c H locs cells slots Q (F0 m pc ls st0) := by
  have hF := z_free hD hS hA
  obtain ⟨h2, h3, w1, w2, w4, w5⟩ := cv
  have hts := cx.2.2.2.2.1
  refine va_callv (va_runI (As := []) (zr_fix cx) (mX12_init b H.size) ⟨callB_of 0 hts (zGoodC w5) rfl rfl rfl (hts _ w4) (hts _ w1) h2 hR, h3, hts _ w2⟩ (zr_preS (fun a U g mk h => ⟨h.1, h.2.1, ⟨va_K.moved (u := U) (U := U.calling g mk a) (Vm.Alike.refl U.vm) h.2.2.1.1, zKN_same (s := U) (U := U.calling g mk a) rfl h.2.2.1.2⟩, h.2.2.2⟩) (fun U hU hW => ⟨by rw [hU], by rw [hU]; exact z_last hP, ⟨va_K.moved hW.alike cx.2.2.2.2.2.1, zKN_warm hW cx.2.2.2.2.2.2⟩, z_one trivial⟩)) rfl rfl hl hst (lv_room hW) hdg hRc) hS (fun q _ h => hF q h) hF (fun u t H1 locs1 ht hvm hw hB hz1 hk1 hS1 => ?_)
  obtain ⟨hP1, hq1⟩ := hB
  rw [ht] at hP1
  obtain ⟨g1, g2⟩ := z_join hP hD hk1 hF hP1 hq1.D
  exact kk u H1 locs1 hw g1 g2 hS1
end ZCm
theorem dL_law_0 : decode cL_law 0 = .ok (.new 8, 3) := by decide +kernel
theorem dL_law_3 : decode cL_law 3 = .ok (.dup, 1) := by decide +kernel
theorem dL_law_4 : decode cL_law 4 = .ok (.invokespecial 18, 3) := by decide +kernel
theorem dL_law_7 : decode cL_law 7 = .ok (.astore_n 1, 1) := by decide +kernel
theorem dL_law_8 : decode cL_law 8 = .ok (.new 19, 3) := by decide +kernel
theorem dL_law_11 : decode cL_law 11 = .ok (.dup, 1) := by decide +kernel
theorem dL_law_12 : decode cL_law 12 = .ok (.invokespecial 21, 3) := by decide +kernel
theorem dL_law_15 : decode cL_law 15 = .ok (.astore_n 2, 1) := by decide +kernel
theorem dL_law_16 : decode cL_law 16 = .ok (.iconst 1, 1) := by decide +kernel
theorem dL_law_17 : decode cL_law 17 = .ok (.newarray .long, 2) := by decide +kernel
theorem dL_law_19 : decode cL_law 19 = .ok (.astore_n 3, 1) := by decide +kernel
theorem dL_law_20 : decode cL_law 20 = .ok (.iconst 0, 1) := by decide +kernel
theorem dL_law_21 : decode cL_law 21 = .ok (.istore 4, 2) := by decide +kernel
set_option maxHeartbeats 1000000 in
set_option maxRecDepth 100000 in
theorem law_start {p : Program} {l : Launch} {e : Env} {s : State} {m : MethodId} {below : List Frame} {meth : Method} {c : Code} {D : va_G} {cy : Nat → ClassId} {kK kV : Nat → Nat} {b L : Nat} {xs : Nat → Int32} {Q : State → Prop} (cx : zX RL cL_law 7 p s m #[Value.ref b] c D cy) (hE : zEn kK kV (zAL s) s) (hX : va_X b L xs s s.heap) (hbl : b < s.heap.size) (hL : L ≤ 3072) (hl0 : l.stackTraces = false)
    (fin : ∀ (H : Heap) (ls : Array Slot), W p l e room_1 s m #[Value.ref b] below meth c H [] 601024 7293034 Q (F0 m 1275 ls [.int 1])) {ls : Array Slot} (hl : lv_has ls 7 [(0, .ref b)]) : W p l e room_1 s m #[Value.ref b] below meth c s.heap [] 0 0 Q (F0 m 0 ls []) := by
  have hx := cx.1
  have hb := cx.2.1
  have hA : ∀ q, s.heap.size ≤ q → zAL s q := fun _ h => h
  have hS : va_S (zAL s) s.heap s.heap [] := va_S.rf
  have hP : va_P D vwCl [] s.heap := fun k q h => by simp at h
  have hD : va_D (zAL s) [] := ⟨fun i j p q h => by simp at h, fun k q h => by simp at h⟩
  refine zr_new (pc := 0) (N := 17) cx nw_L_8 rfl hP hD hS hA (Nat.le_of_ble_eq_true rfl) (Nat.le_of_ble_eq_true rfl) dL_law_0 (fun a H hP hD hS => ?_)
  refine lv_dup (pc := 3) hx hb dL_law_3 rfl ?_
  refine zr_ctI (pc := 4) (ws := []) (As := []) (rest := [.ref a]) (kK := kK) (kV := kV) cx ci_L_18 (mX11_init a H.size) ⟨(Nat.le_of_ble_eq_true rfl), (Nat.le_of_ble_eq_true rfl)⟩ ⟨(Nat.le_of_ble_eq_true rfl), (Nat.le_of_ble_eq_true rfl)⟩ hE hP hD hS hA hl.1 rfl rfl (Nat.le_of_ble_eq_true rfl) dL_law_4 (fun q H locs hq0 hPn hDn hSn => ?_)
  subst hq0
  refine lv_astore_n (lv' := [(1, .ref (q 0)), (0, .ref b)]) (pc := 7) hx hb dL_law_7 rfl hl (by decide) rfl (fun ls hl => ?_)
  have hPm : va_P D vwCl (gWm cy q) H := hPn
  have hDm : va_D (zAL s) (gWm cy q) := hDn
  refine zr_new (pc := 8) (N := 45) cx nw_L_19 rfl hPm hDm hSn hA (Nat.le_of_ble_eq_true rfl) (Nat.le_of_ble_eq_true rfl) dL_law_8 (fun a H hP hD hS => ?_)
  refine lv_dup (pc := 11) hx hb dL_law_11 rfl ?_
  refine zr_ctM (pc := 12) (rest := [.ref a]) cx ci_L_21 ⟨(Nat.le_of_ble_eq_true rfl), (Nat.le_of_ble_eq_true rfl)⟩ ⟨(Nat.le_of_ble_eq_true rfl), (Nat.le_of_ble_eq_true rfl)⟩ hP hD hS hA hl.1 rfl (Nat.le_of_ble_eq_true rfl) dL_law_12 (fun qm H locs hq0 hPk hDk hSk => ?_)
  subst hq0
  refine lv_astore_n (lv' := [(2, .ref (qm 0)), (1, .ref (q 0)), (0, .ref b)]) (pc := 15) hx hb dL_law_15 rfl hl (by decide) rfl (fun ls hl => ?_)
  refine lv_iconst (pc := 16) hx hb dL_law_16 zc_1 ?_
  refine zr_newa (pc := 17) cx (atype := .long) (t := 1) (ty := .long) rfl rfl (fun _ _ => rfl) wd_139 hPk hDk hSk hA (n := 1) (N' := 1) (a0 := (1, .inr (.inl (fun _ => 0)))) (fun _ => rfl) (by decide) (by decide) (by decide) (Nat.le_of_ble_eq_true rfl) (Nat.le_of_ble_eq_true rfl) dL_law_17 (fun o H hPo hDo hSo => ?_)
  refine lv_astore_n (lv' := [(3, .ref o), (2, .ref (qm 0)), (1, .ref (q 0)), (0, .ref b)]) (pc := 19) hx hb dL_law_19 rfl hl (by decide) rfl (fun ls hl => ?_)
  refine lv_iconst (pc := 20) hx hb dL_law_20 zc_0 ?_
  refine lv_istore (lv' := [(4, .int (nI 0)), (3, .ref o), (2, .ref (qm 0)), (1, .ref (q 0)), (0, .ref b)]) (pc := 21) hx hb dL_law_21 hl (by decide) rfl (fun ls hl => ?_)
  exact law_loop cx hE hX hbl hL hl0 fin 512 0 _ _ H locs ls (by omega) (by omega) (Nat.le_of_ble_eq_true rfl) (Nat.le_of_ble_eq_true rfl) (zIv_new hPo hDo hSo) (lv_sub hl [0, 4, 3, 2, 1] rfl)
