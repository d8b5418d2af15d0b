/-! what stands at the start and nobody writes: the static rows, the String constants, the array classes -/
def zOv (ty : FieldType) (U : State) : Prop := (Cond.arrayOver ty).before #[] U = true
theorem zOv.same {ty : FieldType} {u U : State} (hv : U.vm = u.vm) (h : zOv ty u) : zOv ty U := by
  unfold zOv Cond.before Cond.holds at h ⊢
  simp only [Cond.value] at h ⊢
  rw [hv]
  exact h
theorem zOv.warm {ty : FieldType} {s U : State} (hW : s.WarmedH U.vm) (h : zOv (.array ty) s) : zOv (.array ty) U := zw_ovA hW.alike h
theorem zOv.warmO {C : String} {s U : State} (hW : s.WarmedH U.vm) (h : zOv (.object C) s) : zOv (.object C) U := va_AO.moved hW.alike h
def zLen : List Nat := [121, 10, 5, 6]
def zKeyT : List Int32 := [112,97,114,108,111,117,114,32,115,105,103,104,116,32,112,108,97,110,116,32,102,101,114,110,32,112,101,114,115,111,110,32,100,101,101,100,32,100,117,115,116,121,32,112,114,111,111,102,32,100,111,101,115,32,115,112,111,110,103,101,32,99,97,114,114,121,32,100,97,121,32,111,114,32,97,110,100,32,110,111,116,32,98,108,105,110,100,32,105,110,32,115,101,101,115,32,116,101,108,108,115,32,108,101,97,118,101,115,32,100,117,115,116,32,110,117,109,98,101,114,32]
def zByt : List (List Int32) := [zKeyT, [32,105,115,32,97,32,102,101,114,110], [32,104,97,115,32], [32,98,108,105,110,100]]
def zTx (i : Nat) : String := match i with
  | 0 => "parlour sight plant fern person deed dusty proof does sponge carry day or and not blind in sees tells leaves dust number "
  | 1 => " is a fern"
  | 2 => " has "
  | _ => " blind"
def zOwn (i : Nat) : String := match i with
  | 0 => "ParlourLeaves$Tape"
  | _ => "ParlourLeaves"
def zPl (i : Nat) : Nat := match i with
  | 0 => 19
  | 1 => 334
  | 2 => 342
  | _ => 347
def zDig (A : Nat → Prop) (U : State) : Prop := ∃ t u : Nat, va_Z "java/lang/Integer" "DigitOnes" "[B" (.ref t) A U U.heap ∧ va_T .byte t 100 (fun j => .int (nI (48 + j % 10))) A U U.heap ∧ va_Z "java/lang/Integer" "DigitTens" "[B" (.ref u) A U U.heap ∧ va_T .byte u 100 (fun j => .int (nI (48 + j / 10))) A U U.heap
def zLs (C n d : String) (A : Nat → Prop) (U : State) : Prop := ∃ (c : ClassId) (k : Class) (i : Nat) (f : Field) (a : Nat) (cell : Cell), U.vm.findClass C = some c ∧ U.fieldFound? C n d = some (c, k, i, f) ∧ f.isStatic = true ∧ k.statics = some a ∧ U.heap[a]? = some cell ∧ cell.vm.isStatics = true ∧ cell.cls = c ∧ f.slot < cell.slots.size ∧ k.staticTypes[f.slot]? = some f.type ∧ ¬ A a
theorem zLs.at {C n d : String} {A : Nat → Prop} {s U : State} {H : Heap} (h : zLs C n d A s) (hq : ∀ a : Nat, a < s.heap.size → ¬ A a → H[a]? = s.heap[a]?) (hU : U.heap = H) (hvm : s.vm.Alike U.vm) : zLs C n d A U := by
  obtain ⟨c, k, i, f, a, cell, h1, h2, h3, h4, h5, h6, h7, h8, h9, h10⟩ := h
  obtain ⟨k', hi', he⟩ := State.fieldFound?_setVm hvm h2
  exact ⟨c, k', i, f, a, cell, by rw [hvm.findClass]; exact h1, hi', h3, by rw [he]; exact h4, by rw [hU, hq a (Array.getElem?_eq_some_iff.mp h5).1 h10]; exact h5, h6, h7, h8, by rw [he]; exact h9, h10⟩
theorem zLs.narrow {C n d : String} {A B : Nat → Prop} {U : State} (h : zLs C n d A U) (hAB : ∀ q, B q → A q) : zLs C n d B U := by
  obtain ⟨c, k, i, f, a, cell, h1, h2, h3, h4, h5, h6, h7, h8, h9, h10⟩ := h
  exact ⟨c, k, i, f, a, cell, h1, h2, h3, h4, h5, h6, h7, h8, h9, fun z => h10 (hAB a z)⟩
theorem zLs.of {C n d : String} {A : Nat → Prop} {args : Array Value} {s : State} (h : (Cond.laysStatic C n d).before args s = true) (hA : ∀ a : Nat, a < s.heap.size → ¬ A a) : zLs C n d A s := by
  obtain ⟨c, k, i, f, a, cell, hc, hf, hst, hsta, hcell, hiss, hcls, hlt, hty⟩ := Cond.laysStatic_spec h
  exact ⟨c, k, i, f, a, cell, hc, hf, hst, hsta, hcell, hiss, hcls, hlt, hty, hA a (Array.getElem?_eq_some_iff.mp hcell).1⟩
theorem zLs.cond {C n d : String} {A : Nat → Prop} {args : Array Value} {s : State} (h : zLs C n d A s) : (Cond.laysStatic C n d).before args s = true := by
  obtain ⟨c, k, i, f, a, cell, h1, h2, h3, h4, h5, h6, h7, h8, h9, h10⟩ := h
  subst h7
  simp [Cond.before, Cond.holds, Cond.value, h1, h2, h3, h4, h5, h6, h8, h9]
def zFq (A : Nat → Prop) (U : State) : Prop := va_Zq "jdk/internal/util/Preconditions" "SIOOBE_FORMATTER" "Ljava/util/function/BiFunction;" A U U.heap ∧ va_Zq "java/lang/Throwable" "UNASSIGNED_STACK" "[Ljava/lang/StackTraceElement;" A U U.heap ∧ va_Zq "java/lang/Throwable" "SUPPRESSED_SENTINEL" "Ljava/util/List;" A U U.heap ∧ zLs "java/lang/Throwable" "UNASSIGNED_STACK" "[Ljava/lang/StackTraceElement;" A U ∧ zLs "java/lang/Throwable" "SUPPRESSED_SENTINEL" "Ljava/util/List;" A U
theorem zFq.at {A : Nat → Prop} {s U : State} {H : Heap} (h : zFq A s) (hq : ∀ a : Nat, a < s.heap.size → ¬ A a → H[a]? = s.heap[a]?) (hU : U.heap = H) (hvm : s.vm.Alike U.vm) : zFq A U := by
  obtain ⟨h1, h2, h3, h4, h5⟩ := h
  refine ⟨?_, ?_, ?_, h4.at hq hU hvm, h5.at hq hU hvm⟩ <;> rw [hU]
  · exact va_Zq.moved hvm (h1.kept hq)
  · exact va_Zq.moved hvm (h2.kept hq)
  · exact va_Zq.moved hvm (h3.kept hq)
theorem zFq.narrow {A B : Nat → Prop} {U : State} (h : zFq A U) (hAB : ∀ q, B q → A q) : zFq B U := ⟨h.1.narrow hAB, h.2.1.narrow hAB, h.2.2.1.narrow hAB, h.2.2.2.1.narrow hAB, h.2.2.2.2.narrow hAB⟩
def zPvL : List MethodName := [⟨"java/lang/AbstractStringBuilder", "ensureCapacityInternal", "(I)V"⟩, ⟨"java/lang/AbstractStringBuilder", "newCapacity", "(I)I"⟩, ⟨"java/lang/AbstractStringBuilder", "putStringAt", "(ILjava/lang/String;)V"⟩, ⟨"java/lang/AbstractStringBuilder", "inflateIfNeededFor", "(Ljava/lang/String;)V"⟩]
def zPvs (U : State) : Prop := ∀ y ∈ zPvL, (Cond.selects "java/lang/StringBuilder" y y).before #[] U = true
theorem zPvs.warm {s U : State} (hW : s.WarmedH U.vm) (h : zPvs s) : zPvs U := fun y hy => word_at hW (Or.inl rfl) (h y hy)
theorem zPvs.same {u U : State} (hv : U.vm = u.vm) (h : zPvs u) : zPvs U := fun y hy => va_tabs rfl hv.symm (h y hy)
def zEn (kK kV : Nat → Nat) (A : Nat → Prop) (U : State) : Prop :=
  (zOv (.object "ParlourLeaves$Life") U ∧ zOv (.object "ParlourLeaves$Image") U ∧ zOv (.array .int) U) ∧ zMS A U ∧ vk_S 4 zLen zByt kK kV A U U.heap ∧ (∀ i, i < 4 → vk_R (zOwn i) (zPl i) (zTx i) (kK i) U) ∧ va_Z "java/lang/String" "COMPACT_STRINGS" "Z" (.int 1) A U U.heap ∧ zDig A U ∧ zFq A U ∧ zPvs U
theorem zDig.at {A : Nat → Prop} {s U : State} {H : Heap} (h : zDig A s) (hq : ∀ a : Nat, a < s.heap.size → ¬ A a → H[a]? = s.heap[a]?) (hU : U.heap = H) (hvm : s.vm.Alike U.vm) : zDig A U := by
  obtain ⟨t, u, h1, h2, h3, h4⟩ := h
  refine ⟨t, u, ?_, ?_, ?_, ?_⟩ <;> rw [hU]
  · exact va_Z.moved hvm (h1.kept hq)
  · exact va_T.moved hvm (h2.kept hq)
  · exact va_Z.moved hvm (h3.kept hq)
  · exact va_T.moved hvm (h4.kept hq)
theorem zEn.at {kK kV : Nat → Nat} {A : Nat → Prop} {s U : State} {H : Heap} (h : zEn kK kV A s) (hq : ∀ a : Nat, a < s.heap.size → ¬ A a → H[a]? = s.heap[a]?) (hU : U.heap = H) (hW : s.WarmedH U.vm) : zEn kK kV A U := by
  obtain ⟨⟨a1, a2, a3⟩, h2, h3, h4, h5, h6, h7, h8⟩ := h
  refine ⟨⟨a1.warmO hW, a2.warmO hW, a3.warm hW⟩, h2.at hq hU hW.alike, ?_, fun i hi => (h4 i hi).warm hW, ?_, h6.at hq hU hW.alike, h7.at hq hU hW.alike, h8.warm hW⟩
  · rw [hU]; exact vk_S.moved hW.alike (h3.kept hq)
  · rw [hU]; exact va_Z.moved hW.alike (h5.kept hq)
theorem zEn.narrow {kK kV : Nat → Nat} {A B : Nat → Prop} {U : State} (h : zEn kK kV A U) (hAB : ∀ q, B q → A q) : zEn kK kV B U := by
  obtain ⟨h1, h2, h3, h4, h5, ⟨t, u, g1, g2, g3, g4⟩, h7, h8⟩ := h
  exact ⟨h1, h2.narrow hAB, h3.narrow hAB, h4, h5.narrow hAB, ⟨t, u, g1.narrow hAB, g2.narrow hAB, g3.narrow hAB, g4.narrow hAB⟩, h7.narrow hAB, h8⟩
theorem zEn.same {kK kV : Nat → Nat} {A : Nat → Prop} {u U : State} (hv : U.vm = u.vm) (hh : U.heap = u.heap) (h : zEn kK kV A u) : zEn kK kV A U := by
  obtain ⟨⟨a1, a2, a3⟩, h2, h3, h4, h5, h6, h7, h8⟩ := h
  have hal : u.vm.Alike U.vm := by rw [hv]; exact Vm.Alike.refl u.vm
  refine ⟨⟨a1.same hv, a2.same hv, a3.same hv⟩, h2.at (H := u.heap) (fun _ _ _ => rfl) hh hal, ?_, fun i hi => (h4 i hi).same hv, ?_, h6.at (H := u.heap) (fun _ _ _ => rfl) hh hal, h7.at (H := u.heap) (fun _ _ _ => rfl) hh hal, h8.same hv⟩
  · rw [hh]; exact vk_S.moved hal h3
  · rw [hh]; exact va_Z.moved hal h5
theorem zEn_bl {kK kV : Nat → Nat} {A : Nat → Prop} : zBl (zEn kK kV A) := fun a U g mk h => h.same (U := U.calling g mk a) rfl rfl
/-! a constructor's contract: from one fresh cell to a block -/
def zPn (D : va_G) (cy : Nat → ClassId) (kK kV : Nat → Nat) (sz a : Nat) (e0 : va_E) (U : State) : Prop := U.heap.size = sz ∧ va_P D vwCl [(a, e0)] U.heap ∧ (va_K D vwCl (zTy cy) U ∧ zKN U) ∧ zEn kK kV (va_A [(a, e0)] sz) U
theorem zPn_bl {D : va_G} {cy : Nat → ClassId} {kK kV : Nat → Nat} {sz a : Nat} {e0 : va_E} : zBl (zPn D cy kK kV sz a e0) := fun a U g mk h => ⟨h.1, h.2.1, ⟨va_K.moved (u := U) (U := U.calling g mk a) (Vm.Alike.refl U.vm) h.2.2.1.1, zKN_same (s := U) (U := U.calling g mk a) rfl h.2.2.1.2⟩, zEn_bl a U g mk h.2.2.2⟩
abbrev zMc (l : Launch) (y : MethodName) (bytes : ByteArray) (maxL : Nat) (rm : Room) (As : List Value) (D : va_G) (cy : Nat → ClassId) (kK kV : Nat → Nat) (sz a : Nat) (e0 : va_E) (B : (Nat → Nat) → va_W) : Prop :=
  Met l y (Cond.code y bytes maxL none :: zTB) rm (va_Pc (.ref a :: As) (zPn D cy kK kV sz a e0)) (va_Qv (fun (q : Nat → Nat) => q 0 = a) (fun q t => va_P D vwCl (B q) t.heap ∧ va_D (va_A [(a, e0)] sz) (B q)) (va_A [(a, e0)] sz)) rm.cells rm.slots (va_A [(a, e0)] sz)
theorem z_one {A : Nat → Prop} {a : Nat} {e0 : va_E} (h : A a) : va_D A [(a, e0)] := by
  refine ⟨fun i j x y hx hy _ => ?_, fun k x hx => ?_⟩
  · have h1 := (List.getElem?_eq_some_iff.mp hx).1
    have h2 := (List.getElem?_eq_some_iff.mp hy).1
    simp at h1 h2
    omega
  · have h1 := (List.getElem?_eq_some_iff.mp hx).1
    simp at h1
    subst h1
    cases hx
    exact h
theorem z_last {D : va_G} {cl : List vw_C} {ws : va_W} {x : Nat × va_E} {H : Heap} (h : va_P D cl (ws ++ [x]) H) : va_P D cl [x] H := by
  intro k y hy
  have h1 := (List.getElem?_eq_some_iff.mp hy).1
  simp at h1
  subst h1
  exact h ws.length y (by rw [List.getElem?_append_right (Nat.le_refl _), Nat.sub_self]; exact hy)
/-- behind a constructor: the caller's cells, and the new block -/
theorem z_join {A : Nat → Prop} {D : va_G} {cl : List vw_C} {ws B : va_W} {b : Nat} {e0 : va_E} {H H1 : Heap} (hP : va_P D cl (ws ++ [(b, e0)]) H) (hD : va_D A (ws ++ [(b, e0)])) (hk : ∀ q : Nat, q < H.size → ¬ va_A [(b, e0)] H.size q → H1[q]? = H[q]?) (hF : ∀ q, va_A [(b, e0)] H.size q → A q) (hP1 : va_P D cl B H1) (hD1 : va_D (va_A [(b, e0)] H.size) B) : va_P D cl (ws ++ B) H1 ∧ va_D A (ws ++ B) := by
  have up : ∀ (k : Nat) (x : Nat × va_E), ws[k]? = some x → (ws ++ [(b, e0)])[k]? = some x := fun k x hx => by
    rw [List.getElem?_append_left (List.getElem?_eq_some_iff.mp hx).1]; exact hx
  have apart : ∀ (k : Nat) (x : Nat × va_E), ws[k]? = some x → x.1 < H.size ∧ ¬ va_A [(b, e0)] H.size x.1 := by
    intro k x hx
    have hl := (hP k x (up k x hx)).lt
    refine ⟨hl, fun h => ?_⟩
    rcases h with ⟨k2, e, h⟩ | h
    · have h1 := (List.getElem?_eq_some_iff.mp h).1
      simp at h1
      subst h1
      have h2 : (ws ++ [(b, e0)])[ws.length]? = some (x.1, e) := by rw [List.getElem?_append_right (Nat.le_refl _), Nat.sub_self]; exact h
      have := hD.1 k ws.length x (x.1, e) (up k x hx) h2 rfl
      have := (List.getElem?_eq_some_iff.mp hx).1
      omega
    · omega
  refine ⟨va_P.app (fun k x hx => (hP k x (up k x hx)).kept (hk x.1 (apart k x hx).1 (apart k x hx).2)) hP1, va_D.app ⟨fun i j x y hx hy => hD.1 i j x y (up i x hx) (up j y hy), fun k x hx => hD.2 k x (up k x hx)⟩ (hD1.weaken (fun k x _ h => hF x.1 h)) (fun i j x y hx hy hxy => ?_)⟩
  exact (apart i x hx).2 (by rw [hxy]; exact hD1.2 j y hy)
theorem z_free {A : Nat → Prop} {ws : va_W} {b : Nat} {e0 : va_E} {H0 H : Heap} {locs : List Loc} (hD : va_D A (ws ++ [(b, e0)])) (hS : va_S A H0 H locs) (hA : ∀ q, H0.size ≤ q → A q) : ∀ q, va_A [(b, e0)] H.size q → A q := by
  intro q h
  rcases h with ⟨k, e, h⟩ | h
  · have h1 := (List.getElem?_eq_some_iff.mp h).1
    simp at h1
    subst h1
    have h2 : (ws ++ [(b, e0)])[ws.length]? = some (q, e) := by rw [List.getElem?_append_right (Nat.le_refl _), Nat.sub_self]; exact h
    exact hD.2 ws.length (q, e) h2
  · exact hA q (Nat.le_trans hS.1 h)
def zCI (own : String) (index : Nat) (y : MethodName) (bytes : ByteArray) (maxL n : Nat) : Prop := zDn y n ∧ y.name = "<init>" ∧ Cond.methodLink own index y ∈ zTB ∧ Cond.instanceMethod y ∈ zTB ∧ Cond.initialized y.cls ∈ zTB ∧ Cond.code y bytes maxL none ∈ zTB
def zCJ (own host : String) (index : Nat) (y : MethodName) (bytes : ByteArray) (maxL n : Nat) : Prop := zDn y n ∧ y.name = "<init>" ∧ Cond.methodLinkNest own index y host ∈ zNL ∧ Cond.instanceMethod y ∈ zTB ∧ Cond.initialized y.cls ∈ zTB ∧ Cond.code y bytes maxL none ∈ zTB
section ZCc
variable {p : Program} {l : Launch} {e : Env} {R rm : Room} {s : State} {m : MethodId} {args : Array Value} {below : List Frame} {meth : Method} {c : Code} {H : Heap} {locs : List Loc} {cells slots : Nat} {Q : State → Prop}
variable {own host : String} {cc bytes : ByteArray} {nL pc maxL n : Nat} {ls : Array Slot} {rest As : List Value} {D : va_G} {cy : Nat → ClassId} {A : Nat → Prop} {ws : va_W} {y : MethodName} {index b : Nat} {e0 : va_E} {B : (Nat → Nat) → va_W} {kK kV : Nat → Nat}
theorem zr_preC (cx : zX own cc nL p s m args c D cy) (hE : zEn kK kV A s) (hP : va_P D vwCl (ws ++ [(b, e0)]) H) (hF : ∀ q, va_A [(b, e0)] H.size q → A q) (hS : va_S A s.heap H locs) : PreS s H (va_Pc (.ref b :: As) (zPn D cy kK kV H.size b e0)) (.ref b :: As) :=
  zr_preS zPn_bl (fun U hU hW => ⟨by rw [hU], by rw [hU]; exact z_last hP, ⟨va_K.moved hW.alike cx.2.2.2.2.2.1, zKN_warm hW cx.2.2.2.2.2.2⟩, (hE.at hS.2.1 hU hW).narrow hF⟩)
theorem zr_ctI (cx : zX own cc nL p s m args c D cy) (cv : zCI own index y bytes maxL n) (hM : zMc l y bytes maxL rm As D cy kK kV H.size b e0 B) (hR : rm.frames + 1 ≤ R.frames ∧ 8 + (maxL + 11) + rm.locals ≤ R.locals) (hRc : cells + rm.cells ≤ R.cells ∧ slots + rm.slots ≤ R.slots) (hE : zEn kK kV A s) (hP : va_P D vwCl (ws ++ [(b, e0)]) H) (hD : va_D A (ws ++ [(b, e0)])) (hS : va_S A s.heap H locs) (hA : ∀ q, s.heap.size ≤ q → A q) (hl : ls.size = nL) (hn : As.length = n) {st0 : List Value} (hst : st0 = As.reverse ++ .ref b :: rest) (hW : (rest.map fun v => v.category).sum ≤ 8) (hdg : decode cc pc = .ok (.invokespecial index, 3))
    (kk : ∀ (u : Nat → Nat) (H1 : Heap) (locs1 : List Loc), u 0 = b → va_P D vwCl (ws ++ B u) H1 → va_D A (ws ++ B u) → va_S A s.heap H1 locs1 → W p l e R s m args below meth c H1 locs1 (cells + rm.cells) (slots + rm.slots) Q (F0 m (pc + 3) ls rest)) : W p l e R s m args below meth c H locs cells slots Q (F0 m pc ls st0) := by
  have hF := z_free hD hS hA
  obtain ⟨h2, h3, w1, w2, w4, w5⟩ := cv
  have hts := cx.2.2.2.2.1
  refine va_callv (va_runI (zr_fix cx) hM ⟨callB_of n hts (zGoodC w5) rfl rfl rfl (hts _ w4) (hts _ w1) h2 hR, h3, hts _ w2⟩ (zr_preC cx hE hP hF hS) rfl hn hl hst (lv_room hW) hdg hRc) hS (fun q _ h => hF q h) hF (fun u t H1 locs1 ht hvm hw hB hz1 hk1 hS1 => ?_)
  obtain ⟨hP1, hD1⟩ := hB
  rw [ht] at hP1
  obtain ⟨g1, g2⟩ := z_join hP hD hk1 hF hP1 hD1
  exact kk u H1 locs1 hw g1 g2 hS1
theorem zr_ctN (cx : zX own cc nL p s m args c D cy) (cv : zCJ own host index y bytes maxL n) (hM : zMc l y bytes maxL rm As D cy kK kV H.size b e0 B) (hR : rm.frames + 1 ≤ R.frames ∧ 8 + (maxL + 11) + rm.locals ≤ R.locals) (hRc : cells + rm.cells ≤ R.cells ∧ slots + rm.slots ≤ R.slots) (hE : zEn kK kV A s) (hP : va_P D vwCl (ws ++ [(b, e0)]) H) (hD : va_D A (ws ++ [(b, e0)])) (hS : va_S A s.heap H locs) (hA : ∀ q, s.heap.size ≤ q → A q) (hl : ls.size = nL) (hn : As.length = n) {st0 : List Value} (hst : st0 = As.reverse ++ .ref b :: rest) (hW : (rest.map fun v => v.category).sum ≤ 8) (hdg : decode cc pc = .ok (.invokespecial index, 3))
    (kk : ∀ (u : Nat → Nat) (H1 : Heap) (locs1 : List Loc), u 0 = b → va_P D vwCl (ws ++ B u) H1 → va_D A (ws ++ B u) → va_S A s.heap H1 locs1 → W p l e R s m args below meth c H1 locs1 (cells + rm.cells) (slots + rm.slots) Q (F0 m (pc + 3) ls rest)) : W p l e R s m args below meth c H locs cells slots Q (F0 m pc ls st0) := by
  have hF := z_free hD hS hA
  obtain ⟨h2, h3, w1, w2, w4, w5⟩ := cv
  have hts := cx.2.2.2.2.1
  refine va_callv (va_runIN (zr_fix cx) hM ⟨va_cnB n hts (zGoodC w5) rfl rfl rfl (cx.2.2.2.2.2.2 _ w1) (hts _ w4) h2 hR, h3, hts _ w2⟩ (zr_preC cx hE hP hF hS) rfl hn hl hst (lv_room hW) hdg hRc) hS (fun q _ h => hF q h) hF (fun u t H1 locs1 ht hvm hw hB hz1 hk1 hS1 => ?_)
  obtain ⟨hP1, hD1⟩ := hB
  rw [ht] at hP1
  obtain ⟨g1, g2⟩ := z_join hP hD hk1 hF hP1 hD1
  exact kk u H1 locs1 hw g1 g2 hS1
/-- new of a class -/
def zNw (own C : String) (index ci : Nat) (fs : List Value) : Prop := ∃ (T : u_T) (NN : Nat) (ty0 : Nat → FieldType), vwCl[ci]? = some (C, T, NN) ∧ fs.length = NN ∧ (∀ w ∈ u_ws C T NN, w ∈ zTB) ∧ (∀ k, k < NN → parseFieldDescriptor (T k).2.2.1 = some (ty0 k)) ∧ (∀ k, k < NN → defaultValue (ty0 k) = vp_V fs k) ∧ Cond.classLink own index C ∈ zTB ∧ Cond.instantiable C NN ∈ zTB ∧ Cond.initialized C ∈ zTB
theorem zr_new {C : String} {ci : Nat} {fs : List Value} {N : Nat} (cx : zX own cc nL p s m args c D cy) (nw : zNw own C index ci fs) (hN : fs.length = N) (hP : va_P D vwCl ws H) (hD : va_D A ws) (hS : va_S A s.heap H locs) (hA : ∀ q, s.heap.size ≤ q → A q) (hcells : cells + 1 ≤ R.cells) (hslots : slots + N ≤ R.slots) (hdg : decode cc pc = .ok (.new index, 3))
    (kk : ∀ (q : Nat) (H1 : Heap), va_P D vwCl (ws ++ [(q, .inr (ci, fs))]) H1 → va_D A (ws ++ [(q, .inr (ci, fs))]) → va_S A s.heap H1 locs → W p l e R s m args below meth c H1 locs (cells + 1) (slots + N) Q (F0 m (pc + 3) ls (.ref q :: rest))) : W p l e R s m args below meth c H locs cells slots Q (F0 m pc ls rest) := by
  obtain ⟨hx, hb, -, hown, hts, hK, -⟩ := cx
  obtain ⟨T, NN, ty0, h1, h2, h3, h4, h5, h6, h7, h8⟩ := nw
  have e : NN = N := h2.symm.trans hN
  subst e
  exact va_new hx hb hts h3 ty0 h4 hown (hts _ h6) (hts _ h7) (hts _ h8) hK hP hD hS hA h1 h5 hcells hslots hdg kk
theorem zr_gett (cx : zX own cc nL p s m args c D cy) {ci j : Nat} (lk : zLk own index ci j) (hP : va_P D vwCl ws H) (q0 : Nat) {a : Nat} {fs : List Value} (he : ws[q0]? = some (a, .inr (ci, fs))) {v : Value} (hv : fs[j]? = some v) (hdg : decode cc pc = .ok (.getfield index, 3))
    (kk : W p l e R s m args below meth c H locs cells slots Q (F0 m (pc + 3) ls (v :: rest))) : W p l e R s m args below meth c H locs cells slots Q (F0 m pc ls (.ref a :: rest)) := by
  obtain ⟨hx, hb, -, hown, hts, hK, -⟩ := cx
  obtain ⟨ref, C, T, NN, h1, h2, h3, h4, h5⟩ := lk
  subst h5
  exact va_get hx hb hts h3 hown hK hP q0 he h1 j h2 (hts _ h4) (fun _ h => h) hv hdg kk
/-- a row of references -/
theorem zr_newq (cx : zX own cc nL p s m args c D cy) {C : String} {t : Nat} (ht : (zTy cy)[t]? = some (cy t, .object C)) (hO : zOv (.object C) s) (hcl : Cond.classLink own index C ∈ zTB) (hP : va_P D vwCl ws H) (hD : va_D A ws) (hS : va_S A s.heap H locs) (hA : ∀ q, s.heap.size ≤ q → A q) {n : Int32} {N' : Nat} (hn : ¬ n < 0) (hN : n.toNatClampNeg = N') (hbytes : N' * 4 ≤ 536870912) (hcells : cells + 1 ≤ R.cells) (hslots : slots + N' ≤ R.slots) (hdg : decode cc pc = .ok (.anewarray index, 3))
    (kk : ∀ (q : Nat) (H1 : Heap), va_P D vwCl (ws ++ [(q, .inl (cy t, N', .inr (.inr (.inr (.inr (fun _ => none))))))]) H1 → va_D A (ws ++ [(q, .inl (cy t, N', .inr (.inr (.inr (.inr (fun _ => none))))))]) → va_S A s.heap H1 locs → W p l e R s m args below meth c H1 locs (cells + 1) (slots + N') Q (F0 m (pc + 3) ls (.ref q :: rest))) : W p l e R s m args below meth c H locs cells slots Q (F0 m pc ls (.int n :: rest)) := by
  obtain ⟨hx, hb, -, hown, hts, hK, -⟩ := cx
  refine va_newq hx hb hown (hts _ hcl) hO hK hP hD hS hA hn hN hbytes hcells hslots hdg (fun q cA H1 hK1 hP1 hD1 hS1 => ?_)
  obtain ⟨-, -, -, -, -, a1⟩ := (hK.2 t _ ht).2
  obtain ⟨-, -, -, -, -, b1⟩ := (hK1.2 8 (cA, .object C) rfl).2
  have e1 : cA = cy t := Option.some.inj (b1.symm.trans a1)
  subst e1
  exact kk q H1 hP1 hD1 hS1
end ZCc
