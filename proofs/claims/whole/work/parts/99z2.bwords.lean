/-! the builder: its world, its text, the calls on it -/
abbrev zU : Type := Nat × Nat × Int32 × (Nat → Int32)
abbrev zBx (cy : Nat → ClassId) (b : Nat) (n : Int32) (u : zU) : va_W := [(b, .inr (0, [.ref u.1, .int 0, .int u.2.2.1, .int n])), (u.1, .inl (cy 4, u.2.1, .inl u.2.2.2))]
def zOkB (tx : List Nat) (u : zU) : Prop := (u.2.1 = 16 ∨ u.2.1 = 34) ∧ tx.length ≤ u.2.1 ∧ (∀ j x, tx[j]? = some x → u.2.2.2 j = nI x) ∧ (∀ x ∈ tx, x < 128) ∧ ∀ j, fits .byte (.int (u.2.2.2 j)) = true
abbrev zPb (D : va_G) (cy : Nat → ClassId) (kK kV : Nat → Nat) (A : Nat → Prop) (ws : va_W) : State → Prop := fun U => va_P D vwCl ws U.heap ∧ zPe D cy kK kV A U
theorem zPb_bl {D : va_G} {cy : Nat → ClassId} {kK kV : Nat → Nat} {A : Nat → Prop} {ws : va_W} : zBl (zPb D cy kK kV A ws) := fun a U g mk h => ⟨h.1, zPe_bl a U g mk h.2⟩
abbrev zPf (D : va_G) (cy : Nat → ClassId) (kK kV : Nat → Nat) (A : Nat → Prop) (ws : va_W) : State → Prop := fun U => (∀ q, U.heap.size ≤ q → A q) ∧ zPb D cy kK kV A ws U
theorem zPf_bl {D : va_G} {cy : Nat → ClassId} {kK kV : Nat → Nat} {A : Nat → Prop} {ws : va_W} : zBl (zPf D cy kK kV A ws) := fun a U g mk h => ⟨h.1, zPb_bl a U g mk h.2⟩
abbrev zMap (l : Launch) (y : MethodName) (bytes : ByteArray) (maxL : Nat) (ret : Option FieldType) (rm : Room) (As : List Value) (D : va_G) (cy : Nat → ClassId) (kK kV : Nat → Nat) (A : Nat → Prop) (b : Nat) (n : Int32) (u : zU) (tx' : List Nat) : Prop :=
  Met l y (Cond.code y bytes maxL ret :: zTB) rm (va_Pc (.ref b :: As) (zPf D cy kK kV A (zBx cy b n u))) (va_Qr (fun (u' : zU) => zOkB tx' u') (fun u' a t => a = b ∧ va_P D vwCl (zBx cy b (nI tx'.length) u') t.heap ∧ va_D A (zBx cy b (nI tx'.length) u')) A) rm.cells rm.slots A
abbrev zMz (l : Launch) (y : MethodName) (bytes : ByteArray) (maxL : Nat) (rm : Room) (As : List Value) (D : va_G) (cy : Nat → ClassId) (kK kV : Nat → Nat) (A : Nat → Prop) (b : Nat) (n : Int32) (u : zU) (tx' : List Nat) : Prop :=
  Met l y (Cond.code y bytes maxL none :: zTB) rm (va_Pc (.ref b :: As) (zPf D cy kK kV A (zBx cy b n u))) (va_Qv (fun (u' : zU) => zOkB tx' u') (fun u' t => va_P D vwCl (zBx cy b (nI tx'.length) u') t.heap ∧ va_D A (zBx cy b (nI tx'.length) u')) A) rm.cells rm.slots A
/-- a method that writes the builder, nothing comes back: the world behind -/
abbrev zMw (l : Launch) (y : MethodName) (bytes : ByteArray) (maxL : Nat) (rm : Room) (As : List Value) (D : va_G) (cy : Nat → ClassId) (kK kV : Nat → Nat) (A : Nat → Prop) (ws ws' : va_W) : Prop :=
  Met l y (Cond.code y bytes maxL none :: zTB) rm (va_Pc As (zPf D cy kK kV A ws)) (va_Qv (fun (_ : Unit) => True) (fun _ t => va_P D vwCl ws' t.heap) A) rm.cells rm.slots A
def zCB (own : String) (index : Nat) (y : MethodName) (bytes : ByteArray) (maxL : Nat) (ret : Option FieldType) (n : Nat) : Prop := zDn y n ∧ Cond.methodLink own index y ∈ zTB ∧ Cond.instanceMethod y ∈ zTB ∧ (Cond.selects "java/lang/StringBuilder" y y ∈ zTB ∨ y ∈ zPvL) ∧ Cond.initialized y.cls ∈ zTB ∧ Cond.code y bytes maxL ret ∈ zTB
def zCU (own : String) (index : Nat) (y : MethodName) (bytes : ByteArray) (maxL : Nat) (ret : Option FieldType) (n : Nat) : Prop := zDn y n ∧ y.name ≠ "<init>" ∧ Cond.methodLink own index y ∈ zTB ∧ Cond.sameMethod y.cls y.cls y.name y.desc ∈ zTB ∧ Cond.superclass own y.cls ∈ zTB ∧ Cond.instanceMethod y ∈ zTB ∧ Cond.initialized y.cls ∈ zTB ∧ Cond.code y bytes maxL ret ∈ zTB
theorem wd_1032s : (Cond.selects "java/lang/StringBuilder" yJ5_isLatin1_aae02 yJ5_isLatin1_aae02) ∈ zTB := List.mem_filter.mpr ⟨List.mem_append_right _ (List.mem_append_right _ (List.mem_append_right _ (List.mem_append_right _ (List.mem_append_right _ (List.mem_append_left _ (List.mem_of_getElem? (i := 72) rfl)))))), rfl⟩
theorem z_selP {y : MethodName} {s : State} {args : Array Value} (hy : y.cls ≠ "java/lang/invoke/MethodHandle" ∧ y.cls ≠ "java/lang/invoke/VarHandle") (hc0 : y.cls = "java/lang/AbstractStringBuilder")
    (h0 : (Cond.selects "java/lang/StringBuilder" yJ5_isLatin1_aae02 yJ5_isLatin1_aae02).before args s = true) (hpriv : (Cond.privateMethod y).before args s = true) (hinst : (Cond.instanceMethod y).before args s = true) :
    (Cond.selects "java/lang/StringBuilder" y y).before args s = true := by
  obtain ⟨c, r2, m2, hc, -, q3, -, kP, hkP, hkPi⟩ := Cond.selects_spec h0
  obtain ⟨mk, methM, hnamed, hmethM, -, -⟩ := Cond.instanceMethod_spec hinst
  have hfound : s.methodFound? y.cls y.name y.desc = some mk := State.methodFound?_of_named hnamed hy
  have e1 := findClass_of_methodNamed hnamed
  have e2 := findClass_of_methodNamed q3
  rw [hc0] at e1
  have hcls : mk.cls = m2.cls := Option.some.inj (e1.symm.trans e2)
  have hsel : selectMethod {} s.vm c mk = .method mk := selectMethod_private hmethM (Cond.privateMethod_at hpriv mk methM hnamed hmethM)
  simp only [Cond.before, Cond.holds, Cond.value, hc, hfound, hnamed, hsel, hcls, hkP]
  simp
  exact hkPi
section ZB
variable {p : Program} {l : Launch} {e : Env} {R rm : Room} {s : State} {m : MethodId} {args : Array Value} {below : List Frame} {meth : Method} {c : Code} {H H0 : Heap} {locs : List Loc} {cells slots : Nat} {Q : State → Prop}
variable {own : String} {cc bytes : ByteArray} {nL pc maxL n : Nat} {ret : Option FieldType} {ls : Array Slot} {rest As st0 : List Value} {D : va_G} {cy : Nat → ClassId} {A A0 : Nat → Prop} {y : MethodName} {index b : Nat} {kK kV : Nat → Nat} {ws ws' : va_W} {fs : List Value} {pre : State → Prop} {cnt : Int32} {u : zU} {tx' : List Nat}
theorem zr_cwB (cx : zX own cc nL p s m args c D cy) (hPv : zPvs s) (cv : zCB own index y bytes maxL ret n) {mc ms : Nat} (h1 : rm.cells = mc) (h2 : rm.slots = ms) (hR : rm.frames + 1 ≤ R.frames ∧ 8 + (maxL + 11) + rm.locals ≤ R.locals) : CallW R s args own "java/lang/StringBuilder" index y bytes maxL ret (Cond.code y bytes maxL ret :: zTB) rm mc ms n := by
  obtain ⟨hx, hb, -, hown, hts, hK, hKn⟩ := cx
  obtain ⟨hd, w1, w2, w3, w4, w5⟩ := cv
  refine ⟨callB_of n hts (zGoodC w5) rfl h1 h2 (hts _ w4) (hts _ w1) hd hR, hts _ w2, ?_⟩
  rcases w3 with w3 | w3
  · exact hts _ w3
  · exact va_tabs rfl rfl (hPv y w3)
theorem zr_cwU (cx : zX own cc nL p s m args c D cy) (cv : zCU own index y bytes maxL ret n) {mc ms : Nat} (h1 : rm.cells = mc) (h2 : rm.slots = ms) (hR : rm.frames + 1 ≤ R.frames ∧ 8 + (maxL + 11) + rm.locals ≤ R.locals) : va_CS R s args own index y bytes maxL ret (Cond.code y bytes maxL ret :: zTB) rm mc ms n := by
  obtain ⟨hx, hb, -, hown, hts, hK, hKn⟩ := cx
  obtain ⟨hd, hno, w1, w2, w3, w4, w5, w6⟩ := cv
  refine ⟨⟨h1, h2, hR.1, hR.2, pay_in hts (zGoodC w6), List.mem_cons_self⟩, hts _ w1, hts _ w2, hts _ w3, hts _ w4, hts _ w5, hts _ w6, hno, fun sig h => ?_⟩
  have h3 := hd.2.2
  rw [h] at h3
  exact (Option.some.inj h3).symm
theorem zr_preB (cx : zX own cc nL p s m args c D cy) (hbl : zBl pre) (hp : ∀ U : State, U.heap = H → s.WarmedH U.vm → pre U) (hP : va_P D vwCl ws H) (hw : ws[0]? = some (b, .inr (0, fs))) : PreV s H "java/lang/StringBuilder" b (va_Pc (.ref b :: As) pre) As :=
  ⟨fun a U g mk h => ⟨h.1, hbl a U g mk h.2⟩, va_recv (ci := 0) cx.2.2.2.2.2.1 hP rfl hw, fun U hU hW => ⟨rfl, hp U hU hW⟩⟩
theorem zr_pb (cx : zX own cc nL p s m args c D cy) (hE : zEn kK kV A0 s) (hS : va_S A0 s.heap H locs) (hB : ∀ q, A q → A0 q) (hP : va_P D vwCl ws H) : ∀ U : State, U.heap = H → s.WarmedH U.vm → zPb D cy kK kV A ws U :=
  fun U hU hW => ⟨by rw [hU]; exact hP, ⟨va_K.moved hW.alike cx.2.2.2.2.2.1, zKN_warm hW cx.2.2.2.2.2.2⟩, (hE.at hS.2.1 hU hW).narrow hB⟩
theorem zr_pf (cx : zX own cc nL p s m args c D cy) (hE : zEn kK kV A0 s) (hS : va_S A0 s.heap H locs) (hB : ∀ q, A q → A0 q) (hF : ∀ q, H.size ≤ q → A q) (hP : va_P D vwCl ws H) : ∀ U : State, U.heap = H → s.WarmedH U.vm → zPf D cy kK kV A ws U :=
  fun U hU hW => ⟨by rw [hU]; exact hF, zr_pb cx hE hS hB hP U hU hW⟩
theorem zr_bI (cx : zX own cc nL p s m args c D cy) (hPv : zPvs s) (cv : zCB own index y bytes maxL ret n) {r : Int32} (hM : zMi l y bytes maxL ret rm (.ref b :: As) pre r) (hR : zRm rm R maxL) (hRc : zRc cells slots R) (hp : PreV s H "java/lang/StringBuilder" b (va_Pc (.ref b :: As) pre) As) (hl : ls.size = nL) (hn : As.length = n) (hst : st0 = As.reverse ++ .ref b :: rest) (hW : (rest.map fun v => v.category).sum ≤ 8) (hdg : decode cc pc = .ok (.invokevirtual index, 3))
    (kk : W p l e R s m args below meth c H locs cells slots Q (F0 m (pc + 3) ls (.int r :: rest))) : W p l e R s m args below meth c H locs cells slots Q (F0 m pc ls st0) :=
  vp_callSi (W.runV (zr_fix cx) hM (zr_cwB cx hPv cv hR.1.1 hR.1.2 hR.2) hp rfl hn hl hst (lv_room hW) hdg hRc) (fun _ hr => by subst hr; exact kk)
theorem zr_uI (cx : zX own cc nL p s m args c D cy) (cv : zCU own index y bytes maxL ret n) {r : Int32} (hM : zMi l y bytes maxL ret rm (.ref b :: As) pre r) (hR : zRm rm R maxL) (hRc : zRc cells slots R) (hp : PreV s H "java/lang/StringBuilder" b (va_Pc (.ref b :: As) pre) As) (hl : ls.size = nL) (hn : As.length = n) (hst : st0 = As.reverse ++ .ref b :: rest) (hW : (rest.map fun v => v.category).sum ≤ 8) (hdg : decode cc pc = .ok (.invokespecial index, 3))
    (kk : W p l e R s m args below meth c H locs cells slots Q (F0 m (pc + 3) ls (.int r :: rest))) : W p l e R s m args below meth c H locs cells slots Q (F0 m pc ls st0) :=
  vp_callSi (zr_run (va_runSU (cx.2.2.2.2.2.1.1 0 _ rfl).2 (zr_fix cx) hM (zr_cwU cx cv hR.1.1 hR.1.2 hR.2) hp rfl hn hl hst (lv_room hW) hdg hRc)) (fun _ hr => by subst hr; exact kk)
theorem zr_bU (cx : zX own cc nL p s m args c D cy) (hPv : zPvs s) (cv : zCB own index y bytes maxL none n) (hM : zMu l y bytes maxL rm (.ref b :: As) pre) (hR : zRm rm R maxL) (hRc : zRc cells slots R) (hp : PreV s H "java/lang/StringBuilder" b (va_Pc (.ref b :: As) pre) As) (hl : ls.size = nL) (hn : As.length = n) (hst : st0 = As.reverse ++ .ref b :: rest) (hW : (rest.map fun v => v.category).sum ≤ 8) (hdg : decode cc pc = .ok (.invokevirtual index, 3))
    (kk : W p l e R s m args below meth c H locs cells slots Q (F0 m (pc + 3) ls rest)) : W p l e R s m args below meth c H locs cells slots Q (F0 m pc ls st0) := by
  intro T hT X
  obtain ⟨v, st₀, t, T', L, h0, X', hL, e1, ⟨hv, hh⟩, st⟩ := W.runV (zr_fix cx) hM (zr_cwB cx hPv cv hR.1.1 hR.1.2 hR.2) hp rfl hn hl hst (lv_room hW) hdg hRc T hT X
  cases hv
  obtain ⟨t2, a1, b1⟩ := kk T' (by rw [e1, hh, h0]) (Stand.forget X' (fun q h => (hL q h).elim))
  exact ⟨t2, st t2 a1, b1⟩
theorem zr_bW (cx : zX own cc nL p s m args c D cy) (hPv : zPvs s) (cv : zCB own index y bytes maxL none n) (hM : zMw l y bytes maxL rm (.ref b :: As) D cy kK kV A ws ws') (hR : rm.frames + 1 ≤ R.frames ∧ 8 + (maxL + 11) + rm.locals ≤ R.locals) (hRc : cells + rm.cells ≤ R.cells ∧ slots + rm.slots ≤ R.slots) (hE : zEn kK kV A0 s) (hB : ∀ q, A q → A0 q) (hF : ∀ q, H.size ≤ q → A q) (hP : va_P D vwCl ws H) (hw : ws[0]? = some (b, .inr (0, fs))) (hS : va_S A0 s.heap H locs) (hl : ls.size = nL) (hn : As.length = n) (hst : st0 = As.reverse ++ .ref b :: rest) (hW : (rest.map fun v => v.category).sum ≤ 8) (hdg : decode cc pc = .ok (.invokevirtual index, 3))
    (kk : ∀ (H1 : Heap) (locs1 : List Loc), va_P D vwCl ws' H1 → H.size ≤ H1.size → (∀ q : Nat, q < H.size → ¬ A q → H1[q]? = H[q]?) → va_S A0 s.heap H1 locs1 → W p l e R s m args below meth c H1 locs1 (cells + rm.cells) (slots + rm.slots) Q (F0 m (pc + 3) ls rest)) : W p l e R s m args below meth c H locs cells slots Q (F0 m pc ls st0) :=
  va_callv (va_runV (zr_fix cx) hM (zr_cwB cx hPv cv rfl rfl hR) (zr_preB cx zPf_bl (zr_pf cx hE hS hB hF hP) hP hw) rfl hn hl hst (lv_room hW) hdg hRc) hS (fun q _ h => hB q h) hB (fun _ t H1 locs1 ht _ _ hb hz hk hS1 => by
    subst ht
    exact kk _ _ hb hz hk hS1)
theorem zr_aV (cx : zX own cc nL p s m args c D cy) (hPv : zPvs s) (cv : zCB own index y bytes maxL ret n) (hM : zMap l y bytes maxL ret rm As D cy kK kV A b cnt u tx') (hR : rm.frames + 1 ≤ R.frames ∧ 8 + (maxL + 11) + rm.locals ≤ R.locals) (hRc : cells + rm.cells ≤ R.cells ∧ slots + rm.slots ≤ R.slots) (hE : zEn kK kV A0 s) (hB : ∀ q, A q → A0 q) (hF : ∀ q, H.size ≤ q → A q) (hP : va_P D vwCl (zBx cy b cnt u) H) (hS : va_S A0 s.heap H locs) (hl : ls.size = nL) (hn : As.length = n) (hst : st0 = As.reverse ++ .ref b :: rest) (hW : (rest.map fun v => v.category).sum ≤ 8) (hdg : decode cc pc = .ok (.invokevirtual index, 3))
    (kk : ∀ (u' : zU) (H1 : Heap) (locs1 : List Loc), zOkB tx' u' → va_P D vwCl (zBx cy b (nI tx'.length) u') H1 → va_D A (zBx cy b (nI tx'.length) u') → H.size ≤ H1.size → (∀ q : Nat, q < H.size → ¬ A q → H1[q]? = H[q]?) → va_S A0 s.heap H1 locs1 → W p l e R s m args below meth c H1 locs1 (cells + rm.cells) (slots + rm.slots) Q (F0 m (pc + 3) ls (.ref b :: rest))) : W p l e R s m args below meth c H locs cells slots Q (F0 m pc ls st0) :=
  va_callr (va_runV (zr_fix cx) hM (zr_cwB cx hPv cv rfl rfl hR) (zr_preB cx zPf_bl (zr_pf cx hE hS hB hF hP) hP rfl) rfl hn hl hst (lv_room hW) hdg hRc) hS (fun q _ h => hB q h) hB (fun u' ra t H1 locs1 ht _ hw hb hz hk hS1 => by
    obtain ⟨e1, hP1, hD1⟩ := hb
    subst e1
    subst ht
    exact kk u' _ _ hw hP1 hD1 hz hk hS1)
theorem zr_aU (cx : zX own cc nL p s m args c D cy) (cv : zCU own index y bytes maxL ret n) (hM : zMap l y bytes maxL ret rm As D cy kK kV A b cnt u tx') (hR : rm.frames + 1 ≤ R.frames ∧ 8 + (maxL + 11) + rm.locals ≤ R.locals) (hRc : cells + rm.cells ≤ R.cells ∧ slots + rm.slots ≤ R.slots) (hE : zEn kK kV A0 s) (hB : ∀ q, A q → A0 q) (hF : ∀ q, H.size ≤ q → A q) (hP : va_P D vwCl (zBx cy b cnt u) H) (hS : va_S A0 s.heap H locs) (hl : ls.size = nL) (hn : As.length = n) (hst : st0 = As.reverse ++ .ref b :: rest) (hW : (rest.map fun v => v.category).sum ≤ 8) (hdg : decode cc pc = .ok (.invokespecial index, 3))
    (kk : ∀ (u' : zU) (H1 : Heap) (locs1 : List Loc), zOkB tx' u' → va_P D vwCl (zBx cy b (nI tx'.length) u') H1 → va_D A (zBx cy b (nI tx'.length) u') → H.size ≤ H1.size → (∀ q : Nat, q < H.size → ¬ A q → H1[q]? = H[q]?) → va_S A0 s.heap H1 locs1 → W p l e R s m args below meth c H1 locs1 (cells + rm.cells) (slots + rm.slots) Q (F0 m (pc + 3) ls (.ref b :: rest))) : W p l e R s m args below meth c H locs cells slots Q (F0 m pc ls st0) :=
  va_callr (va_runSU (cx.2.2.2.2.2.1.1 0 _ rfl).2 (zr_fix cx) hM (zr_cwU cx cv rfl rfl hR) (zr_preB cx zPf_bl (zr_pf cx hE hS hB hF hP) hP rfl) rfl hn hl hst (lv_room hW) hdg hRc) hS (fun q _ h => hB q h) hB (fun u' ra t H1 locs1 ht _ hw hb hz hk hS1 => by
    obtain ⟨e1, hP1, hD1⟩ := hb
    subst e1
    subst ht
    exact kk u' _ _ hw hP1 hD1 hz hk hS1)
theorem zr_zV (cx : zX own cc nL p s m args c D cy) (hPv : zPvs s) (cv : zCB own index y bytes maxL none n) (hM : zMz l y bytes maxL rm As D cy kK kV A b cnt u tx') (hR : rm.frames + 1 ≤ R.frames ∧ 8 + (maxL + 11) + rm.locals ≤ R.locals) (hRc : cells + rm.cells ≤ R.cells ∧ slots + rm.slots ≤ R.slots) (hE : zEn kK kV A0 s) (hB : ∀ q, A q → A0 q) (hF : ∀ q, H.size ≤ q → A q) (hP : va_P D vwCl (zBx cy b cnt u) H) (hS : va_S A0 s.heap H locs) (hl : ls.size = nL) (hn : As.length = n) (hst : st0 = As.reverse ++ .ref b :: rest) (hW : (rest.map fun v => v.category).sum ≤ 8) (hdg : decode cc pc = .ok (.invokevirtual index, 3))
    (kk : ∀ (u' : zU) (H1 : Heap) (locs1 : List Loc), zOkB tx' u' → va_P D vwCl (zBx cy b (nI tx'.length) u') H1 → va_D A (zBx cy b (nI tx'.length) u') → H.size ≤ H1.size → (∀ q : Nat, q < H.size → ¬ A q → H1[q]? = H[q]?) → va_S A0 s.heap H1 locs1 → W p l e R s m args below meth c H1 locs1 (cells + rm.cells) (slots + rm.slots) Q (F0 m (pc + 3) ls rest)) : W p l e R s m args below meth c H locs cells slots Q (F0 m pc ls st0) :=
  va_callv (va_runV (zr_fix cx) hM (zr_cwB cx hPv cv rfl rfl hR) (zr_preB cx zPf_bl (zr_pf cx hE hS hB hF hP) hP rfl) rfl hn hl hst (lv_room hW) hdg hRc) hS (fun q _ h => hB q h) hB (fun u' t H1 locs1 ht _ hw hb hz hk hS1 => by
    obtain ⟨hP1, hD1⟩ := hb
    subst ht
    exact kk u' _ _ hw hP1 hD1 hz hk hS1)
theorem zr_zU (cx : zX own cc nL p s m args c D cy) (cv : zCU own index y bytes maxL none n) (hM : zMz l y bytes maxL rm As D cy kK kV A b cnt u tx') (hR : rm.frames + 1 ≤ R.frames ∧ 8 + (maxL + 11) + rm.locals ≤ R.locals) (hRc : cells + rm.cells ≤ R.cells ∧ slots + rm.slots ≤ R.slots) (hE : zEn kK kV A0 s) (hB : ∀ q, A q → A0 q) (hF : ∀ q, H.size ≤ q → A q) (hP : va_P D vwCl (zBx cy b cnt u) H) (hS : va_S A0 s.heap H locs) (hl : ls.size = nL) (hn : As.length = n) (hst : st0 = As.reverse ++ .ref b :: rest) (hW : (rest.map fun v => v.category).sum ≤ 8) (hdg : decode cc pc = .ok (.invokespecial index, 3))
    (kk : ∀ (u' : zU) (H1 : Heap) (locs1 : List Loc), zOkB tx' u' → va_P D vwCl (zBx cy b (nI tx'.length) u') H1 → va_D A (zBx cy b (nI tx'.length) u') → H.size ≤ H1.size → (∀ q : Nat, q < H.size → ¬ A q → H1[q]? = H[q]?) → va_S A0 s.heap H1 locs1 → W p l e R s m args below meth c H1 locs1 (cells + rm.cells) (slots + rm.slots) Q (F0 m (pc + 3) ls rest)) : W p l e R s m args below meth c H locs cells slots Q (F0 m pc ls st0) :=
  va_callv (va_runSU (cx.2.2.2.2.2.1.1 0 _ rfl).2 (zr_fix cx) hM (zr_cwU cx cv rfl rfl hR) (zr_preB cx zPf_bl (zr_pf cx hE hS hB hF hP) hP rfl) rfl hn hl hst (lv_room hW) hdg hRc) hS (fun q _ h => hB q h) hB (fun u' t H1 locs1 ht _ hw hb hz hk hS1 => by
    obtain ⟨hP1, hD1⟩ := hb
    subst ht
    exact kk u' _ _ hw hP1 hD1 hz hk hS1)
end ZB
