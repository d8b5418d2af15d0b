/-! the law's plant and act, printed by wip/gen/lplant.py -/
theorem zr_runSW {p : Program} {l : Launch} {e : Env} {R rm : Room} {s : State} {m : MethodId} {args : Array Value} {below : List Frame} {meth : Method} {c : Code} {H : Heap} {locs : List Loc} {cells slots mc ms : Nat} {own : String} {cc bytes : ByteArray} {nL maxL n index : Nat} {ret : Option FieldType} {hh : List (Nat × Nat × Nat × Nat)} {rest As : List Value} {D : va_G} {cy : Nat → ClassId} {y : MethodName} {g : JFrame} {Pc : Array Value → State → Prop} {Qc : Array Value → State → Outcome → State → Prop} {free : Addr → Prop} (cx : zX own cc nL p s m args c D cy) (hd : zDn y n) (w1 : Cond.methodLink own index y ∈ zTB) (w2 : Cond.static y ∈ zTB) (w4 : Cond.initialized y.cls ∈ zTB) (w5 : Cond.codeWith y bytes maxL ret hh ∈ zTB) (hM : Met l y (Cond.codeWith y bytes maxL ret hh :: zTB) rm Pc Qc mc ms free) (h1 : rm.cells = mc) (h2 : rm.slots = ms) (hR : rm.frames + 1 ≤ R.frames ∧ 8 + (maxL + 11) + rm.locals ≤ R.locals) (hp : PreS s H Pc As)
    (hg : g.method = m) (hn : As.length = n) (hsize : g.locals.size = nL) (hstack : g.stack = As.reverse ++ rest) (hW : 2 * g.monitorRoom + (rest.map fun v => v.category).sum ≤ 8) (hdg : decode cc g.pc = .ok (.invokestatic index, 3)) (hf : cells + mc ≤ R.cells ∧ slots + ms ≤ R.slots) :
    va_Run p l e R s m args below meth c H locs cells slots mc ms g rest (Qc As.toArray) free := by
  obtain ⟨hx, hb, hml, hown, hts, hK0, hKn⟩ := cx
  have hws := pay_in hts (zGoodC w5)
  have hK : Back l R p e below s args y 3 8 (PreOf R mc ms Pc) (PostOf Qc mc ms free) := va_backW (hh := hh) (bytes := bytes) (maxL := maxL) (ret := ret) hM hp.1 h1 h2 hR.1 hR.2 hws List.mem_cons_self (fun a' U hW => hws _ (List.mem_cons_of_mem _ w4) a' U hW)
  intro T hT X
  obtain ⟨mk, methM, cM, hnamed, hmethM, -, -, -, -, -, -, hsigM⟩ := Cond.codeWith_spec (hts _ w5)
  have hstatic : methM.isStatic = true := Cond.static_spec hnamed hmethM (hts _ w2)
  obtain ⟨kP, hkP, -⟩ := className_of_methodNamed hnamed
  have hinitP : kP.init = .initialized := Cond.initialized_spec (findClass_of_methodNamed hnamed) hkP (hts _ w4)
  have hlen : As.length = methM.sig.parameters.length := by
    have h3 := hd.2.2
    rw [hsigM] at h3
    exact hn.trans (Option.some.inj h3).symm
  obtain ⟨vm₁, X₁, hstep₁⟩ := X.invokestatic hx hown (hts _ w1) hnamed hmethM hstatic hkP hinitP ⟨hd.1, hd.2.1⟩ (g := g) hg (argsL := As) (rest := rest) hlen hstack (by rw [hb]; exact hdg)
  obtain ⟨v, ⟨U', l2, c2, s2⟩, X', ⟨g', mk', t, L, e1, e2, hq, q1, hL, q2, q3⟩, hsteps⟩ := hK m meth c ⟨T.setVm vm₁, locs, cells, slots⟩ { g with stack := rest } (.invokestatic index) mk As.toArray X₁ hg (hsize.trans hml.symm) (by rw [hb]; exact hdg) hW (X₁.named hnamed) ⟨hf.1, hf.2, hp.2 (T.setVm vm₁) hT X₁.warmed⟩
  dsimp only [Pt.U, Pt.locs, Pt.cells, Pt.slots] at X' e1 e2 q1 q2 q3 hsteps
  subst q1; subst q2; subst q3
  exact ⟨v, (T.setVm vm₁).calling g' mk' As.toArray, t, U', L, hT, X', hL, e1, e2, hq, fun target h => hstep₁ _ fun acts => by rw [doInvoke_state]; exact hsteps.trans h⟩
theorem wd_1380 : (Jvm.Cond.methodLink "ParlourLeavesLaw" (7 : Nat) ({ cls := "ParlourLeaves", name := "plant", desc := "(II)I" } : Jvm.MethodName)) ∈ zTB := List.mem_filter.mpr ⟨List.mem_append_right _ (List.mem_append_right _ (List.mem_append_right _ (List.mem_append_right _ (List.mem_append_right _ (List.mem_append_right _ (List.mem_append_left _ (List.mem_of_getElem? (i := 180) rfl))))))), rfl⟩
theorem wd_1381 : (Jvm.Cond.instanceMethod ({ cls := "ParlourLeaves", name := "plant", desc := "(II)I" } : Jvm.MethodName)) ∈ zTB := List.mem_filter.mpr ⟨List.mem_append_right _ (List.mem_append_right _ (List.mem_append_right _ (List.mem_append_right _ (List.mem_append_right _ (List.mem_append_right _ (List.mem_append_left _ (List.mem_of_getElem? (i := 181) rfl))))))), rfl⟩
theorem wd_1382 : (Jvm.Cond.selects "ParlourLeaves" ({ cls := "ParlourLeaves", name := "plant", desc := "(II)I" } : Jvm.MethodName) ({ cls := "ParlourLeaves", name := "plant", desc := "(II)I" } : Jvm.MethodName)) ∈ zTB := List.mem_filter.mpr ⟨List.mem_append_right _ (List.mem_append_right _ (List.mem_append_right _ (List.mem_append_right _ (List.mem_append_right _ (List.mem_append_right _ (List.mem_append_left _ (List.mem_of_getElem? (i := 182) rfl))))))), rfl⟩
theorem wd_1383 : (Jvm.Cond.code ({ cls := "ParlourLeaves", name := "plant", desc := "(II)I" } : Jvm.MethodName) prog_1_method_6_code (3 : Nat) (Option.some Jvm.ClassFile.FieldType.int)) ∈ zTB := List.mem_filter.mpr ⟨List.mem_append_right _ (List.mem_append_right _ (List.mem_append_right _ (List.mem_append_right _ (List.mem_append_right _ (List.mem_append_right _ (List.mem_append_left _ (List.mem_of_getElem? (i := 183) rfl))))))), rfl⟩
theorem cv_L_7 : zCV RL RX11 7 yX11_plant cX11_plant 3 (some .int) 2 := ⟨rfl, ⟨by decide, by decide, by decide +kernel⟩, wd_1380, wd_1381, wd_1382, wd_1, wd_1383⟩
abbrev rmL_plant : Room := { frames := 7, cells := 1, slots := 6, locals := 122 }
theorem dL_plant_0 : decode cL_plant 0 = .ok (.aload_n 3, 1) := by decide +kernel
theorem dL_plant_1 : decode cL_plant 1 = .ok (.iconst 0, 1) := by decide +kernel
theorem dL_plant_2 : decode cL_plant 2 = .ok (.aload_n 0, 1) := by decide +kernel
theorem dL_plant_3 : decode cL_plant 3 = .ok (.iload_n 1, 1) := by decide +kernel
theorem dL_plant_4 : decode cL_plant 4 = .ok (.iload_n 2, 1) := by decide +kernel
theorem dL_plant_5 : decode cL_plant 5 = .ok (.invokevirtual 7, 3) := by decide +kernel
theorem dL_plant_8 : decode cL_plant 8 = .ok (.i2l, 1) := by decide +kernel
theorem dL_plant_9 : decode cL_plant 9 = .ok (.lastore, 1) := by decide +kernel
theorem dL_plant_10 : decode cL_plant 10 = .ok (.goto 7, 3) := by decide +kernel
theorem dL_plant_17 : decode cL_plant 17 = .ok (.iconst 0, 1) := by decide +kernel
theorem dL_plant_18 : decode cL_plant 18 = .ok (.ireturn, 1) := by decide +kernel
theorem wd_1379 : (Jvm.Cond.classLink "ParlourLeavesLaw" (13 : Nat) "java/util/NoSuchElementException") ∈ zTB := List.mem_filter.mpr ⟨List.mem_append_right _ (List.mem_append_right _ (List.mem_append_right _ (List.mem_append_right _ (List.mem_append_right _ (List.mem_append_right _ (List.mem_append_left _ (List.mem_of_getElem? (i := 179) rfl))))))), rfl⟩
theorem dL_plant_13 : decode cL_plant 13 = .ok (.astore 4, 2) := by decide +kernel
theorem dL_plant_15 : decode cL_plant 15 = .ok (.iconst 1, 1) := by decide +kernel
theorem dL_plant_16 : decode cL_plant 16 = .ok (.ireturn, 1) := by decide +kernel
set_option maxHeartbeats 1000000 in
set_option maxRecDepth 100000 in
theorem mL_plant {l : Launch} {D : va_G} {cy : Nat → ClassId} {kK kV : Nat → Nat} (hl0 : l.stackTraces = false) {A : Nat → Prop} {q : Nat → Nat} {S : zSt} {v1 v2 : Int32} {o : Nat} {f : Nat → Int64} {x : Option Int32} (h : pPlant S v1 v2 = some x) (hAo : A o) : Met l yL_plant (Cond.codeWith yL_plant cL_plant 5 (some .int) [(0, 10, 13, 13)] :: zTB) rmL_plant (va_Pc [.ref (q 0), .int v1, .int v2, .ref o] (fun U => (∀ q, U.heap.size ≤ q → A q) ∧ va_P D vwCl [(o, .inl (cy 1, 1, .inr (.inl f)))] U.heap ∧ zPr zsh zNC D cy q S U ∧ zEn kK kV A U)) (va_Qi (fun (r : Int32) (f2 : Nat → Int64) => (∃ z, x = some z ∧ r = 0 ∧ f2 0 = z.toInt64) ∨ (x = none ∧ r = 1)) (fun f2 t => va_P D vwCl [(o, .inl (cy 1, 1, .inr (.inl f2)))] t.heap) A) 1 6 A := by
  refine va_MetW (cc := cL_plant) (maxL := 5) (ret := some .int) (hh := [(0, 10, 13, 13)]) (by decide) rfl ?_
  intro p e s m args below meth c s₁ B hml hv
  obtain ⟨rfl, hA, hPo, ⟨hC, hK⟩, hE⟩ := hv
  have cx : zX RL cL_plant 5 p s m ([.ref (q 0), .int v1, .int v2, .ref o]).toArray c D cy := ⟨B.exec, B.bytes, hml, findClass_of_methodNamed B.named, fun w hw => atoms_spec (ws := Cond.codeWith yL_plant cL_plant 5 (some .int) [(0, 10, 13, 13)] :: zTB) B.pre w (List.mem_cons_of_mem _ hw), hK⟩
  have htab : c.exceptionTable.toList = [⟨0, 10, 13, 13⟩] := by
    obtain ⟨m9, meth9, c9, q0, q1, q2, -, -, q5, -⟩ := Cond.codeWith_spec (atoms_spec (ws := Cond.codeWith yL_plant cL_plant 5 (some .int) [(0, 10, 13, 13)] :: zTB) B.pre _ List.mem_cons_self)
    have X0 := Stand.of_body B
    cases B.named.symm.trans q0
    cases X0.method.symm.trans q1
    cases X0.code.symm.trans q2
    rw [← table_eq c.exceptionTable.toList, q5]
    rfl
  have hx := cx.1
  have hb := cx.2.1
  have hr := B.returns
  have hlk := B.notSynchronized
  have hS : va_S A s.heap s.heap [] := va_S.rf
  have hDo : va_D A [(o, .inl (cy 1, 1, .inr (.inl f)))] := z_one hAo
  have hl := lv_entry ([.ref (q 0), .int v1, .int v2, .ref o]) (n := 5) (Nat.le_of_ble_eq_true rfl)
  rw [lg_entry_eq]
  generalize (lg_sl ([.ref (q 0), .int v1, .int v2, .ref o]) ++ List.replicate (5 - (lg_sl ([.ref (q 0), .int v1, .int v2, .ref o])).length) Slot.unset).toArray = ls at hl ⊢
  have hl : lv_has ls 5 [(0, .ref (q 0)), (1, .int v1), (2, .int v2), (3, .ref o)] := hl
  refine lv_aload_n (pc := 0) hx hb dL_plant_0 rfl (lv_at hl 3 rfl) ?_
  refine lv_iconst (pc := 1) hx hb dL_plant_1 zc_0 ?_
  refine lv_aload_n (pc := 2) hx hb dL_plant_2 rfl (lv_at hl 0 rfl) ?_
  refine lv_iload_n (pc := 3) hx hb dL_plant_3 rfl (lv_at hl 1 rfl) ?_
  refine lv_iload_n (pc := 4) hx hb dL_plant_4 rfl (lv_at hl 2 rfl) ?_
  cases x with
  | some z =>
    refine zr_VI (pc := 5) (rest := [.int 0, .ref o]) cx cv_L_7 (mX11_plant (kK := kK) (kV := kV) h) ⟨⟨rfl, rfl⟩, Nat.le_of_ble_eq_true rfl, Nat.le_of_ble_eq_true rfl⟩ ⟨Nat.le_of_ble_eq_true rfl, Nat.le_of_ble_eq_true rfl⟩ hC nC_0 sC_0 rfl hl.1 rfl rfl (Nat.le_of_ble_eq_true rfl) dL_plant_5 ?_
    refine lv_i2l (v := z.toInt64) (pc := 8) hx hb dL_plant_8 rfl ?_
    refine va_last (pc := 9) hx hb cx.2.2.2.2.2.1 hPo hDo hS 0 1 rfl rfl (show vp_in (0 : Int32) 1 from zIx_in (show zIx 0 1 = true by decide)) dL_plant_9 (fun H locs hPo hDo hS => ?_)
    refine lv_goto (pc := 10) (tgt := 17) hx hb dL_plant_10 (by decide) ?_
    refine lv_iconst (pc := 17) hx hb dL_plant_17 zc_0 ?_
    refine W.widen (k := 1) (n := 6) (Nat.zero_le _) (Nat.zero_le _) ?_
    exact W.iret (pc := 18) hx hb hr (fun t ht hW => ⟨⟨0, vp_updL f 0 z.toInt64, rfl, Or.inl ⟨z, rfl, rfl, rfl⟩, (show va_P D vwCl _ t.heap from by rw [ht]; exact hPo)⟩, hS.F ht⟩) hS.2.2 dL_plant_18
  | none =>
    refine zr_VT (pc := 5) (rest := [.int 0, .ref o]) cx cv_L_7 (tX11_plant (kK := kK) (kV := kV) hl0 h) ⟨rfl, rfl⟩ ⟨Nat.le_of_ble_eq_true rfl, Nat.le_of_ble_eq_true rfl⟩ ⟨Nat.le_of_ble_eq_true rfl, Nat.le_of_ble_eq_true rfl⟩ ⟨fun a U g mk h => ⟨h.1, zPr_bl a U g mk h.2.1, zEn_bl a U g mk h.2.2⟩, va_recv (ci := 12) cx.2.2.2.2.2.1 hC rfl (zW_at nC_0 sC_0), fun U hU hW => ⟨rfl, zr_pre cx hC U hU hW, (hE.at hS.2.1 hU hW).narrow (fun _ h => h.elim)⟩⟩ hl.1 rfl rfl (Nat.le_of_ble_eq_true rfl) dL_plant_5 htab (by decide) (by decide) wd_1379 (fun v H hz hk => ?_)
    have hS : va_S A s.heap H [] := ⟨hz, fun q h1 _ => hk q h1, fun _ h => by cases h⟩
    have hPo : va_P D vwCl [(o, .inl (cy 1, 1, .inr (.inl f)))] H := hPo.kept (fun k x hx => hk x.1 (hPo k x hx).lt)
    refine lv_astore (lv' := [(4, .ref v), (0, .ref (q 0)), (1, .int v1), (2, .int v2), (3, .ref o)]) (pc := 13) hx hb dL_plant_13 hl (by decide) rfl (fun ls hl => ?_)
    refine lv_iconst (pc := 15) hx hb dL_plant_15 zc_1 ?_
    exact W.iret (pc := 16) hx hb hr (fun t ht hW => ⟨⟨1, f, rfl, Or.inr ⟨rfl, rfl⟩, (show va_P D vwCl _ t.heap from by rw [ht]; exact hPo)⟩, hS.F ht⟩) hS.2.2 dL_plant_16
theorem wd_1449 : (Jvm.Cond.methodLink "ParlourLeavesLaw" (15 : Nat) ({ cls := "ParlourLeaves", name := "act", desc := "(II)I" } : Jvm.MethodName)) ∈ zTB := List.mem_filter.mpr ⟨List.mem_append_right _ (List.mem_append_right _ (List.mem_append_right _ (List.mem_append_right _ (List.mem_append_right _ (List.mem_append_right _ (List.mem_append_right _ (List.mem_append_left _ (List.mem_of_getElem? (i := 9) rfl)))))))), rfl⟩
theorem wd_1450 : (Jvm.Cond.instanceMethod ({ cls := "ParlourLeaves", name := "act", desc := "(II)I" } : Jvm.MethodName)) ∈ zTB := List.mem_filter.mpr ⟨List.mem_append_right _ (List.mem_append_right _ (List.mem_append_right _ (List.mem_append_right _ (List.mem_append_right _ (List.mem_append_right _ (List.mem_append_right _ (List.mem_append_left _ (List.mem_of_getElem? (i := 10) rfl)))))))), rfl⟩
theorem wd_1451 : (Jvm.Cond.selects "ParlourLeaves" ({ cls := "ParlourLeaves", name := "act", desc := "(II)I" } : Jvm.MethodName) ({ cls := "ParlourLeaves", name := "act", desc := "(II)I" } : Jvm.MethodName)) ∈ zTB := List.mem_filter.mpr ⟨List.mem_append_right _ (List.mem_append_right _ (List.mem_append_right _ (List.mem_append_right _ (List.mem_append_right _ (List.mem_append_right _ (List.mem_append_right _ (List.mem_append_left _ (List.mem_of_getElem? (i := 11) rfl)))))))), rfl⟩
theorem wd_1452 : (Jvm.Cond.code ({ cls := "ParlourLeaves", name := "act", desc := "(II)I" } : Jvm.MethodName) prog_1_method_7_code (3 : Nat) (Option.some Jvm.ClassFile.FieldType.int)) ∈ zTB := List.mem_filter.mpr ⟨List.mem_append_right _ (List.mem_append_right _ (List.mem_append_right _ (List.mem_append_right _ (List.mem_append_right _ (List.mem_append_right _ (List.mem_append_right _ (List.mem_append_left _ (List.mem_of_getElem? (i := 12) rfl)))))))), rfl⟩
theorem cv_L_15 : zCV RL RX11 15 yX11_act cX11_act 3 (some .int) 2 := ⟨rfl, ⟨by decide, by decide, by decide +kernel⟩, wd_1449, wd_1450, wd_1451, wd_1, wd_1452⟩
abbrev rmL_act : Room := { frames := 7, cells := 1, slots := 6, locals := 122 }
theorem dL_act_0 : decode cL_act 0 = .ok (.aload_n 3, 1) := by decide +kernel
theorem dL_act_1 : decode cL_act 1 = .ok (.iconst 0, 1) := by decide +kernel
theorem dL_act_2 : decode cL_act 2 = .ok (.aload_n 0, 1) := by decide +kernel
theorem dL_act_3 : decode cL_act 3 = .ok (.iload_n 1, 1) := by decide +kernel
theorem dL_act_4 : decode cL_act 4 = .ok (.iload_n 2, 1) := by decide +kernel
theorem dL_act_5 : decode cL_act 5 = .ok (.invokevirtual 15, 3) := by decide +kernel
theorem dL_act_8 : decode cL_act 8 = .ok (.i2l, 1) := by decide +kernel
theorem dL_act_9 : decode cL_act 9 = .ok (.lastore, 1) := by decide +kernel
theorem dL_act_10 : decode cL_act 10 = .ok (.goto 7, 3) := by decide +kernel
theorem dL_act_17 : decode cL_act 17 = .ok (.iconst 0, 1) := by decide +kernel
theorem dL_act_18 : decode cL_act 18 = .ok (.ireturn, 1) := by decide +kernel
theorem dL_act_13 : decode cL_act 13 = .ok (.astore 4, 2) := by decide +kernel
theorem dL_act_15 : decode cL_act 15 = .ok (.iconst 1, 1) := by decide +kernel
theorem dL_act_16 : decode cL_act 16 = .ok (.ireturn, 1) := by decide +kernel
set_option maxHeartbeats 1000000 in
set_option maxRecDepth 100000 in
theorem mL_act {l : Launch} {D : va_G} {cy : Nat → ClassId} {kK kV : Nat → Nat} (hl0 : l.stackTraces = false) {A : Nat → Prop} {q : Nat → Nat} {S : zSt} {v1 v2 : Int32} {o : Nat} {f : Nat → Int64} {x : Option Int32} (h : pAct S v1 v2 = some x) (hAo : A o) : Met l yL_act (Cond.codeWith yL_act cL_act 5 (some .int) [(0, 10, 13, 13)] :: zTB) rmL_act (va_Pc [.ref (q 0), .int v1, .int v2, .ref o] (fun U => (∀ q, U.heap.size ≤ q → A q) ∧ va_P D vwCl [(o, .inl (cy 1, 1, .inr (.inl f)))] U.heap ∧ zPr zsh zNC D cy q S U ∧ zEn kK kV A U)) (va_Qi (fun (r : Int32) (f2 : Nat → Int64) => (∃ z, x = some z ∧ r = 0 ∧ f2 0 = z.toInt64) ∨ (x = none ∧ r = 1)) (fun f2 t => va_P D vwCl [(o, .inl (cy 1, 1, .inr (.inl f2)))] t.heap) A) 1 6 A := by
  refine va_MetW (cc := cL_act) (maxL := 5) (ret := some .int) (hh := [(0, 10, 13, 13)]) (by decide) rfl ?_
  intro p e s m args below meth c s₁ B hml hv
  obtain ⟨rfl, hA, hPo, ⟨hC, hK⟩, hE⟩ := hv
  have cx : zX RL cL_act 5 p s m ([.ref (q 0), .int v1, .int v2, .ref o]).toArray c D cy := ⟨B.exec, B.bytes, hml, findClass_of_methodNamed B.named, fun w hw => atoms_spec (ws := Cond.codeWith yL_act cL_act 5 (some .int) [(0, 10, 13, 13)] :: zTB) B.pre w (List.mem_cons_of_mem _ hw), hK⟩
  have htab : c.exceptionTable.toList = [⟨0, 10, 13, 13⟩] := by
    obtain ⟨m9, meth9, c9, q0, q1, q2, -, -, q5, -⟩ := Cond.codeWith_spec (atoms_spec (ws := Cond.codeWith yL_act cL_act 5 (some .int) [(0, 10, 13, 13)] :: zTB) B.pre _ List.mem_cons_self)
    have X0 := Stand.of_body B
    cases B.named.symm.trans q0
    cases X0.method.symm.trans q1
    cases X0.code.symm.trans q2
    rw [← table_eq c.exceptionTable.toList, q5]
    rfl
  have hx := cx.1
  have hb := cx.2.1
  have hr := B.returns
  have hlk := B.notSynchronized
  have hS : va_S A s.heap s.heap [] := va_S.rf
  have hDo : va_D A [(o, .inl (cy 1, 1, .inr (.inl f)))] := z_one hAo
  have hl := lv_entry ([.ref (q 0), .int v1, .int v2, .ref o]) (n := 5) (Nat.le_of_ble_eq_true rfl)
  rw [lg_entry_eq]
  generalize (lg_sl ([.ref (q 0), .int v1, .int v2, .ref o]) ++ List.replicate (5 - (lg_sl ([.ref (q 0), .int v1, .int v2, .ref o])).length) Slot.unset).toArray = ls at hl ⊢
  have hl : lv_has ls 5 [(0, .ref (q 0)), (1, .int v1), (2, .int v2), (3, .ref o)] := hl
  refine lv_aload_n (pc := 0) hx hb dL_act_0 rfl (lv_at hl 3 rfl) ?_
  refine lv_iconst (pc := 1) hx hb dL_act_1 zc_0 ?_
  refine lv_aload_n (pc := 2) hx hb dL_act_2 rfl (lv_at hl 0 rfl) ?_
  refine lv_iload_n (pc := 3) hx hb dL_act_3 rfl (lv_at hl 1 rfl) ?_
  refine lv_iload_n (pc := 4) hx hb dL_act_4 rfl (lv_at hl 2 rfl) ?_
  cases x with
  | some z =>
    refine zr_VI (pc := 5) (rest := [.int 0, .ref o]) cx cv_L_15 (mX11_act (kK := kK) (kV := kV) h) ⟨⟨rfl, rfl⟩, Nat.le_of_ble_eq_true rfl, Nat.le_of_ble_eq_true rfl⟩ ⟨Nat.le_of_ble_eq_true rfl, Nat.le_of_ble_eq_true rfl⟩ hC nC_0 sC_0 rfl hl.1 rfl rfl (Nat.le_of_ble_eq_true rfl) dL_act_5 ?_
    refine lv_i2l (v := z.toInt64) (pc := 8) hx hb dL_act_8 rfl ?_
    refine va_last (pc := 9) hx hb cx.2.2.2.2.2.1 hPo hDo hS 0 1 rfl rfl (show vp_in (0 : Int32) 1 from zIx_in (show zIx 0 1 = true by decide)) dL_act_9 (fun H locs hPo hDo hS => ?_)
    refine lv_goto (pc := 10) (tgt := 17) hx hb dL_act_10 (by decide) ?_
    refine lv_iconst (pc := 17) hx hb dL_act_17 zc_0 ?_
    refine W.widen (k := 1) (n := 6) (Nat.zero_le _) (Nat.zero_le _) ?_
    exact W.iret (pc := 18) hx hb hr (fun t ht hW => ⟨⟨0, vp_updL f 0 z.toInt64, rfl, Or.inl ⟨z, rfl, rfl, rfl⟩, (show va_P D vwCl _ t.heap from by rw [ht]; exact hPo)⟩, hS.F ht⟩) hS.2.2 dL_act_18
  | none =>
    refine zr_VT (pc := 5) (rest := [.int 0, .ref o]) cx cv_L_15 (tX11_act (kK := kK) (kV := kV) hl0 h) ⟨rfl, rfl⟩ ⟨Nat.le_of_ble_eq_true rfl, Nat.le_of_ble_eq_true rfl⟩ ⟨Nat.le_of_ble_eq_true rfl, Nat.le_of_ble_eq_true rfl⟩ ⟨fun a U g mk h => ⟨h.1, zPr_bl a U g mk h.2.1, zEn_bl a U g mk h.2.2⟩, va_recv (ci := 12) cx.2.2.2.2.2.1 hC rfl (zW_at nC_0 sC_0), fun U hU hW => ⟨rfl, zr_pre cx hC U hU hW, (hE.at hS.2.1 hU hW).narrow (fun _ h => h.elim)⟩⟩ hl.1 rfl rfl (Nat.le_of_ble_eq_true rfl) dL_act_5 htab (by decide) (by decide) wd_1379 (fun v H hz hk => ?_)
    have hS : va_S A s.heap H [] := ⟨hz, fun q h1 _ => hk q h1, fun _ h => by cases h⟩
    have hPo : va_P D vwCl [(o, .inl (cy 1, 1, .inr (.inl f)))] H := hPo.kept (fun k x hx => hk x.1 (hPo k x hx).lt)
    refine lv_astore (lv' := [(4, .ref v), (0, .ref (q 0)), (1, .int v1), (2, .int v2), (3, .ref o)]) (pc := 13) hx hb dL_act_13 hl (by decide) rfl (fun ls hl => ?_)
    refine lv_iconst (pc := 15) hx hb dL_act_15 zc_1 ?_
    exact W.iret (pc := 16) hx hb hr (fun t ht hW => ⟨⟨1, f, rfl, Or.inr ⟨rfl, rfl⟩, (show va_P D vwCl _ t.heap from by rw [ht]; exact hPo)⟩, hS.F ht⟩) hS.2.2 dL_act_16
