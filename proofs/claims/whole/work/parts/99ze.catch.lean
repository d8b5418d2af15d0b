/-! a call that throws, and its handler -/
section ZwT
variable {p : Program} {l : Launch} {e : Env} {R rm : Room} {s U : State} {m mk : MethodId} {args a : Array Value} {below : List Frame} {meth : Method} {c : Code} {locs : List Loc} {cells slots : Nat} {y : MethodName} {bytes : ByteArray} {maxL : Nat} {ret : Option FieldType} {P : Array Value → State → Prop} {g : JFrame} {ig : Instr}
theorem zw_callT (X : Stand p l e R s m args below meth c U locs cells slots) (hM : MetFree l y (headSpec (Cond.code y bytes maxL ret :: zTB) rm) P (fun _ _ _ _ _ => True) zQt) (hrm : rm.cells = 1 ∧ rm.slots = 6) (hR : rm.frames + 1 ≤ R.frames ∧ 8 + (maxL + 11) + rm.locals ≤ R.locals) (hRc : cells + 1 ≤ R.cells ∧ slots + 6 ≤ R.slots) (hg : g.method = m) (hsz : g.locals.size = c.maxLocals) (hdg : decode c.code g.pc = .ok (ig, 3)) (hW : 2 * g.monitorRoom + (g.stack.map fun v => v.category).sum ≤ 8) (hn : U.methodNamed? y = some mk) (hpre : (headSpec (Cond.code y bytes maxL ret :: zTB) rm).pre.before a U = true) (hcode : (Cond.code y bytes maxL ret).before a U = true) (hini : (Cond.initialized y.cls).before a U = true) (hP : P a (U.calling g mk a)) :
    ∃ (x : Nat) (V : State), Stand p l e R s m args below meth c V locs (cells + 1) (slots + 6) ∧ U.heap.size ≤ V.heap.size ∧ (∀ q : Nat, q < U.heap.size → V.heap[q]? = U.heap[q]?) ∧ (∃ ce : Cell, V.heap[x]? = some ce ∧ ce.vm = .none ∧ s.vm.findClass nsE = some ce.cls) ∧
      Steps p.tables e below (doInvoke e (U.setTop g) [] mk a).1 ((V.setTop g).pushFrame (.throwing x)) := by
  obtain ⟨methY, cY, hmY, hcY, -, hlY, -, -, -, -⟩ := Cond.code_spec hn hcode
  obtain ⟨kY, hkY, -⟩ := className_of_methodNamed hn
  have hiY : kY.init = .initialized := Cond.initialized_spec (findClass_of_methodNamed hn) hkY hini
  subst hg
  have hroom := X.room_calling (g := g) (args' := a) (R' := rm) hsz hmY hcY hR.1 (by rw [hlY]; omega) (by rw [hrm.1]; exact hRc.1) (by rw [hrm.2]; exact hRc.2)
  have happ := Spec.appliesLoose_calling (S := headSpec (Cond.code y bytes maxL ret :: zTB) rm) (g := g) X.here hdg hn hkY hiY hroom hpre
  obtain ⟨mid, hmid⟩ := X.here.above
  have hfr : (U.setTop g).frames = (.java g :: mid) ++ below := by rw [State.frames_setTop' g X.here.top, hmid]; rfl
  obtain ⟨o, t, hst, -, hend, x, rfl, hwarm, hsame, ce, hce, hcv, hcc⟩ := Steps.callFree hM p X.admits X.cas X.clock (acts := []) hfr happ hP trivial
  have hwarm : U.WarmedH t.vm := hwarm
  obtain ⟨g0, hg0⟩ := Option.isSome_iff_exists.mp X.here.top
  obtain ⟨r, hr⟩ := State.topJava?_eq_some.mp hg0
  obtain ⟨th, hth, -⟩ := State.frames_cons hr
  obtain ⟨e1, q2, q3, q4, q5, q6⟩ := hsame
  have hf : t.frames = .throwing x :: .java g :: r := by
    have h1 : t.frames = .throwing x :: (U.setTop g).frames := hend
    rw [h1, State.frames_setTop _ hr]
  let V : State := ({ U with heap := t.heap, slotsUsed := t.slotsUsed } : State).setVm t.vm
  have hVr : V.frames = .java g0 :: r := hr
  have hV : U.sameButNew (V.setVm U.vm) [] 1 6 := ⟨by
    show ({ U with heap := t.heap, slotsUsed := t.slotsUsed } : State) = { U.setFrames U.frames with heap := t.heap, slotsUsed := t.slotsUsed }
    rw [State.setFrames_self hth], q2, q3, q4, q5, q6⟩
  have XV := X.moved (T₂ := V) ((X.here.setHeapUsed t.heap t.slotsUsed).setVm hwarm.alike) X.tail rfl rfl hwarm hV
  rw [List.append_nil] at XV
  refine ⟨x, V, XV, q2, fun q hq => ?_, ⟨ce, hce, hcv, ?_⟩, ?_⟩
  · have e9 : U.heap[q]? = some U.heap[q] := Array.getElem?_eq_getElem hq
    rw [e9]
    exact State.sameButNew.old_cell (s := U) (s' := V.setVm U.vm) hV e9
  · rw [← X.warmed.alike.findClass]
    exact hcc
  · have e3 : t = (V.setTop g).pushFrame (.throwing x) := by
      refine (congrArg (fun z : State => z.setVm t.vm) e1).trans ?_
      show ({ (U.calling g mk a).setFrames t.frames with heap := t.heap, slotsUsed := t.slotsUsed } : State).setVm t.vm = _
      rw [hf, State.calling_eq X.here.top, State.setFrames_setFrames, State.pushFrame, State.frames_setTop _ hVr, State.setTop_of_frames _ hVr, State.setFrames_setFrames]
      rfl
    rw [← e3]
    exact hst
/-- the handler's row: the search finds it, its class known or met for the first time -/
theorem zw_find {f : JFrame} {v : Nat} {x : ExceptionTableEntry} {cT : ClassId} {cell : Cell} {vm2 : Vm} {meth0 : Method} {S : State} (hm : S.vm.method? f.method = some meth0) (hc : meth0.code = some c) (htab : c.exceptionTable.toList = [x]) (hcov : covers x f.pc = true) (h0 : x.catchType ≠ 0) (hg1 : (Jvm.resolveClass f.method.cls x.catchType).Gives e.toSetting S.vm (.ok cT) vm2) (hsz : vm2.classes.size ≤ S.vm.classes.size) (hcell : S.heap[v]? = some cell) (hobj : ∀ k, cell.vm ≠ .statics k) (hk : ∃ k, vm2.classes[cell.cls]? = some k) (hcl : ∃ k, vm2.classes[cT]? = some k) (hfit : vm2.assignable cell.cls cT = true) {Q : Handler → Pre} {E : CtlPost} {d : Bool} {acts : List Action} (hq : ∀ d', Q (.found x.handlerPc) d' acts (S.setVm vm2)) : wp (findHandler f v) Q E e d acts S := by
  rw [W.findHandler_eq hm hc, htab]
  obtain ⟨ha, ht⟩ := hg1.op (op := VmOp.resolveClass f.method.cls x.catchType) rfl
  simp only [covers] at hcov
  simp [findHandler.go, hcov, h0, ha, ht, hsz, hcell, hobj, hk, hcl, hfit, VmOp.dirties, VmOp.acts, hq]
theorem zw_catch {V : State} {x : ExceptionTableEntry} {v : Nat} {ce : Cell} {own : String} (X : Stand p l e R s m args below meth c V locs cells slots) (hg : g.method = m) (hown : s.vm.findClass own = some m.cls) (htab : c.exceptionTable.toList = [x]) (hcov : covers x g.pc = true) (h0 : x.catchType ≠ 0) (hlink : (Cond.classLink own x.catchType nsE).before args s = true) (hce : V.heap[v]? = some ce) (hcv : ce.vm = .none) (hcc : s.vm.findClass nsE = some ce.cls) :
    ∃ vm2, Stand p l e R s m args below meth c (V.setVm vm2) locs cells slots ∧ ∀ target, Steps p.tables e below ((V.setVm vm2).setTop { g with pc := x.handlerPc, stack := [.ref v] }) target → Steps p.tables e below ((V.setTop g).pushFrame (.throwing v)) target := by
  subst hg
  obtain ⟨cT, hfT, hlk⟩ := Cond.classLink_spec hown hlink e.platform (by rw [X.admits.platform])
  cases hcc.symm.trans hfT
  obtain ⟨dk, _, _, kt, hd, _, _, _, _, hkt, _, hopen⟩ := hlk.here
  obtain ⟨hg1, hw1, -⟩ := State.classEntry (e := e) X.warmed hlk
  obtain ⟨k2, hk2, -⟩ := hw1.alike.2.2 _ _ hkt
  have hsz : (V.vm.noted g.method.cls x.catchType (.cls ce.cls)).classes.size ≤ V.vm.classes.size := by simp [Vm.noted]
  generalize V.vm.noted g.method.cls x.catchType (.cls ce.cls) = vm2 at hg1 hw1 hk2 hsz
  refine ⟨vm2, X.noted hw1, fun target hrest => ?_⟩
  obtain ⟨hgo, hwi⟩ := X.here.throwing v
  obtain ⟨g0, hg0⟩ := Option.isSome_iff_exists.mp X.here.top
  obtain ⟨r, hr⟩ := State.topJava?_eq_some.mp hg0
  have hIs : (stepThrowing e ((V.setTop g).pushFrame (.throwing v)) v (.java g :: V.frames.tail)).Is ((((V.setTop g).pushFrame (.throwing v)).setVm vm2).setFrames (.java { g with pc := x.handlerPc, stack := [.ref v] } :: V.frames.tail)) [] := by
    simp only [stepThrowing, searchFrame, vmDo]
    generalize hres : Sem.go _ e false [] _ = res
    obtain ⟨as, rfl, ha⟩ := Sem.eq_ok_of hres (a := Handler.found x.handlerPc) (s' := ((V.setTop g).pushFrame (.throwing v)).setVm vm2) (acts' := []) (by
      rw [wp_bind']
      exact zw_find (S := (V.setTop g).pushFrame (.throwing v)) (c := c) (meth0 := meth) (cell := ce) (cT := ce.cls) (vm2 := vm2) X.method' X.code htab hcov h0 hg1 hsz hce (fun k h => by rw [hcv] at h; cases h) ⟨k2, hk2⟩ ⟨k2, hk2⟩ (va_asg _ _) (fun d' => by simp))
    exact ⟨rfl, ha⟩
  refine Steps.head hgo hwi ?_
  rw [stepThread_throwing (frames_entered X.here.top _), hIs.1]
  have e1 : (((V.setTop g).pushFrame (.throwing v)).setVm vm2).setFrames (.java { g with pc := x.handlerPc, stack := [.ref v] } :: V.frames.tail) = (V.setVm vm2).setTop { g with pc := x.handlerPc, stack := [.ref v] } := by
    have hr2 : (V.setVm vm2).frames = .java g0 :: r := hr
    rw [State.setTop_of_frames _ hr2, hr, State.pushFrame, State.setTop_of_frames _ hr]
    show (((V.setVm vm2).setFrames _).setFrames _).setFrames _ = _
    rw [State.setFrames_setFrames, State.setFrames_setFrames]
    rfl
  rw [e1]
  exact hrest
end ZwT
section ZCa
variable {p : Program} {l : Launch} {e : Env} {R rm : Room} {s : State} {m : MethodId} {args : Array Value} {below : List Frame} {meth : Method} {c : Code} {H : Heap} {locs : List Loc} {cells slots : Nat} {Q : State → Prop}
variable {own C : String} {cc bytes : ByteArray} {nL pc maxL n : Nat} {ret : Option FieldType} {ls : Array Slot} {rest As st0 : List Value} {D : va_G} {cy : Nat → ClassId} {y : MethodName} {index b : Nat} {pre : State → Prop}
theorem zr_VT (cx : zX own cc nL p s m args c D cy) (cv : zCV own C index y bytes maxL ret n) (hM : zMt l y bytes maxL ret rm (.ref b :: As) pre) (hrm : rm.cells = 1 ∧ rm.slots = 6) (hR : rm.frames + 1 ≤ R.frames ∧ 8 + (maxL + 11) + rm.locals ≤ R.locals) (hRc : cells + 1 ≤ R.cells ∧ slots + 6 ≤ R.slots) (hp : PreV s H C b (va_Pc (.ref b :: As) pre) As) (hl : ls.size = nL) (hn : As.length = n) (hst : st0 = As.reverse ++ .ref b :: rest) (hW : (rest.map fun v => v.category).sum ≤ 8) (hdg : decode cc pc = .ok (.invokevirtual index, 3))
    {x : ExceptionTableEntry} (htab : c.exceptionTable.toList = [x]) (hcov : covers x pc = true) (h0 : x.catchType ≠ 0) (hlink : Cond.classLink own x.catchType nsE ∈ zTB)
    (kk : ∀ (v : Nat) (H1 : Heap), H.size ≤ H1.size → (∀ a : Nat, a < H.size → H1[a]? = H[a]?) → W p l e R s m args below meth c H1 locs (cells + 1) (slots + 6) Q (F0 m x.handlerPc ls [.ref v])) : W p l e R s m args below meth c H locs cells slots Q (F0 m pc ls st0) := by
  obtain ⟨hx, hb, hml, hown, hts, hK, hKn⟩ := cx
  obtain ⟨hC1, hd, w1, w2, w3, w4, w5⟩ := cv
  subst hC1
  intro T hT X
  obtain ⟨cellB, hcB, hoB, hclB⟩ := hp.2.1
  have hy : y.cls ≠ "java/lang/invoke/MethodHandle" ∧ y.cls ≠ "java/lang/invoke/VarHandle" := ⟨hd.1, hd.2.1⟩
  obtain ⟨r0, r, hn0, hrm0, hstR, hsigR⟩ := Cond.declares_spec (z_decl (hts _ w2) (hts _ w5))
  obtain ⟨mk, methM, hnamed, hmethM, -, habM⟩ := Cond.instanceMethod_spec (hts _ w2)
  obtain ⟨c2, r2, m2, q1, q2, q3, q4, kP, hkP, hkPi⟩ := Cond.selects_spec (hts _ w3)
  cases hclB.symm.trans q1
  cases (State.methodFound?_of_named hn0 hy).symm.trans q2
  cases hnamed.symm.trans q3
  cases hn0.symm.trans hnamed
  have hlen : As.length = r.sig.parameters.length := by
    have h3 := hd.2.2
    rw [hsigR] at h3
    exact hn.trans (Option.some.inj h3).symm
  obtain ⟨vm₁, X1, st1⟩ := X.invokevirtual hx hown (hts _ w1) hn0 hrm0 hstR hkP hkPi hy (a := b) (cell := cellB) (by rw [hT]; exact hcB) (fun k h => by rw [h] at hoB; cases hoB) (by rw [Launch.admits_selectMethod X.admits]; exact q4) hmethM habM hkP hkPi (g := F0 m pc ls st0) rfl (argsL := As) (rest := rest) hlen hst (by rw [hb]; exact hdg)
  have hws := pay_in hts (zGoodC w5)
  obtain ⟨v, V, XV, hz, hk, ⟨ce, hce, hcv, hcc⟩, st2⟩ := zw_callT X1 hM hrm hR hRc (g := F0 m pc ls rest) (ig := .invokevirtual index) rfl (hl.trans hml.symm) (by rw [hb]; exact hdg) (lv_room hW) (X1.named hnamed) (atoms_intro fun w hw => hws w hw _ _ X1.warmed) (hws _ List.mem_cons_self _ _ X1.warmed) (hws _ (List.mem_cons_of_mem _ w4) _ _ X1.warmed) (hp.1 (.ref b :: As).toArray (T.setVm vm₁) (F0 m pc ls rest) _ (hp.2.2 (T.setVm vm₁) hT X1.warmed))
  obtain ⟨vm2, X2, st3⟩ := zw_catch XV (g := F0 m pc ls rest) rfl hown htab hcov h0 (hts _ hlink) hce hcv hcc
  have hz : T.heap.size ≤ V.heap.size := hz
  have hk : ∀ q : Nat, q < T.heap.size → V.heap[q]? = T.heap[q]? := hk
  obtain ⟨t, a1, b1⟩ := kk v V.heap (by rw [← hT]; exact hz) (fun a ha => by rw [← hT]; exact hk a (by rw [← hT] at ha; exact ha)) (V.setVm vm2) rfl X2
  exact ⟨t, (st1 _ fun acts => by rw [doInvoke_state]; exact Steps.refl _).trans (st2.trans (st3 _ a1)), b1⟩
end ZCa
