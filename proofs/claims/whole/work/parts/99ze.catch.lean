/-! a call that throws, and its handler -/
def zPt (s : State) : Pt → Array Value → Addr → Pt → Prop := fun A _ v B => B.locs = A.locs ∧ B.cells = A.cells + 1 ∧ B.slots = A.slots + 6 ∧ A.U.heap.size ≤ B.U.heap.size ∧ (∀ q : Nat, q < A.U.heap.size → B.U.heap[q]? = A.U.heap[q]?) ∧ ∃ ce : Cell, B.U.heap[v]? = some ce ∧ ce.vm = .none ∧ s.vm.findClass nsE = some ce.cls
section ZCa
variable {p : Program} {l : Launch} {e : Env} {R rm : Room} {s : State} {m : MethodId} {args : Array Value} {below : List Frame} {meth : Method} {c : Code} {H : Heap} {locs : List Loc} {cells slots : Nat} {Q : State → Prop}
variable {own C : String} {cc bytes : ByteArray} {nL pc maxL n : Nat} {ret : Option FieldType} {ls : Array Slot} {rest As st0 : List Value} {D : va_G} {cy : Nat → ClassId} {y : MethodName} {index b : Nat} {pre : State → Prop}
theorem zBackT (hts : ∀ w ∈ zTB, w.before args s = true) (w4 : Cond.initialized y.cls ∈ zTB) (w5 : Cond.code y bytes maxL ret ∈ zTB) (hM : zMt l y bytes maxL ret rm (.ref b :: As) pre) (hrm : rm.cells = 1 ∧ rm.slots = 6) (hR : rm.frames + 1 ≤ R.frames ∧ 8 + (maxL + 11) + rm.locals ≤ R.locals) (hbl : FrameBlind (va_Pc (.ref b :: As) pre)) : Jvm.Free.BackT l R p e below s args y 3 8 (PreOf R 1 6 (va_Pc (.ref b :: As) pre)) (zPt s) := by
  have hws := pay_in hts (zGoodC w5)
  refine Jvm.Free.BackT.of_free (S := headSpec (Cond.code y bytes maxL ret :: zTB) rm) (P := va_Pc (.ref b :: As) pre) (K := fun _ _ _ _ _ => True) (Q := zQt) (bytes := bytes) (maxL := maxL) (ret := ret)
    (E := fun a first o t L k n => L = [] ∧ k = 1 ∧ n = 6 ∧ ∃ v, o = .threw v ∧ ∃ ce : Cell, t.heap[v]? = some ce ∧ ce.vm = .none ∧ first.vm.findClass nsE = some ce.cls) hM hR.1 hR.2 ?_ ?_ (fun _ _ _ _ _ _ _ _ _ => trivial) ?_ ?_
  · intro m meth c A a X hp
    exact ⟨atoms_intro fun w hw => hws w hw _ _ X.warmed, hws _ List.mem_cons_self _ _ X.warmed, hws _ (List.mem_cons_of_mem _ w4) _ _ X.warmed, by show A.cells + rm.cells ≤ _; rw [hrm.1]; exact hp.1, by show A.slots + rm.slots ≤ _; rw [hrm.2]; exact hp.2.1⟩
  · intro m meth c A a g mk X hp
    exact hbl _ _ _ _ hp.2.2
  · intro a first o t ⟨v, ho, hF, ce, h1, h2, h3⟩
    exact ⟨[], 1, 6, hF, rfl, rfl, rfl, v, ho, ce, h1, h2, h3⟩
  · intro m meth c A a g mk v t L k n X hp hq hF ⟨e1, e2, e3, v', ho, ce, h1, h2, h3⟩
    subst e1
    subst e2
    subst e3
    cases ho
    refine ⟨List.append_nil _, rfl, rfl, hF.2.2.2.1, fun q hq => ?_, ce, h1, h2, ?_⟩
    · show t.heap[q]? = A.U.heap[q]?
      have e9 : A.U.heap[q]? = some A.U.heap[q] := Array.getElem?_eq_getElem hq
      rw [e9]
      exact hF.2.2.old_cell (a := q) e9
    · rw [← X.warmed.alike.findClass]
      exact h3
theorem zr_VT (cx : zX own cc nL p s m args c D cy) (cv : zCV own C index y bytes maxL ret n) (hM : zMt l y bytes maxL ret rm (.ref b :: As) pre) (hrm : rm.cells = 1 ∧ rm.slots = 6) (hR : rm.frames + 1 ≤ R.frames ∧ 8 + (maxL + 11) + rm.locals ≤ R.locals) (hRc : cells + 1 ≤ R.cells ∧ slots + 6 ≤ R.slots) (hp : PreV s H C b (va_Pc (.ref b :: As) pre) As) (hl : ls.size = nL) (hn : As.length = n) (hst : st0 = As.reverse ++ .ref b :: rest) (hW : (rest.map fun v => v.category).sum ≤ 8) (hdg : decode cc pc = .ok (.invokevirtual index, 3))
    {x : ExceptionTableEntry} (htab : c.exceptionTable.toList = [x]) (hcov : covers x pc = true) (h0 : x.catchType ≠ 0) (hlink : Cond.classLink own x.catchType nsE ∈ zTB)
    (kk : ∀ (v : Nat) (H1 : Heap), H.size ≤ H1.size → (∀ a : Nat, a < H.size → H1[a]? = H[a]?) → W p l e R s m args below meth c H1 locs (cells + 1) (slots + 6) Q (F0 m x.handlerPc ls [.ref v])) : W p l e R s m args below meth c H locs cells slots Q (F0 m pc ls st0) := by
  obtain ⟨hx, hb, hml, hown, hts, hK, hKn⟩ := cx
  obtain ⟨hC1, hd, w1, w2, w3, w4, w5⟩ := cv
  subst hC1
  have hB : Jvm.Free.BackT l R p e below s args y 3 8 (PreOf R 1 6 (va_Pc (.ref b :: As) pre)) (zPt s) := zBackT hts w4 w5 hM hrm hR hp.1
  intro T hT X
  obtain ⟨cellB, hcB, hoB, hclB⟩ := hp.2.1
  have hnf : NotFace s y := by
    intro r0 hr0
    obtain ⟨c2, r2, m2, q1, q2, q3, q4, kP, hkP, hkPi⟩ := Cond.selects_spec (hts _ w3)
    cases hr0.symm.trans q3
    exact ⟨kP, hkP, hkPi⟩
  obtain ⟨v, vm₁, ⟨U, l2, c2, s2⟩, hW₁, X', hpost, come⟩ := X.virtualThrows hx (own := own) (C := y.cls) (index := index) (y := y) (z := y) hown (hts _ w1) (z_decl (hts _ w2) (hts _ w5)) hnf (hts _ w3) (hts _ w2) ⟨hd.1, hd.2.1⟩ hB hclB ⟨cellB, by rw [hT]; exact hcB, rfl, hoB⟩ (g := F0 m pc ls st0) rfl (hl.trans hml.symm) (Steps.refl _) (argsL := As) (rest := rest) (fun sig h => by
      have h3 := hd.2.2
      rw [h] at h3
      exact hn.trans (Option.some.inj h3).symm) hst (lv_room hW) (by rw [hb]; exact hdg) (fun vm₁ hW₁ => ⟨hRc.1, hRc.2, hp.2.2 (T.setVm vm₁) hT hW₁⟩)
  obtain ⟨e1, e2, e3, hz, hk, ce, hce, hvm, hcl⟩ := hpost
  dsimp only [Pt.U, Pt.locs, Pt.cells, Pt.slots] at X' e1 e2 e3 hz hk hce come
  subst e1
  subst e2
  subst e3
  obtain ⟨vm2, XV, come2⟩ := X'.thenCaughtLink v (g := F0 m pc ls rest) rfl come (own := own) (name := nsE) hown [] x [] htab (fun y hy => by cases hy) hcov h0 (hts _ hlink) hcl hce (by rw [hvm]; rfl) (va_asg _ _)
  obtain ⟨t, a1, b1⟩ := kk v U.heap (by rw [← hT]; exact hz) (fun a ha => by rw [← hT]; exact hk a (by rw [← hT] at ha; exact ha)) (U.setVm vm2) rfl XV
  exact ⟨t, come2.trans a1, b1⟩
end ZCa
