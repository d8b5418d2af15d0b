/-! the static row of the most of each sort: nobody writes it -/
def zMo (j : Nat) : Int32 := if j = 0 then 5 else if j = 1 then 6 else if j = 2 then 4 else 5
def zMS (A : Nat → Prop) (U : State) : Prop := ∃ t : Nat, va_Z "ParlourLeaves" "MOST_OF_SORT" "[I" (.ref t) A U U.heap ∧ va_T .int t 4 (fun j => .int (zMo j)) A U U.heap
theorem zMS.narrow {A B : Nat → Prop} {U : State} (h : zMS A U) (hAB : ∀ q, B q → A q) : zMS B U := by
  obtain ⟨t, h1, h2⟩ := h
  exact ⟨t, h1.narrow hAB, h2.narrow hAB⟩
theorem zMS.at {A : Nat → Prop} {s U : State} {H : Heap} (h : zMS A s) (hq : ∀ a : Nat, a < s.heap.size → ¬ A a → H[a]? = s.heap[a]?) (hU : U.heap = H) (hvm : s.vm.Alike U.vm) : zMS A U := by
  obtain ⟨t, h1, h2⟩ := h
  refine ⟨t, ?_, ?_⟩
  · rw [hU]; exact va_Z.moved hvm (h1.kept hq)
  · rw [hU]; exact va_T.moved hvm (h2.kept hq)
def zPs (sh : Nat → zSp) (N : Nat) (D : va_G) (cy : Nat → ClassId) (q : Nat → Nat) (A : Nat → Prop) (S : zSt) : State → Prop := fun U => zPr sh N D cy q S U ∧ zMS A U
theorem zPs_bl {sh : Nat → zSp} {N : Nat} {D : va_G} {cy : Nat → ClassId} {q : Nat → Nat} {A : Nat → Prop} {S : zSt} : zBl (zPs sh N D cy q A S) := fun a U g mk h => ⟨zPr_bl a U g mk h.1, h.2.at (U := U.calling g mk a) (fun _ _ _ => rfl) rfl (Vm.Alike.refl U.vm)⟩
abbrev zMqS (l : Launch) (y : MethodName) (bytes : ByteArray) (maxL : Nat) (ret : Option FieldType) (rm : Room) (As : List Value) (sh : Nat → zSp) (N : Nat) (D : va_G) (cy : Nat → ClassId) (q : Nat → Nat) (A : Nat → Prop) (S : zSt) (z : Int32 × zSt) : Prop := Met l y (Cond.code y bytes maxL ret :: zTB) rm (va_Pc As (zPs sh N D cy q A S)) (va_Qi (fun (r : Int32) (u : zSt) => (r, u) = z) (fun u t => va_P D vwCl (zW sh N cy q u) t.heap) A) 0 0 A
section ZS
variable {p : Program} {l : Launch} {e : Env} {R rm : Room} {s : State} {m : MethodId} {args : Array Value} {below : List Frame} {meth : Method} {c : Code} {H H0 : Heap} {locs : List Loc} {cells slots : Nat} {Q : State → Prop}
variable {own : String} {cc bytes : ByteArray} {nL pc maxL n : Nat} {ret : Option FieldType} {ls : Array Slot} {rest As st0 : List Value} {D : va_G} {cy : Nat → ClassId} {A : Nat → Prop} {sh : Nat → zSp} {N : Nat} {q : Nat → Nat} {S : zSt} {y : MethodName} {C host : String} {index ci k : Nat}
theorem zr_preVS (cx : zX own cc nL p s m args c D cy) (hM : zMS A s) (hS : va_S A s.heap H locs) (hP : va_P D vwCl (zW sh N cy q S) H) (hk : k < N) {fs : List (Option (Option Nat))} {T : u_T} {NN : Nat} (hs : sh k = .inr (ci, fs)) (hc : vwCl[ci]? = some (C, T, NN)) : PreV s H C (q k) (va_Pc (.ref (q k) :: As) (zPs sh N D cy q A S)) As :=
  ⟨fun a U g mk h => ⟨h.1, zPs_bl a U g mk h.2⟩, va_recv cx.2.2.2.2.2.1 hP hc (zW_at hk hs), fun U hU hW => ⟨rfl, zr_pre cx hP U hU hW, hM.at hS.2.1 hU hW.alike⟩⟩
theorem zr_preVF (cx : zX own cc nL p s m args c D cy) (hM : zMS A s) (hS : va_S A s.heap H locs) (hP : va_P D vwCl (zW sh N cy q S) H) (hk : k < N) {fs : List (Option (Option Nat))} {T : u_T} {NN : Nat} (hs : sh k = .inr (ci, fs)) (hc : vwCl[ci]? = some (C, T, NN)) : PreV s H C (q k) (va_Pc (.ref (q k) :: As) (zPs sh N D cy q (fun _ => False) S)) As :=
  ⟨fun a U g mk h => ⟨h.1, zPs_bl a U g mk h.2⟩, va_recv cx.2.2.2.2.2.1 hP hc (zW_at hk hs), fun U hU hW => ⟨rfl, zr_pre cx hP U hU hW, (hM.at hS.2.1 hU hW.alike).narrow (fun _ h => h.elim)⟩⟩
theorem zr_VIg {pre : State → Prop} (cx : zX own cc nL p s m args c D cy) (cv : zCV own C index y bytes maxL ret n) {r : Int32} (hM : zMi l y bytes maxL ret rm (.ref (q k) :: As) pre r) (hR : zRm rm R maxL) (hRc : zRc cells slots R) (hp : PreV s H C (q k) (va_Pc (.ref (q k) :: As) pre) As) (hl : ls.size = nL) (hn : As.length = n) (hst : st0 = As.reverse ++ .ref (q k) :: rest) (hW : (rest.map fun v => v.category).sum ≤ 8) (hdg : decode cc pc = .ok (.invokevirtual index, 3))
    (kk : W p l e R s m args below meth c H locs cells slots Q (F0 m (pc + 3) ls (.int r :: rest))) : W p l e R s m args below meth c H locs cells slots Q (F0 m pc ls st0) :=
  vp_callSi (W.runV (zr_fix cx) hM (zr_cwV cx cv hR) hp rfl hn hl hst (lv_room hW) hdg hRc) (fun _ hr => by subst hr; exact kk)
theorem zr_VQS (cx : zX own cc nL p s m args c D cy) (cv : zCV own C index y bytes maxL ret n) {z : Int32 × zSt} (hM : zMqS l y bytes maxL ret rm (.ref (q k) :: As) sh N D cy q A S z) (hR : zRm rm R maxL) (hRc : zRc cells slots R) (hp : PreV s H C (q k) (va_Pc (.ref (q k) :: As) (zPs sh N D cy q A S)) As) (hS : va_S A H0 H locs) (hl : ls.size = nL) (hn : As.length = n) (hst : st0 = As.reverse ++ .ref (q k) :: rest) (hW : (rest.map fun v => v.category).sum ≤ 8) (hdg : decode cc pc = .ok (.invokevirtual index, 3))
    (kk : ∀ (H1 : Heap) (locs1 : List Loc), va_P D vwCl (zW sh N cy q z.2) H1 → va_S A H0 H1 locs1 → W p l e R s m args below meth c H1 locs1 cells slots Q (F0 m (pc + 3) ls (.int z.1 :: rest))) : W p l e R s m args below meth c H locs cells slots Q (F0 m pc ls st0) :=
  va_calli (va_runV (zr_fix cx) hM (zr_cwV cx cv hR) hp rfl hn hl hst (lv_room hW) hdg hRc) hS (fun _ _ h => h) (fun _ h => h) (fun r u t H1 locs1 ht _ hw hB _ _ hS1 => by
    subst hw
    subst ht
    exact kk _ _ hB hS1)
end ZS
