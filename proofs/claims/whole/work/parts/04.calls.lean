def zBo (v : Int32) : Bool := decide (v = 0) || decide (v = 1)
theorem zBo_n {v : Int32} (h : zBo v = true) : narrow .boolean (.int v) = .int v := by
  simp only [zBo, Bool.or_eq_true, decide_eq_true_eq] at h
  rcases h with rfl | rfl <;> rfl
theorem zBo_f {v : Int32} (h : zBo v = true) : fits .boolean (.int v) = true := by
  simp only [zBo, Bool.or_eq_true, decide_eq_true_eq] at h
  rcases h with rfl | rfl <;> rfl
def zDn (y : MethodName) (n : Nat) : Prop := y.cls ≠ "java/lang/invoke/MethodHandle" ∧ y.cls ≠ "java/lang/invoke/VarHandle" ∧ (parseMethodDescriptor y.desc).map (fun d => d.parameters.length) = some n
def zCV (own C : String) (index : Nat) (y : MethodName) (bytes : ByteArray) (maxL : Nat) (ret : Option FieldType) (n : Nat) : Prop := y.cls = C ∧ zDn y n ∧ Cond.methodLink own index y ∈ zTB ∧ Cond.instanceMethod y ∈ zTB ∧ Cond.selects C y y ∈ zTB ∧ Cond.initialized C ∈ zTB ∧ Cond.code y bytes maxL ret ∈ zTB
def zCS (own : String) (index : Nat) (y : MethodName) (bytes : ByteArray) (maxL : Nat) (ret : Option FieldType) (n : Nat) : Prop := zDn y n ∧ Cond.methodLink own index y ∈ zTB ∧ Cond.static y ∈ zTB ∧ Cond.initialized y.cls ∈ zTB ∧ Cond.code y bytes maxL ret ∈ zTB
def zCN (own host : String) (index : Nat) (y : MethodName) (bytes : ByteArray) (maxL : Nat) (ret : Option FieldType) (n : Nat) : Prop := zDn y n ∧ Cond.methodLinkNest own index y host ∈ zNL ∧ Cond.static y ∈ zTB ∧ Cond.initialized y.cls ∈ zTB ∧ Cond.code y bytes maxL ret ∈ zTB
theorem zGd1 {w : Cond} (h : w ∈ zTB) : w ∈ zTB ∧ ((w.onTables && w.keeps) = true ∨ ∃ ty, w = .arrayClass ty) := ⟨h, good_of_word (List.mem_filter.mp h).2⟩
theorem zGoodC {w : Cond} (h : w ∈ zTB) : GoodIn zTB (w :: zTB) := by
  intro x hx
  rcases List.mem_cons.mp hx with rfl | hx
  · exact zGd1 h
  · exact zGd1 hx
def zPr (sh : Nat → zSp) (N : Nat) (D : va_G) (cy : Nat → ClassId) (q : Nat → Nat) (S : zSt) : State → Prop := fun U => va_P D vwCl (zW sh N cy q S) U.heap ∧ va_K D vwCl (zTy cy) U ∧ zKN U
def zBl (pre : State → Prop) : Prop := ∀ (a : Array Value) (U : State) (g : JFrame) (mk : MethodId), pre U → pre (U.calling g mk a)
theorem zPr_bl {sh : Nat → zSp} {N : Nat} {D : va_G} {cy : Nat → ClassId} {q : Nat → Nat} {S : zSt} : zBl (zPr sh N D cy q S) := fun a U g mk h => ⟨h.1, va_K.moved (u := U) (U := U.calling g mk a) (Vm.Alike.refl U.vm) h.2.1, zKN_same (s := U) (U := U.calling g mk a) rfl h.2.2⟩
abbrev zMi (l : Launch) (y : MethodName) (bytes : ByteArray) (maxL : Nat) (ret : Option FieldType) (rm : Room) (As : List Value) (pre : State → Prop) (r : Int32) : Prop := Met l y (Cond.code y bytes maxL ret :: zTB) rm (va_Pc As pre) (vp_Si (fun x => x = r)) 0 0 (fun _ => False)
abbrev zMj (l : Launch) (y : MethodName) (bytes : ByteArray) (maxL : Nat) (ret : Option FieldType) (rm : Room) (As : List Value) (pre : State → Prop) (r : Int64) : Prop := Met l y (Cond.code y bytes maxL ret :: zTB) rm (va_Pc As pre) (vp_Sl (fun x => x = r)) 0 0 (fun _ => False)
abbrev zMq (l : Launch) (y : MethodName) (bytes : ByteArray) (maxL : Nat) (ret : Option FieldType) (rm : Room) (As : List Value) (sh : Nat → zSp) (N : Nat) (D : va_G) (cy : Nat → ClassId) (q : Nat → Nat) (A : Nat → Prop) (S : zSt) (z : Int32 × zSt) : Prop := Met l y (Cond.code y bytes maxL ret :: zTB) rm (va_Pc As (zPr sh N D cy q S)) (va_Qi (fun (r : Int32) (u : zSt) => (r, u) = z) (fun u t => va_P D vwCl (zW sh N cy q u) t.heap) A) 0 0 A
abbrev zMv (l : Launch) (y : MethodName) (bytes : ByteArray) (maxL : Nat) (ret : Option FieldType) (rm : Room) (As : List Value) (sh : Nat → zSp) (N : Nat) (D : va_G) (cy : Nat → ClassId) (q : Nat → Nat) (A : Nat → Prop) (S : zSt) (z : zSt) : Prop := Met l y (Cond.code y bytes maxL ret :: zTB) rm (va_Pc As (zPr sh N D cy q S)) (va_Qv (fun (u : zSt) => u = z) (fun u t => va_P D vwCl (zW sh N cy q u) t.heap) A) 0 0 A
def zRm (rm R : Room) (maxL : Nat) : Prop := (rm.cells = 0 ∧ rm.slots = 0) ∧ (rm.frames + 1 ≤ R.frames ∧ 8 + (maxL + 11) + rm.locals ≤ R.locals)
def zRc (cells slots : Nat) (R : Room) : Prop := cells + 0 ≤ R.cells ∧ slots + 0 ≤ R.slots
section ZC
variable {p : Program} {l : Launch} {e : Env} {R rm : Room} {s : State} {m : MethodId} {args : Array Value} {below : List Frame} {meth : Method} {c : Code} {H H0 : Heap} {locs : List Loc} {cells slots : Nat} {Q : State → Prop}
variable {own : String} {cc bytes : ByteArray} {nL pc maxL n : Nat} {ret : Option FieldType} {ls : Array Slot} {rest As st0 : List Value} {D : va_G} {cy : Nat → ClassId} {A : Nat → Prop} {sh : Nat → zSp} {N : Nat} {q : Nat → Nat} {S : zSt} {y : MethodName} {C host : String} {index ci k : Nat} {pre : State → Prop}
theorem zr_cwV (cx : zX own cc nL p s m args c D cy) (cv : zCV own C index y bytes maxL ret n) (hR : zRm rm R maxL) : CallW R s args own C index y bytes maxL ret (Cond.code y bytes maxL ret :: zTB) rm 0 0 n := by
  obtain ⟨hx, hb, -, hown, hts, hK, hKn⟩ := cx
  obtain ⟨h1, h2, w1, w2, w3, w4, w5⟩ := cv
  subst h1
  exact ⟨callB_of n hts (zGoodC w5) rfl hR.1.1 hR.1.2 (hts _ w4) (hts _ w1) h2 hR.2, hts _ w2, hts _ w3⟩
theorem zr_cwS (cx : zX own cc nL p s m args c D cy) (cv : zCS own index y bytes maxL ret n) (hR : zRm rm R maxL) : CallB R s args own index y bytes maxL ret (Cond.code y bytes maxL ret :: zTB) rm 0 0 n ∧ (Cond.static y).before args s = true := by
  obtain ⟨hx, hb, -, hown, hts, hK, hKn⟩ := cx
  obtain ⟨h2, w1, w2, w4, w5⟩ := cv
  exact ⟨callB_of n hts (zGoodC w5) rfl hR.1.1 hR.1.2 (hts _ w4) (hts _ w1) h2 hR.2, hts _ w2⟩
theorem zr_cwN (cx : zX own cc nL p s m args c D cy) (cv : zCN own host index y bytes maxL ret n) (hR : zRm rm R maxL) : va_CN R s args own index y host bytes maxL ret (Cond.code y bytes maxL ret :: zTB) rm 0 0 n ∧ (Cond.static y).before args s = true ∧ True := by
  obtain ⟨hx, hb, -, hown, hts, hK, hKn⟩ := cx
  obtain ⟨h2, w1, w2, w4, w5⟩ := cv
  refine ⟨va_cnB n hts (zGoodC w5) rfl hR.1.1 hR.1.2 ?_ (hts _ w4) h2 hR.2, hts _ w2, trivial⟩
  exact hKn _ w1
theorem zr_fix (cx : zX own cc nL p s m args c D cy) : CallFix p m c cc nL s args zTB own := by
  obtain ⟨hx, hb, h3, hown, hts, hK, hKn⟩ := cx
  exact ⟨hx, hb, h3, hown, hts⟩
theorem zr_pre (cx : zX own cc nL p s m args c D cy) (hP : va_P D vwCl (zW sh N cy q S) H) (U : State) (hU : U.heap = H) (hW : s.WarmedH U.vm) : zPr sh N D cy q S U := ⟨by rw [hU]; exact hP, va_K.moved hW.alike cx.2.2.2.2.2.1, zKN_warm hW cx.2.2.2.2.2.2⟩
theorem zr_preV (cx : zX own cc nL p s m args c D cy) (hP : va_P D vwCl (zW sh N cy q S) H) (hk : k < N) {fs : List (Option (Option Nat))} {T : u_T} {NN : Nat} (hs : sh k = .inr (ci, fs)) (hc : vwCl[ci]? = some (C, T, NN)) : PreV s H C (q k) (va_Pc (.ref (q k) :: As) (zPr sh N D cy q S)) As :=
  ⟨fun a U g mk h => ⟨h.1, zPr_bl a U g mk h.2⟩, va_recv cx.2.2.2.2.2.1 hP hc (zW_at hk hs), fun U hU hW => ⟨rfl, zr_pre cx hP U hU hW⟩⟩
theorem zr_preS (hb : zBl pre) (hp : ∀ U : State, U.heap = H → s.WarmedH U.vm → pre U) : PreS s H (va_Pc As pre) As := ⟨fun a U g mk h => ⟨h.1, hb a U g mk h.2⟩, fun U hU hW => ⟨rfl, hp U hU hW⟩⟩
theorem zr_preT : PreS s H (va_Pc As (fun _ => True)) As := zr_preS (fun _ _ _ _ _ => trivial) (fun _ _ _ => trivial)
theorem zr_preW (cx : zX own cc nL p s m args c D cy) (hP : va_P D vwCl (zW sh N cy q S) H) : PreS s H (va_Pc As (zPr sh N D cy q S)) As := zr_preS zPr_bl (zr_pre cx hP)
/-- a call of a method that only reads and answers an int -/
theorem zr_VI (cx : zX own cc nL p s m args c D cy) (cv : zCV own C index y bytes maxL ret n) {r : Int32} (hM : zMi l y bytes maxL ret rm (.ref (q k) :: As) (zPr sh N D cy q S) r) (hR : zRm rm R maxL) (hRc : zRc cells slots R) (hP : va_P D vwCl (zW sh N cy q S) H) (hk : k < N) {fs : List (Option (Option Nat))} {T : u_T} {NN : Nat} (hs : sh k = .inr (ci, fs)) (hc : vwCl[ci]? = some (C, T, NN)) (hl : ls.size = nL) (hn : As.length = n) (hst : st0 = As.reverse ++ .ref (q k) :: rest) (hW : (rest.map fun v => v.category).sum ≤ 8) (hdg : decode cc pc = .ok (.invokevirtual index, 3))
    (kk : W p l e R s m args below meth c H locs cells slots Q (F0 m (pc + 3) ls (.int r :: rest))) : W p l e R s m args below meth c H locs cells slots Q (F0 m pc ls st0) :=
  vp_callSi (W.runV (zr_fix cx) hM (zr_cwV cx cv hR) (zr_preV cx hP hk hs hc) rfl hn hl hst (lv_room hW) hdg hRc) (fun _ hr => by subst hr; exact kk)
theorem zr_VJ (cx : zX own cc nL p s m args c D cy) (cv : zCV own C index y bytes maxL ret n) {r : Int64} (hM : zMj l y bytes maxL ret rm (.ref (q k) :: As) (zPr sh N D cy q S) r) (hR : zRm rm R maxL) (hRc : zRc cells slots R) (hP : va_P D vwCl (zW sh N cy q S) H) (hk : k < N) {fs : List (Option (Option Nat))} {T : u_T} {NN : Nat} (hs : sh k = .inr (ci, fs)) (hc : vwCl[ci]? = some (C, T, NN)) (hl : ls.size = nL) (hn : As.length = n) (hst : st0 = As.reverse ++ .ref (q k) :: rest) (hW : (rest.map fun v => v.category).sum ≤ 8) (hdg : decode cc pc = .ok (.invokevirtual index, 3))
    (kk : W p l e R s m args below meth c H locs cells slots Q (F0 m (pc + 3) ls (.long r :: rest))) : W p l e R s m args below meth c H locs cells slots Q (F0 m pc ls st0) :=
  vp_callSl (W.runV (zr_fix cx) hM (zr_cwV cx cv hR) (zr_preV cx hP hk hs hc) rfl hn hl hst (lv_room hW) hdg hRc) (fun _ hr => by subst hr; exact kk)
theorem zr_SI (cx : zX own cc nL p s m args c D cy) (cv : zCS own index y bytes maxL ret n) {r : Int32} (hM : zMi l y bytes maxL ret rm As pre r) (hR : zRm rm R maxL) (hRc : zRc cells slots R) (hp : PreS s H (va_Pc As pre) As) (hl : ls.size = nL) (hn : As.length = n) (hst : st0 = As.reverse ++ rest) (hW : (rest.map fun v => v.category).sum ≤ 8) (hdg : decode cc pc = .ok (.invokestatic index, 3))
    (kk : W p l e R s m args below meth c H locs cells slots Q (F0 m (pc + 3) ls (.int r :: rest))) : W p l e R s m args below meth c H locs cells slots Q (F0 m pc ls st0) :=
  vp_callSi (W.runS (zr_fix cx) hM (zr_cwS cx cv hR) hp rfl hn hl hst (lv_room hW) hdg hRc) (fun _ hr => by subst hr; exact kk)
theorem zr_SJ (cx : zX own cc nL p s m args c D cy) (cv : zCS own index y bytes maxL ret n) {r : Int64} (hM : zMj l y bytes maxL ret rm As pre r) (hR : zRm rm R maxL) (hRc : zRc cells slots R) (hp : PreS s H (va_Pc As pre) As) (hl : ls.size = nL) (hn : As.length = n) (hst : st0 = As.reverse ++ rest) (hW : (rest.map fun v => v.category).sum ≤ 8) (hdg : decode cc pc = .ok (.invokestatic index, 3))
    (kk : W p l e R s m args below meth c H locs cells slots Q (F0 m (pc + 3) ls (.long r :: rest))) : W p l e R s m args below meth c H locs cells slots Q (F0 m pc ls st0) :=
  vp_callSl (W.runS (zr_fix cx) hM (zr_cwS cx cv hR) hp rfl hn hl hst (lv_room hW) hdg hRc) (fun _ hr => by subst hr; exact kk)
theorem zr_run {g : JFrame} {mc ms : Nat} {Qa : State → Outcome → State → Prop} {free : Addr → Prop} (h : va_Run p l e R s m args below meth c H locs cells slots mc ms g rest Qa free) : CallRun p l e R s m args below meth c H locs cells slots mc ms g rest Qa free := by
  intro T hT X
  obtain ⟨v, st₀, t, T', L, h0, X', hL, e1, e2, hq, st⟩ := h T hT X
  exact ⟨v, st₀, t, T', L, h0, X', hL, e1, hq, st⟩
theorem zr_NI (cx : zX own cc nL p s m args c D cy) (cv : zCN own host index y bytes maxL ret n) {r : Int32} (hM : zMi l y bytes maxL ret rm As pre r) (hR : zRm rm R maxL) (hRc : zRc cells slots R) (hp : PreS s H (va_Pc As pre) As) (hl : ls.size = nL) (hn : As.length = n) (hst : st0 = As.reverse ++ rest) (hW : (rest.map fun v => v.category).sum ≤ 8) (hdg : decode cc pc = .ok (.invokestatic index, 3))
    (kk : W p l e R s m args below meth c H locs cells slots Q (F0 m (pc + 3) ls (.int r :: rest))) : W p l e R s m args below meth c H locs cells slots Q (F0 m pc ls st0) :=
  vp_callSi (zr_run (va_runSN (zr_fix cx) hM (zr_cwN cx cv hR) hp rfl hn hl hst (lv_room hW) hdg hRc)) (fun _ hr => by subst hr; exact kk)
/-- a call of a method that writes in the world: an int, or nothing, comes back -/
theorem zr_VQ (cx : zX own cc nL p s m args c D cy) (cv : zCV own C index y bytes maxL ret n) {z : Int32 × zSt} (hM : zMq l y bytes maxL ret rm (.ref (q k) :: As) sh N D cy q A S z) (hR : zRm rm R maxL) (hRc : zRc cells slots R) (hP : va_P D vwCl (zW sh N cy q S) H) (hS : va_S A H0 H locs) (hk : k < N) {fs : List (Option (Option Nat))} {T : u_T} {NN : Nat} (hs : sh k = .inr (ci, fs)) (hc : vwCl[ci]? = some (C, T, NN)) (hl : ls.size = nL) (hn : As.length = n) (hst : st0 = As.reverse ++ .ref (q k) :: rest) (hW : (rest.map fun v => v.category).sum ≤ 8) (hdg : decode cc pc = .ok (.invokevirtual index, 3))
    (kk : ∀ (H1 : Heap) (locs1 : List Loc), va_P D vwCl (zW sh N cy q z.2) H1 → va_S A H0 H1 locs1 → W p l e R s m args below meth c H1 locs1 cells slots Q (F0 m (pc + 3) ls (.int z.1 :: rest))) : W p l e R s m args below meth c H locs cells slots Q (F0 m pc ls st0) :=
  va_calli (va_runV (zr_fix cx) hM (zr_cwV cx cv hR) (zr_preV cx hP hk hs hc) rfl hn hl hst (lv_room hW) hdg hRc) hS (fun _ _ h => h) (fun _ h => h) (fun r u t H1 locs1 ht _ hw hB _ _ hS1 => by
    subst hw
    subst ht
    exact kk _ _ hB hS1)
theorem zr_VV (cx : zX own cc nL p s m args c D cy) (cv : zCV own C index y bytes maxL ret n) {z : zSt} (hM : zMv l y bytes maxL ret rm (.ref (q k) :: As) sh N D cy q A S z) (hR : zRm rm R maxL) (hRc : zRc cells slots R) (hP : va_P D vwCl (zW sh N cy q S) H) (hS : va_S A H0 H locs) (hk : k < N) {fs : List (Option (Option Nat))} {T : u_T} {NN : Nat} (hs : sh k = .inr (ci, fs)) (hc : vwCl[ci]? = some (C, T, NN)) (hl : ls.size = nL) (hn : As.length = n) (hst : st0 = As.reverse ++ .ref (q k) :: rest) (hW : (rest.map fun v => v.category).sum ≤ 8) (hdg : decode cc pc = .ok (.invokevirtual index, 3))
    (kk : ∀ (H1 : Heap) (locs1 : List Loc), va_P D vwCl (zW sh N cy q z) H1 → va_S A H0 H1 locs1 → W p l e R s m args below meth c H1 locs1 cells slots Q (F0 m (pc + 3) ls rest)) : W p l e R s m args below meth c H locs cells slots Q (F0 m pc ls st0) :=
  va_callv (va_runV (zr_fix cx) hM (zr_cwV cx cv hR) (zr_preV cx hP hk hs hc) rfl hn hl hst (lv_room hW) hdg hRc) hS (fun _ _ h => h) (fun _ h => h) (fun u t H1 locs1 ht _ hw hB _ _ hS1 => by
    subst hw
    subst ht
    exact kk _ _ hB hS1)
theorem zr_SQ (cx : zX own cc nL p s m args c D cy) (cv : zCS own index y bytes maxL ret n) {z : Int32 × zSt} (hM : zMq l y bytes maxL ret rm As sh N D cy q A S z) (hR : zRm rm R maxL) (hRc : zRc cells slots R) (hP : va_P D vwCl (zW sh N cy q S) H) (hS : va_S A H0 H locs) (hl : ls.size = nL) (hn : As.length = n) (hst : st0 = As.reverse ++ rest) (hW : (rest.map fun v => v.category).sum ≤ 8) (hdg : decode cc pc = .ok (.invokestatic index, 3))
    (kk : ∀ (H1 : Heap) (locs1 : List Loc), va_P D vwCl (zW sh N cy q z.2) H1 → va_S A H0 H1 locs1 → W p l e R s m args below meth c H1 locs1 cells slots Q (F0 m (pc + 3) ls (.int z.1 :: rest))) : W p l e R s m args below meth c H locs cells slots Q (F0 m pc ls st0) :=
  va_calli (va_runS (zr_fix cx) hM (zr_cwS cx cv hR) (zr_preW cx hP) rfl hn hl hst (lv_room hW) hdg hRc) hS (fun _ _ h => h) (fun _ h => h) (fun r u t H1 locs1 ht _ hw hB _ _ hS1 => by
    subst hw
    subst ht
    exact kk _ _ hB hS1)
theorem zr_SV (cx : zX own cc nL p s m args c D cy) (cv : zCS own index y bytes maxL ret n) {z : zSt} (hM : zMv l y bytes maxL ret rm As sh N D cy q A S z) (hR : zRm rm R maxL) (hRc : zRc cells slots R) (hP : va_P D vwCl (zW sh N cy q S) H) (hS : va_S A H0 H locs) (hl : ls.size = nL) (hn : As.length = n) (hst : st0 = As.reverse ++ rest) (hW : (rest.map fun v => v.category).sum ≤ 8) (hdg : decode cc pc = .ok (.invokestatic index, 3))
    (kk : ∀ (H1 : Heap) (locs1 : List Loc), va_P D vwCl (zW sh N cy q z) H1 → va_S A H0 H1 locs1 → W p l e R s m args below meth c H1 locs1 cells slots Q (F0 m (pc + 3) ls rest)) : W p l e R s m args below meth c H locs cells slots Q (F0 m pc ls st0) :=
  va_callv (va_runS (zr_fix cx) hM (zr_cwS cx cv hR) (zr_preW cx hP) rfl hn hl hst (lv_room hW) hdg hRc) hS (fun _ _ h => h) (fun _ h => h) (fun u t H1 locs1 ht _ hw hB _ _ hS1 => by
    subst hw
    subst ht
    exact kk _ _ hB hS1)
/-- returns -/
theorem zr_ht {t : State} (ht : t.heap = H) (hP : va_P D vwCl (zW sh N cy q S) H) : va_P D vwCl (zW sh N cy q S) t.heap := by
  rw [ht]
  exact hP
theorem zr_reI (cx : zX own cc nL p s m args c D cy) (hr : meth.sig.returnType = some .int) (hlocks : meth.locks = false) {v r : Int32} (hv : v = r) (hdg : decode cc pc = .ok (.ireturn, 1)) : W p l e R s m args below meth c s.heap [] 0 0 (MQ below (vp_Si (fun x => x = r)) args s 0 0 (fun _ => False)) (F0 m pc ls [.int v]) := by
  subst hv
  exact W.iret cx.1 cx.2.1 hr (fun t ht _ => ⟨v, rfl, rfl, ht⟩) (fun _ h => by cases h) hdg hlocks
theorem zr_reZ (cx : zX own cc nL p s m args c D cy) (hr : meth.sig.returnType = some .boolean) (hlocks : meth.locks = false) {v r : Int32} (hv : v = r) (hb : zBo v = true) (hdg : decode cc pc = .ok (.ireturn, 1)) : W p l e R s m args below meth c s.heap [] 0 0 (MQ below (vp_Si (fun x => x = r)) args s 0 0 (fun _ => False)) (F0 m pc ls [.int v]) := by
  subst hv
  exact W.zret cx.1 cx.2.1 hr (zBo_n hb) (fun t ht _ => ⟨v, rfl, rfl, ht⟩) (fun _ h => by cases h) hdg hlocks
theorem zr_reJ (cx : zX own cc nL p s m args c D cy) (hr : meth.sig.returnType = some .long) (hlocks : meth.locks = false) {v r : Int64} (hv : v = r) (hdg : decode cc pc = .ok (.lreturn, 1)) : W p l e R s m args below meth c s.heap [] 0 0 (MQ below (vp_Sl (fun x => x = r)) args s 0 0 (fun _ => False)) (F0 m pc ls [.long v]) := by
  subst hv
  exact W.lret cx.1 cx.2.1 hr (fun t ht _ => ⟨v, rfl, rfl, ht⟩) (fun _ h => by cases h) hdg hlocks
theorem zr_rqI (cx : zX own cc nL p s m args c D cy) (hr : meth.sig.returnType = some .int) (hlocks : meth.locks = false) (hP : va_P D vwCl (zW sh N cy q S) H) (hS : va_S A s.heap H locs) {v : Int32} {z : Int32 × zSt} (hv : (v, S) = z) (hdg : decode cc pc = .ok (.ireturn, 1)) : W p l e R s m args below meth c H locs 0 0 (MQ below (va_Qi (fun (r : Int32) (u : zSt) => (r, u) = z) (fun u t => va_P D vwCl (zW sh N cy q u) t.heap) A) args s 0 0 A) (F0 m pc ls [.int v]) := by
  subst hv
  exact W.iret cx.1 cx.2.1 hr (fun t ht _ => ⟨⟨v, S, rfl, rfl, zr_ht ht hP⟩, hS.F ht⟩) hS.2.2 hdg hlocks
theorem zr_rqZ (cx : zX own cc nL p s m args c D cy) (hr : meth.sig.returnType = some .boolean) (hlocks : meth.locks = false) (hP : va_P D vwCl (zW sh N cy q S) H) (hS : va_S A s.heap H locs) {v : Int32} {z : Int32 × zSt} (hv : (v, S) = z) (hb : zBo v = true) (hdg : decode cc pc = .ok (.ireturn, 1)) : W p l e R s m args below meth c H locs 0 0 (MQ below (va_Qi (fun (r : Int32) (u : zSt) => (r, u) = z) (fun u t => va_P D vwCl (zW sh N cy q u) t.heap) A) args s 0 0 A) (F0 m pc ls [.int v]) := by
  subst hv
  exact W.zret cx.1 cx.2.1 hr (zBo_n hb) (fun t ht _ => ⟨⟨v, S, rfl, rfl, zr_ht ht hP⟩, hS.F ht⟩) hS.2.2 hdg hlocks
theorem zr_rqV (cx : zX own cc nL p s m args c D cy) (hr : meth.sig.returnType = none) (hlocks : meth.locks = false) (hP : va_P D vwCl (zW sh N cy q S) H) (hS : va_S A s.heap H locs) {z : zSt} (hv : S = z) (hdg : decode cc pc = .ok (.return_, 1)) : W p l e R s m args below meth c H locs 0 0 (MQ below (va_Qv (fun (u : zSt) => u = z) (fun u t => va_P D vwCl (zW sh N cy q u) t.heap) A) args s 0 0 A) (F0 m pc ls []) := by
  subst hv
  exact W.vret cx.1 cx.2.1 hr (fun t ht _ => ⟨⟨S, rfl, rfl, zr_ht ht hP⟩, hS.F ht⟩) hS.2.2 hdg hlocks
/-- the library's own -/
def zMx (own : String) (index : Nat) : Prop := Cond.methodLink own index Lib.Math.max.name ∈ zTB ∧ Cond.static Lib.Math.max.name ∈ zTB ∧ Cond.initialized "java/lang/Math" ∈ zTB ∧ Cond.code Lib.Math.max.name Lib.Math.max.code 2 (some .int) ∈ zTB
def zMn (own : String) (index : Nat) : Prop := Cond.methodLink own index Lib.Math.min.name ∈ zTB ∧ Cond.static Lib.Math.min.name ∈ zTB ∧ Cond.initialized "java/lang/Math" ∈ zTB ∧ Cond.code Lib.Math.min.name Lib.Math.min.code 2 (some .int) ∈ zTB
def zMa (own : String) (index : Nat) : Prop := Cond.methodLink own index Lib.Math.abs.name ∈ zTB ∧ Cond.static Lib.Math.abs.name ∈ zTB ∧ Cond.initialized "java/lang/Math" ∈ zTB ∧ Cond.code Lib.Math.abs.name Lib.Math.abs.code 1 (some .int) ∈ zTB
def zCp (own : String) (index : Nat) : Prop := Cond.methodLink own index arraycopyName ∈ zTB ∧ Cond.native arraycopyName ∈ zTB ∧ Cond.static arraycopyName ∈ zTB ∧ Cond.initialized "java/lang/System" ∈ zTB
def zRn (cells slots : Nat) (R : Room) (rest : List Value) : Prop := 1 ≤ R.frames ∧ (rest.map fun v => v.category).sum + 13 ≤ R.locals ∧ cells ≤ R.cells ∧ slots ≤ R.slots
theorem zr_max (cx : zX own cc nL p s m args c D cy) (w : zMx own index) (hR : zRn cells slots R rest) (hl : ls.size = nL) {x y : Int32} (hdg : decode cc pc = .ok (.invokestatic index, 3))
    (kk : W p l e R s m args below meth c H locs cells slots Q (F0 m (pc + 3) ls (.int (if x < y then y else x) :: rest))) : W p l e R s m args below meth c H locs cells slots Q (F0 m pc ls (.int y :: .int x :: rest)) := by
  obtain ⟨hx, hb, h3, hown, hts, hK, hKn⟩ := cx
  exact va_mmax hx hb (h3.trans hl.symm) hown (hts _ w.1) (hts _ w.2.1) (hts _ w.2.2.1) (hts _ w.2.2.2) hR.1 hR.2.1 hR.2.2.1 hR.2.2.2 hdg kk
theorem zr_min (cx : zX own cc nL p s m args c D cy) (w : zMn own index) (hR : zRn cells slots R rest) (hl : ls.size = nL) {x y : Int32} (hdg : decode cc pc = .ok (.invokestatic index, 3))
    (kk : W p l e R s m args below meth c H locs cells slots Q (F0 m (pc + 3) ls (.int (if y < x then y else x) :: rest))) : W p l e R s m args below meth c H locs cells slots Q (F0 m pc ls (.int y :: .int x :: rest)) := by
  obtain ⟨hx, hb, h3, hown, hts, hK, hKn⟩ := cx
  exact va_mmin hx hb (h3.trans hl.symm) hown (hts _ w.1) (hts _ w.2.1) (hts _ w.2.2.1) (hts _ w.2.2.2) hR.1 hR.2.1 hR.2.2.1 hR.2.2.2 hdg kk
theorem zr_abs (cx : zX own cc nL p s m args c D cy) (w : zMa own index) (hR : zRn cells slots R rest) (hl : ls.size = nL) {x : Int32} (hdg : decode cc pc = .ok (.invokestatic index, 3))
    (kk : W p l e R s m args below meth c H locs cells slots Q (F0 m (pc + 3) ls (.int (if 0 ≤ x then x else 0 - x) :: rest))) : W p l e R s m args below meth c H locs cells slots Q (F0 m pc ls (.int x :: rest)) := by
  obtain ⟨hx, hb, h3, hown, hts, hK, hKn⟩ := cx
  exact va_mabs hx hb (h3.trans hl.symm) hown (hts _ w.1) (hts _ w.2.1) (hts _ w.2.2.1) (hts _ w.2.2.2) hR.1 hR.2.1 hR.2.2.1 hR.2.2.2 hdg kk
theorem zCi_ne {S : zSt} {k k2 sp dp n a : Nat} (h : a ≠ k2) : (zCi S k k2 sp dp n).1 a = S.1 a := by
  funext b
  simp [zCi, h]
theorem zCi_eq {S : zSt} {k k2 sp dp n : Nat} : (zCi S k k2 sp dp n).1 k2 = va_cpy (S.1 k) (S.1 k2) sp dp n := by
  funext b
  simp [zCi]
theorem zCj_ne {S : zSt} {k k2 sp dp n a : Nat} (h : a ≠ k2) : (zCj S k k2 sp dp n).2 a = S.2 a := by
  funext b
  simp [zCj, h]
theorem zCj_eq {S : zSt} {k k2 sp dp n : Nat} : (zCj S k k2 sp dp n).2 k2 = va_cpy (S.2 k) (S.2 k2) sp dp n := by
  funext b
  simp [zCj]
def zRa (R : Room) (rest : List Value) : Prop := 1 ≤ R.frames ∧ (rest.map fun v => v.category).sum + (nativeFrameWords "java/lang/System" "arraycopy" 5 + 11) ≤ R.locals
theorem zr_cpI (cx : zX own cc nL p s m args c D cy) (w : zCp own index) (hR : zRa R rest) (hq : zQ A q N) (hP : va_P D vwCl (zW sh N cy q S) H) (hS : va_S A H0 H locs) {k k2 n0 n1 : Nat} {r0 r1 : Nat → Option Nat} (hk : k < N) (hs : sh k = .inl (0, n0, r0)) (hk2 : k2 < N) (hs2 : sh k2 = .inl (0, n1, r1)) {sp dp nn : Int32} (hc : zCk sp dp nn n0 n1 = true) (hl : ls.size = nL) (hdg : decode cc pc = .ok (.invokestatic index, 3))
    (kk : ∀ (H1 : Heap) (locs1 : List Loc), va_P D vwCl (zW sh N cy q (zCi S k k2 sp.toNatClampNeg dp.toNatClampNeg nn.toNatClampNeg)) H1 → va_S A H0 H1 locs1 → W p l e R s m args below meth c H1 locs1 cells slots Q (F0 m (pc + 3) ls rest)) : W p l e R s m args below meth c H locs cells slots Q (F0 m pc ls (.int nn :: .int dp :: .ref (q k2) :: .int sp :: .ref (q k) :: rest)) := by
  obtain ⟨hx, hb, h3, hown, hts, hK, hKn⟩ := cx
  obtain ⟨c1, c2, c3, c4, c5⟩ := zCk_e hc
  refine va_copyi hx hb (h3.trans hl.symm) hown (hts _ w.1) (hts _ w.2.1) (hts _ w.2.2.1) (hts _ w.2.2.2) hK hP hq.D hS k k2 0 0 (zW_at hk hs) (zW_at hk2 hs2) rfl rfl rfl c1 c2 c3 c4 c5 (fun _ _ => rfl) hR.1 hR.2 hdg (fun H1 locs1 hP1 _ hS1 => kk H1 locs1 ?_ hS1)
  have e : (zW sh N cy q S).set k2 (q k2, .inl (cy 0, n1, .inl (va_cpy (S.1 k) (S.1 k2) sp.toNatClampNeg dp.toNatClampNeg nn.toNatClampNeg))) = zW sh N cy q (zCi S k k2 sp.toNatClampNeg dp.toNatClampNeg nn.toNatClampNeg) := zW_set hk2 hs2 (by rw [← zCi_eq]; rfl) (fun j hj => zCell_cong (zCi_ne hj) rfl)
  rw [← e]
  exact hP1
theorem zr_cpJ (cx : zX own cc nL p s m args c D cy) (w : zCp own index) (hR : zRa R rest) (hq : zQ A q N) (hP : va_P D vwCl (zW sh N cy q S) H) (hS : va_S A H0 H locs) {k k2 n0 n1 : Nat} {r0 r1 : Nat → Option Nat} (hk : k < N) (hs : sh k = .inl (1, n0, r0)) (hk2 : k2 < N) (hs2 : sh k2 = .inl (1, n1, r1)) {sp dp nn : Int32} (hc : zCk sp dp nn n0 n1 = true) (hl : ls.size = nL) (hdg : decode cc pc = .ok (.invokestatic index, 3))
    (kk : ∀ (H1 : Heap) (locs1 : List Loc), va_P D vwCl (zW sh N cy q (zCj S k k2 sp.toNatClampNeg dp.toNatClampNeg nn.toNatClampNeg)) H1 → va_S A H0 H1 locs1 → W p l e R s m args below meth c H1 locs1 cells slots Q (F0 m (pc + 3) ls rest)) : W p l e R s m args below meth c H locs cells slots Q (F0 m pc ls (.int nn :: .int dp :: .ref (q k2) :: .int sp :: .ref (q k) :: rest)) := by
  obtain ⟨hx, hb, h3, hown, hts, hK, hKn⟩ := cx
  obtain ⟨c1, c2, c3, c4, c5⟩ := zCk_e hc
  refine va_copyl hx hb (h3.trans hl.symm) hown (hts _ w.1) (hts _ w.2.1) (hts _ w.2.2.1) (hts _ w.2.2.2) hK hP hq.D hS k k2 1 1 (zW_at hk hs) (zW_at hk2 hs2) rfl rfl rfl c1 c2 c3 c4 c5 (fun _ _ => rfl) hR.1 hR.2 hdg (fun H1 locs1 hP1 _ hS1 => kk H1 locs1 ?_ hS1)
  have e : (zW sh N cy q S).set k2 (q k2, .inl (cy 1, n1, .inr (.inl (va_cpy (S.2 k) (S.2 k2) sp.toNatClampNeg dp.toNatClampNeg nn.toNatClampNeg)))) = zW sh N cy q (zCj S k k2 sp.toNatClampNeg dp.toNatClampNeg nn.toNatClampNeg) := zW_set hk2 hs2 (by rw [← zCj_eq]; rfl) (fun j hj => zCell_cong rfl (zCj_ne hj))
  rw [← e]
  exact hP1
end ZC
