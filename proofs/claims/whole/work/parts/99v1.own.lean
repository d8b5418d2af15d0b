/-! rows of my own where the last shelf's were named -/
theorem zw_ovS {t : FieldType} {args : Array Value} {s : State} (h : (Cond.arrayOver (.array t)).before args s = true) : ∃ comp c k, s.vm.findClass (FieldType.array t).toString = some comp ∧ (s.vm.classes.findIdx? fun (x : Class) => match x.kind with | .array component _ => component == comp | _ => false) = some c ∧ s.vm.classes[c]? = some k ∧ k.kind = .array comp (.array t) ∧ s.vm.findClass ("[" ++ (FieldType.array t).toString) = some c := by
  simp only [Cond.before, Cond.holds, Cond.value, beq_iff_eq, Option.bind_eq_some_iff, Option.map_eq_some_iff] at h
  obtain ⟨comp, h1, c, h2, k, h3, h4⟩ := h
  have hi := Array.findIdx?_eq_some_iff_getElem.mp h2
  obtain ⟨hlt, hp, -⟩ := hi
  have hk : s.vm.classes[c] = k := Option.some.inj ((Array.getElem?_eq_getElem hlt).symm.trans h3)
  rw [hk] at hp
  cases e : k.kind with
  | array cm ty =>
    rw [e] at h4 hp
    simp only [Bool.and_eq_true, decide_eq_true_eq, beq_iff_eq] at h4 hp
    subst hp
    exact ⟨cm, c, k, h1, h2, h3, by rw [e, h4.1], h4.2⟩
  | _ => rw [e] at hp; simp at hp
theorem zw_ovA {t : FieldType} {args : Array Value} {s U : State} (hal : s.vm.Alike U.vm) (h : (Cond.arrayOver (.array t)).before args s = true) : (Cond.arrayOver (.array t)).before #[] U = true := by
  obtain ⟨comp, c, k, h1, h2, h3, h4, h5⟩ := zw_ovS h
  obtain ⟨k', hk', he⟩ := hal.2.2 _ _ h3
  have hi : (U.vm.classes.findIdx? fun (x : Class) => match x.kind with | .array component _ => component == comp | _ => false) = some c := by
    have a := va_idx_bare U.vm comp
    have b := va_idx_bare s.vm comp
    have e : U.vm.bare = s.vm.bare := by first | exact hal.bare_eq | exact hal.bare_eq.symm
    rw [e] at a
    exact (a.symm.trans b).trans h2
  have hkind : k'.kind = .array comp (.array t) := by rw [he]; exact h4
  have f1 : U.vm.findClass (FieldType.array t).toString = some comp := by rw [hal.findClass]; exact h1
  have f2 : U.vm.findClass ("[" ++ (FieldType.array t).toString) = some c := by rw [hal.findClass]; exact h5
  simp only [Cond.before, Cond.holds, Cond.value, beq_iff_eq, Option.bind_eq_some_iff, Option.map_eq_some_iff]
  exact ⟨comp, f1, c, hi, k', hk', by rw [hkind]; simp [f2]⟩
/-! an array of six rows of twelve: the cells as the machine makes them -/
def zwF (s : State) (o inn : Cell) : Nat → State
  | 0 => s.pushCell o
  | i + 1 => (zwF s o inn i).pushCell inn
theorem zwF_size (s : State) (o inn : Cell) : ∀ i, (zwF s o inn i).heap.size = s.heap.size + 1 + i
  | 0 => by simp [zwF]
  | i + 1 => by
    have h := zwF_size s o inn i
    show ((zwF s o inn i).pushCell inn).heap.size = _
    rw [State.heap_size_pushCell, h]
    omega
theorem zwF_used (s : State) (o inn : Cell) : ∀ i, (zwF s o inn i).slotsUsed = s.slotsUsed + o.slots.size + i * inn.slots.size
  | 0 => by simp [zwF]
  | i + 1 => by
    have h := zwF_used s o inn i
    simp only [zwF, State.slotsUsed_pushCell, h, Nat.succ_mul]
    omega
theorem zwF_vm (s : State) (o inn : Cell) : ∀ i, (zwF s o inn i).vm = s.vm
  | 0 => rfl
  | i + 1 => zwF_vm s o inn i
theorem zwF_at (s : State) (o inn : Cell) : ∀ i, (zwF s o inn i).heap[s.heap.size]? = some o
  | 0 => State.heap_pushCell_size _ _
  | i + 1 => by
    have h := zwF_size s o inn i
    show ((zwF s o inn i).pushCell inn).heap[s.heap.size]? = some o
    rw [State.heap_pushCell_of_lt _ _ (show s.heap.size < (zwF s o inn i).heap.size by rw [h]; omega)]
    exact zwF_at s o inn i
theorem zwF_old (s : State) (o inn : Cell) {a : Nat} (ha : a < s.heap.size) : ∀ i, (zwF s o inn i).heap[a]? = s.heap[a]?
  | 0 => State.heap_pushCell_of_lt _ _ ha
  | i + 1 => by
    have h := zwF_size s o inn i
    show ((zwF s o inn i).pushCell inn).heap[a]? = _
    rw [State.heap_pushCell_of_lt _ _ (show a < (zwF s o inn i).heap.size by rw [h]; omega)]
    exact zwF_old s o inn ha i
theorem zwF_in (s : State) (o inn : Cell) : ∀ i j, j < i → (zwF s o inn i).heap[s.heap.size + 1 + j]? = some inn
  | 0, j, h => absurd h (Nat.not_lt_zero j)
  | i + 1, j, hj => by
    have h := zwF_size s o inn i
    show ((zwF s o inn i).pushCell inn).heap[s.heap.size + 1 + j]? = _
    by_cases e : j = i
    · subst e
      rw [← h]
      exact State.heap_pushCell_size _ _
    · rw [State.heap_pushCell_of_lt _ _ (show s.heap.size + 1 + j < (zwF s o inn i).heap.size by rw [h]; omega)]
      exact zwF_in s o inn i j (by omega)
theorem zw_swap (s : State) (x y : Cell) {a : Nat} (ha : a < s.heap.size) : (s.pushCell x).setCell a y = (s.setCell a y).pushCell x := by
  have e : (s.heap.push x).setIfInBounds a y = (s.heap.setIfInBounds a y).push x := by
    apply Array.ext_getElem?
    intro i
    by_cases h1 : i = a
    · subst h1
      rw [Array.getElem?_setIfInBounds_self_of_lt (by simp; omega), Array.getElem?_push_lt (by simpa using ha)]
      simp [ha]
    · rw [Array.getElem?_setIfInBounds_ne (Ne.symm h1), Array.getElem?_push, Array.getElem?_push, Array.size_setIfInBounds, Array.getElem?_setIfInBounds_ne (Ne.symm h1)]
  show ({ s.pushCell x with heap := (s.heap.push x).setIfInBounds a y } : State) = _
  rw [e]
  rfl
theorem zwF_set (s : State) (o o2 inn : Cell) (hs : o2.slots.size = o.slots.size) : ∀ i, (zwF s o inn i).setCell s.heap.size o2 = zwF s o2 inn i
  | 0 => State.pushCell_setCell_last s o o2 hs
  | i + 1 => by
    have h := zwF_size s o inn i
    show ((zwF s o inn i).pushCell inn).setCell s.heap.size o2 = _
    rw [zw_swap _ _ _ (show s.heap.size < (zwF s o inn i).heap.size by rw [h]; omega), zwF_set s o o2 inn hs i]
    rfl
theorem zwF_top (s : State) (f : JFrame) (o inn : Cell) : ∀ i, zwF (s.setTop f) o inn i = (zwF s o inn i).setTop f
  | 0 => rfl
  | i + 1 => by
    show (zwF (s.setTop f) o inn i).pushCell inn = _
    rw [zwF_top s f o inn i]
    rfl
section ZwF
variable {p : Program} {l : Launch} {e : Env} {R : Room} {s : State} {m : MethodId} {args : Array Value} {below : List Frame} {meth : Method} {c : Code} {T : State} {locs : List Loc} {cells slots : Nat}
theorem zwF_stand (X : Stand p l e R s m args below meth c T locs cells slots) (o inn : Cell) : ∀ i, Stand p l e R s m args below meth c (zwF T o inn i) locs (cells + 1 + i) (slots + o.slots.size + i * inn.slots.size)
  | 0 => by
    have h := X.pushed o
    rw [Nat.zero_mul, Nat.add_zero, Nat.add_zero]
    exact h
  | i + 1 => by
    have h := (zwF_stand X o inn i).pushed inn
    rw [Nat.succ_mul, ← Nat.add_assoc, ← Nat.add_assoc]
    exact h
end ZwF
def zwO (cA : ClassId) (h i : Nat) : Cell := arrV cA 6 (fun j => if j < i then .ref (h + 1 + j) else .null)
def zwI (comp : ClassId) : Cell := arrV comp 12 (fun _ => .int 0)
theorem zwO_next (cA : ClassId) (h i : Nat) : (zwO cA h i).setSlot i (.ref (h + 1 + i)) = zwO cA h (i + 1) := by
  unfold zwO
  rw [arrV_store]
  congr 1
  funext j
  simp only [updV]
  by_cases e : j = i
  · subst e
    rw [if_pos rfl, if_pos (Nat.lt_succ_self j)]
  · rw [if_neg e]
    by_cases g : j < i
    · rw [if_pos g, if_pos (by omega)]
    · rw [if_neg g, if_neg (by omega)]
section ZwM
variable {E : CtlPost} {e : Env} {d : Bool} {acts : List Action} {s : State} {cA comp cc : ClassId} {kA kC : Class}
theorem zw_make1 (hkC : s.vm.classes[comp]? = some kC) (hkindC : kC.kind = .array cc .int) (hl : 12 ≤ e.platform.arrayLengthLimit) (hh : 48 ≤ e.platform.maxHeapBytes) (hc : s.heap.size < e.platform.maxCells) (hs : s.slotsUsed + 12 ≤ e.platform.maxSlots) {Q : Addr → Pre} (hq : ∀ acts', Q s.heap.size d acts' (s.pushCell (zwI comp))) : wp (multianewarray.make comp [12]) Q E e d acts s := by
  rw [multianewarray.make]
  have h0 : ¬ (12 : Int32) < 0 := by decide
  have h12 : (12 : Int32).toNatClampNeg = 12 := by decide
  simp only [wp_bind', W.ite, h0, if_false, wp_pure', W.theClass, hkC, hkindC, Option.some.injEq, exists_eq_left', h12]
  refine W.newArray_of hkC hkindC (Nat.not_lt.mpr hl) (Nat.not_lt.mpr hh) hc hs rfl (fun acts' => ?_)
  have e1 : ({ cls := comp, slots := Array.replicate 12 (defaultValue .int) } : Cell) = zwI comp := arrV_new comp 12 (.int 0)
  rw [e1]
  exact hq acts'
theorem zw_make2 (hkA : s.vm.classes[cA]? = some kA) (hkindA : kA.kind = .array comp (.array .int)) (hkC : s.vm.classes[comp]? = some kC) (hkindC : kC.kind = .array cc .int) (hl : 12 ≤ e.platform.arrayLengthLimit) (hh : 48 ≤ e.platform.maxHeapBytes) (hc : s.heap.size + 7 ≤ e.platform.maxCells) (hs : s.slotsUsed + 78 ≤ e.platform.maxSlots) {Q : Addr → Pre} (hq : ∀ d' acts', Q s.heap.size d' acts' (zwF s (zwO cA s.heap.size 6) (zwI comp) 6)) : wp (multianewarray.make cA [6, 12]) Q E e d acts s := by
  rw [multianewarray.make]
  have h0 : ¬ (6 : Int32) < 0 := by decide
  have h6 : (6 : Int32).toNatClampNeg = 6 := by decide
  have h12 : (12 : Int32).toNatClampNeg = 12 := by decide
  simp only [wp_bind', W.ite, h0, if_false, wp_pure', W.theClass, hkA, hkindA, Option.some.injEq, exists_eq_left', h6]
  refine W.newArray_of hkA hkindA (Nat.not_lt.mpr (by omega)) (Nat.not_lt.mpr (by show 6 * 4 ≤ _; omega)) (by omega) (by omega) rfl (fun acts1 => ?_)
  have e1 : ({ cls := cA, slots := Array.replicate 6 .null } : Cell) = zwO cA s.heap.size 0 := arrV_new cA 6 .null
  rw [e1]
  have n60 : ((6 : Int32) == 0) = false := by decide
  simp only [n60, Bool.false_eq_true, if_false, wp_pure']
  rw [wp_bind', Std.Legacy.Range.forIn_eq_forIn_range']
  show wp (forIn (List.range' 0 6 1) PUnit.unit _) _ E e d acts1 _
  refine wp_forIn_inv (fun rest t => ∃ i, i ≤ 6 ∧ rest = List.range' i (6 - i) ∧ t = zwF s (zwO cA s.heap.size i) (zwI comp) i) _ _ ⟨0, Nat.zero_le _, rfl, rfl⟩ ?_ ?_
  · rintro x rest t d1 a1 Q1 ⟨i, hi, hr, rfl⟩ hn
    have hi6 : i < 6 := by
      by_cases g : i < 6
      · exact g
      · rw [show 6 - i = 0 by omega] at hr
        cases hr
    rw [show 6 - i = (6 - (i + 1)) + 1 by omega, List.range'_succ] at hr
    obtain ⟨rfl, rfl⟩ := List.cons.inj hr
    have hz := zwF_size s (zwO cA s.heap.size x) (zwI comp) x
    have hu := zwF_used s (zwO cA s.heap.size x) (zwI comp) x
    have hv := zwF_vm s (zwO cA s.heap.size x) (zwI comp) x
    have z6 : (zwO cA s.heap.size x).slots.size = 6 := arrV_size ..
    have z12 : (zwI comp).slots.size = 12 := arrV_size ..
    rw [z6, z12] at hu
    rw [wp_bind']
    refine zw_make1 (kC := kC) (cc := cc) (by rw [hv]; exact hkC) hkindC hl hh (by rw [hz]; omega) (by rw [hu]; omega) (fun a2 => ?_)
    rw [wp_bind', W.writeLoc]
    have hat := zwF_at s (zwO cA s.heap.size x) (zwI comp) (x + 1)
    refine ⟨zwO cA s.heap.size x, hat, (by intro h; cases h), (by rw [z6]; exact hi6), ?_, ?_⟩
    · show (zwF s (zwO cA s.heap.size x) (zwI comp) (x + 1)).fitsSlot cA .none x _ = true
      have hv1 := zwF_vm s (zwO cA s.heap.size x) (zwI comp) (x + 1)
      simp [State.fitsSlot, State.slotType?, hv1, hkA, hkindA, fits]
    · rw [wp_pure', hz, zwO_next]
      refine hn _ _ _ ⟨x + 1, hi6, rfl, ?_⟩
      exact zwF_set s (zwO cA s.heap.size x) (zwO cA s.heap.size (x + 1)) (zwI comp) (by rw [z6]; exact arrV_size ..) (x + 1)
  · rintro t d1 a1 ⟨i, hi, hr, rfl⟩
    have h6 : i = 6 := by
      by_cases g : i < 6
      · rw [show 6 - i = (6 - (i + 1)) + 1 by omega, List.range'_succ] at hr
        cases hr
      · omega
    subst h6
    rw [wp_pure']
    exact hq d1 a1
end ZwM
section ZwS
variable {p : Program} {l : Launch} {e : Env} {R : Room} {s : State} {m : MethodId} {args : Array Value} {below : List Frame} {meth : Method} {c : Code} {T : State} {locs : List Loc} {cells slots : Nat}
/-- six rows of twelve ints, in one instruction -/
theorem zw_multi (X : Stand p l e R s m args below meth c T locs cells slots) (hx : p.tables.exec = Jvm.exec) {own : String} {index : Nat} (hown : s.vm.findClass own = some m.cls) (hcl : (Cond.classLink own index "[[I").before args s = true) (hov : (Cond.arrayOver (.array .int)).before #[] s = true) (har : (Cond.arrayClass .int).before args s = true) {g : JFrame} (hg : g.method = m) (hdg : decode c.code g.pc = .ok (.multianewarray index 2, 4)) {rest : List Value} (hst : g.stack = .int 12 :: .int 6 :: rest) (hc : cells + 7 ≤ R.cells) (hs : slots + 78 ≤ R.slots) :
    ∃ (vm₁ : Vm) (cA comp : ClassId), s.vm.findClass "[[I" = some cA ∧ s.vm.findClass "[I" = some comp ∧ Stand p l e R s m args below meth c (zwF (T.setVm vm₁) (zwO cA T.heap.size 6) (zwI comp) 6) locs (cells + 7) (slots + 78) ∧
      ∀ target, Steps p.tables e below ((zwF (T.setVm vm₁) (zwO cA T.heap.size 6) (zwI comp) 6).setTop { g with pc := g.pc + 4, stack := .ref T.heap.size :: rest }) target → Steps p.tables e below (T.setTop g) target := by
  subst hg
  obtain ⟨comp, cA, kA, hf, -, hkA, hkindA, hn⟩ := zw_ovS hov
  obtain ⟨comp2, kC, cc, hf2, hkC, hkindC⟩ := Cond.arrayClass_spec har
  have e0 : comp2 = comp := Option.some.inj (hf2.symm.trans hf)
  subst e0
  obtain ⟨c0, hf0, hlk⟩ := Cond.classLink_spec hown hcl e.platform (by rw [X.admits.platform])
  cases hn.symm.trans hf0
  obtain ⟨hg1, hw1, -⟩ := State.classEntry (e := e) X.warmed hlk
  generalize T.vm.noted g.method.cls index (.cls cA) = vm₁ at hg1 hw1
  obtain ⟨kA1, hkA1, heA⟩ := hw1.alike.2.2 _ _ hkA
  obtain ⟨kC1, hkC1, heC⟩ := hw1.alike.2.2 _ _ hkC
  obtain ⟨r1, r2⟩ := X.roomAbove hc hs
  have z6 : (zwO cA T.heap.size 6).slots.size = 6 := arrV_size ..
  have z12 : (zwI comp2).slots.size = 12 := arrV_size ..
  have X1 := zwF_stand (X.noted hw1) (zwO cA T.heap.size 6) (zwI comp2) 6
  rw [z6, z12] at X1
  refine ⟨vm₁, cA, comp2, hn, hf, X1, fun target hrest => ?_⟩
  jvm_step X.here [hx, hdg]
  simp only [multianewarray.sem, wp_bind', W.resolveClassAt_links (State.method?_setTop g X.here.top) hg1]
  rw [W.popN, if_neg (by decide)]
  refine ⟨g, State.topJava?_setTop' (s := T.setVm vm₁) g X.here.top, [.int 6, .int 12], rest, rfl, hst, ?_⟩
  simp only [List.mapM_cons, List.mapM_nil, wp_bind', wp_pure']
  have e1 : ((T.setTop g).setVm vm₁).setTop { g with stack := rest } = (T.setVm vm₁).setTop { g with stack := rest } := by
    show ((T.setVm vm₁).setTop g).setTop _ = _
    rw [State.setTop_setTop]
  rw [e1]
  refine zw_make2 (s := (T.setVm vm₁).setTop { g with stack := rest }) (kA := kA1) (kC := kC1) (cc := cc) hkA1 (by rw [heA]; exact hkindA) hkC1 (by rw [heC]; exact hkindC) (by rw [Launch.admits_arrayLengthLimit X.admits]; decide) (by rw [Launch.admits_maxHeapBytes X.admits]; decide) r1 r2 (fun d1 a1 => ?_)
  rw [zwF_top]
  have X2 : Stand p l e R s g.method args below meth c (zwF (T.setVm vm₁) (zwO cA (T.setVm vm₁).heap.size 6) (zwI comp2) 6) locs (cells + 7) (slots + 78) := X1
  simp only [W.mark, wp_bind', W.pushRef, State.heap_setTop, State.topJava?_setTop' _ X2.here.top, Option.some.injEq, exists_eq_left', State.setTop_setTop, State.heap_setTop]
  intro acts
  simp [jvm, X2.here.top]
  exact hrest
end ZwS
