def zNL : List Cond := [(Jvm.Cond.methodLinkNest "ParlourLeaves" (18 : Nat) ({ cls := "ParlourLeaves$House", name := "<init>", desc := "()V" } : Jvm.MethodName) "ParlourLeaves"), (Jvm.Cond.methodLinkNest "ParlourLeaves" (48 : Nat) ({ cls := "ParlourLeaves$Image", name := "<init>", desc := "()V" } : Jvm.MethodName) "ParlourLeaves"), (Jvm.Cond.methodLinkNest "ParlourLeaves$Image" (9 : Nat) ({ cls := "ParlourLeaves$House", name := "<init>", desc := "()V" } : Jvm.MethodName) "ParlourLeaves"), (Jvm.Cond.methodLinkNest "ParlourLeaves$Image" (27 : Nat) ({ cls := "ParlourLeaves$Sentence", name := "<init>", desc := "()V" } : Jvm.MethodName) "ParlourLeaves"), (Jvm.Cond.methodLinkNest "ParlourLeaves$HouseText" (11 : Nat) ({ cls := "ParlourLeaves$House", name := "<init>", desc := "()V" } : Jvm.MethodName) "ParlourLeaves"), (Jvm.Cond.methodLinkNest "ParlourLeaves" (69 : Nat) ({ cls := "ParlourLeaves$Sentence", name := "<init>", desc := "()V" } : Jvm.MethodName) "ParlourLeaves"), (Jvm.Cond.methodLinkNest "ParlourLeaves" (88 : Nat) ({ cls := "ParlourLeaves$Way", name := "<init>", desc := "()V" } : Jvm.MethodName) "ParlourLeaves"), (Jvm.Cond.methodLinkNest "ParlourLeaves" (95 : Nat) ({ cls := "ParlourLeaves$Draws", name := "<init>", desc := "()V" } : Jvm.MethodName) "ParlourLeaves"), (Jvm.Cond.fieldLinkNest "ParlourLeaves$House" (56 : Nat) "ParlourLeaves" "MOST_OF_SORT" "[I" "ParlourLeaves"), (Jvm.Cond.methodLinkNest "ParlourLeaves$HouseText" (113 : Nat) ({ cls := "ParlourLeaves", name := "hasBit", desc := "(II)Z" } : Jvm.MethodName) "ParlourLeaves"), (Jvm.Cond.methodLinkNest "ParlourLeaves$Life" (120 : Nat) ({ cls := "ParlourLeaves", name := "allBits", desc := "(I)I" } : Jvm.MethodName) "ParlourLeaves"), (Jvm.Cond.methodLinkNest "ParlourLeaves$Life" (93 : Nat) ({ cls := "ParlourLeaves", name := "hasBit", desc := "(II)Z" } : Jvm.MethodName) "ParlourLeaves"), (Jvm.Cond.methodLinkNest "ParlourLeaves$Foresight" (67 : Nat) ({ cls := "ParlourLeaves", name := "allBits", desc := "(I)I" } : Jvm.MethodName) "ParlourLeaves"), (Jvm.Cond.methodLinkNest "ParlourLeaves$Foresight" (70 : Nat) ({ cls := "ParlourLeaves", name := "hasBit", desc := "(II)Z" } : Jvm.MethodName) "ParlourLeaves"), (Jvm.Cond.methodLinkNest "ParlourLeaves$Way" (45 : Nat) ({ cls := "ParlourLeaves", name := "hasBit", desc := "(II)Z" } : Jvm.MethodName) "ParlourLeaves"), (Jvm.Cond.methodLinkNest "ParlourLeaves$Sentence" (93 : Nat) ({ cls := "ParlourLeaves", name := "allBits", desc := "(I)I" } : Jvm.MethodName) "ParlourLeaves"), (Jvm.Cond.methodLinkNest "ParlourLeaves$Sentence" (123 : Nat) ({ cls := "ParlourLeaves", name := "hasBit", desc := "(II)Z" } : Jvm.MethodName) "ParlourLeaves")]
def zKN (U : State) : Prop := ∀ w ∈ zNL, va_Nw w U
theorem zKN_warm {s U : State} (hW : s.WarmedH U.vm) (h : zKN s) : zKN U := by
  intro w hw
  have h1 := h w hw
  simp only [zNL, List.mem_cons, List.not_mem_nil, or_false] at hw
  rcases hw with rfl | rfl | rfl | rfl | rfl | rfl | rfl | rfl | rfl | rfl | rfl | rfl | rfl | rfl | rfl | rfl | rfl <;> first | exact va_Nw.warmM hW h1 | exact va_Nw.warmF hW h1
theorem zKN_same {s U : State} (hv : s.vm = U.vm) (h : zKN s) : zKN U := by
  intro w hw
  have h1 := h w hw
  simp only [zNL, List.mem_cons, List.not_mem_nil, or_false] at hw
  rcases hw with rfl | rfl | rfl | rfl | rfl | rfl | rfl | rfl | rfl | rfl | rfl | rfl | rfl | rfl | rfl | rfl | rfl <;> exact va_Nw.same rfl hv h1
def zX (own : String) (cc : ByteArray) (nL : Nat) (p : Program) (s : State) (m : MethodId) (args : Array Value) (c : Code) (D : va_G) (cy : Nat → ClassId) : Prop :=
  p.tables.exec = Jvm.exec ∧ c.code = cc ∧ c.maxLocals = nL ∧ s.vm.findClass own = some m.cls ∧ (∀ w ∈ zTB, w.before args s = true) ∧ va_K D vwCl (zTy cy) s ∧ zKN s
def zLk (own : String) (index ci j : Nat) : Prop := ∃ (ref C : String) (T : u_T) (NN : Nat), vwCl[ci]? = some (C, T, NN) ∧ j < NN ∧ (∀ w ∈ u_ws C T NN, w ∈ zTB) ∧ Cond.fieldLink own index ref (T j).2.1 (T j).2.2.1 ∈ zTB ∧ (T j).1 = ref
def zLq (own : String) (index ci j : Nat) (ty : FieldType) : Prop := ∃ (ref C : String) (T : u_T) (NN : Nat) (ty0 : Nat → FieldType), vwCl[ci]? = some (C, T, NN) ∧ j < NN ∧ (∀ w ∈ u_ws C T NN, w ∈ zTB) ∧ Cond.fieldLink own index ref (T j).2.1 (T j).2.2.1 ∈ zTB ∧ (T j).1 = ref ∧ (T j).2.2.2 = false ∧ parseFieldDescriptor (T j).2.2.1 = some ty ∧ (∀ k, k < NN → parseFieldDescriptor (T k).2.2.1 = some (ty0 k)) ∧ (∀ a, a < NN → ∀ b, b < NN → a ≠ b → (T a).2.1 ≠ (T b).2.1)
section ZR
variable {p : Program} {l : Launch} {e : Env} {R : Room} {s : State} {m : MethodId} {args : Array Value} {below : List Frame} {meth : Method} {c : Code} {H H0 : Heap} {locs : List Loc} {cells slots : Nat} {Q : State → Prop}
variable {own : String} {cc : ByteArray} {nL pc : Nat} {ls : Array Slot} {rest : List Value} {D : va_G} {cy : Nat → ClassId} {A : Nat → Prop} {sh : Nat → zSp} {N : Nat} {q : Nat → Nat} {S : zSt}
theorem zr_nmI {x v : Int32} (h : v = x) (k : W p l e R s m args below meth c H locs cells slots Q (F0 m pc ls (.int v :: rest))) : W p l e R s m args below meth c H locs cells slots Q (F0 m pc ls (.int x :: rest)) := by
  subst h
  exact k
theorem zr_nmJ {x v : Int64} (h : v = x) (k : W p l e R s m args below meth c H locs cells slots Q (F0 m pc ls (.long v :: rest))) : W p l e R s m args below meth c H locs cells slots Q (F0 m pc ls (.long x :: rest)) := by
  subst h
  exact k
theorem zr_get (cx : zX own cc nL p s m args c D cy) {index ci k j : Nat} (lk : zLk own index ci j) (hP : va_P D vwCl (zW sh N cy q S) H) (hk : k < N) {fs : List (Option (Option Nat))} {f : Option (Option Nat)} (hs : sh k = .inr (ci, fs)) (hf : fs[j]? = some f) (hdg : decode cc pc = .ok (.getfield index, 3))
    (kk : W p l e R s m args below meth c H locs cells slots Q (F0 m (pc + 3) ls (zFv q S k j f :: rest))) : W p l e R s m args below meth c H locs cells slots Q (F0 m pc ls (.ref (q k) :: rest)) := by
  obtain ⟨hx, hb, -, hown, hts, hK, -⟩ := cx
  obtain ⟨ref, C, T, NN, h1, h2, h3, h4, h5⟩ := lk
  subst h5
  exact va_get hx hb hts h3 hown hK hP k (zW_at hk hs) h1 j h2 (hts _ h4) (fun _ h => h) (zFl_get hf) hdg kk
theorem zr_getI (cx : zX own cc nL p s m args c D cy) {index ci k j : Nat} (lk : zLk own index ci j) (hP : va_P D vwCl (zW sh N cy q S) H) (hk : k < N) {fs : List (Option (Option Nat))} (hs : sh k = .inr (ci, fs)) (hf : fs[j]? = some none) (hdg : decode cc pc = .ok (.getfield index, 3))
    (kk : W p l e R s m args below meth c H locs cells slots Q (F0 m (pc + 3) ls (.int (S.1 k j) :: rest))) : W p l e R s m args below meth c H locs cells slots Q (F0 m pc ls (.ref (q k) :: rest)) := zr_get cx lk hP hk hs hf hdg kk
theorem zr_getJ (cx : zX own cc nL p s m args c D cy) {index ci k j : Nat} (lk : zLk own index ci j) (hP : va_P D vwCl (zW sh N cy q S) H) (hk : k < N) {fs : List (Option (Option Nat))} (hs : sh k = .inr (ci, fs)) (hf : fs[j]? = some (some none)) (hdg : decode cc pc = .ok (.getfield index, 3))
    (kk : W p l e R s m args below meth c H locs cells slots Q (F0 m (pc + 3) ls (.long (S.2 k j) :: rest))) : W p l e R s m args below meth c H locs cells slots Q (F0 m pc ls (.ref (q k) :: rest)) := zr_get cx lk hP hk hs hf hdg kk
theorem zr_getR (cx : zX own cc nL p s m args c D cy) {index ci k j t : Nat} (lk : zLk own index ci j) (hP : va_P D vwCl (zW sh N cy q S) H) (hk : k < N) {fs : List (Option (Option Nat))} (hs : sh k = .inr (ci, fs)) (hf : fs[j]? = some (some (some t))) (hdg : decode cc pc = .ok (.getfield index, 3))
    (kk : W p l e R s m args below meth c H locs cells slots Q (F0 m (pc + 3) ls (.ref (q t) :: rest))) : W p l e R s m args below meth c H locs cells slots Q (F0 m pc ls (.ref (q k) :: rest)) := zr_get cx lk hP hk hs hf hdg kk
theorem zr_putI (cx : zX own cc nL p s m args c D cy) {index ci k j : Nat} {ty : FieldType} (lk : zLq own index ci j ty) (hq : zQ A q N) (hP : va_P D vwCl (zW sh N cy q S) H) (hS : va_S A H0 H locs) (hk : k < N) {fs : List (Option (Option Nat))} (hs : sh k = .inr (ci, fs)) (hf : fs[j]? = some none) {v : Int32} (hn : narrow ty (.int v) = .int v) (hfit : fits ty (.int v) = true) (hdg : decode cc pc = .ok (.putfield index, 3))
    (kk : ∀ (H1 : Heap) (locs1 : List Loc), va_P D vwCl (zW sh N cy q (zI S k j v)) H1 → va_S A H0 H1 locs1 → W p l e R s m args below meth c H1 locs1 cells slots Q (F0 m (pc + 3) ls rest)) : W p l e R s m args below meth c H locs cells slots Q (F0 m pc ls (.int v :: .ref (q k) :: rest)) := by
  obtain ⟨hx, hb, -, hown, hts, hK, -⟩ := cx
  obtain ⟨ref, C, T, NN, ty0, h1, h2, h3, h4, h5, h6, h7, h8, h9⟩ := lk
  subst h5
  refine va_put hx hb hts h3 ty0 h8 h9 hown hK hP hq.D hS k (zW_at hk hs) h1 j h2 (hts _ h4) (fun _ h => h) h6 h7 hn hfit (by have := (List.getElem?_eq_some_iff.mp hf).1; simp [zFl]; exact this) hdg (fun H1 locs1 hP1 _ hS1 => kk H1 locs1 ?_ hS1)
  have e : (zW sh N cy q S).set k (q k, .inr (ci, (zFl q S k fs).set j (.int v))) = zW sh N cy q (zI S k j v) := zW_set hk hs (by rw [zFl_setI hf]; rfl) (fun i hi => zCell_cong (zI_ne hi) rfl)
  rw [← e]
  exact hP1
theorem zr_putJ (cx : zX own cc nL p s m args c D cy) {index ci k j : Nat} (lk : zLq own index ci j .long) (hq : zQ A q N) (hP : va_P D vwCl (zW sh N cy q S) H) (hS : va_S A H0 H locs) (hk : k < N) {fs : List (Option (Option Nat))} (hs : sh k = .inr (ci, fs)) (hf : fs[j]? = some (some none)) {v : Int64} (hdg : decode cc pc = .ok (.putfield index, 3))
    (kk : ∀ (H1 : Heap) (locs1 : List Loc), va_P D vwCl (zW sh N cy q (zJ S k j v)) H1 → va_S A H0 H1 locs1 → W p l e R s m args below meth c H1 locs1 cells slots Q (F0 m (pc + 3) ls rest)) : W p l e R s m args below meth c H locs cells slots Q (F0 m pc ls (.long v :: .ref (q k) :: rest)) := by
  obtain ⟨hx, hb, -, hown, hts, hK, -⟩ := cx
  obtain ⟨ref, C, T, NN, ty0, h1, h2, h3, h4, h5, h6, h7, h8, h9⟩ := lk
  subst h5
  refine va_put hx hb hts h3 ty0 h8 h9 hown hK hP hq.D hS k (zW_at hk hs) h1 j h2 (hts _ h4) (fun _ h => h) h6 h7 rfl rfl (by have := (List.getElem?_eq_some_iff.mp hf).1; simp [zFl]; exact this) hdg (fun H1 locs1 hP1 _ hS1 => kk H1 locs1 ?_ hS1)
  have e : (zW sh N cy q S).set k (q k, .inr (ci, (zFl q S k fs).set j (.long v))) = zW sh N cy q (zJ S k j v) := zW_set hk hs (by rw [zFl_setJ hf]; rfl) (fun i hi => zCell_cong rfl (zJ_ne hi))
  rw [← e]
  exact hP1
theorem zr_iald (cx : zX own cc nL p s m args c D cy) (hP : va_P D vwCl (zW sh N cy q S) H) {k n : Nat} {r : Nat → Option Nat} (hk : k < N) (hs : sh k = .inl (0, n, r)) {i : Int32} (hi : zIx i n = true) (hdg : decode cc pc = .ok (.iaload, 1))
    (kk : W p l e R s m args below meth c H locs cells slots Q (F0 m (pc + 1) ls (.int (S.1 k i.toNatClampNeg) :: rest))) : W p l e R s m args below meth c H locs cells slots Q (F0 m pc ls (.int i :: .ref (q k) :: rest)) := by
  obtain ⟨hx, hb, -, hown, hts, hK, -⟩ := cx
  exact va_iald hx hb hK hP k 0 (zW_at hk hs) rfl (zIx_in hi) hdg kk
theorem zr_zald (cx : zX own cc nL p s m args c D cy) (hP : va_P D vwCl (zW sh N cy q S) H) {k n : Nat} {r : Nat → Option Nat} (hk : k < N) (hs : sh k = .inl (2, n, r)) {i : Int32} (hi : zIx i n = true) (hdg : decode cc pc = .ok (.baload, 1))
    (kk : W p l e R s m args below meth c H locs cells slots Q (F0 m (pc + 1) ls (.int (S.1 k i.toNatClampNeg) :: rest))) : W p l e R s m args below meth c H locs cells slots Q (F0 m pc ls (.int i :: .ref (q k) :: rest)) := by
  obtain ⟨hx, hb, -, hown, hts, hK, -⟩ := cx
  exact va_zald hx hb hK hP k 2 (zW_at hk hs) rfl (zIx_in hi) hdg kk
theorem zr_cald (cx : zX own cc nL p s m args c D cy) (hP : va_P D vwCl (zW sh N cy q S) H) {k n : Nat} {r : Nat → Option Nat} (hk : k < N) (hs : sh k = .inl (3, n, r)) {i : Int32} (hi : zIx i n = true) (hdg : decode cc pc = .ok (.caload, 1))
    (kk : W p l e R s m args below meth c H locs cells slots Q (F0 m (pc + 1) ls (.int (S.1 k i.toNatClampNeg) :: rest))) : W p l e R s m args below meth c H locs cells slots Q (F0 m pc ls (.int i :: .ref (q k) :: rest)) := by
  obtain ⟨hx, hb, -, hown, hts, hK, -⟩ := cx
  exact va_cald hx hb hK hP k 3 (zW_at hk hs) rfl (zIx_in hi) hdg kk
theorem zr_lald (cx : zX own cc nL p s m args c D cy) (hP : va_P D vwCl (zW sh N cy q S) H) {k n : Nat} {r : Nat → Option Nat} (hk : k < N) (hs : sh k = .inl (1, n, r)) {i : Int32} (hi : zIx i n = true) (hdg : decode cc pc = .ok (.laload, 1))
    (kk : W p l e R s m args below meth c H locs cells slots Q (F0 m (pc + 1) ls (.long (S.2 k i.toNatClampNeg) :: rest))) : W p l e R s m args below meth c H locs cells slots Q (F0 m pc ls (.int i :: .ref (q k) :: rest)) := by
  obtain ⟨hx, hb, -, hown, hts, hK, -⟩ := cx
  exact va_lald hx hb hK hP k 1 (zW_at hk hs) rfl (zIx_in hi) hdg kk
theorem zr_iast (cx : zX own cc nL p s m args c D cy) (hq : zQ A q N) (hP : va_P D vwCl (zW sh N cy q S) H) (hS : va_S A H0 H locs) {k n : Nat} {r : Nat → Option Nat} (hk : k < N) (hs : sh k = .inl (0, n, r)) {i x : Int32} (hi : zIx i n = true) (hdg : decode cc pc = .ok (.iastore, 1))
    (kk : ∀ (H1 : Heap) (locs1 : List Loc), va_P D vwCl (zW sh N cy q (zI S k i.toNatClampNeg x)) H1 → va_S A H0 H1 locs1 → W p l e R s m args below meth c H1 locs1 cells slots Q (F0 m (pc + 1) ls rest)) : W p l e R s m args below meth c H locs cells slots Q (F0 m pc ls (.int x :: .int i :: .ref (q k) :: rest)) := by
  obtain ⟨hx, hb, -, hown, hts, hK, -⟩ := cx
  refine va_iast hx hb hK hP hq.D hS k 0 (zW_at hk hs) rfl (zIx_in hi) hdg (fun H1 locs1 hP1 _ hS1 => kk H1 locs1 ?_ hS1)
  have e : (zW sh N cy q S).set k (q k, .inl (cy 0, n, .inl (upd (S.1 k) i.toNatClampNeg x))) = zW sh N cy q (zI S k i.toNatClampNeg x) := zW_set hk hs (by rw [← zI_eq]; rfl) (fun j hj => zCell_cong (zI_ne hj) rfl)
  rw [← e]
  exact hP1
theorem zr_zast (cx : zX own cc nL p s m args c D cy) (hq : zQ A q N) (hP : va_P D vwCl (zW sh N cy q S) H) (hS : va_S A H0 H locs) {k n : Nat} {r : Nat → Option Nat} (hk : k < N) (hs : sh k = .inl (2, n, r)) {i x : Int32} (hi : zIx i n = true) (hdg : decode cc pc = .ok (.bastore, 1))
    (kk : ∀ (H1 : Heap) (locs1 : List Loc), va_P D vwCl (zW sh N cy q (zI S k i.toNatClampNeg (vp_nar .boolean x))) H1 → va_S A H0 H1 locs1 → W p l e R s m args below meth c H1 locs1 cells slots Q (F0 m (pc + 1) ls rest)) : W p l e R s m args below meth c H locs cells slots Q (F0 m pc ls (.int x :: .int i :: .ref (q k) :: rest)) := by
  obtain ⟨hx, hb, -, hown, hts, hK, -⟩ := cx
  refine va_zast hx hb hK hP hq.D hS k 2 (zW_at hk hs) rfl (zIx_in hi) hdg (fun H1 locs1 hP1 _ hS1 => kk H1 locs1 ?_ hS1)
  have e : (zW sh N cy q S).set k (q k, .inl (cy 2, n, .inl (upd (S.1 k) i.toNatClampNeg (vp_nar .boolean x)))) = zW sh N cy q (zI S k i.toNatClampNeg (vp_nar .boolean x)) := zW_set hk hs (by rw [← zI_eq]; rfl) (fun j hj => zCell_cong (zI_ne hj) rfl)
  rw [← e]
  exact hP1
theorem zr_cast (cx : zX own cc nL p s m args c D cy) (hq : zQ A q N) (hP : va_P D vwCl (zW sh N cy q S) H) (hS : va_S A H0 H locs) {k n : Nat} {r : Nat → Option Nat} (hk : k < N) (hs : sh k = .inl (3, n, r)) {i x : Int32} (hi : zIx i n = true) (hdg : decode cc pc = .ok (.castore, 1))
    (kk : ∀ (H1 : Heap) (locs1 : List Loc), va_P D vwCl (zW sh N cy q (zI S k i.toNatClampNeg (vp_nar .char x))) H1 → va_S A H0 H1 locs1 → W p l e R s m args below meth c H1 locs1 cells slots Q (F0 m (pc + 1) ls rest)) : W p l e R s m args below meth c H locs cells slots Q (F0 m pc ls (.int x :: .int i :: .ref (q k) :: rest)) := by
  obtain ⟨hx, hb, -, hown, hts, hK, -⟩ := cx
  refine va_cast hx hb hK hP hq.D hS k 3 (zW_at hk hs) rfl (zIx_in hi) hdg (fun H1 locs1 hP1 _ hS1 => kk H1 locs1 ?_ hS1)
  have e : (zW sh N cy q S).set k (q k, .inl (cy 3, n, .inl (upd (S.1 k) i.toNatClampNeg (vp_nar .char x)))) = zW sh N cy q (zI S k i.toNatClampNeg (vp_nar .char x)) := zW_set hk hs (by rw [← zI_eq]; rfl) (fun j hj => zCell_cong (zI_ne hj) rfl)
  rw [← e]
  exact hP1
theorem zr_last (cx : zX own cc nL p s m args c D cy) (hq : zQ A q N) (hP : va_P D vwCl (zW sh N cy q S) H) (hS : va_S A H0 H locs) {k n : Nat} {r : Nat → Option Nat} (hk : k < N) (hs : sh k = .inl (1, n, r)) {i : Int32} {x : Int64} (hi : zIx i n = true) (hdg : decode cc pc = .ok (.lastore, 1))
    (kk : ∀ (H1 : Heap) (locs1 : List Loc), va_P D vwCl (zW sh N cy q (zJ S k i.toNatClampNeg x)) H1 → va_S A H0 H1 locs1 → W p l e R s m args below meth c H1 locs1 cells slots Q (F0 m (pc + 1) ls rest)) : W p l e R s m args below meth c H locs cells slots Q (F0 m pc ls (.long x :: .int i :: .ref (q k) :: rest)) := by
  obtain ⟨hx, hb, -, hown, hts, hK, -⟩ := cx
  refine va_last hx hb hK hP hq.D hS k 1 (zW_at hk hs) rfl (zIx_in hi) hdg (fun H1 locs1 hP1 _ hS1 => kk H1 locs1 ?_ hS1)
  have e : (zW sh N cy q S).set k (q k, .inl (cy 1, n, .inr (.inl (vp_updL (S.2 k) i.toNatClampNeg x)))) = zW sh N cy q (zJ S k i.toNatClampNeg x) := zW_set hk hs (by rw [← zJ_eq]; rfl) (fun j hj => zCell_cong rfl (zJ_ne hj))
  rw [← e]
  exact hP1
theorem zr_aald (cx : zX own cc nL p s m args c D cy) (hP : va_P D vwCl (zW sh N cy q S) H) {k n t g : Nat} {r : Nat → Option Nat} (hk : k < N) (hs : sh k = .inl (t, n, r)) (ht : t = 5 ∨ t = 6 ∨ t = 7) {i : Int32} (hi : zIx i n = true) (hr : r i.toNatClampNeg = some g) (hdg : decode cc pc = .ok (.aaload, 1))
    (kk : W p l e R s m args below meth c H locs cells slots Q (F0 m (pc + 1) ls (.ref (q g) :: rest))) : W p l e R s m args below meth c H locs cells slots Q (F0 m pc ls (.int i :: .ref (q k) :: rest)) := by
  obtain ⟨hx, hb, -, hown, hts, hK, -⟩ := cx
  have hin := zIx_in hi
  have hlt : i.toNatClampNeg < n := Nat.not_le.mp fun z => hin (Or.inr z)
  have hz : zRw q S k t r = .inr (.inr (.inr (.inr (fun i => (r i).map q)))) := by
    rcases ht with rfl | rfl | rfl <;> rfl
  have hT : (zTy cy)[t]? = some (cy t, zTk t) := by
    rcases ht with rfl | rfl | rfl <;> rfl
  have hR : (zTk t).isReference = true := by
    rcases ht with rfl | rfl | rfl <;> rfl
  have hc : H[q k]? = some (vp_cell (cy t) (n, .inr (.inr (.inr (.inr (fun i => (r i).map q)))))) := by
    have h := hP k _ (zW_at hk hs)
    rw [← hz]
    exact h
  exact W.aald (v := .ref (q g)) (ty := zTk t) hx hb hc ((hK.2 t _ hT).1 n (fun j => va_rf ((r j).map q))) hR (fun q => by cases q) (by show ¬ (i < 0 ∨ (arrV _ _ _).slots.size ≤ _); rw [arrV_size]; exact hin) (by show (arrV _ _ _).slots[_]? = _; rw [arrV_read _ _ hlt]; dsimp only; rw [hr]; rfl) rfl rfl hdg kk
end ZR
