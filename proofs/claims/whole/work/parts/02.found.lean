/-! words of a functional program: a value named, a guard, a call, a branch, a loop -/
abbrev zSt : Type := (Nat → Nat → Int32) × (Nat → Nat → Int64)
abbrev zSp : Type := (Nat × Nat × (Nat → Option Nat)) ⊕ (Nat × List (Option (Option Nat)))
def zLt {α β : Type} (a : α) (f : α → Option β) : Option β := f a
def zGd {β : Type} (b : Bool) (x : Option β) : Option β := if b = true then x else none
def zBd {α β : Type} (x : Option α) (f : α → Option β) : Option β := match x with
  | none => none
  | some a => f a
def zBp {α β : Type} (x : Option (α × zSt)) (f : α → zSt → Option β) : Option β := match x with
  | none => none
  | some a => f a.1 a.2
def zBr {β : Type} (c : Prop) [Decidable c] (x y : Option β) : Option β := if c then x else y
def zXr {σ β : Type} (x : Option β) : Option (σ ⊕ β) := match x with
  | none => none
  | some r => some (.inr r)
def zLp {σ β : Type} (body : σ → Option (σ ⊕ β)) : Nat → σ → Option β
  | 0, _ => none
  | n + 1, s => match body s with
    | none => none
    | some (.inl t) => zLp body n t
    | some (.inr r) => some r
def zKt {σ β : Type} (P : σ → Prop) (Q : β → Prop) (x : σ ⊕ β) : Prop := match x with
  | .inl t => P t
  | .inr r => Q r
def zIx (i : Int32) (n : Nat) : Bool := decide (¬ i < 0) && decide (i.toNatClampNeg < n)
def zI (S : zSt) (k j : Nat) (v : Int32) : zSt := (fun a b => if a = k ∧ b = j then v else S.1 a b, S.2)
def zJ (S : zSt) (k j : Nat) (v : Int64) : zSt := (S.1, fun a b => if a = k ∧ b = j then v else S.2 a b)
def zCi (S : zSt) (k k2 sp dp n : Nat) : zSt := (fun a b => if a = k2 then va_cpy (S.1 k) (S.1 k2) sp dp n b else S.1 a b, S.2)
def zCj (S : zSt) (k k2 sp dp n : Nat) : zSt := (S.1, fun a b => if a = k2 then va_cpy (S.2 k) (S.2 k2) sp dp n b else S.2 a b)
/-- may n cells be copied from sp of a row of n0 to dp of a row of n1 -/
def zCk (sp dp n : Int32) (n0 n1 : Nat) : Bool := decide (¬ sp < 0) && decide (¬ dp < 0) && decide (¬ n < 0) && decide (sp.toNatClampNeg + n.toNatClampNeg ≤ n0) && decide (dp.toNatClampNeg + n.toNatClampNeg ≤ n1)
theorem zLt_e {α β : Type} {a : α} {f : α → Option β} {r : β} (h : zLt a f = some r) : ∃ x, x = a ∧ f x = some r := ⟨a, rfl, h⟩
theorem zGd_e {β : Type} {b : Bool} {x : Option β} {r : β} (h : zGd b x = some r) : b = true ∧ x = some r := by
  unfold zGd at h
  split at h
  · exact ⟨by assumption, h⟩
  · cases h
theorem zBd_e {α β : Type} {x : Option α} {f : α → Option β} {r : β} (h : zBd x f = some r) : ∃ a, x = some a ∧ f a = some r := by
  cases x with
  | none => cases h
  | some a => exact ⟨a, rfl, h⟩
theorem zBp_e {α β : Type} {x : Option (α × zSt)} {f : α → zSt → Option β} {r : β} (h : zBp x f = some r) : ∃ a S, x = some (a, S) ∧ f a S = some r := by
  cases x with
  | none => cases h
  | some a => exact ⟨a.1, a.2, rfl, h⟩
theorem zBr_t {β : Type} {c : Prop} [Decidable c] {x y : Option β} {r : β} (hc : c) (h : zBr c x y = some r) : x = some r := by
  unfold zBr at h
  rw [if_pos hc] at h
  exact h
theorem zBr_f {β : Type} {c : Prop} [Decidable c] {x y : Option β} {r : β} (hc : ¬ c) (h : zBr c x y = some r) : y = some r := by
  unfold zBr at h
  rw [if_neg hc] at h
  exact h
theorem zXr_e {σ β : Type} {x : Option β} {r : σ ⊕ β} (h : zXr x = some r) : ∃ a, x = some a ∧ r = .inr a := by
  cases x with
  | none => cases h
  | some a => exact ⟨a, rfl, (Option.some.inj h).symm⟩
theorem zLp_e {σ β : Type} {body : σ → Option (σ ⊕ β)} {n : Nat} {s : σ} {r : β} (h : zLp body (n + 1) s = some r) : ∃ x, body s = some x ∧ zKt (fun t => zLp body n t = some r) (fun a => a = r) x := by
  unfold zLp at h
  cases hb : body s with
  | none => rw [hb] at h; cases h
  | some x =>
    rw [hb] at h
    cases x with
    | inl t => exact ⟨_, rfl, h⟩
    | inr a => exact ⟨_, rfl, Option.some.inj h⟩
theorem zIx_in {i : Int32} {n : Nat} (h : zIx i n = true) : vp_in i n := by
  simp only [zIx, Bool.and_eq_true, decide_eq_true_eq] at h
  intro q
  rcases q with q | q
  · exact h.1 q
  · exact Nat.not_le.mpr h.2 q
theorem zCk_e {sp dp n : Int32} {n0 n1 : Nat} (h : zCk sp dp n n0 n1 = true) : ¬ sp < 0 ∧ ¬ dp < 0 ∧ ¬ n < 0 ∧ sp.toNatClampNeg + n.toNatClampNeg ≤ n0 ∧ dp.toNatClampNeg + n.toNatClampNeg ≤ n1 := by
  simp only [zCk, Bool.and_eq_true, decide_eq_true_eq] at h
  exact ⟨h.1.1.1.1, h.1.1.1.2, h.1.1.2, h.1.2, h.2⟩
/-! the world: N cells of known shapes at the addresses q, their numbers in S -/
def zTk (k : Nat) : FieldType := match k with
  | 0 => .int
  | 1 => .long
  | 2 => .boolean
  | 3 => .char
  | 4 => .byte
  | 5 => .object "ParlourLeaves$Image"
  | 6 => .object "ParlourLeaves$Life"
  | _ => .array .int
def zTy (cy : Nat → ClassId) : List (ClassId × FieldType) := [(cy 0, zTk 0), (cy 1, zTk 1), (cy 2, zTk 2), (cy 3, zTk 3), (cy 4, zTk 4), (cy 5, zTk 5), (cy 6, zTk 6), (cy 7, zTk 7)]
def zFv (q : Nat → Nat) (S : zSt) (k j : Nat) (f : Option (Option Nat)) : Value := match f with
  | none => .int (S.1 k j)
  | some none => .long (S.2 k j)
  | some (some t) => .ref (q t)
def zFl (q : Nat → Nat) (S : zSt) (k : Nat) (fs : List (Option (Option Nat))) : List Value := fs.mapIdx (fun j f => zFv q S k j f)
def zRw (q : Nat → Nat) (S : zSt) (k t : Nat) (r : Nat → Option Nat) : (Nat → Int32) ⊕ (Nat → Int64) ⊕ (Nat → UInt32) ⊕ (Nat → UInt64) ⊕ (Nat → Option Nat) :=
  if t = 1 then .inr (.inl (S.2 k)) else if t < 5 then .inl (S.1 k) else .inr (.inr (.inr (.inr (fun i => (r i).map q))))
def zCell (cy : Nat → ClassId) (q : Nat → Nat) (S : zSt) (k : Nat) (sp : zSp) : va_E := match sp with
  | .inl (t, n, r) => .inl (cy t, n, zRw q S k t r)
  | .inr (ci, fs) => .inr (ci, zFl q S k fs)
def zW (sh : Nat → zSp) (N : Nat) (cy : Nat → ClassId) (q : Nat → Nat) (S : zSt) : va_W := (List.range N).map fun k => (q k, zCell cy q S k (sh k))
theorem zW_at {sh : Nat → zSp} {N : Nat} {cy : Nat → ClassId} {q : Nat → Nat} {S : zSt} {k : Nat} (hk : k < N) {sp : zSp} (hs : sh k = sp) : (zW sh N cy q S)[k]? = some (q k, zCell cy q S k sp) := by
  subst hs
  simp [zW, hk]
theorem zW_set {sh : Nat → zSp} {N : Nat} {cy : Nat → ClassId} {q : Nat → Nat} {S S' : zSt} {k : Nat} (hk : k < N) {sp : zSp} (hs : sh k = sp) {e : va_E} (h1 : zCell cy q S' k sp = e) (h2 : ∀ j, j ≠ k → zCell cy q S' j (sh j) = zCell cy q S j (sh j)) : (zW sh N cy q S).set k (q k, e) = zW sh N cy q S' := by
  subst hs
  apply List.ext_getElem?
  intro i
  by_cases hi : i = k
  · subst hi
    rw [List.getElem?_set_self (by simp [zW]; exact hk), zW_at hk rfl, h1]
  · rw [List.getElem?_set_ne (Ne.symm hi)]
    by_cases hn : i < N
    · rw [zW_at hn rfl, zW_at hn rfl, h2 i hi]
    · rw [List.getElem?_eq_none (by simp [zW]; omega), List.getElem?_eq_none (by simp [zW]; omega)]
def zQ (A : Nat → Prop) (q : Nat → Nat) (N : Nat) : Prop := (∀ i j, i < N → j < N → q i = q j → i = j) ∧ ∀ k, k < N → A (q k)
theorem zQ.D {A : Nat → Prop} {q : Nat → Nat} {N : Nat} (h : zQ A q N) {sh : Nat → zSp} {cy : Nat → ClassId} {S : zSt} : va_D A (zW sh N cy q S) := by
  have key : ∀ (k : Nat) (x : Nat × va_E), (zW sh N cy q S)[k]? = some x → k < N ∧ x.1 = q k := by
    intro k x hx
    have hl : k < N := by
      have := (List.getElem?_eq_some_iff.mp hx).1
      simpa [zW] using this
    rw [zW_at hl rfl] at hx
    cases hx
    exact ⟨hl, rfl⟩
  refine ⟨fun i j x y hi hj hxy => ?_, fun k x hx => ?_⟩
  · obtain ⟨a1, a2⟩ := key i x hi
    obtain ⟨b1, b2⟩ := key j y hj
    exact h.1 i j a1 b1 (by rw [← a2, ← b2]; exact hxy)
  · obtain ⟨a1, a2⟩ := key k x hx
    rw [a2]
    exact h.2 k a1
theorem zI_ne {S : zSt} {k j : Nat} {v : Int32} {a : Nat} (h : a ≠ k) : (zI S k j v).1 a = S.1 a := by
  funext b
  simp [zI, h]
theorem zJ_ne {S : zSt} {k j : Nat} {v : Int64} {a : Nat} (h : a ≠ k) : (zJ S k j v).2 a = S.2 a := by
  funext b
  simp [zJ, h]
theorem zI_eq {S : zSt} {k j : Nat} {v : Int32} : (zI S k j v).1 k = upd (S.1 k) j v := by
  funext b
  simp [zI, upd]
theorem zJ_eq {S : zSt} {k j : Nat} {v : Int64} : (zJ S k j v).2 k = vp_updL (S.2 k) j v := by
  funext b
  simp [zJ, vp_updL]
theorem zCell_cong {cy : Nat → ClassId} {q : Nat → Nat} {S S' : zSt} {k : Nat} {sp : zSp} (h1 : S'.1 k = S.1 k) (h2 : S'.2 k = S.2 k) : zCell cy q S' k sp = zCell cy q S k sp := by
  unfold zCell
  cases sp with
  | inl x => simp [zRw, h1, h2]
  | inr x =>
    obtain ⟨ci, fs⟩ := x
    have e : zFv q S' k = zFv q S k := by
      funext j f
      cases f with
      | none => simp [zFv, h1]
      | some f => cases f <;> simp [zFv, h2]
    simp only [zFl, e]
theorem zFl_get {q : Nat → Nat} {S : zSt} {k j : Nat} {fs : List (Option (Option Nat))} {f : Option (Option Nat)} (h : fs[j]? = some f) : (zFl q S k fs)[j]? = some (zFv q S k j f) := by
  simp [zFl, h]
theorem zFl_setI {q : Nat → Nat} {S : zSt} {k j : Nat} {fs : List (Option (Option Nat))} {v : Int32} (h : fs[j]? = some none) : (zFl q S k fs).set j (.int v) = zFl q (zI S k j v) k fs := by
  have hl := (List.getElem?_eq_some_iff.mp h).1
  apply List.ext_getElem?
  intro i
  by_cases hi : i = j
  · subst hi
    rw [List.getElem?_set_self (by simp [zFl]; exact hl), zFl_get h]
    simp [zFv, zI]
  · rw [List.getElem?_set_ne (Ne.symm hi)]
    simp only [zFl, List.getElem?_mapIdx]
    cases hf : fs[i]? with
    | none => rfl
    | some f =>
      cases f with
      | none => simp [zFv, zI, hi]
      | some f => cases f <;> simp [zFv, zI]
theorem zFl_setJ {q : Nat → Nat} {S : zSt} {k j : Nat} {fs : List (Option (Option Nat))} {v : Int64} (h : fs[j]? = some (some none)) : (zFl q S k fs).set j (.long v) = zFl q (zJ S k j v) k fs := by
  have hl := (List.getElem?_eq_some_iff.mp h).1
  apply List.ext_getElem?
  intro i
  by_cases hi : i = j
  · subst hi
    rw [List.getElem?_set_self (by simp [zFl]; exact hl), zFl_get h]
    simp [zFv, zJ]
  · rw [List.getElem?_set_ne (Ne.symm hi)]
    simp only [zFl, List.getElem?_mapIdx]
    cases hf : fs[i]? with
    | none => rfl
    | some f =>
      cases f with
      | none => simp [zFv, zJ]
      | some f => cases f <;> simp [zFv, zJ, hi]
