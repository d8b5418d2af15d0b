/-! the law's world: the class, its builder, the reference, the row for answers -/
abbrev zAL (s : State) : Nat → Prop := fun q => s.heap.size ≤ q
def zAC (q : Nat → Nat) : Nat → Prop := fun a => ∃ k, k < 262 ∧ a = q k
def zAM (q : Nat → Nat) : Nat → Prop := fun a => ∃ k, k < 19 ∧ a = q k
abbrev zO (cy : Nat → ClassId) (o : Nat) (f : Nat → Int64) : va_W := [(o, .inl (cy 1, 1, .inr (.inl f)))]
def zSe (A0 : Nat → Prop) (q qm : Nat → Nat) (r o : Nat) : Prop := zQ A0 q 263 ∧ (∀ k, k < 263 → q k ≠ r) ∧ A0 r ∧ zQ A0 qm 19 ∧ (∀ k, k < 263 → ∀ j, j < 19 → q k ≠ qm j) ∧ (∀ j, j < 19 → qm j ≠ r) ∧ A0 o ∧ (∀ k, k < 263 → q k ≠ o) ∧ (∀ j, j < 19 → qm j ≠ o) ∧ r ≠ o
def zLw (D : va_G) (cy : Nat → ClassId) (q qm : Nat → Nat) (o : Nat) (S T : zSt) (n : Int32) (u : zU) (f : Nat → Int64) (H : Heap) : Prop := va_P D vwCl (zW zsh zNC cy q S) H ∧ va_P D vwCl (zBx cy (q 262) n u) H ∧ va_P D vwCl (zW zshM zNM cy qm T) H ∧ va_P D vwCl (zO cy o f) H
theorem zKp {D : va_G} {cl : List vw_C} {ws : va_W} {H H1 : Heap} {A : Nat → Prop} (h : va_P D cl ws H) (hn : ∀ x ∈ ws, ¬ A x.1) (hk : ∀ a : Nat, a < H.size → ¬ A a → H1[a]? = H[a]?) : va_P D cl ws H1 :=
  h.kept (fun k x hx => hk x.1 (h k x hx).lt (hn x (List.mem_of_getElem? hx)))
theorem zW_mem {sh : Nat → zSp} {N : Nat} {cy : Nat → ClassId} {q : Nat → Nat} {S : zSt} {x : Nat × va_E} (h : x ∈ zW sh N cy q S) : ∃ k, k < N ∧ x.1 = q k := by
  unfold zW at h
  obtain ⟨k, hk, e⟩ := List.mem_map.mp h
  exact ⟨k, List.mem_range.mp hk, by rw [← e]⟩
theorem zBx_mem {cy : Nat → ClassId} {b : Nat} {n : Int32} {u : zU} {x : Nat × va_E} (h : x ∈ zBx cy b n u) : x.1 = b ∨ x.1 = u.1 := by
  rcases List.mem_cons.mp h with rfl | h
  · exact Or.inl rfl
  · rw [List.mem_singleton] at h
    subst h
    exact Or.inr rfl
theorem zO_mem {cy : Nat → ClassId} {o : Nat} {f : Nat → Int64} {x : Nat × va_E} (h : x ∈ zO cy o f) : x.1 = o := by
  rw [List.mem_singleton] at h
  subst h
  rfl
section Se
variable {A0 : Nat → Prop} {q qm : Nat → Nat} {r o : Nat}
theorem zSe.qC (h : zSe A0 q qm r o) : zQ (zAC q) q 262 := ⟨fun i j hi hj e => h.1.1 i j (by omega) (by omega) e, fun k hk => ⟨k, hk, rfl⟩⟩
theorem zSe.qM (h : zSe A0 q qm r o) : zQ (zAM qm) qm 19 := ⟨fun i j hi hj e => h.2.2.2.1.1 i j hi hj e, fun k hk => ⟨k, hk, rfl⟩⟩
theorem zSe.subC (h : zSe A0 q qm r o) : ∀ a, zAC q a → A0 a := fun a ⟨k, hk, e⟩ => by rw [e]; exact h.1.2 k (by omega)
theorem zSe.subM (h : zSe A0 q qm r o) : ∀ a, zAM qm a → A0 a := fun a ⟨k, hk, e⟩ => by rw [e]; exact h.2.2.2.1.2 k hk
variable {D : va_G} {cy : Nat → ClassId} {S S' T T' : zSt} {n : Int32} {u : zU} {f : Nat → Int64} {H H1 : Heap}
theorem zLw.setC (h : zSe A0 q qm u.1 o) (hw : zLw D cy q qm o S T n u f H) (hC : va_P D vwCl (zW zsh zNC cy q S') H1) (hk : ∀ a : Nat, a < H.size → ¬ zAC q a → H1[a]? = H[a]?) : zLw D cy q qm o S' T n u f H1 := by
  refine ⟨hC, zKp hw.2.1 (fun x hx => ?_) hk, zKp hw.2.2.1 (fun x hx => ?_) hk, zKp hw.2.2.2 (fun x hx => ?_) hk⟩
  · rintro ⟨k, hk, e⟩
    rcases zBx_mem hx with e2 | e2
    · have := h.1.1 262 k (by omega) (by omega) (by rw [← e2, e]); omega
    · exact h.2.1 k (by omega) (by rw [← e2, e])
  · rintro ⟨k, hk, e⟩
    obtain ⟨j, hj, e2⟩ := zW_mem hx
    exact h.2.2.2.2.1 k (by omega) j hj (by rw [← e2, e])
  · rintro ⟨k, hk, e⟩
    exact h.2.2.2.2.2.2.2.1 k (by omega) (by rw [← zO_mem hx, e])
theorem zLw.setM (h : zSe A0 q qm u.1 o) (hw : zLw D cy q qm o S T n u f H) (hM : va_P D vwCl (zW zshM zNM cy qm T') H1) (hk : ∀ a : Nat, a < H.size → ¬ zAM qm a → H1[a]? = H[a]?) : zLw D cy q qm o S T' n u f H1 := by
  refine ⟨zKp hw.1 (fun x hx => ?_) hk, zKp hw.2.1 (fun x hx => ?_) hk, hM, zKp hw.2.2.2 (fun x hx => ?_) hk⟩
  · rintro ⟨j, hj, e⟩
    obtain ⟨k, hk, e2⟩ := zW_mem hx
    exact h.2.2.2.2.1 k (Nat.lt_of_lt_of_le hk (by decide)) j hj (by rw [← e2, e])
  · rintro ⟨j, hj, e⟩
    rcases zBx_mem hx with e2 | e2
    · exact h.2.2.2.2.1 262 (by omega) j hj (by rw [← e2, e])
    · exact h.2.2.2.2.2.1 j hj (by rw [← e2, e])
  · rintro ⟨j, hj, e⟩
    exact h.2.2.2.2.2.2.2.2.1 j hj (by rw [← zO_mem hx, e])
/-- the builder alone was written, or new cells came -/
theorem zLw.setB {u2 : zU} {n2 : Int32} (h : zSe A0 q qm u.1 o) (hw : zLw D cy q qm o S T n u f H) (hB : va_P D vwCl (zBx cy (q 262) n2 u2) H1) (hk : ∀ a : Nat, a < H.size → ¬ (a = q 262 ∨ a = u.1 ∨ H.size ≤ a) → H1[a]? = H[a]?) : zLw D cy q qm o S T n2 u2 f H1 := by
  refine ⟨hw.1.kept (fun k x hx => hk x.1 (hw.1 k x hx).lt ?_), hB, hw.2.2.1.kept (fun k x hx => hk x.1 (hw.2.2.1 k x hx).lt ?_), hw.2.2.2.kept (fun k x hx => hk x.1 (hw.2.2.2 k x hx).lt ?_)⟩
  · have hl := (hw.1 k x hx).lt
    obtain ⟨k', hk', e⟩ := zW_mem (List.mem_of_getElem? hx)
    rintro (e2 | e2 | e2)
    · have := h.1.1 262 k' (by omega) (Nat.lt_of_lt_of_le hk' (by decide)) (by rw [← e2, e])
      have : k' < 262 := hk'
      omega
    · exact h.2.1 k' (Nat.lt_of_lt_of_le hk' (by decide)) (by rw [← e2, e])
    · omega
  · have hl := (hw.2.2.1 k x hx).lt
    obtain ⟨k', hk', e⟩ := zW_mem (List.mem_of_getElem? hx)
    rintro (e2 | e2 | e2)
    · exact h.2.2.2.2.1 262 (by omega) k' hk' (by rw [← e2, e])
    · exact h.2.2.2.2.2.1 k' hk' (by rw [← e2, e])
    · omega
  · have hl := (hw.2.2.2 k x hx).lt
    have e := zO_mem (List.mem_of_getElem? hx)
    rintro (e2 | e2 | e2)
    · exact h.2.2.2.2.2.2.2.1 262 (by omega) (by rw [← e2, e])
    · exact h.2.2.2.2.2.2.2.2.2 (by rw [← e2, e])
    · omega
/-- the row for answers alone was written, or new cells came -/
theorem zLw.setO {f2 : Nat → Int64} (h : zSe A0 q qm u.1 o) (hw : zLw D cy q qm o S T n u f H) (hO : va_P D vwCl (zO cy o f2) H1) (hk : ∀ a : Nat, a < H.size → ¬ (a = o ∨ H.size ≤ a) → H1[a]? = H[a]?) : zLw D cy q qm o S T n u f2 H1 := by
  refine ⟨hw.1.kept (fun k x hx => hk x.1 (hw.1 k x hx).lt ?_), hw.2.1.kept (fun k x hx => hk x.1 (hw.2.1 k x hx).lt ?_), hw.2.2.1.kept (fun k x hx => hk x.1 (hw.2.2.1 k x hx).lt ?_), hO⟩
  · have hl := (hw.1 k x hx).lt
    obtain ⟨k', hk', e⟩ := zW_mem (List.mem_of_getElem? hx)
    rintro (e2 | e2)
    · exact h.2.2.2.2.2.2.2.1 k' (Nat.lt_of_lt_of_le hk' (by decide)) (by rw [← e2, e])
    · omega
  · have hl := (hw.2.1 k x hx).lt
    rintro (e2 | e2)
    · rcases zBx_mem (List.mem_of_getElem? hx) with e | e
      · exact h.2.2.2.2.2.2.2.1 262 (by omega) (by rw [← e2, e])
      · exact h.2.2.2.2.2.2.2.2.2 (by rw [← e2, e])
    · omega
  · have hl := (hw.2.2.1 k x hx).lt
    obtain ⟨k', hk', e⟩ := zW_mem (List.mem_of_getElem? hx)
    rintro (e2 | e2)
    · exact h.2.2.2.2.2.2.2.2.1 k' hk' (by rw [← e2, e])
    · omega
end Se
section Zl
variable {p : Program} {l : Launch} {e : Env} {R rm : Room} {s : State} {m : MethodId} {args : Array Value} {below : List Frame} {meth : Method} {c : Code} {H : Heap} {locs : List Loc} {cells slots : Nat} {Q : State → Prop}
variable {own : String} {cc bytes : ByteArray} {nL pc maxL n index : Nat} {ret : Option FieldType} {ls : Array Slot} {rest As st0 : List Value} {D : va_G} {cy : Nat → ClassId} {y : MethodName} {q qm : Nat → Nat} {o : Nat} {S T : zSt} {cnt : Int32} {u : zU} {f : Nat → Int64} {kK kV : Nat → Nat}
theorem zl_C (cx : zX own cc nL p s m args c D cy) (cv : zCV own RX11 index y bytes maxL ret n) (hse : zSe (zAL s) q qm u.1 o) {z : Int32 × zSt} (hM : zMq l y bytes maxL ret rm (.ref (q 0) :: As) zsh zNC D cy q (zAC q) S z) (hR : zRm rm R maxL) (hRc : zRc cells slots R) (hS : va_S (zAL s) s.heap H locs) (hw : zLw D cy q qm o S T cnt u f H) (hl : ls.size = nL) (hn : As.length = n) (hst : st0 = As.reverse ++ .ref (q 0) :: rest) (hW : (rest.map fun v => v.category).sum ≤ 8) (hdg : decode cc pc = .ok (.invokevirtual index, 3))
    (kk : ∀ (H1 : Heap) (locs1 : List Loc), va_S (zAL s) s.heap H1 locs1 → zLw D cy q qm o z.2 T cnt u f H1 → W p l e R s m args below meth c H1 locs1 cells slots Q (F0 m (pc + 3) ls (.int z.1 :: rest))) : W p l e R s m args below meth c H locs cells slots Q (F0 m pc ls st0) :=
  va_calli (va_runV (zr_fix cx) hM (zr_cwV cx cv hR) (zr_preV cx hw.1 nC_0 sC_0 rfl) rfl hn hl hst (lv_room hW) hdg hRc) hS (fun a _ h => hse.subC a h) hse.subC (fun r u2 t H1 locs1 ht _ h2 hB _ hk hS1 => by
    subst h2
    subst ht
    exact kk _ _ hS1 (hw.setC hse hB hk))
theorem zl_CS (cx : zX own cc nL p s m args c D cy) (hE : zEn kK kV (zAL s) s) (cv : zCV own RX11 index y bytes maxL ret n) (hse : zSe (zAL s) q qm u.1 o) {z : Int32 × zSt} (hM : zMqS l y bytes maxL ret rm (.ref (q 0) :: As) zsh zNC D cy q (zAC q) S z) (hR : zRm rm R maxL) (hRc : zRc cells slots R) (hS : va_S (zAL s) s.heap H locs) (hw : zLw D cy q qm o S T cnt u f H) (hl : ls.size = nL) (hn : As.length = n) (hst : st0 = As.reverse ++ .ref (q 0) :: rest) (hW : (rest.map fun v => v.category).sum ≤ 8) (hdg : decode cc pc = .ok (.invokevirtual index, 3))
    (kk : ∀ (H1 : Heap) (locs1 : List Loc), va_S (zAL s) s.heap H1 locs1 → zLw D cy q qm o z.2 T cnt u f H1 → W p l e R s m args below meth c H1 locs1 cells slots Q (F0 m (pc + 3) ls (.int z.1 :: rest))) : W p l e R s m args below meth c H locs cells slots Q (F0 m pc ls st0) :=
  va_calli (va_runV (zr_fix cx) hM (zr_cwV cx cv hR) ⟨fun a U g mk h => ⟨h.1, zPs_bl a U g mk h.2⟩, va_recv cx.2.2.2.2.2.1 hw.1 rfl (zW_at nC_0 sC_0), fun U hU hW => ⟨rfl, zr_pre cx hw.1 U hU hW, (hE.2.1.at hS.2.1 hU hW.alike).narrow hse.subC⟩⟩ rfl hn hl hst (lv_room hW) hdg hRc) hS (fun a _ h => hse.subC a h) hse.subC (fun r u2 t H1 locs1 ht _ h2 hB _ hk hS1 => by
    subst h2
    subst ht
    exact kk _ _ hS1 (hw.setC hse hB hk))
theorem zl_M (cx : zX own cc nL p s m args c D cy) (cv : zCV own RX12 index y bytes maxL ret n) (hse : zSe (zAL s) q qm u.1 o) {z : Int32 × zSt} (hM : zMq l y bytes maxL ret rm (.ref (qm 0) :: As) zshM zNM D cy qm (zAM qm) T z) (hR : zRm rm R maxL) (hRc : zRc cells slots R) (hS : va_S (zAL s) s.heap H locs) (hw : zLw D cy q qm o S T cnt u f H) (hl : ls.size = nL) (hn : As.length = n) (hst : st0 = As.reverse ++ .ref (qm 0) :: rest) (hW : (rest.map fun v => v.category).sum ≤ 8) (hdg : decode cc pc = .ok (.invokevirtual index, 3))
    (kk : ∀ (H1 : Heap) (locs1 : List Loc), va_S (zAL s) s.heap H1 locs1 → zLw D cy q qm o S z.2 cnt u f H1 → W p l e R s m args below meth c H1 locs1 cells slots Q (F0 m (pc + 3) ls (.int z.1 :: rest))) : W p l e R s m args below meth c H locs cells slots Q (F0 m pc ls st0) :=
  va_calli (va_runV (zr_fix cx) hM (zr_cwV cx cv hR) (zr_preV cx hw.2.2.1 nM_0 sM_0 rfl) rfl hn hl hst (lv_room hW) hdg hRc) hS (fun a _ h => hse.subM a h) hse.subM (fun r u2 t H1 locs1 ht _ h2 hB _ hk hS1 => by
    subst h2
    subst ht
    exact kk _ _ hS1 (hw.setM hse hB hk))
end Zl
def zIv (D : va_G) (cy : Nat → ClassId) (s : State) (q qm : Nat → Nat) (o : Nat) (H : Heap) (locs : List Loc) : Prop := ∃ (S T : zSt) (tx : List Nat) (u : zU) (f : Nat → Int64), RelT tx S T ∧ zOkB tx u ∧ zSe (zAL s) q qm u.1 o ∧ zLw D cy q qm o S T (nI tx.length) u f H ∧ va_S (zAL s) s.heap H locs
theorem zn_add {i j : Nat} : nI i + nI j = nI (i + j) := z_addI
theorem zl_in {i L j : Nat} (h : i + 6 ≤ L) (hL : L ≤ 3072) (hj : j < 6) : vp_in (nI i + nI j) L := by
  rw [z_addI]
  exact vp_in_nI (by omega) (by omega)
theorem zl_more {i L : Nat} (hL : L ≤ 3072) (hi : i ≤ 4000) (h : ¬ nI L - 6 < nI i) : i + 6 ≤ L := by
  by_cases h6 : 6 ≤ L
  · have e : nI L - 6 = nI (L - 6) := by
      have : nI (L - 6) + nI 6 = nI L := by rw [z_addI, Nat.sub_add_cancel h6]
      rw [← this, show (6 : Int32) = nI 6 from rfl, Int32.add_sub_cancel]
    rw [e] at h
    by_cases q : i + 6 ≤ L
    · exact q
    · exact absurd (nI_lt (a := L - 6) (b := i) (by omega) (by omega)) h
  · exfalso
    apply h
    have key : ∀ L, L < 6 → nI L - 6 < 0 := by decide
    have h1 := key L (by omega)
    have h2 : (0 : Int32) ≤ nI i := nI_pos' (by omega)
    simp only [Int32.lt_iff_toInt_lt, Int32.le_iff_toInt_le] at *
    omega
