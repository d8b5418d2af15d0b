/-! more calls on the builder -/
theorem z_addI {a b : Nat} : nI a + nI b = nI (a + b) := by
  unfold nI
  rw [Int32.ofNat_add]
theorem nI_dec {n : Nat} : nI (n + 1) + (-1) = nI n := by
  rw [← Int32.sub_eq_add_neg, nI_pred]
theorem shl0 {n : Nat} (h : n < 200) : nI n <<< ((0 : Int32) &&& 31) = nI n := by
  have key : ∀ n, n < 200 → nI n <<< ((0 : Int32) &&& 31) = nI n := by decide +kernel
  exact key n h
theorem shr0 {n : Nat} (h : n < 200) : nI n >>> ((0 : Int32) &&& 31) = nI n := by
  have key : ∀ n, n < 200 → nI n >>> ((0 : Int32) &&& 31) = nI n := by decide +kernel
  exact key n h
abbrev zMg (l : Launch) (y : MethodName) (bytes : ByteArray) (maxL : Nat) (ret : Option FieldType) (rm : Room) (As : List Value) (D : va_G) (cy : Nat → ClassId) (kK kV : Nat → Nat) (A : Nat → Prop) (ws ws' : va_W) : Prop :=
  Met l y (Cond.code y bytes maxL ret :: zTB) rm (va_Pc As (zPf D cy kK kV A ws)) (va_Qi (fun (_ : Int32) (_ : Unit) => True) (fun _ t => va_P D vwCl ws' t.heap) A) 0 0 A
section ZB4
variable {p : Program} {l : Launch} {e : Env} {R rm : Room} {s : State} {m : MethodId} {args : Array Value} {below : List Frame} {meth : Method} {c : Code} {H : Heap} {locs : List Loc} {cells slots : Nat} {Q : State → Prop}
variable {own : String} {cc bytes : ByteArray} {nL pc maxL n i : Nat} {ret : Option FieldType} {ls : Array Slot} {rest As st0 : List Value} {D : va_G} {cy : Nat → ClassId} {A A0 : Nat → Prop} {y : MethodName} {index b : Nat} {kK kV : Nat → Nat} {ws ws' : va_W} {fs : List Value} {cnt : Int32} {u : zU}
theorem zr_gS (cx : zX own cc nL p s m args c D cy) (cv : zCS own index y bytes maxL ret n) (hM : zMg l y bytes maxL ret rm As D cy kK kV A ws ws') (hR : zRm rm R maxL) (hRc : zRc cells slots R) (hE : zEn kK kV A0 s) (hB : ∀ q, A q → A0 q) (hF : ∀ q, H.size ≤ q → A q) (hP : va_P D vwCl ws H) (hS : va_S A0 s.heap H locs) (hl : ls.size = nL) (hn : As.length = n) (hst : st0 = As.reverse ++ rest) (hW : (rest.map fun v => v.category).sum ≤ 8) (hdg : decode cc pc = .ok (.invokestatic index, 3))
    (kk : ∀ (x : Int32) (H1 : Heap) (locs1 : List Loc), va_P D vwCl ws' H1 → H.size ≤ H1.size → (∀ q : Nat, q < H.size → ¬ A q → H1[q]? = H[q]?) → va_S A0 s.heap H1 locs1 → W p l e R s m args below meth c H1 locs1 cells slots Q (F0 m (pc + 3) ls (.int x :: rest))) : W p l e R s m args below meth c H locs cells slots Q (F0 m pc ls st0) :=
  va_calli (va_runS (zr_fix cx) hM (zr_cwS cx cv hR) (zr_preS zPf_bl (zr_pf cx hE hS hB hF hP)) rfl hn hl hst (lv_room hW) hdg hRc) hS (fun q _ h => hB q h) hB (fun x _ t H1 locs1 ht _ _ hb hz hk hS1 => by
    subst ht
    exact kk x _ _ hb hz hk hS1)
/-- a String constant's method that writes the builder's row -/
theorem zr_kW (cx : zX own cc nL p s m args c D cy) (cv : zCV own "java/lang/String" index y bytes maxL none n) (hi : i < 4) (hM : zMw l y bytes maxL rm (.ref (kK i) :: As) D cy kK kV A ws ws') (hR : zRm rm R maxL) (hRc : zRc cells slots R) (hE : zEn kK kV A0 s) (hB : ∀ q, A q → A0 q) (hF : ∀ q, H.size ≤ q → A q) (hP : va_P D vwCl ws H) (hS : va_S A0 s.heap H locs) (hl : ls.size = nL) (hn : As.length = n) (hst : st0 = As.reverse ++ .ref (kK i) :: rest) (hW : (rest.map fun v => v.category).sum ≤ 8) (hdg : decode cc pc = .ok (.invokevirtual index, 3))
    (kk : ∀ (H1 : Heap) (locs1 : List Loc), va_P D vwCl ws' H1 → H.size ≤ H1.size → (∀ q : Nat, q < H.size → ¬ A q → H1[q]? = H[q]?) → va_S A0 s.heap H1 locs1 → W p l e R s m args below meth c H1 locs1 cells slots Q (F0 m (pc + 3) ls rest)) : W p l e R s m args below meth c H locs cells slots Q (F0 m pc ls st0) := by
  have h1 : rm.cells = 0 := hR.1.1
  have h2 : rm.slots = 0 := hR.1.2
  have hM' : Met l y (Cond.code y bytes maxL none :: zTB) rm (va_Pc (.ref (kK i) :: As) (zPf D cy kK kV A ws)) (va_Qv (fun (_ : Unit) => True) (fun _ t => va_P D vwCl ws' t.heap) A) 0 0 A := by
    have := hM
    unfold zMw at this
    rw [h1, h2] at this
    exact this
  refine va_callv (va_runV (zr_fix cx) hM' (zr_cwV cx cv hR) ⟨fun a U g mk h => ⟨h.1, zPf_bl a U g mk h.2⟩, vk_recv hE.2.2.1 hi hS, fun U hU hW => ⟨rfl, zr_pf cx hE hS hB hF hP U hU hW⟩⟩ rfl hn hl hst (lv_room hW) hdg hRc) hS (fun q _ h => hB q h) hB (fun _ t H1 locs1 ht _ _ hb hz hk hS1 => ?_)
  subst ht
  exact kk _ _ hb hz hk hS1
end ZB4
