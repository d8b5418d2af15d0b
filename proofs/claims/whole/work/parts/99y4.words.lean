/-! the String constants: words of their readers -/
abbrev zPe (D : va_G) (cy : Nat → ClassId) (kK kV : Nat → Nat) (A : Nat → Prop) : State → Prop := fun U => (va_K D vwCl (zTy cy) U ∧ zKN U) ∧ zEn kK kV A U
theorem zPe_bl {D : va_G} {cy : Nat → ClassId} {kK kV : Nat → Nat} {A : Nat → Prop} : zBl (zPe D cy kK kV A) := fun a U g mk h => ⟨⟨va_K.moved (u := U) (U := U.calling g mk a) (Vm.Alike.refl U.vm) h.1.1, zKN_same (s := U) (U := U.calling g mk a) rfl h.1.2⟩, zEn_bl a U g mk h.2⟩
def zSu : Array Value → State → Outcome → State → Prop := fun _ st o t => o = .returned none ∧ t.heap = st.heap
abbrev zMu (l : Launch) (y : MethodName) (bytes : ByteArray) (maxL : Nat) (rm : Room) (As : List Value) (pre : State → Prop) : Prop := Met l y (Cond.code y bytes maxL none :: zTB) rm (va_Pc As pre) zSu 0 0 (fun _ => False)
section ZSt
variable {p : Program} {l : Launch} {e : Env} {R rm : Room} {s : State} {m : MethodId} {args : Array Value} {below : List Frame} {meth : Method} {c : Code} {H : Heap} {locs : List Loc} {cells slots : Nat} {Q : State → Prop}
variable {own host : String} {cc bytes : ByteArray} {nL pc maxL n i : Nat} {ret : Option FieldType} {ls : Array Slot} {rest As st0 : List Value} {D : va_G} {cy : Nat → ClassId} {A : Nat → Prop} {y : MethodName} {index : Nat} {kK kV : Nat → Nat} {pre : State → Prop} {ty : FieldType}
theorem zr_reN (cx : zX own cc nL p s m args c D cy) (hr : meth.sig.returnType = some ty) (hlocks : meth.locks = false) {v r : Int32} (hv : v = r) (hn : narrow ty (.int v) = .int v) (hdg : decode cc pc = .ok (.ireturn, 1)) : W p l e R s m args below meth c s.heap [] 0 0 (MQ below (vp_Si (fun x => x = r)) args s 0 0 (fun _ => False)) (F0 m pc ls [.int v]) := by
  subst hv
  exact W.zret cx.1 cx.2.1 hr hn (fun t ht _ => ⟨v, rfl, rfl, ht⟩) (fun _ h => by cases h) hdg hlocks
theorem zr_reU (cx : zX own cc nL p s m args c D cy) (hr : meth.sig.returnType = none) (hlocks : meth.locks = false) (hdg : decode cc pc = .ok (.return_, 1)) : W p l e R s m args below meth c s.heap [] 0 0 (MQ below zSu args s 0 0 (fun _ => False)) (F0 m pc ls []) :=
  W.vret cx.1 cx.2.1 hr (fun t ht _ => ⟨rfl, ht⟩) (fun _ h => by cases h) hdg hlocks
theorem zr_SU (cx : zX own cc nL p s m args c D cy) (cv : zCS own index y bytes maxL none n) (hM : zMu l y bytes maxL rm As pre) (hR : zRm rm R maxL) (hRc : zRc cells slots R) (hp : PreS s H (va_Pc As pre) As) (hl : ls.size = nL) (hn : As.length = n) (hst : st0 = As.reverse ++ rest) (hW : (rest.map fun v => v.category).sum ≤ 8) (hdg : decode cc pc = .ok (.invokestatic index, 3))
    (kk : W p l e R s m args below meth c H locs cells slots Q (F0 m (pc + 3) ls rest)) : W p l e R s m args below meth c H locs cells slots Q (F0 m pc ls st0) := by
  intro T hT X
  obtain ⟨v, st₀, t, T', L, h0, X', hL, e1, ⟨hv, hh⟩, st⟩ := W.runS (zr_fix cx) hM (zr_cwS cx cv hR) hp rfl hn hl hst (lv_room hW) hdg hRc T hT X
  cases hv
  obtain ⟨t2, a1, b1⟩ := kk T' (by rw [e1, hh, h0]) (Stand.forget X' (fun q h => (hL q h).elim))
  exact ⟨t2, st t2 a1, b1⟩
theorem zr_preE (cx : zX own cc nL p s m args c D cy) (hE : zEn kK kV A s) (hS : va_S A s.heap H locs) {B : Nat → Prop} (hB : ∀ q, B q → A q) : PreS s H (va_Pc As (zPe D cy kK kV B)) As :=
  zr_preS zPe_bl (fun U hU hW => ⟨⟨va_K.moved hW.alike cx.2.2.2.2.2.1, zKN_warm hW cx.2.2.2.2.2.2⟩, (hE.at hS.2.1 hU hW).narrow hB⟩)
theorem zr_preKs (cx : zX own cc nL p s m args c D cy) (hE : zEn kK kV A s) (hS : va_S A s.heap H locs) (hi : i < 4) : PreV s H "java/lang/String" (kK i) (va_Pc (.ref (kK i) :: As) (zPe D cy kK kV (fun _ => False))) As :=
  ⟨fun a U g mk h => ⟨h.1, zPe_bl a U g mk h.2⟩, vk_recv hE.2.2.1 hi hS, fun U hU hW => ⟨rfl, ⟨va_K.moved hW.alike cx.2.2.2.2.2.1, zKN_warm hW cx.2.2.2.2.2.2⟩, (hE.at hS.2.1 hU hW).narrow (fun _ h => h.elim)⟩⟩
end ZSt
theorem zLen_sh : ∀ i, i < 4 → (Int32.ofNat (zLen.getD i 0)) >>> ((0 : Int32) &&& 31) = nI (zLen.getD i 0) := by decide
theorem zLen_le : ∀ i, i < 4 → zLen.getD i 0 < 200 := by decide
theorem zByt_ch : ∀ i, i < 4 → ∀ k, k < zLen.getD i 0 → zI2c ((zByt.getD i []).getD k 0 &&& 255) = (zByt.getD i []).getD k 0 ∧ narrow .char (.int ((zByt.getD i []).getD k 0)) = .int ((zByt.getD i []).getD k 0) := by decide +kernel
