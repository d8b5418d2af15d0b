/-! the reference's constructor -/
def tNew : zSt := zPut (zI (zI t8 2 4 6) 2 5 2) 2 (rSo ((zI (zI t8 2 4 6) 2 5 2).1 2))
def mIni : List Value := [.int 0, .null, .int 0, .int 0, .int 0, .int 0, .int 0, .int 0, .int 0, .int 0, .int 0, .int 0, .long 0, .int 0, .null, .null, .null, .null, .null, .null, .null, .null, .null, .null, .int 0, .int 0, .int 0, .null, .null, .int 0, .null, .int 0, .int 0, .null, .int 0, .int 0, .null, .null, .int 0, .int 0, .null, .int 0, .int 0, .int 0, .int 0]
set_option maxHeartbeats 1000000 in
set_option maxRecDepth 100000 in
theorem mX12_init {l : Launch} {D : va_G} {cy : Nat → ClassId} (a sz : Nat) : Met l yX12_init (Cond.code yX12_init cX12_init 1 none :: zTB) { frames := 2, cells := 18, slots := 4189, locals := 40 } (va_Pc [.ref a] (fun U => U.heap.size = sz ∧ va_P D vwCl [(a, .inr (13, [.int 0, .null, .int 0, .int 0, .int 0, .int 0, .int 0, .int 0, .int 0, .int 0, .int 0, .int 0, .long 0, .int 0, .null, .null, .null, .null, .null, .null, .null, .null, .null, .null, .int 0, .int 0, .int 0, .null, .null, .int 0, .null, .int 0, .int 0, .null, .int 0, .int 0, .null, .null, .int 0, .int 0, .null, .int 0, .int 0, .int 0, .int 0]))] U.heap ∧ (va_K D vwCl (zTy cy) U ∧ zKN U) ∧ va_D (fun _ => True) [(a, .inr (13, [.int 0, .null, .int 0, .int 0, .int 0, .int 0, .int 0, .int 0, .int 0, .int 0, .int 0, .int 0, .long 0, .int 0, .null, .null, .null, .null, .null, .null, .null, .null, .null, .null, .int 0, .int 0, .int 0, .null, .null, .int 0, .null, .int 0, .int 0, .null, .int 0, .int 0, .null, .null, .int 0, .int 0, .null, .int 0, .int 0, .int 0, .int 0]))])) (va_Qv (fun (q : Nat → Nat) => q 0 = a) (fun q t => va_P D vwCl (zW zshM 19 cy q tNew) t.heap ∧ zQ (va_A [(a, .inr (13, [.int 0, .null, .int 0, .int 0, .int 0, .int 0, .int 0, .int 0, .int 0, .int 0, .int 0, .int 0, .long 0, .int 0, .null, .null, .null, .null, .null, .null, .null, .null, .null, .null, .int 0, .int 0, .int 0, .null, .null, .int 0, .null, .int 0, .int 0, .null, .int 0, .int 0, .null, .null, .int 0, .int 0, .null, .int 0, .int 0, .int 0, .int 0]))] sz) q 19) (va_A [(a, .inr (13, [.int 0, .null, .int 0, .int 0, .int 0, .int 0, .int 0, .int 0, .int 0, .int 0, .int 0, .int 0, .long 0, .int 0, .null, .null, .null, .null, .null, .null, .null, .null, .null, .null, .int 0, .int 0, .int 0, .null, .null, .int 0, .null, .int 0, .int 0, .null, .int 0, .int 0, .null, .null, .int 0, .int 0, .null, .int 0, .int 0, .int 0, .int 0]))] sz)) 18 4189 (va_A [(a, .inr (13, [.int 0, .null, .int 0, .int 0, .int 0, .int 0, .int 0, .int 0, .int 0, .int 0, .int 0, .int 0, .long 0, .int 0, .null, .null, .null, .null, .null, .null, .null, .null, .null, .null, .int 0, .int 0, .int 0, .null, .null, .int 0, .null, .int 0, .int 0, .null, .int 0, .int 0, .null, .null, .int 0, .int 0, .null, .int 0, .int 0, .int 0, .int 0]))] sz) := by
  refine Met.ofW (cc := cX12_init) (maxL := 1) (ret := none) (by decide) rfl ?_
  intro p e s m args below meth c s₁ B hml hv
  obtain ⟨rfl, hsz, hP, hK, hD0⟩ := hv
  have cx : zX RX12 cX12_init 1 p s m ([.ref a]).toArray c D cy := ⟨B.exec, B.bytes, hml, findClass_of_methodNamed B.named, fun w hw => atoms_spec (ws := Cond.code yX12_init cX12_init 1 none :: zTB) B.pre w (List.mem_cons_of_mem _ hw), hK⟩
  have hx := cx.1
  have hb := cx.2.1
  have hr := B.returns
  have hlk := B.notSynchronized
  have hin : meth.name = "<init>" := (name_of_methodNamed B.named B.method).1
  subst hsz
  have hD := hD0.self (sz := s.heap.size)
  generalize hAe : va_A [(a, .inr (13, [.int 0, .null, .int 0, .int 0, .int 0, .int 0, .int 0, .int 0, .int 0, .int 0, .int 0, .int 0, .long 0, .int 0, .null, .null, .null, .null, .null, .null, .null, .null, .null, .null, .int 0, .int 0, .int 0, .null, .null, .int 0, .null, .int 0, .int 0, .null, .int 0, .int 0, .null, .null, .int 0, .int 0, .null, .int 0, .int 0, .int 0, .int 0]))] s.heap.size = A at hD ⊢
  have hA : ∀ q, s.heap.size ≤ q → A q := fun q h => by rw [← hAe]; exact Or.inr h
  have hS : va_S A s.heap s.heap [] := va_S.rf
  have hl := lv_entry ([.ref a]) (n := 1) (Nat.le_of_ble_eq_true rfl)
  rw [lg_entry_eq]
  generalize (lg_sl ([.ref a]) ++ List.replicate (1 - (lg_sl ([.ref a])).length) Slot.unset).toArray = ls at hl ⊢
  have hl : lv_has ls 1 [(0, .ref a)] := hl
  refine lv_aload_n (pc := 0) hx hb dX12_init_0 rfl (lv_at hl 0 rfl) ?_
  refine W.objInit hx hb cx.2.2.2.1 (cx.2.2.2.2.1 _ wd_1480) (cx.2.2.2.2.1 _ wd_36) (cx.2.2.2.2.1 _ wd_37) rfl (by rw [hml]; exact hl.1) rfl dX12_init_1 (Nat.le_of_ble_eq_true rfl) (Nat.le_of_ble_eq_true rfl) ?_
  refine W.eq (g2 := F0 m 4 ls []) rfl ?_
  refine wX12_init cx hin hA hl (Nat.le_refl _) (Nat.le_refl _) hP hD hS (fun q1 q2 q3 q4 q5 q6 q7 q8 q9 q10 q11 q12 q13 q14 q15 q16 q17 q18 H locs hP hD hS => ?_)
  rw [← zW_model cy a q1 q2 q3 q4 q5 q6 q7 q8 q9 q10 q11 q12 q13 q14 q15 q16 q17 q18] at hP hD
  generalize hqe : (fun k => [a, q1, q2, q3, q4, q5, q6, q7, q8, q9, q10, q11, q12, q13, q14, q15, q16, q17, q18].getD k 0) = q at hP hD
  have hq0 : q 0 = a := by rw [← hqe]; rfl
  have hq := zQ_list hD
  rw [← hq0] at hl
  refine lv_aload_n (pc := 162) hx hb dX12_init_162 rfl (lv_at hl 0 rfl) ?_
  refine zr_getR (pc := 163) (t := 2) cx lk_X12_98 hP nM_0 sM_0 rfl dX12_init_163 ?_
  refine lv_iconst (pc := 166) hx hb dX12_init_166 zc_4 ?_
  refine lv_bipush (pc := 167) hx hb dX12_init_167 zb_6 ?_
  refine zr_iast (pc := 169) cx hq hP hS nM_2 sM_2 (show zIx 4 406 = true by decide) dX12_init_169 (fun H locs hP hS => ?_)
  refine lv_aload_n (pc := 170) hx hb dX12_init_170 rfl (lv_at hl 0 rfl) ?_
  refine zr_getR (pc := 171) (t := 2) cx lk_X12_98 hP nM_0 sM_0 rfl dX12_init_171 ?_
  refine lv_iconst (pc := 174) hx hb dX12_init_174 zc_5 ?_
  refine lv_iconst (pc := 175) hx hb dX12_init_175 zc_2 ?_
  refine zr_iast (pc := 176) cx hq hP hS nM_2 sM_2 (show zIx 5 406 = true by decide) dX12_init_176 (fun H locs hP hS => ?_)
  refine lv_aload_n (pc := 177) hx hb dX12_init_177 rfl (lv_at hl 0 rfl) ?_
  refine zr_VV (pc := 178) (rest := []) cx cv_X12_157 (mX12_startSo hq m_startSo) ⟨⟨rfl, rfl⟩, Nat.le_of_ble_eq_true rfl, Nat.le_of_ble_eq_true rfl⟩ ⟨Nat.le_of_ble_eq_true rfl, Nat.le_of_ble_eq_true rfl⟩ hP hS nM_0 sM_0 rfl hl.1 rfl rfl (Nat.le_of_ble_eq_true rfl) dX12_init_178 (fun H locs hP hS => ?_)
  exact W.vret (pc := 181) hx hb hr (fun t ht hW => ⟨⟨q, rfl, hq0, by rw [ht]; exact hP, hq⟩, hS.F ht⟩) hS.2.2 dX12_init_181
