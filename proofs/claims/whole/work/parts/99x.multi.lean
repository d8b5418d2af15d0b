/-! six rows of twelve, at once -/
def zML (cy : Nat → ClassId) (q : Nat → Nat) : va_W := [(q 0, .inl (cy 7, 6, .inr (.inr (.inr (.inr (fun i => [q 1, q 2, q 3, q 4, q 5, q 6][i]?)))))), (q 1, .inl (cy 0, 12, .inl (fun _ => 0))), (q 2, .inl (cy 0, 12, .inl (fun _ => 0))), (q 3, .inl (cy 0, 12, .inl (fun _ => 0))), (q 4, .inl (cy 0, 12, .inl (fun _ => 0))), (q 5, .inl (cy 0, 12, .inl (fun _ => 0))), (q 6, .inl (cy 0, 12, .inl (fun _ => 0)))]
theorem zML_at {cy : Nat → ClassId} {q : Nat → Nat} {k : Nat} {x : Nat × va_E} (h : (zML cy q)[k]? = some x) : k < 7 ∧ x.1 = q k := by
  have hk : k < 7 := (List.getElem?_eq_some_iff.mp h).1
  refine ⟨hk, ?_⟩
  rcases (show k = 0 ∨ k = 1 ∨ k = 2 ∨ k = 3 ∨ k = 4 ∨ k = 5 ∨ k = 6 by omega) with rfl | rfl | rfl | rfl | rfl | rfl | rfl <;> (cases h; rfl)
theorem z_outer (cA : ClassId) (h0 : Nat) : zwO cA h0 6 = arrV cA 6 (fun j => va_rf ([h0 + 1, h0 + 2, h0 + 3, h0 + 4, h0 + 5, h0 + 6][j]?)) := by
  unfold zwO arrV
  congr 1
section ZMu
variable {p : Program} {l : Launch} {e : Env} {R : Room} {s : State} {m : MethodId} {args : Array Value} {below : List Frame} {meth : Method} {c : Code} {H : Heap} {locs : List Loc} {cells slots : Nat} {Q : State → Prop}
variable {own : String} {cc : ByteArray} {nL pc index : Nat} {ls : Array Slot} {rest : List Value} {D : va_G} {cy : Nat → ClassId} {A : Nat → Prop} {ws : va_W}
theorem zr_multi (cx : zX own cc nL p s m args c D cy) (hO : zOv (.array .int) s) (w1 : Cond.classLink own index "[[I" ∈ zTB) (w3 : Cond.arrayClass .int ∈ zTB) (hP : va_P D vwCl ws H) (hD : va_D A ws) (hS : va_S A s.heap H locs) (hA : ∀ q, s.heap.size ≤ q → A q) (hcells : cells + 7 ≤ R.cells) (hslots : slots + 78 ≤ R.slots) (hdg : decode cc pc = .ok (.multianewarray index 2, 4))
    (kk : ∀ (q : Nat → Nat) (H1 : Heap), va_P D vwCl (ws ++ zML cy q) H1 → va_D A (ws ++ zML cy q) → va_S A s.heap H1 locs → W p l e R s m args below meth c H1 locs (cells + 7) (slots + 78) Q (F0 m (pc + 4) ls (.ref (q 0) :: rest))) : W p l e R s m args below meth c H locs cells slots Q (F0 m pc ls (.int 12 :: .int 6 :: rest)) := by
  obtain ⟨hx, hb, -, hown, hts, hK, -⟩ := cx
  intro T hT X
  subst hT
  obtain ⟨vm₁, cA, comp, hfA, hfC, X1, st⟩ := zw_multi X hx (own := own) (index := index) hown (hts _ w1) hO (hts _ w3) (g := F0 m pc ls (.int 12 :: .int 6 :: rest)) rfl (by rw [hb]; exact hdg) (rest := rest) rfl hcells hslots
  have a1 : cA = cy 7 := Option.some.inj (hfA.symm.trans (hK.2 7 _ rfl).2)
  have b1 : comp = cy 0 := Option.some.inj (hfC.symm.trans (hK.2 0 _ rfl).2)
  subst a1
  subst b1
  have f1 : (zwF (T.setVm vm₁) (zwO (cy 7) T.heap.size 6) (zwI (cy 0)) 6).heap.size = T.heap.size + 1 + 6 := zwF_size (T.setVm vm₁) _ _ 6
  have f2 : (zwF (T.setVm vm₁) (zwO (cy 7) T.heap.size 6) (zwI (cy 0)) 6).heap[T.heap.size]? = some (zwO (cy 7) T.heap.size 6) := zwF_at (T.setVm vm₁) _ _ 6
  have fo : ∀ a : Nat, a < T.heap.size → (zwF (T.setVm vm₁) (zwO (cy 7) T.heap.size 6) (zwI (cy 0)) 6).heap[a]? = T.heap[a]? := fun a ha => zwF_old (T.setVm vm₁) _ _ ha 6
  have fi : ∀ j, j < 6 → (zwF (T.setVm vm₁) (zwO (cy 7) T.heap.size 6) (zwI (cy 0)) 6).heap[T.heap.size + 1 + j]? = some (arrV (cy 0) 12 (fun _ => .int 0)) := fun j hj => zwF_in (T.setVm vm₁) _ _ 6 j hj
  generalize zwF (T.setVm vm₁) (zwO (cy 7) T.heap.size 6) (zwI (cy 0)) 6 = T1 at f1 f2 fo fi X1 st
  rw [z_outer] at f2
  obtain ⟨t, a1, b1⟩ := kk (fun i => T.heap.size + i) T1.heap ((hP.kept (fun k x hx => fo x.1 (hP k x hx).lt)).app (fun k x hx => by
    have hk := (zML_at hx).1
    rcases (show k = 0 ∨ k = 1 ∨ k = 2 ∨ k = 3 ∨ k = 4 ∨ k = 5 ∨ k = 6 by omega) with rfl | rfl | rfl | rfl | rfl | rfl | rfl <;> cases hx
    · exact f2
    · exact fi 0 (by omega)
    · exact fi 1 (by omega)
    · exact fi 2 (by omega)
    · exact fi 3 (by omega)
    · exact fi 4 (by omega)
    · exact fi 5 (by omega))) (va_D.app hD ⟨fun i j x y hx hy hxy => by
      have h1 := zML_at hx
      have h2 := zML_at hy
      have := h1.2.symm.trans (hxy.trans h2.2)
      omega, fun k x hx => by
      rw [(zML_at hx).2]
      exact hA _ (Nat.le_trans hS.1 (Nat.le_add_right _ _))⟩ (fun i j x y hx hy hxy => by
      have h1 := (hP i x hx).lt
      have h2 := (zML_at hy).2
      omega)) ⟨Nat.le_trans hS.1 (by omega), fun x h1 h2 => (fo x (Nat.lt_of_lt_of_le h1 hS.1)).trans (hS.2.1 x h1 h2), hS.2.2⟩ T1 rfl X1
  exact ⟨t, st t a1, b1⟩
end ZMu
