/-! the same cells in another order -/
theorem z_Pm {D : va_G} {cl : List vw_C} {ws : va_W} {H : Heap} : va_P D cl ws H ↔ ∀ x ∈ ws, va_at D cl x H := by
  constructor
  · intro h x hx
    obtain ⟨k, hk, e⟩ := List.mem_iff_getElem.mp hx
    exact h k x (by rw [List.getElem?_eq_getElem hk, e])
  · intro h k x hx
    exact h x (List.mem_of_getElem? hx)
theorem z_Dm {A : Nat → Prop} {ws : va_W} : va_D A ws ↔ ws.Pairwise (fun x y => x.1 ≠ y.1) ∧ ∀ x ∈ ws, A x.1 := by
  constructor
  · intro h
    refine ⟨?_, fun x hx => ?_⟩
    · rw [List.pairwise_iff_getElem]
      intro i j hi hj hij e
      have := h.1 i j _ _ (List.getElem?_eq_getElem hi) (List.getElem?_eq_getElem hj) e
      omega
    · obtain ⟨k, hk, e⟩ := List.mem_iff_getElem.mp hx
      exact h.2 k x (by rw [List.getElem?_eq_getElem hk, e])
  · rintro ⟨h1, h2⟩
    refine ⟨fun i j x y hx hy e => ?_, fun k x hx => h2 x (List.mem_of_getElem? hx)⟩
    rw [List.pairwise_iff_getElem] at h1
    obtain ⟨hi, ei⟩ := List.getElem?_eq_some_iff.mp hx
    obtain ⟨hj, ej⟩ := List.getElem?_eq_some_iff.mp hy
    rcases Nat.lt_trichotomy i j with h | h | h
    · exact absurd (by rw [ei, ej]; exact e) (h1 i j hi hj h)
    · exact h
    · exact absurd (by rw [ei, ej]; exact e.symm) (h1 j i hj hi h)
theorem z_perm {D : va_G} {cl : List vw_C} {A : Nat → Prop} {ws ws' : va_W} {H : Heap} (hp : ws.Perm ws') (hP : va_P D cl ws H) (hD : va_D A ws) : va_P D cl ws' H ∧ va_D A ws' := by
  rw [z_Pm] at hP ⊢
  rw [z_Dm] at hD ⊢
  exact ⟨fun x hx => hP x (hp.mem_iff.mpr hx), (hp.pairwise_iff (fun h => Ne.symm h)).mp hD.1, fun x hx => hD.2 x (hp.mem_iff.mpr hx)⟩
theorem z_second {D : va_G} {cl : List vw_C} {A : Nat → Prop} {x y : Nat × va_E} {X : va_W} {H : Heap} (hP : va_P D cl ((x :: X) ++ [y]) H) (hD : va_D A ((x :: X) ++ [y])) : va_P D cl (x :: y :: X) H ∧ va_D A (x :: y :: X) := z_perm ((List.perm_append_singleton y X).cons x) hP hD
theorem z_get2 {x y z : Nat × va_E} {X B : va_W} : (x :: y :: (X ++ (z :: B)))[X.length + 2]? = some z := by
  rw [show X.length + 2 = X.length + 1 + 1 from rfl, List.getElem?_cons_succ, List.getElem?_cons_succ, List.getElem?_append_right (Nat.le_refl _), Nat.sub_self]
  rfl
