/-! card: the reference's text -/
section Card
theorem lN_toI {a : Nat} (h : a < 2 ^ 36) : (lN a).toInt = a := by
  unfold lN
  rw [Int64.toInt_ofNat_of_lt (by omega)]
theorem lN_div27 {a : Nat} (h : a < 2 ^ 36) : lN a / 27 = lN (a / 27) := by
  apply Int64.toInt_inj.mp
  rw [Int64.toInt_div, lN_toI h, lN_toI (by omega), show Int64.toInt 27 = 27 from rfl, Int.tdiv_eq_ediv_of_nonneg (by omega)]
  have : ((a : Int) / 27) = ((a / 27 : Nat) : Int) := by omega
  rw [this, Int.bmod_eq_of_le (by omega) (by omega)]
theorem lN_cmp27 {a : Nat} (h : a < 2 ^ 36) : lg_cmp (lN a) 27 < 0 ↔ a < 27 := by
  unfold lg_cmp
  have e1 : lN a > 27 ↔ 27 < a := by
    show (27 : Int64) < lN a ↔ _
    rw [Int64.lt_iff_toInt_lt, lN_toI h, show Int64.toInt 27 = 27 from rfl]
    omega
  by_cases q : 27 < a
  · rw [if_pos (e1.mpr q)]
    exact ⟨fun z => absurd z (by decide), fun z => by omega⟩
  · rw [if_neg (fun z => q (e1.mp z))]
    by_cases q2 : a = 27
    · rw [q2, if_pos (show lN 27 = 27 from rfl)]
      exact ⟨fun z => absurd z (by decide), fun z => by omega⟩
    · have : ¬ lN a = 27 := fun z => by
        have := congrArg Int64.toInt z
        rw [lN_toI h, show Int64.toInt 27 = 27 from rfl] at this
        omega
      rw [if_neg this]
      exact ⟨fun _ => by omega, fun _ => by decide⟩
theorem lN_mod27 {a : Nat} (h : a < 2 ^ 36) : lN a - lN a / 27 * 27 = lN (a % 27) := by
  have e : lN a = lN (a % 27) + lN (a / 27) * 27 := by
    rw [show (27 : Int64) = lN 27 from rfl]
    unfold lN
    rw [← Int64.ofNat_mul, ← Int64.ofNat_add]
    congr 1
    omega
  rw [lN_div27 h]
  rw [e, Int64.add_sub_cancel]
theorem lN_i32 : ∀ k, k < 27 → (96 : Int32) + (lN k).toInt32 = nI (96 + k) := by decide +kernel
def tX (tx : List Nat) (T0 T : zSt) : Prop := T.2 = T0.2 ∧ (∀ c, c ≠ 0 → c ≠ 15 → T.1 c = T0.1 c) ∧ (∀ j, j ≠ 34 → T.1 0 j = T0.1 0 j) ∧ T.1 0 34 = nI tx.length ∧ ∀ i x, tx[i]? = some x → T.1 15 i = nI x
variable {T0 T : zSt} {tx : List Nat}
theorem m_write (h : tX tx T0 T) (hl : tx.length < 64) (c : Nat) : ∃ T', fX12_write T (nI c) = some T' ∧ tX (tx ++ [c]) T0 T' := by
  obtain ⟨h1, h2, h3, h4, h5⟩ := h
  refine ⟨zI (zI T 15 tx.length (nI c)) 0 34 (nI (tx.length + 1)), ?_, h1, fun x x0 x15 => by rw [zI_ne x0, zI_ne x15, h2 x x0 x15], fun j hj => by rw [zI_at, if_neg (by omega), zI_ne (by omega), h3 j hj], ?_, fun i x hx => ?_⟩
  · unfold fX12_write
    rw [h4, zIx_nI hl (by omega), zGd_t, nI_clamp (by omega), zLt_s, zI_ne (show 0 ≠ 15 by omega), h4, nI_1, zLt_s]
  · rw [zI_at, if_pos ⟨rfl, rfl⟩, List.length_append]; rfl
  · rw [zI_ne (by omega)]
    by_cases q : i < tx.length
    · rw [List.getElem?_append_left q] at hx
      rw [zI_at, if_neg (by omega)]
      exact h5 i x hx
    · rw [List.getElem?_append_right (by omega)] at hx
      have hi : i - tx.length = 0 := by
        have := (List.getElem?_eq_some_iff.mp hx).1
        simp only [List.length_singleton] at this
        omega
      rw [hi] at hx
      cases Option.some.inj hx
      rw [zI_at, if_pos ⟨rfl, by omega⟩]
theorem m_word : ∀ (r : List Nat) (d : Nat) (T : zSt), r ≠ [] → dOk r.reverse → r.length ≤ 7 → r.length ≤ d → tX tx T0 T → tx.length + r.length ≤ 64 → ∃ T', gWW d 0 T (lN (f27 r.reverse)) = some T' ∧ tX (tx ++ r.reverse.map (fun c => 96 + c)) T0 T'
  | [], _, _, h, _, _, _, _, _ => absurd rfl h
  | c :: r, 0, _, _, _, _, hd, _, _ => by simp at hd
  | c :: r, d + 1, T, _, ok, h7, hd, ht, hl => by
    have ok' : dOk r.reverse := fun x hx => ok x (by rw [List.reverse_cons]; exact List.mem_append_left _ hx)
    have hc : 1 ≤ c ∧ c ≤ 26 := ok c (by rw [List.reverse_cons]; exact List.mem_append_right _ (List.mem_singleton.mpr rfl))
    have lt := f27_lt ok (by rw [List.length_reverse]; exact h7)
    rw [List.reverse_cons, f27_s] at lt
    rw [List.length_cons] at h7 hd hl
    show ∃ T', fX12_writeWord (gWW d) T _ = some T' ∧ _
    rw [List.reverse_cons, f27_s, List.map_append]
    have last : ∀ T1 tx1, tX tx1 T0 T1 → tx1.length < 64 → ∃ T', fX12_writeWord_17 (gWW d) T1 (lN (f27 r.reverse * 27 + c)) = some T' ∧ tX (tx1 ++ [96 + c]) T0 T' := fun T1 tx1 h1 h2 => by
      obtain ⟨T', e1, e2⟩ := m_write h1 h2 (96 + c)
      refine ⟨T', ?_, e2⟩
      unfold fX12_writeWord_17
      rw [lN_mod27 (by omega), show (f27 r.reverse * 27 + c) % 27 = c by omega, lN_i32 c (by omega), e1, zBd_s, show decide (¬ (27 : Int64) = 0) = true by decide, zGd_t]
    unfold fX12_writeWord
    cases r with
    | nil =>
      have e0 : f27 ([] : List Nat).reverse * 27 + c = c := by show 0 * 27 + c = c; omega
      obtain ⟨T', e1, e2⟩ := last T tx ht (by simp at hl; omega)
      rw [zBr_p ((lN_cmp27 (by omega)).mpr (by omega)), e1]
      exact ⟨T', rfl, e2⟩
    | cons c' r' =>
      have f1 : 1 ≤ f27 (c' :: r').reverse := by
        rw [List.reverse_cons, f27_s]
        have := ok' c' (by rw [List.reverse_cons]; exact List.mem_append_right _ (List.mem_singleton.mpr rfl))
        omega
      obtain ⟨T1, e1, e2⟩ := m_word (c' :: r') d T (by simp) ok' (by omega) (by omega) ht (by omega)
      obtain ⟨T2, e3, e4⟩ := last T1 _ e2 (by rw [List.length_append, List.length_map, List.length_reverse]; omega)
      rw [zBr_q (fun z => by have := (lN_cmp27 (by omega)).mp z; omega), lN_div27 (by omega), show (f27 (c' :: r').reverse * 27 + c) / 27 = f27 (c' :: r').reverse by omega, e1, zBd_s, e3, show decide (¬ (27 : Int64) = 0) = true by decide, zGd_t]
      refine ⟨T2, rfl, ?_⟩
      rw [← List.append_assoc]
      exact e4
end Card
