/-! the letters of a word -/
def shA (k : Nat) : Int32 := nI (5 * k) - 5
theorem shA_s : ∀ k, k < 7 → shA (k + 1) = nI (5 * k) ∧ shA (k + 1) + (-5) = shA k ∧ ¬ shA (k + 1) < 0 := by decide
theorem r32_dig : ∀ (w : List Nat) (s : Nat), dOk w → r32 w / 32 ^ s % 32 = (w[s]?).getD 0
  | [], s, _ => by
    show 0 / 32 ^ s % 32 = _
    simp
  | c :: w, 0, h => by
    have := h c (List.mem_cons_self ..)
    rw [r32_c]
    simp
    omega
  | c :: w, s + 1, h => by
    have h1 := h c (List.mem_cons_self ..)
    rw [r32_c, Nat.pow_succ, Nat.mul_comm (32 ^ s) 32, ← Nat.div_div_eq_div_mul, show (r32 w * 32 + c) / 32 = r32 w by omega, r32_dig w s (fun x hx => h x (List.mem_cons_of_mem _ hx))]
    rfl
/-- the letter at place k from the end, 0 where the word is shorter -/
def lAt (l : List Nat) (k : Nat) : Nat := (l.reverse[k]?).getD 0
theorem lAt_eq {l : List Nat} (ok : dOk l) (h7 : l.length ≤ 7) {k : Nat} (hk : k < 7) : ((zLus (lN (f32 l)) (shA (k + 1))) &&& (31 : Int64)).toInt32 = nI (lAt l k) := by
  have hn := f32_lt ok h7
  have h64 : f32 l < 2 ^ 64 := Nat.lt_of_lt_of_le hn (by decide)
  unfold zLus
  rw [(shA_s k hk).1, wb_shr h64 (by omega), show (31 : Int64) = lN (2 ^ 5 - 1) from rfl, wb_mask (Nat.lt_of_le_of_lt (Nat.div_le_self _ _) h64) (by decide)]
  have e : f32 l / 2 ^ (5 * k) % 2 ^ 5 = lAt l k := by
    rw [Nat.pow_mul, f32_r]
    exact r32_dig l.reverse k (fun x hx => ok x (List.mem_reverse.mp hx))
  rw [e]
  have hl : lAt l k < 32 := by rw [← e]; exact Nat.mod_lt _ (by decide)
  have key : ∀ x, x < 32 → (lN x).toInt32 = nI x := by decide
  exact key _ hl
theorem lAt_lt {l : List Nat} (ok : dOk l) (k : Nat) : lAt l k < 27 := by
  unfold lAt
  cases h : l.reverse[k]? with
  | none => decide
  | some x =>
    have := ok x (List.mem_reverse.mp (List.mem_of_getElem? h))
    show x < 27
    omega
theorem lAt_ch : ∀ c, c < 27 → zI2c (((97 : Int32) + nI c) - 1) = nI (96 + c) := by decide
/-- the text behind the letters above place k -/
def lTx (l : List Nat) (k : Nat) : List Nat := (l.take (l.length - k)).map (fun c => 96 + c)
theorem lTx_0 {l : List Nat} (k : Nat) (ok : dOk l) (h : lAt l k = 0) : lTx l k = lTx l (k + 1) := by
  unfold lAt at h
  have hk : l.length ≤ k := by
    by_cases q : k < l.length
    · have e : l.reverse[k]? = some (l.reverse[k]'(by rw [List.length_reverse]; exact q)) := List.getElem?_eq_getElem _
      rw [e] at h
      have h1 : (l.reverse[k]'(by rw [List.length_reverse]; exact q)) ∈ l := List.mem_reverse.mp (List.getElem_mem _)
      have := ok _ h1
      have h2 : (l.reverse[k]'(by rw [List.length_reverse]; exact q)) = 0 := h
      omega
    · omega
  unfold lTx
  rw [show l.length - k = 0 by omega, show l.length - (k + 1) = 0 by omega]
theorem lTx_s {l : List Nat} (k : Nat) (h : lAt l k ≠ 0) : lTx l k = lTx l (k + 1) ++ [96 + lAt l k] ∧ k < l.length := by
  unfold lAt at h ⊢
  have hk : k < l.length := by
    by_cases q : k < l.length
    · exact q
    · rw [List.getElem?_eq_none (by rw [List.length_reverse]; omega)] at h
      exact absurd rfl h
  refine ⟨?_, hk⟩
  unfold lTx
  have e : l.reverse[k]? = l[l.length - (k + 1)]? := by
    rw [List.getElem?_reverse hk]
    congr 1
    omega
  have e2 : l[l.length - (k + 1)]? = some (l[l.length - (k + 1)]'(by omega)) := List.getElem?_eq_getElem _
  rw [e, e2, show l.length - k = (l.length - (k + 1)) + 1 by omega, List.take_succ, e2, List.map_append]
  rfl
theorem lTx_7 {l : List Nat} (h7 : l.length ≤ 7) : lTx l 7 = [] := by
  unfold lTx
  rw [show l.length - 7 = 0 by omega]
  rfl
theorem lTx_e {l : List Nat} : lTx l 0 = l.map (fun c => 96 + c) := by
  unfold lTx
  rw [Nat.sub_zero, List.take_length]
theorem lTx_len {l : List Nat} (k : Nat) : (lTx l k).length = l.length - k := by
  unfold lTx
  rw [List.length_map, List.length_take]
  omega
