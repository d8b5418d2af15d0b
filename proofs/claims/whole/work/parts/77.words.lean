/-! the family wb of the kit's laws (bits of longs), pasted; then words as numbers -/
theorem wb_tb (n : Nat) : (lN n).toBitVec = BitVec.ofNat 64 n := rfl
theorem wb_inj {a b : Int64} (h : a.toBitVec = b.toBitVec) : a = b := Int64.toBitVec_inj.mp h
theorem wb_tn {n : Nat} (h : n < 2 ^ 64) : (lN n).toBitVec.toNat = n := by rw [wb_tb, BitVec.toNat_ofNat, Nat.mod_eq_of_lt h]
theorem wb_of (x : Int64) : ∃ n, n < 2 ^ 64 ∧ x = lN n := ⟨x.toBitVec.toNat, x.toBitVec.isLt, wb_inj (by rw [wb_tb]; simp)⟩
theorem wb_of32 (x : Int32) : ∃ n, n < 2 ^ 32 ∧ x = nI n := ⟨x.toBitVec.toNat, x.toBitVec.isLt, Int32.toBitVec_inj.mp (by show _ = BitVec.ofNat 32 _; simp)⟩
theorem wb_c : ∀ k, k < 64 → ((nI k).toInt64 &&& 63) = lN k := by decide +kernel
theorem wb_cu : ∀ k, k < 64 → ((nI k).toInt64.toUInt64 &&& Int64.toUInt64 63) = UInt64.ofNat k := by decide +kernel
theorem wb_sm : ∀ k, k < 64 → (BitVec.ofNat 64 k).smod 64 = BitVec.ofNat 64 k := by decide +kernel
theorem wb_pw {a b : Nat} (h : a ≤ b) : 2 ^ b = 2 ^ a * 2 ^ (b - a) := by rw [← Nat.pow_add]; congr 1; omega
theorem wb_lt2 {a b : Nat} (h : a < b) : 2 ^ a < 2 ^ b := Nat.pow_lt_pow_right (by decide) h
theorem wb_mod (n : Nat) : lN n = lN (n % 2 ^ 64) := wb_inj (by rw [wb_tb, wb_tb]; apply BitVec.eq_of_toNat_eq; rw [BitVec.toNat_ofNat, BitVec.toNat_ofNat, Nat.mod_mod])
theorem wb_shr {n k : Nat} (hn : n < 2 ^ 64) (hk : k < 64) : ((lN n).toUInt64 >>> ((nI k).toInt64.toUInt64 &&& Int64.toUInt64 63)).toInt64 = lN (n / 2 ^ k) := by
  rw [wb_cu k hk]
  apply wb_inj
  apply BitVec.eq_of_toNat_eq
  show ((lN n).toUInt64 >>> UInt64.ofNat k).toNat = (BitVec.ofNat 64 _).toNat
  have h1 : (UInt64.ofNat k).toNat = k := by
    show (BitVec.ofNat 64 k).toNat = k
    rw [BitVec.toNat_ofNat, Nat.mod_eq_of_lt (by omega)]
  have h2 : (lN n).toUInt64.toNat = n := wb_tn hn
  rw [UInt64.toNat_shiftRight, h1, h2, Nat.mod_eq_of_lt hk, Nat.shiftRight_eq_div_pow, BitVec.toNat_ofNat, Nat.mod_eq_of_lt (Nat.lt_of_le_of_lt (Nat.div_le_self _ _) hn)]
theorem wb_shl (n : Nat) {k : Nat} (hk : k < 64) : lN n <<< ((nI k).toInt64 &&& 63) = lN (n * 2 ^ k) := by
  rw [wb_c k hk]
  apply wb_inj
  rw [Int64.toBitVec_shiftLeft, wb_tb, wb_tb, wb_tb, wb_sm k hk]
  apply BitVec.eq_of_toNat_eq
  rw [BitVec.shiftLeft_eq', BitVec.toNat_shiftLeft, BitVec.toNat_ofNat, BitVec.toNat_ofNat, BitVec.toNat_ofNat, Nat.mod_eq_of_lt (show k < 2 ^ 64 by omega), Nat.shiftLeft_eq, Nat.mul_mod, Nat.mod_mod, ← Nat.mul_mod]
theorem wb_and {a b : Nat} (ha : a < 2 ^ 64) (hb : b < 2 ^ 64) : lN a &&& lN b = lN (a &&& b) := by
  apply wb_inj
  rw [Int64.toBitVec_and, wb_tb, wb_tb, wb_tb]
  apply BitVec.eq_of_toNat_eq
  rw [BitVec.toNat_and, BitVec.toNat_ofNat, BitVec.toNat_ofNat, BitVec.toNat_ofNat, Nat.mod_eq_of_lt ha, Nat.mod_eq_of_lt hb, Nat.mod_eq_of_lt (Nat.and_lt_two_pow _ hb)]
theorem wb_or {a b : Nat} (ha : a < 2 ^ 64) (hb : b < 2 ^ 64) : lN a ||| lN b = lN (a ||| b) := by
  apply wb_inj
  rw [Int64.toBitVec_or, wb_tb, wb_tb, wb_tb]
  apply BitVec.eq_of_toNat_eq
  rw [BitVec.toNat_or, BitVec.toNat_ofNat, BitVec.toNat_ofNat, BitVec.toNat_ofNat, Nat.mod_eq_of_lt ha, Nat.mod_eq_of_lt hb, Nat.mod_eq_of_lt (Nat.or_lt_two_pow ha hb)]
theorem wb_mask {n k : Nat} (hn : n < 2 ^ 64) (hk : k < 64) : lN n &&& lN (2 ^ k - 1) = lN (n % 2 ^ k) := by
  rw [wb_and hn (by have := wb_lt2 hk; omega), Nat.and_two_pow_sub_one_eq_mod]
theorem wb_a1 {n : Nat} (hn : n < 2 ^ 64) : lN n &&& 1 = lN (n % 2) := wb_mask (k := 1) hn (by decide)
theorem wb_bit {n k : Nat} (hn : n < 2 ^ 64) (hk : k < 64) : ((lN n).toUInt64 >>> ((nI k).toInt64.toUInt64 &&& Int64.toUInt64 63)).toInt64 &&& 1 = lN (n / 2 ^ k % 2) := by
  rw [wb_shr hn hk, wb_a1 (Nat.lt_of_le_of_lt (Nat.div_le_self _ _) hn)]
def r32 (w : List Nat) : Nat := w.foldr (fun c y => y * 32 + c) 0
def r27 (w : List Nat) : Nat := w.foldr (fun c y => y * 27 + c) 0
def f32 (l : List Nat) : Nat := l.foldl (fun a c => a * 32 + c) 0
def f27 (l : List Nat) : Nat := l.foldl (fun a c => a * 27 + c) 0
def dOk (w : List Nat) : Prop := ∀ c ∈ w, 1 ≤ c ∧ c ≤ 26
theorem f32_r (l : List Nat) : f32 l = r32 l.reverse := by
  unfold f32 r32
  rw [List.foldl_eq_foldr_reverse]
theorem f27_r (l : List Nat) : f27 l = r27 l.reverse := by
  unfold f27 r27
  rw [List.foldl_eq_foldr_reverse]
theorem r32_c (c : Nat) (w : List Nat) : r32 (c :: w) = r32 w * 32 + c := rfl
theorem r27_c (c : Nat) (w : List Nat) : r27 (c :: w) = r27 w * 27 + c := rfl
theorem r32_inj : ∀ (w v : List Nat), dOk w → dOk v → r32 w = r32 v → w = v
  | [], [], _, _, _ => rfl
  | [], c :: v, _, h2, h => by
    have := h2 c (List.mem_cons_self ..)
    rw [r32_c] at h
    have h0 : r32 [] = 0 := rfl
    omega
  | c :: w, [], h1, _, h => by
    have := h1 c (List.mem_cons_self ..)
    rw [r32_c] at h
    have h0 : r32 [] = 0 := rfl
    omega
  | c :: w, d :: v, h1, h2, h => by
    have a1 := h1 c (List.mem_cons_self ..)
    have a2 := h2 d (List.mem_cons_self ..)
    rw [r32_c, r32_c] at h
    have e : w = v := r32_inj w v (fun x hx => h1 x (List.mem_cons_of_mem _ hx)) (fun x hx => h2 x (List.mem_cons_of_mem _ hx)) (by omega)
    rw [e, show c = d by omega]
theorem r27_inj : ∀ (w v : List Nat), dOk w → dOk v → r27 w = r27 v → w = v
  | [], [], _, _, _ => rfl
  | [], c :: v, _, h2, h => by
    have := h2 c (List.mem_cons_self ..)
    rw [r27_c] at h
    have h0 : r27 [] = 0 := rfl
    omega
  | c :: w, [], h1, _, h => by
    have := h1 c (List.mem_cons_self ..)
    rw [r27_c] at h
    have h0 : r27 [] = 0 := rfl
    omega
  | c :: w, d :: v, h1, h2, h => by
    have a1 := h1 c (List.mem_cons_self ..)
    have a2 := h2 d (List.mem_cons_self ..)
    rw [r27_c, r27_c] at h
    have e : w = v := r27_inj w v (fun x hx => h1 x (List.mem_cons_of_mem _ hx)) (fun x hx => h2 x (List.mem_cons_of_mem _ hx)) (by omega)
    rw [e, show c = d by omega]
theorem r32_lt : ∀ (w : List Nat), dOk w → r32 w < 32 ^ w.length
  | [], _ => by decide
  | c :: w, h => by
    have a1 := h c (List.mem_cons_self ..)
    have ih := r32_lt w (fun x hx => h x (List.mem_cons_of_mem _ hx))
    rw [r32_c, List.length_cons, Nat.pow_succ]
    omega
theorem r27_lt : ∀ (w : List Nat), dOk w → r27 w < 27 ^ w.length
  | [], _ => by decide
  | c :: w, h => by
    have a1 := h c (List.mem_cons_self ..)
    have ih := r27_lt w (fun x hx => h x (List.mem_cons_of_mem _ hx))
    rw [r27_c, List.length_cons, Nat.pow_succ]
    omega
theorem dOk_rev {l : List Nat} (h : dOk l) : dOk l.reverse := fun c hc => h c (List.mem_reverse.mp hc)
theorem f32_lt {l : List Nat} (h : dOk l) (h7 : l.length ≤ 7) : f32 l < 2 ^ 35 := by
  have := r32_lt l.reverse (dOk_rev h)
  rw [List.length_reverse] at this
  rw [f32_r]
  exact Nat.lt_of_lt_of_le this (Nat.le_trans (Nat.pow_le_pow_right (by omega) h7) (by decide))
theorem f27_lt {l : List Nat} (h : dOk l) (h7 : l.length ≤ 7) : f27 l < 2 ^ 35 := by
  have := r27_lt l.reverse (dOk_rev h)
  rw [List.length_reverse] at this
  rw [f27_r]
  exact Nat.lt_of_lt_of_le this (Nat.le_trans (Nat.pow_le_pow_right (by omega) h7) (by decide))
theorem f32_inj {l l' : List Nat} (h : dOk l) (h' : dOk l') (e : f32 l = f32 l') : l = l' := by
  rw [f32_r, f32_r] at e
  have := r32_inj _ _ (dOk_rev h) (dOk_rev h') e
  rw [← List.reverse_reverse l, this, List.reverse_reverse]
theorem f27_inj {l l' : List Nat} (h : dOk l) (h' : dOk l') (e : f27 l = f27 l') : l = l' := by
  rw [f27_r, f27_r] at e
  have := r27_inj _ _ (dOk_rev h) (dOk_rev h') e
  rw [← List.reverse_reverse l, this, List.reverse_reverse]
theorem nmR_iff {x y x' y' : Int64} (h : nmR x y) (h' : nmR x' y') : x = x' ↔ y = y' := by
  obtain ⟨l, l1, l2, l3, l4, l5⟩ := h
  obtain ⟨k, k1, k2, k3, k4, k5⟩ := h'
  have a1 := f32_lt l3 l2
  have a2 := f32_lt k3 k2
  have a3 := f27_lt l3 l2
  have a4 := f27_lt k3 k2
  constructor
  · intro e
    rw [l4, k4] at e
    have e2 : f32 l = f32 k := (pk_lEQ (by omega) (by omega)).mp e
    rw [l5, k5, f32_inj l3 k3 e2]
  · intro e
    rw [l5, k5] at e
    have e2 : f27 l = f27 k := (pk_lEQ (by omega) (by omega)).mp e
    rw [l4, k4, f27_inj l3 k3 e2]
/-- the words that are no names, by the class's numbers of them -/
def kLs (k : Nat) : List Nat := [[16, 1, 18, 12, 15, 21, 18], [19, 9, 7, 8, 20], [16, 12, 1, 14, 20], [6, 5, 18, 14], [16, 5, 18, 19, 15, 14], [4, 5, 5, 4], [4, 21, 19, 20, 25], [16, 18, 15, 15, 6], [4, 15, 5, 19], [19, 16, 15, 14, 7, 5], [3, 1, 18, 18, 25], [4, 1, 25], [15, 18], [1, 14, 4], [14, 15, 20], [2, 12, 9, 14, 4], [9, 14], [19, 5, 5, 19], [20, 5, 12, 12, 19], [12, 5, 1, 22, 5, 19], [4, 21, 19, 20], [14, 21, 13, 2, 5, 18]].getD k []
/-- the reference's number of a word to the class's -/
def mKy (k : Nat) : Nat := [0, 1, 2, 4, 5, 6, 7, 8, 9, 10, 11, 12, 13, 14, 15, 3, 16, 17, 18, 19, 20, 21].getD k 0
theorem kLs_ok : ∀ k, k < 22 → (1 ≤ (kLs k).length ∧ (kLs k).length ≤ 7 ∧ ∀ c ∈ kLs k, 1 ≤ c ∧ c ≤ 26) ∧ f32 (kLs k) = zKey k := by decide +kernel
theorem mKy_ok : ∀ k, k < 22 → mKy k < 22 ∧ fX12_wordOf (nI k) = some (lN (f27 (kLs (mKy k)))) := by decide +kernel
theorem mKy_in : ∀ j, j < 22 → ∃ k, k < 22 ∧ mKy k = j := by decide +kernel
theorem zKey_lt : ∀ k, k < 22 → zKey k < 2 ^ 35 := by decide +kernel
theorem zKey_inj : ∀ k, k < 22 → ∀ j, j < 22 → zKey k = zKey j → k = j := by decide +kernel
theorem nmR_key {k : Nat} (hk : k < 22) : nmR (lN (zKey k)) (lN (f27 (kLs k))) := by
  obtain ⟨⟨a1, a2, a3⟩, a4⟩ := kLs_ok k hk
  exact ⟨kLs k, a1, a2, a3, by rw [← a4]; rfl, rfl⟩
/-- the class's token of a word -/
def tkOf (x : Int64) : Int32 := match (List.range 22).find? (fun k => decide (lN (zKey k) = x)) with
  | some k => nI k
  | none => 100
theorem tkOf_key {x : Int64} {k : Nat} (hk : k < 22) : tkOf x = nI k ↔ x = lN (zKey k) := by
  unfold tkOf
  constructor
  · intro h
    cases e : (List.range 22).find? (fun k => decide (lN (zKey k) = x)) with
    | none =>
      rw [e] at h
      have : (100 : Nat) = k := (nI_eq (by omega) (by omega)).mp h
      omega
    | some j =>
      rw [e] at h
      have j1 := List.mem_range.mp (List.mem_of_find?_eq_some e)
      have j2 := List.find?_some e
      have : j = k := (nI_eq (by omega) (by omega)).mp h
      subst this
      exact (of_decide_eq_true j2).symm
  · intro h
    cases e : (List.range 22).find? (fun k => decide (lN (zKey k) = x)) with
    | none =>
      have := List.find?_eq_none.mp e k (List.mem_range.mpr hk)
      rw [h] at this
      simp at this
    | some j =>
      have j1 := List.mem_range.mp (List.mem_of_find?_eq_some e)
      have j3 := List.find?_some e
      have j2 : lN (zKey j) = x := of_decide_eq_true j3
      rw [h] at j2
      have b1 := zKey_lt k hk
      have b2 := zKey_lt j j1
      have : zKey j = zKey k := (pk_lEQ (by omega) (by omega)).mp j2
      rw [zKey_inj j j1 k hk this]
theorem tkOf_cases (x : Int64) : (∃ k, k < 22 ∧ tkOf x = nI k) ∨ tkOf x = 100 := by
  unfold tkOf
  cases e : (List.range 22).find? (fun k => decide (lN (zKey k) = x)) with
  | none => exact Or.inr rfl
  | some j => exact Or.inl ⟨j, List.mem_range.mp (List.mem_of_find?_eq_some e), rfl⟩
theorem tkOf_word {x y : Int64} (h : nmR x y) {k : Nat} (hk : k < 22) : tkOf x = nI (mKy k) ↔ y = lN (f27 (kLs (mKy k))) := by
  have m1 := (mKy_ok k hk).1
  rw [tkOf_key m1]
  exact nmR_iff h (nmR_key m1)
