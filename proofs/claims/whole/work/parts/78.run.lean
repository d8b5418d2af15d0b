/-! a run of letters and digits -/
def cL (c : Nat) : Bool := decide (97 ≤ c) && decide (c ≤ 122)
def cD (c : Nat) : Bool := decide (48 ≤ c) && decide (c ≤ 57)
theorem cL_iff {c : Nat} : cL c = true ↔ 97 ≤ c ∧ c ≤ 122 := by simp [cL]
theorem cD_iff {c : Nat} : cD c = true ↔ 48 ≤ c ∧ c ≤ 57 := by simp [cD]
theorem zCt_all {P : Nat → Bool} : ∀ {n : Nat}, (∀ i, i < n → P i = true) → zCt P n = n
  | 0, _ => rfl
  | n + 1, h => by rw [zCt, zCt_all (fun i hi => h i (by omega)), if_pos (h n (by omega))]
theorem zCt_none {P : Nat → Bool} : ∀ {n : Nat}, (∀ i, i < n → P i = false) → zCt P n = 0
  | 0, _ => rfl
  | n + 1, h => by rw [zCt, zCt_none (fun i hi => h i (by omega)), h n (by omega), if_neg (by decide)]
theorem zCt_some {P : Nat → Bool} {n i : Nat} (hi : i < n) (h : P i = true) : 0 < zCt P n := by
  have := zCt_mono_lt (P := fun _ => false) (Q := P) (n := n) (fun _ _ h => by cases h) ⟨i, hi, h, by decide⟩
  omega
/-- the letters of the first i bytes from st on, as numbers -/
def lw (b : Nat → Nat) (st i : Nat) : List Nat := (List.range i).map (fun j => b (st + j) - 96)
theorem lw_s (b : Nat → Nat) (st i : Nat) : lw b st (i + 1) = lw b st i ++ [b (st + i) - 96] := by
  unfold lw
  rw [List.range_succ, List.map_append]
  rfl
theorem lw_len (b : Nat → Nat) (st i : Nat) : (lw b st i).length = i := by
  unfold lw
  rw [List.length_map, List.length_range]
theorem lw_ok {b : Nat → Nat} {st i : Nat} (h : ∀ j, j < i → cL (b (st + j)) = true) : dOk (lw b st i) := by
  intro c hc
  unfold lw at hc
  obtain ⟨j, hj, rfl⟩ := List.mem_map.mp hc
  have := cL_iff.mp (h j (List.mem_range.mp hj))
  omega
theorem f32_s (l : List Nat) (c : Nat) : f32 (l ++ [c]) = f32 l * 32 + c := by
  unfold f32
  rw [List.foldl_append]
  rfl
theorem f27_s (l : List Nat) (c : Nat) : f27 (l ++ [c]) = f27 l * 27 + c := by
  unfold f27
  rw [List.foldl_append]
  rfl
def nmV (b : Nat → Nat) (st : Nat) : Nat → Nat
  | 0 => 0
  | i + 1 => nmV b st i * 10 + (b (st + i) - 48)
theorem nmV_lt {b : Nat → Nat} {st : Nat} : ∀ {i : Nat}, (∀ j, j < i → cD (b (st + j)) = true) → nmV b st i < 10 ^ i
  | 0, _ => show 0 < 1 by omega
  | i + 1, h => by
    have ih := nmV_lt (b := b) (st := st) (i := i) (fun j hj => h j (by omega))
    have := cD_iff.mp (h i (by omega))
    rw [nmV, Nat.pow_succ]
    omega
theorem zW32 {w c : Nat} (hw : w < 2 ^ 35) (h : 97 ≤ c ∧ c ≤ 122) : zLsh (lN w) 5 ||| ((nI c - 97) + 1).toInt64 = lN (w * 32 + (c - 96)) := by
  unfold zLsh
  rw [show (5 : Int32) = nI 5 from rfl, wb_shl w (by omega), show (97 : Int32) = nI 97 from rfl, pk_sub h.1, nI_1, nI_l (by omega), wb_or (by omega) (by omega)]
  congr 1
  have := Nat.two_pow_add_eq_or_of_lt (show c - 97 + 1 < 2 ^ 5 by omega) w
  rw [Nat.mul_comm w (2 ^ 5), ← this]
  omega
theorem zW27 {w c : Nat} (hw : w < 2 ^ 35) (h : 97 ≤ c ∧ c ≤ 122) : ((27 : Int64) * lN w) + (nI c).toInt64 - (96 : Int64) = lN (w * 27 + (c - 96)) := by
  rw [show (27 : Int64) = lN 27 from rfl, show (96 : Int64) = lN 96 from rfl, lN_mul, nI_l (by omega), lN_add, lN_sub (by omega)]
  congr 1
  omega
theorem zV10 {w c : Nat} (h : 48 ≤ c ∧ c ≤ 57) : (nI w * (10 : Int32) + nI c) - (48 : Int32) = nI (w * 10 + (c - 48)) := by
  rw [show (10 : Int32) = nI 10 from rfl, show (48 : Int32) = nI 48 from rfl, pk_mul, nI_add, pk_sub (by omega)]
  congr 1
  omega
theorem zV10m {w c : Nat} (h : 48 ≤ c ∧ c ≤ 57) : ((10 : Int32) * nI w + nI c) - (48 : Int32) = nI (w * 10 + (c - 48)) := by
  rw [show (10 : Int32) = nI 10 from rfl, show (48 : Int32) = nI 48 from rfl, pk_mul, nI_add, pk_sub (by omega)]
  congr 1
  omega
def tokR (x : Int64) (a d : Nat) : Int32 := if a = 0 then (if d ≤ 3 then 101 else 103) else if d = 0 ∧ a ≤ 7 then tkOf x else 103
section Run
variable {S T X Y : zSt}
theorem c_keys (hK : rKey (X.2 3)) : fX9_readRun_154 X 100 = some (zI X 1 5 (tkOf (X.2 1 7))) := by
  unfold fX9_readRun_154
  rw [zLt_s]
  have body : ∀ k, k < 22 → fX9_readRun_159 (zI X 1 5 100, nI k) = if lN (zKey k) = X.2 1 7 then some (.inl (zI X 1 5 (nI k), nI (k + 1))) else some (.inl (zI X 1 5 100, nI (k + 1))) := by
    intro k hk
    unfold fX9_readRun_159 fX9_readRun_193
    dsimp only
    rw [zI_at, if_pos ⟨rfl, rfl⟩, zBr_p rfl, show (22 : Int32) = nI 22 from rfl, zle_f hk (by omega), zIx_nI hk (by omega), zGd_t, nI_clamp (by omega), zI_at2, hK k hk, zLt_s, zLt_s, zLt_s, nI_1, zI_again]
    by_cases q : lN (zKey k) = X.2 1 7
    · rw [zBr_p ((lg_cmp_eq _ _).mpr q), if_pos q]
    · rw [zBr_q (fun z => q ((lg_cmp_eq _ _).mp z)), if_neg q]
  rcases zFirst (fun k => ¬ lN (zKey k) = X.2 1 7) 22 with all | ⟨k, hk, h1, h2⟩
  · have e : tkOf (X.2 1 7) = 100 := by
      rcases tkOf_cases (X.2 1 7) with ⟨k, hk, e⟩ | e
      · exact absurd ((tkOf_key hk).mp e).symm (all k hk)
      · exact e
    rw [e]
    refine zLp_run (body := fX9_readRun_159) (fun i => (zI X 1 5 100, nI i)) 22 2000 (fun i hi => by rw [body i hi, if_neg (all i hi)]) ?_ (by omega)
    unfold fX9_readRun_159
    dsimp only
    rw [zI_at, if_pos ⟨rfl, rfl⟩, zBr_p rfl, zBr_p (show (22 : Int32) ≤ nI 22 by decide), zXr_s]
  · have h2' : lN (zKey k) = X.2 1 7 := Classical.byContradiction h2
    rw [(tkOf_key hk).mpr h2'.symm]
    have key := zLp_run (body := fX9_readRun_159) (fun i => (zI X 1 5 (if i ≤ k then 100 else nI k), nI i)) (r := zI X 1 5 (nI k)) (k + 1) 2000 (fun i hi => ?_) ?_ (by omega)
    · exact key
    · rw [if_pos (show i ≤ k by omega), body i (by omega)]
      by_cases e : i = k
      · subst e; rw [if_pos h2', if_neg (by omega)]
      · rw [if_neg (h1 i (by omega)), if_pos (by omega)]
    · rw [if_neg (show ¬ k + 1 ≤ k by omega)]
      unfold fX9_readRun_159
      dsimp only
      rw [zI_at, if_pos ⟨rfl, rfl⟩, zBr_q (show ¬ nI k = (100 : Int32) from fun q => by have := (nI_eq (b := 100) (by omega) (by omega)).mp q; omega), zXr_s]
theorem c_115 (hK : rKey (X.2 3)) {a d : Nat} (ha : a < 2000) (hd : d < 2000) : fX9_readRun_115 X (nI a) (nI d) = some (zI X 1 5 (tokR (X.2 1 7) a d)) := by
  have e103 : fX9_readRun_154 X 103 = some (zI X 1 5 103) := by
    unfold fX9_readRun_154
    rw [zLt_s]
    refine zLp_run (body := fX9_readRun_159) (fun i => (zI X 1 5 103, nI i)) 0 2000 (fun i hi => by omega) ?_ (by omega)
    unfold fX9_readRun_159
    dsimp only
    rw [zI_at, if_pos ⟨rfl, rfl⟩, zBr_q (show ¬ (103 : Int32) = 100 by decide), zXr_s]
  unfold fX9_readRun_115 fX9_readRun_152 tokR
  rw [c_keys hK, e103, zLt_s, zLt_s]
  by_cases a0 : a = 0
  · subst a0
    rw [zBr_p (show nI 0 = 0 from rfl), if_pos rfl, show (3 : Int32) = nI 3 from rfl]
    by_cases q : d ≤ 3
    · rw [zlt_f q (by omega), if_pos q]
    · rw [zlt_t (by omega) (by omega), if_neg q]
  · rw [zBr_q (show ¬ nI a = (0 : Int32) from fun q => a0 ((nI_eq (b := 0) (by omega) (by omega)).mp q)), if_neg a0]
    by_cases d0 : d = 0
    · subst d0
      rw [zBr_p (show nI 0 = 0 from rfl), show (7 : Int32) = nI 7 from rfl]
      by_cases q : a ≤ 7
      · rw [zlt_f q (by omega), if_pos ⟨rfl, q⟩]
      · rw [zlt_t (by omega) (by omega), if_neg (fun z => q z.2)]
    · rw [zBr_q (show ¬ nI d = (0 : Int32) from fun q => d0 ((nI_eq (b := 0) (by omega) (by omega)).mp q)), if_neg (fun z => d0 z.1)]
/-- the class at the i-th byte of a run -/
def cRn (S : zSt) (b : Nat → Nat) (st i : Nat) (X : zSt) : Prop := (∀ c, c ≠ 1 → X.1 c = S.1 c ∧ X.2 c = S.2 c) ∧ (∀ j, j ≠ 4 → j ≠ 8 → X.1 1 j = S.1 1 j) ∧ X.1 1 4 = nI (st + i) ∧ (i ≤ 7 → (∀ j, j < i → cL (b (st + j)) = true) → X.2 1 7 = lN (f32 (lw b st i))) ∧ (i ≤ 3 → (∀ j, j < i → cD (b (st + j)) = true) → X.1 1 8 = nI (nmV b st i))
theorem c_run {b : Nat → Nat} {L st n : Nat} (hL : S.1 1 1 = nI L) (hL9 : L ≤ 940) (hb : ∀ i, i < L → S.1 2 i = nI (b i) ∧ b i < 256) (hK : rKey (S.2 3)) (h4 : S.1 1 4 = nI st) (hn : st + n ≤ L) (hA : ∀ j, j < n → cL (b (st + j)) = true ∨ cD (b (st + j)) = true) (hE : st + n = L ∨ ¬ (cL (b (st + n)) = true ∨ cD (b (st + n)) = true)) : ∃ X, fX9_readRun S = some (zI X 1 5 (tokR (X.2 1 7) (zCt (fun j => cL (b (st + j))) n) (zCt (fun j => cD (b (st + j))) n))) ∧ cRn S b st n X := by
  unfold fX9_readRun
  rw [zLt_s, zLt_s]
  obtain ⟨R, e, X, eR, hX⟩ := zLp_inv (body := fX9_readRun_14) (fun i s => ∃ X, s = (X, nI (zCt (fun j => cL (b (st + j))) i), nI (zCt (fun j => cD (b (st + j))) i)) ∧ cRn S b st i X) (fun R => ∃ X, R = zI X 1 5 (tokR (X.2 1 7) (zCt (fun j => cL (b (st + j))) n) (zCt (fun j => cD (b (st + j))) n)) ∧ cRn S b st n X) n (fun i s hi hI => by
    obtain ⟨X, rfl, hX⟩ := hI
    obtain ⟨x1, x2, x3, x4, x5⟩ := id hX
    have xl : X.1 1 1 = nI L := by rw [x2 1 (by omega) (by omega), hL]
    have xk : rKey (X.2 3) := by rw [(x1 3 (by omega)).2]; exact hK
    have c1 := zCt_le (fun j => cL (b (st + j))) i
    have c2 := zCt_le (fun j => cD (b (st + j))) i
    have stop : i = n → fX9_readRun_14 (X, nI (zCt (fun j => cL (b (st + j))) i), nI (zCt (fun j => cD (b (st + j))) i)) = some (.inr (zI X 1 5 (tokR (X.2 1 7) (zCt (fun j => cL (b (st + j))) i) (zCt (fun j => cD (b (st + j))) i)))) := by
      intro ei
      subst ei
      unfold fX9_readRun_14 fX9_readRun_71
      dsimp only
      rw [c_115 xk (by omega) (by omega), zXr_s, xl, x3]
      rcases hE with hE | hE
      · rw [zle_t (by omega) (by omega)]
      · by_cases q : st + i < L
        · have hc := (hb (st + i) q).2
          rw [zle_f (by omega) (by omega), zIx_nI (by omega) (by omega), zGd_t, nI_clamp (by omega), (x1 2 (by omega)).1, (hb (st + i) q).1, zLt_s, show (97 : Int32) = nI 97 from rfl, show (122 : Int32) = nI 122 from rfl, show (48 : Int32) = nI 48 from rfl, show (57 : Int32) = nI 57 from rfl]
          have hE1 : ¬ (97 ≤ b (st + i) ∧ b (st + i) ≤ 122) := fun z => hE (Or.inl (cL_iff.mpr z))
          have hE2 : ¬ (48 ≤ b (st + i) ∧ b (st + i) ≤ 57) := fun z => hE (Or.inr (cD_iff.mpr z))
          by_cases z1 : b (st + i) < 97
          · rw [zlt_t z1 (by omega)]
            by_cases z2 : b (st + i) < 48
            · rw [zlt_t z2 (by omega)]
            · rw [zlt_f (by omega) (by omega), zlt_t (by omega) (by omega)]
          · rw [zlt_f (by omega) (by omega), zlt_t (show 122 < b (st + i) by omega) (by omega), zlt_f (by omega) (by omega), zlt_t (by omega) (by omega)]
        · rw [zle_t (by omega) (by omega)]
    by_cases q : i < n
    · have hc := (hb (st + i) (by omega)).2
      refine Or.inl ?_
      have pre : fX9_readRun_14 (X, nI (zCt (fun j => cL (b (st + j))) i), nI (zCt (fun j => cD (b (st + j))) i)) = zBr (nI (b (st + i)) < nI 97) (fX9_readRun_71 X (nI (zCt (fun j => cL (b (st + j))) i)) (nI (zCt (fun j => cD (b (st + j))) i)) (nI (b (st + i)))) (zBr (nI 122 < nI (b (st + i))) (fX9_readRun_71 X (nI (zCt (fun j => cL (b (st + j))) i)) (nI (zCt (fun j => cD (b (st + j))) i)) (nI (b (st + i)))) (some (.inl (zI (zJ X 1 7 (zLsh (X.2 1 7) 5 ||| ((nI (b (st + i)) - 97) + 1).toInt64)) 1 4 (nI (st + i + 1)), nI (zCt (fun j => cL (b (st + j))) i + 1), nI (zCt (fun j => cD (b (st + j))) i))))) := by
        unfold fX9_readRun_14 fX9_readRun_102
        dsimp only
        rw [xl, x3, zle_f (by omega) (by omega), zIx_nI (by omega) (by omega), zGd_t, nI_clamp (by omega), (x1 2 (by omega)).1, (hb (st + i) (by omega)).1, zLt_s, zLt_s, zLt_s, zLt_s, zJ_at1, x3, nI_1, nI_1]
        rfl
      rcases hA i q with hl | hd
      · have hl' := cL_iff.mp hl
        have nd : ¬ cD (b (st + i)) = true := fun z => by have := cD_iff.mp z; omega
        rw [pre, zlt_f (by omega) (by omega), zlt_f (by omega) (by omega)]
        refine ⟨_, rfl, ⟨_, by rw [zCt, zCt, if_pos hl, if_neg nd]; rfl, fun c hc => ⟨by rw [zI_ne hc, zJ_at1]; exact (x1 c hc).1, by rw [zI_at2, zJ_ne hc]; exact (x1 c hc).2⟩, fun j j4 j8 => by rw [zI_at, if_neg (by omega), zJ_at1]; exact x2 j j4 j8, by rw [zI_at, if_pos ⟨rfl, rfl⟩]; rfl, fun i7 ha => ?_, fun i3 ha => ?_⟩, q⟩
        · have hw := x4 (by omega) (fun j hj => ha j (by omega))
          have lt := f32_lt (lw_ok (b := b) (st := st) (i := i) (fun j hj => ha j (by omega))) (by rw [lw_len]; omega)
          rw [zI_at2, zJ_at, if_pos ⟨rfl, rfl⟩, hw, zW32 lt hl', lw_s, f32_s]
        · have := cD_iff.mp (ha i (by omega))
          omega
      · have hd' := cD_iff.mp hd
        have nl : ¬ cL (b (st + i)) = true := fun z => by have := cL_iff.mp z; omega
        have dg : fX9_readRun_71 X (nI (zCt (fun j => cL (b (st + j))) i)) (nI (zCt (fun j => cD (b (st + j))) i)) (nI (b (st + i))) = some (.inl (zI (zI X 1 8 ((X.1 1 8 * 10 + nI (b (st + i))) - 48)) 1 4 (nI (st + i + 1)), nI (zCt (fun j => cL (b (st + j))) i), nI (zCt (fun j => cD (b (st + j))) i + 1))) := by
          unfold fX9_readRun_71 fX9_readRun_102
          rw [zBr_q (show ¬ nI (b (st + i)) < (48 : Int32) from fun z => by have := (nI_ltI (b := 48) (by omega) (by omega)).mp z; omega), zBr_q (show ¬ (57 : Int32) < nI (b (st + i)) from fun z => by have := (nI_ltI (a := 57) (by omega) (by omega)).mp z; omega), zLt_s, zLt_s, zLt_s, zI_at, if_neg (by omega), x3, nI_1, nI_1]
        rw [pre, zlt_t (by omega) (by omega), dg]
        refine ⟨_, rfl, ⟨_, by rw [zCt, zCt, if_neg nl, if_pos hd]; rfl, fun c hc => ⟨by rw [zI_ne hc, zI_ne hc]; exact (x1 c hc).1, by rw [zI_at2, zI_at2]; exact (x1 c hc).2⟩, fun j j4 j8 => by rw [zI_at, if_neg (by omega), zI_at, if_neg (by omega)]; exact x2 j j4 j8, by rw [zI_at, if_pos ⟨rfl, rfl⟩]; rfl, fun i7 ha => ?_, fun i3 ha => ?_⟩, q⟩
        · exact absurd (ha i (by omega)) nl
        · have hw := x5 (by omega) (fun j hj => ha j (by omega))
          rw [zI_at, if_neg (by omega), zI_at, if_pos ⟨rfl, rfl⟩, hw, zV10 hd']
          rfl
    · have ei : i = n := by omega
      refine Or.inr ⟨_, stop ei, X, by rw [ei], by rw [← ei]; exact hX⟩) 2000 0 (zI (zJ S 1 7 0) 1 8 0, 0, 0) (by omega) (by omega) ⟨_, rfl, fun c hc => ⟨by rw [zI_ne hc, zJ_at1], by rw [zI_at2, zJ_ne hc]⟩, fun j j4 j8 => by rw [zI_at, if_neg (by omega), zJ_at1], by rw [zI_at, if_neg (by omega), zJ_at1, h4]; rfl, fun _ _ => by rw [zI_at2, zJ_at, if_pos ⟨rfl, rfl⟩]; rfl, fun _ _ => by rw [zI_at, if_pos ⟨rfl, rfl⟩]; rfl⟩
  exact ⟨X, by rw [e, eR], hX⟩
end Run
