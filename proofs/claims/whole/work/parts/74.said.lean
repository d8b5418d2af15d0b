/-! said: the class's stack -/
def zRun {σ β : Type} (body : σ → Option (σ ⊕ β)) : Nat → σ → σ → Prop
  | 0, s, t => t = s
  | n + 1, s, t => ∃ u, body s = some (.inl u) ∧ zRun body n u t
theorem zRun_add {σ β : Type} {body : σ → Option (σ ⊕ β)} : ∀ {a b : Nat} {s t u : σ}, zRun body a s t → zRun body b t u → zRun body (a + b) s u
  | 0, b, s, t, u, h1, h2 => by
    have : t = s := h1
    subst this
    rw [Nat.zero_add]; exact h2
  | a + 1, b, s, t, u, ⟨w, e, h1⟩, h2 => by
    rw [show a + 1 + b = (a + b) + 1 by omega]
    exact ⟨w, e, zRun_add h1 h2⟩
theorem zRun_one {σ β : Type} {body : σ → Option (σ ⊕ β)} {s t : σ} (h : body s = some (.inl t)) : zRun body 1 s t := ⟨t, h, rfl⟩
theorem zRun_lp {σ β : Type} {body : σ → Option (σ ⊕ β)} {r : β} : ∀ {n fuel : Nat} {s t : σ}, zRun body n s t → body t = some (.inr r) → n < fuel → zLp body fuel s = some r
  | 0, fuel, s, t, h, e, hf => by
    obtain ⟨f, rfl⟩ : ∃ f, fuel = f + 1 := ⟨fuel - 1, by omega⟩
    have : t = s := h
    subst this
    simp only [zLp, e]
  | n + 1, fuel, s, t, ⟨u, e1, h⟩, e, hf => by
    obtain ⟨f, rfl⟩ : ∃ f, fuel = f + 1 := ⟨fuel - 1, by omega⟩
    simp only [zLp, e1]
    exact zRun_lp h e (by omega)
theorem zBn_orr (P Q : Nat → Bool) (n : Nat) : zBn P n ||| zBn Q n = zBn (fun i => P i || Q i) n := by
  apply Nat.eq_of_testBit_eq
  intro i
  rw [Nat.testBit_or, zBn_test, zBn_test, zBn_test]
  by_cases h : i < n <;> simp [h]
theorem zBits_or (P Q : Nat → Bool) {n : Nat} (h : n < 31) : zBits P n ||| zBits Q n = zBits (fun i => P i || Q i) n := by
  rw [zBits_n P n h, zBits_n Q n h, zBits_n _ n h, nI_or, zBn_orr]
theorem zBits_not (P : Nat → Bool) {n : Nat} (h : n ≤ 6) : (((1 : Int32) <<< (nI n &&& 31)) - 1) &&& (zBits P n ^^^ (-1)) = zBits (fun i => !P i) n := by
  have key : ∀ n, n < 7 → ∀ x, x < 64 → x < 2 ^ n → (((1 : Int32) <<< (nI n &&& 31)) - 1) &&& (nI x ^^^ (-1)) = nI ((2 ^ n - 1) ^^^ x) := by decide +kernel
  have h1 := zBn_lt P n
  have h2 : 2 ^ n ≤ 2 ^ 6 := Nat.pow_le_pow_right (by omega) h
  rw [zBits_n P n (by omega), zBits_n _ n (by omega), key n (by omega) _ (by omega) h1]
  congr 1
  apply Nat.eq_of_testBit_eq
  intro i
  rw [Nat.testBit_xor, zBn_test, zBn_test, Nat.testBit_two_pow_sub_one]
  by_cases q : i < n <;> simp [q]
def lOk (w x y r : Int32) (nL nE : Nat) : Prop := w = 64 ∨ w = 65 ∨ ((w = 66 ∨ w = 67) ∧ zIn x nL) ∨ (w = 68 ∧ zIn x nE) ∨ ((w = 69 ∨ w = 70 ∨ w = 71) ∧ zIn y 1000 ∧ (r = 60 ∨ r = 61 ∨ r = 62))
section Said2
variable {S T : zSt} {m : Nat → Int32}
theorem c_cmp {j : Nat} (hj : j < 40) (v : Int32) : fX8_compares S 245 v (nI j) = some (bI (cmpI (S.1 247 j) v (S.1 248 j))) := by
  unfold fX8_compares cmpI
  rw [zIx_nI hj (by omega), zGd_t, zGd_t, zGd_t, zGd_t, nI_clamp (by omega), zBr_nb, zBr_b, zBr_nb]
  by_cases q : S.1 (245 + 2) j = 60
  · rw [zBr_p q, if_pos (show S.1 247 j = 60 from q)]
  · rw [zBr_q q, if_neg (show ¬ S.1 247 j = 60 from q)]
    by_cases q2 : S.1 (245 + 2) j = 61
    · rw [zBr_p q2, if_pos (show S.1 247 j = 61 from q2)]
    · rw [zBr_q q2, if_neg (show ¬ S.1 247 j = 61 from q2)]
theorem c_isSo (hh : Rh S.1 4 m) (hw : WFh m) (hl : Rl S.1 14 m) (hv : WFl m) {p j : Nat} (hp : p < kP m) (hj : j < 40) {w x y r : Int32} (ok : lOk w x y r (kL m) (kE m)) (e1 : S.1 246 j = (sLeaf w x y r).1) (e2 : S.1 247 j = (sLeaf w x y r).2.1) (e3 : S.1 248 j = (sLeaf w x y r).2.2) : fX8_isSo S 245 14 (nI p) (nI j) = some (bI (aL m p w x y r)) := by
  have h6 := hw.2.1.2
  have h5 := hw.1.2
  unfold fX8_isSo
  rw [zIx_nI hj (by omega), zGd_t, nI_clamp (by omega), show S.1 (245 + 1) j = S.1 246 j from rfl, e1]
  unfold aL
  rcases ok with rfl | rfl | ⟨rfl | rfl, a, ha, rfl⟩ | ⟨rfl, a, ha, rfl⟩ | ⟨h, -, -⟩
  · have k1 : (sLeaf 64 x y r).1 = 15 := rfl
    rw [k1, zBr_q (show ¬ (15 : Int32) = 3 by decide), zBr_p rfl, c_isBlind (b := 14) hh hw hl hp, zBd_s, if_pos rfl]
    have hs := aSees_zero hw hv hp
    unfold aSeer at hs
    by_cases f : aFern m p = true
    · rw [if_pos (Or.inl f)]
      rw [f] at hs
      have : aSees m p 0 = 0 := Classical.byContradiction (fun q => by rw [decide_eq_true q] at hs; cases hs)
      rw [decide_eq_true this]; rfl
    · have f' : aFern m p = false := Bool.not_eq_true _ |>.mp f
      by_cases d : m (32 + p) < m 4
      · rw [if_neg (fun q => q.elim f (fun q => q d))]
        rw [f', decide_eq_true d] at hs
        have : ¬ aSees m p 0 = 0 := fun q => by rw [decide_eq_false (not_not_intro q)] at hs; cases hs
        rw [decide_eq_false this]; rfl
      · rw [if_pos (Or.inr d)]
        rw [f', decide_eq_false d] at hs
        have : aSees m p 0 = 0 := Classical.byContradiction (fun q => by rw [decide_eq_true q] at hs; cases hs)
        rw [decide_eq_true this]; rfl
  · have k1 : (sLeaf 65 x y r).1 = 3 := rfl
    rw [k1, zBr_p rfl, zIx_nI (by omega) (by omega), zGd_t, nI_clamp (by omega), show zHs 14 = 4 from rfl, (hh.2.2.2.2 p hp).2.2, if_neg (show ¬ (65 : Int32) = 64 by decide), if_pos rfl]
    cases aFern m p <;> rfl
  · have k1 : (sLeaf 66 (nI a) y r).1 = 16 := rfl
    have k2 : (sLeaf 66 (nI a) y r).2.1 = nI a := rfl
    rw [k1, zBr_q (show ¬ (16 : Int32) = 3 by decide), zBr_q (show ¬ (16 : Int32) = 15 by decide), zBr_p rfl, zIx_nI (by omega) (by omega), zGd_t, zGd_t, nI_clamp (by omega), show S.1 (245 + 2) j = S.1 247 j from rfl, e2, k2, (hl.2.2.1 p hp).1, zBr_b, if_neg (show ¬ (66 : Int32) = 64 by decide), if_neg (show ¬ (66 : Int32) = 65 by decide), if_pos rfl]
  · have k1 : (sLeaf 67 (nI a) y r).1 = 17 := rfl
    have k2 : (sLeaf 67 (nI a) y r).2.1 = nI a := rfl
    obtain ⟨s, hs, es⟩ := aSees_lt hw (hv.2.2.1 p hp).1 0
    rw [k1, zBr_q (show ¬ (17 : Int32) = 3 by decide), zBr_q (show ¬ (17 : Int32) = 15 by decide), zBr_q (show ¬ (17 : Int32) = 16 by decide), zBr_p rfl, c_seenBy (b := 14) hh hw hl hv hp, zBd_s, zGd_t, show S.1 (245 + 2) j = S.1 247 j from rfl, e2, k2, es, c_hasB hs (by omega), zBd_s, bI_if, zBo_b, zGd_t, if_neg (show ¬ (67 : Int32) = 64 by decide), if_neg (show ¬ (67 : Int32) = 65 by decide), if_neg (show ¬ (67 : Int32) = 66 by decide), if_pos rfl, nI_clamp (by omega)]
  · have k1 : (sLeaf 68 (nI a) y r).1 = 18 := rfl
    have k2 : (sLeaf 68 (nI a) y r).2.1 = nI a := rfl
    rw [k1, zBr_q (show ¬ (18 : Int32) = 3 by decide), zBr_q (show ¬ (18 : Int32) = 15 by decide), zBr_q (show ¬ (18 : Int32) = 16 by decide), zBr_q (show ¬ (18 : Int32) = 17 by decide), zBr_p rfl, c_actsShown hl hv hw hp, zBd_s, zGd_t, show S.1 (245 + 2) j = S.1 247 j from rfl, e2, k2, c_actsOf hl hv, zBd_s, zBr_nb, if_neg (show ¬ (68 : Int32) = 64 by decide), if_neg (show ¬ (68 : Int32) = 65 by decide), if_neg (show ¬ (68 : Int32) = 66 by decide), if_neg (show ¬ (68 : Int32) = 67 by decide), if_pos rfl]
    rfl
  · rw [c_cmp hj, c_cmp hj, c_actsShown hl hv hw hp, zBd_s, zBd_s, c_bitcB (aCome m p) hv.2.1.2, zBd_s, c_cmp hj, zBd_s, zBo_b, zGd_t, zIx_nI (show p < 6 by omega) (by omega), zGd_t, zGd_t, nI_clamp (by omega), (hl.2.2.1 p hp).2.1, e2, e3, zBd_s, zBo_b, zGd_t, zBd_s, zBo_b, zGd_t]
    rcases h with rfl | rfl | rfl
    · rfl
    · rfl
    · rfl
theorem c_that (hh : Rh S.1 4 m) (hw : WFh m) (hl : Rl S.1 14 m) (hv : WFl m) {j : Nat} (hj : j < 40) {w x y r : Int32} (ok : lOk w x y r (kL m) (kE m)) (e1 : S.1 246 j = (sLeaf w x y r).1) (e2 : S.1 247 j = (sLeaf w x y r).2.1) (e3 : S.1 248 j = (sLeaf w x y r).2.2) : fX8_plantsThat S 245 14 (nI j) = some (zBits (fun p => aL m p w x y r) (kP m)) := by
  have h6 := hw.2.1.2
  unfold fX8_plantsThat
  refine zLp_bits (g := id) (fun acc p hp => ?_) (fun acc => ?_) (by omega)
  · unfold fX8_plantsThat_5 fX8_plantsThat_32
    dsimp only
    rw [c_plants (b := 14) hh, zBd_s, hw.2.1.1, zle_f hp (by omega), c_isSo hh hw hl hv hp hj ok e1 e2 e3, zBd_s, bI_br, zLt_s, zLt_s, zLt_s, nI_1]
    by_cases q : aL m p w x y r = true
    · rw [if_pos q, if_pos q]
    · rw [if_neg q, if_neg q]
  · unfold fX8_plantsThat_5
    dsimp only
    rw [c_plants (b := 14) hh, zBd_s, hw.2.1.1, zle_t (Nat.le_refl _) (by omega), zXr_s]
    rfl
end Said2
