/-! said: what a sentence says of a plant -/
def bI (b : Bool) : Int32 := if b = true then 1 else 0
theorem zBo_b (b : Bool) : zBo (bI b) = true := by cases b <;> decide
theorem bI_if (b : Bool) : (if b = true then (1 : Int32) else 0) = bI b := rfl
theorem bI_br {β : Type} (b : Bool) (x y : Option β) : zBr (bI b = 0) x y = if b = true then y else x := by
  cases b
  · rfl
  · rfl
theorem zBr_b {c : Prop} [Decidable c] : zBr c (some (1 : Int32)) (some 0) = some (bI (decide c)) := by
  by_cases h : c
  · rw [zBr_p h, decide_eq_true h]; rfl
  · rw [zBr_q h, decide_eq_false h]; rfl
theorem zBr_nb {c : Prop} [Decidable c] : zBr c (some (0 : Int32)) (some 1) = some (bI (!decide c)) := by
  by_cases h : c
  · rw [zBr_p h, decide_eq_true h]; rfl
  · rw [zBr_q h, decide_eq_false h]; rfl
def cmpI (r v y : Int32) : Bool := if r = 60 then !decide (y ≤ v) else if r = 61 then decide (v = y) else !decide (v ≤ y)
def aTl (m : Nat → Int32) (p : Nat) (x : Int32) : Bool := !decide (zBits (aCome m p) (kA m) &&& zBits (fun i => decide (m (38 + i) = x)) (kA m) = 0)
def aL (m : Nat → Int32) (p : Nat) (w x y r : Int32) : Bool := if w = 64 then decide (aSees m p 0 = 0) else if w = 65 then aFern m p else if w = 66 then decide (m (26 + p) = x) else if w = 67 then aBit (aSees m p 0) x.toNatClampNeg else if w = 68 then aTl m p x else if w = 69 then cmpI r (nI (zCt (aCome m p) (kA m))) y else if w = 70 then cmpI r (m (32 + p)) y else cmpI r (nI p) y
def hV (m : Nat → Int32) (p : Nat) : Nat → Nat → Bool
  | 0, _ => false
  | f + 1, k => if m (166 + 4 * k) = 1 then !hV m p f (m (166 + (4 * k + 1))).toNatClampNeg else if m (166 + 4 * k) = 2 then hV m p f (m (166 + (4 * k + 1))).toNatClampNeg && hV m p f (m (166 + (4 * k + 2))).toNatClampNeg else if m (166 + 4 * k) = 3 then hV m p f (m (166 + (4 * k + 1))).toNatClampNeg || hV m p f (m (166 + (4 * k + 2))).toNatClampNeg else aL m p (m (166 + 4 * k)) (m (166 + (4 * k + 1))) (m (166 + (4 * k + 2))) (m (166 + (4 * k + 3)))
section Said
variable {S T : zSt}
theorem m_tells (hv : WFl (T.1 2)) {p : Nat} (hp : p < 6) (x : Int32) : fX12_tellsOf T (nI p) x = some (bI (aTl (T.1 2) p x)) := by
  have ha := hv.2.1.2
  unfold fX12_tellsOf aTl
  rw [zBits_and _ _ (by omega)]
  have hb : ∀ i, i < kA (T.1 2) → fX12_tellsOf_2 T (nI p) x (nI i) = some (if (aCome (T.1 2) p i && decide (T.1 2 (38 + i) = x)) = true then .inr 1 else .inl (nI (i + 1))) := by
    intro i hi
    unfold fX12_tellsOf_2 fX12_tellsOf_37
    dsimp only
    rw [zg_25_406, zGd_t, zt_25, hv.2.1.1, zle_f hi (by omega), zo_38, zIx_nI (by omega) (by omega), zGd_t, nI_clamp (by omega), m_hasCome hp (by omega), zBd_s, zLt_s, nI_1]
    by_cases q : T.1 2 (38 + i) = x
    · rw [zBr_p q, decide_eq_true q, Bool.and_true]
      by_cases q2 : aCome (T.1 2) p i = true
      · rw [if_pos q2, zBr_q (show ¬ (1 : Int32) = 0 by decide), zXr_s, if_pos q2]
      · rw [if_neg q2, zBr_p (show (0 : Int32) = 0 from rfl), if_neg q2]
    · rw [zBr_q q, decide_eq_false q, Bool.and_false, if_neg (by decide)]
  by_cases hx : ∃ i, i < kA (T.1 2) ∧ (aCome (T.1 2) p i && decide (T.1 2 (38 + i) = x)) = true
  · rw [zLp_any1 hb (by omega) hx, decide_eq_false (fun q => ?_)]
    · rfl
    · obtain ⟨i, hi, h⟩ := hx
      rw [(zBits_zero _ (by omega)).mp q i hi] at h
      cases h
  · have hx' : ∀ i, i < kA (T.1 2) → (aCome (T.1 2) p i && decide (T.1 2 (38 + i) = x)) = false := fun i hi => Bool.not_eq_true _ |>.mp (fun q => hx ⟨i, hi, q⟩)
    rw [zLp_any0 (r0 := (0 : Int32)) hb ?_ (by omega) hx', decide_eq_true ((zBits_zero _ (by omega)).mpr hx')]
    · rfl
    · unfold fX12_tellsOf_2
      dsimp only
      rw [zg_25_406, zGd_t, zt_25, hv.2.1.1, zle_t (Nat.le_refl _) (by omega), zXr_s]
theorem m_cmp {rc : Nat → zSt → Int32 → Int32 → Option Int32} {k : Nat} (hk : k < 60) (v y : Int32) : fX12_holds_287 rc T (nI (166 + 4 * k)) y v = some (bI (cmpI (T.1 2 (166 + (4 * k + 3))) v y)) := by
  unfold fX12_holds_287 cmpI
  rw [show (3 : Int32) = nI 3 from rfl, nI_add, zIx_nI (by omega) (by omega), zGd_t, zGd_t, nI_clamp (by omega), show 166 + 4 * k + 3 = 166 + (4 * k + 3) by omega, zBr_nb, zBr_b, zBr_nb]
  by_cases q : T.1 2 (166 + (4 * k + 3)) = 60
  · rw [zBr_p q, if_pos q]
  · rw [zBr_q q, if_neg q]
    by_cases q2 : T.1 2 (166 + (4 * k + 3)) = 61
    · rw [zBr_p q2, if_pos q2]
    · rw [zBr_q q2, if_neg q2]
theorem m_holds (hw : WFh (T.1 2)) (hv : WFl (T.1 2)) {p : Nat} (hp : p < kP (T.1 2)) : ∀ f d k, sOk (fun j => T.1 2 (166 + j)) (kL (T.1 2)) (kE (T.1 2)) f k → f ≤ d → gHO d 0 T (nI k) (nI p) = some (bI (hV (T.1 2) p f k))
  | 0, d, k, h, _ => h.elim
  | f + 1, d, k, ⟨hk, h⟩, hd => by
    have h6 := hw.2.1.2
    have h5 := hw.1.2
    obtain ⟨d, rfl⟩ : ∃ e, d = e + 1 := ⟨d - 1, by omega⟩
    dsimp only at h
    show fX12_holds (gHO d) T (nI k) (nI p) = _
    unfold fX12_holds
    rw [show (166 : Int32) = nI 166 from rfl, show (4 : Int32) = nI 4 from rfl, pk_mul, nI_add, zLt_s, nI_1, show (2 : Int32) = nI 2 from rfl, nI_add, zIx_nI (by omega) (by omega), zGd_t, zLt_s, zIx_nI (by omega) (by omega), zGd_t, zLt_s, zIx_nI (by omega) (by omega), zGd_t, zGd_t, nI_clamp (by omega), nI_clamp (by omega), nI_clamp (by omega), show 166 + 4 * k + 1 = 166 + (4 * k + 1) by omega, show 166 + 4 * k + 2 = 166 + (4 * k + 2) by omega]
    rw [hV]
    rcases h with ⟨h, a, ha, ea, oa⟩ | ⟨h, a, b, ha, hb, ea, eb, oa, ob⟩ | h
    · have i1 := m_holds hw hv hp f d a oa (by omega)
      rw [h, ea, nI_clamp (by omega), zBr_p rfl, i1, zBd_s, if_pos rfl, bI_br]
      cases hV (T.1 2) p f a <;> rfl
    · have i1 := m_holds hw hv hp f d a oa (by omega)
      have i2 := m_holds hw hv hp f d b ob (by omega)
      rw [ea, eb, nI_clamp (by omega), nI_clamp (by omega), i1, i2]
      simp only [zBd_s, bI_br]
      rcases h with h | h
      · rw [h, zBr_q (show ¬ (2 : Int32) = 1 by decide), zBr_p (show (2 : Int32) = nI 2 from rfl), if_neg (show ¬ (2 : Int32) = 1 by decide), if_pos rfl]
        cases hV (T.1 2) p f a <;> cases hV (T.1 2) p f b <;> rfl
      · rw [h, zBr_q (show ¬ (3 : Int32) = 1 by decide), zBr_q (show ¬ (3 : Int32) = nI 2 by decide), zBr_p rfl, if_neg (show ¬ (3 : Int32) = 1 by decide), if_neg (show ¬ (3 : Int32) = 2 by decide), if_pos rfl]
        cases hV (T.1 2) p f a <;> cases hV (T.1 2) p f b <;> rfl
    · have n : ¬ T.1 2 (166 + 4 * k) = 1 ∧ ¬ T.1 2 (166 + 4 * k) = 2 ∧ ¬ T.1 2 (166 + 4 * k) = 3 := by
        rcases h with h | h | ⟨h | h, -⟩ | ⟨h, -⟩ | ⟨h | h | h, -⟩ <;> rw [h] <;> decide
      rw [zBr_q n.1, zBr_q (show ¬ T.1 2 (166 + 4 * k) = nI 2 from n.2.1), zBr_q n.2.2, if_neg n.1, if_neg n.2.1, if_neg n.2.2]
      rw [m_seesOf hw hv hp, m_isFern, zBd_s, zBd_s, zBd_s, bI_if, zBo_b, zGd_t, m_tells hv (by omega), zBd_s, zBo_b, zGd_t, m_shownBy1 hw hv hp, zBd_s, m_bitsB (aCome (T.1 2) p) hv.2.1.2, zBd_s, m_cmp hk, m_cmp hk, m_cmp hk, zo_26, zIx_nI (by omega) (by omega), zGd_t, nI_clamp (by omega), zo_32, zIx_nI (by omega) (by omega), zGd_t, nI_clamp (by omega), zBr_b, zBr_b, zLt_s]
      unfold aL
      rcases h with h | h | ⟨h | h, x, hx, ex⟩ | ⟨h, x, hx, ex⟩ | ⟨h | h | h, -⟩
      · rw [h, zBr_p rfl, if_pos rfl]
      · rw [h, zBr_q (show ¬ (65 : Int32) = 64 by decide), zBr_p rfl, if_neg (show ¬ (65 : Int32) = 64 by decide), if_pos rfl]
      · rw [h, zBr_q (show ¬ (66 : Int32) = 64 by decide), zBr_q (show ¬ (66 : Int32) = 65 by decide), zBr_p rfl, if_neg (show ¬ (66 : Int32) = 64 by decide), if_neg (show ¬ (66 : Int32) = 65 by decide), if_pos rfl]
      · rw [h, zBr_q (show ¬ (67 : Int32) = 64 by decide), zBr_q (show ¬ (67 : Int32) = 65 by decide), zBr_q (show ¬ (67 : Int32) = 66 by decide), zBr_p rfl, if_neg (show ¬ (67 : Int32) = 64 by decide), if_neg (show ¬ (67 : Int32) = 65 by decide), if_neg (show ¬ (67 : Int32) = 66 by decide), if_pos rfl, ex, m_hasB, zBd_s, bI_if, zBo_b, zGd_t, nI_clamp (by omega)]
      · rw [h, zBr_q (show ¬ (68 : Int32) = 64 by decide), zBr_q (show ¬ (68 : Int32) = 65 by decide), zBr_q (show ¬ (68 : Int32) = 66 by decide), zBr_q (show ¬ (68 : Int32) = 67 by decide), zBr_p rfl, if_neg (show ¬ (68 : Int32) = 64 by decide), if_neg (show ¬ (68 : Int32) = 65 by decide), if_neg (show ¬ (68 : Int32) = 66 by decide), if_neg (show ¬ (68 : Int32) = 67 by decide), if_pos rfl]
      · rw [h, zBr_q (show ¬ (69 : Int32) = 64 by decide), zBr_q (show ¬ (69 : Int32) = 65 by decide), zBr_q (show ¬ (69 : Int32) = 66 by decide), zBr_q (show ¬ (69 : Int32) = 67 by decide), zBr_q (show ¬ (69 : Int32) = 68 by decide), zBr_p (show (69 : Int32) - 50 = 19 by decide), if_neg (show ¬ (69 : Int32) = 64 by decide), if_neg (show ¬ (69 : Int32) = 65 by decide), if_neg (show ¬ (69 : Int32) = 66 by decide), if_neg (show ¬ (69 : Int32) = 67 by decide), if_neg (show ¬ (69 : Int32) = 68 by decide), if_pos rfl]
      · rw [h, zBr_q (show ¬ (70 : Int32) = 64 by decide), zBr_q (show ¬ (70 : Int32) = 65 by decide), zBr_q (show ¬ (70 : Int32) = 66 by decide), zBr_q (show ¬ (70 : Int32) = 67 by decide), zBr_q (show ¬ (70 : Int32) = 68 by decide), zBr_q (show ¬ (70 : Int32) - 50 = 19 by decide), zBr_p (show (70 : Int32) - 50 = 20 by decide), if_neg (show ¬ (70 : Int32) = 64 by decide), if_neg (show ¬ (70 : Int32) = 65 by decide), if_neg (show ¬ (70 : Int32) = 66 by decide), if_neg (show ¬ (70 : Int32) = 67 by decide), if_neg (show ¬ (70 : Int32) = 68 by decide), if_neg (show ¬ (70 : Int32) = 69 by decide), if_pos rfl]
      · rw [h, zBr_q (show ¬ (71 : Int32) = 64 by decide), zBr_q (show ¬ (71 : Int32) = 65 by decide), zBr_q (show ¬ (71 : Int32) = 66 by decide), zBr_q (show ¬ (71 : Int32) = 67 by decide), zBr_q (show ¬ (71 : Int32) = 68 by decide), zBr_q (show ¬ (71 : Int32) - 50 = 19 by decide), zBr_q (show ¬ (71 : Int32) - 50 = 20 by decide), if_neg (show ¬ (71 : Int32) = 64 by decide), if_neg (show ¬ (71 : Int32) = 65 by decide), if_neg (show ¬ (71 : Int32) = 66 by decide), if_neg (show ¬ (71 : Int32) = 67 by decide), if_neg (show ¬ (71 : Int32) = 68 by decide), if_neg (show ¬ (71 : Int32) = 69 by decide), if_neg (show ¬ (71 : Int32) = 70 by decide)]
end Said
