def aNext (m : Nat → Int32) (p : Nat) : Int32 := (if m (158 + p) ≤ m 24 then m 24 else m (158 + p)) + m (17 + p)
theorem zneg1 {d : Nat} (h : d < 2147483648) : (-1 : Int32) ≤ nI d := by
  have h1 : (nI d).toInt = d := nI_toInt (by omega)
  rw [Int32.le_iff_toInt_le, h1]
  have : (-1 : Int32).toInt = -1 := rfl
  omega
theorem zneg2 {d : Nat} (h : d < 2147483648) : ¬ nI d = (-1 : Int32) := by
  intro q
  have h1 : (nI d).toInt = d := nI_toInt (by omega)
  rw [q] at h1
  have : (-1 : Int32).toInt = -1 := rfl
  omega
theorem c_nextLeaf {S : zSt} {b : Nat} {m : Nat → Int32} (hh : Rh S.1 (zHs b) m) (hw : WFh m) (hl : Rl S.1 b m) (hv : WFl m) {p : Nat} (hp : p < kP m) : fX6_nextLeafDay S b (nI p) = some (aNext m p) := by
  have h6 := hw.2.1.2
  obtain ⟨d, hd, ed⟩ := hv.1
  have e3 := (hl.2.2.1 p hp).2.2
  have e4 := hv.2.2.2.2.2.1 p hp
  have ha := hv.2.1.2
  simp (disch := omega) only [fX6_nextLeafDay, zGd_t, zBd_s, zBp_s, zLt_s, zXr_s, zXr_n, zBd_n, zIx_nI, nI_clamp, hl.1, (hh.2.2.2.2 p hp).2.1, aNext]
  congr 2
  rcases e3 with e3 | ⟨e3, e5⟩
  · rw [e3]
    by_cases q : m (158 + p) ≤ m 24
    · rw [if_pos q, if_neg (Int32.not_lt.mpr q)]
    · rw [if_neg q, if_pos (Int32.not_le.mp q)]
  · rw [e3, e5, ed, if_pos (zneg1 (by omega)), if_neg (nI_pos (by omega))]
theorem m_nextLeaf {T : zSt} {p : Nat} (hp : p < 6) : fX12_nextLeaf T (nI p) = some (aNext (T.1 2) p) := by
  simp (disch := omega) only [fX12_nextLeaf, fX12_nextLeaf_40, zg_0_2, zg_0_3, zg_0_4, zg_0_24, zg_0_40, zg_0_160, zg_0_406, zg_1_2, zg_1_3, zg_1_4, zg_1_24, zg_1_406, zg_2_3, zg_2_4, zg_2_24, zg_2_406, zg_3_4, zg_3_24, zg_3_406, zg_4_24, zg_4_406, zg_5_24, zg_5_406, zg_23_24, zg_23_406, zg_24_406, zg_25_406, zg_164_406, zg_165_406, zt_0, zt_1, zt_2, zt_3, zt_4, zt_5, zt_6, zt_20, zt_23, zt_24, zt_25, zt_164, zt_165, zo_5, zo_6, zo_11, zo_17, zo_24, zo_26, zo_32, zo_38, zo_50, zo_62, zo_74, zo_86, zo_158, zo_166, zGd_t, zBd_s, zBp_s, zLt_s, zXr_s, zXr_n, zBd_n, zIx_nI, nI_clamp, aNext]
  by_cases q : T.1 2 (158 + p) ≤ T.1 2 24 <;> simp [zBr_if, q]
section Ops3
variable {S T : zSt}
theorem op_elder (r : Rel S T) : ∃ z, fX11_elder S = some z ∧ fX12_elder T = some (z, zI T 0 0 0) := by
  obtain ⟨-, ⟨hh, hw, hl, hv, -⟩, -⟩ := r
  have h6 := hw.2.1.2
  have ha := hv.2.1.2
  have e1 := hw.2.1.1
  obtain ⟨F, hF⟩ : ∃ F : Nat → Int32 × Int32 → Int32 × Int32, ∀ p x, F p x = if nI (zCt (aCome (T.1 2) p) (kA (T.1 2))) ≤ x.2 then x else (nI p, nI (zCt (aCome (T.1 2) p) (kA (T.1 2)))) := ⟨_, fun _ _ => rfl⟩
  have e5 : S.1 5 1 = nI (kP (T.1 2)) := (hh.1 1 (by omega)).trans e1
  have c1 : ∀ (x y : Int32) (p : Nat), p < kP (T.1 2) → fX11_elder_6 S (x, y, nI p) = some (.inl ((F p (x, y)).1, (F p (x, y)).2, nI (p + 1))) := by
    intro x y p hp
    unfold fX11_elder_6 fX11_elder_43
    dsimp only
    rw [zg_1_4, zGd_t, zt_1, e5, zle_f hp (by omega), c_actsShown hl hv hw hp, zBd_s, c_bitcB (aCome (T.1 2) p) ha, zBd_s, hF]
    by_cases q : nI (zCt (aCome (T.1 2) p) (kA (T.1 2))) ≤ y
    · rw [zBr_p q, zLt_s, nI_1, if_pos q]
    · rw [zBr_q q, zLt_s, nI_1, if_neg q]
  have c2 : ∀ (x y : Int32), fX11_elder_6 S (x, y, nI (kP (T.1 2))) = some (.inr x) := by
    intro x y
    unfold fX11_elder_6
    dsimp only
    rw [zg_1_4, zGd_t, zt_1, e5, zle_t (Nat.le_refl _) (by omega), zXr_s]
  have m1 : ∀ (x y : Int32) (p : Nat), p < kP (T.1 2) → fX12_elder_11 (zI T 0 0 0) (x, y, nI p) = some (.inl ((F p (x, y)).1, (F p (x, y)).2, nI (p + 1))) := by
    intro x y p hp
    unfold fX12_elder_11 fX12_elder_46
    dsimp only
    rw [zg_1_406, zGd_t, zt_1, zTh, e1, zle_f hp (by omega), m_shownBy1 (T := zI T 0 0 0) hw hv hp, zBd_s, zTh, m_bitsB (aCome (T.1 2) p) ha, zBd_s, hF]
    by_cases q : nI (zCt (aCome (T.1 2) p) (kA (T.1 2))) ≤ y
    · rw [zBr_q (Int32.not_lt.mpr q), zLt_s, nI_1, if_pos q]
    · rw [zBr_p (Int32.not_le.mp q), zLt_s, nI_1, if_neg q]
  have m2 : ∀ (x y : Int32), fX12_elder_11 (zI T 0 0 0) (x, y, nI (kP (T.1 2))) = some (.inr (x, zI T 0 0 0)) := by
    intro x y
    unfold fX12_elder_11
    dsimp only
    rw [zg_1_406, zGd_t, zt_1, zTh, e1, zle_t (Nat.le_refl _) (by omega), zXr_s]
  have k1 : ∀ p x, zFo F x (p + 1) = F p (zFo F x p) := fun _ _ => rfl
  refine ⟨(zFo F (-1, 0) (kP (T.1 2))).1, ?_, ?_⟩
  · rw [fX11_elder]
    exact zLp_run (fun i => ((zFo F (-1, 0) i).1, (zFo F (-1, 0) i).2, nI i)) (kP (T.1 2)) 2000 (fun p hp => c1 _ _ p hp) (c2 _ _) (by omega)
  · rw [fX12_elder, zLt_s]
    exact zLp_run (fun i => ((zFo F (-1, 0) i).1, (zFo F (-1, 0) i).2, nI i)) (kP (T.1 2)) 2000 (fun p hp => m1 _ _ p hp) (m2 _ _) (by omega)
theorem op_hides (r : Rel S T) (k : Int32) : ∃ z, fX11_hides S k = some z ∧ fX12_hides T k = some (z, zI T 0 0 0) := by
  obtain ⟨-, ⟨hh, hw, hl, hv, -⟩, -⟩ := r
  have h6 := hw.2.1.2
  have e1 := hw.2.1.1
  have e60 : (60 : Int32) = nI 61 - 1 := by decide
  have hin := m_isIn (show 61 < 1000 by omega) k
  rw [← e60] at hin
  simp only [fX11_hides, fX12_hides, zLt_s, hin, zBd_s]
  rcases aIs_cases 61 k (by omega) with h | ⟨h, j, hj, rfl⟩
  · rw [h]
    refine ⟨-1, ?_, rfl⟩
    unfold aIs at h
    by_cases h1 : k < 0
    · rw [zBr_p h1]
    · have h2 : ¬ k ≤ 60 := fun q => by
        have : ¬ nI 61 ≤ k := fun q2 => by
          have := (zpred (show 61 < 1000 by omega) k).mpr q2
          rw [← e60] at this
          exact Int32.not_le.mpr this q
        simp [h1, this] at h
      rw [zBr_q h1, zBr_q h2]
  · rw [h, zBr_q (nI_pos (by omega)), show (60 : Int32) = nI 60 from rfl, zle_t (by omega) (by omega), zBr_q (show ¬ (1 : Int32) = 0 by decide)]
    refine ⟨((((1 : Int32) <<< (T.1 2 0 &&& 31)) - 1) &&& (zFo (fun p acc => if (decide (¬ T.1 2 24 + nI j < aNext (T.1 2) p)) = true then acc ||| aSees (T.1 2) p 0 else acc) 0 (kP (T.1 2)) ^^^ (-1))), ?_, ?_⟩
    · rw [fX2_hiddenParlours]
      have e0 : S.1 5 0 = T.1 2 0 := hh.1 0 (by omega)
      have b1 : ∀ acc p, p < kP (T.1 2) → fX2_hiddenParlours_4 S (nI j) (acc, nI p) = some (.inl ((if (decide (¬ T.1 2 24 + nI j < aNext (T.1 2) p)) = true then acc ||| aSees (T.1 2) p 0 else acc), nI (p + 1))) := by
        intro acc p hp
        simp (disch := omega) only [fX2_hiddenParlours_4, fX2_hiddenParlours_46, c_plants (b := 14) hh, zBd_s, e1, zle_f, zGd_t, zBd_s, zBp_s, zLt_s, zXr_s, zXr_n, zBd_n, zIx_nI, nI_clamp, c_nextLeaf (b := 14) hh hw hl hv hp, hl.1, c_seenBy (b := 14) hh hw hl hv hp]
        by_cases q : T.1 2 24 + nI j < aNext (T.1 2) p <;> simp [zBr_if, q, nI_1]
      have b2 : ∀ acc, fX2_hiddenParlours_4 S (nI j) (acc, nI (kP (T.1 2))) = some (.inr ((((1 : Int32) <<< (T.1 2 0 &&& 31)) - 1) &&& (acc ^^^ (-1)))) := by
        intro acc
        unfold fX2_hiddenParlours_4
        dsimp only
        rw [c_plants (b := 14) hh, zBd_s, e1, zle_t (Nat.le_refl _) (by omega), zg_0_4, zGd_t, zt_0, e0, fX11_allBits, zBd_s, zXr_s]
      rw [zLp_fold (F := fun p acc => if (decide (¬ T.1 2 24 + nI j < aNext (T.1 2) p)) = true then acc ||| aSees (T.1 2) p 0 else acc) (a := 0) (n := kP (T.1 2)) b1 (b2 _) (by omega)]
      rfl
    · rw [zNotF, zg_0_406, zGd_t, zTh, zt_0]
      refine zLp_fold (F := fun p acc => if (decide (¬ T.1 2 24 + nI j < aNext (T.1 2) p)) = true then acc &&& (aSees (T.1 2) p 0 ^^^ (-1)) else acc) (n := kP (T.1 2)) (fun acc p hp => ?_) ?_ (by omega)
      · simp (disch := omega) only [fX12_hides_30, fX12_hides_68, zg_0_2, zg_0_3, zg_0_4, zg_0_24, zg_0_40, zg_0_160, zg_0_406, zg_1_2, zg_1_3, zg_1_4, zg_1_24, zg_1_406, zg_2_3, zg_2_4, zg_2_24, zg_2_406, zg_3_4, zg_3_24, zg_3_406, zg_4_24, zg_4_406, zg_5_24, zg_5_406, zg_23_24, zg_23_406, zg_24_406, zg_25_406, zg_164_406, zg_165_406, zt_0, zt_1, zt_2, zt_3, zt_4, zt_5, zt_6, zt_20, zt_23, zt_24, zt_25, zt_164, zt_165, zGd_t, zBd_s, zBp_s, zLt_s, zXr_s, zXr_n, zBd_n, zIx_nI, nI_clamp, zTh, e1, zle_f, m_nextLeaf (T := zI T 0 0 0), m_seesOf (T := zI T 0 0 0) hw hv hp]
        by_cases q : T.1 2 24 + nI j < aNext (T.1 2) p <;> simp [zBr_if, q, nI_1]
      · simp (disch := omega) only [fX12_hides_30, zg_0_2, zg_0_3, zg_0_4, zg_0_24, zg_0_40, zg_0_160, zg_0_406, zg_1_2, zg_1_3, zg_1_4, zg_1_24, zg_1_406, zg_2_3, zg_2_4, zg_2_24, zg_2_406, zg_3_4, zg_3_24, zg_3_406, zg_4_24, zg_4_406, zg_5_24, zg_5_406, zg_23_24, zg_23_406, zg_24_406, zg_25_406, zg_164_406, zg_165_406, zt_0, zt_1, zt_2, zt_3, zt_4, zt_5, zt_6, zt_20, zt_23, zt_24, zt_25, zt_164, zt_165, zGd_t, zBd_s, zBp_s, zLt_s, zXr_s, zXr_n, zBd_n, zIx_nI, nI_clamp, zTh, e1, zle_t]
end Ops3
