/-! calls that change nothing in the class -/
theorem zTh (T : zSt) (v : Int32) : (zI T 0 0 v).1 2 = T.1 2 := zI_ne (by omega)
theorem zThk (T : zSt) (v : Int32) (k : Nat) (h : k ≠ 0) : (zI T 0 0 v).1 k = T.1 k := zI_ne h
theorem zTh0 (T : zSt) (v : Int32) (j : Nat) (h : j ≠ 0) : (zI T 0 0 v).1 0 j = T.1 0 j := by simp [zI, h]
theorem c_has {S : zSt} {h : Nat} {m : Nat → Int32} (r : Rh S.1 h m) {s n : Nat} (hs : s < 4) (e : m s = nI n) (x : Int32) : fX3_has S h (nI s) x = some (aIs n x) := by
  have := r.1 s hs
  simp (disch := omega) only [fX3_has, zGd_t, zBd_s, zBp_s, zLt_s, zXr_s, zXr_n, zBd_n, zIx_nI, nI_clamp, this, e, zBr_if, aIs]
  by_cases h1 : x < 0
  · simp [h1]
  · by_cases h2 : nI n ≤ x <;> simp [h1, h2]
theorem aIs_cases (n : Nat) (x : Int32) (hn : n < 1000) : aIs n x = 0 ∨ (aIs n x = 1 ∧ ∃ j, j < n ∧ x = nI j) := by
  rcases zCase x n (by omega) with h | h | ⟨j, hj, e⟩
  · exact Or.inl (by simp [aIs, h])
  · exact Or.inl (by simp [aIs, h.1, h.2])
  · refine Or.inr ⟨?_, j, hj, e⟩
    have h1 : ¬ nI j < 0 := nI_pos (by omega)
    have h2 : ¬ nI n ≤ nI j := fun q => by have := (nI_leI (by omega) (by omega)).mp q; omega
    simp [aIs, e, h1, h2]
theorem c_hasAct {S : zSt} {b n : Nat} (e : S.1 b 2 = nI n) (x : Int32) : fX6_hasAct S b x = some (aIs n x) := by
  simp only [fX6_hasAct, e, zBr_if, aIs]
  by_cases h1 : x < 0
  · simp [h1]
  · by_cases h2 : nI n ≤ x <;> simp [h1, h2]
section Ops
variable {S T : zSt}
theorem op_fault (r : Rel S T) : ∃ x, fX11_fault S = some x ∧ fX12_fault T = some (x, zI T 0 0 0) := by
  obtain ⟨r1, r2, r3, r4, r5, ⟨r6, r7, r8⟩, r9⟩ := r
  refine ⟨_, rfl, ?_⟩
  simp [fX12_fault, zLt_s, zI_at, r6]
theorem op_ask (r : Rel S T) : ∃ x, fX11_ask S = some x ∧ fX12_ask T = some (x, zI T 0 0 0) := by
  obtain ⟨r1, r2, r3, r4, r5, ⟨r6, r7, r8⟩, r9⟩ := r
  refine ⟨_, rfl, ?_⟩
  simp [fX12_ask, zLt_s, zI_at, r7]
theorem op_covering (r : Rel S T) : ∃ x, fX11_covering S = some x ∧ fX12_covering T = some (x, zI T 0 0 0) := by
  obtain ⟨r1, r2, r3, r4, r5, ⟨r6, r7, r8⟩, r9⟩ := r
  refine ⟨_, rfl, ?_⟩
  simp [fX12_covering, zLt_s, zI_at, r8]
theorem op_comes (r : Rel S T) (p i : Int32) : ∃ x, fX11_comes S p i = some x ∧ fX12_comes T p i = some (x, zI T 0 0 0) := by
  obtain ⟨-, ⟨hh, hw, hl, hv, -⟩, -⟩ := r
  have h6 := hw.2.1.2
  have ha := hv.2.1.2
  simp only [fX11_comes, fX12_comes, zLt_s, show (1 : Int32) = nI 1 from rfl, c_has hh (show 1 < 4 by omega) hw.2.1.1, zBd_s, m_isPlant (T := zI T 0 0 0) hw, zTh, c_hasAct (hl.2.1.trans hv.2.1.1), m_isAct (T := zI T 0 0 0) hv]
  rcases aIs_cases (kP (T.1 2)) p (by omega) with h | ⟨h, j, hj, rfl⟩
  · exact ⟨_, by rw [h]; rfl, by rw [h]; rfl⟩
  · rw [h]
    rcases aIs_cases (kA (T.1 2)) i (by omega) with h' | ⟨h', k, hk, rfl⟩
    · exact ⟨_, by rw [h']; rfl, by rw [h']; rfl⟩
    · rw [h']
      refine ⟨T.1 2 (86 + 12 * j + k), ?_, ?_⟩
      · simp (disch := omega) [zBr_if, zGd_t, zIx_nI, nI_clamp, hl.2.2.2.2 j k hj hk]
      · simp (disch := omega) [zBr_if, m_leafOf, zBd_s, zTh]
theorem op_sights (r : Rel S T) (l : Int32) : ∃ x, fX11_sights S l = some x ∧ fX12_sights T l = some (x, zI T 0 0 0) := by
  obtain ⟨-, ⟨hh, hw, hl, hv, -⟩, -⟩ := r
  have h5 := hw.1.2
  simp only [fX11_sights, fX12_sights, zLt_s, show (0 : Int32) = nI 0 from rfl, c_has hh (show 0 < 4 by omega) hw.1.1, zBd_s, m_isParlour (T := zI T 0 0 (nI 0)) hw, zTh]
  rcases aIs_cases (kL (T.1 2)) l (by omega) with h | ⟨h, j, hj, rfl⟩
  · exact ⟨_, by rw [h]; rfl, by rw [h]; rfl⟩
  · rw [h]
    refine ⟨T.1 2 (6 + j), ?_, ?_⟩
    · have := hh.2.2.2.1 j (by omega)
      simp (disch := omega) only [zBr_q (show ¬ (1 : Int32) = nI 0 by decide), zGd_t, zBd_s, zBp_s, zLt_s, zXr_s, zXr_n, zBd_n, zIx_nI, nI_clamp]
      exact congrArg some this
    · simp (disch := omega) only [zBr_q (show ¬ (1 : Int32) = nI 0 by decide), zo_5, zo_6, zo_11, zo_17, zo_24, zo_26, zo_32, zo_38, zo_50, zo_62, zo_74, zo_86, zo_158, zo_166, zGd_t, zBd_s, zBp_s, zLt_s, zXr_s, zXr_n, zBd_n, zIx_nI, nI_clamp, zTh]
theorem op_count (r : Rel S T) (w : Int32) : ∃ x, fX11_count S w = some x ∧ fX12_count T w = some (x, zI T 0 0 0) := by
  obtain ⟨⟨L, -, t1, t2, -⟩, ⟨hh, hw, hl, hv, -⟩, -⟩ := r
  have q0 := hh.1 0 (by omega)
  have q1 := hh.1 1 (by omega)
  have q2 := hh.1 2 (by omega)
  have q3 := hh.1 3 (by omega)
  simp only [fX11_count, fX12_count, zLt_s, zg_0_2, zg_0_3, zg_0_4, zg_0_24, zg_0_40, zg_0_160, zg_0_406, zg_1_2, zg_1_3, zg_1_4, zg_1_24, zg_1_406, zg_2_3, zg_2_4, zg_2_24, zg_2_406, zg_3_4, zg_3_24, zg_3_406, zg_4_24, zg_4_406, zg_5_24, zg_5_406, zg_23_24, zg_23_406, zg_24_406, zg_25_406, zg_164_406, zg_165_406, zt_0, zt_1, zt_2, zt_3, zt_4, zt_5, zt_6, zt_20, zt_23, zt_24, zt_25, zt_164, zt_165, zGd_t, zTh, zTh0 T 0 2 (by omega), hh.2.1, hh.2.2.1, t1, t2]
  simp only [show (4 + 1 : Nat) = 4 + 1 from rfl, q0, q1, q2, q3, zBr_if]
  refine ⟨if w = 0 then T.1 2 0 else if w = 1 then T.1 2 1 else if w = 2 then T.1 2 2 else if w = 3 then T.1 2 3 else if w = 4 then T.1 2 4 else if w = 5 then T.1 2 5 else if w = 6 then nI L else -1, ?_, ?_⟩ <;> (repeat' split) <;> simp_all
theorem op_told (r : Rel S T) (w : Int32) : ∃ x, fX11_told S w = some x ∧ fX12_told T w = some (x, zI T 0 0 0) := by
  obtain ⟨-, -, -, -, -, -, -, -, r, -⟩ := r
  have e4 : (3 : Int32) = nI 4 - 1 := by decide
  simp only [fX11_told, fX12_told, zLt_s, zTh0 T 0 39 (by omega), e4, m_isIn (show 4 < 1000 by omega), zBd_s, zThk T 0 17 (by omega)]
  rcases r with ⟨r0, r1, r2, r3, r4⟩ | ⟨r0, r1, r2, r3, r4⟩
  · refine ⟨-1, ?_, by simp [zBr_if, r0]⟩
    simp only [zBr_if, r1, r2, r3, r4]
    (repeat' split) <;> rfl
  · rcases aIs_cases 4 w (by omega) with h | ⟨h, j, hj, rfl⟩
    · rw [h]
      refine ⟨-1, ?_, by simp [zBr_if, r0]⟩
      have n0 : ¬ w = 0 := fun q => by subst q; exact absurd h (by decide)
      have n1 : ¬ w = 1 := fun q => by subst q; exact absurd h (by decide)
      have n2 : ¬ w = 2 := fun q => by subst q; exact absurd h (by decide)
      have n3 : ¬ w = nI 4 - 1 := fun q => by subst q; exact absurd h (by decide)
      simp [zBr_if, n0, n1, n2, n3]
    · rw [h]
      refine ⟨T.1 17 j, ?_, ?_⟩
      · rcases (show j = 0 ∨ j = 1 ∨ j = 2 ∨ j = 3 by omega) with rfl | rfl | rfl | rfl
        · exact congrArg some r1
        · exact congrArg some r2
        · exact congrArg some r3
        · exact congrArg some r4
      · simp (disch := omega) [zBr_if, r0, zIx_nI, zGd_t, nI_clamp]
theorem op_chosen (r : Rel S T) (w : Int32) : ∃ x, fX11_chosen S w = some x ∧ fX12_chosen T w = some (x, zI T 0 0 0) := by
  obtain ⟨-, -, -, -, -, -, -, r, -⟩ := r
  have e3 : (2 : Int32) = nI 3 - 1 := by decide
  simp only [fX11_chosen, fX12_chosen, zLt_s, zTh0 T 0 31 (by omega), e3, m_isIn (show 3 < 1000 by omega), zBd_s, zThk T 0 14 (by omega)]
  rcases r with ⟨r0, r1, r2, r3⟩ | ⟨r0, r1, r2, r3⟩
  · refine ⟨-1, ?_, by simp [zBr_if, r0]⟩
    simp only [zBr_if, r1, r2, r3]
    (repeat' split) <;> rfl
  · rcases aIs_cases 3 w (by omega) with h | ⟨h, j, hj, rfl⟩
    · rw [h]
      refine ⟨-1, ?_, by simp [zBr_if, r0]⟩
      have n0 : ¬ w = 0 := fun q => by subst q; exact absurd h (by decide)
      have n1 : ¬ w = 1 := fun q => by subst q; exact absurd h (by decide)
      have n2 : ¬ w = nI 3 - 1 := fun q => by subst q; exact absurd h (by decide)
      simp [zBr_if, n0, n1, n2]
    · rw [h]
      refine ⟨T.1 14 j, ?_, ?_⟩
      · rcases (show j = 0 ∨ j = 1 ∨ j = 2 by omega) with rfl | rfl | rfl
        · exact congrArg some r1
        · exact congrArg some r2
        · exact congrArg some r3
      · simp (disch := omega) [zBr_if, r0, zIx_nI, zGd_t, nI_clamp]
theorem op_roundAt (r : Rel S T) (k : Int32) : ∃ x, fX11_roundAt S k = some x ∧ fX12_roundAt T k = some (x, zI T 0 0 0) := by
  obtain ⟨-, -, -, -, -, -, ⟨w, hw, r1, r2, r3⟩, -⟩ := r
  simp (disch := omega) only [fX11_roundAt, fX12_roundAt, zLt_s, zTh0 T 0 29 (by omega), r1, r2, m_isIn, zBd_s, zThk T 0 13 (by omega)]
  rcases aIs_cases w k (by omega) with h | ⟨h, j, hj, rfl⟩
  · rw [h]
    refine ⟨-1, ?_, by simp [zBr_if]⟩
    unfold aIs at h
    by_cases h1 : k < 0
    · simp [zBr_if, h1]
    · by_cases h2 : nI w ≤ k
      · simp [zBr_if, h1, h2]
      · simp [h1, h2] at h
  · rw [h]
    refine ⟨T.1 13 j, ?_, ?_⟩
    · simp (disch := omega) only [zBr_q (nI_pos (show j < 2 ^ 31 by omega)), zle_f, zGd_t, zBd_s, zBp_s, zLt_s, zXr_s, zXr_n, zBd_n, zIx_nI, nI_clamp, r3 j hj]
    · simp (disch := omega) [zBr_if, zIx_nI, zGd_t, nI_clamp]
end Ops
