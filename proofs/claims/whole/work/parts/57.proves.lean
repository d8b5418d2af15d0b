/-! proves -/
theorem zFo_ct (P : Nat → Bool) (n : Nat) : zFo (fun i acc => if P i = true then acc + 1 else acc) (0 : Int32) n = nI (zCt P n) := by
  induction n with
  | zero => rfl
  | succ n ih =>
    rw [zFo, zCt, ih]
    by_cases h : P n = true
    · rw [if_pos h, if_pos h, nI_1]
    · rw [if_neg h, if_neg h]; rfl
def aCand (m : Nat → Int32) (i p : Nat) : Bool := decide (¬ m (86 + 12 * p + i) = -1) && decide (¬ nI (zCt (fun q => aBy m (m (86 + 12 * p + i)) q i) (kP m)) < m 5)
def aMin (acc x : Int32) : Int32 := if acc = -1 then x else if acc ≤ x then acc else x
section Proves
variable {S T : zSt}
theorem c_proof1 {m : Nat → Int32} (hh : Rh S.1 4 m) (hw : WFh m) (hl : Rl S.1 14 m) (hv : WFl m) {i p : Nat} (hi : i < kA m) (hp : p < kP m) (acc : Int32) : fX2_dayOfProof_4 S (nI i) (acc, nI p) = some (.inl ((if aCand m i p = true then (if (400 : Int32) < m (86 + 12 * p + i) then acc else aMin acc (m (86 + 12 * p + i))) else acc), nI (p + 1))) := by
  have h6 := hw.2.1.2
  have ha := hv.2.1.2
  have e2 := hl.2.2.2.2 p i hp hi
  unfold fX2_dayOfProof_4 fX2_dayOfProof_61 fX2_dayOfProof_62 fX2_dayOfProof_88 fX2_dayOfProof_91
  dsimp only
  rw [c_plants (b := 14) hh, zBd_s, hw.2.1.1, zle_f hp (by omega), zIx_nI (by omega) (by omega), zGd_t, zIx_nI (by omega) (by omega), zGd_t, nI_clamp (by omega), nI_clamp (by omega), e2, zLt_s, zLt_s, zLt_s, nI_1]
  obtain ⟨x, hx⟩ : ∃ x, x = m (86 + 12 * p + i) := ⟨_, rfl⟩
  unfold aCand
  rw [← hx, c_witnessesBy (b := 14) hh hw hl hi ha x, zBd_s, c_bitcB (fun p => aBy m x p i) (show kP m ≤ 12 by omega), zBd_s, hh.2.2.1]
  rw [zBr_p (show (0 : Int32) = 0 from rfl), zBr_q (show ¬ (1 : Int32) = 0 by decide)]
  by_cases q1 : x = -1
  · rw [zBr_p q1, decide_eq_false (not_not_intro q1), Bool.false_and, if_neg (by decide)]
  rw [zBr_q q1, decide_eq_true q1, Bool.true_and]
  by_cases q2 : nI (zCt (fun p => aBy m x p i) (kP m)) < m 5
  · rw [zBr_p q2, decide_eq_false (not_not_intro q2), if_neg (by decide)]
  rw [zBr_q q2, decide_eq_true q2, if_pos rfl]
  by_cases q3 : (400 : Int32) < x
  · rw [zBr_p q3, if_pos q3]
  rw [zBr_q q3, if_neg q3]
  unfold aMin
  by_cases q4 : acc = -1
  · rw [zBr_p q4, if_pos q4]
  rw [zBr_q q4, if_neg q4]
  by_cases q5 : acc ≤ x
  · rw [zBr_p q5, if_pos q5]
  · rw [zBr_q q5, if_neg q5]
theorem m_proof1 (hw : WFh (T.1 2)) (hv : WFl (T.1 2)) {i p : Nat} (hi : i < kA (T.1 2)) (hp : p < kP (T.1 2)) (acc : Int32) : fX12_proves_19 T (nI i) (acc, nI p) = some (.inl ((if aCand (T.1 2) i p = true then aMin acc (T.1 2 (86 + 12 * p + i)) else acc), nI (p + 1))) := by
  have h6 := hw.2.1.2
  have ha := hv.2.1.2
  unfold fX12_proves_19
  dsimp only
  rw [zg_1_406, zGd_t, zt_1, hw.2.1.1, zle_f hp (by omega), m_leafOf (by omega) (by omega), zBd_s]
  obtain ⟨x, hx⟩ : ∃ x, x = T.1 2 (86 + 12 * p + i) := ⟨_, rfl⟩
  unfold aCand
  rw [← hx]
  refine zLp_fold (F := fun q acc => if aBy (T.1 2) x q i = true then acc + 1 else acc) (n := kP (T.1 2)) (fun ac q hq => ?_) ?_ (by omega)
  · unfold fX12_proves_43 fX12_proves_80
    dsimp only
    rw [zg_1_406, zGd_t, zt_1, hw.2.1.1, zle_f hq (by omega), m_leafOf (by omega) (by omega), zBd_s, zBd_s, zLt_s, zLt_s, zLt_s, nI_1]
    unfold aBy
    by_cases q1 : T.1 2 (86 + 12 * q + i) = -1
    · rw [zBr_p q1, decide_eq_false (not_not_intro q1), Bool.false_and, if_neg (by decide)]
    rw [zBr_q q1, decide_eq_true q1, Bool.true_and]
    by_cases q2 : x < T.1 2 (86 + 12 * q + i)
    · rw [zBr_p q2, decide_eq_false (not_not_intro q2), if_neg (by decide)]
    · rw [zBr_q q2, decide_eq_true q2, if_pos rfl]
  · rw [zFo_ct]
    unfold fX12_proves_43 fX12_proves_114 fX12_proves_117
    dsimp only
    rw [zg_1_406, zGd_t, zt_1, hw.2.1.1, zle_t (by omega) (by omega), zLt_s, zLt_s, nI_1, zg_5_406, zGd_t, zt_5]
    by_cases q1 : x = -1
    · rw [zBr_p q1, zXr_s, decide_eq_false (not_not_intro q1), Bool.false_and, if_neg (by decide)]
    rw [zBr_q q1, decide_eq_true q1, Bool.true_and]
    by_cases q2 : nI (zCt (fun p => aBy (T.1 2) x p i) (kP (T.1 2))) < T.1 2 5
    · rw [zBr_p q2, zXr_s, decide_eq_false (not_not_intro q2), if_neg (by decide)]
    rw [zBr_q q2, decide_eq_true q2, if_pos rfl]
    unfold aMin
    by_cases q4 : acc = -1
    · rw [zBr_p q4, if_pos q4, zXr_s]
    rw [zBr_q q4, if_neg q4]
    by_cases q5 : acc ≤ x
    · rw [zBr_p q5, if_pos q5, zXr_s]
    · rw [zBr_q q5, if_neg q5, zXr_s]
theorem zProof {m : Nat → Int32} (hw : WFh m) (hv : WFl m) {i : Nat} (hi : i < kA m) : ∀ n, n ≤ kP m → (zFo (fun p acc => if aCand m i p = true then (if (400 : Int32) < m (86 + 12 * p + i) then acc else aMin acc (m (86 + 12 * p + i))) else acc) (-1 : Int32) n = zFo (fun p acc => if aCand m i p = true then aMin acc (m (86 + 12 * p + i)) else acc) (-1 : Int32) n ∧ (zFo (fun p acc => if aCand m i p = true then aMin acc (m (86 + 12 * p + i)) else acc) (-1 : Int32) n = -1 ∨ ∃ d, d ≤ 400 ∧ zFo (fun p acc => if aCand m i p = true then aMin acc (m (86 + 12 * p + i)) else acc) (-1 : Int32) n = nI d)) ∨ (zFo (fun p acc => if aCand m i p = true then (if (400 : Int32) < m (86 + 12 * p + i) then acc else aMin acc (m (86 + 12 * p + i))) else acc) (-1 : Int32) n = -1 ∧ ∃ d, 400 < d ∧ d ≤ 600 ∧ zFo (fun p acc => if aCand m i p = true then aMin acc (m (86 + 12 * p + i)) else acc) (-1 : Int32) n = nI d) := by
  intro n
  induction n with
  | zero => intro _; exact Or.inl ⟨rfl, Or.inl rfl⟩
  | succ n ih =>
    intro hn
    have ih := ih (by omega)
    have ha := hv.2.1.2
    rw [zFo, zFo]
    obtain ⟨c, hc⟩ : ∃ c, c = zFo (fun p acc => if aCand m i p = true then (if (400 : Int32) < m (86 + 12 * p + i) then acc else aMin acc (m (86 + 12 * p + i))) else acc) (-1 : Int32) n := ⟨_, rfl⟩
    obtain ⟨g, hg⟩ : ∃ g, g = zFo (fun p acc => if aCand m i p = true then aMin acc (m (86 + 12 * p + i)) else acc) (-1 : Int32) n := ⟨_, rfl⟩
    rw [← hc, ← hg] at ih ⊢
    by_cases q : aCand m i n = true
    · rw [if_pos q, if_pos q]
      have q1 : ¬ m (86 + 12 * n + i) = -1 := by
        unfold aCand at q
        rw [Bool.and_eq_true, decide_eq_true_eq] at q
        exact q.1
      obtain ⟨x, hx, ex⟩ : ∃ x, x ≤ 600 ∧ m (86 + 12 * n + i) = nI x := by
        rcases hv.2.2.2.2.1 n i (by omega) hi with e | ⟨f, hf, e⟩
        · exact absurd e q1
        · exact ⟨f, by omega, e⟩
      rw [ex, show (400 : Int32) = nI 400 from rfl]
      unfold aMin
      by_cases h4 : 400 < x
      · rw [if_pos ((nI_ltI (by omega) (by omega)).mpr h4)]
        rcases ih with ⟨e1, e2 | ⟨d, hd, e2⟩⟩ | ⟨e1, d, hd, hd2, e2⟩
        · rw [if_pos e2]
          exact Or.inr ⟨e1.trans e2, x, h4, hx, rfl⟩
        · rw [e2, if_neg (zneg2 (by omega)), if_pos ((nI_leI (by omega) (by omega)).mpr (by omega))]
          exact Or.inl ⟨e1.trans e2, Or.inr ⟨d, hd, rfl⟩⟩
        · rw [e2, if_neg (zneg2 (by omega))]
          by_cases hdx : d ≤ x
          · rw [if_pos ((nI_leI (by omega) (by omega)).mpr hdx)]
            exact Or.inr ⟨e1, d, hd, hd2, rfl⟩
          · rw [if_neg (fun w => hdx ((nI_leI (by omega) (by omega)).mp w))]
            exact Or.inr ⟨e1, x, h4, hx, rfl⟩
      · rw [if_neg (fun w => h4 ((nI_ltI (by omega) (by omega)).mp w))]
        rcases ih with ⟨e1, e2 | ⟨d, hd, e2⟩⟩ | ⟨e1, d, hd, hd2, e2⟩
        · rw [e1, if_pos e2]
          exact Or.inl ⟨rfl, Or.inr ⟨x, by omega, rfl⟩⟩
        · rw [e1, e2, if_neg (zneg2 (by omega))]
          by_cases hdx : d ≤ x
          · rw [if_pos ((nI_leI (by omega) (by omega)).mpr hdx)]
            exact Or.inl ⟨rfl, Or.inr ⟨d, hd, rfl⟩⟩
          · rw [if_neg (fun w => hdx ((nI_leI (by omega) (by omega)).mp w))]
            exact Or.inl ⟨rfl, Or.inr ⟨x, by omega, rfl⟩⟩
        · rw [e1, if_pos rfl, e2, if_neg (zneg2 (by omega)), if_neg (fun w => by have := (nI_leI (by omega) (by omega)).mp w; omega)]
          exact Or.inl ⟨rfl, Or.inr ⟨x, by omega, rfl⟩⟩
    · rw [if_neg q, if_neg q]
      exact ih
theorem op_proves (r : Rel S T) (x : Int32) : ∃ z, fX11_proves S x = some z ∧ fX12_proves T x = some (z, zI T 0 0 0) := by
  obtain ⟨-, ⟨hh, hw, hl, hv, -⟩, -⟩ := r
  have h6 := hw.2.1.2
  have ha := hv.2.1.2
  have hm : fX12_isAct (zI T 0 0 0) x = some (aIs (kA (T.1 2)) x) := by
    rw [m_isAct (T := zI T 0 0 0) (by rw [zTh]; exact hv), zTh]
  unfold fX11_proves fX12_proves
  rw [zLt_s, c_hasAct (hl.2.1.trans hv.2.1.1), hm, zBd_s, zBd_s]
  rcases aIs_cases (kA (T.1 2)) x (by omega) with h | ⟨h, i, hi, rfl⟩
  · rw [h]; exact ⟨_, rfl, rfl⟩
  · rw [h, zBr_q (show ¬ (1 : Int32) = 0 by decide), zBr_q (show ¬ (1 : Int32) = 0 by decide)]
    obtain ⟨c, hc⟩ : ∃ c, c = zFo (fun p acc => if aCand (T.1 2) i p = true then (if (400 : Int32) < T.1 2 (86 + 12 * p + i) then acc else aMin acc (T.1 2 (86 + 12 * p + i))) else acc) (-1 : Int32) (kP (T.1 2)) := ⟨_, rfl⟩
    obtain ⟨g, hg⟩ : ∃ g, g = zFo (fun p acc => if aCand (T.1 2) i p = true then aMin acc (T.1 2 (86 + 12 * p + i)) else acc) (-1 : Int32) (kP (T.1 2)) := ⟨_, rfl⟩
    have e1 : fX2_dayOfProof S (nI i) = some c := by
      unfold fX2_dayOfProof
      refine zLp_fold (F := fun p acc => if aCand (T.1 2) i p = true then (if (400 : Int32) < T.1 2 (86 + 12 * p + i) then acc else aMin acc (T.1 2 (86 + 12 * p + i))) else acc) (n := kP (T.1 2)) (fun acc p hp => c_proof1 hh hw hl hv hi hp acc) ?_ (by omega)
      rw [← hc]
      unfold fX2_dayOfProof_4
      dsimp only
      rw [c_plants (b := 14) hh, zBd_s, hw.2.1.1, zle_t (by omega) (by omega), zXr_s]
    have e2 : zLp (fX12_proves_19 (zI T 0 0 0) (nI i)) 2000 ((-1 : Int32), 0) = some ((if g ≤ 400 then g else -1), zI T 0 0 0) := by
      refine zLp_fold (F := fun p acc => if aCand (T.1 2) i p = true then aMin acc (T.1 2 (86 + 12 * p + i)) else acc) (n := kP (T.1 2)) (fun acc p hp => ?_) ?_ (by omega)
      · have := m_proof1 (T := zI T 0 0 0) (i := i) (p := p) (by rw [zTh]; exact hw) (by rw [zTh]; exact hv) (by rw [zTh]; exact hi) (by rw [zTh]; exact hp) acc
        rw [zTh] at this
        exact this
      · rw [← hg]
        unfold fX12_proves_19
        dsimp only
        rw [zg_1_406, zGd_t, zt_1, zTh, hw.2.1.1, zle_t (by omega) (by omega)]
        by_cases q : g ≤ 400
        · rw [zBr_p q, if_pos q, zXr_s]
        · rw [zBr_q q, if_neg q, zXr_s]
    have e3 := zProof hw hv hi (kP (T.1 2)) (Nat.le_refl _)
    rw [← hc, ← hg] at e3
    rw [e1, zBd_s, e2]
    refine ⟨c, rfl, ?_⟩
    rcases e3 with ⟨e1, e2 | ⟨d, hd, e2⟩⟩ | ⟨e1, d, hd, hd2, e2⟩
    · rw [e1, e2, if_pos (by decide)]
    · rw [e1, e2, if_pos (by rw [show (400 : Int32) = nI 400 from rfl]; exact (nI_leI (by omega) (by omega)).mpr hd)]
    · rw [e1, e2, if_neg (fun w => by rw [show (400 : Int32) = nI 400 from rfl] at w; have := (nI_leI (by omega) (by omega)).mp w; omega)]
end Proves
