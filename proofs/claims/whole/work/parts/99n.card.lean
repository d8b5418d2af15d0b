/-! card: the reference's text, whole -/
def dig (n : Nat) : List Nat := if n < 10 then [48 + n] else [49, 48 + (n - 10)]
def cTx (l : List Nat) (fern : Bool) (n : Nat) (blind : Bool) : List Nat := l.map (fun c => 96 + c) ++ (if fern = true then [32, 105, 115, 32, 97, 32, 102, 101, 114, 110] else [32, 104, 97, 115, 32] ++ (dig n ++ if blind = true then [32, 98, 108, 105, 110, 100] else []))
section Card2
variable {S T0 T : zSt} {tx : List Nat}
theorem dig_le {n : Nat} (h : n ≤ 12) : (dig n).length ≤ 2 := by
  unfold dig
  split
  · show 1 ≤ 2; omega
  · show 2 ≤ 2; omega
theorem cTx_le {l : List Nat} (h : l.length ≤ 7) (f b : Bool) {n : Nat} (hn : n ≤ 12) : (cTx l f n b).length ≤ 20 := by
  have := dig_le hn
  unfold cTx
  cases f <;> cases b <;> simp [List.length_append, List.length_map] <;> omega
theorem m_num {n : Nat} (hn : n ≤ 12) (h : tX tx T0 T) (hl : tx.length + 2 ≤ 64) : ∃ T', gWN 16 0 T (nI n) = some T' ∧ tX (tx ++ dig n) T0 T' := by
  have one : ∀ d T1 tx1 (v c : Nat), tX tx1 T0 T1 → tx1.length < 64 → (48 : Int32) + (nI v - nI v / 10 * 10) = nI c → ∃ T', fX12_writeNumber_14 (gWN d) T1 (nI v) = some T' ∧ tX (tx1 ++ [c]) T0 T' := fun d T1 tx1 v c h1 h2 h3 => by
    obtain ⟨T', e1, e2⟩ := m_write h1 h2 c
    refine ⟨T', ?_, e2⟩
    unfold fX12_writeNumber_14
    rw [h3, e1, zBd_s, show decide (¬ (10 : Int32) = 0) = true by decide, zGd_t]
  show ∃ T', fX12_writeNumber (gWN 15) T (nI n) = some T' ∧ _
  unfold fX12_writeNumber dig
  by_cases q : n < 10
  · obtain ⟨T', e1, e2⟩ := one 15 T tx n (48 + n) h (by omega) (by
      have : ∀ k, k < 10 → (48 : Int32) + (nI k - nI k / 10 * 10) = nI (48 + k) := by decide
      exact this n q)
    rw [show (9 : Int32) = nI 9 from rfl, zle_t (show n ≤ 9 by omega) (by omega), if_pos q, e1]
    exact ⟨T', rfl, e2⟩
  · rw [show (9 : Int32) = nI 9 from rfl, zle_f (show 9 < n by omega) (by omega), if_neg q]
    have dv : nI n / 10 = nI 1 := by
      have : ∀ k, k < 13 → 10 ≤ k → nI k / 10 = nI 1 := by decide
      exact this n (by omega) (by omega)
    have md : (48 : Int32) + (nI n - nI n / 10 * 10) = nI (48 + (n - 10)) := by
      have : ∀ k, k < 13 → 10 ≤ k → (48 : Int32) + (nI k - nI k / 10 * 10) = nI (48 + (k - 10)) := by decide
      exact this n (by omega) (by omega)
    obtain ⟨T1, e1, e2⟩ := one 14 T tx 1 49 h (by omega) (by decide)
    have g1 : gWN 15 0 T (nI 1) = some T1 := by
      show fX12_writeNumber (gWN 14) T (nI 1) = some T1
      unfold fX12_writeNumber
      rw [zBr_p (show nI 1 ≤ (9 : Int32) by decide), e1]
    obtain ⟨T2, e3, e4⟩ := one 15 T1 (tx ++ [49]) n (48 + (n - 10)) e2 (by rw [List.length_append]; show _ + 1 < _; omega) md
    rw [dv, g1, zBd_s, e3, show decide (¬ (10 : Int32) = 0) = true by decide, zGd_t]
    refine ⟨T2, rfl, ?_⟩
    rw [List.append_assoc] at e4
    exact e4
theorem m_words {l : List Nat} (h1 : 1 ≤ l.length) (h7 : l.length ≤ 7) (ok : dOk l) (h : tX tx T0 T) (hl : tx.length + 7 ≤ 64) : ∃ T', gWW 16 0 T (lN (f27 l)) = some T' ∧ tX (tx ++ l.map (fun c => 96 + c)) T0 T' := by
  have := m_word (tx := tx) (T0 := T0) l.reverse 16 T (fun q => by rw [List.reverse_eq_nil_iff] at q; rw [q] at h1; simp at h1) (by rw [List.reverse_reverse]; exact ok) (by rw [List.length_reverse]; exact h7) (by rw [List.length_reverse]; omega) h (by rw [List.length_reverse]; omega)
  rw [List.reverse_reverse] at this
  exact this
theorem m_next {l : List Nat} (h1 : 1 ≤ l.length) (h7 : l.length ≤ 7) (ok : dOk l) (h : tX tx T0 T) (hl : tx.length + 8 ≤ 64) : ∃ T', fX12_writeNext T (lN (f27 l)) = some T' ∧ tX (tx ++ (32 :: l.map (fun c => 96 + c))) T0 T' := by
  obtain ⟨T1, e1, e2⟩ := m_write h (by omega) 32
  obtain ⟨T2, e3, e4⟩ := m_words h1 h7 ok e2 (by rw [List.length_append]; show _ + 1 + 7 ≤ _; omega)
  refine ⟨T2, ?_, by rw [List.append_assoc] at e4; exact e4⟩
  unfold fX12_writeNext
  rw [show (32 : Int32) = nI 32 from rfl, e1, zBd_s, e3, zBd_s]
theorem tX_2 (h : tX tx T0 T) : T.1 2 = T0.1 2 := h.2.1 2 (by omega) (by omega)
/-- the reference's card of a plant -/
theorem m_card (r : Rel S T) {j : Nat} (hj : j < kP (T.1 2)) : ∃ l T', 1 ≤ l.length ∧ l.length ≤ 7 ∧ dOk l ∧ S.2 10 j = lN (f32 l) ∧ fX12_card T (nI j) = some (nI (cTx l (aFern (T.1 2) j) (zCt (aCome (T.1 2) j) (kA (T.1 2))) (decide (aSees (T.1 2) j 0 = 0))).length, T') ∧ tX (cTx l (aFern (T.1 2) j) (zCt (aCome (T.1 2) j) (kA (T.1 2))) (decide (aSees (T.1 2) j 0 = 0))) (zI T 0 0 0) T' := by
  obtain ⟨-, ⟨hh, hw, hl, hv, hnm, -⟩, -⟩ := id r
  have h6 := hw.2.1.2
  have ha := hv.2.1.2
  obtain ⟨-, -, -, -, -, -, nm⟩ := hnm
  obtain ⟨l, l1, l7, ok, ex, ey⟩ := nm j hj
  have n12 : zCt (aCome (T.1 2) j) (kA (T.1 2)) ≤ 12 := Nat.le_trans (zCt_le _ _) ha
  have hw' : WFh ((zI T 0 0 0).1 2) := by rw [zTh]; exact hw
  have hm : fX12_isPlant (zI T 0 0 0) (nI j) = some 1 := by
    rw [m_isPlant hw', zTh]
    rcases aIs_cases (kP (T.1 2)) (nI j) (by omega) with h | ⟨h, -⟩
    · unfold aIs at h
      rw [if_neg (fun q => by have := (nI_ltI (a := j) (b := 0) (by omega) (by omega)).mp q; omega), if_neg (fun q => by have := (nI_leI (by omega) (by omega)).mp q; omega)] at h
      exact absurd h (by decide)
    · rw [h]
  obtain ⟨T5, hT5⟩ : ∃ X, X = zI (zI T 0 0 0) 0 34 0 := ⟨_, rfl⟩
  have t5 : tX [] (zI T 0 0 0) T5 := by
    rw [hT5]
    exact ⟨rfl, fun c h0 _ => zI_ne h0, fun j hj => by rw [zI_at, if_neg (by omega)], by rw [zI_at, if_pos ⟨rfl, rfl⟩]; rfl, fun i x hx => by simp at hx⟩
  have e7 : T5.2 7 (5 + j) = lN (f27 l) := by rw [hT5]; exact ey
  obtain ⟨T8, g1, g2⟩ := m_words l1 l7 ok t5 (by show 0 + 7 ≤ 64; omega)
  rw [List.nil_append] at g2
  have L8 : (l.map (fun c => 96 + c)).length ≤ 7 := by rw [List.length_map]; exact l7
  have f8 : T8.1 2 = T.1 2 := (tX_2 g2).trans (zTh T 0)
  refine ⟨l, ?_⟩
  unfold fX12_card
  rw [zLt_s, hm, zBd_s, zBr_q (show ¬ (1 : Int32) = 0 by decide), zLt_s, ← hT5, show (5 : Int32) + nI j = nI (5 + j) from nI_add 5 j, zIx_nI (show 5 + j < 20 by omega) (by omega), zGd_t, nI_clamp (by omega), e7, g1, zBd_s, m_isFern, f8, zBd_s]
  by_cases fe : aFern (T.1 2) j = true
  · obtain ⟨Ta, a1, a2⟩ := m_next (l := [9, 19]) (by decide) (by decide) (by unfold dOk; decide) g2 (by omega)
    obtain ⟨Tb, b1, b2⟩ := m_next (l := [1]) (by decide) (by decide) (by unfold dOk; decide) a2 (by rw [List.length_append]; show _ + 3 + 8 ≤ 64; omega)
    obtain ⟨Tc, c1, c2⟩ := m_next (l := [6, 5, 18, 14]) (by decide) (by decide) (by unfold dOk; decide) b2 (by rw [List.length_append, List.length_append]; show _ + 3 + 2 + 8 ≤ 64; omega)
    have s1 : fX12_spelt 105 115 0 0 0 0 0 = some (lN (f27 [9, 19])) := by decide +kernel
    have s2 : fX12_spelt 97 0 0 0 0 0 0 = some (lN (f27 [1])) := by decide +kernel
    have s3 : fX12_wordOf 15 = some (lN (f27 [6, 5, 18, 14])) := (mKy_ok 15 (by omega)).2
    have et : cTx l true (zCt (aCome (T.1 2) j) (kA (T.1 2))) (decide (aSees (T.1 2) j 0 = 0)) = l.map (fun c => 96 + c) ++ (32 :: [9, 19].map (fun c => 96 + c)) ++ (32 :: [1].map (fun c => 96 + c)) ++ (32 :: [6, 5, 18, 14].map (fun c => 96 + c)) := by
      unfold cTx
      rw [List.append_assoc, List.append_assoc]
      rfl
    rw [fe, et]
    refine ⟨Tc, l1, l7, ok, ex, ?_, c2⟩
    rw [if_pos rfl, zBr_q (show ¬ (1 : Int32) = 0 by decide), s1, zBd_s, a1, zBd_s, s2, zBd_s, b1, zBd_s, s3, zBd_s, c1, zBd_s, c2.2.2.2.1]
  · obtain ⟨Ta, a1, a2⟩ := m_next (l := [8, 1, 19]) (by decide) (by decide) (by unfold dOk; decide) g2 (by omega)
    obtain ⟨Tb, b1, b2⟩ := m_write a2 (by rw [List.length_append]; show _ + 4 < 64; omega) 32
    obtain ⟨Tc, c1, c2⟩ := m_num n12 b2 (by rw [List.length_append, List.length_append]; show _ + 4 + 1 + 2 ≤ 64; omega)
    have s1 : fX12_spelt 104 97 115 0 0 0 0 = some (lN (f27 [8, 1, 19])) := by decide +kernel
    have s3 : fX12_wordOf 14 = some (lN (f27 [2, 12, 9, 14, 4])) := (mKy_ok 14 (by omega)).2
    have fb : Tb.1 2 = T.1 2 := (tX_2 b2).trans (zTh T 0)
    have fc : Tc.1 2 = T.1 2 := (tX_2 c2).trans (zTh T 0)
    have d1 := m_shownBy1 (T := Tb) (by rw [fb]; exact hw) (by rw [fb]; exact hv) (p := j) (by rw [fb]; exact hj)
    have d2 := m_seesOf (T := Tc) (by rw [fc]; exact hw) (by rw [fc]; exact hv) (p := j) (by rw [fc]; exact hj) 0
    rw [fb] at d1
    rw [fc] at d2
    have D := dig_le n12
    rw [if_neg fe, zBr_p (show (0 : Int32) = 0 from rfl), s1, zBd_s, a1, zBd_s, show (32 : Int32) = nI 32 from rfl, b1, zBd_s, d1, zBd_s, m_bitsB _ ha, zBd_s, c1, zBd_s, d2, zBd_s, show aFern (T.1 2) j = false from Bool.not_eq_true _ |>.mp fe]
    by_cases bl : aSees (T.1 2) j 0 = 0
    · obtain ⟨Td, h1, h2⟩ := m_next (l := [2, 12, 9, 14, 4]) (by decide) (by decide) (by unfold dOk; decide) c2 (by rw [List.length_append, List.length_append, List.length_append]; show _ + 4 + 1 + _ + 8 ≤ 64; omega)
      have et : cTx l false (zCt (aCome (T.1 2) j) (kA (T.1 2))) (decide (aSees (T.1 2) j 0 = 0)) = l.map (fun c => 96 + c) ++ (32 :: [8, 1, 19].map (fun c => 96 + c)) ++ [32] ++ dig (zCt (aCome (T.1 2) j) (kA (T.1 2))) ++ (32 :: [2, 12, 9, 14, 4].map (fun c => 96 + c)) := by
        unfold cTx
        rw [decide_eq_true bl, List.append_assoc, List.append_assoc, List.append_assoc]
        rfl
      rw [et, zBr_p bl, s3, zBd_s, h1, zBd_s, h2.2.2.2.1]
      exact ⟨Td, l1, l7, ok, ex, rfl, h2⟩
    · have et : cTx l false (zCt (aCome (T.1 2) j) (kA (T.1 2))) (decide (aSees (T.1 2) j 0 = 0)) = l.map (fun c => 96 + c) ++ (32 :: [8, 1, 19].map (fun c => 96 + c)) ++ [32] ++ dig (zCt (aCome (T.1 2) j) (kA (T.1 2))) := by
        unfold cTx
        rw [decide_eq_false bl, List.append_assoc, List.append_assoc]
        show _ ++ ([32, 104, 97, 115, 32] ++ (_ ++ [])) = _
        rw [List.append_nil]
        rfl
      rw [et, zBr_q bl, c2.2.2.2.1]
      exact ⟨Tc, l1, l7, ok, ex, rfl, c2⟩
end Card2
