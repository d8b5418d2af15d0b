/-! plant and act: what the class answers; none is its refusal -/
def pPlant (S : zSt) (p w : Int32) : Option (Option Int32) :=
  zBd (fX3_has S 4 (1 : Int32) p) (fun r => zBr (r = 0) (some none) (zBr (w = 0) (zGd (zIx p 6) (some (some (S.1 27 p.toNatClampNeg)))) (zBr (w = 1) (zGd (zIx p 6) (some (some (S.1 8 p.toNatClampNeg)))) (zBr (w = 2) (zGd (zIx p 6) (some (some (S.1 9 p.toNatClampNeg)))) (zBr (w = 3) (zGd (zIx p 6) (some (some (S.1 28 p.toNatClampNeg)))) (zBr (w = 4) (zBd (fX6_seenBy S 14 p) (fun x => some (some x))) (zBr (w = 5) (zBd (fX6_actsShown S 14 p) (fun x => zBd (fJ6_bitCount_0f7a4 x) (fun y => some (some y)))) (zBr (w = 6) (zBd (fX6_actsShown S 14 p) (fun x => some (some x))) (zBr (w = 7) (zBd (fX6_leavesDue S 14 p) (fun x => some (some x))) (some none))))))))))
def pAct (S : zSt) (i w : Int32) : Option (Option Int32) :=
  zBd (fX6_hasAct S 14 i) (fun r => zBr (r = 0) (some none) (zBr (w = 0) (zGd (zIx i 12) (some (some (S.1 15 i.toNatClampNeg)))) (zBr (w = 1) (zGd (zIx i 12) (some (some (S.1 16 i.toNatClampNeg)))) (zBr (w = 2) (zGd (zIx i 12) (some (some (S.1 17 i.toNatClampNeg)))) (zBr (w = 3) (zGd (zIx i 12) (some (some (S.1 18 i.toNatClampNeg)))) (zBr (w = 4) (zBd (fX6_witnessesBy S 14 i (S.1 14 1)) (fun x => some (some x))) (zBr (w = 5) (zBd (fX6_witnessesDue S 14 i) (fun x => some (some x))) (zBr (w = 6) (zBd (fX6_isProved S 14 i) (fun x => some (some x))) (some none)))))))))
section Plant
variable {S T : zSt}
/-- both answer, or both refuse -/
def pSame (T : zSt) (x : Option (Option Int32)) (y : Option (Int32 × zSt)) : Prop := (∃ z, x = some (some z) ∧ y = some (z, zI T 0 0 0)) ∨ (x = some none ∧ ∃ z, y = some (z, zI (zI T 0 0 0) 0 0 1))
theorem m_refuse (T : zSt) : zBp (fX12_refuse (zI T 0 0 0)) (fun r36 S35 => some (r36, S35)) = some (0, zI (zI T 0 0 0) 0 0 1) := by
  unfold fX12_refuse
  rw [zLt_s, zBp_s]
theorem op_plant (r : Rel S T) (p w : Int32) : pSame T (pPlant S p w) (fX12_plant T p w) := by
  obtain ⟨-, ⟨hh, hw, hl, hv, -⟩, -⟩ := id r
  have h6 := hw.2.1.2
  have ha := hv.2.1.2
  have hc : fX3_has S 4 1 p = some (aIs (kP (T.1 2)) p) := c_has hh (show 1 < 4 by omega) hw.2.1.1 p
  have hw' : WFh ((zI T 0 0 0).1 2) := by rw [zTh]; exact hw
  have hv2 : WFl ((zI T 0 0 0).1 2) := by rw [zTh]; exact hv
  have hm : fX12_isPlant (zI T 0 0 0) p = some (aIs (kP (T.1 2)) p) := by rw [m_isPlant hw', zTh]
  unfold pPlant fX12_plant
  rw [zLt_s, hc, hm, zBd_s, zBd_s, m_refuse]
  rcases aIs_cases (kP (T.1 2)) p (by omega) with h | ⟨h, j, hj, rfl⟩
  · rw [h, zBr_p rfl, zBr_p rfl]; exact Or.inr ⟨rfl, _, rfl⟩
  have hj' : j < kP ((zI T 0 0 0).1 2) := by rw [zTh]; exact hj
  rw [h, zBr_q (show ¬ (1 : Int32) = 0 by decide), zBr_q (show ¬ (1 : Int32) = 0 by decide), zTh, zIx_nI (show j < 6 by omega) (by omega), nI_clamp (by omega), zo_26, zo_32, show (17 : Int32) + nI j = nI (17 + j) from nI_add 17 j, zIx_nI (show 26 + j < 406 by omega) (by omega), zIx_nI (show 32 + j < 406 by omega) (by omega), zIx_nI (show 17 + j < 406 by omega) (by omega), zGd_t, zGd_t, zGd_t, zGd_t, zGd_t, zGd_t, zGd_t, nI_clamp (by omega), nI_clamp (by omega), nI_clamp (by omega), m_isFern, zTh, m_seesOf hw' hv2 hj', zTh, m_shownBy1 hw' hv2 hj', m_shownBy0 hw' hv2 hj', zTh, c_seenBy (b := 14) hh hw hl hv hj, c_actsShown (b := 14) hl hv hw hj, c_leavesDue (b := 14) hl hv hw hj]
  simp only [zBd_s]
  rw [c_bitcB _ ha, m_bitsB _ ha, m_bitsB _ ha]
  simp only [zBd_s]
  by_cases w0 : w = 0
  · rw [zBr_p w0, zBr_p w0]; exact Or.inl ⟨_, rfl, by rw [(hl.2.2.1 j hj).1]⟩
  rw [zBr_q w0, zBr_q w0]
  by_cases w1 : w = 1
  · rw [zBr_p w1, zBr_p w1]; exact Or.inl ⟨_, rfl, by rw [(hh.2.2.2.2 j hj).2.1]⟩
  rw [zBr_q w1, zBr_q w1]
  by_cases w2 : w = 2
  · rw [zBr_p w2, zBr_p w2]
    refine Or.inl ⟨_, rfl, ?_⟩
    rw [(hh.2.2.2.2 j hj).2.2]
    by_cases q : aFern (T.1 2) j = true
    · rw [if_pos q, zBr_q (show ¬ (1 : Int32) = 0 by decide)]
    · rw [if_neg q, zBr_p (show (0 : Int32) = 0 from rfl)]
  rw [zBr_q w2, zBr_q w2]
  by_cases w3 : w = 3
  · rw [zBr_p w3, zBr_p w3]; exact Or.inl ⟨_, rfl, by rw [(hl.2.2.1 j hj).2.1]⟩
  rw [zBr_q w3, zBr_q w3]
  by_cases w4 : w = 4
  · rw [zBr_p w4, zBr_p w4]; exact Or.inl ⟨_, rfl, rfl⟩
  rw [zBr_q w4, zBr_q w4]
  by_cases w5 : w = 5
  · rw [zBr_p w5, zBr_p w5]; exact Or.inl ⟨_, rfl, rfl⟩
  rw [zBr_q w5, zBr_q w5]
  by_cases w6 : w = 6
  · rw [zBr_p w6, zBr_p w6]; exact Or.inl ⟨_, rfl, rfl⟩
  rw [zBr_q w6, zBr_q w6]
  by_cases w7 : w = 7
  · rw [zBr_p w7, zBr_p w7]; exact Or.inl ⟨_, rfl, rfl⟩
  rw [zBr_q w7, zBr_q w7]
  exact Or.inr ⟨rfl, _, rfl⟩
theorem op_act (r : Rel S T) (i w : Int32) : pSame T (pAct S i w) (fX12_act T i w) := by
  obtain ⟨-, ⟨hh, hw, hl, hv, -⟩, -⟩ := id r
  have h6 := hw.2.1.2
  have ha := hv.2.1.2
  have hw' : WFh ((zI T 0 0 0).1 2) := by rw [zTh]; exact hw
  have hv2 : WFl ((zI T 0 0 0).1 2) := by rw [zTh]; exact hv
  have hm : fX12_isAct (zI T 0 0 0) i = some (aIs (kA (T.1 2)) i) := by rw [m_isAct hv2, zTh]
  unfold pAct fX12_act
  rw [zLt_s, c_hasAct (hl.2.1.trans hv.2.1.1), hm, zBd_s, zBd_s, m_refuse]
  rcases aIs_cases (kA (T.1 2)) i (by omega) with h | ⟨h, j, hj, rfl⟩
  · rw [h, zBr_p rfl, zBr_p rfl]; exact Or.inr ⟨rfl, _, rfl⟩
  have hj' : j < kA ((zI T 0 0 0).1 2) := by rw [zTh]; exact hj
  have e4 := hl.2.2.2.1 j hj
  rw [h, zBr_q (show ¬ (1 : Int32) = 0 by decide), zBr_q (show ¬ (1 : Int32) = 0 by decide), zTh, zIx_nI (show j < 12 by omega) (by omega), nI_clamp (by omega), zo_38, show (50 : Int32) + nI j = nI (50 + j) from nI_add 50 j, show (62 : Int32) + nI j = nI (62 + j) from nI_add 62 j, show (74 : Int32) + nI j = nI (74 + j) from nI_add 74 j, zIx_nI (show 38 + j < 406 by omega) (by omega), zIx_nI (show 50 + j < 406 by omega) (by omega), zIx_nI (show 62 + j < 406 by omega) (by omega), zIx_nI (show 74 + j < 406 by omega) (by omega), zGd_t, zGd_t, zGd_t, zGd_t, zGd_t, zGd_t, zGd_t, zGd_t, nI_clamp (by omega), nI_clamp (by omega), nI_clamp (by omega), nI_clamp (by omega), m_plantsFor1 hw' hv2 hj', m_plantsFor0 hw' hv2 hj', m_isProved hw' hv2 hj', zTh, c_witnessesBy (b := 14) hh hw hl hj ha, c_witnessesDue (b := 14) hh hw hl hj ha, c_isProved (b := 14) hh hw hl hj ha]
  simp only [zBd_s]
  by_cases w0 : w = 0
  · rw [zBr_p w0, zBr_p w0]; exact Or.inl ⟨_, rfl, by rw [e4.1]⟩
  rw [zBr_q w0, zBr_q w0]
  by_cases w1 : w = 1
  · rw [zBr_p w1, zBr_p w1]; exact Or.inl ⟨_, rfl, by rw [e4.2.1]⟩
  rw [zBr_q w1, zBr_q w1]
  by_cases w2 : w = 2
  · rw [zBr_p w2, zBr_p w2]; exact Or.inl ⟨_, rfl, by rw [e4.2.2.1]⟩
  rw [zBr_q w2, zBr_q w2]
  by_cases w3 : w = 3
  · rw [zBr_p w3, zBr_p w3]; exact Or.inl ⟨_, rfl, by rw [e4.2.2.2]⟩
  rw [zBr_q w3, zBr_q w3]
  by_cases w4 : w = 4
  · rw [zBr_p w4, zBr_p w4]; exact Or.inl ⟨_, rfl, by rw [hl.1]; rfl⟩
  rw [zBr_q w4, zBr_q w4]
  by_cases w5 : w = 5
  · rw [zBr_p w5, zBr_p w5]; exact Or.inl ⟨_, rfl, rfl⟩
  rw [zBr_q w5, zBr_q w5]
  by_cases w6 : w = 6
  · rw [zBr_p w6, zBr_p w6]
    refine Or.inl ⟨_, rfl, ?_⟩
    by_cases q : aProved (T.1 2) j = true
    · rw [if_pos q, zBr_q (show ¬ (1 : Int32) = 0 by decide)]
    · rw [if_neg q, zBr_p (show (0 : Int32) = 0 from rfl)]
  rw [zBr_q w6, zBr_q w6]
  exact Or.inr ⟨rfl, _, rfl⟩
end Plant
