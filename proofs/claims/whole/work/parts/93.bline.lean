/-! lines of a book: each kind -/
section BLine
variable {S0 T0 S T : zSt} {b : Nat → Nat} {L M lo n : Nat} {f : Nat → Int32}
def rw4 (f : Nat → Int32) (kk r : Int32) : Nat → Int32 := upd (upd (upd (upd f 0 kk) 1 r) 2 0) 3 0
def tw4 (T : zSt) (n : Nat) (kk r : Int32) : zSt := zI (zI (zI (zI T 16 (4 * n) kk) 16 (4 * n + 1) r) 16 (4 * n + 2) 0) 16 (4 * n + 3) 0
theorem b_rows (h : PI (bQ S0 T0 n n f) b L M lo S T) (kk r : Int32) : PI (bQ S0 T0 n n (rw4 f kk r)) b L M lo S (tw4 T n kk r) := P_row (P_row (P_row (P_row (i := 0) h (by omega) kk) (i := 1) (by omega) r) (i := 2) (by omega) 0) (i := 3) (by omega) 0
theorem n4 (n i : Nat) : nI (4 * n) + nI i = nI (4 * n + i) := nI_add _ _
theorem m_pn (hT : T.1 2 = T0.1 2) {r : Int32} {T' : zSt} (hr : zBo r = true) (h : fX12_readNamed T (nI (nB 1)) (T0.1 2 1) = some (r, T')) : fX12_readPlantName T = some (r, T') := by
  unfold fX12_readPlantName
  rw [zg_1_406, zGd_t, zt_1, hT, show fX12_readNamed T 5 (T0.1 2 1) = some (r, T') from h, zBp_s, hr, zGd_t]
theorem m_ln (hT : T.1 2 = T0.1 2) {r : Int32} {T' : zSt} (hr : zBo r = true) (h : fX12_readNamed T (nI (nB 0)) (T0.1 2 0) = some (r, T')) : fX12_readParlourName T = some (r, T') := by
  unfold fX12_readParlourName
  rw [zg_0_406, zGd_t, zt_0, hT, show fX12_readNamed T 0 (T0.1 2 0) = some (r, T') from h, zBp_s, hr, zGd_t]
theorem m_133 (hn : n < 40) (v1 v3 kk : Int32) : fX12_readBookLine_133 T v1 v3 0 (nI (4 * n)) kk (nI (4 * n)) = zBd (fX12_go (tw4 T n kk 0)) (fun S23 => zBr (v3 = 0) (zBp (fX12_readPlantName S23) (fun r28 S27 => zBp (fX12_keep S27 (nI (4 * n + 1)) r28) (fun r31 S30 => zBr (r31 = 0) (some ((0 : Int32), S30)) (zBr (v1 = 0) (zBp (fX12_readParlourName S30) (fun r40 S39 => zBp (fX12_keep S39 (nI (4 * n + 2)) r40) (fun r43 S42 => zBr (r43 = 0) (some ((0 : Int32), S42)) (fX12_readBookLine_293 S42)))) (fX12_readBookLine_293 S30))))) (zBp (fX12_readNumber S23 (1 : Int32) (60 : Int32)) (fun r47 S46 => zBp (fX12_keep S46 (nI (4 * n + 1)) r47) (fun r50 S49 => zBr (r50 = 0) (some ((0 : Int32), S49)) (fX12_readBookLine_293 S49))))) := by
  unfold fX12_readBookLine_133 fX12_readBookLine_170
  rw [zIx_nI (show 4 * n < 160 by omega) (by omega), zGd_t, nI_clamp (by omega), zLt_s, zBr_p (show (0 : Int32) = 0 from rfl), nI_1, zIx_nI (show 4 * n + 1 < 160 by omega) (by omega), zGd_t, nI_clamp (by omega), zLt_s, show (2 : Int32) = nI 2 from rfl, show (3 : Int32) = nI 3 from rfl, n4, n4, zIx_nI (show 4 * n + 2 < 160 by omega) (by omega), zGd_t, nI_clamp (by omega), zLt_s, zIx_nI (show 4 * n + 3 < 160 by omega) (by omega), zGd_t, nI_clamp (by omega), zLt_s]
  rfl
theorem b_full (h : PI (bQ S0 T0 n n f) b L M lo S T) (n3 : ¬ S.1 1 5 = 103) : bOut S0 T0 b L M lo n (zBp (fX9_fail S (4 : Int32)) (fun r18 S17 => zGd (zBo r18) (some (r18, S17)))) (zBp (fX12_bad T (4 : Int32)) (fun r69 S68 => zGd (zBo r69) (some (r69, S68)))) := by
  obtain ⟨S', T', e1, e2, h'⟩ := P_failK bQ_stb h n3 4
  exact Or.inr ⟨S', T', Or.inl (by rw [e1, zBp_s, zBo0, zGd_t]), by rw [e2, zBp_s, zBo0, zGd_t], FI_w (fun z => z.1) h'⟩
theorem m_87 (h : bQ S0 T0 n n f S T) (hn : n ≤ 40) (v1 v2 v3 v4 : Int32) : fX12_readBookLine_87 T v1 v2 v3 v4 = if n = 40 then zBp (fX12_bad T (4 : Int32)) (fun r69 S68 => zGd (zBo r69) (some (r69, S68))) else zBr (v1 = 0) (zBr (v2 = 0) (fX12_readBookLine_133 T v1 v3 v4 (nI (4 * n)) 3 (nI (4 * n))) (fX12_readBookLine_133 T v1 v3 v4 (nI (4 * n)) 2 (nI (4 * n)))) (fX12_readBookLine_133 T v1 v3 v4 (nI (4 * n)) 1 (nI (4 * n))) := by
  unfold fX12_readBookLine_87
  rw [h.2.2.1]
  by_cases e : n = 40
  · rw [zBr_p (show nI n = (40 : Int32) by rw [e]; rfl), if_pos e]
  · rw [zBr_q (show ¬ nI n = (40 : Int32) from fun q => e ((nI_eq (b := 40) (by omega) (by omega)).mp q)), if_neg e, show (4 : Int32) = nI 4 from rfl, pk_mul, zLt_s]
theorem b_sponge (hw : WFh (T0.1 2)) (hn0 : rNm S0.1 S0.2 4 (T0.2 7) (T0.1 2)) (h : PI (bQ S0 T0 n n f) b L M lo S T) (hn : n ≤ 40) (n2 : ¬ S.1 1 5 = 102) (n3 : ¬ S.1 1 5 = 103) : bOut S0 T0 b L M lo n (fX0_readSponge S) (fX12_readBookLine_87 T 1 0 0 0) := by
  obtain ⟨⟨fr, a2, a3, a4, a5⟩, -⟩ := id h
  rw [m_87 h.1 hn]
  unfold fX0_readSponge
  rw [a2, show (40 : Int32) = nI 40 from rfl]
  by_cases e : n = 40
  · rw [if_pos e, zlt_f (by omega) (by omega)]
    exact b_full h n3
  have hn' : n < 40 := by omega
  rw [if_neg e, zlt_t hn' (by omega), zBr_q (show ¬ (1 : Int32) = 0 by decide), m_133 hn']
  obtain ⟨S3, T3, e1, e2, h3, -⟩ := P_read bQ_stb (b_rows h 1 0) n2 n3
  obtain ⟨q1, q2⟩ := bQ_nm hn0 h3.1
  rw [e1, e2, zBd_s, zBd_s, zBr_p (show (0 : Int32) = 0 from rfl)]
  rcases P_named bQ_stb h3 hw.c q1 (s := 1) (by omega) with ⟨j, S5, T5, g1, g2, hj, g3, h5⟩ | ⟨S5, T5, g1, g2, h5⟩
  · have h6 := P_row h5 (i := 1) (by omega) (nI j)
    obtain ⟨S6, k1, h7⟩ := P_add h6 hn' (k := 9) (Or.inr (Or.inl ⟨rfl, rfl, ⟨j, hj, rfl⟩⟩))
    rw [show fX9_takeKnown S3 4 1 = some (nI j, S5) from g1, m_pn q2 zBo1 g2, zBp_s, zBp_s, zBr_q (zneg2 (by have := (WFh_cnt hw.c (show 1 < 4 by omega)).2.2; omega)), m_keep h5.1 hn' (by omega) g3, zBp_s, zBr_q (show ¬ (1 : Int32) = 0 by decide), zBr_q (show ¬ (1 : Int32) = 0 by decide), show fX0_addLine S5 9 (nI j) 0 0 = some (1, S6) from k1, zBp_s, zBr_q (show ¬ (1 : Int32) = 0 by decide)]
    exact b_end (PI_w (fun z => z) (by omega) h7) hn'
  · rw [show fX9_takeKnown S3 4 1 = some (-1, S5) from g1, m_pn q2 zBo0 g2, zBp_s, zBp_s, zBr_p rfl, m_keep0, zBp_s, zBr_p rfl]
    exact Or.inr ⟨S5, T5, Or.inl rfl, rfl, FI_w (fun z => z.1) h5⟩
theorem b_day (h : PI (bQ S0 T0 n n f) b L M lo S T) (hn : n ≤ 40) (n2 : ¬ S.1 1 5 = 102) (n3 : ¬ S.1 1 5 = 103) : bOut S0 T0 b L M lo n (fX0_readDay S) (fX12_readBookLine_87 T 0 0 1 0) := by
  obtain ⟨⟨fr, a2, a3, a4, a5⟩, -⟩ := id h
  rw [m_87 h.1 hn]
  unfold fX0_readDay
  rw [a2, show (40 : Int32) = nI 40 from rfl]
  by_cases e : n = 40
  · rw [if_pos e, zlt_f (by omega) (by omega)]
    exact b_full h n3
  have hn' : n < 40 := by omega
  rw [if_neg e, zlt_t hn' (by omega), zBr_p (show (0 : Int32) = 0 from rfl), zBr_p (show (0 : Int32) = 0 from rfl), m_133 hn']
  obtain ⟨S3, T3, e1, e2, h3, -⟩ := P_read bQ_stb (b_rows h 3 0) n2 n3
  rw [e1, e2, zBd_s, zBd_s, zBr_q (show ¬ (1 : Int32) = 0 by decide)]
  rcases P_num bQ_stb h3 (a := 1) (d := 60) (by omega) (by omega) with ⟨v, S5, T5, g1, g2, v1, v2, g3, h5⟩ | ⟨S5, T5, g1, g2, h5⟩
  · have h6 := P_row h5 (i := 1) (by omega) (nI v)
    obtain ⟨S6, k1, h7⟩ := P_add h6 hn' (k := 11) (Or.inr (Or.inr (Or.inr ⟨rfl, rfl, v, v2, v1, rfl⟩)))
    rw [show fX9_takeNumber S3 1 60 = some (nI v, S5) from g1, show fX12_readNumber T3 1 60 = some (1, T5) from g2, zBp_s, zBp_s, zBr_q (zneg2 (by omega)), m_keep h5.1 hn' (by omega) g3, zBp_s, zBr_q (show ¬ (1 : Int32) = 0 by decide), show fX0_addLine S5 11 (nI v) 0 0 = some (1, S6) from k1, zBp_s, zBr_q (show ¬ (1 : Int32) = 0 by decide)]
    exact b_end (PI_w (fun z => z) (by omega) h7) hn'
  · rw [show fX9_takeNumber S3 1 60 = some (-1, S5) from g1, show fX12_readNumber T3 1 60 = some (0, T5) from g2, zBp_s, zBp_s, zBr_p rfl, m_keep0, zBp_s, zBr_p rfl]
    exact Or.inr ⟨S5, T5, Or.inl rfl, rfl, FI_w (fun z => z.1) h5⟩
theorem b_carry (hw : WFh (T0.1 2)) (hn0 : rNm S0.1 S0.2 4 (T0.2 7) (T0.1 2)) (h : PI (bQ S0 T0 n n f) b L M lo S T) (hn : n ≤ 40) (n2 : ¬ S.1 1 5 = 102) (n3 : ¬ S.1 1 5 = 103) : bOut S0 T0 b L M lo n (fX0_readCarry S) (fX12_readBookLine_87 T 0 1 0 0) := by
  have c1 := (WFh_cnt hw.c (show 1 < 4 by omega)).2.2
  have c0 := (WFh_cnt hw.c (show 0 < 4 by omega)).2.2
  obtain ⟨⟨fr, a2, a3, a4, a5⟩, -⟩ := id h
  rw [m_87 h.1 hn]
  unfold fX0_readCarry
  rw [a2, show (40 : Int32) = nI 40 from rfl]
  by_cases e : n = 40
  · rw [if_pos e, zlt_f (by omega) (by omega)]
    exact b_full h n3
  have hn' : n < 40 := by omega
  rw [if_neg e, zlt_t hn' (by omega), zBr_p (show (0 : Int32) = 0 from rfl), zBr_q (show ¬ (1 : Int32) = 0 by decide), m_133 hn']
  obtain ⟨S3, T3, e1, e2, h3, -⟩ := P_read bQ_stb (b_rows h 2 0) n2 n3
  obtain ⟨q1, q2⟩ := bQ_nm hn0 h3.1
  rw [e1, e2, zBd_s, zBd_s, zBr_p (show (0 : Int32) = 0 from rfl)]
  rcases P_named bQ_stb h3 hw.c q1 (s := 1) (by omega) with ⟨j, S5, T5, g1, g2, hj, g3, h5⟩ | ⟨S5, T5, g1, g2, h5⟩
  · have h6 := P_row h5 (i := 1) (by omega) (nI j)
    obtain ⟨q5, q6⟩ := bQ_nm hn0 h6.1
    rw [show fX9_takeKnown S3 4 1 = some (nI j, S5) from g1, m_pn q2 zBo1 g2, zBp_s, zBp_s, zBr_q (zneg2 (by omega)), m_keep h5.1 hn' (by omega) g3, zBp_s, zBr_q (show ¬ (1 : Int32) = 0 by decide), zBr_p (show (0 : Int32) = 0 from rfl)]
    rcases P_named bQ_stb h6 hw.c q5 (s := 0) (by omega) with ⟨l, S7, T7, k1, k2, hl, k3, h7⟩ | ⟨S7, T7, k1, k2, h7⟩
    · have h8 := P_row h7 (i := 2) (by omega) (nI l)
      obtain ⟨S8, k4, h9⟩ := P_add h8 hn' (k := 10) (Or.inr (Or.inr (Or.inl ⟨rfl, rfl, ⟨j, hj, rfl⟩, ⟨l, hl, rfl⟩⟩)))
      rw [show fX9_takeKnown S5 4 0 = some (nI l, S7) from k1, m_ln q6 zBo1 k2, zBp_s, zBp_s, zBr_q (zneg2 (by omega)), m_keep h7.1 hn' (by omega) k3, zBp_s, zBr_q (show ¬ (1 : Int32) = 0 by decide), show fX0_addLine S7 10 (nI j) (nI l) 0 = some (1, S8) from k4, zBp_s, zBr_q (show ¬ (1 : Int32) = 0 by decide)]
      exact b_end (PI_w (fun z => z) (by omega) h9) hn'
    · rw [show fX9_takeKnown S5 4 0 = some (-1, S7) from k1, m_ln q6 zBo0 k2, zBp_s, zBp_s, zBr_p rfl, m_keep0, zBp_s, zBr_p rfl]
      exact Or.inr ⟨S7, T7, Or.inl rfl, rfl, FI_w (fun z => z.1) h7⟩
  · rw [show fX9_takeKnown S3 4 1 = some (-1, S5) from g1, m_pn q2 zBo0 g2, zBp_s, zBp_s, zBr_p rfl, m_keep0, zBp_s, zBr_p rfl]
    exact Or.inr ⟨S5, T5, Or.inl rfl, rfl, FI_w (fun z => z.1) h5⟩
end BLine
