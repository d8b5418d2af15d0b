/-! lines of a book: a deed; any line; all lines -/
section BDoes
variable {S0 T0 S T : zSt} {b : Nat → Nat} {L M lo n : Nat} {f : Nat → Int32}
theorem findIn_T {T T' : zSt} (h : T'.2 7 = T.2 7) (x y : Int32) (w : Int64) : fX12_findIn T' 7 x y w = fX12_findIn T 7 x y w := by
  unfold fX12_findIn
  have : fX12_findIn_3 T' 7 x y w = fX12_findIn_3 T 7 x y w := by
    funext t
    unfold fX12_findIn_3
    rw [h]
  rw [this]
theorem m_133p (hn : n < 40) {j : Nat} (hT : T.1 2 = T0.1 2) (hf : fX12_findIn T 7 11 (T0.1 2 2) (T.2 0 12) = some (nI j)) : fX12_readBookLine_133 T 0 0 1 (nI (4 * n)) 3 (nI (4 * n)) = zBd (fX12_go (tw4 T n 3 (nI j))) (fun S23 => zBp (fX12_readDoes S23 (nI (4 * n))) (fun r58 S57 => zBr (r58 = 0) (some ((0 : Int32), S57)) (fX12_readBookLine_293 S57))) := by
  have hT2 : (zI T 16 (4 * n) 3).1 2 = T0.1 2 := by rw [zI_ne (by omega)]; exact hT
  have hf2 : fX12_findIn (zI T 16 (4 * n) 3) 7 11 (T0.1 2 2) ((zI T 16 (4 * n) 3).2 0 12) = some (nI j) := (findIn_T (T := T) (T' := zI T 16 (4 * n) 3) rfl _ _ _).trans hf
  unfold fX12_readBookLine_133 fX12_readBookLine_170
  rw [zIx_nI (show 4 * n < 160 by omega) (by omega), zGd_t, nI_clamp (by omega), zLt_s, zBr_q (show ¬ (1 : Int32) = 0 by decide), zg_2_406, zGd_t, zt_2, hT2, hf2, zBd_s, nI_1, zIx_nI (show 4 * n + 1 < 160 by omega) (by omega), zGd_t, nI_clamp (by omega), zLt_s, show nI (4 * n) + 2 = nI (4 * n + 2) from n4 n 2, show nI (4 * n) + 3 = nI (4 * n + 3) from n4 n 3, zIx_nI (show 4 * n + 2 < 160 by omega) (by omega), zGd_t, nI_clamp (by omega), zLt_s, zIx_nI (show 4 * n + 3 < 160 by omega) (by omega), zGd_t, nI_clamp (by omega), zLt_s]
  rfl
theorem b_does (hw : WFh (T0.1 2)) (hn0 : rNm S0.1 S0.2 4 (T0.2 7) (T0.1 2)) (h : PI (bQ S0 T0 n n f) b L M lo S T) (hn : n ≤ 40) (tok : S.1 1 5 = 100) : bOut S0 T0 b L M lo n (fX0_readDoes S) (fX12_readBookLine_38 T 0 0 0 1) := by
  have c2 := (WFh_cnt hw.c (show 2 < 4 by omega)).2.2
  have c3 := (WFh_cnt hw.c (show 3 < 4 by omega)).2.2
  have c0 := (WFh_cnt hw.c (show 0 < 4 by omega)).2.2
  obtain ⟨⟨fr, a2, a3, a4, a5⟩, hr, hf, st, to, ht, hl⟩ := id h
  obtain ⟨q1, q2⟩ := bQ_nm hn0 h.1
  have n2 : ¬ S.1 1 5 = 102 := by rw [tok]; decide
  have n3 : ¬ S.1 1 5 = 103 := by rw [tok]; decide
  unfold fX0_readDoes fX12_readBookLine_38
  rw [zBr_q (show ¬ (1 : Int32) = 0 by decide), tk_name ht, zBd_s, bI_br, if_pos (decide_eq_true tok), zg_2_406, zGd_t, zt_2, q2, zLt_s]
  rcases K_core (a := 7) (h := 4) (s := 2) (by omega) ht hw.c q1 (by omega) with ⟨-, j, hj, k2, k3⟩ | ⟨-, k2, k3⟩ | ⟨k1, -⟩
  · have k3' : fX12_findIn T 7 11 (T0.1 2 2) (T.2 0 12) = some (nI j) := k3
    rw [k3', zBd_s, zBr_q (zneg2 (by omega)), m_87 h.1 hn]
    by_cases e : n = 40
    · obtain ⟨S3, T3, e1, e2, h3, -, fc, -⟩ := P_read bQ_stb h n2 n3
      obtain ⟨S6, T6, g1, g2, g3, g4, pl, g5, g6, g7⟩ := P_failK bQ_stb h n3 4
      have f6 : S6.1 1 9 = 4 ∧ S6.1 1 10 = nI st := by
        unfold fX9_fail fX9_failAt at g1
        rw [ht.1, zLt_s, zLt_s, zBp_s, zBo0, zGd_t] at g1
        have eS : S6 = zI (zI S 1 9 4) 1 10 (nI st) := (congrArg Prod.snd (Option.some.inj g1)).symm
        rw [eS]
        exact ⟨by rw [zI_at, if_neg (by omega), zI_at, if_pos ⟨rfl, rfl⟩], by rw [zI_at, if_pos ⟨rfl, rfl⟩]⟩
      have s6 : S3.1 240 6 = nI 40 := by rw [(fc.1 240 (by omega)).1, a2, e]
      have t9 : fX9_takeKnown S 4 2 = some (nI j, S3) := k2 S3 e1 fc
      rw [if_pos e, t9, zBp_s, zBr_q (zneg2 (by omega)), s6, zBr_q (show ¬ nI 40 < (40 : Int32) by decide), ht.1]
      refine Or.inr ⟨zI (zI S3 1 9 4) 1 10 (nI st), T6, Or.inl ?_, by rw [g2, zBp_s, zBo0, zGd_t], ?_, ?_, pl, g5, ?_, g7⟩
      · unfold fX9_failAt
        rw [zLt_s, zLt_s, zBp_s, zBo0, zGd_t]
      · have fr3 := h3.1.1
        exact ⟨fun c x1 x2 => by rw [zI_ne x1, zI_ne x1]; exact fr3.1 c x1 x2, fr3.2.1, fun x hx => by rw [zI_ne (by omega), zI_ne (by omega)]; exact fr3.2.2.1 x hx, g3.1.2.2.2⟩
      · rw [zI_at, if_neg (by omega), zI_at, if_pos ⟨rfl, rfl⟩, ← f6.1]; exact g4
      · rw [zI_at, if_pos ⟨rfl, rfl⟩, ← f6.2]; exact g6
    have hn' : n < 40 := by omega
    rw [if_neg e, zBr_p (show (0 : Int32) = 0 from rfl), zBr_p (show (0 : Int32) = 0 from rfl), m_133p hn' q2 k3']
    obtain ⟨S3, T3, e1, e2, h3, -, fc, -⟩ := P_read bQ_stb (b_rows h 3 (nI j)) n2 n3
    have s6 : S3.1 240 6 = nI n := h3.1.2.1
    have t9 : fX9_takeKnown S 4 2 = some (nI j, S3) := k2 S3 e1 fc
    rw [t9, e2, zBp_s, zBd_s, zBr_q (zneg2 (by omega)), s6, show (40 : Int32) = nI 40 from rfl, zlt_t hn' (by omega)]
    obtain ⟨-, -, -, st3, to3, ht3, -⟩ := id h3
    unfold fX9_take fX12_readDoes
    rw [show fX12_isWord T3 7 = some (bI (decide (S3.1 1 5 = nI 8))) from tk_word (k := 7) ht3 (by omega), zBd_s, bI_br]
    by_cases d8 : S3.1 1 5 = nI 8
    · obtain ⟨S5, T5, g1, g2, h5, -⟩ := P_read bQ_stb h3 (tk_d (b := 102) d8 (by omega) (by omega) (by omega)) (tk_d (b := 103) d8 (by omega) (by omega) (by omega))
      have h6 := P_row h5 (i := 0) (by omega) 0
      obtain ⟨q5, q6⟩ := bQ_nm hn0 h6.1
      rw [zBr_p (show S3.1 1 5 = 8 from d8), if_pos (decide_eq_true d8), g1, g2, zBd_s, zBd_s, zBp_s, zBr_q (show ¬ (1 : Int32) = 0 by decide), zIx_nI (show 4 * n < 160 by omega) (by omega), zGd_t, nI_clamp (by omega), zLt_s, zg_3_406, zGd_t, zt_3, show (zI T5 16 (4 * n) 0).1 2 = T0.1 2 from q6, show nI (4 * n) + 2 = nI (4 * n + 2) from n4 n 2, show nI (4 * n) + 3 = nI (4 * n + 3) from n4 n 3]
      rcases P_named bQ_stb h6 hw.c q5 (s := 3) (by omega) with ⟨y, S7, T7, u1, u2, hy, u3, h7⟩ | ⟨S7, T7, u1, u2, h7⟩
      · have h8 := P_row h7 (i := 2) (by omega) (nI y)
        obtain ⟨q7, q8⟩ := bQ_nm hn0 h8.1
        rw [show fX9_takeKnown S5 4 3 = some (nI y, S7) from u1, show fX12_readNamed (zI T5 16 (4 * n) 0) 15 (T0.1 2 3) = some (1, T7) from u2, zBp_s, zBp_s, zBr_q (zneg2 (by omega)), m_keep h7.1 hn' (by omega) u3, zBp_s, zBr_q (show ¬ (1 : Int32) = 0 by decide)]
        rcases P_named bQ_stb h8 hw.c q7 (s := 0) (by omega) with ⟨l, S9, T9, v1, v2, hl', v3, h9⟩ | ⟨S9, T9, v1, v2, h9⟩
        · have h10 := P_row h9 (i := 3) (by omega) (nI l)
          obtain ⟨S10, k4, h11⟩ := P_add h10 hn' (k := 8) (Or.inl ⟨rfl, rfl, ⟨j, hj, rfl⟩, ⟨y, hy, rfl⟩, ⟨l, hl', rfl⟩⟩)
          rw [show fX9_takeKnown S7 4 0 = some (nI l, S9) from v1, m_ln q8 zBo1 v2, zBp_s, zBp_s, zBr_q (zneg2 (by omega)), m_keep h9.1 hn' (by omega) v3, zBp_s, zBr_q (show ¬ (1 : Int32) = 0 by decide), zBp_s, zBr_q (show ¬ (1 : Int32) = 0 by decide), show fX0_addLine S9 8 (nI j) (nI y) (nI l) = some (1, S10) from k4, zBp_s, zBr_q (show ¬ (1 : Int32) = 0 by decide)]
          exact b_end (PI_w (fun z => z) (by omega) h11) hn'
        · rw [show fX9_takeKnown S7 4 0 = some (-1, S9) from v1, m_ln q8 zBo0 v2, zBp_s, zBp_s, zBr_p rfl, m_keep0, zBp_s, zBr_p rfl, zBp_s, zBr_p rfl]
          exact Or.inr ⟨S9, T9, Or.inl rfl, rfl, FI_w (fun z => z.1) h9⟩
      · rw [show fX9_takeKnown S5 4 3 = some (-1, S7) from u1, show fX12_readNamed (zI T5 16 (4 * n) 0) 15 (T0.1 2 3) = some (0, T7) from u2, zBp_s, zBp_s, zBr_p rfl, m_keep0, zBp_s, zBr_p rfl, zBp_s, zBr_p rfl]
        exact Or.inr ⟨S7, T7, Or.inl rfl, rfl, FI_w (fun z => z.1) h7⟩
    · obtain ⟨S5, T5, g1, g2, h5⟩ := P_fail1 bQ_stb h3
      rw [zBr_q (show ¬ S3.1 1 5 = 8 from d8), if_neg (fun w => d8 (of_decide_eq_true w)), g1, g2, zBp_s, zBp_s, zBo0, zGd_t, zGd_t, zBp_s, zBp_s, zBr_p rfl, zBr_p rfl]
      exact Or.inr ⟨S5, T5, Or.inl rfl, rfl, FI_w (fun z => z.1) h5⟩
  · have k3' : fX12_findIn T 7 11 (T0.1 2 2) (T.2 0 12) = some (-1) := k3
    have k2' : fX9_takeKnown S 4 2 = fX9_takeKnown_41 S 4 := k2
    unfold fX9_takeKnown_41 at k2'
    obtain ⟨S5, T5, g1, g2, h5⟩ := P_failK bQ_stb h n3 3
    rw [k3', zBd_s, zBr_p rfl, k2', g1, g2, zBp_s, zBp_s, zBp_s, zBo0, zGd_t, zBr_p rfl]
    exact Or.inr ⟨S5, T5, Or.inl rfl, rfl, FI_w (fun z => z.1) h5⟩
  · exact absurd tok k1
theorem b_line (hw : WFh (T0.1 2)) (hn0 : rNm S0.1 S0.2 4 (T0.2 7) (T0.1 2)) (h : PI (bQ S0 T0 n n f) b L M lo S T) (hn : n ≤ 40) (n2 : ¬ S.1 1 5 = 102) : bOut S0 T0 b L M lo n (fX0_readLine S) (fX12_readBookLine T) := by
  obtain ⟨-, -, -, st, to, ht, -⟩ := id h
  have w8 : fX12_isWord T 8 = some (bI (decide (S.1 1 5 = nI 9))) := tk_word (k := 8) ht (by omega)
  have w9 : fX12_isWord T 9 = some (bI (decide (S.1 1 5 = nI 10))) := tk_word (k := 9) ht (by omega)
  have w10 : fX12_isWord T 10 = some (bI (decide (S.1 1 5 = nI 11))) := tk_word (k := 10) ht (by omega)
  have pass : ∀ {x y : Option (Int32 × zSt)}, bOut S0 T0 b L M lo n x y → bOut S0 T0 b L M lo n (zBp x (fun r S => zGd (zBo r) (some (r, S)))) y := by
    intro x y hxy
    rcases hxy with ⟨S1, S2, T2, g, e1, e2, e3⟩ | ⟨S1, T1, e1, e2, e3⟩
    · exact Or.inl ⟨S1, S2, T2, g, by rw [e1, zBp_s, zBo1, zGd_t], e2, e3⟩
    · refine Or.inr ⟨S1, T1, ?_, e2, e3⟩
      rcases e1 with e1 | ⟨S2, e1, e4⟩
      · exact Or.inl (by rw [e1, zBp_s, zBo0, zGd_t])
      · exact Or.inr ⟨S2, by rw [e1, zBp_s, zBo1, zGd_t], e4⟩
  unfold fX0_readLine fX12_readBookLine fX12_readBookLine_37
  rw [w8, w9, w10, zBd_s, zBd_s, zBd_s, bI_br, bI_br, bI_br]
  have e38 : ∀ x y z : Int32, fX12_readBookLine_38 T x y z 0 = fX12_readBookLine_87 T x y z 0 := fun x y z => by
    unfold fX12_readBookLine_38
    rw [zBr_p (show (0 : Int32) = 0 from rfl)]
  rw [e38]
  by_cases c9 : S.1 1 5 = nI 9
  · have k10 : ¬ S.1 1 5 = nI 10 := tk_d c9 (by omega) (by omega) (by omega)
    have k11 : ¬ S.1 1 5 = nI 11 := tk_d c9 (by omega) (by omega) (by omega)
    rw [zBr_p (show S.1 1 5 = 9 from c9), if_pos (decide_eq_true c9), decide_eq_true c9, decide_eq_false k10, decide_eq_false k11]
    exact pass (b_sponge hw hn0 h hn n2 (tk_d (b := 103) c9 (by omega) (by omega) (by omega)))
  rw [zBr_q (show ¬ S.1 1 5 = 9 from c9), if_neg (fun z => c9 (of_decide_eq_true z)), decide_eq_false c9]
  by_cases c10 : S.1 1 5 = nI 10
  · have k11 : ¬ S.1 1 5 = nI 11 := tk_d c10 (by omega) (by omega) (by omega)
    rw [zBr_p (show S.1 1 5 = 10 from c10), if_pos (decide_eq_true c10), decide_eq_true c10, decide_eq_false k11]
    exact pass (b_carry hw hn0 h hn n2 (tk_d (b := 103) c10 (by omega) (by omega) (by omega)))
  rw [zBr_q (show ¬ S.1 1 5 = 10 from c10), if_neg (fun z => c10 (of_decide_eq_true z)), decide_eq_false c10]
  by_cases c11 : S.1 1 5 = nI 11
  · rw [zBr_p (show S.1 1 5 = 11 from c11), if_pos (decide_eq_true c11), decide_eq_true c11]
    exact pass (b_day h hn n2 (tk_d (b := 103) c11 (by omega) (by omega) (by omega)))
  rw [zBr_q (show ¬ S.1 1 5 = 11 from c11), if_neg (fun z => c11 (of_decide_eq_true z)), decide_eq_false c11]
  by_cases c100 : S.1 1 5 = nI 100
  · rw [zBr_p (show S.1 1 5 = 100 from c100)]
    exact pass (b_does hw hn0 h hn c100)
  · obtain ⟨S', T', e1, e2, e3⟩ := P_fail1 bQ_stb h
    rw [zBr_q (show ¬ S.1 1 5 = 100 from c100)]
    refine pass (Or.inr ⟨S', T', Or.inl e1, ?_, FI_w (fun z => z.1) e3⟩)
    unfold fX12_readBookLine_38
    rw [zBr_q (show ¬ (1 : Int32) = 0 by decide), tk_name ht, zBd_s, bI_br, if_neg (fun z => (show ¬ S.1 1 5 = 100 from c100) (of_decide_eq_true z)), e2, zBp_s, zBo0, zGd_t]
end BDoes
