/-! sentence: one piece whole; the recursion -/
section Sen4
variable {S0 T0 S T : zSt} {b : Nat → Nat} {L M p o d : Nat} {rc rcN : Nat → zSt → Option (Int32 × zSt)} {rcC : Nat → zSt → Nat → Nat → Int32 → Option (Int32 × zSt)}
theorem s_one (hw : WFh (T0.1 2)) (hn0 : rNm S0.1 S0.2 4 (T0.2 7) (T0.1 2)) (eN : ∀ T, rc 3 T = fX12_readNot rcN T) (eB : ∀ T, rc 4 T = fX12_readBracket rcN T) (hN : d < 8 → ∀ S T p o, o ≤ 20 → p ≤ 2 * o → PI (sQ S0 T0 p o (d + 1)) b L M 0 S T → sOut S0 T0 b L M (kL (T0.1 2)) (kE (T0.1 2)) p o (d + 1) S T (rcC 2 S 250 4 (nI (d + 2))) (rcN 2 T)) (hB : d < 8 → ∀ S T p o, o ≤ 20 → p ≤ 2 * o → PI (sQ S0 T0 p o (d + 1)) b L M 0 S T → sOut S0 T0 b L M (kL (T0.1 2)) (kE (T0.1 2)) p o (d + 1) S T (rcC 0 S 250 4 (nI (d + 2))) (rcN 0 T)) (hd : d ≤ 8) (ho : o ≤ 20) (hp : p ≤ 2 * o) (h : PI (sQ S0 T0 p o d) b L M 0 S T) : sOut S0 T0 b L M (kL (T0.1 2)) (kE (T0.1 2)) p o d S T (fX8_readOne rcC S 250 4 (nI (d + 1))) (fX12_readSaid rc T) := by
  obtain ⟨fr, q1, q2, q3, q4, q5⟩ := id h.1
  obtain ⟨-, -, -, st, to, ht, -⟩ := id h
  obtain ⟨t, et, t4, -⟩ := tk_kind ht
  by_cases ct : t = 40 ∨ t = 3 ∨ (14 ≤ t ∧ t ≤ 21)
  · obtain ⟨v, v1, v2, hv⟩ : ∃ v, 13 ≤ v ∧ v ≤ 22 ∧ ((t = 40 ∧ v = 22) ∨ (v < 22 ∧ t = mKy v)) := by
      rcases (show t = 40 ∨ t = 3 ∨ t = 14 ∨ t = 15 ∨ t = 16 ∨ t = 17 ∨ t = 18 ∨ t = 19 ∨ t = 20 ∨ t = 21 by omega) with rfl | rfl | rfl | rfl | rfl | rfl | rfl | rfl | rfl | rfl
      · exact ⟨22, by omega, by omega, Or.inl ⟨rfl, rfl⟩⟩
      · exact ⟨15, by omega, by omega, Or.inr ⟨by omega, rfl⟩⟩
      · exact ⟨13, by omega, by omega, Or.inr ⟨by omega, rfl⟩⟩
      · exact ⟨14, by omega, by omega, Or.inr ⟨by omega, rfl⟩⟩
      · exact ⟨16, by omega, by omega, Or.inr ⟨by omega, rfl⟩⟩
      · exact ⟨17, by omega, by omega, Or.inr ⟨by omega, rfl⟩⟩
      · exact ⟨18, by omega, by omega, Or.inr ⟨by omega, rfl⟩⟩
      · exact ⟨19, by omega, by omega, Or.inr ⟨by omega, rfl⟩⟩
      · exact ⟨20, by omega, by omega, Or.inr ⟨by omega, rfl⟩⟩
      · exact ⟨21, by omega, by omega, Or.inr ⟨by omega, rfl⟩⟩
    refine s_out ht v1 v2 (fun u u1 u2 => tk_d et (by omega) (by have := mKy_c u (by omega) u1; omega) (by
      have := mKy_c u (by omega) u1
      rcases hv with ⟨h1, h2⟩ | ⟨h1, h2⟩
      · omega
      · have := mKy_c v h1 v1; omega)) (by
      rcases hv with ⟨h1, h2⟩ | ⟨h1, h2⟩
      · exact Or.inl h2
      · exact Or.inr ⟨h1, by rw [et, h2]⟩) ?_
    have r2 : bI (decide (S.1 1 5 = nI 40)) = if t = 40 then 1 else 0 := by
      by_cases q : t = 40
      · rw [if_pos q, decide_eq_true (by rw [et, q])]; rfl
      · rw [if_neg q, decide_eq_false (tk_d et (by omega) (by omega) q)]; rfl
    have m30 : fX12_readSaid_30 rc T (bI (decide (S.1 1 5 = nI 40))) (nI v) = fX12_readSaid_46 rc T (if t = 40 then 1 else 0) (nI v) := by
      unfold fX12_readSaid_30
      rw [r2]
      by_cases q : t = 40
      · rw [if_pos q, zBr_q (show ¬ (1 : Int32) = 0 by decide)]
      · rw [if_neg q, zBr_p (show (0 : Int32) = 0 from rfl), show (21 : Int32) = nI 21 from rfl, zle_t (show v ≤ 21 by omega) (by omega)]
    rw [m30]
    have n2 : ¬ S.1 1 5 = 102 := tk_d (b := 102) et (by omega) (by omega) (by omega)
    have n3 : ¬ S.1 1 5 = 103 := tk_d (b := 103) et (by omega) (by omega) (by omega)
    have cO : fX8_readOne rcC S 250 4 (nI (d + 1)) = zBr ((20 : Int32) ≤ nI o) (fX8_readOne_35 rcC S 250 4) (zBr (nI (d + 1) ≤ (8 : Int32)) (zBd (fX9_read (zI S 250 5 (nI (o + 1)))) (fun S13 => cTail rcC S13 (nI t) (nI (d + 1)))) (fX8_readOne_35 rcC S 250 4)) := by
      unfold fX8_readOne
      rw [et, zLt_s, c_can t t4, zBd_s, bI_br, if_pos (decide_eq_true ct), q2, nI_1, zLt_s]
      rfl
    have mO : fX12_readSaid_46 rc T (if t = 40 then 1 else 0) (nI v) = zBr (nI o = (20 : Int32)) (fX12_readSaid_64 rc T) (zBr (nI d = (8 : Int32)) (fX12_readSaid_64 rc T) (zBd (fX12_go (zI (zI T 0 42 (nI (o + 1))) 0 43 (nI (d + 1)))) (fun S15 => mTail rc S15 (if t = 40 then 1 else 0) (nI v)))) := by
      unfold fX12_readSaid_46
      rw [q4, q5, nI_1, zLt_s, zI_at (S := T), if_neg (by omega), q5, nI_1, zLt_s]
      rfl
    obtain ⟨S9, T9, f1, f2, f3⟩ := P_failK sQ_stb h n3 4
    have bad : sOut S0 T0 b L M (kL (T0.1 2)) (kE (T0.1 2)) p o d S T (fX8_readOne_35 rcC S 250 4) (fX12_readSaid_64 rc T) := by
      unfold fX8_readOne_35 fX12_readSaid_64
      rw [f1, f2, zBp_s, zBp_s, zBo0, zGd_t, zGd_t]
      exact Or.inr ⟨S9, T9, rfl, rfl, FI_w (fun z => z.1) f3⟩
    rw [cO, mO]
    by_cases o20 : o = 20
    · rw [o20, zBr_p (show (20 : Int32) ≤ nI 20 by decide), zBr_p (show nI 20 = (20 : Int32) from rfl), ← o20]
      exact bad
    rw [show (20 : Int32) = nI 20 from rfl, zle_f (show o < 20 by omega) (by omega), zBr_q (fun q => o20 ((nI_eq (by omega) (by omega)).mp q))]
    by_cases d8 : d = 8
    · rw [zBr_q (show ¬ nI (d + 1) ≤ (8 : Int32) by rw [d8]; decide), zBr_p (show nI d = (8 : Int32) by rw [d8]; rfl)]
      exact bad
    rw [show (8 : Int32) = nI 8 from rfl, zle_t (show d + 1 ≤ 8 by omega) (by omega), zBr_q (fun q => d8 ((nI_eq (by omega) (by omega)).mp q))]
    have h1 : PI (sQ S0 T0 p (o + 1) (d + 1)) b L M 0 (zI S 250 5 (nI (o + 1))) (zI (zI T 0 42 (nI (o + 1))) 0 43 (nI (d + 1))) := by
      refine PI_upd h (zI_ne (by omega)) rfl (zI_ne (by omega)) rfl (fun j _ _ => by rw [zI_at, if_neg (by omega), zI_at, if_neg (by omega)]) rfl (by rw [zI_ne (by omega), zI_ne (by omega)]) ⟨⟨fun x h1 h2 => by rw [zI_ne (by omega)]; exact fr.1 x h1 h2, fr.2.1, fun x h1 h2 => by rw [zI_ne h1, zI_ne h1]; exact fr.2.2.1 x h1 h2, fr.2.2.2.1, fun j h1 h2 => by rw [zI_at, if_neg (by omega), zI_at, if_neg (by omega)]; exact fr.2.2.2.2 j h1 h2⟩, by rw [zI_at, if_neg (by omega)]; exact q1, by rw [zI_at, if_pos ⟨rfl, rfl⟩], by rw [zI_at, if_neg (by omega), zI_at, if_neg (by omega)]; exact q3, by rw [zI_at, if_neg (by omega), zI_at, if_pos ⟨rfl, rfl⟩], by rw [zI_at, if_pos ⟨rfl, rfl⟩]⟩
    have old1 : sOld p S T (zI S 250 5 (nI (o + 1))) (zI (zI T 0 42 (nI (o + 1))) 0 43 (nI (d + 1))) := ⟨fun j _ => ⟨by rw [zI_ne (by omega)], by rw [zI_ne (by omega)], by rw [zI_ne (by omega)]⟩, fun j _ => by rw [zI_ne (by omega), zI_ne (by omega)]⟩
    obtain ⟨S2, T2, g1, g2, h2, -, fc, fm⟩ := P_read sQ_stb h1 (by rw [zI_ne (by omega)]; exact n2) (by rw [zI_ne (by omega)]; exact n3)
    have h2' : PI (sQ S0 T0 p (o + 1) (d + 1)) b L M 0 S2 T2 := PI_w (fun z => z) (by omega) h2
    have old : sOld p S T S2 T2 := old1.trans (sOld_F fc fm p) (Nat.le_refl _)
    rw [g1, g2, zBd_s, zBd_s]
    have lf : ∀ w k : Int32, lOk w 0 0 0 (kL (T0.1 2)) (kE (T0.1 2)) → sLeaf w 0 0 0 = (k, 0, 0) → sOut S0 T0 b L M (kL (T0.1 2)) (kE (T0.1 2)) p o d S T (zBp (fX8_add S2 250 k (0 : Int32) (0 : Int32)) (fun r23 S22 => zGd (zBo r23) (some (r23, S22)))) (zBp (fX12_saysOne T2 w (0 : Int32) (0 : Int32) (0 : Int32)) (fun r30 S29 => zLt (zI S29 0 44 r30) (fun S31 => fX12_readSaid_166 rc S31 (1 : Int32)))) := fun w k ok el => by
      have lf := s_leaf h2' (by omega) ok (by rw [el]; exact (show ¬ (0 : Int32) = -1 by decide)) (by rw [el]; exact (show ¬ (0 : Int32) = -1 by decide))
      rw [el] at lf
      obtain ⟨S4, T4, a1, a2, a3, a4, a5⟩ := lf
      rw [show fX8_add S2 250 k 0 0 = some (1, S4) from a1, a2, zBp_s, zBp_s, zLt_s, zBo1, zGd_t]
      exact s_fin old a3 a4 a5 (by omega) (by omega) (by omega)
    unfold cTail mTail
    rcases hv with ⟨rfl, rfl⟩ | ⟨v22, ev⟩
    · rw [if_pos rfl, zBr_q (show ¬ (1 : Int32) = 0 by decide), eB, zBr_q (show ¬ nI 40 = (3 : Int32) by decide), zBr_q (show ¬ nI 40 = (14 : Int32) by decide), zBr_q (show ¬ nI 40 = (15 : Int32) by decide), zBr_q (show ¬ nI 40 = (16 : Int32) by decide), zBr_q (show ¬ nI 40 = (17 : Int32) by decide), zBr_q (show ¬ nI 40 = (18 : Int32) by decide), zBr_p (show nI 40 = (40 : Int32) from rfl), nI_1]
      exact s_brk old (hB (by omega) S2 T2 p (o + 1) (by omega) (by omega) h2') rfl
    · have nt : ¬ t = 40 := by have := mKy_c v v22 v1; omega
      rw [if_neg nt, zBr_p (show (0 : Int32) = 0 from rfl)]
      rcases (show v = 13 ∨ v = 14 ∨ v = 15 ∨ v = 16 ∨ v = 17 ∨ v = 18 ∨ v = 19 ∨ v = 20 ∨ v = 21 by omega) with rfl | rfl | rfl | rfl | rfl | rfl | rfl | rfl | rfl
      · rw [show t = 14 from ev, zBr_p (show nI 13 = (13 : Int32) from rfl), eN, zBr_q (show ¬ nI 14 = (3 : Int32) by decide), zBr_p (show nI 14 = (14 : Int32) from rfl), nI_1]
        exact s_not old hp (hN (by omega) S2 T2 p (o + 1) (by omega) (by omega) h2') rfl
      · rw [show t = 15 from ev, zBr_q (show ¬ nI 14 = (13 : Int32) by decide), zBr_q (show ¬ (16 : Int32) ≤ nI 14 by decide), zBr_q (show ¬ nI 15 = (3 : Int32) by decide), zBr_q (show ¬ nI 15 = (14 : Int32) by decide), zBr_p (show nI 15 = (15 : Int32) from rfl)]
        exact lf 64 15 (Or.inl rfl) rfl
      · rw [show t = 3 from ev, zBr_q (show ¬ nI 15 = (13 : Int32) by decide), zBr_q (show ¬ (16 : Int32) ≤ nI 15 by decide), zBr_p (show nI 3 = (3 : Int32) from rfl)]
        exact lf 65 3 (Or.inr (Or.inl rfl)) rfl
      · rw [show t = 16 from ev, zBr_q (show ¬ nI 16 = (13 : Int32) by decide), zBr_p (show (16 : Int32) ≤ nI 16 by decide), zBr_q (show ¬ (19 : Int32) ≤ nI 16 by decide), zBr_q (show ¬ nI 16 = (3 : Int32) by decide), zBr_q (show ¬ nI 16 = (14 : Int32) by decide), zBr_q (show ¬ nI 16 = (15 : Int32) by decide), zBr_p (show nI 16 = (16 : Int32) from rfl)]
        exact s_of (s := 0) hw hn0 old h2' hp (by omega) (Or.inl ⟨rfl, Or.inl rfl⟩)
      · rw [show t = 17 from ev, zBr_q (show ¬ nI 17 = (13 : Int32) by decide), zBr_p (show (16 : Int32) ≤ nI 17 by decide), zBr_q (show ¬ (19 : Int32) ≤ nI 17 by decide), zBr_q (show ¬ nI 17 = (3 : Int32) by decide), zBr_q (show ¬ nI 17 = (14 : Int32) by decide), zBr_q (show ¬ nI 17 = (15 : Int32) by decide), zBr_q (show ¬ nI 17 = (16 : Int32) by decide), zBr_p (show nI 17 = (17 : Int32) from rfl)]
        exact s_of (s := 0) hw hn0 old h2' hp (by omega) (Or.inl ⟨rfl, Or.inr rfl⟩)
      · rw [show t = 18 from ev, zBr_q (show ¬ nI 18 = (13 : Int32) by decide), zBr_p (show (16 : Int32) ≤ nI 18 by decide), zBr_q (show ¬ (19 : Int32) ≤ nI 18 by decide), zBr_q (show ¬ nI 18 = (3 : Int32) by decide), zBr_q (show ¬ nI 18 = (14 : Int32) by decide), zBr_q (show ¬ nI 18 = (15 : Int32) by decide), zBr_q (show ¬ nI 18 = (16 : Int32) by decide), zBr_q (show ¬ nI 18 = (17 : Int32) by decide), zBr_p (show nI 18 = (18 : Int32) from rfl)]
        exact s_of (s := 2) hw hn0 old h2' hp (by omega) (Or.inr ⟨rfl, rfl⟩)
      · rw [show t = 19 from ev, zBr_q (show ¬ nI 19 = (13 : Int32) by decide), zBr_p (show (16 : Int32) ≤ nI 19 by decide), zBr_p (show (19 : Int32) ≤ nI 19 by decide), zBr_q (show ¬ nI 19 = (3 : Int32) by decide), zBr_q (show ¬ nI 19 = (14 : Int32) by decide), zBr_q (show ¬ nI 19 = (15 : Int32) by decide), zBr_q (show ¬ nI 19 = (16 : Int32) by decide), zBr_q (show ¬ nI 19 = (17 : Int32) by decide), zBr_q (show ¬ nI 19 = (18 : Int32) by decide), zBr_q (show ¬ nI 19 = (40 : Int32) by decide)]
        exact s_cmp old h2' hp (by omega) (Or.inl rfl)
      · rw [show t = 20 from ev, zBr_q (show ¬ nI 20 = (13 : Int32) by decide), zBr_p (show (16 : Int32) ≤ nI 20 by decide), zBr_p (show (19 : Int32) ≤ nI 20 by decide), zBr_q (show ¬ nI 20 = (3 : Int32) by decide), zBr_q (show ¬ nI 20 = (14 : Int32) by decide), zBr_q (show ¬ nI 20 = (15 : Int32) by decide), zBr_q (show ¬ nI 20 = (16 : Int32) by decide), zBr_q (show ¬ nI 20 = (17 : Int32) by decide), zBr_q (show ¬ nI 20 = (18 : Int32) by decide), zBr_q (show ¬ nI 20 = (40 : Int32) by decide)]
        exact s_cmp old h2' hp (by omega) (Or.inr (Or.inl rfl))
      · rw [show t = 21 from ev, zBr_q (show ¬ nI 21 = (13 : Int32) by decide), zBr_p (show (16 : Int32) ≤ nI 21 by decide), zBr_p (show (19 : Int32) ≤ nI 21 by decide), zBr_q (show ¬ nI 21 = (3 : Int32) by decide), zBr_q (show ¬ nI 21 = (14 : Int32) by decide), zBr_q (show ¬ nI 21 = (15 : Int32) by decide), zBr_q (show ¬ nI 21 = (16 : Int32) by decide), zBr_q (show ¬ nI 21 = (17 : Int32) by decide), zBr_q (show ¬ nI 21 = (18 : Int32) by decide), zBr_q (show ¬ nI 21 = (40 : Int32) by decide)]
        exact s_cmp old h2' hp (by omega) (Or.inr (Or.inr rfl))
  · have et' : ∀ u, u < 1000 → t ≠ u → ¬ S.1 1 5 = nI u := fun u h1 h2 => tk_d et (by omega) h1 h2
    refine s_out ht (v := 22) (by omega) (by omega) (fun u u1 u2 => et' _ (by have := mKy_c u u2 u1; omega) (by have := mKy_c u u2 u1; omega)) (Or.inl rfl) ?_
    obtain ⟨S2, T2, g1, g2, h2⟩ := P_fail1 sQ_stb h
    unfold fX8_readOne fX12_readSaid_30
    rw [decide_eq_false (et' 40 (by omega) (by omega)), zBr_p (show bI false = 0 from rfl), zBr_q (show ¬ nI 22 ≤ (21 : Int32) by decide), g2, et, zLt_s, c_can t t4, zBd_s, bI_br, if_neg (fun y => ct (of_decide_eq_true y)), g1, zBp_s, zBp_s, zBo0, zGd_t, zGd_t]
    exact Or.inr ⟨S2, T2, rfl, rfl, FI_w (fun z => z.1) h2⟩
end Sen4
