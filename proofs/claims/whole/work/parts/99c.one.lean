/-! sentence: one piece, the rest -/
section One3
variable {S0 T0 S T : zSt} {b : Nat → Nat} {L M p o d : Nat} {rc rcN : Nat → zSt → Option (Int32 × zSt)} {rcC : Nat → zSt → Nat → Nat → Int32 → Option (Int32 × zSt)}
theorem s_cmp {X Y : zSt} (old : sOld p X Y S T) (h : PI (sQ S0 T0 p (o + 1) (d + 1)) b L M 0 S T) (hp : p ≤ 2 * o) (ho : o < 20) {k : Nat} (hk : k = 19 ∨ k = 20 ∨ k = 21) : sOut S0 T0 b L M (kL (T0.1 2)) (kE (T0.1 2)) p o d X Y (zBp (fX9_takeSign S) (fun r68 S67 => zBr (r68 = (-1 : Int32)) (some ((0 : Int32), S67)) (zBp (fX9_takeNumber S67 (0 : Int32) (999 : Int32)) (fun r72 S71 => zBp (fX8_add S71 250 (nI k) r68 r72) (fun r75 S74 => zBr (r75 = 0) (some ((0 : Int32), S74)) (some ((1 : Int32), S74))))))) (zBp (fX12_readCompare T (nI k)) (fun r22 S21 => fX12_readSaid_165 rc S21 r22)) := by
  obtain ⟨-, -, -, st, to, ht, -⟩ := id h
  obtain ⟨t, et, t4, tk⟩ := tk_kind ht
  have s60 : fX12_isSign T 60 = some (bI (decide (S.1 1 5 = nI 60))) := tk_sign (c := 60) ht (by omega)
  have s61 : fX12_isSign T 61 = some (bI (decide (S.1 1 5 = nI 61))) := tk_sign (c := 61) ht (by omega)
  have s62 : fX12_isSign T 62 = some (bI (decide (S.1 1 5 = nI 62))) := tk_sign (c := 62) ht (by omega)
  unfold fX12_readSaid_165
  by_cases q : t = 60 ∨ t = 61 ∨ t = 62
  · have t09 : T.1 0 9 = nI t := by rcases tk with ⟨z, -⟩ | ⟨z, -⟩ | ⟨z, -⟩ | ⟨-, -, z⟩ | ⟨z, -⟩ <;> first | exact z | omega
    have c1 : fX9_takeSign S = fX9_takeSign_31 S (nI t) := by
      unfold fX9_takeSign
      rw [et, zLt_s]
      rcases q with rfl | rfl | rfl
      · rw [zBr_p (by decide)]
      · rw [zBr_q (by decide), zBr_p (by decide)]
      · rw [zBr_q (by decide), zBr_q (by decide), zBr_p (by decide)]
    have m1 : fX12_readCompare T (nI k) = fX12_readCompare_33 T (nI k) := by
      unfold fX12_readCompare
      rw [s60, s61, s62, zBd_s, zBd_s, zBd_s, bI_br, bI_br, bI_br, et]
      rcases q with rfl | rfl | rfl
      · rw [if_pos (by decide)]
      · rw [if_neg (by decide), if_pos (by decide)]
      · rw [if_neg (by decide), if_neg (by decide), if_pos (by decide)]
    obtain ⟨S2, T2, g1, g2, h2, -⟩ := P_read sQr_stb (P_r h) (tk_d (b := 102) et (by omega) (by omega) (by omega)) (tk_d (b := 103) et (by omega) (by omega) (by omega))
    rw [c1, m1]
    unfold fX9_takeSign_31 fX12_readCompare_33
    rw [t09, zLt_s, g1, g2, zBd_s, zBd_s, zBp_s, zBr_q (zneg2 (by omega))]
    rcases P_num sQr_stb h2 (a := 0) (d := 999) (by omega) (by omega) with ⟨v, S3, T3, e1, e2, v1, v2, t13, h3⟩ | ⟨S3, T3, e1, e2, h3⟩
    · have old3 : sOld p S T S3 T3 := h3.1.2
      have h3' : PI (sQ S0 T0 p (o + 1) (d + 1)) b L M 0 S3 T3 := PI_w (fun z => z.1) (by omega) h3
      rw [show fX9_takeNumber S2 0 999 = some (nI v, S3) from e1, show fX12_readNumber T2 0 999 = some (1, T3) from e2, zBp_s, zBp_s, zBr_q (show ¬ (1 : Int32) = 0 by decide), t13]
      have fin : ∀ w : Int32, (w = 69 ∨ w = 70 ∨ w = 71) → sLeaf w 0 (nI v) (nI t) = (nI k, nI t, nI v) → (50 : Int32) + nI k = w → sOut S0 T0 b L M (kL (T0.1 2)) (kE (T0.1 2)) p o d X Y (zBp (fX8_add S3 250 (nI k) (nI t) (nI v)) (fun r75 S74 => zBr (r75 = 0) (some ((0 : Int32), S74)) (some ((1 : Int32), S74)))) (zBp (zBp (fX12_saysOne T3 ((50 : Int32) + nI k) (0 : Int32) (nI v) (nI t)) (fun r13 S12 => zLt (zI S12 0 44 r13) (fun S14 => some ((1 : Int32), S14)))) (fun r22 S21 => fX12_readSaid_166 rc S21 r22)) := fun w ew el ek => by
        have ok : lOk w 0 (nI v) (nI t) (kL (T0.1 2)) (kE (T0.1 2)) := Or.inr (Or.inr (Or.inr (Or.inr ⟨ew, ⟨v, by omega, rfl⟩, by rcases q with rfl | rfl | rfl <;> decide⟩)))
        have lf := s_leaf h3' (by omega) ok (by rw [el]; exact zneg2 (by omega)) (by rw [el]; exact zneg2 (by omega))
        rw [el] at lf
        obtain ⟨S4, T4, a1, a2, a3, a4, a5⟩ := lf
        rw [show fX8_add S3 250 (nI k) (nI t) (nI v) = some (1, S4) from a1, ek, a2, zBp_s, zBp_s, zLt_s, zBp_s, zBr_q (show ¬ (1 : Int32) = 0 by decide)]
        exact s_fin (old.trans old3 (Nat.le_refl _)) a3 a4 a5 (by omega) (by omega) (by omega)
      rcases hk with rfl | rfl | rfl
      · exact fin 69 (Or.inl rfl) rfl rfl
      · exact fin 70 (Or.inr (Or.inl rfl)) rfl rfl
      · exact fin 71 (Or.inr (Or.inr rfl)) rfl rfl
    · rw [show fX9_takeNumber S2 0 999 = some (-1, S3) from e1, show fX12_readNumber T2 0 999 = some (0, T3) from e2, zBp_s, zBp_s, zBr_p rfl, add_no2 _ _ (zneg2 (by omega)), zBp_s, zBr_p rfl, zBp_s]
      exact s_fail (FI_w (fun z => z.1.1) h3)
  · obtain ⟨S2, T2, g1, g2, h2⟩ := P_fail1 sQ_stb h
    have n60 : ¬ S.1 1 5 = nI 60 := tk_d et (by omega) (by omega) (by omega)
    have n61 : ¬ S.1 1 5 = nI 61 := tk_d et (by omega) (by omega) (by omega)
    have n62 : ¬ S.1 1 5 = nI 62 := tk_d et (by omega) (by omega) (by omega)
    unfold fX9_takeSign fX12_readCompare
    rw [zLt_s, zBr_q (show ¬ S.1 1 5 = 60 from n60), zBr_q (show ¬ S.1 1 5 = 61 from n61), zBr_q (show ¬ S.1 1 5 = 62 from n62), s60, s61, s62, zBd_s, zBd_s, zBd_s, bI_br, bI_br, bI_br, if_neg (fun y => n60 (of_decide_eq_true y)), if_neg (fun y => n61 (of_decide_eq_true y)), if_neg (fun y => n62 (of_decide_eq_true y)), g1, g2, zBp_s, zBp_s, zBp_s, zBr_p rfl, zBo0, zGd_t, zBp_s]
    exact s_fail (FI_w (fun z => z.1) h2)
theorem s_not {X Y : zSt} {nL nE : Nat} (old : sOld p X Y S T) (hp : p ≤ 2 * o) {f g : Option (Int32 × zSt)} (h : sOut S0 T0 b L M nL nE p (o + 1) (d + 1) S T f g) (eg : g = rcN 2 T) : sOut S0 T0 b L M nL nE p o d X Y (zBp f (fun r27 S26 => zBr (r27 = 0) (some ((0 : Int32), S26)) (zBp (fX8_add S26 250 (14 : Int32) (0 : Int32) (0 : Int32)) (fun r31 S30 => zBr (r31 = 0) (some ((0 : Int32), S30)) (some ((1 : Int32), S30)))))) (zBp (fX12_readNot rcN T) (fun r34 S33 => fX12_readSaid_166 rc S33 r34)) := by
  unfold fX12_readNot
  rw [← eg]
  rcases h with ⟨S1, T1, p1, o1, e1, e2, h1, ⟨w1, w2, w3, w4, w5⟩, t44, lt, o20, ar⟩ | ⟨S1, T1, e1, e2, h1⟩
  · obtain ⟨-, c4, -, m41, -⟩ := id h1.1
    obtain ⟨h4, old4⟩ := P_part h1 14 0 0 1 (nI (p1 - 1)) 0 0
    obtain ⟨a1, a2, a3⟩ := cAdd_at (S := S1) (p := p1) 14 0 0
    obtain ⟨m1, m2, m3, m4⟩ := mAdd_at (T := T1) (p := p1) 1 (nI (p1 - 1)) 0 0
    rw [e1, e2, zBp_s, zBp_s, zBr_q (show ¬ (1 : Int32) = 0 by decide), zBr_q (show ¬ (1 : Int32) = 0 by decide), c_add c4 (by omega) (by decide) (by decide), t44, m_says m41 (by omega), zBp_s, zBp_s, zBr_q (show ¬ (1 : Int32) = 0 by decide), zLt_s, zBp_s]
    obtain ⟨T4, hT4⟩ : ∃ X, X = mAdd T1 p1 1 (nI (p1 - 1)) 0 0 := ⟨_, rfl⟩
    rw [← hT4] at m1 m2 m3 m4 old4 h4 ⊢
    obtain ⟨u1, u2⟩ := SO_up (g' := T4.1 18) w3 (fun j hj => old4.2 j (by omega))
    obtain ⟨u3, u4⟩ := SO_not (n := p1) u1 (by omega) (by omega) m1 m2
    have old5 := w1.trans old4 (by omega)
    refine s_fin (p' := p1 + 1) (o' := o1) old (P_44 h4 _) ⟨⟨old5.1, fun j hj => by rw [zI_ne (by omega)]; exact old5.2 j hj⟩, by omega, ?_, ?_, ?_⟩ (by rw [zI_at, if_pos ⟨rfl, rfl⟩, Nat.add_sub_cancel]) (by omega) o20 (by omega)
    · rw [Nat.add_sub_cancel, zI_ne (by omega)]; exact u3
    · rw [Nat.add_sub_cancel, zI_ne (by omega), u4, u2, List.length_append, w4]
      show _ + 1 = _
      omega
    · rw [Nat.add_sub_cancel, zI_ne (by omega), u4, u2]
      refine sRow_app (sRow_old w5 old4 (by rw [w4]; omega)) ?_
      rw [w4, show p + (p1 - p) = p1 by omega]
      exact sRow_one a1 a2 a3
  · rw [e1, e2, zBp_s, zBp_s, zBr_p rfl, zBr_p rfl, zBp_s]
    exact s_fail h1
theorem s_brk {X Y : zSt} {nL nE : Nat} (old : sOld p X Y S T) {f g : Option (Int32 × zSt)} (h : sOut S0 T0 b L M nL nE p (o + 1) (d + 1) S T f g) (eg : g = rcN 0 T) : sOut S0 T0 b L M nL nE p o d X Y (zBp f (fun r60 S59 => zBr (r60 = 0) (some ((0 : Int32), S59)) (zBp (fX9_take S59 (41 : Int32)) (fun r64 S63 => zBr (r64 = 0) (some ((0 : Int32), S63)) (some ((1 : Int32), S63)))))) (zBp (fX12_readBracket rcN T) (fun r37 S36 => fX12_readSaid_166 rc S36 r37)) := by
  unfold fX12_readBracket
  rw [← eg]
  rcases h with ⟨S1, T1, p1, o1, e1, e2, h1, ⟨w1, w2, w3, w4, w5⟩, t44, lt, o20, ar⟩ | ⟨S1, T1, e1, e2, h1⟩
  · obtain ⟨-, -, -, st, to, ht, -⟩ := id h1
    have s41 : fX12_isSign T1 41 = some (bI (decide (S1.1 1 5 = nI 41))) := tk_sign (c := 41) ht (by omega)
    unfold fX9_take
    rw [e1, e2, zBp_s, zBp_s, zBr_q (show ¬ (1 : Int32) = 0 by decide), zBr_q (show ¬ (1 : Int32) = 0 by decide), s41, zBd_s, bI_br]
    by_cases q : S1.1 1 5 = nI 41
    · obtain ⟨S2, T2, g1, g2, h2, -, fc, fm⟩ := P_read sQr_stb (P_r h1) (tk_d (b := 102) q (by omega) (by omega) (by omega)) (tk_d (b := 103) q (by omega) (by omega) (by omega))
      have e18 : T2.1 18 = T1.1 18 := (fm.1 18 (by omega)).1
      have o2 := sOld_F fc fm p1
      rw [zBr_p (show S1.1 1 5 = 41 from q), if_pos (decide_eq_true q), g1, g2, zBd_s, zBd_s, zBp_s, zBp_s, zBr_q (show ¬ (1 : Int32) = 0 by decide)]
      refine s_fin (p' := p1) (o' := o1) old (PI_w (fun z => z.1) (by omega) h2) ⟨w1.trans o2 (by omega), w2, by rw [e18]; exact w3, by rw [e18]; exact w4, ?_⟩ (by rw [fm.2 44 (by omega)]; exact t44) (by omega) o20 (by omega)
      rw [e18]
      exact sRow_old w5 o2 (by rw [w4]; omega)
    · obtain ⟨S2, T2, g1, g2, h2⟩ := P_fail1 sQ_stb h1
      rw [zBr_q (show ¬ S1.1 1 5 = 41 from q), if_neg (fun y => q (of_decide_eq_true y)), g1, g2, zBp_s, zBp_s, zBo0, zGd_t, zGd_t, zBp_s, zBp_s, zBr_p rfl]
      exact s_fail (FI_w (fun z => z.1) h2)
  · rw [e1, e2, zBp_s, zBp_s, zBr_p rfl, zBr_p rfl, zBp_s]
    exact s_fail h1
end One3
