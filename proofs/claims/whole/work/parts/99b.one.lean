/-! sentence: one piece -/
section One2
variable {S0 T0 S T : zSt} {b : Nat → Nat} {L M p o d : Nat} {rc rcN : Nat → zSt → Option (Int32 × zSt)} {rcC : Nat → zSt → Nat → Nat → Int32 → Option (Int32 × zSt)}
def cTail (rc : Nat → zSt → Nat → Nat → Int32 → Option (Int32 × zSt)) (S13 : zSt) (x1 v3 : Int32) : Option (Int32 × zSt) := zBr (x1 = 3) (zBp (fX8_add S13 250 x1 (0 : Int32) (0 : Int32)) (fun r23 S22 => zGd (zBo r23) (some (r23, S22)))) (zBr (x1 = 14) (zBp (rc 2 S13 250 4 (v3 + (1 : Int32))) (fun r27 S26 => zBr (r27 = 0) (some ((0 : Int32), S26)) (zBp (fX8_add S26 250 (14 : Int32) (0 : Int32) (0 : Int32)) (fun r31 S30 => zBr (r31 = 0) (some ((0 : Int32), S30)) (some ((1 : Int32), S30)))))) (zBr (x1 = 15) (zBp (fX8_add S13 250 x1 (0 : Int32) (0 : Int32)) (fun r35 S34 => zGd (zBo r35) (some (r35, S34)))) (zBr (x1 = 16) (zBp (fX9_takeKnown S13 4 (0 : Int32)) (fun r39 S38 => zBp (fX8_add S38 250 x1 r39 (0 : Int32)) (fun r42 S41 => zGd (zBo r42) (some (r42, S41))))) (zBr (x1 = 17) (zBp (fX9_takeKnown S13 4 (0 : Int32)) (fun r46 S45 => zBp (fX8_add S45 250 x1 r46 (0 : Int32)) (fun r49 S48 => zGd (zBo r49) (some (r49, S48))))) (zBr (x1 = 18) (zBp (fX9_takeKnown S13 4 (2 : Int32)) (fun r53 S52 => zBp (fX8_add S52 250 x1 r53 (0 : Int32)) (fun r56 S55 => zGd (zBo r56) (some (r56, S55))))) (zBr (x1 = 40) (zBp (rc 0 S13 250 4 (v3 + (1 : Int32))) (fun r60 S59 => zBr (r60 = 0) (some ((0 : Int32), S59)) (zBp (fX9_take S59 (41 : Int32)) (fun r64 S63 => zBr (r64 = 0) (some ((0 : Int32), S63)) (some ((1 : Int32), S63)))))) (zBp (fX9_takeSign S13) (fun r68 S67 => zBr (r68 = (-1 : Int32)) (some ((0 : Int32), S67)) (zBp (fX9_takeNumber S67 (0 : Int32) (999 : Int32)) (fun r72 S71 => zBp (fX8_add S71 250 x1 r68 r72) (fun r75 S74 => zBr (r75 = 0) (some ((0 : Int32), S74)) (some ((1 : Int32), S74)))))))))))))
def mTail (rc : Nat → zSt → Option (Int32 × zSt)) (S15 : zSt) (v1 v2 : Int32) : Option (Int32 × zSt) := zBr (v1 = 0) (zBr (v2 = (13 : Int32)) (zBp (rc 3 S15) (fun r34 S33 => fX12_readSaid_166 rc S33 r34)) (zBr ((16 : Int32) ≤ v2) (zBr ((19 : Int32) ≤ v2) (zBp (fX12_readCompare S15 v2) (fun r22 S21 => fX12_readSaid_165 rc S21 r22)) (zBp (fX12_readOf S15 v2) (fun r27 S26 => fX12_readSaid_165 rc S26 r27))) (zBp (fX12_saysOne S15 ((50 : Int32) + v2) (0 : Int32) (0 : Int32) (0 : Int32)) (fun r30 S29 => zLt (zI S29 0 44 r30) (fun S31 => fX12_readSaid_166 rc S31 (1 : Int32)))))) (zBp (rc 4 S15) (fun r37 S36 => fX12_readSaid_166 rc S36 r37))
def sQr (S0 T0 : zSt) (p o d : Nat) (X Y S T : zSt) : Prop := sQ S0 T0 p o d S T ∧ sOld p X Y S T
theorem sQr_stb {X Y : zSt} : stb (sQr S0 T0 p o d X Y) := fun S S' T T' h1 h2 h3 h => ⟨sQ_stb S S' T T' h1 h2 h3 h.1, ⟨fun j hj => by rw [(h1 251 (by omega)).1, (h1 252 (by omega)).1, (h1 253 (by omega)).1]; exact h.2.1 j hj, fun j hj => by rw [(h2 18 (by omega)).1]; exact h.2.2 j hj⟩⟩
theorem P_r (h : PI (sQ S0 T0 p o d) b L M 0 S T) : PI (sQr S0 T0 p o d S T) b L M 0 S T := PI_w (fun z => ⟨z, sOld.refl p S T⟩) (Nat.le_refl _) h
theorem add_no {S : zSt} (k c : Int32) : fX8_add S 250 k (-1) c = some (0, S) := by
  unfold fX8_add
  rw [zBr_p rfl]
theorem add_no2 {S : zSt} (k a : Int32) (ha : ¬ a = -1) : fX8_add S 250 k a (-1) = some (0, S) := by
  unfold fX8_add
  rw [zBr_q ha, zBr_p rfl]
/-- a piece that names a parlour or a person -/
theorem s_of {X Y : zSt} (hw : WFh (T0.1 2)) (hn0 : rNm S0.1 S0.2 4 (T0.2 7) (T0.1 2)) (old : sOld p X Y S T) (h : PI (sQ S0 T0 p (o + 1) (d + 1)) b L M 0 S T) (hp : p ≤ 2 * o) (ho : o < 20) {k s : Nat} (hk : (s = 0 ∧ (k = 16 ∨ k = 17)) ∨ (s = 2 ∧ k = 18)) : sOut S0 T0 b L M (kL (T0.1 2)) (kE (T0.1 2)) p o d X Y (zBp (fX9_takeKnown S 4 (nI s)) (fun r39 S38 => zBp (fX8_add S38 250 (nI k) r39 (0 : Int32)) (fun r42 S41 => zGd (zBo r42) (some (r42, S41))))) (zBp (fX12_readOf T (nI k)) (fun r27 S26 => fX12_readSaid_165 rc S26 r27)) := by
  obtain ⟨fr, q1, q2, q3, q4, q5⟩ := id h.1
  have t2 : T.1 2 = T0.1 2 := fr.2.2.1 2 (by omega) (by omega)
  have hn : rNm S.1 S.2 4 (T.2 7) (T0.1 2) := by
    rw [fr.2.2.2.1 7 (by omega)]
    exact rNm_cong (fun a h1 h2 => fr.1 a (by omega) (by omega)) (fun a h1 h2 => fr.2.1 a (by omega)) hn0
  have eo : fX12_readOf T (nI k) = zBp (fX12_readNamed T (nI (nB s)) (T0.1 2 s)) (fun r6 S5 => zBr (r6 = 0) (some ((0 : Int32), S5)) (zBp (fX12_saysOne S5 ((50 : Int32) + nI k) (S5.1 0 13) (0 : Int32) (0 : Int32)) (fun r10 S9 => zLt (zI S9 0 44 r10) (fun S11 => some ((1 : Int32), S11))))) := by
    unfold fX12_readOf fX12_readOf_13 fX12_readOf_28
    rcases hk with ⟨rfl, rfl | rfl⟩ | ⟨rfl, rfl⟩
    · rw [zBr_q (by decide), zBr_q (by decide), zg_0_406, zGd_t, zt_0, t2]; rfl
    · rw [zBr_q (by decide), zBr_q (by decide), zg_0_406, zGd_t, zt_0, t2]; rfl
    · rw [zBr_p (by decide), zBr_p (by decide), zg_2_406, zGd_t, zt_2, t2]; rfl
  rw [eo]
  unfold fX12_readSaid_165
  have s4 : s < 4 := by rcases hk with ⟨rfl, -⟩ | ⟨rfl, -⟩ <;> omega
  rcases P_named sQr_stb (P_r h) hw.c hn s4 with ⟨j, S3, T3, e1, e2, hj, t13, h3⟩ | ⟨S3, T3, e1, e2, h3⟩
  · have old3 : sOld p S T S3 T3 := h3.1.2
    have h3' : PI (sQ S0 T0 p (o + 1) (d + 1)) b L M 0 S3 T3 := PI_w (fun z => z.1) (by omega) h3
    have lf : ∀ w : Int32, ((w = 66 ∨ w = 67) ∧ s = 0) ∨ (w = 68 ∧ s = 2) → lOk w (nI j) 0 0 (kL (T0.1 2)) (kE (T0.1 2)) := fun w hw' => by
      rcases hw' with ⟨hw', rfl⟩ | ⟨hw', rfl⟩
      · exact Or.inr (Or.inr (Or.inl ⟨hw', j, hj, rfl⟩))
      · exact Or.inr (Or.inr (Or.inr (Or.inl ⟨hw', j, hj, rfl⟩)))
    have jn : ¬ nI j = (-1 : Int32) := zneg2 (by have := (WFh_cnt hw.c s4).2.2; omega)
    rw [e1, e2, zBp_s, zBp_s, zBr_q (show ¬ (1 : Int32) = 0 by decide), t13]
    have fin : ∀ w : Int32, lOk w (nI j) 0 0 (kL (T0.1 2)) (kE (T0.1 2)) → sLeaf w (nI j) 0 0 = (nI k, nI j, 0) → (50 : Int32) + nI k = w → sOut S0 T0 b L M (kL (T0.1 2)) (kE (T0.1 2)) p o d X Y (zBp (fX8_add S3 250 (nI k) (nI j) (0 : Int32)) (fun r42 S41 => zGd (zBo r42) (some (r42, S41)))) (zBp (zBp (fX12_saysOne T3 ((50 : Int32) + nI k) (nI j) (0 : Int32) (0 : Int32)) (fun r10 S9 => zLt (zI S9 0 44 r10) (fun S11 => some ((1 : Int32), S11)))) (fun r27 S26 => fX12_readSaid_166 rc S26 r27)) := fun w ok el ew => by
      have lf := s_leaf h3' (by omega) ok (by rw [el]; exact jn) (by rw [el]; exact (show ¬ (0 : Int32) = -1 by decide))
      rw [el] at lf
      obtain ⟨S4, T4, a1, a2, a3, a4, a5⟩ := lf
      rw [show fX8_add S3 250 (nI k) (nI j) 0 = some (1, S4) from a1, ew, a2, zBp_s, zBp_s, zLt_s, zBo1, zGd_t, zBp_s]
      exact s_fin (old.trans old3 (Nat.le_refl _)) a3 a4 a5 (by omega) (by omega) (by omega)
    rcases hk with ⟨rfl, rfl | rfl⟩ | ⟨rfl, rfl⟩
    · exact fin 66 (lf 66 (Or.inl ⟨Or.inl rfl, rfl⟩)) rfl rfl
    · exact fin 67 (lf 67 (Or.inl ⟨Or.inr rfl, rfl⟩)) rfl rfl
    · exact fin 68 (lf 68 (Or.inr ⟨rfl, rfl⟩)) rfl rfl
  · rw [e1, e2, zBp_s, zBp_s, zBr_p rfl, add_no, zBp_s, zBo0, zGd_t, zBp_s]
    exact s_fail (FI_w (fun z => z.1.1) h3)
end One2
