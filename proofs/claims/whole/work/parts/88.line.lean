/-! any line of a house -/
section Line
variable {S0 T0 S T : zSt} {b : Nat → Nat} {L M lo : Nat}
theorem L_line (h : PI (hQ S0 T0) b L M lo S T) (n2 : ¬ S.1 1 5 = 102) : (∃ S' T', fX4_readLine S = some (1, S') ∧ fX12_readLine T = some (1, T') ∧ PI (hQ S0 T0) b L M (lo + 1) S' T') ∨ ∃ S' T', fX4_readLine S = some (0, S') ∧ fX12_readLine T = some (0, T') ∧ FI (hFr S0 T0) S' T' := by
  obtain ⟨⟨d, hq⟩, hr, hf, st, to, ht, hl⟩ := id h
  have hd : PI (hQd S0 T0 d d) b L M lo S T := ⟨hq, hr, hf, st, to, ht, hl⟩
  have w : ∀ k, k < 22 → _ := fun k hk => tk_word (k := k) ht hk
  have w0 : fX12_isWord T 0 = some (bI (decide (S.1 1 5 = nI 0))) := w 0 (by omega)
  have w1 : fX12_isWord T 1 = some (bI (decide (S.1 1 5 = nI 1))) := w 1 (by omega)
  have w2 : fX12_isWord T 2 = some (bI (decide (S.1 1 5 = nI 2))) := w 2 (by omega)
  have w3 : fX12_isWord T 3 = some (bI (decide (S.1 1 5 = nI 4))) := w 3 (by omega)
  have w4 : fX12_isWord T 4 = some (bI (decide (S.1 1 5 = nI 5))) := w 4 (by omega)
  have w5 : fX12_isWord T 5 = some (bI (decide (S.1 1 5 = nI 6))) := w 5 (by omega)
  have w6 : fX12_isWord T 6 = some (bI (decide (S.1 1 5 = nI 7))) := w 6 (by omega)
  unfold fX4_readLine fX12_readLine
  rw [w0, zBd_s, bI_br]
  have pass : ∀ {x y : Option (Int32 × zSt)}, ((∃ S' T', x = some (1, S') ∧ y = some (1, T') ∧ PI (hQ S0 T0) b L M (lo + 1) S' T') ∨ ∃ S' T', x = some (0, S') ∧ y = some (0, T') ∧ FI (hFr S0 T0) S' T') → ((∃ S' T', zBp x (fun r S => zGd (zBo r) (some (r, S))) = some (1, S') ∧ zBp y (fun r S => zGd (zBo r) (some (r, S))) = some (1, T') ∧ PI (hQ S0 T0) b L M (lo + 1) S' T') ∨ ∃ S' T', zBp x (fun r S => zGd (zBo r) (some (r, S))) = some (0, S') ∧ zBp y (fun r S => zGd (zBo r) (some (r, S))) = some (0, T') ∧ FI (hFr S0 T0) S' T') := by
    intro x y hxy
    rcases hxy with ⟨S', T', e1, e2, e3⟩ | ⟨S', T', e1, e2, e3⟩
    · exact Or.inl ⟨S', T', by rw [e1, zBp_s, zBo1, zGd_t], by rw [e2, zBp_s, zBo1, zGd_t], e3⟩
    · exact Or.inr ⟨S', T', by rw [e1, zBp_s, zBo0, zGd_t], by rw [e2, zBp_s, zBo0, zGd_t], e3⟩
  have n3 : ∀ k, k < 22 → S.1 1 5 = nI k → ¬ S.1 1 5 = 103 := fun k hk e => tk_d (b := 103) e (by omega) (by omega) (by omega)
  by_cases c0 : S.1 1 5 = nI 0
  · rw [zBr_p (show S.1 1 5 = 0 from c0), if_pos (decide_eq_true c0)]
    exact pass (L_plain hd n2 (n3 0 (by omega) c0) (s := 0) (by omega) (by omega))
  rw [zBr_q (show ¬ S.1 1 5 = 0 from c0), if_neg (fun z => c0 (of_decide_eq_true z)), w1, zBd_s, bI_br]
  by_cases c1 : S.1 1 5 = nI 1
  · rw [zBr_p (show S.1 1 5 = 1 from c1), if_pos (decide_eq_true c1)]
    exact pass (L_sight hd n2 (n3 1 (by omega) c1))
  rw [zBr_q (show ¬ S.1 1 5 = 1 from c1), if_neg (fun z => c1 (of_decide_eq_true z)), w2, zBd_s, bI_br]
  by_cases c2 : S.1 1 5 = nI 2
  · rw [zBr_p (show S.1 1 5 = 2 from c2), if_pos (decide_eq_true c2)]
    exact pass (L_plant hd n2 (n3 2 (by omega) c2))
  rw [zBr_q (show ¬ S.1 1 5 = 2 from c2), if_neg (fun z => c2 (of_decide_eq_true z)), w3, zBd_s, bI_br]
  by_cases c3 : S.1 1 5 = nI 4
  · rw [zBr_p (show S.1 1 5 = 4 from c3), if_pos (decide_eq_true c3)]
    exact pass (L_plain hd n2 (n3 4 (by omega) c3) (s := 2) (by omega) (by omega))
  rw [zBr_q (show ¬ S.1 1 5 = 4 from c3), if_neg (fun z => c3 (of_decide_eq_true z)), w4, zBd_s, bI_br]
  by_cases c4 : S.1 1 5 = nI 5
  · rw [zBr_p (show S.1 1 5 = 5 from c4), if_pos (decide_eq_true c4)]
    exact pass (L_plain hd n2 (n3 5 (by omega) c4) (s := 3) (by omega) (by omega))
  rw [zBr_q (show ¬ S.1 1 5 = 5 from c4), if_neg (fun z => c4 (of_decide_eq_true z)), w5, zBd_s, bI_br]
  by_cases c5 : S.1 1 5 = nI 6
  · rw [zBr_p (show S.1 1 5 = 6 from c5), if_pos (decide_eq_true c5)]
    exact pass (once_core hd n2 (n3 6 (by omega) c5) (k := 0) (most := 60) (Or.inl ⟨rfl, rfl⟩))
  rw [zBr_q (show ¬ S.1 1 5 = 6 from c5), if_neg (fun z => c5 (of_decide_eq_true z)), w6, zBd_s, bI_br]
  by_cases c6 : S.1 1 5 = nI 7
  · rw [zBr_p (show S.1 1 5 = 7 from c6), if_pos (decide_eq_true c6)]
    exact pass (once_core hd n2 (n3 7 (by omega) c6) (k := 1) (most := 6) (Or.inr ⟨rfl, rfl⟩))
  rw [zBr_q (show ¬ S.1 1 5 = 7 from c6), if_neg (fun z => c6 (of_decide_eq_true z))]
  obtain ⟨S', T', e1, e2, e3⟩ := P_fail1 hQd_stb hd
  exact pass (Or.inr ⟨S', T', e1, e2, FI_w (fun z => z.1) e3⟩)
end Line
