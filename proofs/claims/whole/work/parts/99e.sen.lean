/-! sentence: the recursion and the call -/
section Sen5
variable {S0 T0 S T : zSt} {b : Nat → Nat} {L M p o d : Nat}
theorem s_cond {F G : Nat} {v : Int32} (hone : ∀ S T p o, o ≤ 20 → p ≤ 2 * o → PI (sQ S0 T0 p o d) b L M 0 S T → sOut S0 T0 b L M (kL (T0.1 2)) (kE (T0.1 2)) p o d S T (gSE F 2 S 250 4 v) (gSR G 2 T)) : ∀ S T p o, o ≤ 20 → p ≤ 2 * o → PI (sQ S0 T0 p o d) b L M 0 S T → sOut S0 T0 b L M (kL (T0.1 2)) (kE (T0.1 2)) p o d S T (gSE (F + 2) 0 S 250 4 v) (gSR (G + 2) 0 T) := by
  have hj : ∀ S T p o, o ≤ 20 → p ≤ 2 * o → PI (sQ S0 T0 p o d) b L M 0 S T → sOut S0 T0 b L M (kL (T0.1 2)) (kE (T0.1 2)) p o d S T (gSE (F + 1) 1 S 250 4 v) (gSR (G + 1) 1 T) := fun S T p o ho hp h => by
    have e1 : fX8_readJoined_15 (gSE F) 250 4 v = cBody (if true = true then 13 else 12) (fun S => gSE F 2 S 250 4 v) := by funext ⟨S, w⟩; rfl
    have e2 : fX12_readAnd_14 (gSR G) = mBody (if true = true then 12 else 11) (if true = true then 2 else 3) (fun T => gSR G 2 T) := by funext ⟨S, w⟩; rfl
    show sOut S0 T0 b L M (kL (T0.1 2)) (kE (T0.1 2)) p o d S T (fX8_readJoined (gSE F) S 250 4 v) (fX12_readAnd (gSR G) T)
    unfold fX8_readJoined fX12_readAnd
    rw [e1, e2]
    exact s_join true (F := fun S => gSE F 2 S 250 4 v) (G := fun T => gSR G 2 T) hone ho hp h
  intro S T p o ho hp h
  have e1 : fX8_readCond_15 (gSE (F + 1)) 250 4 v = cBody (if false = true then 13 else 12) (fun S => gSE (F + 1) 1 S 250 4 v) := by funext ⟨S, w⟩; rfl
  have e2 : fX12_readOr_14 (gSR (G + 1)) = mBody (if false = true then 12 else 11) (if false = true then 2 else 3) (fun T => gSR (G + 1) 1 T) := by funext ⟨S, w⟩; rfl
  show sOut S0 T0 b L M (kL (T0.1 2)) (kE (T0.1 2)) p o d S T (fX8_readCond (gSE (F + 1)) S 250 4 v) (fX12_readOr (gSR (G + 1)) T)
  unfold fX8_readCond fX12_readOr
  rw [e1, e2]
  exact s_join false (F := fun S => gSE (F + 1) 1 S 250 4 v) (G := fun T => gSR (G + 1) 1 T) hj ho hp h
theorem s_rec (hw : WFh (T0.1 2)) (hn0 : rNm S0.1 S0.2 4 (T0.2 7) (T0.1 2)) : ∀ e d, d + e = 8 → ∀ F G, 1 + 3 * e ≤ F → 2 + 4 * e ≤ G → ∀ S T p o, o ≤ 20 → p ≤ 2 * o → PI (sQ S0 T0 p o d) b L M 0 S T → sOut S0 T0 b L M (kL (T0.1 2)) (kE (T0.1 2)) p o d S T (gSE F 2 S 250 4 (nI (d + 1))) (gSR G 2 T)
  | e, d, hd, F, G, hF, hG, S, T, p, o, ho, hp, h => by
    obtain ⟨F1, rfl⟩ : ∃ x, F = x + 1 := ⟨F - 1, by omega⟩
    obtain ⟨G1, rfl⟩ : ∃ x, G = x + 2 := ⟨G - 2, by omega⟩
    show sOut S0 T0 b L M (kL (T0.1 2)) (kE (T0.1 2)) p o d S T (fX8_readOne (gSE F1) S 250 4 (nI (d + 1))) (fX12_readSaid (gSR (G1 + 1)) T)
    refine s_one (rcN := gSR G1) hw hn0 (fun _ => rfl) (fun _ => rfl) (fun d8 S T p o ho hp h => ?_) (fun d8 => ?_) (by omega) ho hp h
    · match e, hd, hF, hG with
      | 0, hd, _, _ => omega
      | e + 1, hd, hF, hG => exact s_rec hw hn0 e (d + 1) (by omega) F1 G1 (by omega) (by omega) S T p o ho hp h
    · match e, hd, hF, hG with
      | 0, hd, _, _ => omega
      | e + 1, hd, hF, hG =>
        obtain ⟨F2, rfl⟩ : ∃ x, F1 = x + 2 := ⟨F1 - 2, by omega⟩
        obtain ⟨G2, rfl⟩ : ∃ x, G1 = x + 2 := ⟨G1 - 2, by omega⟩
        exact s_cond (fun S T p o ho hp h => s_rec hw hn0 e (d + 1) (by omega) F2 G2 (by omega) (by omega) S T p o ho hp h)
theorem c_copy5 {S' : zSt} {a b : Nat} (hab : a ≠ b) (h : fX8_copyFrom S a b = some S') : S'.1 a 5 = S.1 b 5 := by
  unfold fX8_copyFrom at h
  rw [zLt_s, zLt_s] at h
  have h := (zGd_e h).2
  rw [zLt_s] at h
  have h := (zGd_e h).2
  rw [zLt_s] at h
  have h := (zGd_e h).2
  rw [zLt_s] at h
  rw [← Option.some.inj h, zCi_ne (by omega), zCi_ne (by omega), zCi_ne (by omega), zI_at, if_pos ⟨rfl, rfl⟩, zI_ne (Ne.symm hab)]
/-- another sentence, all else the same -/
theorem Rel_sen {S' T' : zSt} (r : Rel S T) (a1 : S'.2 = S.2) (a2 : ∀ c, (c < 245 ∨ 249 ≤ c) → S'.1 c = S.1 c) (b1 : T'.2 = T.2) (b2 : ∀ c, c ≠ 2 → T'.1 c = T.1 c) (b4 : ∀ k, k < 164 → T'.1 2 k = T.1 2 k) (hs : rSen S'.1 245 (T'.1 2)) : Rel S' T' := by
  obtain ⟨r1, ⟨q1, q2, q3, q4, q5, q6⟩, r3, r4, r5, r6, r7, r8, r9, r10⟩ := r
  have e1 : ∀ k, k < 24 → T'.1 2 k = T.1 2 k := fun k hk => b4 k (by omega)
  have h6 := q2.2.1.2
  unfold Rel
  rw [a1, b1, a2 1 (by omega), a2 2 (by omega), a2 44 (by omega), a2 0 (by omega), a2 256 (by omega), a2 260 (by omega), a2 255 (by omega), a2 240 (by omega), b2 0 (by omega), b2 1 (by omega), b2 5 (by omega), b2 10 (by omega), b2 4 (by omega), b2 13 (by omega), b2 14 (by omega), b2 17 (by omega)]
  refine ⟨r1, ⟨Rh_cong (fun a h1 h2 => a2 a (by omega)) (Rh_m e1 q1 q2), WFh_m e1 q2, Rl_mm b4 h6 q4.2.1.2 (Rl_cong h6 (fun a h1 h2 => a2 a (by omega)) q3), WFl_mm b4 h6 q4, rNm_cong (fun a h1 h2 => a2 a (by omega)) (fun a _ _ => rfl) (rNm_m e1 q5), hs⟩, ?_, rImg_cong (fun a h1 h2 => a2 a (by omega)) (fun a _ _ => rfl) r4, rImg_cong (fun a h1 h2 => a2 a (by omega)) (fun a _ _ => rfl) r5, r6, r7, r8, r9, r10⟩
  have es : ∀ t k, k < 164 → mSn (T'.1 2) (T.1 5) t k = mSn (T.1 2) (T.1 5) t k := by
    intro t k hk
    unfold mSn
    by_cases h : 24 ≤ k ∧ k < 164
    · rw [if_pos h, if_pos h]
    · rw [if_neg h, if_neg h, b4 k (by omega)]
  obtain ⟨nx, kp, c1, c2, c3, c4, c5, c6⟩ := rPast_cong h6 (fun a h1 h2 => a2 a (by omega)) r3
  exact ⟨nx, kp, c1, c2, c3, c4, c5, fun t ht => ⟨Rl_mm (es t) (by rw [mSn_kP]; exact h6) (c6 t ht).2.2.1.2 (c6 t ht).1, WFl_mm (es t) (by rw [mSn_kP]; exact h6) (c6 t ht).2⟩⟩
end Sen5
