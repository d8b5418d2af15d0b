/-! sentence: the call -/
section Sen6
variable {S T : zSt}
theorem op_sentence (r : Rel S T) : ∃ z S' T', fX11_sentence S = some (z, S') ∧ fX12_sentence T = some (z, T') ∧ Rel S' T' := by
  obtain ⟨-, ⟨hh, hw, hl, hv', hnm, -⟩, -⟩ := id r
  obtain ⟨X, hX⟩ : ∃ X, X = zI (zI S 250 4 0) 250 5 0 := ⟨_, rfl⟩
  have xn : ∀ c, c ≠ 250 → X.1 c = S.1 c := fun c hc => by rw [hX, zI_ne hc, zI_ne hc]
  have xj : X.2 = S.2 := by rw [hX]; rfl
  obtain ⟨T0, hT0⟩ : ∃ X, X = zI (zI T 0 0 0) 0 2 0 := ⟨_, rfl⟩
  have T02 : T0.1 2 = T.1 2 := by rw [hT0, zI_ne (by omega), zI_ne (by omega)]
  have bg := two_begin (Q := fun S' T' => (∀ c, c ≠ 1 → S'.1 c = X.1 c ∧ S'.2 c = X.2 c) ∧ (∀ c, c ≠ 0 → T'.1 c = T.1 c ∧ T'.2 c = T.2 c) ∧ T'.1 0 0 = 0 ∧ T'.1 0 2 = 0 ∧ ∀ j, (j = 1 ∨ 14 ≤ j) → T'.1 0 j = T.1 0 j) r (X := X) (fun c _ _ _ _ _ q => xn c q) xj (M := 200) (by omega) (fun S' T' h1 h2 h3 h4 h5 => ⟨h1, h2, h3, h4, h5⟩)
  obtain ⟨S1, T1, b, L, b1, b2, hp⟩ := bg
  obtain ⟨⟨q1, q2, q3, q4, q5⟩, -⟩ := id hp
  obtain ⟨T2, hT2⟩ : ∃ X, X = zI (zI (zI T1 0 41 0) 0 42 0) 0 43 0 := ⟨_, rfl⟩
  have t2n : ∀ c, c ≠ 0 → T2.1 c = T1.1 c := fun c hc => by rw [hT2, zI_ne hc, zI_ne hc, zI_ne hc]
  have t20 : ∀ j, j ≠ 41 → j ≠ 42 → j ≠ 43 → T2.1 0 j = T1.1 0 j := fun j h1 h2 h3 => by rw [hT2, zI_at, if_neg (by omega), zI_at, if_neg (by omega), zI_at, if_neg (by omega)]
  have hp2 : PI (sQ S T0 0 0 0) b L 200 0 S1 T2 := by
    refine PI_upd hp rfl rfl rfl rfl (fun j _ _ => t20 j (by omega) (by omega) (by omega)) (by rw [hT2]; rfl) (t2n 1 (by omega)) ⟨⟨fun c c1 c2 => by rw [(q1 c c1).1, xn c (by omega)], fun c c1 => by rw [(q1 c c1).2, xj], fun c c0 c16 => ?_, fun c c0 => ?_, fun j hj j38 => ?_⟩, ?_, ?_, ?_, ?_, ?_⟩
    · rw [t2n c c0, (q2 c c0).1, hT0, zI_ne c0, zI_ne c0]
    · rw [hT2, hT0]; exact (q2 c c0).2
    · rw [t20 j (by omega) (by omega) (by omega), hT0]
      rcases (show j = 0 ∨ j = 2 ∨ (j = 1 ∨ 14 ≤ j) by omega) with rfl | rfl | hj'
      · rw [q3, zI_at, if_neg (by omega), zI_at, if_pos ⟨rfl, rfl⟩]
      · rw [q4, zI_at, if_pos ⟨rfl, rfl⟩]
      · rw [q5 j hj', zI_at, if_neg (by omega), zI_at, if_neg (by omega)]
    · rw [(q1 250 (by omega)).1, hX, zI_at, if_neg (by omega), zI_at, if_pos ⟨rfl, rfl⟩]; rfl
    · rw [(q1 250 (by omega)).1, hX, zI_at, if_pos ⟨rfl, rfl⟩]; rfl
    · rw [hT2, zI_at, if_neg (by omega), zI_at, if_neg (by omega), zI_at, if_pos ⟨rfl, rfl⟩]; rfl
    · rw [hT2, zI_at, if_neg (by omega), zI_at, if_pos ⟨rfl, rfl⟩]; rfl
    · rw [hT2, zI_at, if_pos ⟨rfl, rfl⟩]; rfl
  have key := s_cond (S0 := S) (T0 := T0) (b := b) (L := L) (M := 200) (d := 0) (F := 38) (G := 58) (v := nI 1) (fun S' T' p o ho hp h => s_rec (by rw [T02]; exact hw) (by rw [T02, hT0]; exact hnm) 8 0 (by omega) 38 58 (by omega) (by omega) S' T' p o ho hp h) S1 T2 0 0 (by omega) (by omega) hp2
  rw [T02] at key
  have cF : fX8_readFrom S 250 4 = zBp (gSE 40 0 S1 250 4 (nI 1)) (fun r7 S6 => zBr (r7 = 0) (some ((0 : Int32), S6)) (zBr ((S6.1 1 5) = (102 : Int32)) (some ((1 : Int32), S6)) (zBp (fX9_fail S6 (1 : Int32)) (fun r12 S11 => zBr (r12 = 0) (some ((0 : Int32), S11)) (some ((1 : Int32), S11)))))) := by
    unfold fX8_readFrom fX8_clear
    rw [zLt_s, zLt_s, zBd_s, ← hX, show (200 : Int32) = nI 200 from rfl, b1, zBd_s]
    rfl
  unfold fX11_sentence fX12_sentence
  rw [cF, show (200 : Int32) = nI 200 from rfl, b2, zBd_s, zLt_s, zLt_s, zLt_s, ← hT2]
  -- what a fault leaves
  have flt : ∀ S2 T3, FI (sFr S T0) S2 T3 → ∃ S5, fX11_endReading S2 = some S5 ∧ (-1 : Int32) - S5.1 1 10 = -1 - T3.1 0 11 ∧ Rel S5 T3 := fun S2 T3 ⟨fr, f1, pl, f2, f3, f4⟩ => by
    obtain ⟨S5, hS5⟩ : ∃ X, X = zI (zI S2 0 14 (S2.1 1 9)) 1 1 0 := ⟨_, rfl⟩
    have n5 : ∀ c, c ≠ 0 → c ≠ 1 → S5.1 c = S2.1 c := fun c h1 h2 => by rw [hS5, zI_ne h2, zI_ne h1]
    have to : ∀ c, c ≠ 0 → c ≠ 18 → T3.1 c = T.1 c := fun c h1 h3 => by rw [fr.2.2.1 c h1 h3, hT0, zI_ne h1, zI_ne h1]
    have tz : ∀ j, 14 ≤ j → j < 41 → T3.1 0 j = T.1 0 j := fun j h1 h2 => by rw [fr.2.2.2.2 j (by omega) (by omega), hT0, zI_at, if_neg (by omega), zI_at, if_neg (by omega)]
    obtain ⟨-, -, -, -, -, r6, -, -, r9, -⟩ := id r
    refine ⟨S5, by unfold fX11_endReading fX9_clear; rw [zLt_s, zLt_s, zBd_s, hS5], by rw [hS5, zI_at, if_neg (by omega), zI_ne (by omega), f3, f4], Rel_fault r (fun c h0 h1 h2 => ⟨by rw [n5 c h0 h1]; exact fr.1 c h1 (by omega), by rw [hS5]; exact fr.2.1 c h1⟩) ?_ (fun c hc => to c (by omega) (by omega)) ⟨by rw [fr.2.2.2.1 7 (by omega), hT0]; rfl, by rw [fr.2.2.2.1 9 (by omega), hT0]; rfl⟩ (fun j hj => tz j (by omega) (by omega)) (by rw [hS5]; exact fr.2.1 3 (by omega)) (by rw [hS5, zI_at, if_pos ⟨rfl, rfl⟩]) (by rw [fr.2.2.2.2 2 (by omega) (by omega), hT0, zI_at, if_pos ⟨rfl, rfl⟩]) (by rw [hS5, zI_ne (by omega), zI_at, if_pos ⟨rfl, rfl⟩]; exact f1) ?_ ?_⟩
    · rw [n5 240 (by omega) (by omega), fr.1 240 (by omega) (by omega), tz 39 (by omega) (by omega), to 17 (by omega) (by omega)]; exact r9
    · rw [hS5, zI_ne (by omega), zI_at, if_neg (by omega), fr.1 0 (by omega) (by omega)]
    · rw [hS5, zI_ne (by omega), zI_at, if_neg (by omega), fr.1 0 (by omega) (by omega)]
  rcases key with ⟨S3, T3, p, o, e1, e2, h3, ⟨w1, w2, w3, w4, w5⟩, t44, o1, o20, ar⟩ | ⟨S3, T3, e1, e2, h3⟩
  · obtain ⟨fr, c4, c5, m41, m42, m43⟩ := id h3.1
    obtain ⟨-, -, ⟨ff1, ff2⟩, st, to, ht, -⟩ := id h3
    rw [e1, e2, zBp_s, zBp_s, zBr_q (show ¬ (1 : Int32) = 0 by decide), zBr_q (show ¬ (1 : Int32) = 0 by decide)]
    by_cases tk : S3.1 1 5 = 102
    · rw [zBr_p tk, zBr_p ((tk_stop ht).mpr tk), zBp_s]
      -- as if a fault that is none
      obtain ⟨S5, hS5⟩ : ∃ X, X = zI (zI S3 0 14 0) 1 1 0 := ⟨_, rfl⟩
      have er : fX11_endReading S3 = some S5 := by
        unfold fX11_endReading fX9_clear
        rw [ff1, zLt_s, zLt_s, zBd_s, hS5]
      have n5 : ∀ c, c ≠ 0 → c ≠ 1 → S5.1 c = S3.1 c := fun c h1 h2 => by rw [hS5, zI_ne h2, zI_ne h1]
      have to : ∀ c, c ≠ 0 → c ≠ 18 → T3.1 c = T.1 c := fun c h1 h3 => by rw [fr.2.2.1 c h1 h3, hT0, zI_ne h1, zI_ne h1]
      have tz : ∀ j, 14 ≤ j → j < 41 → T3.1 0 j = T.1 0 j := fun j h1 h2 => by rw [fr.2.2.2.2 j (by omega) (by omega), hT0, zI_at, if_neg (by omega), zI_at, if_neg (by omega)]
      obtain ⟨-, -, -, -, -, r6, -, -, r9, -⟩ := id r
      have r5 : Rel S5 T3 := by
        refine Rel_fault r (fun c h0 h1 h2 => ⟨by rw [n5 c h0 h1]; exact fr.1 c h1 (by omega), by rw [hS5]; exact fr.2.1 c h1⟩) ?_ (fun c hc => to c (by omega) (by omega)) ⟨by rw [fr.2.2.2.1 7 (by omega), hT0]; rfl, by rw [fr.2.2.2.1 9 (by omega), hT0]; rfl⟩ (fun j hj => tz j (by omega) (by omega)) (by rw [hS5]; exact fr.2.1 3 (by omega)) (by rw [hS5, zI_at, if_pos ⟨rfl, rfl⟩]) (by rw [fr.2.2.2.2 2 (by omega) (by omega), hT0, zI_at, if_pos ⟨rfl, rfl⟩]) (by rw [hS5, zI_ne (by omega), zI_at, if_pos ⟨rfl, rfl⟩, ff2]) ?_ ?_
        · rw [n5 240 (by omega) (by omega), fr.1 240 (by omega) (by omega), tz 39 (by omega) (by omega), to 17 (by omega) (by omega)]; exact r9
        · rw [hS5, zI_ne (by omega), zI_at, if_neg (by omega), fr.1 0 (by omega) (by omega)]
        · rw [hS5, zI_ne (by omega), zI_at, if_neg (by omega), fr.1 0 (by omega) (by omega)]
      have t32 : T3.1 2 = T.1 2 := to 2 (by omega) (by omega)
      obtain ⟨m, hm⟩ : ∃ m, m = zSeg (T3.1 18) (upd (upd (T3.1 2) 164 1) 165 (nI (p - 1))) 166 240 := ⟨_, rfl⟩
      have mlo : ∀ k, k < 164 → m k = T3.1 2 k := fun k hk => by rw [hm, zSeg_out (by omega), pk_un (by omega), pk_un (by omega)]
      have m164 : m 164 = 1 := by rw [hm, zSeg_out (by omega), pk_un (by omega), pk_us]
      have m165 : m 165 = nI (p - 1) := by rw [hm, zSeg_out (by omega), pk_us]
      have mhi : ∀ j, j < 240 → m (166 + j) = T3.1 18 j := fun j hj => by rw [hm, zSeg_in (by omega) (by omega), show 166 + j - 166 = j by omega]
      have eL : kL m = kL (T.1 2) := by unfold kL; rw [mlo 0 (by omega), t32]
      have eE : kE m = kE (T.1 2) := by unfold kE; rw [mlo 2 (by omega), t32]
      obtain ⟨u1, u2⟩ := SO_up (g' := fun j => m (166 + j)) w3 (fun j hj => mhi j (by omega))
      have sn : rSen S5.1 250 m := by
        refine Or.inr ⟨m164, p - 1, o, m165, by rw [n5 250 (by omega) (by omega), c5], by omega, o20, by rw [eL, eE]; exact u1, ?_, ?_, ?_⟩
        · show _ = nI (SC (fun j => m (166 + j)) (p - 1)).length
          rw [u2, w4, n5 250 (by omega) (by omega), c4, Nat.sub_zero]
        · show (SC (fun j => m (166 + j)) (p - 1)).length ≤ 40
          rw [u2, w4]; omega
        · intro j x hx
          have hx' : (SC (fun j => m (166 + j)) (p - 1))[j]? = some x := hx
          rw [u2] at hx'
          have := w5 j x hx'
          rw [Nat.zero_add] at this
          rw [n5 (250 + 1) (by omega) (by omega), n5 (250 + 2) (by omega) (by omega), n5 (250 + 3) (by omega) (by omega)]
          exact this
      obtain ⟨S8, k1, k2, k3, k4⟩ := c_copySen (S := S5) (a := 245) (b := 250) (by omega) sn
      have k5 := c_copy5 (by omega) k1
      rw [n5 250 (by omega) (by omega), c5] at k5
      have mL : zLp fX12_sentence_79 2000 (zI (zI T3 2 164 1) 2 165 (nI (p - 1)), 0) = some (nI o, zPut T3 2 m) := by
        have eb : zI (zI T3 2 164 1) 2 165 (nI (p - 1)) = zPut T3 2 (upd (upd (T3.1 2) 164 1) 165 (nI (p - 1))) := by rw [zI_asPut (T := T3), zI_zPut]
        rw [eb]
        refine zLp_copy (c := 2) (o := 166) (n := 240) (f := T3.1 18) (fun i hi => ?_) ?_ (by omega)
        · unfold fX12_sentence_79
          dsimp only
          rw [show (240 : Int32) = nI 240 from rfl, zle_f hi (by omega), zIx_nI hi (by omega), zGd_t, show (166 : Int32) + nI i = nI (166 + i) from nI_add 166 i, zIx_nI (show 166 + i < 406 by omega) (by omega), zGd_t, zLt_s, zLt_s, nI_clamp (by omega), nI_clamp (by omega), nI_1, zPut_ne (show 18 ≠ 2 by omega), zPut_ne (show 18 ≠ 2 by omega)]
        · unfold fX12_sentence_79
          dsimp only
          rw [zBr_p (show (240 : Int32) ≤ nI 240 by decide), zXr_s, zPut_eq, ← hm, zPut_ne (show 0 ≠ 2 by omega), zPut_ne (show 0 ≠ 2 by omega), m42]
          rw [show zPut (zPut T3 2 (upd (upd (T3.1 2) 164 1) 165 (nI (p - 1)))) 2 m = zPut T3 2 m from zPut_put _ _ _ _]
      refine ⟨nI o, S8, zPut T3 2 m, ?_, ?_, ?_⟩
      · rw [er, zBd_s, zBr_q (show ¬ (1 : Int32) = 0 by decide), k1, zBd_s, k5]
      · rw [zg_164_406, zGd_t, zLt_s, zg_165_406, zGd_t, zt_164, zt_165, zLt_s, zI_ne (show 0 ≠ 2 by omega), t44, mL]
      · refine Rel_sen r5 k2 (fun c hc => k3 c (by omega)) rfl (fun c hc => zPut_ne hc) (fun k hk => by rw [zPut_eq]; exact mlo k hk) (by rw [zPut_eq]; exact k4)
    · obtain ⟨S9, T9, f1, f2, f3⟩ := P_fail1 sQ_stb h3
      obtain ⟨S5, g1, g2, g3⟩ := flt S9 T9 (FI_w (fun z => z.1) f3)
      rw [zBr_q tk, zBr_q (fun z => tk ((tk_stop ht).mp z)), f1, f2, zBp_s, zBp_s, zBr_p rfl, zBp_s, g1, zBd_s, zBr_p rfl, g2]
      exact ⟨_, _, _, rfl, rfl, g3⟩
  · obtain ⟨S5, g1, g2, g3⟩ := flt S3 T3 h3
    rw [e1, e2, zBp_s, zBp_s, zBr_p rfl, zBr_p rfl, zBp_s, g1, zBd_s, zBr_p rfl, g2]
    exact ⟨_, _, _, rfl, rfl, g3⟩
end Sen6
