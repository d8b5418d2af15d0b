/-! book: what was right told, and whether it stays -/
section BookEnd
variable {S0 T0 S T : zSt}
def swp (T : zSt) (n : Nat) : zSt := zPut (zPut T 2 (zSeg (T.1 6) (T.1 2) 24 n)) 6 (zSeg (fun i => T.1 2 (24 + i)) (T.1 6) 0 n)
theorem swp_S (T : zSt) (n : Nat) : zI (zI (swp T n) 2 (24 + n) (T.1 6 n)) 6 n (T.1 2 (24 + n)) = swp T (n + 1) := by
  unfold swp
  have e := zSeg_s (fun i => T.1 2 (24 + i)) (T.1 6) 0 n
  rw [Nat.zero_add] at e
  rw [zI_putne _ (by omega), zI_zPut, zI_zPut, zSeg_s, e]
theorem swp_0 (T : zSt) : swp T 0 = T := by
  unfold swp
  rw [zSeg_0, zSeg_0, zPut_id, zPut_id]
theorem swp_2 (T : zSt) (n : Nat) : (swp T n).1 2 = zSeg (T.1 6) (T.1 2) 24 n := by
  unfold swp
  rw [zPut_ne (by omega), zPut_eq]
theorem swp_6 (T : zSt) (n : Nat) : (swp T n).1 6 = zSeg (fun i => T.1 2 (24 + i)) (T.1 6) 0 n := by
  unfold swp
  rw [zPut_eq]
theorem swp_ne {n c : Nat} (h1 : c ≠ 2) (h2 : c ≠ 6) : (swp T n).1 c = T.1 c := by
  unfold swp
  rw [zPut_ne h2, zPut_ne h1]
theorem m_stay {v : Int32} {r : zSt} (hr : zBr (v = 0) (some (swp T 140)) (zBd (fX12_snap (swp T 140)) (fun S5 => zBd (fX12_takeBack S5) (fun S7 => some S7))) = some r) : fX12_stay T v = some r := by
  have := zLp_run (body := fX12_stay_2 v) (fun i => (swp T i, nI i)) (r := r) 140 2000 (fun i hi => ?_) ?_ (by omega)
  · rw [swp_0] at this
    exact this
  · unfold fX12_stay_2
    dsimp only
    rw [show (140 : Int32) = nI 140 from rfl, zle_f hi (by omega), zo_24, zIx_nI (show 24 + i < 406 by omega) (by omega), zGd_t, zLt_s, zIx_nI hi (by omega), zGd_t, zGd_t, zLt_s, zGd_t, zLt_s, zLt_s, nI_clamp (by omega), nI_clamp (by omega), nI_1, swp_2, swp_6, zSeg_out (by omega), zSeg_out (by omega), swp_S]
  · unfold fX12_stay_2
    dsimp only
    rw [zBr_p (show (140 : Int32) ≤ nI 140 by decide), hr, zXr_s]
/-- the class's end of a book -/
def bTail (v1 : Int32) (S11 : zSt) : Option (Int32 × zSt) := zBr (v1 = (1 : Int32)) (zBr ((S11.1 240 8) ≤ 0) (fX11_book_99 S11) (zBd (fX7_keep S11 14) (fun S16 => zBd (fX6_copyFrom S16 14 29) (fun S18 => fX11_book_99 S18)))) (fX11_book_99 S11)
theorem c_99 {k : Nat} {z : Int32} (h7 : S.1 240 7 = z) (h8 : S.1 240 8 = nI k) : fX11_book_99 S = some (if z = 0 then -1 else nI k, S) := by
  unfold fX11_book_99
  rw [h7, h8]
  by_cases q : z = 0
  · rw [zBr_p q, if_pos q]
  · rw [zBr_q q, if_neg q]
theorem J_fin (r0 : Rel S0 T0) (h6 : ∀ i, i < 140 → T0.1 6 i = T0.1 2 (24 + i)) (h : JC S0 T0 S T) {v z : Int32} (hv : v = 0 ∨ v = 1) {k : Nat} (hk : k ≤ 40) (h7 : S.1 240 7 = z) (h8 : S.1 240 8 = nI k) : ∃ w S1 S2 T2, fX0_judge_60 S 29 = some S1 ∧ fX12_book_103 T v (nI k) z = some (w, T2) ∧ bTail v S1 = some (w, S2) ∧ Rel S2 T2 := by
  obtain ⟨⟨a1, a2, a3, a4⟩, ⟨a6, a7, a7'⟩, a8, a9, a11⟩ := id h
  have p6 := a2.2.1.2
  obtain ⟨pv, hpv⟩ : ∃ x, x = zBits (aProved (T.1 2)) (kA (T.1 2)) := ⟨_, rfl⟩
  obtain ⟨S1, hS1⟩ : ∃ X, X = zI (zI S 240 9 (S.1 29 1)) 240 10 pv := ⟨_, rfl⟩
  have s1n : ∀ c, c ≠ 240 → S1.1 c = S.1 c := fun c hc => by rw [hS1, zI_ne hc, zI_ne hc]
  have s17 : S1.1 240 7 = z := by rw [hS1, zI_at, if_neg (by omega), zI_at, if_neg (by omega), h7]
  have s18 : S1.1 240 8 = nI k := by rw [hS1, zI_at, if_neg (by omega), zI_at, if_neg (by omega), h8]
  have s19 : S1.1 240 9 = T.1 2 24 := by rw [hS1, zI_at, if_neg (by omega), zI_at, if_pos ⟨rfl, rfl⟩, a3.1]
  have s10 : S1.1 240 10 = pv := by rw [hS1, zI_at, if_pos ⟨rfl, rfl⟩]
  have c1 : fX0_judge_60 S 29 = some S1 := by
    unfold fX0_judge_60
    rw [zLt_s, c_actsProved (b := 29) (m := T.1 2) (Rh_cong (h := 4) (fun a h1 h2 => zI_ne (by omega)) a1) a2 (Rl_cong p6 (fun a h1 h2 => zI_ne (by omega)) a3) a4, zBd_s, zLt_s, hS1, hpv]
  obtain ⟨T1, hT1⟩ : ∃ X, X = zI (zI (zI (zI (zI T 17 0 z) 17 1 (nI k)) 17 2 (T.1 2 24)) 17 3 pv) 0 39 1 := ⟨_, rfl⟩
  have t1n : ∀ c, c ≠ 0 → c ≠ 17 → T1.1 c = T.1 c := fun c h1 h2 => by rw [hT1, zI_ne h1, zI_ne h2, zI_ne h2, zI_ne h2, zI_ne h2]
  have t10 : ∀ j, j ≠ 39 → T1.1 0 j = T.1 0 j := fun j hj => by rw [hT1, zI_at, if_neg (by omega), zI_ne (by omega), zI_ne (by omega), zI_ne (by omega), zI_ne (by omega)]
  have t139 : T1.1 0 39 = 1 := by rw [hT1, zI_at, if_pos ⟨rfl, rfl⟩]
  have t2 : T1.2 = T0.2 := by rw [hT1]; exact a8
  have m1 : fX12_book_103 T v (nI k) z = zBr (v = 1) (zBr (nI k ≤ 0) (fX12_book_159 T1 (nI k) z) (fX12_book_160 T1 (nI k) z 1)) (fX12_book_159 T1 (nI k) z) := by
    unfold fX12_book_103
    have e2 : (zI (zI (zI T 17 0 z) 17 1 (nI k)) 17 2 (T.1 2 24)).1 2 = T.1 2 := by rw [zI_ne (by omega), zI_ne (by omega), zI_ne (by omega)]
    have e3 := m_proved (T := zI (zI (zI T 17 0 z) 17 1 (nI k)) 17 2 (T.1 2 24)) (by rw [e2]; exact a2) (by rw [e2]; exact a4)
    rw [e2] at e3
    rw [zg_0_4, zGd_t, zLt_s, zg_1_4, zGd_t, zLt_s, zg_24_406, zGd_t, zg_2_4, zGd_t, zt_0, zt_1, zt_2, zt_24, zI_ne (show 2 ≠ 17 by omega), zI_ne (show 2 ≠ 17 by omega), zLt_s, e3, zBd_s, zg_3_4, zGd_t, zt_3, zLt_s, zBo1, zGd_t, zLt_s, ← hpv, ← hT1]
  -- after the swap
  obtain ⟨T3, hT3⟩ : ∃ X, X = swp T1 140 := ⟨_, rfl⟩
  have t32 : T3.1 2 = T0.1 2 := by
    funext x
    rw [hT3, swp_2, t1n 6 (by omega) (by omega), t1n 2 (by omega) (by omega), a9 6 (by omega)]
    by_cases q : 24 ≤ x ∧ x < 24 + 140
    · rw [zSeg_in q.1 q.2, h6 (x - 24) (by omega), show 24 + (x - 24) = x by omega]
    · rw [zSeg_out (by omega), a11 x (by omega)]
  have t3n : ∀ c, c ≠ 0 → c ≠ 2 → c ≠ 6 → c ≠ 17 → T3.1 c = T0.1 c := fun c q0 q2 q6 q17 => by rw [hT3, swp_ne q2 q6, t1n c q0 q17, a9 c q2]
  have t30 : ∀ j, j ≠ 39 → T3.1 0 j = T0.1 0 j := fun j hj => by rw [hT3, swp_ne (by omega) (by omega), t10 j hj, a9 0 (by omega)]
  have t36 : ∀ i, i < 140 → T3.1 6 i = T.1 2 (24 + i) := fun i hi => by rw [hT3, swp_6, zSeg_in (by omega) (by omega), Nat.sub_zero, t1n 2 (by omega) (by omega)]
  have t3j : T3.2 = T0.2 := by rw [hT3]; exact t2
  have rt : rTold (S1.1 240) (T3.1 0 39) (T3.1 17) := by
    rw [hT3, swp_ne (by omega) (by omega), swp_ne (by omega) (by omega), t139]
    refine Or.inr ⟨by decide, ?_, ?_, ?_, ?_⟩
    · rw [s17, hT1, zI_ne (by omega), zI_at, if_neg (by omega), zI_at, if_neg (by omega), zI_at, if_neg (by omega), zI_at, if_pos ⟨rfl, rfl⟩]
    · rw [s18, hT1, zI_ne (by omega), zI_at, if_neg (by omega), zI_at, if_neg (by omega), zI_at, if_pos ⟨rfl, rfl⟩]
    · rw [s19, hT1, zI_ne (by omega), zI_at, if_neg (by omega), zI_at, if_pos ⟨rfl, rfl⟩]
    · rw [s10, hT1, zI_ne (by omega), zI_at, if_pos ⟨rfl, rfl⟩]
  have sS : ∀ c, (c < 29 ∨ 44 ≤ c) → c ≠ 240 → S1.1 c = S0.1 c := fun c h1 h2 => by rw [s1n c h2, a7 c h1 h2]
  have sJ : S1.2 = S0.2 := by rw [hS1]; exact a6
  have r3 : Rel S1 T3 := by
    obtain ⟨q1, q2, q3, q4, q5, q6, q7, q8, q9, q10⟩ := id r0
    refine Rel_side2 r0 (fun c hc => sS c (by omega) (by omega)) (fun c _ => by rw [sJ]) ⟨t32, t3n 4 (by omega) (by omega) (by omega) (by omega), t3n 5 (by omega) (by omega) (by omega) (by omega), t3n 10 (by omega) (by omega) (by omega) (by omega)⟩ ⟨by rw [t3j], by rw [t3j]⟩ (t30 24 (by omega)) ?_ ?_ ?_ ?_ rt
    · rw [sS 1 (by omega) (by omega), sS 2 (by omega) (by omega), t30 2 (by omega), t3n 1 (by omega) (by omega) (by omega) (by omega)]; exact q1
    · rw [sS 0 (by omega) (by omega), t30 10 (by omega), t30 25 (by omega), t30 26 (by omega)]; exact q6
    · rw [sS 256 (by omega) (by omega), sS 260 (by omega) (by omega), t30 29 (by omega), t3n 13 (by omega) (by omega) (by omega) (by omega)]; exact q7
    · rw [sS 255 (by omega) (by omega), t30 31 (by omega), t3n 14 (by omega) (by omega) (by omega) (by omega)]; exact q8
  have fin : ∀ t T9, fX12_stay T1 t = some T9 → fX12_book_160 T1 (nI k) z t = some (if z = 0 then -1 else nI k, T9) := fun t T9 e => by
    unfold fX12_book_160
    rw [e, zBd_s]
    by_cases q : z = 0
    · rw [zBr_p q, if_pos q]
    · rw [zBr_q q, if_neg q]
  have no : fX12_book_159 T1 (nI k) z = some (if z = 0 then -1 else nI k, T3) := by
    unfold fX12_book_159
    exact fin 0 T3 (m_stay (by rw [zBr_p rfl, hT3]))
  rw [m1]
  unfold bTail
  rcases hv with rfl | rfl
  · refine ⟨if z = 0 then -1 else nI k, S1, S1, T3, c1, ?_, ?_, r3⟩
    · rw [zBr_q (by decide), no]
    · rw [zBr_q (by decide), c_99 s17 s18]
  · rw [zBr_p (show (1 : Int32) = 1 from rfl)]
    by_cases k0 : k = 0
    · subst k0
      refine ⟨if z = 0 then -1 else nI 0, S1, S1, T3, c1, ?_, ?_, r3⟩
      · rw [zBr_p (show nI 0 ≤ 0 by decide), no]
      · rw [zBr_p (show (1 : Int32) = 1 from rfl), s18, zBr_p (show nI 0 ≤ 0 by decide), c_99 s17 s18]
    · obtain ⟨S4, T4, e1, e2, r4, e3⟩ := Rel_keep r3
      have f4 : T4.2 = T3.2 ∧ (∀ c, c ≠ 0 → c ≠ 5 → T4.1 c = T3.1 c) ∧ (∀ x, x ≠ 24 → T4.1 0 x = T3.1 0 x) := by
        obtain ⟨-, -, ⟨nx, kp, g1, g2, g3, g4, g5, g6⟩, -⟩ := id r3
        obtain ⟨T', j, g, b1, b2, b3, b4, -⟩ := m_snap g5 g2
        rw [e2] at b1
        cases Option.some.inj b1
        exact ⟨b2, b3, b4⟩
      have f5 : ∀ c, 29 ≤ c → c < 44 ∨ c = 240 → S4.1 c = S1.1 c := by
        obtain ⟨-, ⟨q1, q2, q3, q4, -⟩, ⟨nx, kp, g1, g2, g3, g4, g5, g6⟩, -⟩ := id r3
        obtain ⟨S', b1, b2, b3, -⟩ := c_keep q3 q2.2.1.2 q4 g3 g1 g4 g2
        rw [e1] at b1
        cases Option.some.inj b1
        exact fun c h1 h2 => b3 c (by omega) (by omega)
      obtain ⟨S5, u1, u2, u3, u4⟩ := c_copyRl (S := S4) (a := 14) (b := 29) (m := T.1 2) (by omega) (Rl_cong p6 (fun a h1 h2 => by rw [f5 a h1 (by omega), s1n a (by omega)]) a3) p6 a4
      have row : zSeg (T4.1 6) (T4.1 2) 24 140 = T.1 2 := by
        funext x
        by_cases q : 24 ≤ x ∧ x < 24 + 140
        · rw [zSeg_in q.1 q.2, f4.2.1 6 (by omega) (by omega), t36 (x - 24) (by omega), show 24 + (x - 24) = x by omega]
        · rw [zSeg_out (by omega), e3, t32, a11 x (by omega)]
      refine ⟨if z = 0 then -1 else nI k, S1, S5, zPut T4 2 (T.1 2), c1, ?_, ?_, ?_⟩
      · rw [zBr_q (zPos (by omega) (by omega))]
        exact fin 1 _ (m_stay (by rw [zBr_q (by decide), ← hT3, e2, zBd_s, m_takeBack, row, zBd_s]))
      · rw [zBr_p (show (1 : Int32) = 1 from rfl), s18, zBr_q (zPos (by omega) (by omega)), e1, zBd_s, u1, zBd_s]
        exact c_99 (by rw [u3 240 (by omega), f5 240 (by omega) (by omega), s17]) (by rw [u3 240 (by omega), f5 240 (by omega) (by omega), s18])
      · refine Rel_life r4 u2 (fun c hc => u3 c (by omega)) rfl (fun c h1 _ => zPut_ne h1) (fun j _ _ => by rw [zPut_ne (by omega)]) (fun x hx => ?_) ?_ ?_
        · rw [zPut_eq, e3, t32, a11 x hx]
        · rw [zPut_eq]; exact u4
        · rw [zPut_eq]; exact a4
end BookEnd
