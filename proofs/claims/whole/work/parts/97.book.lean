/-! book: the call -/
section BookCall
variable {S0 T0 S T : zSt}
theorem J_loop (r0 : Rel S0 T0) (h6 : ∀ i, i < 140 → T0.1 6 i = T0.1 2 (24 + i)) (h : JC S0 T0 S T) {v : Int32} (hv : v = 0 ∨ v = 1) {N : Nat} (hN : N ≤ 40) (c6 : S0.1 240 6 = nI N) (m38 : T0.1 0 38 = nI N) (hb : ∀ k, k < N → BL (T0.1 2) S0 T0 k) : ∃ w S1 S2 T2, fX0_judge S 29 = some S1 ∧ zLp (fX12_book_73 v) 2000 (T, 0, 0) = some (w, T2) ∧ bTail v S1 = some (w, S2) ∧ Rel S2 T2 := by
  have key := zLp_two (f := fX0_judge_12 29) (g := fX12_book_73 v) (fun i s t => i ≤ N ∧ ∃ S T z k, s = (S, nI i) ∧ t = (T, nI k, z) ∧ JC S0 T0 S T ∧ S.1 240 7 = z ∧ S.1 240 8 = nI k ∧ ((z = 0 ∧ k = i) ∨ (¬ z = 0 ∧ k < N))) (fun x y => ∃ w S2 T2, y = (w, T2) ∧ bTail v x = some (w, S2) ∧ Rel S2 T2) N (fun i s t hi hI => ?_) 2000 2000 0 (zI (zI S 240 7 0) 240 8 0, 0) (T, 0, 0) (by omega) (by omega) (by omega) ⟨by omega, zI (zI S 240 7 0) 240 8 0, T, 0, 0, rfl, rfl, JC_240 (JC_240 h (Or.inl rfl) 0) (Or.inr rfl) 0, by rw [zI_at, if_neg (by omega), zI_at, if_pos ⟨rfl, rfl⟩], by rw [zI_at, if_pos ⟨rfl, rfl⟩]; rfl, Or.inl ⟨rfl, rfl⟩⟩
  · obtain ⟨S1, y, e1, e2, w, S2, T2, rfl, e3, e4⟩ := key
    refine ⟨w, S1, S2, T2, ?_, e2, e3, e4⟩
    unfold fX0_judge
    rw [zLt_s, zLt_s, e1]
  · obtain ⟨iN, S, T, z, k, rfl, rfl, hj, h7, h8, hz⟩ := hI
    have k40 : k ≤ 40 := by rcases hz with ⟨-, q⟩ | ⟨-, q⟩ <;> omega
    obtain ⟨w, S1, S2, T2, f1, f2, f3, f4⟩ := J_fin r0 h6 hj hv k40 h7 h8
    have s6 : S.1 240 6 = nI N := by rw [hj.2.1.2.2 6 (by omega) (by omega), c6]
    have t38 : T.1 0 38 = nI N := by rw [hj.2.2.2.1 0 (by omega), m38]
    have out : ∃ b c, (zXr (fX0_judge_60 S 29) : Option ((zSt × Int32) ⊕ zSt)) = some (.inr b) ∧ (zXr (fX12_book_103 T v (nI k) z) : Option ((zSt × Int32 × Int32) ⊕ (Int32 × zSt))) = some (.inr c) ∧ ∃ w S2 T2, c = (w, T2) ∧ bTail v b = some (w, S2) ∧ Rel S2 T2 := ⟨S1, (w, T2), by rw [f1, zXr_s], by rw [f2, zXr_s], w, S2, T2, rfl, f3, f4⟩
    unfold fX0_judge_12 fX12_book_73 fX0_judge_54
    dsimp only
    rw [s6, t38, h7]
    by_cases z0 : z = 0
    · have ki : k = i := by rcases hz with ⟨-, q⟩ | ⟨q, -⟩; exact q; exact absurd z0 q
      subst ki
      rw [zBr_p z0, zBr_p z0]
      by_cases q : k = N
      · rw [q, zle_t (Nat.le_refl N) (by omega), zle_t (Nat.le_refl N) (by omega), ← q]
        exact Or.inr out
      · rw [zle_f (show k < N by omega) (by omega), zle_f (show k < N by omega) (by omega)]
        obtain ⟨x, S3, T3, g1, g2, g3, g4⟩ := J_line hj (k := k) (by omega) (hb k (by omega))
        rw [g1, g2, zBp_s, zBp_s, zLt_s, zLt_s, zLt_s]
        have x7 : (zI S3 240 7 x).1 240 7 = x := by rw [zI_at, if_pos ⟨rfl, rfl⟩]
        have x8 : (zI S3 240 7 x).1 240 8 = nI k := by rw [zI_at, if_neg (by omega), g4, h8]
        rw [x7, x8, nI_1]
        by_cases x0 : x = 0
        · rw [zBr_p x0, zBr_p x0, zLt_s]
          refine Or.inl ⟨_, _, rfl, rfl, ⟨by omega, _, _, x, k + 1, rfl, rfl, JC_240 (JC_240 g3 (Or.inl rfl) x) (Or.inr rfl) _, ?_, ?_, Or.inl ⟨x0, rfl⟩⟩, by omega⟩
          · rw [zI_at, if_neg (by omega), x7]
          · rw [zI_at, if_pos ⟨rfl, rfl⟩]
        · rw [zBr_q x0, zBr_q x0, zLt_s]
          exact Or.inl ⟨_, _, rfl, rfl, ⟨by omega, _, _, x, k, rfl, rfl, JC_240 g3 (Or.inl rfl) x, x7, x8, Or.inr ⟨x0, by omega⟩⟩, by omega⟩
    · have kN : k < N := by rcases hz with ⟨q, -⟩ | ⟨-, q⟩; exact absurd q z0; exact q
      rw [zBr_q z0, zBr_q z0, zle_f kN (by omega)]
      by_cases q : i = N
      · rw [q, zle_t (Nat.le_refl N) (by omega)]
        exact Or.inr out
      · rw [zle_f (show i < N by omega) (by omega)]
        exact Or.inr out
/-- the lines read -/
theorem two_blines {b : Nat → Nat} {L : Nat} (hw : WFh (T0.1 2)) (hn0 : rNm S0.1 S0.2 4 (T0.2 7) (T0.1 2)) {f : Nat → Int32} (h : PI (bQ S0 T0 0 0 f) b L 400 0 S T) (v : Int32) {P : zSt → Int32 × zSt → Prop} (hP : ∀ n f S' T', n ≤ 40 → PI (bQ S0 T0 n n f) b L 400 n S' T' → ∃ y, zBd (fX12_layAside T') (fun S11 => zLp (fX12_book_73 v) 2000 (S11, (0 : Int32), (0 : Int32))) = some y ∧ P S' y) : ∃ x y, zLp fX0_readAll_17 2000 (S, 0) = some x ∧ zLp (fX12_book_30 v) 2000 T = some y ∧ ((∃ S', x = (1, S') ∧ P S' y) ∨ ∃ S' T', x = (0, S') ∧ y = ((-2 : Int32) - T'.1 0 11, T') ∧ FI (bFr S0 T0) S' T') := by
  refine zLp_two (f := fX0_readAll_17) (g := fX12_book_30 v) (fun i s t => i ≤ 40 ∧ ∃ S T f, s = (S, nI i) ∧ t = T ∧ PI (bQ S0 T0 i i f) b L 400 i S T) (fun x y => (∃ S', x = (1, S') ∧ P S' y) ∨ ∃ S' T', x = (0, S') ∧ y = ((-2 : Int32) - T'.1 0 11, T') ∧ FI (bFr S0 T0) S' T') 40 (fun i s t hi hI => ?_) 2000 2000 0 (S, 0) T (by omega) (by omega) (by omega) ⟨by omega, S, T, f, rfl, rfl, h⟩
  obtain ⟨i40, S, T, f, rfl, eT, hp⟩ := hI
  rw [eT]
  obtain ⟨-, -, -, st, to, ht, -⟩ := id hp
  unfold fX0_readAll_17 fX12_book_30
  dsimp only
  rw [show (40 : Int32) = nI 40 from rfl, zlt_f i40 (by omega)]
  by_cases e : S.1 1 5 = 102
  · obtain ⟨y, y1, y2⟩ := hP i f S T i40 hp
    rw [zBr_p e, zBr_p ((tk_stop ht).mpr e), y1, zXr_s, zXr_s]
    exact Or.inr ⟨_, _, rfl, rfl, Or.inl ⟨S, rfl, y2⟩⟩
  · rw [zBr_q e, zBr_q (fun z => e ((tk_stop ht).mp z))]
    rcases b_line hw hn0 hp i40 e with ⟨S1, S2, T2, g, e1, e2, e3, e4, h2⟩ | ⟨S1, T1, e1, e2, h2⟩
    · have m38 : T2.1 0 38 = nI i := h2.1.2.2.1
      rw [e1, e3, zBp_s, zBp_s, zBr_q (show ¬ (1 : Int32) = 0 by decide), zBr_q (show ¬ (1 : Int32) = 0 by decide), e2, zBp_s, zBr_q (show ¬ (1 : Int32) = 0 by decide), zLt_s, zLt_s, m38, nI_1]
      refine Or.inl ⟨_, _, rfl, rfl, ⟨by omega, S2, _, fun x => T2.1 16 (4 * (i + 1) + x), rfl, rfl, ?_⟩, by omega⟩
      obtain ⟨a1, a2, a3, a4, a5⟩ := h2.1
      refine PI_upd h2 rfl rfl rfl rfl (fun j _ _ => by rw [zI_at, if_neg (by omega)]) rfl (zI_ne (by omega)) ⟨⟨a1.1, a1.2.1, a1.2.2.1, fun c c0 c16 => by rw [zI_ne c0]; exact a1.2.2.2.1 c c0 c16, a1.2.2.2.2.1, fun j hj j38 => by rw [zI_at, if_neg (by omega)]; exact a1.2.2.2.2.2 j hj j38⟩, a2, by rw [zI_at, if_pos ⟨rfl, rfl⟩], fun k hk => ?_, fun x hx => by rw [zI_ne (by omega)]⟩
      have := a4 k hk
      unfold BL at this ⊢
      rw [zI_ne (by omega)]
      exact this
    · rw [e2, zBp_s, zBr_p rfl, zXr_s]
      rcases e1 with e1 | ⟨S2, e1, e3⟩
      · rw [e1, zBp_s, zBr_p rfl, zXr_s]
        exact Or.inr ⟨_, _, rfl, rfl, Or.inr ⟨S1, T1, rfl, rfl, h2⟩⟩
      · rw [e1, zBp_s, zBr_q (show ¬ (1 : Int32) = 0 by decide), e3, zBp_s, zBr_p rfl, zXr_s]
        exact Or.inr ⟨_, _, rfl, rfl, Or.inr ⟨S1, T1, rfl, rfl, h2⟩⟩
theorem op_book (r : Rel S T) (v : Int32) : ∃ z S' T', fX11_book S v = some (z, S') ∧ fX12_book T v = some (z, T') ∧ Rel S' T' := by
  have rt := Rel_thrown r 0
  have hin : (v = 0 ∨ v = 1) ∨ (¬ v = 0 ∧ ¬ v = 1 ∧ fX12_isIn v 0 1 = some 0) := by
    unfold fX12_isIn
    rcases zCase v 2 (by omega) with h | ⟨h, h'⟩ | ⟨n, hn, rfl⟩
    · exact Or.inr ⟨fun q => by rw [q] at h; exact absurd h (by decide), fun q => by rw [q] at h; exact absurd h (by decide), by rw [zBr_p h]⟩
    · have h4 : 1 < v := Int32.lt_of_lt_of_le (show (1 : Int32) < nI 2 by decide) h'
      exact Or.inr ⟨fun q => by rw [q] at h4; exact absurd h4 (by decide), fun q => by rw [q] at h4; exact absurd h4 (by decide), by rw [zBr_q (fun q => by rw [Int32.lt_iff_toInt_lt] at q h4; have a : (0 : Int32).toInt = 0 := rfl; have b : (1 : Int32).toInt = 1 := rfl; omega), zBr_p h4]⟩
    · left
      rcases (show n = 0 ∨ n = 1 by omega) with rfl | rfl
      · exact Or.inl rfl
      · exact Or.inr rfl
  unfold fX12_book
  rw [zLt_s]
  rcases hin.symm with ⟨h1, h2, h3⟩ | hv
  · unfold fX11_book
    rw [h3, zBd_s, zBr_p rfl, zBr_q h1, zBr_q h2]
    exact ⟨-1000, S, zI T 0 0 0, rfl, rfl, rt⟩
  have hi : fX12_isIn v 0 1 = some 1 := by rcases hv with rfl | rfl <;> rfl
  have hc : fX11_book S v = fX11_book_13 S v := by
    unfold fX11_book
    rcases hv with rfl | rfl
    · rw [zBr_p rfl]
    · rw [zBr_q (by decide), zBr_p rfl]
  rw [hc, hi, zBd_s, zBr_q (show ¬ (1 : Int32) = 0 by decide)]
  obtain ⟨-, ⟨hh, hw, hl, hv', hnm, -⟩, -⟩ := id r
  have h6 := hw.2.1.2
  obtain ⟨T0, hT0⟩ : ∃ X, X = zI (zI T 0 0 0) 0 2 0 := ⟨_, rfl⟩
  have T02 : T0.1 2 = T.1 2 := by rw [hT0, zI_ne (by omega), zI_ne (by omega)]
  have bg := two_begin (Q := fun S' T' => (∀ c, c ≠ 1 → S'.1 c = S.1 c ∧ S'.2 c = S.2 c) ∧ (∀ c, c ≠ 0 → T'.1 c = (zI T 0 0 0).1 c ∧ T'.2 c = T.2 c) ∧ T'.1 0 0 = 0 ∧ T'.1 0 2 = 0 ∧ ∀ j, (j = 1 ∨ 14 ≤ j) → T'.1 0 j = (zI T 0 0 0).1 0 j) rt (X := S) (fun c _ _ _ _ _ _ => rfl) rfl (M := 400) (by omega) (fun S' T' h1 h2 h3 h4 h5 => ⟨h1, h2, h3, h4, h5⟩)
  obtain ⟨S1, T1, b, L, b1, b2, hp⟩ := bg
  obtain ⟨⟨q1, q2, q3, q4, q5⟩, -⟩ := id hp
  have hp2 : PI (bQ S T0 0 0 (T1.1 16)) b L 400 0 (zI S1 240 6 0) (zI T1 0 38 0) := by
    refine PI_upd hp (zI_ne (by omega)) rfl (zI_ne (by omega)) rfl (fun j _ _ => by rw [zI_at, if_neg (by omega)]) rfl (zI_ne (by omega)) ⟨⟨fun c c1 c2 => by rw [zI_ne (by omega)]; exact (q1 c c1).1, fun c c1 => (q1 c c1).2, fun j hj => by rw [zI_at, if_neg (by omega)]; exact congrFun (q1 240 (by omega)).1 j, fun c c0 c16 => ?_, fun c c0 => ?_, fun j hj j38 => ?_⟩, by rw [zI_at, if_pos ⟨rfl, rfl⟩]; rfl, by rw [zI_at, if_pos ⟨rfl, rfl⟩]; rfl, fun k hk => by omega, fun x hx => by rw [zI_ne (by omega), Nat.mul_zero, Nat.zero_add]⟩
    · rw [zI_ne c0, (q2 c c0).1, hT0, zI_ne c0, zI_ne c0, zI_ne c0]
    · rw [hT0]; exact (q2 c c0).2
    · rw [zI_at, if_neg (by omega), hT0]
      rcases (show j = 0 ∨ j = 2 ∨ (j = 1 ∨ 14 ≤ j) by omega) with rfl | rfl | hj'
      · rw [q3, zI_at, if_neg (by omega), zI_at, if_pos ⟨rfl, rfl⟩]
      · rw [q4, zI_at, if_pos ⟨rfl, rfl⟩]
      · rw [q5 j hj', zI_at (S := zI T 0 0 0), if_neg (by omega)]
  have key := two_blines (S0 := S) (T0 := T0) (P := fun S' y => ∃ w S9 T9, y = (w, T9) ∧ (zBd (fX11_endReading S') (fun S6 => zBd (fX6_copyFrom S6 29 14) (fun S9 => zBd (fX0_judge S9 29) (fun S11 => bTail v S11)))) = some (w, S9) ∧ Rel S9 T9) (by rw [T02]; exact hw) (by rw [T02, hT0]; exact hnm) hp2 v (fun n f S' T' hn hp3 => ?_)
  · obtain ⟨x, y, l1, l2, hxy⟩ := key
    have cA : fX0_readAll S = some x := by
      unfold fX0_readAll
      rw [show (400 : Int32) = nI 400 from rfl, b1, zBd_s, zLt_s, l1]
    rw [show (400 : Int32) = nI 400 from rfl, b2, zBd_s, zLt_s, l2]
    unfold fX11_book_13
    rw [cA, zBp_s]
    rcases hxy with ⟨S', rfl, w, S9, T9, rfl, e1, e2⟩ | ⟨S2, T3, rfl, rfl, fr, f1, pl, f2, f3, f4⟩
    · refine ⟨w, S9, T9, ?_, rfl, e2⟩
      rw [← e1]
      exact congrArg _ (funext fun S6 => by rw [zBr_q (show ¬ (1 : Int32) = 0 by decide)]; rfl)
    · obtain ⟨S5, hS5⟩ : ∃ X, X = zI (zI S2 0 14 (S2.1 1 9)) 1 1 0 := ⟨_, rfl⟩
      have er : fX11_endReading S2 = some S5 := by
        unfold fX11_endReading fX9_clear
        rw [zLt_s, zLt_s, zBd_s, hS5]
      have n5 : ∀ c, c ≠ 0 → c ≠ 1 → S5.1 c = S2.1 c := fun c h1 h2 => by rw [hS5, zI_ne h2, zI_ne h1]
      have s110 : S5.1 1 10 = nI pl := by rw [hS5, zI_at, if_neg (by omega), zI_ne (by omega), f3]
      rw [er, zBd_s, zBr_p rfl, s110, f4]
      refine ⟨_, _, _, rfl, rfl, ?_⟩
      have to : ∀ c, c ≠ 0 → c ≠ 16 → T3.1 c = T.1 c := fun c h1 h3 => by rw [fr.2.2.2.1 c h1 h3, hT0, zI_ne h1, zI_ne h1]
      have tz : ∀ j, 14 ≤ j → j ≠ 38 → T3.1 0 j = T.1 0 j := fun j h1 h2 => by rw [fr.2.2.2.2.2 j (by omega) h2, hT0, zI_at, if_neg (by omega), zI_at, if_neg (by omega)]
      obtain ⟨-, -, -, -, -, r6, -, -, r9, -⟩ := id r
      refine Rel_fault r (fun c h0 h1 h2 => ⟨by rw [n5 c h0 h1]; exact fr.1 c h1 (by omega), by rw [hS5]; exact fr.2.1 c h1⟩) ?_ (fun c hc => to c (by omega) (by omega)) ⟨by rw [fr.2.2.2.2.1 7 (by omega), hT0]; rfl, by rw [fr.2.2.2.2.1 9 (by omega), hT0]; rfl⟩ (fun j hj => tz j (by omega) (by omega)) (by rw [hS5]; exact fr.2.1 3 (by omega)) (by rw [hS5, zI_at, if_pos ⟨rfl, rfl⟩]) (by rw [fr.2.2.2.2.2 2 (by omega) (by omega), hT0, zI_at, if_pos ⟨rfl, rfl⟩]) (by rw [hS5, zI_ne (by omega), zI_at, if_pos ⟨rfl, rfl⟩]; exact f1) ?_ ?_
      · rw [n5 240 (by omega) (by omega), tz 39 (by omega) (by omega), to 17 (by omega) (by omega)]
        unfold rTold at r9 ⊢
        rw [fr.2.2.1 7 (by omega), fr.2.2.1 8 (by omega), fr.2.2.1 9 (by omega), fr.2.2.1 10 (by omega)]; exact r9
      · rw [hS5, zI_ne (by omega), zI_at, if_neg (by omega), fr.1 0 (by omega) (by omega)]
      · rw [hS5, zI_ne (by omega), zI_at, if_neg (by omega), fr.1 0 (by omega) (by omega)]
  · obtain ⟨⟨fr, c6, m38, hb, -⟩, -, ⟨ff1, ff2⟩, -⟩ := id hp3
    obtain ⟨S5, hS5⟩ : ∃ X, X = zI (zI S' 0 14 0) 1 1 0 := ⟨_, rfl⟩
    have er : fX11_endReading S' = some S5 := by
      unfold fX11_endReading fX9_clear
      rw [ff1, zLt_s, zLt_s, zBd_s, hS5]
    have n5 : ∀ c, c ≠ 0 → c ≠ 1 → S5.1 c = S'.1 c := fun c h1 h2 => by rw [hS5, zI_ne h2, zI_ne h1]
    have s5 : ∀ c, c ≠ 0 → c ≠ 1 → (c < 240 ∨ 245 ≤ c) → S5.1 c = S.1 c := fun c h1 h2 h3 => by rw [n5 c h1 h2, fr.1 c h2 h3]
    obtain ⟨S6, u1, u2, u3, u4⟩ := c_copyRl (S := S5) (a := 29) (b := 14) (m := T.1 2) (by omega) (Rl_cong h6 (fun a h1 h2 => s5 a (by omega) (by omega) (by omega)) hl) h6 hv'
    have to : ∀ c, c ≠ 0 → c ≠ 16 → T'.1 c = T.1 c := fun c h1 h3 => by rw [fr.2.2.2.1 c h1 h3, hT0, zI_ne h1, zI_ne h1]
    have tz : ∀ j, 14 ≤ j → j ≠ 38 → T'.1 0 j = T.1 0 j := fun j h1 h2 => by rw [fr.2.2.2.2.2 j (by omega) h2, hT0, zI_at, if_neg (by omega), zI_at, if_neg (by omega)]
    obtain ⟨T9, hT9⟩ : ∃ X, X = zPut T' 6 (zSeg (fun i => T'.1 2 (24 + i)) (T'.1 6) 0 140) := ⟨_, rfl⟩
    have t9n : ∀ c, c ≠ 6 → T9.1 c = T'.1 c := fun c hc => by rw [hT9, zPut_ne hc]
    have s6 : ∀ c, (c < 29 ∨ 44 ≤ c) → S6.1 c = S5.1 c := fun c hc => u3 c (by omega)
    have r5 : Rel S5 T9 := by
      obtain ⟨-, -, -, -, -, r6, -, -, r9, -⟩ := id r
      refine Rel_fault r (fun c h0 h1 h2 => ⟨s5 c h0 h1 (by omega), by rw [hS5]; exact fr.2.1 c h1⟩) ?_ (fun c hc => by rw [t9n c (by omega)]; exact to c (by omega) (by omega)) ⟨?_, ?_⟩ (fun j hj => by rw [t9n 0 (by omega)]; exact tz j (by omega) (by omega)) ?_ ?_ ?_ ?_ ?_ ?_
      · rw [n5 240 (by omega) (by omega), t9n 0 (by omega), t9n 17 (by omega), tz 39 (by omega) (by omega), to 17 (by omega) (by omega)]
        unfold rTold at r9 ⊢
        rw [fr.2.2.1 7 (by omega), fr.2.2.1 8 (by omega), fr.2.2.1 9 (by omega), fr.2.2.1 10 (by omega)]; exact r9
      · rw [hT9]; show T'.2 7 = _; rw [fr.2.2.2.2.1 7 (by omega), hT0]; rfl
      · rw [hT9]; show T'.2 9 = _; rw [fr.2.2.2.2.1 9 (by omega), hT0]; rfl
      · rw [hS5]; exact fr.2.1 3 (by omega)
      · rw [hS5, zI_at, if_pos ⟨rfl, rfl⟩]
      · rw [t9n 0 (by omega), fr.2.2.2.2.2 2 (by omega) (by omega), hT0, zI_at, if_pos ⟨rfl, rfl⟩]
      · rw [hS5, zI_ne (by omega), zI_at, if_pos ⟨rfl, rfl⟩, t9n 0 (by omega), ff2]
      · rw [hS5, zI_ne (by omega), zI_at, if_neg (by omega), fr.1 0 (by omega) (by omega)]
      · rw [hS5, zI_ne (by omega), zI_at, if_neg (by omega), fr.1 0 (by omega) (by omega)]
    have r6 : Rel S6 T9 := by
      obtain ⟨q1, -, -, -, -, q6, q7, q8, q9, -⟩ := id r5
      refine Rel_side2 r5 (fun c hc => s6 c (by omega)) (fun c _ => by rw [u2]) ⟨rfl, rfl, rfl, rfl⟩ ⟨rfl, rfl⟩ rfl ?_ ?_ ?_ ?_ ?_
      · rw [s6 1 (by omega), s6 2 (by omega)]; exact q1
      · rw [s6 0 (by omega)]; exact q6
      · rw [s6 256 (by omega), s6 260 (by omega)]; exact q7
      · rw [s6 255 (by omega)]; exact q8
      · rw [s6 240 (by omega)]; exact q9
    have t92 : T9.1 2 = T.1 2 := by rw [t9n 2 (by omega), to 2 (by omega) (by omega)]
    obtain ⟨w, X1, X2, Y2, j1, j2, j3, j4⟩ := J_loop (S0 := S6) (T0 := T9) (S := S6) (T := T9) r6 (fun i hi => by rw [hT9, zPut_eq, zSeg_in (by omega) (by omega), Nat.sub_zero, zPut_ne (by omega)]) ⟨⟨by rw [t92]; exact Rh_cong (fun a h1 h2 => by rw [s6 a (by omega), s5 a (by omega) (by omega) (by omega)]) hh, by rw [t92]; exact hw, by rw [t92]; exact u4, by rw [t92]; exact hv'⟩, ⟨rfl, fun _ _ _ => rfl, fun _ _ _ => rfl⟩, rfl, fun _ _ => rfl, fun _ _ => rfl⟩ hv hn (by rw [s6 240 (by omega), n5 240 (by omega) (by omega), c6]) (by rw [t9n 0 (by omega), m38]) (fun k hk => by
      have := hb k hk
      rw [t92]
      rw [T02] at this
      unfold BL at this ⊢
      rw [s6 241 (by omega), s6 242 (by omega), s6 243 (by omega), s6 244 (by omega), n5 241 (by omega) (by omega), n5 242 (by omega) (by omega), n5 243 (by omega) (by omega), n5 244 (by omega) (by omega), t9n 16 (by omega)]
      exact this)
    refine ⟨(w, Y2), by rw [m_aside, zBd_s, ← hT9, j2], w, X2, Y2, rfl, ?_, j4⟩
    rw [er, zBd_s, u1, zBd_s, j1, zBd_s, j3]
end BookCall
