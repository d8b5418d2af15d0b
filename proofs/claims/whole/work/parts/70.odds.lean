/-! drawn, odds -/
section Odds
variable {S T : zSt}
theorem Rel_261 (r : Rel S T) (g : Nat → Int32) : Rel (zPut S 261 g) T := by
  obtain ⟨r1, -, -, -, -, r6, r7, r8, r9, -⟩ := id r
  refine Rel_side r (fun c hc => zPut_ne (by omega)) (fun c hc => rfl) ⟨rfl, rfl, rfl, rfl⟩ ⟨rfl, rfl⟩ rfl ?_ ?_ ?_ ?_ ?_
  · rw [zPut_ne (by omega), zPut_ne (by omega)]; exact r1
  · rw [zPut_ne (by omega)]; exact r6
  · rw [zPut_ne (by omega), zPut_ne (by omega)]; exact r7
  · rw [zPut_ne (by omega)]; exact r8
  · rw [zPut_ne (by omega)]; exact r9
theorem two_live {b : Nat} (hz : b = 14 ∨ b = 29) (hh : Rh S.1 4 (T.1 2)) (hw : WFh (T.1 2)) (hl : Rl S.1 b (T.1 2)) (hv : WFl (T.1 2)) {w : Nat} (hw6 : w ≤ 60) (x : Int32) : ∃ n S' T', fX1_liveDays S b (nI w) x = some (nI n, S') ∧ fX12_drawDays T (nI w) x = some (nI n, T') ∧ LR b S T S' T' := by
  obtain ⟨d, hd4, hd⟩ := hv.1
  have h6 := hw.2.1.2
  have t2 : (zI T 0 35 x).1 2 = T.1 2 := zI_ne (by omega)
  have h0 : LR b S T (zI S 261 0 x) (zI T 0 35 x) := by
    refine ⟨?_, by rw [zI_at, if_pos ⟨rfl, rfl⟩, zI_at, if_pos ⟨rfl, rfl⟩], ⟨rfl, fun c hc h1 => zI_ne h1⟩, rfl, fun c h1 h2 => zI_ne h1, fun j hj => by rw [zI_at, if_neg (by omega)], fun k hk => by rw [t2]⟩
    rw [t2]
    exact ⟨Rh_cong (fun a h1 h2 => zI_ne (by omega)) hh, hw, Rl_cong h6 (fun a h1 h2 => zI_ne (by omega)) hl, hv⟩
  obtain ⟨S', T', e1, e2, hL⟩ := two_days hz h0 h0.2.1 (d := d) (x := min w (400 - d)) (by rw [t2]; exact hd) (by omega)
  refine ⟨min w (400 - d), S', T', ?_, ?_, hL⟩
  · unfold fX1_liveDays fX6_daysLeft
    rw [zLt_s, zBd_s, zI_ne (by omega), hl.1, hd, show (400 : Int32) = nI 400 from rfl, pk_sub (by omega), zmin (by omega) (by omega), zLt_s, Nat.min_comm, e1]
  · unfold fX12_drawDays
    rw [zLt_s, zg_24_406, zGd_t, zt_24, t2, hd, show (400 : Int32) = nI 400 from rfl, pk_sub (by omega), m_least (by omega) (by omega), zBd_s, e2]
theorem op_drawn (r : Rel S T) (v x : Int32) : ∃ z S' T', fX11_drawn S v x = some (z, S') ∧ fX12_drawn T v x = some (z, T') ∧ Rel S' T' := by
  have rt := Rel_thrown r 0
  obtain ⟨-, ⟨-, hw, hl, hv, -⟩, -⟩ := id r
  have h6 := hw.2.1.2
  obtain ⟨d, hd4, hd⟩ := hv.1
  unfold fX11_drawn fX12_drawn fX12_isIn fX6_daysLeft
  rw [zLt_s (a := zI T 0 0 0), zTh]
  rcases zCase v 61 (by omega) with h | ⟨h, h'⟩ | ⟨w, hw6, rfl⟩
  · have h2 : v < 1 := Int32.lt_trans h (by decide)
    rw [zBr_p h2, zBr_p h2, zBd_s, zBr_p rfl]
    exact ⟨-1, S, zI T 0 0 0, rfl, rfl, rt⟩
  · have h2 : ¬ v < 1 := fun q => by
      have := Int32.lt_of_le_of_lt h' q
      exact absurd this (by decide)
    have h3 : ¬ v ≤ 60 := fun q => by
      have := Int32.le_trans h' q
      exact absurd this (by decide)
    have h4 : 60 < v := Int32.lt_of_lt_of_le (show (60 : Int32) < nI 61 by decide) h'
    rw [zBr_q h2, zBr_q h2, zBr_q h3, zBr_p h4, zBd_s, zBr_p rfl]
    exact ⟨-1, S, zI T 0 0 0, rfl, rfl, rt⟩
  · by_cases h0 : w = 0
    · subst h0
      rw [zBr_p (show nI 0 < 1 by decide), zBr_p (show nI 0 < 1 by decide), zBd_s, zBr_p rfl]
      exact ⟨-1, S, zI T 0 0 0, rfl, rfl, rt⟩
    · rw [show (1 : Int32) = nI 1 from rfl, show (60 : Int32) = nI 60 from rfl, zlt_f (show 1 ≤ w by omega) (by omega), zlt_f (show 1 ≤ w by omega) (by omega), zle_t (show w ≤ 60 by omega) (by omega), zlt_f (show w ≤ 60 by omega) (by omega), zBd_s, zBd_s, zBr_q (show ¬ nI 1 = 0 by decide), zg_24_406, zGd_t, zt_24, hl.1, hd, show (400 : Int32) = nI 400 from rfl, pk_sub (show d ≤ 400 by omega)]
      by_cases h40 : d = 400
      · subst h40
        rw [zBr_p (show nI (400 - 400) = 0 from rfl), zBr_p rfl]
        exact ⟨0, S, zI T 0 0 0, rfl, rfl, rt⟩
      · rw [zBr_q (show ¬ nI (400 - d) = 0 from fun q => by have := (nI_eq (a := 400 - d) (b := 0) (by omega) (by omega)).mp q; omega), zBr_q (fun q => by have := (nI_eq (a := d) (b := 400) (by omega) (by omega)).mp q; omega)]
        obtain ⟨S1, T1, e1, e2, r1, e3⟩ := Rel_keep rt
        obtain ⟨-, ⟨hh1, hw1, hl1, hv1, -⟩, -⟩ := id r1
        obtain ⟨n, S2, T2, g1, g2, ⟨⟨k1, k2, k3, k4⟩, k5, ⟨k6, k7⟩, k8, k9, k10, k11⟩⟩ := two_live (b := 14) (Or.inl rfl) hh1 hw1 hl1 hv1 (show w ≤ 60 by omega) x
        refine ⟨nI n, S2, T2, ?_, ?_, ?_⟩
        · rw [e1, zBd_s, g1, zBp_s]
        · rw [e2, zBd_s, g2, zBp_s]
        · refine Rel_life (Rel_261 r1 (S2.1 261)) k6 (fun c hc => ?_) k8 (fun c q1 q2 => k9 c q2 q1) (fun j _ q => k10 j q) k11 k3 k4
          by_cases q : c = 261
          · subst q; rw [zPut_eq]
          · rw [zPut_ne q, k7 c (by omega) q]
theorem m_aside : fX12_layAside T = some (zPut T 6 (zSeg (fun i => T.1 2 (24 + i)) (T.1 6) 0 140)) := by
  unfold fX12_layAside
  refine zLp_copy (c := 6) (o := 0) (n := 140) (f := fun i => T.1 2 (24 + i)) (fun i hi => ?_) ?_ (by omega)
  · unfold fX12_layAside_2
    dsimp only
    rw [show (140 : Int32) = nI 140 from rfl, zle_f hi (by omega), zo_24, zIx_nI (by omega) (by omega), zGd_t, zIx_nI (by omega) (by omega), zGd_t, zLt_s, zLt_s, nI_clamp (by omega), nI_clamp (by omega), nI_1, zPut_ne (by omega), Nat.zero_add]
  · unfold fX12_layAside_2
    dsimp only
    rw [zBr_p (show (140 : Int32) ≤ nI 140 by decide), zXr_s]
theorem m_takeBack : fX12_takeBack T = some (zPut T 2 (zSeg (T.1 6) (T.1 2) 24 140)) := by
  unfold fX12_takeBack
  refine zLp_copy (c := 2) (o := 24) (n := 140) (f := T.1 6) (fun i hi => ?_) ?_ (by omega)
  · unfold fX12_takeBack_2
    dsimp only
    rw [show (140 : Int32) = nI 140 from rfl, zle_f hi (by omega), zo_24, zIx_nI (by omega) (by omega), zGd_t, zIx_nI (by omega) (by omega), zGd_t, zLt_s, zLt_s, nI_clamp (by omega), nI_clamp (by omega), nI_1, zPut_ne (by omega)]
  · unfold fX12_takeBack_2
    dsimp only
    rw [zBr_p (show (140 : Int32) ≤ nI 140 by decide), zXr_s]
theorem m_provedOf (hw : WFh (T.1 2)) (hv : WFl (T.1 2)) (x : Int32) : fX12_isProvedOf T x = some (if zBits (aProved (T.1 2)) (kA (T.1 2)) &&& zBits (fun i => decide (T.1 2 (38 + i) = x)) (kA (T.1 2)) = 0 then 0 else 1) := by
  have ha := hv.2.1.2
  unfold fX12_isProvedOf
  rw [zBits_and _ _ (by omega)]
  have hb : ∀ i, i < kA (T.1 2) → fX12_isProvedOf_2 T x (nI i) = some (if (aProved (T.1 2) i && decide (T.1 2 (38 + i) = x)) = true then .inr 1 else .inl (nI (i + 1))) := by
    intro i hi
    unfold fX12_isProvedOf_2 fX12_isProvedOf_36
    dsimp only
    rw [zg_25_406, zGd_t, zt_25, hv.2.1.1, zle_f hi (by omega), zo_38, zIx_nI (by omega) (by omega), zGd_t, nI_clamp (by omega), m_isProved hw hv hi, zBd_s, zLt_s, nI_1]
    by_cases q : T.1 2 (38 + i) = x
    · rw [zBr_p q, decide_eq_true q, Bool.and_true]
      by_cases q2 : aProved (T.1 2) i = true
      · rw [if_pos q2, zBr_q (show ¬ (1 : Int32) = 0 by decide), zXr_s, if_pos q2]
      · rw [if_neg q2, zBr_p (show (0 : Int32) = 0 from rfl), if_neg q2]
    · rw [zBr_q q, decide_eq_false q, Bool.and_false, if_neg (by decide)]
  by_cases hx : ∃ i, i < kA (T.1 2) ∧ (aProved (T.1 2) i && decide (T.1 2 (38 + i) = x)) = true
  · rw [zLp_any1 hb (by omega) hx, if_neg (fun q => ?_)]
    obtain ⟨i, hi, h⟩ := hx
    rw [(zBits_zero _ (by omega)).mp q i hi] at h
    cases h
  · have hx' : ∀ i, i < kA (T.1 2) → (aProved (T.1 2) i && decide (T.1 2 (38 + i) = x)) = false := fun i hi => Bool.not_eq_true _ |>.mp (fun q => hx ⟨i, hi, q⟩)
    rw [zLp_any0 (r0 := (0 : Int32)) hb ?_ (by omega) hx', if_pos ((zBits_zero _ (by omega)).mpr hx')]
    unfold fX12_isProvedOf_2
    dsimp only
    rw [zg_25_406, zGd_t, zt_25, hv.2.1.1, zle_t (Nat.le_refl _) (by omega), zXr_s]
theorem op_odds (r : Rel S T) (v u x : Int32) : ∃ z S' T', fX11_odds S v u x = some (z, S') ∧ fX12_odds T v u x = some (z, T') ∧ Rel S' T' := by
  have rt := Rel_thrown r 0
  obtain ⟨-, ⟨hh, hw, hl, hv, -⟩, -⟩ := id r
  have h6 := hw.2.1.2
  have hE := hw.2.2.1.2
  have hc : fX3_has S 4 2 v = some (aIs (kE (T.1 2)) v) := c_has hh (show 2 < 4 by omega) hw.2.2.1.1 v
  have hm : fX12_isPerson (zI T 0 0 0) v = some (aIs (kE (T.1 2)) v) := by
    rw [m_isPerson (T := zI T 0 0 0) (by rw [zTh]; exact hw), zTh]
  unfold fX11_odds fX12_odds
  rw [zLt_s, hc, hm, zBd_s, zBd_s]
  rcases aIs_cases (kE (T.1 2)) v (by omega) with h | ⟨h, p, hp, rfl⟩
  · rw [h, zBr_p rfl, zBr_p rfl]; exact ⟨_, _, _, rfl, rfl, rt⟩
  rw [h, zBr_q (show ¬ (1 : Int32) = 0 by decide), zBr_q (show ¬ (1 : Int32) = 0 by decide)]
  unfold fX12_isIn
  rcases zCase u 31 (by omega) with h | ⟨h, h'⟩ | ⟨n, hn, rfl⟩
  · have h2 : u < 1 := Int32.lt_trans h (by decide)
    rw [zBr_p h2, zBr_p h2, zBd_s, zBr_p rfl]
    exact ⟨-1, S, zI T 0 0 0, rfl, rfl, rt⟩
  · have h2 : ¬ u < 1 := fun q => by
      have := Int32.lt_of_le_of_lt h' q
      exact absurd this (by decide)
    have h3 : ¬ u ≤ 30 := fun q => by
      have := Int32.le_trans h' q
      exact absurd this (by decide)
    have h4 : 30 < u := Int32.lt_of_lt_of_le (show (30 : Int32) < nI 31 by decide) h'
    rw [zBr_q h2, zBr_q h2, zBr_q h3, zBr_p h4, zBd_s, zBr_p rfl]
    exact ⟨-1, S, zI T 0 0 0, rfl, rfl, rt⟩
  by_cases h0 : n = 0
  · subst h0
    rw [zBr_p (show nI 0 < 1 by decide), zBr_p (show nI 0 < 1 by decide), zBd_s, zBr_p rfl]
    exact ⟨-1, S, zI T 0 0 0, rfl, rfl, rt⟩
  rw [show (1 : Int32) = nI 1 from rfl, show (30 : Int32) = nI 30 from rfl, zlt_f (show 1 ≤ n by omega) (by omega), zlt_f (show 1 ≤ n by omega) (by omega), zle_t (show n ≤ 30 by omega) (by omega), zlt_f (show n ≤ 30 by omega) (by omega), zBd_s, zBr_q (show ¬ nI 1 = 0 by decide), m_aside, zBd_s, zTh]
  obtain ⟨T9, hT9⟩ : ∃ X, X = zPut (zI T 0 0 0) 6 (zSeg (fun i => T.1 2 (24 + i)) ((zI T 0 0 0).1 6) 0 140) := ⟨_, rfl⟩
  rw [← hT9]
  have n2 : T9.1 2 = T.1 2 := by rw [hT9, zPut_ne (by omega), zTh]
  have n6 : ∀ i, i < 140 → T9.1 6 i = T.1 2 (24 + i) := fun i hi => by rw [hT9, zPut_eq, zSeg_in (by omega) (by omega), Nat.sub_zero]
  obtain ⟨b1, b2, e1, e2, z, S', T', rfl, rfl, ⟨f1, f2⟩, f3, f4, f5⟩ := zLp_two (f := fX11_odds_31 (nI p) (nI n) x) (g := fX12_odds_35 (nI p) (nI n) x) (fun i s t => ∃ S' T' c, s = (S', c, nI i) ∧ t = (T', c, nI i) ∧ (S'.2 = S.2 ∧ ∀ c, (c < 29 ∨ 44 ≤ c) → c ≠ 261 → S'.1 c = S.1 c) ∧ T'.2 = T9.2 ∧ (∀ c, c ≠ 0 → T'.1 c = T9.1 c) ∧ ∀ j, j ≠ 35 → T'.1 0 j = T9.1 0 j) (fun b1 b2 => ∃ c S' T', b1 = (c, S') ∧ b2 = (c, T') ∧ (S'.2 = S.2 ∧ ∀ c, (c < 29 ∨ 44 ≤ c) → c ≠ 261 → S'.1 c = S.1 c) ∧ T'.2 = T9.2 ∧ (∀ c, c ≠ 0 → T'.1 c = T9.1 c) ∧ ∀ j, j ≠ 35 → T'.1 0 j = T9.1 0 j) n (fun i s t hi hI => by
    obtain ⟨S1, T1, c, rfl, rfl, ⟨f1, f2⟩, f3, f4, f5⟩ := hI
    unfold fX11_odds_31 fX12_odds_35 fX11_odds_88 fX12_odds_63
    dsimp only
    by_cases q : i < n
    · have m2 : T1.1 2 = T.1 2 := by rw [f4 2 (by omega), n2]
      obtain ⟨S2, c1, c2, c3, c4⟩ := c_copyRl (S := S1) (a := 29) (b := 14) (m := T.1 2) (by omega) (Rl_cong h6 (fun a h1 h2 => f2 a (by omega) (by omega)) hl) h6 hv
      have hh2 : Rh S2.1 4 (T1.1 2) := by rw [m2]; exact Rh_cong (fun a h1 h2 => by rw [c3 a (by omega), f2 a (by omega) (by omega)]) hh
      obtain ⟨w, S3, T3, g1, g2, ⟨⟨k1, k2, k3, k4⟩, k5, ⟨k6, k7⟩, k8, k9, k10, k11⟩⟩ := two_live (b := 29) (S := S2) (T := T1) (Or.inr rfl) hh2 (by rw [m2]; exact hw) (by rw [m2]; exact c4) (by rw [m2]; exact hv) (show 20 ≤ 60 by omega) (x + nI i)
      have ap := c_actsProved (S := S3) (b := 29) (m := T3.1 2) k1 k2 k3 k4
      have ao := c_actsOf (S := S3) (b := 29) (m := T3.1 2) k3 k4 (nI p)
      have mp := m_provedOf (T := T3) k2 k4 (nI p)
      have row : zSeg (T3.1 6) (T3.1 2) 24 140 = T.1 2 := by
        funext k
        by_cases hk : 24 ≤ k ∧ k < 24 + 140
        · rw [zSeg_in hk.1 hk.2, k9 6 (by omega) (by omega), f4 6 (by omega), n6 (k - 24) (by omega), show 24 + (k - 24) = k by omega]
        · rw [zSeg_out (by omega), k11 k (by omega), m2]
      rw [zle_f q (by omega), zle_f q (by omega), c1, zBd_s, show (20 : Int32) = nI 20 from rfl, g1, g2, zBp_s, zBp_s, ap, ao, mp, zBd_s, zBd_s, zBd_s, m_takeBack, zBd_s, row, zLt_s, zLt_s, zLt_s, zLt_s, nI_1]
      have fin : (S3.2 = S.2 ∧ ∀ c, (c < 29 ∨ 44 ≤ c) → c ≠ 261 → S3.1 c = S.1 c) ∧ (zPut T3 2 (T.1 2)).2 = T9.2 ∧ (∀ c, c ≠ 0 → (zPut T3 2 (T.1 2)).1 c = T9.1 c) ∧ ∀ j, j ≠ 35 → (zPut T3 2 (T.1 2)).1 0 j = T9.1 0 j := by
        refine ⟨⟨by rw [k6, c2, f1], fun c hc h1 => by rw [k7 c (by omega) h1, c3 c (by omega), f2 c hc h1]⟩, by rw [zPut_2, k8, f3], fun c h0 => ?_, fun j hj => by rw [zPut_ne (by omega), k10 j hj, f5 j hj]⟩
        by_cases q2 : c = 2
        · subst q2; rw [zPut_eq, n2]
        · rw [zPut_ne q2, k9 c h0 q2, f4 c h0]
      by_cases q3 : zBits (aProved (T3.1 2)) (kA (T3.1 2)) &&& zBits (fun i => decide (T3.1 2 (38 + i) = nI p)) (kA (T3.1 2)) = 0
      · rw [zBr_p q3, if_pos q3, zBr_p rfl]
        exact Or.inl ⟨_, _, rfl, rfl, ⟨_, _, _, rfl, rfl, fin⟩, q⟩
      · rw [zBr_q q3, if_neg q3, zBr_q (show ¬ (1 : Int32) = 0 by decide)]
        exact Or.inl ⟨_, _, rfl, rfl, ⟨_, _, _, rfl, rfl, fin⟩, q⟩
    · have ei : i = n := by omega
      subst ei
      rw [zle_t (Nat.le_refl _) (by omega), zle_t (Nat.le_refl _) (by omega), zXr_s, zXr_s]
      exact Or.inr ⟨_, _, rfl, rfl, _, _, _, rfl, rfl, ⟨f1, f2⟩, f3, f4, f5⟩) 2000 2000 0 (S, 0, 0) (T9, 0, 0) (by omega) (by omega) (by omega) ⟨S, T9, 0, rfl, rfl, ⟨rfl, fun _ _ _ => rfl⟩, rfl, fun _ _ => rfl, fun _ _ => rfl⟩
  rw [e1, e2]
  refine ⟨_, _, _, rfl, rfl, ?_⟩
  have z6 : ∀ c, c ≠ 0 → c ≠ 6 → T'.1 c = (zI T 0 0 0).1 c := fun c h0 h1 => by rw [f4 c h0, hT9, zPut_ne h1]
  have z0 : ∀ j, j ≠ 35 → T'.1 0 j = (zI T 0 0 0).1 0 j := fun j hj => by rw [f5 j hj, hT9, zPut_ne (by omega)]
  have zj : T'.2 = T.2 := by rw [f3, hT9]; rfl
  obtain ⟨r1, -, -, -, -, r6, r7, r8, r9, -⟩ := id rt
  refine Rel_side rt (fun c hc => f2 c (by omega) (by omega)) (fun c hc => by rw [f1]) ⟨z6 2 (by omega) (by omega), z6 4 (by omega) (by omega), z6 5 (by omega) (by omega), z6 10 (by omega) (by omega)⟩ ⟨by rw [zj]; rfl, by rw [zj]; rfl⟩ (z0 24 (by omega)) ?_ ?_ ?_ ?_ ?_
  · rw [f2 1 (by omega) (by omega), f2 2 (by omega) (by omega), z0 2 (by omega), z6 1 (by omega) (by omega)]; exact r1
  · rw [f2 0 (by omega) (by omega), z0 10 (by omega), z0 25 (by omega), z0 26 (by omega)]; exact r6
  · rw [f2 256 (by omega) (by omega), f2 260 (by omega) (by omega), z0 29 (by omega), z6 13 (by omega) (by omega)]; exact r7
  · rw [f2 255 (by omega) (by omega), z0 31 (by omega), z6 14 (by omega) (by omega)]; exact r8
  · rw [f2 240 (by omega) (by omega), z0 39 (by omega), z6 17 (by omega) (by omega)]; exact r9
end Odds
