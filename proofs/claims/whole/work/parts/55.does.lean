def zDs (m : Nat → Int32) (b l n : Nat) (S9 : zSt) (j : Nat) : zSt := zFo (fun p X => if aBit (aSees m p 0) l = true then zI (zI (zI X (b + 6 + p) n (-1)) (b + 12) p (aNext m p)) (b + 6 + p) n (aNext m p) else zI X (b + 6 + p) n (-1)) S9 j
theorem zDs_ok (m : Nat → Int32) (b l n : Nat) (S9 : zSt) : ∀ j, j ≤ 6 → (zDs m b l n S9 j).2 = S9.2 ∧ (∀ c i, c ≠ b + 12 → ¬ (b + 6 ≤ c ∧ c < b + 6 + j ∧ i = n) → (zDs m b l n S9 j).1 c i = S9.1 c i) ∧ (∀ i, j ≤ i → (zDs m b l n S9 j).1 (b + 12) i = S9.1 (b + 12) i) ∧ (∀ q, q < j → (zDs m b l n S9 j).1 (b + 12) q = if aBit (aSees m q 0) l = true then aNext m q else S9.1 (b + 12) q) ∧ (∀ q, q < j → (zDs m b l n S9 j).1 (b + 6 + q) n = if aBit (aSees m q 0) l = true then aNext m q else -1) := by
  intro j
  induction j with
  | zero => intro _; exact ⟨rfl, fun c i _ _ => rfl, fun i _ => rfl, fun q hq => by omega, fun q hq => by omega⟩
  | succ j ih =>
    intro hj
    obtain ⟨i1, i2, i3, i4, i5⟩ := ih (by omega)
    have e : zDs m b l n S9 (j + 1) = if aBit (aSees m j 0) l = true then zI (zI (zI (zDs m b l n S9 j) (b + 6 + j) n (-1)) (b + 12) j (aNext m j)) (b + 6 + j) n (aNext m j) else zI (zDs m b l n S9 j) (b + 6 + j) n (-1) := rfl
    by_cases h : aBit (aSees m j 0) l = true
    · rw [e, if_pos h]
      refine ⟨i1, fun c i q1 q2 => ?_, fun i hi => ?_, fun q hq => ?_, fun q hq => ?_⟩
      · rw [zI_at, if_neg (by omega), zI_at, if_neg (by omega), zI_at, if_neg (by omega), i2 c i q1 (by omega)]
      · rw [zI_at, if_neg (by omega), zI_at, if_neg (by omega), zI_at, if_neg (by omega), i3 i (by omega)]
      · rw [zI_at, if_neg (by omega)]
        by_cases hqj : q = j
        · subst hqj
          rw [zI_at, if_pos ⟨rfl, rfl⟩, if_pos h]
        · rw [zI_at, if_neg (by omega), zI_at, if_neg (by omega), i4 q (by omega)]
      · by_cases hqj : q = j
        · subst hqj
          rw [zI_at, if_pos ⟨rfl, rfl⟩, if_pos h]
        · rw [zI_at, if_neg (by omega), zI_at, if_neg (by omega), zI_at, if_neg (by omega), i5 q (by omega)]
    · rw [e, if_neg h]
      refine ⟨i1, fun c i q1 q2 => ?_, fun i hi => ?_, fun q hq => ?_, fun q hq => ?_⟩
      · rw [zI_at, if_neg (by omega), i2 c i q1 (by omega)]
      · rw [zI_at, if_neg (by omega), i3 i (by omega)]
      · rw [zI_at, if_neg (by omega)]
        by_cases hqj : q = j
        · subst hqj
          rw [i3 q (Nat.le_refl q), if_neg h]
        · rw [i4 q (by omega)]
      · by_cases hqj : q = j
        · subst hqj
          rw [zI_at, if_pos ⟨rfl, rfl⟩, if_neg h]
        · rw [zI_at, if_neg (by omega), i5 q (by omega)]
theorem c_doDeed {S : zSt} {b : Nat} {m : Nat → Int32} (hz : zHs b = 4) (hb : 14 ≤ b) (hh : Rh S.1 4 m) (hw : WFh m) (hl : Rl S.1 b m) (hv : WFl m) (hn : kA m < 12) {a d : Int32} {l : Nat} (hl5 : l < kL m) : ∃ S', fX6_doDeed S b a d (nI l) = some S' ∧ S'.2 = S.2 ∧ (∀ c, c < b ∨ b + 15 ≤ c → S'.1 c = S.1 c) ∧ Rl S'.1 b (aDo m a d l (kA m) (kP m)) := by
  have h1 := hw.2.1.1
  have h6 := hw.2.1.2
  have h5 := hw.1.2
  obtain ⟨dd, hdd, edd⟩ := hv.1
  obtain ⟨n, hN⟩ : ∃ n, n = kA m := ⟨_, rfl⟩
  have e25 : m 25 = nI n := by rw [hN]; exact hv.2.1.1
  obtain ⟨a1, a2, a3, a4, a5⟩ := hl
  rw [← hN] at hn ⊢ a4 a5
  rw [e25] at a2
  obtain ⟨S9, hS9⟩ : ∃ X, X = zI (zI (zI (zI S (b + 1) n a) (b + 2) n d) (b + 3) n (nI l)) (b + 4) n (m 24) := ⟨_, rfl⟩
  have s9 : ∀ c, (c < b + 1 ∨ b + 4 < c) → S9.1 c = S.1 c := fun c hc => by rw [hS9, zI_ne (by omega), zI_ne (by omega), zI_ne (by omega), zI_ne (by omega)]
  have ok := zDs_ok m b l n S9
  have hd6 : ∀ j, j ≤ 6 → Rh (zDs m b l n S9 j).1 4 m := fun j hj => Rh_cong (fun c q1 q2 => by
    funext i
    rw [(ok j hj).2.1 c i (by omega) (by omega), s9 c (by omega)]) hh
  have b2 : ∀ j, j ≤ 6 → (zDs m b l n S9 j).1 b 2 = nI n := fun j hj => by rw [(ok j hj).2.1 b 2 (by omega) (by omega), s9 b (by omega), a2]
  refine ⟨zI (zDs m b l n S9 (kP m)) b 2 (nI (n + 1)), ?_, ?_, ?_, ?_⟩
  · unfold fX6_doDeed
    rw [a2, show (12 : Int32) = nI 12 from rfl, zlt_t hn (by omega), zIx_nI hn (by omega), zGd_t, nI_clamp (by omega), zLt_s]
    rw [show (zI S (b + 1) n a).1 b 2 = nI n by rw [zI_ne (by omega), a2], zIx_nI hn (by omega), zGd_t, nI_clamp (by omega), zLt_s]
    rw [show (zI (zI S (b + 1) n a) (b + 2) n d).1 b 2 = nI n by rw [zI_ne (by omega), zI_ne (by omega), a2], zIx_nI hn (by omega), zGd_t, nI_clamp (by omega), zLt_s]
    rw [show (zI (zI (zI S (b + 1) n a) (b + 2) n d) (b + 3) n (nI l)).1 b 2 = nI n by rw [zI_ne (by omega), zI_ne (by omega), zI_ne (by omega), a2], zIx_nI hn (by omega), zGd_t, nI_clamp (by omega), show (zI (zI (zI S (b + 1) n a) (b + 2) n d) (b + 3) n (nI l)).1 b 1 = m 24 by rw [zI_ne (by omega), zI_ne (by omega), zI_ne (by omega), a1], ← hS9, zLt_s]
    refine zLp_run (body := fX6_doDeed_56 b (nI l)) (fun i => (zDs m b l n S9 i, nI i)) (r := zI (zDs m b l n S9 (kP m)) b 2 (nI (n + 1))) (kP m) 2000 (fun i hi => ?_) ?_ (by omega)
    · obtain ⟨o1, o2, o3, o4, o5⟩ := ok i (by omega)
      have e := (show zDs m b l n S9 (i + 1) = if aBit (aSees m i 0) l = true then zI (zI (zI (zDs m b l n S9 i) (b + 6 + i) n (-1)) (b + 12) i (aNext m i)) (b + 6 + i) n (aNext m i) else zI (zDs m b l n S9 i) (b + 6 + i) n (-1) from rfl)
      obtain ⟨X, hX⟩ : ∃ X, X = zI (zDs m b l n S9 i) (b + 6 + i) n (-1) := ⟨_, rfl⟩
      have x1 : ∀ c, c ≠ b + 6 + i → X.1 c = (zDs m b l n S9 i).1 c := fun c hc => by rw [hX, zI_ne hc]
      have xh : Rh X.1 (zHs b) m := by rw [hz]; exact Rh_cong (fun c q1 q2 => x1 c (by omega)) (hd6 i (by omega))
      have e1 : fX6_seenBy X b (nI i) = some (aSees m i 0) := c_seenBy2 xh hw hi (by rw [x1 _ (by omega), o2 _ _ (by omega) (by omega), s9 _ (by omega), (a3 i hi).1]) (by rw [x1 _ (by omega), o2 _ _ (by omega) (by omega), s9 _ (by omega), (a3 i hi).2.1]) (hv.2.2.1 i hi).1
      have e2 : fX6_nextLeafDay X b (nI i) = some (aNext m i) := c_nextLeaf2 xh h6 hi (by rw [x1 _ (by omega), o2 _ _ (by omega) (by omega), s9 _ (by omega), a1]) edd (by omega) (by rw [x1 _ (by omega), o3 i (Nat.le_refl i), s9 _ (by omega)]; exact (a3 i hi).2.2)
      obtain ⟨s, hs, es⟩ := aSees_lt hw (hv.2.2.1 i hi).1 0
      unfold fX6_doDeed_56 fX6_doDeed_123
      dsimp only
      rw [c_plants (m := m) (by rw [hz]; exact hd6 i (by omega)), zBd_s, h1, zle_f hi (by omega), zIx_nI (by omega) (by omega), zGd_t, b2 i (by omega), zIx_nI hn (by omega), zGd_t, nI_clamp (by omega), nI_clamp (by omega), ← hX, zLt_s, e1, zBd_s, es, c_hasB hs (by omega), zBd_s, ← es, e]
      by_cases hbt : aBit (aSees m i 0) l = true
      · rw [if_pos hbt, zBr_q (show ¬ (1 : Int32) = 0 by decide), e2, zBd_s, zGd_t, zLt_s, zGd_t, zGd_t, show (zI X (b + 12) i (aNext m i)).1 b 2 = nI n by rw [zI_ne (by omega), x1 _ (by omega), b2 i (by omega)], zIx_nI hn (by omega), zGd_t, nI_clamp (by omega), show (zI X (b + 12) i (aNext m i)).1 (b + 12) i = aNext m i by rw [zI_at, if_pos ⟨rfl, rfl⟩], zLt_s, zLt_s, nI_1, if_pos hbt, ← hX]
      · rw [if_neg hbt, zBr_p (show (0 : Int32) = 0 from rfl), zLt_s, nI_1, if_neg hbt, ← hX]
    · unfold fX6_doDeed_56
      dsimp only
      rw [c_plants (m := m) (by rw [hz]; exact hd6 _ (by omega)), zBd_s, h1, zle_t (by omega) (by omega), b2 _ (by omega), nI_1, zLt_s, zXr_s]
  · rw [zI_at2, (ok (kP m) h6).1, hS9]; rfl
  · intro c hc
    funext i
    rw [zI_ne (by omega), (ok (kP m) h6).2.1 c i (by omega) (by omega), s9 c (by omega)]
  · obtain ⟨o1, o2, o3, o4, o5⟩ := ok (kP m) h6
    obtain ⟨k0, k1, k2, k3, k4⟩ := aDo_k (m := m) (a := a) (d := d) (l := l) (j := kP m) hn
    unfold Rl
    rw [k1, k4]
    refine ⟨?_, ?_, fun p hp => ?_, fun i hi => ?_, fun p i hp hi => ?_⟩
    · rw [zI_at, if_neg (by omega), o2 _ _ (by omega) (by omega), s9 _ (by omega), a1, aDo_lo (by omega) (by omega) (by omega) (by omega) (by omega) (by omega)]
    · rw [zI_at, if_pos ⟨rfl, rfl⟩, aDo_25]
    · rw [zI_ne (show b + 13 ≠ b by omega), zI_ne (show b + 14 ≠ b by omega), zI_ne (show b + 12 ≠ b by omega), o2 (b + 13) p (by omega) (by omega), o2 (b + 14) p (by omega) (by omega), s9 (b + 13) (by omega), s9 (b + 14) (by omega), aDo_lo (show 26 + p < 86 by omega) (by omega) (by omega) (by omega) (by omega) (by omega), aDo_lo (show 32 + p < 86 by omega) (by omega) (by omega) (by omega) (by omega) (by omega), o4 p hp, aDo_158 hp]
      refine ⟨(a3 p hp).1, (a3 p hp).2.1, ?_⟩
      by_cases hbt : aBit (aSees m p 0) l = true
      · rw [if_pos hbt, if_pos hbt]; exact Or.inl rfl
      · rw [if_neg hbt, if_neg hbt, s9 (b + 12) (by omega)]; exact (a3 p hp).2.2
    · have t1 : S9.1 (b + 1) i = if i = n then a else S.1 (b + 1) i := by
        rw [hS9, zI_ne (show b + 1 ≠ b + 4 by omega), zI_ne (show b + 1 ≠ b + 3 by omega), zI_ne (show b + 1 ≠ b + 2 by omega), zI_eq]; rfl
      have t2 : S9.1 (b + 2) i = if i = n then d else S.1 (b + 2) i := by
        rw [hS9, zI_ne (show b + 2 ≠ b + 4 by omega), zI_ne (show b + 2 ≠ b + 3 by omega), zI_eq, zI_ne (show b + 2 ≠ b + 1 by omega)]; rfl
      have t3 : S9.1 (b + 3) i = if i = n then nI l else S.1 (b + 3) i := by
        rw [hS9, zI_ne (show b + 3 ≠ b + 4 by omega), zI_eq, zI_ne (show b + 3 ≠ b + 2 by omega), zI_ne (show b + 3 ≠ b + 1 by omega)]; rfl
      have t4 : S9.1 (b + 4) i = if i = n then m 24 else S.1 (b + 4) i := by
        rw [hS9, zI_eq, zI_ne (show b + 4 ≠ b + 3 by omega), zI_ne (show b + 4 ≠ b + 2 by omega), zI_ne (show b + 4 ≠ b + 1 by omega)]; rfl
      rw [zI_ne (show b + 1 ≠ b by omega), zI_ne (show b + 2 ≠ b by omega), zI_ne (show b + 3 ≠ b by omega), zI_ne (show b + 4 ≠ b by omega), o2 (b + 1) i (by omega) (by omega), o2 (b + 2) i (by omega) (by omega), o2 (b + 3) i (by omega) (by omega), o2 (b + 4) i (by omega) (by omega), t1, t2, t3, t4]
      by_cases hin : i = n
      · subst hin
        rw [if_pos rfl, if_pos rfl, if_pos rfl, if_pos rfl, aDo_38 hn, aDo_50 hn, aDo_62 hn, aDo_74 hn]
        exact ⟨rfl, rfl, rfl, rfl⟩
      · rw [if_neg hin, if_neg hin, if_neg hin, if_neg hin, aDo_lo (show 38 + i < 86 by omega) (by omega) (by omega) (by omega) (by omega) (by omega), aDo_lo (show 50 + i < 86 by omega) (by omega) (by omega) (by omega) (by omega) (by omega), aDo_lo (show 62 + i < 86 by omega) (by omega) (by omega) (by omega) (by omega) (by omega), aDo_lo (show 74 + i < 86 by omega) (by omega) (by omega) (by omega) (by omega) (by omega)]
        exact a4 i (by omega)
    · rw [zI_ne (by omega)]
      by_cases hin : i = n
      · subst hin
        rw [o5 p hp, aDo_86 hn h6 hp]
        by_cases hbt : aBit (aSees m p 0) l = true
        · rw [if_pos hbt, if_pos hbt]
        · rw [if_neg hbt, if_neg hbt, hv.2.2.2.2.2.2 p i hp (by omega) hn]
      · rw [o2 _ _ (by omega) (by omega), s9 _ (by omega), aDo_hi hn (by omega) (by omega) (by omega)]
        exact a5 p i hp (by omega)
theorem op_does {S T : zSt} (r : Rel S T) (x y l : Int32) : ∃ z S' T', fX11_does S x y l = some (z, S') ∧ fX12_does T x y l = some (z, T') ∧ Rel S' T' := by
  obtain ⟨-, ⟨hh, hw, hl, hv, -⟩, -⟩ := id r
  have h6 := hw.2.1.2
  have h5 := hw.1.2
  have h3 := hw.2.2.1.2
  have h4 := hw.2.2.2.1.2
  have hA := hv.2.1.2
  have rt := Rel_thrown r 0
  have hc : fX3_has S 4 2 x = some (aIs (kE (T.1 2)) x) := c_has hh (show 2 < 4 by omega) hw.2.2.1.1 x
  have hc1 : fX3_has S 4 3 y = some (aIs (kD (T.1 2)) y) := c_has hh (show 3 < 4 by omega) hw.2.2.2.1.1 y
  have hc' : fX3_has S 4 0 l = some (aIs (kL (T.1 2)) l) := c_has hh (show 0 < 4 by omega) hw.1.1 l
  have hm : fX12_isPerson (zI T 0 0 0) x = some (aIs (kE (T.1 2)) x) := by
    rw [m_isPerson (T := zI T 0 0 0) (by rw [zTh]; exact hw), zTh]
  have hm1 : fX12_isDeed (zI T 0 0 0) y = some (aIs (kD (T.1 2)) y) := by
    rw [m_isDeed (T := zI T 0 0 0) (by rw [zTh]; exact hw), zTh]
  have hm' : fX12_isParlour (zI T 0 0 0) l = some (aIs (kL (T.1 2)) l) := by
    rw [m_isParlour (T := zI T 0 0 0) (by rw [zTh]; exact hw), zTh]
  have hwn : fX6_whyNotDo S 14 = some (if kA (T.1 2) = 12 then 1 else 0) := by
    unfold fX6_whyNotDo
    rw [hl.2.1, hv.2.1.1, show (12 : Int32) = nI 12 from rfl]
    by_cases q : kA (T.1 2) = 12
    · rw [zlt_f (by omega) (by omega), if_pos q]
    · rw [zlt_t (by omega) (by omega), if_neg q]
  have w2 : ∀ u w, fX12_why (zI T 0 0 0) 0 u w = some (if kA (T.1 2) = 12 then 1 else 0) := fun u w => by
    unfold fX12_why
    rw [zBr_p (show (0 : Int32) = 0 from rfl), zg_25_406, zGd_t, zt_25, zTh, hv.2.1.1, show (12 : Int32) = nI 12 from rfl]
    by_cases q : kA (T.1 2) = 12
    · rw [zBr_p (by rw [q]), if_pos q]
    · rw [zBr_q (fun e => q ((nI_eq (by omega) (by omega)).mp e)), if_neg q]
  unfold fX11_does fX12_does fX12_does_38 fX12_does_39
  rw [zLt_s, hc, hm, hm1, hm', hwn, zBd_s, zBd_s, zBd_s, zBd_s, m_doNo, zBp_s, hc1, hc', zBd_s, zBd_s, zBd_s]
  rcases aIs_cases (kE (T.1 2)) x (by omega) with q1 | ⟨q1, x, hx, rfl⟩
  · rw [q1, zBr_p rfl, zBr_p rfl]
    exact ⟨-1, S, zI T 0 0 0, rfl, rfl, rt⟩
  rw [q1, zBr_q (show ¬ (1 : Int32) = 0 by decide), zBr_q (show ¬ (1 : Int32) = 0 by decide)]
  rcases aIs_cases (kD (T.1 2)) y (by omega) with q2 | ⟨q2, y, hy, rfl⟩
  · rw [q2, zBr_p rfl, zBr_p rfl]
    exact ⟨-1, S, zI T 0 0 0, rfl, rfl, rt⟩
  rw [q2, zBr_q (show ¬ (1 : Int32) = 0 by decide), zBr_q (show ¬ (1 : Int32) = 0 by decide)]
  rcases aIs_cases (kL (T.1 2)) l (by omega) with q3 | ⟨q3, l, hl', rfl⟩
  · rw [q3, zBr_p rfl, zBr_p rfl]
    exact ⟨-1, S, zI T 0 0 0, rfl, rfl, rt⟩
  rw [q3, zBr_q (show ¬ (1 : Int32) = 0 by decide), zBr_q (show ¬ (1 : Int32) = 0 by decide)]
  have w3 := w2 (nI x) (nI y)
  by_cases hd : kA (T.1 2) = 12
  · rw [if_pos hd] at w3
    rw [if_pos hd, zBr_q (show ¬ (1 : Int32) = 0 by decide), m_doWhy w3 (by decide), zBp_s]
    exact ⟨1, S, zI T 0 0 0, rfl, rfl, rt⟩
  · rw [if_neg hd] at w3
    rw [if_neg hd, zBr_p (show (0 : Int32) = 0 from rfl)]
    obtain ⟨S1, T1, e1, e2, r1, e3⟩ := Rel_keep rt
    obtain ⟨-, ⟨hh1, hw1, hl1, hv1, -⟩, -⟩ := id r1
    rw [zTh] at e3
    have hn1 : kA (T1.1 2) < 12 := by rw [e3]; omega
    have hy1 : zIn (nI y) (kD (T1.1 2)) := ⟨y, by rw [e3]; exact hy, rfl⟩
    have hx1 : zIn (nI x) (kE (T1.1 2)) := ⟨x, by rw [e3]; exact hx, rfl⟩
    have hl2 : l < kL (T1.1 2) := by rw [e3]; exact hl'
    obtain ⟨S2, g1, g2, g3, g4⟩ := c_doDeed (S := S1) (b := 14) (a := nI x) (d := nI y) rfl (by omega) hh1 hw1 hl1 hv1 hn1 hl2
    have g5 := m_doDeed (T := T1) hw1 hv1 hn1 hx1 hy1 hl2
    have e4 : fX12_live T1 0 (nI x) (nI y) (nI l) = some (zPut T1 2 (aDo (T1.1 2) (nI x) (nI y) l (kA (T1.1 2)) (kP (T1.1 2)))) := by
      unfold fX12_live
      rw [zBr_p (show (0 : Int32) = 0 from rfl), g5, zBd_s]
    refine ⟨0, S2, zPut T1 2 (aDo (T1.1 2) (nI x) (nI y) l (kA (T1.1 2)) (kP (T1.1 2))), ?_, ?_, ?_⟩
    · rw [e1, zBd_s, g1, zBd_s]
    · rw [m_doYes w3 e2 e4, zBp_s]
    · have h61 : kP (T1.1 2) ≤ 6 := by rw [e3]; exact h6
      refine Rel_life r1 g2 (fun c hc => g3 c (by omega)) rfl (fun c q1 _ => zPut_ne q1) (fun j _ _ => by rw [zPut_ne (by omega)]) (fun k hk => ?_) ?_ ?_
      · rw [zPut_eq]
        rcases hk with hk | hk
        · exact aDo_lo (by omega) (by omega) (by omega) (by omega) (by omega) (by omega)
        · exact aDo_hi hn1 (by omega) (by omega) (by omega)
      · rw [zPut_eq]; exact g4
      · rw [zPut_eq]; exact WFl_deed hw1 hv1 hn1 (Nat.le_refl _) hx1 hy1 hl2
