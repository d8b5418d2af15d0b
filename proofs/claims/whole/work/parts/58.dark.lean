/-! dark -/
theorem zAn {s t : Nat} (hs : s < 32) (ht : t < 32) : nI s &&& (nI t ^^^ (-1)) = nI (s &&& (31 ^^^ t)) ∧ s &&& (31 ^^^ t) < 32 ∧ ∀ l, l < 5 → aBit (nI (s &&& (31 ^^^ t))) l = (aBit (nI s) l && !aBit (nI t) l) := by
  have key : ∀ s, s < 32 → ∀ t, t < 32 → nI s &&& (nI t ^^^ (-1)) = nI (s &&& (31 ^^^ t)) ∧ s &&& (31 ^^^ t) < 32 ∧ ∀ l, l < 5 → aBit (nI (s &&& (31 ^^^ t))) l = (aBit (nI s) l && !aBit (nI t) l) := by decide +kernel
  exact key s hs t ht
theorem zAll {k : Nat} (hk : k ≤ 5) : ((1 : Int32) <<< (nI k &&& 31)) - 1 = nI (2 ^ k - 1) ∧ 2 ^ k - 1 < 32 ∧ ∀ l, l < 5 → aBit (nI (2 ^ k - 1)) l = decide (l < k) := by
  have key : ∀ k, k < 6 → ((1 : Int32) <<< (nI k &&& 31)) - 1 = nI (2 ^ k - 1) ∧ 2 ^ k - 1 < 32 ∧ ∀ l, l < 5 → aBit (nI (2 ^ k - 1)) l = decide (l < k) := by decide +kernel
  exact key k (by omega)
theorem zUnseen {g : Nat → Int32} {a : Nat} (ha : a < 32) {n : Nat} (hg : ∀ p, p < n → ∃ s, s < 32 ∧ g p = nI s) : ∃ u, u < 32 ∧ zFo (fun p acc => acc &&& (g p ^^^ (-1))) (nI a) n = nI u ∧ ∀ l, l < 5 → (aBit (nI u) l = true ↔ aBit (nI a) l = true ∧ ∀ p, p < n → aBit (g p) l = false) := by
  induction n with
  | zero => exact ⟨a, ha, rfl, fun l hl => ⟨fun h => ⟨h, fun p hp => by omega⟩, fun h => h.1⟩⟩
  | succ n ih =>
    obtain ⟨u, hu, eu, hb⟩ := ih (fun p hp => hg p (by omega))
    obtain ⟨s, hs, es⟩ := hg n (by omega)
    obtain ⟨k1, k2, k3⟩ := zAn hu hs
    refine ⟨u &&& (31 ^^^ s), k2, ?_, fun l hl => ?_⟩
    · rw [zFo, eu, es, k1]
    · rw [k3 l hl, Bool.and_eq_true, Bool.not_eq_true', hb l hl]
      constructor
      · rintro ⟨⟨h1, h2⟩, h3⟩
        refine ⟨h1, fun p hp => ?_⟩
        by_cases hpn : p = n
        · subst hpn; rw [es]; exact h3
        · exact h2 p (by omega)
      · rintro ⟨h1, h2⟩
        refine ⟨⟨h1, fun p hp => h2 p (by omega)⟩, ?_⟩
        rw [← es]; exact h2 n (by omega)
def aDk (m : Nat → Int32) (l w : Nat) (n : Nat) : Nat := zFo (fun p acc => if aBit (aSees m p 0) l = true then max acc (w - (m (32 + p)).toNatClampNeg) else acc) 0 n
theorem aDk_s (m : Nat → Int32) (l w n : Nat) : aDk m l w (n + 1) = if aBit (aSees m n 0) l = true then max (aDk m l w n) (w - (m (32 + n)).toNatClampNeg) else aDk m l w n := rfl
theorem aDk_iff (m : Nat → Int32) (l w v : Nat) : ∀ n, (∃ p, p < n ∧ aBit (aSees m p 0) l = true ∧ (m (32 + p)).toNatClampNeg + v < w) ↔ v < aDk m l w n
  | 0 => ⟨fun ⟨p, hp, _⟩ => by omega, fun h => absurd h (Nat.not_lt_zero v)⟩
  | n + 1 => by
    have ih := aDk_iff m l w v n
    rw [aDk_s]
    by_cases h : aBit (aSees m n 0) l = true
    · rw [if_pos h]
      constructor
      · rintro ⟨p, hp, h1, h2⟩
        by_cases hpn : p = n
        · subst hpn; omega
        · have := ih.mp ⟨p, by omega, h1, h2⟩
          omega
      · intro hv
        by_cases hv2 : v < aDk m l w n
        · obtain ⟨p, hp, h1, h2⟩ := ih.mpr hv2
          exact ⟨p, by omega, h1, h2⟩
        · exact ⟨n, by omega, h, by omega⟩
    · rw [if_neg h, ← ih]
      constructor
      · rintro ⟨p, hp, h1, h2⟩
        by_cases hpn : p = n
        · subst hpn; exact absurd h1 h
        · exact ⟨p, by omega, h1, h2⟩
      · rintro ⟨p, hp, h1, h2⟩
        exact ⟨p, by omega, h1, h2⟩
theorem aDk_le (m : Nat → Int32) (l w : Nat) : ∀ n, aDk m l w n ≤ w
  | 0 => Nat.zero_le w
  | n + 1 => by
    have ih := aDk_le m l w n
    rw [aDk_s]
    by_cases h : aBit (aSees m n 0) l = true
    · rw [if_pos h]; omega
    · rw [if_neg h]; exact ih
theorem aBit_0 (l : Nat) (h : l < 5) : aBit 0 l = false := by
  have key : ∀ l, l < 5 → aBit 0 l = false := by decide +kernel
  exact key l h
theorem aSees_v {m : Nat → Int32} {p w s v l : Nat} (hl : l < 5) (h4 : m 4 = nI w) (hw : w ≤ 60) (hs : m (32 + p) = nI s) (hs1 : s < 100) (hv : v ≤ 1000) : aBit (aSees m p (nI v)) l = (aBit (aSees m p 0) l && decide (s + v < w)) := by
  unfold aSees
  rw [h4, hs, nI_add, Int32.add_zero]
  by_cases hf : aFern m p = true
  · rw [if_pos hf, if_pos hf, aBit_0 l hl]; rfl
  · rw [if_neg hf, if_neg hf]
    by_cases h1 : s + v < w
    · rw [if_pos ((nI_ltI (by omega) (by omega)).mpr h1), if_pos ((nI_ltI (by omega) (by omega)).mpr (by omega)), decide_eq_true h1, Bool.and_true]
    · rw [if_neg (fun q => h1 ((nI_ltI (by omega) (by omega)).mp q)), aBit_0 l hl, decide_eq_false h1, Bool.and_false]
theorem aSees_see {m : Nat → Int32} {p w s l : Nat} (hl : l < 5) (h4 : m 4 = nI w) (hw : w ≤ 60) (hs : m (32 + p) = nI s) (hs1 : s < 100) (h : aBit (aSees m p 0) l = true) : s < w := by
  have := aSees_v (v := 0) hl h4 hw hs hs1 (by omega)
  rw [show nI 0 = (0 : Int32) from rfl, h, Bool.true_and] at this
  exact of_decide_eq_true this.symm
section Dark
variable {S T : zSt}
theorem op_dark (r : Rel S T) (x : Int32) : ∃ z, fX11_dark S x = some z ∧ fX12_dark T x = some (z, zI T 0 0 0) := by
  obtain ⟨-, ⟨hh, hw, hl, hv, -⟩, -⟩ := r
  have h6 := hw.2.1.2
  have h5 := hw.1.2
  obtain ⟨w, hw60, hw1, e4⟩ := hw.2.2.2.2.1
  obtain ⟨d, hd, ed⟩ := hv.1
  have hc : fX3_has S 4 0 x = some (aIs (kL (T.1 2)) x) := c_has hh (show 0 < 4 by omega) hw.1.1 x
  have hm : fX12_isParlour (zI T 0 0 0) x = some (aIs (kL (T.1 2)) x) := by
    rw [m_isParlour (T := zI T 0 0 0) (by rw [zTh]; exact hw), zTh]
  unfold fX11_dark fX12_dark
  rw [zLt_s, hc, hm, zBd_s, zBd_s]
  rcases aIs_cases (kL (T.1 2)) x (by omega) with h | ⟨h, l, hlL, rfl⟩
  · rw [h]; exact ⟨_, rfl, rfl⟩
  rw [h, zBr_q (show ¬ (1 : Int32) = 0 by decide), zBr_q (show ¬ (1 : Int32) = 0 by decide)]
  obtain ⟨D, hD⟩ : ∃ D, D = aDk (T.1 2) l w (kP (T.1 2)) := ⟨_, rfl⟩
  have hDw : D ≤ 60 := by have := aDk_le (T.1 2) l w (kP (T.1 2)); omega
  have e1 : fX2_daysTillDark S (nI l) = some (if 400 < d + D then -1 else nI D) := by
    have k0 : ∀ n, n ≤ kP (T.1 2) → zFo (fun p acc => if aBit (aSees (T.1 2) p 0) l = true then (if acc < T.1 2 4 - T.1 2 (32 + p) then T.1 2 4 - T.1 2 (32 + p) else acc) else acc) (0 : Int32) n = nI (aDk (T.1 2) l w n) := by
      intro n
      induction n with
      | zero => intro _; rfl
      | succ n ih =>
        intro hn
        obtain ⟨s, hs, es⟩ := (hv.2.2.1 n (by omega)).2
        rw [zFo, ih (by omega), aDk_s]
        by_cases hb : aBit (aSees (T.1 2) n 0) l = true
        · have hsw := aSees_see (by omega) e4 hw60 es hs hb
          have hle := aDk_le (T.1 2) l w n
          rw [if_pos hb, if_pos hb, e4, es, pk_sub (by omega), nI_clamp (by omega)]
          by_cases q : aDk (T.1 2) l w n < w - s
          · rw [if_pos ((nI_ltI (by omega) (by omega)).mpr q), Nat.max_eq_right (by omega)]
          · rw [if_neg (fun z => q ((nI_ltI (by omega) (by omega)).mp z)), Nat.max_eq_left (by omega)]
        · rw [if_neg hb, if_neg hb]
    unfold fX2_daysTillDark
    refine zLp_fold (F := fun p acc => if aBit (aSees (T.1 2) p 0) l = true then (if acc < T.1 2 4 - T.1 2 (32 + p) then T.1 2 4 - T.1 2 (32 + p) else acc) else acc) (n := kP (T.1 2)) (fun acc p hp => ?_) ?_ (by omega)
    · obtain ⟨s, hs, es⟩ := aSees_lt hw (hv.2.2.1 p hp).1 0
      unfold fX2_daysTillDark_4 fX2_daysTillDark_52
      dsimp only
      rw [c_plants (b := 14) hh, zBd_s, hw.2.1.1, zle_f hp (by omega), c_seenBy (b := 14) hh hw hl hv hp, zBd_s, es, c_hasB hs (by omega), ← es, zBd_s, zLt_s, zLt_s, nI_1, zIx_nI (by omega) (by omega), zGd_t, nI_clamp (by omega), hh.2.1, (hl.2.2.1 p hp).2.1]
      by_cases hb : aBit (aSees (T.1 2) p 0) l = true
      · rw [if_pos hb, zBr_q (show ¬ (1 : Int32) = 0 by decide), if_pos hb, zLt_s]
      · rw [if_neg hb, zBr_p (show (0 : Int32) = 0 from rfl), if_neg hb]
    · rw [k0 _ (Nat.le_refl _), ← hD]
      unfold fX2_daysTillDark_4 fX6_daysLeft
      dsimp only
      rw [c_plants (b := 14) hh, zBd_s, hw.2.1.1, zle_t (by omega) (by omega), zBd_s, hl.1, ed, show (400 : Int32) = nI 400 from rfl, pk_sub (by omega)]
      by_cases q : 400 < d + D
      · rw [zlt_t (by omega) (by omega), if_pos q, zXr_s]
      · rw [zlt_f (by omega) (by omega), if_neg q, zXr_s]
  rw [e1, zBd_s]
  refine ⟨_, rfl, ?_⟩
  have un : ∀ v, v ≤ 1000 → ∃ u, fX12_unseen (zI T 0 0 0) (nI v) = some u ∧ (aBit u l = true ↔ D ≤ v) := by
    intro v hv1
    obtain ⟨q1, q2, q3⟩ := zAll h5
    have q4 := m_unseen (T := zI T 0 0 0) (by rw [zTh]; exact hw) (by rw [zTh]; exact hv) (nI v)
    rw [zTh, hw.1.1, q1] at q4
    obtain ⟨u, hu, eu, hb⟩ := zUnseen (g := fun p => aSees (T.1 2) p (nI v)) q2 (n := kP (T.1 2)) (fun p hp => aSees_lt hw (hv.2.2.1 p hp).1 (nI v))
    rw [eu] at q4
    refine ⟨nI u, q4, ?_⟩
    rw [hb l (by omega), q3 l (by omega), decide_eq_true_eq]
    have it := aDk_iff (T.1 2) l w v (kP (T.1 2))
    rw [← hD] at it
    constructor
    · rintro ⟨-, h2⟩
      refine Nat.le_of_not_lt (fun q => ?_)
      obtain ⟨p, hp, g1, g2⟩ := it.mpr q
      obtain ⟨s, hs, es⟩ := (hv.2.2.1 p hp).2
      rw [es, nI_clamp (by omega)] at g2
      have := h2 p hp
      rw [aSees_v (by omega) e4 hw60 es hs hv1, g1, decide_eq_true g2] at this
      exact absurd this (by decide)
    · intro hDv
      refine ⟨hlL, fun p hp => ?_⟩
      obtain ⟨s, hs, es⟩ := (hv.2.2.1 p hp).2
      rw [aSees_v (by omega) e4 hw60 es hs hv1]
      by_cases g1 : aBit (aSees (T.1 2) p 0) l = true
      · rw [g1, Bool.true_and]
        refine decide_eq_false (fun g2 => ?_)
        have := it.mp ⟨p, hp, g1, by rw [es, nI_clamp (by omega)]; exact g2⟩
        omega
      · rw [Bool.not_eq_true _ |>.mp g1, Bool.false_and]
  have step : ∀ i, i < D → d + i ≤ 400 → fX12_dark_17 (zI T 0 0 0) (nI l) (nI i) = some (.inl (nI (i + 1))) := by
    intro i hi h4
    obtain ⟨u, eu, hu⟩ := un i (by omega)
    unfold fX12_dark_17
    dsimp only
    rw [show (60 : Int32) = nI 60 from rfl, zlt_f (by omega) (by omega), zg_24_406, zGd_t, zt_24, zTh, ed, nI_add, show (400 : Int32) = nI 400 from rfl, zlt_f (by omega) (by omega), eu, zBd_s, m_hasB, zBd_s, if_neg (fun q => by have := hu.mp q; omega), zBr_p (show (0 : Int32) = 0 from rfl), zLt_s, nI_1]
  by_cases q : 400 < d + D
  · rw [if_pos q]
    refine zLp_run (body := fX12_dark_17 (zI T 0 0 0) (nI l)) (fun i => nI i) (401 - d) 2000 (fun i hi => step i (by omega) (by omega)) ?_ (by omega)
    unfold fX12_dark_17
    dsimp only
    rw [show (60 : Int32) = nI 60 from rfl, zlt_f (by omega) (by omega), zg_24_406, zGd_t, zt_24, zTh, ed, nI_add, show (400 : Int32) = nI 400 from rfl, zlt_t (by omega) (by omega), zXr_s]
  · rw [if_neg q]
    refine zLp_run (body := fX12_dark_17 (zI T 0 0 0) (nI l)) (fun i => nI i) D 2000 (fun i hi => step i hi (by omega)) ?_ (by omega)
    obtain ⟨u, eu, hu⟩ := un D (by omega)
    unfold fX12_dark_17
    dsimp only
    rw [show (60 : Int32) = nI 60 from rfl, zlt_f (by omega) (by omega), zg_24_406, zGd_t, zt_24, zTh, ed, nI_add, show (400 : Int32) = nI 400 from rfl, zlt_f (by omega) (by omega), eu, zBd_s, m_hasB, zBd_s, if_pos (hu.mpr (Nat.le_refl D)), zBr_q (show ¬ (1 : Int32) = 0 by decide), zXr_s]
end Dark
