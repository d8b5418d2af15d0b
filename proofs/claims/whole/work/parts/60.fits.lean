theorem aIs_n {n a : Nat} (hn : n < 1000) (ha : a < 1000) : aIs n (nI a) = if a < n then 1 else 0 := by
  unfold aIs
  rw [if_neg (nI_pos (by omega))]
  by_cases h : a < n
  · rw [if_pos h, if_neg (fun q => by have := (nI_leI (by omega) (by omega)).mp q; omega)]
  · rw [if_neg h, if_pos ((nI_leI (by omega) (by omega)).mpr (by omega))]
section Fits2
variable {S T : zSt}
def aU (m : Nat → Int32) (A B : Nat → Nat) (j : Nat) : Nat := zFo (fun j u => if B j = 1 then u &&& (aSees m (A j) 0).toNatClampNeg else u &&& (31 ^^^ (aSees m (A j) 0).toNatClampNeg)) (2 ^ kL m - 1) j
theorem aU_s (m : Nat → Int32) (A B : Nat → Nat) (j : Nat) : aU m A B (j + 1) = if B j = 1 then aU m A B j &&& (aSees m (A j) 0).toNatClampNeg else aU m A B j &&& (31 ^^^ (aSees m (A j) 0).toNatClampNeg) := rfl
theorem aU_lt {m : Nat → Int32} (h5 : kL m ≤ 5) (A B : Nat → Nat) : ∀ j, aU m A B j < 32
  | 0 => (zAll h5).2.1
  | j + 1 => by
    have ih := aU_lt h5 A B j
    rw [aU_s]
    by_cases h : B j = 1
    · rw [if_pos h]; exact Nat.lt_of_le_of_lt Nat.and_le_left ih
    · rw [if_neg h]; exact Nat.lt_of_le_of_lt Nat.and_le_left ih
theorem aU_v {m : Nat → Int32} (hw : WFh m) (hv : WFl m) {A B : Nat → Nat} {j : Nat} (hA : A j < kP m) : (if B j = 1 then nI (aU m A B j) &&& aSees m (A j) 0 else nI (aU m A B j) &&& (aSees m (A j) 0 ^^^ (-1))) = nI (aU m A B (j + 1)) := by
  obtain ⟨s, hs, es⟩ := aSees_lt hw (hv.2.2.1 (A j) hA).1 0
  rw [aU_s, es, nI_clamp (by omega)]
  by_cases h : B j = 1
  · rw [if_pos h, if_pos h, nI_and]
  · rw [if_neg h, if_neg h, (zAn (aU_lt hw.1.2 A B j) hs).1]
theorem c_fit {m : Nat → Int32} (hh : Rh S.1 4 m) (hw : WFh m) (hl : Rl S.1 14 m) (hv : WFl m) {k : Nat} (hk : k ≤ 6) (hL : S.1 1 1 = nI (2 * k)) {A B : Nat → Nat} {j : Nat} (hj : j < k) (a1 : S.1 2 (2 * j) = nI (A j)) (a2 : A j < 256) (b1 : S.1 2 (2 * j + 1) = nI (B j)) (b2 : B j < 256) : fX2_fittingParlours_43 S (nI (aU m A B j), nI (2 * j)) = if A j < kP m ∧ B j ≤ 1 then some (.inl (nI (aU m A B (j + 1)), nI (2 * (j + 1)))) else some (.inr (-1)) := by
  have h6 := hw.2.1.2
  have hc : fX3_has S 4 1 (nI (A j)) = some (aIs (kP m) (nI (A j))) := c_has hh (show 1 < 4 by omega) hw.2.1.1 _
  unfold fX2_fittingParlours_43 fX2_fittingParlours_122
  dsimp only
  rw [hL, nI_1, zle_f (by omega) (by omega), zIx_nI (by omega) (by omega), zGd_t, zIx_nI (by omega) (by omega), zLt_s, zGd_t, zLt_s, nI_clamp (by omega), nI_clamp (by omega), a1, b1, hc, zBd_s, aIs_n (by omega) (by omega)]
  by_cases hA : A j < kP m
  · rw [if_pos hA, zBr_q (show ¬ (1 : Int32) = 0 by decide), c_seenBy (b := 14) hh hw hl hv hA, zBd_s, zBd_s, zLt_s, zLt_s, zLt_s, show (1 : Int32) = nI 1 from rfl, show (2 : Int32) = nI 2 from rfl, nI_add, show 2 * j + 2 = 2 * (j + 1) by omega]
    rw [← aU_v hw hv hA]
    by_cases hB : B j ≤ 1
    · rw [zle_t hB (by omega), if_pos ⟨hA, hB⟩]
      by_cases h1 : B j = 1
      · rw [if_pos h1, h1, zBr_p rfl]
      · rw [if_neg h1, zBr_q (fun q => h1 ((nI_eq (by omega) (by omega)).mp q))]
        rfl
    · rw [zle_f (by omega) (by omega), zXr_s, if_neg (fun q => hB q.2)]
  · rw [if_neg hA, zBr_p (show (0 : Int32) = 0 from rfl), zXr_s, if_neg (fun q => hA q.1)]
theorem m_fit1 (hw : WFh (T.1 2)) {k : Nat} (hk : k ≤ 6) {A B : Nat → Nat} {j : Nat} (hj : j < k) (a1 : T.1 1 (2 * j) = nI (A j)) (a2 : A j < 256) (b1 : T.1 1 (2 * j + 1) = nI (B j)) (b2 : B j < 256) : fX12_fits_32 T (nI (2 * k)) (nI (2 * j)) = if A j < kP (T.1 2) ∧ B j ≤ 1 then some (.inl (nI (2 * (j + 1)))) else some (.inr (-1, T)) := by
  have h6 := hw.2.1.2
  unfold fX12_fits_32
  dsimp only
  rw [zle_f (by omega) (by omega), zIx_nI (by omega) (by omega), zGd_t, nI_clamp (by omega), a1, m_isPlant hw, zBd_s, aIs_n (by omega) (by omega), nI_1, zIx_nI (by omega) (by omega), zGd_t, nI_clamp (by omega), b1, zLt_s, show (2 : Int32) = nI 2 from rfl, nI_add, show 2 * j + 2 = 2 * (j + 1) by omega]
  by_cases hA : A j < kP (T.1 2)
  · rw [if_pos hA, zBr_q (show ¬ (1 : Int32) = 0 by decide), show (1 : Int32) = nI 1 from rfl]
    by_cases hB : B j ≤ 1
    · rw [zle_t hB (by omega), if_pos ⟨hA, hB⟩]
    · rw [zle_f (by omega) (by omega), zXr_s, if_neg (fun q => hB q.2)]
  · rw [if_neg hA, zBr_p (show (0 : Int32) = 0 from rfl), zXr_s, if_neg (fun q => hA q.1)]
theorem m_fit2 (hw : WFh (T.1 2)) (hv : WFl (T.1 2)) {k : Nat} (hk : k ≤ 6) {A B : Nat → Nat} {j : Nat} (hj : j < k) (a1 : T.1 1 (2 * j) = nI (A j)) (hA : A j < kP (T.1 2)) (b1 : T.1 1 (2 * j + 1) = nI (B j)) (hB : B j ≤ 1) : fX12_fits_86 T (nI (2 * k)) (nI (aU (T.1 2) A B j), nI (2 * j)) = some (.inl (nI (aU (T.1 2) A B (j + 1)), nI (2 * (j + 1)))) := by
  have h6 := hw.2.1.2
  unfold fX12_fits_86 fX12_fits_135
  dsimp only
  rw [zle_f (by omega) (by omega), nI_1, zIx_nI (by omega) (by omega), zGd_t, nI_clamp (by omega), b1, zIx_nI (by omega) (by omega), zGd_t, zGd_t, nI_clamp (by omega), a1, m_seesOf hw hv hA, zBd_s, zBd_s, zLt_s, zLt_s, zLt_s, zLt_s, show (2 : Int32) = nI 2 from rfl, nI_add, show 2 * j + 2 = 2 * (j + 1) by omega, ← aU_v hw hv hA]
  by_cases h1 : B j = 1
  · rw [if_pos h1, h1, zBr_p (show nI 1 = (1 : Int32) from rfl)]
  · rw [if_neg h1, zBr_q (show ¬ nI (B j) = (1 : Int32) from fun q => h1 ((nI_eq (b := 1) (by omega) (by omega)).mp q))]
theorem op_fits (r : Rel S T) : ∃ z S' T', fX11_fits S = some (z, S') ∧ fX12_fits T = some (z, T') ∧ Rel S' T' := by
  have rk := Rel_take r
  obtain ⟨⟨L, l1, l2, l3, l4⟩, ⟨hh, hw, hl, hv, -⟩, -⟩ := id r
  have h6 := hw.2.1.2
  have h5 := hw.1.2
  obtain ⟨T', hT'⟩ : ∃ X, X = zI (zI T 0 0 0) 0 2 0 := ⟨_, rfl⟩
  obtain ⟨S', hS'⟩ : ∃ X, X = zI S 1 1 0 := ⟨_, rfl⟩
  have t2 : T'.1 2 = T.1 2 := by rw [hT', zI_ne (by omega), zI_ne (by omega)]
  have t1 : T'.1 1 = T.1 1 := by rw [hT', zI_ne (by omega), zI_ne (by omega)]
  rw [← hS', ← hT'] at rk
  have hm : ∀ f : Int32 → zSt → Option (Int32 × zSt), zBp (fX12_take (zI T 0 0 0)) f = f (nI L) T' := fun f => by
    unfold fX12_take
    rw [zLt_s, zLt_s, ← hT', zBp_s, zTh0 T 0 2 (by omega), l3]
  have bad : fX2_fittingParlours S = some (-1) → fX12_fits T = some (-1, T') → ∃ z S' T', fX11_fits S = some (z, S') ∧ fX12_fits T = some (z, T') ∧ Rel S' T' := by
    intro e1 e2
    refine ⟨-1, S', T', ?_, e2, rk⟩
    unfold fX11_fits fX9_clear
    rw [e1, zBd_s, zLt_s, ← hS', zBd_s, zBr_p (by decide)]
  have mh : fX12_fits T = zGd (decide (¬ (2 : Int32) = 0)) (zBr (nI L - nI L / (2 : Int32) * (2 : Int32) = 0) (zGd (decide (¬ (2 : Int32) = 0)) (zBd (fX12_isIn (nI L / (2 : Int32)) (1 : Int32) (6 : Int32)) (fun r9 => zBr (r9 = 0) (some ((-1 : Int32), T')) (zLp (fX12_fits_32 T' (nI L)) 2000 ((0 : Int32)))))) (some ((-1 : Int32), T'))) := by
    unfold fX12_fits
    rw [zLt_s, hm]
  rw [show decide (¬ (2 : Int32) = 0) = true from rfl, zGd_t, zGd_t, show (2 : Int32) = nI 2 from rfl, pk_rem (by omega) (by omega) (by omega), pk_div (by omega) (by omega) (by omega)] at mh
  have ch : fX2_fittingParlours S = zBr (nI L < nI 2) (some (-1 : Int32)) (zBr (nI 12 < nI L) (some (-1 : Int32)) (zBr (nI (L % 2) = 0) (zLp (fX2_fittingParlours_43 S) 2000 (nI (2 ^ kL (T.1 2) - 1), (0 : Int32))) (some (-1 : Int32)))) := by
    unfold fX2_fittingParlours fX11_allBits
    rw [l2, show decide (¬ (2 : Int32) = 0) = true from rfl, zGd_t, zg_0_4, zGd_t, zt_0, hh.1 0 (by omega), hw.1.1, (zAll h5).1, zBd_s, show (2 : Int32) = nI 2 from rfl, pk_rem (by omega) (by omega) (by omega)]
    rfl
  by_cases ho : L % 2 = 0
  · obtain ⟨k, rfl⟩ : ∃ k, L = 2 * k := ⟨L / 2, by omega⟩
    rw [zBr_p (show nI (2 * k % 2) = 0 by rw [ho]; rfl), show 2 * k / 2 = k by omega] at mh
    rw [zBr_p (show nI (2 * k % 2) = 0 by rw [ho]; rfl)] at ch
    unfold fX12_isIn at mh
    by_cases k0 : k = 0
    · subst k0
      exact bad (by rw [ch, zlt_t (by omega) (by omega)]) (by rw [mh, zBr_p (show nI 0 < 1 by decide), zBd_s, zBr_p rfl])
    by_cases k6 : 6 < k
    · exact bad (by rw [ch, zlt_f (by omega) (by omega), zlt_t (by omega) (by omega)]) (by rw [mh, show (1 : Int32) = nI 1 from rfl, show (6 : Int32) = nI 6 from rfl, zlt_f (by omega) (by omega), zlt_t (by omega) (by omega), zBd_s, zBr_p rfl])
    rw [show (1 : Int32) = nI 1 from rfl, show (6 : Int32) = nI 6 from rfl, zlt_f (by omega) (by omega), zlt_f (by omega) (by omega), zBd_s, zBr_q (show ¬ nI 1 = 0 by decide)] at mh
    rw [zlt_f (by omega) (by omega), zlt_f (by omega) (by omega)] at ch
    obtain ⟨A, hA⟩ : ∃ A : Nat → Nat, ∀ j, A j = (T.1 1 (2 * j)).toNatClampNeg := ⟨_, fun _ => rfl⟩
    obtain ⟨B, hB⟩ : ∃ B : Nat → Nat, ∀ j, B j = (T.1 1 (2 * j + 1)).toNatClampNeg := ⟨_, fun _ => rfl⟩
    have ya : ∀ j, j < k → T.1 1 (2 * j) = nI (A j) ∧ A j < 256 ∧ S.1 2 (2 * j) = nI (A j) := fun j hj => by
      obtain ⟨g1, g2⟩ := l4 (2 * j) (by omega)
      obtain ⟨e1, e2⟩ := zIn_eq g2 (by omega)
      rw [← hA j] at e1 e2
      exact ⟨e1, e2, g1.trans e1⟩
    have yb : ∀ j, j < k → T.1 1 (2 * j + 1) = nI (B j) ∧ B j < 256 ∧ S.1 2 (2 * j + 1) = nI (B j) := fun j hj => by
      obtain ⟨g1, g2⟩ := l4 (2 * j + 1) (by omega)
      obtain ⟨e1, e2⟩ := zIn_eq g2 (by omega)
      rw [← hB j] at e1 e2
      exact ⟨e1, e2, g1.trans e1⟩
    have cf : ∀ j, j < k → _ := fun j hj => c_fit (A := A) (B := B) hh hw hl hv (by omega) l2 hj (ya j hj).2.2 (ya j hj).2.1 (yb j hj).2.2 (yb j hj).2.1
    have mf : ∀ j, j < k → _ := fun j hj => m_fit1 (T := T') (A := A) (B := B) (by rw [t2]; exact hw) (show k ≤ 6 by omega) hj (by rw [t1]; exact (ya j hj).1) (ya j hj).2.1 (by rw [t1]; exact (yb j hj).1) (yb j hj).2.1
    rcases zFirst (fun j => A j < kP (T.1 2) ∧ B j ≤ 1) k with all | ⟨n, hn, n1, n2⟩
    · have hu := aU_lt h5 A B k
      have e1 : fX2_fittingParlours S = some (nI (aU (T.1 2) A B k)) := by
        rw [ch]
        refine zLp_run (body := fX2_fittingParlours_43 S) (fun j => (nI (aU (T.1 2) A B j), nI (2 * j))) k 2000 (fun j hj => ?_) ?_ (by omega)
        · rw [cf j hj, if_pos (all j hj)]
        · unfold fX2_fittingParlours_43
          dsimp only
          rw [l2, nI_1, zle_t (by omega) (by omega), zXr_s]
      have kp : 0 < kP (T.1 2) := by have := (all 0 (by omega)).1; omega
      have e2 : fX12_fits T = some (if aU (T.1 2) A B k = 0 then (0, T') else (nI (aU (T.1 2) A B k), zI T' 0 25 (zFo (zAk (fun p => if p < kP (T'.1 2) then aEven (T'.1 2) (aU (T.1 2) A B k) p else 0)) (T'.1 0 25, 100000) (kP (T'.1 2))).1)) := by
        rw [mh]
        refine zLp_run (body := fX12_fits_32 T' (nI (2 * k))) (fun j => nI (2 * j)) k 2000 (fun j hj => ?_) ?_ (by omega)
        · rw [mf j hj, t2, if_pos (all j hj)]
        · unfold fX12_fits_32
          dsimp only
          rw [zle_t (Nat.le_refl _) (by omega), zg_0_406, zGd_t, zt_0, t2, hw.1.1, (zAll h5).1, zLt_s]
          have e3 : zLp (fX12_fits_86 T' (nI (2 * k))) 2000 (nI (2 ^ kL (T.1 2) - 1), 0) = some (if aU (T.1 2) A B k = 0 then (0, T') else (nI (aU (T.1 2) A B k), zI T' 0 25 (zFo (zAk (fun p => if p < kP (T'.1 2) then aEven (T'.1 2) (aU (T.1 2) A B k) p else 0)) (T'.1 0 25, 100000) (kP (T'.1 2))).1)) := by
            refine zLp_run (body := fX12_fits_86 T' (nI (2 * k))) (fun j => (nI (aU (T.1 2) A B j), nI (2 * j))) k 2000 (fun j hj => ?_) ?_ (by omega)
            · have := m_fit2 (T := T') (A := A) (B := B) (by rw [t2]; exact hw) (by rw [t2]; exact hv) (show k ≤ 6 by omega) hj (by rw [t1]; exact (ya j hj).1) (by rw [t2]; exact (all j hj).1) (by rw [t1]; exact (yb j hj).1) (all j hj).2
              rw [t2] at this
              exact this
            · unfold fX12_fits_86
              dsimp only
              rw [zle_t (Nat.le_refl _) (by omega)]
              by_cases q : aU (T.1 2) A B k = 0
              · rw [zBr_p (by rw [q]; rfl), zXr_s, if_pos q]
              · rw [zBr_q (show ¬ nI (aU (T.1 2) A B k) = (0 : Int32) from fun z => q ((nI_eq (b := 0) (by omega) (by omega)).mp z)), m_fitsAsk (T := T') (by rw [t2]; exact hw) (by rw [t2]; exact hv) hu, zXr_s, if_neg q]
          rw [e3, zXr_s, t2]
      obtain ⟨u, eu⟩ : ∃ u, u = aU (T.1 2) A B k := ⟨_, rfl⟩
      rw [← eu] at e1 e2 hu
      rw [t2] at e2
      obtain ⟨n, en⟩ : ∃ n, kP (T.1 2) = n + 1 := ⟨kP (T.1 2) - 1, by omega⟩
      unfold fX11_fits fX9_clear
      rw [e1, e2, zBd_s, zLt_s, ← hS', zBd_s]
      by_cases q : u = 0
      · subst q
        rw [if_pos rfl, zBr_p (show nI 0 ≤ 0 by decide)]
        exact ⟨0, S', T', rfl, rfl, rk⟩
      · rw [if_neg q, zBr_q (show ¬ nI u ≤ 0 from fun z => by have := (nI_leI (b := 0) (by omega) (by omega)).mp z; omega)]
        obtain ⟨-, ⟨hh', hw', hl', hv', -⟩, -⟩ := id rk
        have e4 := c_plantToAsk (S := S') hh' hw' hl' hv' hu
        rw [t2] at e4
        have ev : ∀ p, (fun p => if p < kP (T.1 2) then aEven (T.1 2) u p else 0) p ≤ 5 := fun p => by
          dsimp only
          by_cases hp : p < kP (T.1 2)
          · obtain ⟨s, hs, es⟩ := aSees_lt hw (hv.2.2.1 p hp).1 0
            rw [if_pos hp]
            exact aEven_le hu (by rw [es, nI_clamp (by omega)]; exact hs)
          · rw [if_neg hp]; omega
        have e5 := zAk_same ev (-1) (T'.1 0 25) n
        rw [← en] at e5
        rw [e5] at e4
        rw [e4, zBd_s, zLt_s]
        refine ⟨nI u, _, _, rfl, rfl, ?_⟩
        refine Rel_zero rk rfl (fun c hc => zI_ne hc) rfl (fun c hc => zI_ne hc) (fun j hj => by rw [zI_at, if_neg (by omega)]) ⟨?_, ?_, ?_⟩
        · rw [zI_at, if_neg (by omega), zI_at, if_neg (by omega)]; exact rk.2.2.2.2.2.1.1
        · rw [zI_at, if_pos ⟨rfl, rfl⟩, zI_at, if_pos ⟨rfl, rfl⟩]
        · rw [zI_at, if_neg (by omega), zI_at, if_neg (by omega)]; exact rk.2.2.2.2.2.1.2.2
    · refine bad ?_ ?_
      · rw [ch]
        refine zLp_run (body := fX2_fittingParlours_43 S) (fun j => (nI (aU (T.1 2) A B j), nI (2 * j))) n 2000 (fun j hj => ?_) ?_ (by omega)
        · rw [cf j (by omega), if_pos (n1 j hj)]
        · rw [cf n hn, if_neg n2]
      · rw [mh]
        refine zLp_run (body := fX12_fits_32 T' (nI (2 * k))) (fun j => nI (2 * j)) n 2000 (fun j hj => ?_) ?_ (by omega)
        · rw [mf j (by omega), t2, if_pos (n1 j hj)]
        · rw [mf n hn, t2, if_neg n2]
  · have q : ¬ nI (L % 2) = 0 := fun z => ho ((nI_eq (b := 0) (by omega) (by omega)).mp z)
    refine bad ?_ ?_
    · rw [ch]
      by_cases q1 : L < 2
      · rw [zlt_t q1 (by omega)]
      · rw [zlt_f (by omega) (by omega)]
        by_cases q2 : 12 < L
        · rw [zlt_t q2 (by omega)]
        · rw [zlt_f (by omega) (by omega), zBr_q q]
    · rw [mh, zBr_q q]
end Fits2
