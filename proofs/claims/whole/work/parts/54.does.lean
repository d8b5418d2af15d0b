theorem aSees_eq {m g : Nat → Int32} {p : Nat} (h : ∀ k, k < 24 → g k = m k) (h1 : g (26 + p) = m (26 + p)) (h2 : g (32 + p) = m (32 + p)) (hr : (m (26 + p)).toNatClampNeg < 5) (more : Int32) : aSees g p more = aSees m p more := by
  unfold aSees aFern aRch
  rw [h1, h2, h 23 (by omega), h 4 (by omega), h (6 + (m (26 + p)).toNatClampNeg) (by omega)]
theorem m_doDeed {T : zSt} (hw : WFh (T.1 2)) (hv : WFl (T.1 2)) (hn : kA (T.1 2) < 12) {a d : Int32} {l : Nat} (ha : zIn a (kE (T.1 2))) (hd : zIn d (kD (T.1 2))) (hl : l < kL (T.1 2)) : fX12_doDeed T a d (nI l) = some (zPut T 2 (aDo (T.1 2) a d l (kA (T.1 2)) (kP (T.1 2)))) := by
  have h6 := hw.2.1.2
  have h5 := hw.1.2
  obtain ⟨n, hN⟩ : ∃ n, n = kA (T.1 2) := ⟨_, rfl⟩
  obtain ⟨m, hM⟩ : ∃ m, m = T.1 2 := ⟨_, rfl⟩
  have e25 : m 25 = nI n := by rw [hN, ← hM]; rw [← hM] at hv; exact hv.2.1.1
  rw [← hM] at hw hv hn ha hd hl h6 h5 hN ⊢
  rw [← hN] at hn ⊢
  unfold fX12_doDeed
  rw [zg_25_406, zGd_t, zt_25, ← hM, e25, zLt_s, zo_38, zo_50, zo_62, zo_74, zIx_nI (show 38 + n < 406 by omega) (by omega), zIx_nI (show 50 + n < 406 by omega) (by omega), zIx_nI (show 62 + n < 406 by omega) (by omega), zIx_nI (show 74 + n < 406 by omega) (by omega), zg_24_406, nI_clamp (show 38 + n < 2 ^ 31 by omega), nI_clamp (show 50 + n < 2 ^ 31 by omega), nI_clamp (show 62 + n < 2 ^ 31 by omega), nI_clamp (show 74 + n < 2 ^ 31 by omega), zt_24, zI_put T, ← hM]
  simp only [zGd_t, zLt_s, zI_zPut, zPut_eq]
  rw [pk_un (show (24 : Nat) ≠ 62 + n by omega), pk_un (show (24 : Nat) ≠ 50 + n by omega), pk_un (show (24 : Nat) ≠ 38 + n by omega), pk_un (show (25 : Nat) ≠ 74 + n by omega), pk_un (show (25 : Nat) ≠ 62 + n by omega), pk_un (show (25 : Nat) ≠ 50 + n by omega), pk_un (show (25 : Nat) ≠ 38 + n by omega), e25, nI_1, aDo_0 hn]
  have key := zLp_run (body := fX12_doDeed_73 (nI l) (nI n)) (fun i => (zPut T 2 (aDo m a d l n i), nI i)) (r := zPut T 2 (aDo m a d l n (kP m))) (kP m) 2000 (fun i hi => ?_) ?_ (by omega)
  · exact key
  · have hk := aDo_k (m := m) (a := a) (d := d) (l := l) (j := i) hn
    have lo : ∀ k, k < 38 → k ≠ 25 → aDo m a d l n i k = m k := fun k q1 q2 => aDo_lo (by omega) q2 (by omega) (by omega) (by omega) (by omega)
    have w1 : WFh (aDo m a d l n i) := WFh_m (fun k hk => lo k (by omega) (by omega)) hw
    have w2 : WFl (aDo m a d l n i) := by rw [hN]; exact WFl_deed hw hv (by omega) (by omega) ha hd hl
    have e1 : fX12_seesOf (zPut T 2 (aDo m a d l n i)) (nI i) 0 = some (aSees m i 0) := by
      rw [m_seesOf (T := zPut T 2 (aDo m a d l n i)) (by rw [zPut_eq]; exact w1) (by rw [zPut_eq]; exact w2) (by rw [zPut_eq, hk.2.1]; exact hi), zPut_eq]
      obtain ⟨y, hy, ey⟩ := (hv.2.2.1 i hi).1
      rw [aSees_eq (m := m) (fun k hk => lo k (by omega) (by omega)) (lo _ (by omega) (by omega)) (lo _ (by omega) (by omega)) (by rw [ey, nI_clamp (by omega)]; omega)]
    have e2 : fX12_nextLeaf (zPut T 2 (aDo m a d l n i)) (nI i) = some (aNext m i) := by
      rw [m_nextLeaf (by omega), zPut_eq]
      unfold aNext
      rw [aDo_hi hn (show 86 ≤ 158 + i by omega) (by omega) (by omega), lo 24 (by omega) (by omega), lo (17 + i) (by omega) (by omega)]
    unfold fX12_doDeed_73 fX12_doDeed_145
    dsimp only
    rw [zg_1_406, zGd_t, zt_1, zPut_eq, lo 1 (by omega) (by omega), hw.2.1.1, zle_f hi (by omega), e1, zBd_s, m_hasB, zBd_s]
    by_cases hb : aBit (aSees m i 0) l = true
    · rw [if_pos hb, zBr_q (show ¬ (1 : Int32) = 0 by decide), e2, zBd_s, zo_158, zIx_nI (by omega) (by omega), zGd_t, zLt_s, zGd_t, show (12 : Int32) = nI 12 from rfl, pk_mul, zo_86, nI_add, zIx_nI (by omega) (by omega), zGd_t, zLt_s, zLt_s, nI_clamp (by omega), nI_clamp (by omega), zI_zPut, zPut_eq, pk_us, zI_zPut, nI_1, aDo_yes hn (by omega) hb]
    · rw [if_neg hb, zBr_p (show (0 : Int32) = 0 from rfl), zLt_s, nI_1, aDo_no hn (by omega) hb]
  · unfold fX12_doDeed_73
    dsimp only
    rw [zg_1_406, zGd_t, zt_1, zPut_eq, aDo_lo (show 1 < 86 by omega) (by omega) (by omega) (by omega) (by omega) (by omega), hw.2.1.1, zle_t (by omega) (by omega), zXr_s]
