/-! round: the reference's walk -/
theorem aDp_lt {m : Nat → Int32} (hw : WFh m) (hv : WFl m) : ∀ n, n ≤ kP m → ∃ d, d < 32 ∧ zFo (aDp m) 0 n = nI d
  | 0, _ => ⟨0, by omega, rfl⟩
  | n + 1, h => by
    have h5 := hw.1.2
    obtain ⟨d, hd, ed⟩ := aDp_lt hw hv n (by omega)
    obtain ⟨a, ha, ea⟩ := (hv.2.2.1 n (by omega)).1
    rw [zFo, ed, aDp]
    by_cases q : m (32 + n) ≤ 0
    · rw [if_pos q]; exact ⟨d, hd, rfl⟩
    · rw [if_neg q, ea, zSh1 (by omega), nI_or]
      exact ⟨_, Nat.or_lt_two_pow (n := 5) hd (Nat.pow_lt_pow_right (by omega) (by omega)), rfl⟩
section Walk2
variable {T : zSt}
theorem m_stepTo (hw : WFh (T.1 2)) {t : Nat → Nat → Nat} (ht : tOk (adM (T.1 2)) t) (hf : ∀ l lf, l < 5 → lf < 32 → T.1 12 (32 * l + lf) = nI (t l lf) ∧ t l lf ≤ 100000) {n i q a lf : Nat} (ha : a < kL (T.1 2)) (hlf : lf < 32) (hq : n = i + q + 1) (hn : n ≤ 25) (e : t a lf = q + 1) : zLp (fX12_round_108 T (nI lf) (nI n) (nI a) (nI i)) 2000 0 = some (.inl (zI T 13 i (nI (gK (adM (T.1 2)) t q a lf)), nI (lfM lf (gK (adM (T.1 2)) t q a lf)), nI (gK (adM (T.1 2)) t q a lf), nI (i + 1))) := by
  have h5 := hw.1.2
  obtain ⟨g1, g2, g3, g4⟩ := gK_ok (adM_ok hw) ht (by omega) hlf e (by omega)
  obtain ⟨K, hK⟩ : ∃ K, K = gK (adM (T.1 2)) t q a lf := ⟨_, rfl⟩
  rw [← hK] at g1 g2 g3 g4 ⊢
  have e1 : (nI n - nI i) - (1 : Int32) = nI q := by
    rw [pk_sub (by omega), show (1 : Int32) = nI 1 from rfl, pk_sub (by omega), show n - i - 1 = q by omega]
  refine zLp_run (body := fX12_round_108 T (nI lf) (nI n) (nI a) (nI i)) (fun j => nI j) K 2000 (fun j hj => ?_) ?_ (by omega)
  · have lk := lfM_lt (k := j) hlf
    have b := (hf j (lfM lf j) (by omega) lk).2
    unfold fX12_round_108 fX12_round_153
    dsimp only
    rw [zo_6, zIx_nI (by omega) (by omega), zGd_t, nI_clamp (by omega), (adM_has hw ha (by omega)).1, zBd_s, zLf hlf (by omega), m_cell, zBd_s, zIx_nI (by omega) (by omega), zGd_t, nI_clamp (by omega), (hf j (lfM lf j) (by omega) lk).1, e1, zLt_s, nI_1]
    by_cases had : adM (T.1 2) a j = true
    · rw [if_pos had, zBr_q (show ¬ (1 : Int32) = 0 by decide), zBr_q (fun z => g4 j hj ⟨had, (nI_eq (by omega) (by omega)).mp z⟩)]
    · rw [if_neg had, zBr_p (show (0 : Int32) = 0 from rfl)]
  · have lk := lfM_lt (k := K) hlf
    unfold fX12_round_108
    dsimp only
    rw [zo_6, zIx_nI (by omega) (by omega), zGd_t, nI_clamp (by omega), (adM_has hw ha (by omega)).1, zBd_s, zLf hlf (by omega), m_cell, zBd_s, zIx_nI (by omega) (by omega), zGd_t, nI_clamp (by omega), (hf K (lfM lf K) (by omega) lk).1, e1, g2, if_pos g1, zBr_q (show ¬ (1 : Int32) = 0 by decide), zBr_p rfl, zIx_nI (by omega) (by omega), zGd_t, nI_clamp (by omega), zLt_s, zLt_s, zLt_s, nI_1, zXr_s]
theorem m_walk (hw : WFh (T.1 2)) {t : Nat → Nat → Nat} (ht : tOk (adM (T.1 2)) t) (hf : ∀ l lf, l < 5 → lf < 32 → T.1 12 (32 * l + lf) = nI (t l lf) ∧ t l lf ≤ 100000) {a0 lf0 : Nat} (ha0 : a0 < kL (T.1 2)) (hlf0 : lf0 < 32) (hN : t a0 lf0 < 100000) : t a0 lf0 ≤ 25 ∧ ∃ g, zLp (fX12_round_99 (nI (t a0 lf0))) 2000 (T, nI lf0, nI a0, 0) = some (nI (t a0 lf0), zI (zPut T 13 g) 0 29 (nI (t a0 lf0))) ∧ ∀ x v, (gM (adM (T.1 2)) t (t a0 lf0) a0 lf0)[x]? = some v → g x = nI v := by
  have h5 := hw.1.2
  obtain ⟨n, hn⟩ : ∃ n, n = t a0 lf0 := ⟨_, rfl⟩
  have n25 : n ≤ 25 := by
    have := ht.2.1 a0 lf0 (by omega) hlf0 hN
    rw [hn]
    exact tOk_le (adM_ok hw) ht 25 a0 lf0 (by omega) hlf0 (eB_25 hlf0 (by omega) this)
  rw [← hn]
  refine ⟨n25, ?_⟩
  obtain ⟨M, hM⟩ : ∃ M, M = gM (adM (T.1 2)) t n a0 lf0 := ⟨_, rfl⟩
  rw [← hM]
  have ml : M.length = n := by rw [hM, gM_len]
  obtain ⟨R, e, g, eR, hg⟩ := zLp_inv (body := fX12_round_99 (nI n)) (fun i s => ∃ g a lf, s = (zPut T 13 g, nI lf, nI a, nI i) ∧ a < kL (T.1 2) ∧ lf < 32 ∧ t a lf + i = n ∧ M.drop i = gM (adM (T.1 2)) t (t a lf) a lf ∧ ∀ x v, x < i → M[x]? = some v → g x = nI v) (fun R => ∃ g, R = (nI n, zI (zPut T 13 g) 0 29 (nI n)) ∧ ∀ x v, M[x]? = some v → g x = nI v) n (fun i s hi hI => by
    obtain ⟨g, a, lf, rfl, ha, hlf, e1, e2, e3⟩ := hI
    unfold fX12_round_99
    dsimp only
    by_cases q : i < n
    · obtain ⟨k, hk⟩ : ∃ k, t a lf = k + 1 := ⟨t a lf - 1, by omega⟩
      have x2 : (zPut T 13 g).1 2 = T.1 2 := zPut_ne (by omega)
      have x12 : (zPut T 13 g).1 12 = T.1 12 := zPut_ne (by omega)
      have s1 := m_stepTo (T := zPut T 13 g) (by rw [x2]; exact hw) (t := t) (by rw [x2]; exact ht) (by rw [x12]; exact hf) (n := n) (i := i) (q := k) (a := a) (lf := lf) (by rw [x2]; exact ha) hlf (by omega) n25 hk
      rw [x2] at s1
      obtain ⟨g1, g2, g3, g4⟩ := gK_ok (adM_ok hw) ht (by omega) hlf hk (by omega)
      rw [hk, gM] at e2
      refine Or.inl ⟨_, by rw [zle_f q (by omega), s1], ⟨upd g i (nI (gK (adM (T.1 2)) t k a lf)), _, _, by rw [zI_zPut], (adM_lt hw g1).2, lfM_lt hlf, by omega, ?_, fun x v hx hv => ?_⟩, q⟩
      · rw [g2, ← List.tail_drop, e2, List.tail_cons]
      · by_cases ex : x = i
        · subst ex
          have := List.getElem?_drop (xs := M) (i := x) (j := 0)
          rw [e2, Nat.add_zero, hv] at this
          rw [pk_us]
          congr 1
          simpa using this
        · rw [pk_un ex]
          exact e3 x v (by omega) hv
    · have ei : i = n := by omega
      subst ei
      refine Or.inr ⟨_, by rw [zle_t (Nat.le_refl _) (by omega), zLt_s, zXr_s], g, rfl, fun x v hv => e3 x v ?_ hv⟩
      have := (List.getElem?_eq_some_iff.mp hv).1
      omega) 2000 0 (T, nI lf0, nI a0, 0) (by omega) (by omega) ⟨T.1 13, a0, lf0, by rw [zPut_id]; rfl, ha0, hlf0, by omega, by rw [List.drop_zero, hM, hn], fun x v hx => by omega⟩
  exact ⟨g, by rw [e, eR], hg⟩
theorem m_round (hw : WFh (T.1 2)) (hv : WFl (T.1 2)) {a nd : Nat} (ha : a < kL (T.1 2)) (hnd : nd < 32) (hd : zFo (aDp (T.1 2)) 0 (kP (T.1 2)) = nI nd) : ∃ f t, tOk (adM (T.1 2)) t ∧ ((100000 ≤ t a (lfM nd a) ∧ zLp (fX12_round_19 T (nI a)) 2000 (0, 0) = some (-1, zPut T 12 f)) ∨ (t a (lfM nd a) ≤ 25 ∧ ∃ g, zLp (fX12_round_19 T (nI a)) 2000 (0, 0) = some (nI (t a (lfM nd a)), zI (zPut (zPut T 12 f) 13 g) 0 29 (nI (t a (lfM nd a)))) ∧ ∀ x v, (gM (adM (T.1 2)) t (t a (lfM nd a)) a (lfM nd a))[x]? = some v → g x = nI v)) := by
  have h5 := hw.1.2
  have h6 := hw.2.1.2
  obtain ⟨f, t, e1, e2, e3⟩ := m_lay hw
  have lk := lfM_lt (k := a) hnd
  have b := (e2 a (lfM nd a) (by omega) lk).2
  refine ⟨f, t, e3, ?_⟩
  have run : ∀ R, zBr (nI (t a (lfM nd a)) < (100000 : Int32)) (zLp (fX12_round_99 (nI (t a (lfM nd a)))) 2000 (zPut T 12 f, nI (lfM nd a), nI a, (0 : Int32))) (some ((-1 : Int32), zPut T 12 f)) = some R → zLp (fX12_round_19 T (nI a)) 2000 (0, 0) = some R := by
    intro R hR
    refine zLp_fold (F := aDp (T.1 2)) (n := kP (T.1 2)) (fun acc p hp => ?_) ?_ (by omega)
    · unfold fX12_round_19 fX12_round_55
      dsimp only
      rw [zg_1_406, zGd_t, zt_1, hw.2.1.1, zle_f hp (by omega), zo_32, zIx_nI (by omega) (by omega), zGd_t, nI_clamp (by omega), zo_26, zIx_nI (by omega) (by omega), zGd_t, nI_clamp (by omega), zLt_s, zLt_s, zLt_s, nI_1, aDp]
      by_cases q : T.1 2 (32 + p) ≤ 0
      · rw [zBr_p q, if_pos q]
      · rw [zBr_q q, if_neg q]
    · rw [hd]
      unfold fX12_round_19
      dsimp only
      rw [zg_1_406, zGd_t, zt_1, hw.2.1.1, zle_t (Nat.le_refl _) (by omega), zLf hnd (by omega), zLt_s, e1, zBd_s, m_cell, zBd_s, zIx_nI (by omega) (by omega), zGd_t, zLt_s, nI_clamp (by omega), zPut_eq, (e2 a (lfM nd a) (by omega) lk).1, hR, zXr_s]
  by_cases q : t a (lfM nd a) < 100000
  · have x2 : (zPut T 12 f).1 2 = T.1 2 := zPut_ne (by omega)
    obtain ⟨n25, g, k1, k2⟩ := m_walk (T := zPut T 12 f) (by rw [x2]; exact hw) (t := t) (by rw [x2]; exact e3) (by rw [zPut_eq]; exact e2) (a0 := a) (lf0 := lfM nd a) (by rw [x2]; exact ha) lk q
    rw [x2] at k2
    exact Or.inr ⟨n25, g, run _ (by rw [zBr_p (show nI (t a (lfM nd a)) < (100000 : Int32) from (nI_ltI (b := 100000) (by omega) (by omega)).mpr q), k1]), k2⟩
  · exact Or.inl ⟨by omega, run _ (by rw [zBr_q (show ¬ nI (t a (lfM nd a)) < (100000 : Int32) from fun z => q ((nI_ltI (b := 100000) (by omega) (by omega)).mp z))])⟩
end Walk2
