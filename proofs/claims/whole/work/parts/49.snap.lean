theorem zm140 {k i : Nat} : (140 : Int32) * nI k + nI i = nI (140 * k + i) := by
  rw [show (140 : Int32) = nI 140 from rfl, pk_mul, nI_add]
theorem m_snap50 {T : zSt} {k : Nat} (h : T.1 0 24 = nI k) (hk : k ≤ 7) : fX12_snap_50 T = some (zI (zPut T 5 (zSeg (fun i => T.1 2 (24 + i)) (T.1 5) (140 * k) 140)) 0 24 (nI (k + 1))) := by
  unfold fX12_snap_50
  refine zLp_copy (c := 5) (o := 140 * k) (n := 140) (f := fun i => T.1 2 (24 + i)) (fun i hi => ?_) ?_ (by omega)
  · unfold fX12_snap_52
    dsimp only
    rw [zPut_ne (show (0 : Nat) ≠ 5 by omega), zPut_ne (show (2 : Nat) ≠ 5 by omega), h, zm140, zo_24, show (140 : Int32) = nI 140 from rfl, zle_f hi (by omega), zIx_nI (by omega) (by omega), zGd_t, zIx_nI (by omega) (by omega), zGd_t, zLt_s, zLt_s, nI_clamp (by omega), nI_clamp (by omega), nI_1]
  · unfold fX12_snap_52
    dsimp only
    rw [zBr_p (show (140 : Int32) ≤ nI 140 by decide), zPut_ne (show (0 : Nat) ≠ 5 by omega), h, zLt_s, nI_1, zXr_s]
theorem m_snap {T : zSt} {k : Nat} (h : T.1 0 24 = nI k) (hk : k ≤ 8) : ∃ T' j g, fX12_snap T = some T' ∧ T'.2 = T.2 ∧ (∀ c, c ≠ 0 → c ≠ 5 → T'.1 c = T.1 c) ∧ (∀ x, x ≠ 24 → T'.1 0 x = T.1 0 x) ∧ T'.1 0 24 = nI (j + 1) ∧ T'.1 5 = zSeg (fun i => T.1 2 (24 + i)) g (140 * j) 140 ∧ ((k < 8 ∧ j = k ∧ g = T.1 5) ∨ (k = 8 ∧ j = 7 ∧ ∀ x, x < 980 → g x = T.1 5 (x + 140))) := by
  unfold fX12_snap
  by_cases h8 : k = 8
  · subst h8
    rw [h, zBr_p (show nI 8 = (8 : Int32) by decide)]
    obtain ⟨G, hG⟩ : ∃ G, G = zSeg (fun i => T.1 5 (i + 140)) (T.1 5) 0 980 := ⟨_, rfl⟩
    obtain ⟨T1, hT1⟩ : ∃ X, X = zI (zPut T 5 G) 0 24 (nI 7) := ⟨_, rfl⟩
    have e1 : T1.1 0 24 = nI 7 := by rw [hT1, zI_at, if_pos ⟨rfl, rfl⟩]
    have e5 : T1.1 5 = G := by rw [hT1, zI_ne (by omega), zPut_eq]
    have e2 : T1.1 2 = T.1 2 := by rw [hT1, zI_ne (by omega), zPut_ne (by omega)]
    refine ⟨zI (zPut T1 5 (zSeg (fun i => T1.1 2 (24 + i)) (T1.1 5) (140 * 7) 140)) 0 24 (nI (7 + 1)), 7, G, ?_, ?_, ?_, ?_, ?_, ?_, Or.inr ⟨rfl, rfl, fun x hx => by rw [hG, zSeg_in (by omega) (by omega), Nat.sub_zero]⟩⟩
    · refine zLp_copy (c := 5) (o := 0) (n := 980) (f := fun i => T.1 5 (i + 140)) (r := zI (zPut T1 5 (zSeg (fun i => T1.1 2 (24 + i)) (T1.1 5) (140 * 7) 140)) 0 24 (nI (7 + 1))) (fun i hi => ?_) ?_ (by omega)
      · unfold fX12_snap_11
        dsimp only
        rw [zPut_eq, show (980 : Int32) = nI 980 from rfl, show (140 : Int32) = nI 140 from rfl, zle_f hi (by omega), nI_add, zIx_nI (by omega) (by omega), zGd_t, zIx_nI (by omega) (by omega), zGd_t, zLt_s, zLt_s, nI_clamp (by omega), nI_clamp (by omega), nI_1, zSeg_out (by omega), Nat.zero_add]
      · unfold fX12_snap_11
        dsimp only
        rw [zBr_p (show (980 : Int32) ≤ nI 980 by decide), zPut_ne (show (0 : Nat) ≠ 5 by omega), h, zLt_s, show nI 8 - (1 : Int32) = nI 7 by decide, ← hG, ← hT1, m_snap50 e1 (by omega), zXr_s]
    · rw [hT1]; rfl
    · intro c h0 h5
      rw [zI_ne h0, zPut_ne h5, hT1, zI_ne h0, zPut_ne h5]
    · intro x hx
      rw [zI_at, if_neg (by omega), zPut_ne (by omega), hT1, zI_at, if_neg (by omega), zPut_ne (by omega)]
    · rw [zI_at, if_pos ⟨rfl, rfl⟩]
    · rw [zI_ne (by omega), zPut_eq, e5, e2]
  · rw [h, zBr_q (by rw [show (8 : Int32) = nI 8 from rfl, nI_eq (by omega) (by omega)]; exact h8), m_snap50 h (by omega)]
    refine ⟨_, k, T.1 5, rfl, rfl, ?_, ?_, ?_, ?_, Or.inl ⟨by omega, rfl, rfl⟩⟩
    · intro c h0 h5
      rw [zI_ne h0, zPut_ne h5]
    · intro x hx
      rw [zI_at, if_neg (by omega), zPut_ne (by omega)]
    · rw [zI_at, if_pos ⟨rfl, rfl⟩]
    · rw [zI_ne (by omega), zPut_eq]
theorem c_keep {S : zSt} {m : Nat → Int32} {nx kp : Nat} (hl : Rl S.1 14 m) (h6 : kP m ≤ 6) (hv : WFl m) (h1 : S.1 44 1 = nI nx) (h2 : nx < 8) (h3 : S.1 44 2 = nI kp) (h4 : kp ≤ 8) : ∃ S', fX7_keep S 14 = some S' ∧ S'.2 = S.2 ∧ (∀ c, c ≠ 44 → (c < 46 + 15 * nx ∨ 46 + 15 * nx + 15 ≤ c) → S'.1 c = S.1 c) ∧ Rl S'.1 (46 + 15 * nx) m ∧ S'.1 44 1 = nI ((nx + 1) % 8) ∧ S'.1 44 2 = nI (if kp < 8 then kp + 1 else 8) := by
  obtain ⟨S3, e1, e2, e3, e4⟩ := c_copyRl (S := S) (a := 46 + 15 * nx) (b := 14) (by omega) hl h6 hv
  have q1 : S3.1 44 1 = nI nx := by rw [e3 44 (by omega), h1]
  have q2 : S3.1 44 2 = nI kp := by rw [e3 44 (by omega), h3]
  refine ⟨zI (zI S3 44 1 (nI ((nx + 1) % 8))) 44 2 (nI (if kp < 8 then kp + 1 else 8)), ?_, e2, ?_, ?_, ?_, ?_⟩
  · unfold fX7_keep
    rw [h1, zIx_nI h2 (by omega), zGd_t, nI_clamp (by omega), e1, zBd_s, q1, show decide (¬ (8 : Int32) = 0) = true from rfl, zGd_t, zLt_s, nI_1, show (8 : Int32) = nI 8 from rfl, pk_rem (by omega) (by omega) (by omega), zLt_s, show (zI S3 44 1 (nI ((nx + 1) % 8))).1 44 2 = nI kp by rw [zI_at, if_neg (by omega), q2], nI_1]
    congr 2
    by_cases h : kp < 8
    · by_cases h' : kp + 1 < 8
      · rw [if_pos h, if_pos ((nI_ltI (by omega) (by omega)).mpr h')]
      · rw [if_pos h, if_neg (fun q => h' ((nI_ltI (by omega) (by omega)).mp q)), show kp + 1 = 8 by omega]
    · rw [if_neg h, if_neg (fun q => by have := (nI_ltI (by omega) (by omega)).mp q; omega)]
  · intro c hc hr
    rw [zI_ne hc, zI_ne hc, e3 c (by omega)]
  · exact Rl_cong h6 (fun a q3 q4 => by rw [zI_ne (by omega), zI_ne (by omega)]) e4
  · rw [zI_at, if_neg (by omega), zI_at, if_pos ⟨rfl, rfl⟩]
  · rw [zI_at, if_pos ⟨rfl, rfl⟩]
theorem Rel_keep {S T : zSt} (r : Rel S T) : ∃ S' T', fX7_keep S 14 = some S' ∧ fX12_snap T = some T' ∧ Rel S' T' ∧ T'.1 2 = T.1 2 := by
  obtain ⟨r1, ⟨q1, q2, q3, q4, q5, q6⟩, ⟨nx, kp, c1, c2, c3, c4, c5, c6⟩, r4, r5, r6, r7, r8, r9, r10⟩ := r
  have h6 := q2.2.1.2
  obtain ⟨S', a1, a2, a3, a4, a5, a6⟩ := c_keep q3 h6 q4 c3 c1 c4 c2
  obtain ⟨T', j, g, b1, b2, b3, b4, b5, b6, b7⟩ := m_snap c5 c2
  have t2 := b3 2 (by omega) (by omega)
  refine ⟨S', T', a1, b1, ?_, t2⟩
  unfold Rel
  rw [a2, b2, t2, a3 1 (by omega) (by omega), a3 2 (by omega) (by omega), a3 0 (by omega) (by omega), a3 256 (by omega) (by omega), a3 260 (by omega) (by omega), a3 255 (by omega) (by omega), a3 240 (by omega) (by omega), b3 1 (by omega) (by omega), b3 10 (by omega) (by omega), b3 4 (by omega) (by omega), b3 13 (by omega) (by omega), b3 14 (by omega) (by omega), b3 17 (by omega) (by omega), b4 2 (by omega), b4 10 (by omega), b4 25 (by omega), b4 26 (by omega), b4 29 (by omega), b4 31 (by omega), b4 39 (by omega)]
  refine ⟨r1, rAll_cong (fun a h => a3 a (by omega) (by omega)) (fun a _ _ => rfl) ⟨q1, q2, q3, q4, q5, q6⟩, ?_, rImg_cong (fun a h1 h2 => a3 a (by omega) (by omega)) (fun a _ _ => rfl) r4, rImg_cong (fun a h1 h2 => a3 a (by omega) (by omega)) (fun a _ _ => rfl) r5, r6, r7, r8, r9, r10⟩
  have new : mSn (T.1 2) (T'.1 5) j = T.1 2 := by
    funext k
    unfold mSn
    by_cases h : 24 ≤ k ∧ k < 164
    · rw [if_pos h, b6, zSeg_in (by omega) (by omega)]
      show T.1 2 (24 + (140 * j + (k - 24) - 140 * j)) = T.1 2 k
      rw [show 24 + (140 * j + (k - 24) - 140 * j) = k by omega]
    · rw [if_neg h]
  rcases b7 with ⟨k8, rfl, rfl⟩ | ⟨rfl, rfl, hg⟩
  · refine ⟨(nx + 1) % 8, j + 1, by omega, by omega, a5, by rw [a6, if_pos k8], b5, fun t ht => ?_⟩
    by_cases htj : t = j
    · subst htj
      rw [new, show ((nx + 1) % 8 + 8 - (t + 1) + t) % 8 = nx by omega]
      exact ⟨a4, q4⟩
    · have old : mSn (T.1 2) (T'.1 5) t = mSn (T.1 2) (T.1 5) t := by
        funext k
        unfold mSn
        by_cases h : 24 ≤ k ∧ k < 164
        · rw [if_pos h, if_pos h, b6, zSeg_out (by omega)]
        · rw [if_neg h, if_neg h]
      rw [old, show ((nx + 1) % 8 + 8 - (j + 1) + t) % 8 = (nx + 8 - j + t) % 8 by omega]
      exact ⟨Rl_cong h6 (fun a h1 h2 => a3 a (by omega) (by omega)) (c6 t (by omega)).1, (c6 t (by omega)).2⟩
  · refine ⟨(nx + 1) % 8, 8, by omega, by omega, a5, by rw [a6, if_neg (by omega)], b5, fun t ht => ?_⟩
    by_cases htj : t = 7
    · subst htj
      rw [new, show ((nx + 1) % 8 + 8 - 8 + 7) % 8 = nx by omega]
      exact ⟨a4, q4⟩
    · have old : mSn (T.1 2) (T'.1 5) t = mSn (T.1 2) (T.1 5) (t + 1) := by
        funext k
        unfold mSn
        by_cases h : 24 ≤ k ∧ k < 164
        · rw [if_pos h, if_pos h, b6, zSeg_out (by omega), hg _ (by omega), show 140 * t + (k - 24) + 140 = 140 * (t + 1) + (k - 24) by omega]
        · rw [if_neg h, if_neg h]
      rw [old, show ((nx + 1) % 8 + 8 - 8 + t) % 8 = (nx + 8 - 8 + (t + 1)) % 8 by omega]
      exact ⟨Rl_cong h6 (fun a h1 h2 => a3 a (by omega) (by omega)) (c6 (t + 1) (by omega)).1, (c6 (t + 1) (by omega)).2⟩
