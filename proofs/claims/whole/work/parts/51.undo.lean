theorem Rel_drop {S T : zSt} (r : Rel S T) {nx kp : Nat} (h1 : S.1 44 1 = nI nx) (h2 : nx < 8) (h3 : S.1 44 2 = nI (kp + 1)) (h4 : kp < 8) : Rel (zI (zI S 44 1 (nI ((nx + 7) % 8))) 44 2 (nI kp)) (zI T 0 24 (nI kp)) := by
  obtain ⟨r1, r2, ⟨nx', kp', c1, c2, c3, c4, c5, c6⟩, r4, r5, r6, r7, r8, r9, r10⟩ := r
  have h6 := r2.2.1.2.1.2
  have e1 : nx' = nx := (nI_eq (by omega) (by omega)).mp (by rw [← c3, h1])
  have e2 : kp' = kp + 1 := (nI_eq (by omega) (by omega)).mp (by rw [← c4, h3])
  subst e1 e2
  have a2 : ∀ c, c ≠ 44 → (zI (zI S 44 1 (nI ((nx' + 7) % 8))) 44 2 (nI kp)).1 c = S.1 c := fun c hc => by rw [zI_ne hc, zI_ne hc]
  have b2 : ∀ c, c ≠ 0 → (zI T 0 24 (nI kp)).1 c = T.1 c := fun c hc => zI_ne hc
  have b3 : ∀ j, j ≠ 24 → (zI T 0 24 (nI kp)).1 0 j = T.1 0 j := fun j hj => by rw [zI_at, if_neg (by omega)]
  unfold Rel
  rw [a2 1 (by omega), a2 2 (by omega), a2 0 (by omega), a2 256 (by omega), a2 260 (by omega), a2 255 (by omega), a2 240 (by omega), b2 1 (by omega), b2 2 (by omega), b2 5 (by omega), b2 10 (by omega), b2 4 (by omega), b2 13 (by omega), b2 14 (by omega), b2 17 (by omega), b3 2 (by omega), b3 10 (by omega), b3 25 (by omega), b3 26 (by omega), b3 29 (by omega), b3 31 (by omega), b3 39 (by omega)]
  refine ⟨r1, rAll_cong (fun a h => a2 a (by omega)) (fun a _ _ => rfl) r2, ?_, rImg_cong (fun a q1 q2 => a2 a (by omega)) (fun a _ _ => rfl) r4, rImg_cong (fun a q1 q2 => a2 a (by omega)) (fun a _ _ => rfl) r5, r6, r7, r8, r9, r10⟩
  refine ⟨(nx' + 7) % 8, kp, by omega, by omega, by rw [zI_at, if_neg (by omega), zI_at, if_pos ⟨rfl, rfl⟩], by rw [zI_at, if_pos ⟨rfl, rfl⟩], by rw [zI_at, if_pos ⟨rfl, rfl⟩], fun t ht => ?_⟩
  rw [show ((nx' + 7) % 8 + 8 - kp + t) % 8 = (nx' + 8 - (kp + 1) + t) % 8 by omega]
  exact ⟨Rl_cong h6 (fun a q1 q2 => a2 a (by omega)) (c6 t (by omega)).1, (c6 t (by omega)).2⟩
theorem op_undo {S T : zSt} (r : Rel S T) : ∃ z S' T', fX11_undo S = some (z, S') ∧ fX12_undo T = some (z, T') ∧ Rel S' T' := by
  have rt := Rel_thrown r 0
  obtain ⟨-, ⟨-, hw, -, -, -⟩, ⟨nx, kp, c1, c2, c3, c4, c5, c6⟩, -⟩ := id r
  have h6 := hw.2.1.2
  unfold fX11_undo fX12_undo fX7_takeBack
  rw [zLt_s (a := zI T 0 0 0), zTh0 T 0 24 (by omega), c4, c5]
  by_cases h0 : kp = 0
  · subst h0
    rw [zBr_p (show nI 0 = 0 from rfl), zBr_p (show nI 0 = 0 from rfl), zBp_s]
    exact ⟨-1, S, zI T 0 0 0, rfl, rfl, rt⟩
  · obtain ⟨k, rfl⟩ : ∃ k, kp = k + 1 := ⟨kp - 1, by omega⟩
    have hz : ¬ nI (k + 1) = 0 := fun q => by
      have := (nI_eq (a := k + 1) (b := 0) (by omega) (by omega)).mp q
      omega
    have rd := Rel_drop rt c3 c1 c4 (by omega)
    obtain ⟨g1, g2⟩ := c6 k (by omega)
    rw [show (nx + 8 - (k + 1) + k) % 8 = (nx + 7) % 8 by omega] at g1
    obtain ⟨S3, hS3⟩ : ∃ X, X = zI S 44 1 (nI ((nx + 7) % 8)) := ⟨_, rfl⟩
    have s1 : S3.1 44 1 = nI ((nx + 7) % 8) := by rw [hS3, zI_at, if_pos ⟨rfl, rfl⟩]
    have g3 : Rl S3.1 (46 + 15 * ((nx + 7) % 8)) (mSn (T.1 2) (T.1 5) k) := Rl_cong h6 (fun a q1 q2 => by rw [hS3, zI_ne (by omega)]) g1
    obtain ⟨S6, e1, e2, e3, e4⟩ := c_copyRl (S := S3) (a := 14) (b := 46 + 15 * ((nx + 7) % 8)) (by omega) g3 h6 g2
    have s2 : S6.1 44 2 = nI (k + 1) := by rw [e3 44 (by omega), hS3, zI_at, if_neg (by omega), c4]
    have t24 : (zI (zI T 0 0 0) 0 24 (nI k)).1 0 24 = nI k := by rw [zI_at, if_pos ⟨rfl, rfl⟩]
    have t2 : (zI (zI T 0 0 0) 0 24 (nI k)).1 2 = T.1 2 := by rw [zI_ne (by omega), zI_ne (by omega)]
    have t5 : (zI (zI T 0 0 0) 0 24 (nI k)).1 5 = T.1 5 := by rw [zI_ne (by omega), zI_ne (by omega)]
    obtain ⟨T3, hT3⟩ : ∃ X, X = zI (zI T 0 0 0) 0 24 (nI k) := ⟨_, rfl⟩
    rw [← hT3] at t24 t2 t5 rd
    have sg : zSeg (fun i => T.1 5 (140 * k + i)) (T.1 2) 24 140 = mSn (T.1 2) (T.1 5) k := by
      funext b
      unfold zSeg mSn
      rfl
    refine ⟨nI k, zI S6 44 2 (nI k), zPut T3 2 (mSn (T.1 2) (T.1 5) k), ?_, ?_, ?_⟩
    · rw [zBr_q hz, c3, show decide (¬ (8 : Int32) = 0) = true from rfl, zGd_t, show (8 : Int32) = nI 8 from rfl, nI_add, show (1 : Int32) = nI 1 from rfl, pk_sub (by omega), pk_rem (by omega) (by omega) (by omega), show nx + 8 - 1 = nx + 7 by omega, ← hS3, zLt_s, s1, zIx_nI (by omega) (by omega), zGd_t, nI_clamp (by omega), e1, zBd_s, s2, pk_sub (by omega), zLt_s, Nat.add_sub_cancel, zBp_s, zI_at, if_pos ⟨rfl, rfl⟩]
    · rw [zBr_q hz, show (1 : Int32) = nI 1 from rfl, pk_sub (by omega), Nat.add_sub_cancel, ← hT3, zLt_s, ← sg]
      have key := zLp_copy (body := fX12_undo_26) (T := T3) (c := 2) (o := 24) (n := 140) (fuel := 2000) (f := fun i => T.1 5 (140 * k + i)) (r := (nI k, zPut T3 2 (zSeg (fun i => T.1 5 (140 * k + i)) (T3.1 2) 24 140))) (fun i hi => ?_) ?_ (by omega)
      · rw [key, t2]
      · unfold fX12_undo_26
        dsimp only
        rw [zPut_ne (show (0 : Nat) ≠ 2 by omega), zPut_ne (show (5 : Nat) ≠ 2 by omega), t24, t5, zm140, zo_24, show (140 : Int32) = nI 140 from rfl, zle_f hi (by omega), zIx_nI (by omega) (by omega), zGd_t, zIx_nI (by omega) (by omega), zGd_t, zLt_s, zLt_s, nI_clamp (by omega), nI_clamp (by omega), nI_1]
      · unfold fX12_undo_26
        dsimp only
        rw [zBr_p (show (140 : Int32) ≤ nI 140 by decide), zPut_ne (show (0 : Nat) ≠ 2 by omega), t24, zXr_s]
    · refine Rel_life rd ?_ (fun c hc => ?_) rfl (fun c h1 _ => zPut_ne h1) (fun j _ _ => by rw [zPut_ne (by omega)]) (fun x hx => ?_) ?_ ?_
      · rw [zI_at2, e2, hS3]; rfl
      · by_cases h44 : c = 44
        · subst h44
          rw [zI_eq, zI_eq, e3 44 (by omega), hS3]
        · rw [zI_ne h44, zI_ne h44, e3 c (by omega), hS3]
      · rw [zPut_eq, t2]
        unfold mSn
        rw [if_neg (by omega)]
      · rw [zPut_eq]
        exact Rl_cong h6 (fun a q1 q2 => zI_ne (by omega)) e4
      · rw [zPut_eq]
        exact g2
