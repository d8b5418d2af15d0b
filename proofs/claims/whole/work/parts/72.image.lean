/-! image, restore: what the rows say is told by their first 406 -/
theorem sCong {g g' : Nat → Int32} {nL nE : Nat} (e : ∀ j, j < 240 → g' j = g j) : ∀ f k, sOk g nL nE f k → sComp g' f k = sComp g f k ∧ sOk g' nL nE f k
  | 0, k, h => h.elim
  | f + 1, k, ⟨hk, h⟩ => by
    have e0 := e (4 * k) (by omega)
    have e1 := e (4 * k + 1) (by omega)
    have e2 := e (4 * k + 2) (by omega)
    have e3 := e (4 * k + 3) (by omega)
    unfold sComp sOk
    rw [e0, e1, e2, e3]
    rcases h with ⟨h, a, ha, ea, oa⟩ | ⟨h, a, b, ha, hb, ea, eb, oa, ob⟩ | h
    · obtain ⟨i1, i2⟩ := sCong e f a oa
      rw [ea, nI_clamp (by omega), i1]
      exact ⟨by rw [if_pos h, if_pos h], hk, Or.inl ⟨h, a, ha, rfl, i2⟩⟩
    · obtain ⟨i1, i2⟩ := sCong e f a oa
      obtain ⟨j1, j2⟩ := sCong e f b ob
      rw [ea, eb, nI_clamp (by omega), nI_clamp (by omega), i1, j1]
      exact ⟨rfl, hk, Or.inr (Or.inl ⟨h, a, b, ha, hb, rfl, rfl, i2, j2⟩)⟩
    · refine ⟨?_, hk, Or.inr (Or.inr h)⟩
      have n : ¬ g (4 * k) = 1 ∧ ¬ g (4 * k) = 2 ∧ ¬ g (4 * k) = 3 := by
        rcases h with h | h | ⟨h | h, -⟩ | ⟨h, -⟩ | ⟨h | h | h, -⟩ <;> rw [h] <;> decide
      rw [if_neg n.1, if_neg n.2.1, if_neg n.2.2, if_neg n.1, if_neg n.2.1, if_neg n.2.2]
theorem rSen_mm {I : Nat → Nat → Int32} {t : Nat} {m m' : Nat → Int32} (e : ∀ k, k < 406 → m' k = m k) (r : rSen I t m) : rSen I t m' := by
  have e0 : kL m' = kL m := by unfold kL; rw [e 0 (by omega)]
  have e2 : kE m' = kE m := by unfold kE; rw [e 2 (by omega)]
  unfold rSen at r ⊢
  rw [e 164 (by omega), e 165 (by omega), e0, e2]
  rcases r with r | ⟨g1, k, o, g2, g3, g4, g5, g6, g7, g8, g9⟩
  · exact Or.inl r
  · obtain ⟨c1, c2⟩ := sCong (g' := fun j => m' (166 + j)) (fun j hj => e _ (by omega)) _ _ g6
    refine Or.inr ⟨g1, k, o, g2, g3, g4, g5, c2, ?_⟩
    rw [c1]
    exact ⟨g7, g8, g9⟩
theorem Rl_mm {I : Nat → Nat → Int32} {b : Nat} {m m' : Nat → Int32} (e : ∀ k, k < 164 → m' k = m k) (h6 : kP m ≤ 6) (ha : kA m ≤ 12) (r : Rl I b m) : Rl I b m' := by
  have e1 : kP m' = kP m := kP_eq (e 1 (by omega))
  have e2 : kA m' = kA m := by unfold kA; rw [e 25 (by omega)]
  obtain ⟨r1, r2, r3, r4, r5⟩ := r
  unfold Rl
  rw [e1, e2]
  refine ⟨by rw [e 24 (by omega)]; exact r1, by rw [e 25 (by omega)]; exact r2, fun p hp => ?_, fun i hi => ?_, fun p i hp hi => ?_⟩
  · rw [e _ (by omega), e _ (by omega), e _ (by omega)]; exact r3 p hp
  · rw [e _ (by omega), e _ (by omega), e _ (by omega), e _ (by omega)]; exact r4 i hi
  · rw [e _ (by omega)]; exact r5 p i hp hi
theorem WFl_mm {m m' : Nat → Int32} (e : ∀ k, k < 164 → m' k = m k) (h6 : kP m ≤ 6) (r : WFl m) : WFl m' := by
  have ha := r.2.1.2
  have e0 : kL m' = kL m := by unfold kL; rw [e 0 (by omega)]
  have e1 : kP m' = kP m := kP_eq (e 1 (by omega))
  have e2 : kE m' = kE m := by unfold kE; rw [e 2 (by omega)]
  have e3 : kD m' = kD m := by unfold kD; rw [e 3 (by omega)]
  have e4 : kA m' = kA m := by unfold kA; rw [e 25 (by omega)]
  obtain ⟨a1, a2, a3, a4, a5, a6, a7⟩ := r
  unfold WFl
  rw [e0, e1, e2, e3, e4, e 24 (by omega), e 25 (by omega)]
  refine ⟨a1, a2, fun p hp => ?_, fun i hi => ?_, fun p i hp hi => ?_, fun p hp => ?_, fun p i hp q1 q2 => ?_⟩
  · rw [e _ (by omega), e _ (by omega)]; exact a3 p hp
  · rw [e _ (by omega), e _ (by omega), e _ (by omega), e _ (by omega)]; exact a4 i hi
  · rw [e _ (by omega)]; exact a5 p i hp hi
  · rw [e _ (by omega)]; exact a6 p hp
  · rw [e _ (by omega)]; exact a7 p i hp q1 q2
theorem nB_lt {m : Nat → Int32} (hw : WFh m) {s j : Nat} (hs : s < 4) (hj : j < (m s).toNatClampNeg) : nB s + j < 20 := by
  have h0 := hw.1.2
  have h1 := hw.2.1.2
  have h2 := hw.2.2.1.2
  have h3 := hw.2.2.2.1.2
  unfold kL at h0
  unfold kP at h1
  unfold kE at h2
  unfold kD at h3
  rcases (show s = 0 ∨ s = 1 ∨ s = 2 ∨ s = 3 by omega) with rfl | rfl | rfl | rfl
  · show 0 + j < 20; omega
  · show 5 + j < 20; omega
  · show 11 + j < 20; omega
  · show 15 + j < 20; omega
theorem rNm_nm {I : Nat → Nat → Int32} {J : Nat → Nat → Int64} {h : Nat} {nm nm' : Nat → Int64} {m : Nat → Int32} (hw : WFh m) (f : ∀ i, i < 20 → nm' i = nm i) (r : rNm I J h nm m) : rNm I J h nm' m := by
  have h6 := hw.2.1.2
  obtain ⟨W, n1, n2, n3, n4, n5, n6⟩ := r
  refine ⟨W, n1, n2, fun k hk => ?_, n4, n5, fun p hp => by rw [f _ (by omega)]; exact n6 p hp⟩
  obtain ⟨s, j, b1, b2, b3, b4, b5⟩ := n3 k hk
  exact ⟨s, j, b1, b2, b3, b4, by rw [f _ (nB_lt hw b1 b4)]; exact b5⟩
theorem rAll_m {I : Nat → Nat → Int32} {J : Nat → Nat → Int64} {h b t : Nat} {m m' : Nat → Int32} {nm nm' : Nat → Int64} (e : ∀ k, k < 406 → m' k = m k) (f : ∀ i, i < 20 → nm' i = nm i) (r : rAll I J h b t m nm) : rAll I J h b t m' nm' := by
  obtain ⟨r1, r2, r3, r4, r5, r6⟩ := r
  have h6 := r2.2.1.2
  have e24 : ∀ k, k < 24 → m' k = m k := fun k hk => e k (by omega)
  have e164 : ∀ k, k < 164 → m' k = m k := fun k hk => e k (by omega)
  exact ⟨Rh_m e24 r1 r2, WFh_m e24 r2, Rl_mm e164 h6 r4.2.1.2 r3, WFl_mm e164 h6 r4, rNm_m e24 (rNm_nm r2 f r5), rSen_mm e r6⟩
theorem rImg_T {I : Nat → Nat → Int32} {J : Nat → Nat → Int64} {k : Nat} {kf kf' kt kt' : Nat → Int32} {kn kn' : Nat → Int64} (e1 : kf' k = kf k) (e2 : ∀ i, i < 406 → kt' (406 * k + i) = kt (406 * k + i)) (e3 : ∀ i, i < 20 → kn' (20 * k + i) = kn (20 * k + i)) (r : rImg I J k kf kt kn) : rImg I J k kf' kt' kn' := by
  unfold rImg at r ⊢
  rw [e1]
  rcases r with r | ⟨r1, r2, r3⟩
  · exact Or.inl r
  · exact Or.inr ⟨r1, r2, rAll_m e2 e3 r3⟩
section Image
variable {S T : zSt}
theorem m_image {k : Nat} (hk : k < 2) : zLp (fX12_image_18 (nI k)) 2000 (T, 0) = some (1, zI (zPutJ (zPut T 4 (zSeg (T.1 2) (T.1 4) (406 * k) 406)) 9 (zSegJ (T.2 7) (T.2 9) (20 * k) 20)) 10 k 1) := by
  have c1 : ∀ i, ((406 : Int32) * nI k) + nI i = nI (406 * k + i) := fun i => by rw [show (406 : Int32) = nI 406 from rfl, pk_mul, nI_add]
  have c2 : ∀ i, ((20 : Int32) * nI k) + nI i = nI (20 * k + i) := fun i => by rw [show (20 : Int32) = nI 20 from rfl, pk_mul, nI_add]
  refine zLp_copy (c := 4) (o := 406 * k) (n := 406) (f := T.1 2) (fun i hi => ?_) ?_ (by omega)
  · unfold fX12_image_18
    dsimp only
    rw [c1, show (406 : Int32) = nI 406 from rfl, zle_f hi (by omega), zIx_nI (by omega) (by omega), zGd_t, zIx_nI (by omega) (by omega), zGd_t, zLt_s, zLt_s, nI_clamp (by omega), nI_clamp (by omega), nI_1, zPut_ne (by omega)]
  · unfold fX12_image_18
    dsimp only
    rw [zBr_p (show (406 : Int32) ≤ nI 406 by decide)]
    have := zLp_copyJ (body := fX12_image_51 (nI k)) (T := zPut T 4 (zSeg (T.1 2) (T.1 4) (406 * k) 406)) (c := 9) (o := 20 * k) (n := 20) (fuel := 2000) (f := T.2 7) (r := (1, zI (zPutJ (zPut T 4 (zSeg (T.1 2) (T.1 4) (406 * k) 406)) 9 (zSegJ (T.2 7) (T.2 9) (20 * k) 20)) 10 k 1)) (fun i hi => ?_) ?_ (by omega)
    · rw [this, zXr_s]
    · unfold fX12_image_51
      dsimp only
      rw [c2, show (20 : Int32) = nI 20 from rfl, zle_f hi (by omega), zIx_nI (by omega) (by omega), zGd_t, zIx_nI (by omega) (by omega), zGd_t, zLt_s, zLt_s, nI_clamp (by omega), nI_clamp (by omega), nI_1, zPutJ_ne (by omega)]
      rfl
    · unfold fX12_image_51
      dsimp only
      rw [zBr_p (show (20 : Int32) ≤ nI 20 by decide), zIx_nI hk (by omega), zGd_t, zLt_s, zXr_s, nI_clamp (by omega)]
      rfl
theorem c_keepImg {k : Nat} (hk : k < 2) {m : Nat → Int32} {nm : Nat → Int64} (ra : rAll S.1 S.2 4 14 245 m nm) : ∃ S', fX5_keep S (167 + 31 * k) 4 14 245 = some S' ∧ (∀ c, c < 167 + 31 * k ∨ 198 + 31 * k ≤ c → S'.1 c = S.1 c ∧ S'.2 c = S.2 c) ∧ S'.1 (167 + 31 * k) 3 = 1 ∧ rAll S'.1 S'.2 (168 + 31 * k) (178 + 31 * k) (193 + 31 * k) m nm := by
  obtain ⟨hh, hw, hl, hv, hn, hs⟩ := ra
  have h6 := hw.2.1.2
  obtain ⟨S2, a1, a2, q1, q2, q3, q4, q5⟩ := c_copyHouse (S := S) (a := 167 + 31 * k + 1) (b := 4) (by omega)
  obtain ⟨R2, N2⟩ := copyHouse_R (S := S) (S' := S2) (a := 167 + 31 * k + 1) (b := 4) hw q1 q2 q3 q4 q5 hh hn
  obtain ⟨S4, b1, b2, b3, b4⟩ := c_copyRl (S := S2) (a := 167 + 31 * k + 11) (b := 14) (m := m) (by omega) (Rl_cong h6 (fun a h1 h2 => (a2 a (by omega)).1) hl) h6 hv
  obtain ⟨S6, d1, d2, d3, d4⟩ := c_copySen (S := S4) (a := 167 + 31 * k + 26) (b := 245) (m := m) (by omega) (rSen_cong (fun a h1 h2 => by rw [b3 a (by omega), (a2 a (by omega)).1]) hs)
  refine ⟨zI S6 (167 + 31 * k) 3 1, ?_, fun c hc => ⟨by rw [zI_ne (by omega), d3 c (by omega), b3 c (by omega), (a2 c (by omega)).1], by rw [zI_at2, d2, b2, (a2 c (by omega)).2]⟩, by rw [zI_at, if_pos ⟨rfl, rfl⟩], ?_⟩
  · unfold fX5_keep
    rw [a1, zBd_s, b1, zBd_s, d1, zBd_s, show zBo (1 : Int32) = true by decide, zGd_t, zLt_s]
  · rw [zI_at2, d2, b2]
    have e : ∀ a, 168 + 31 * k ≤ a → a < 178 + 31 * k → (zI S6 (167 + 31 * k) 3 1).1 a = S2.1 a := fun a h1 h2 => by rw [zI_ne (by omega), d3 a (by omega), b3 a (by omega)]
    rw [show 167 + 31 * k + 1 = 168 + 31 * k by omega] at R2 N2
    rw [show 167 + 31 * k + 11 = 178 + 31 * k by omega] at b4
    rw [show 167 + 31 * k + 26 = 193 + 31 * k by omega] at d4
    exact ⟨Rh_cong (fun a h1 h2 => e a h1 (by omega)) R2, hw, Rl_cong h6 (fun a h1 h2 => by rw [zI_ne (by omega), d3 a (by omega)]) b4, hv, rNm_cong (fun a h1 h2 => e a h1 (by omega)) (fun a _ _ => rfl) N2, rSen_cong (fun a h1 h2 => zI_ne (by omega)) d4⟩
theorem op_image (r : Rel S T) (v : Int32) : ∃ z S' T', fX11_image S v = some (z, S') ∧ fX12_image T v = some (z, T') ∧ Rel S' T' := by
  have rt := Rel_thrown r 0
  have e2 : (1 : Int32) = nI 2 - 1 := by decide
  have hin : fX12_isIn v 0 1 = some (aIs 2 v) := by
    have := m_isIn (show 2 < 1000 by omega) v
    rw [← e2] at this
    exact this
  unfold fX11_image fX12_image
  rw [zLt_s, hin, zBd_s]
  rcases zCase v 2 (by omega) with h | ⟨h, h'⟩ | ⟨k, hk, rfl⟩
  · have : aIs 2 v = 0 := by simp [aIs, h]
    rw [this, zBr_p h, zBr_p rfl]
    exact ⟨0, S, _, rfl, rfl, rt⟩
  · have : aIs 2 v = 0 := by simp [aIs, h, h']
    rw [this, zBr_q h, zBr_q (show ¬ v < (2 : Int32) from Int32.not_lt.mpr h'), zBr_p rfl]
    exact ⟨0, S, _, rfl, rfl, rt⟩
  · obtain ⟨q1, q2, q3, q4, q5, q6, q7, q8, q9, q10⟩ := id rt
    rw [aIs_n (by omega) (by omega), if_pos hk, zBr_q (nI_pos (by omega)), show (2 : Int32) = nI 2 from rfl, zlt_t hk (by omega), zIx_nI hk (by omega), zGd_t, nI_clamp (by omega), zBr_q (show ¬ (1 : Int32) = 0 by decide), m_image hk]
    obtain ⟨S', a1, a2, a3, a4⟩ := c_keepImg hk q2
    rw [a1, zBd_s]
    refine ⟨1, S', _, rfl, rfl, ?_⟩
    obtain ⟨T0, hT0⟩ : ∃ X, X = zI T 0 0 0 := ⟨_, rfl⟩
    rw [← hT0] at q1 q2 q3 q4 q5 q6 q7 q8 q9 a4 ⊢
    obtain ⟨T', hT'⟩ : ∃ X, X = zI (zPutJ (zPut T0 4 (zSeg (T0.1 2) (T0.1 4) (406 * k) 406)) 9 (zSegJ (T0.2 7) (T0.2 9) (20 * k) 20)) 10 k 1 := ⟨_, rfl⟩
    rw [← hT']
    have t1 : ∀ c, c ≠ 4 → c ≠ 10 → T'.1 c = T0.1 c := fun c c4 c10 => by rw [hT', zI_ne c10, zPutJ_1, zPut_ne c4]
    have t4 : T'.1 4 = zSeg (T0.1 2) (T0.1 4) (406 * k) 406 := by rw [hT', zI_ne (by omega), zPutJ_1, zPut_eq]
    have t10 : ∀ j, T'.1 10 j = if j = k then 1 else T0.1 10 j := fun j => by
      rw [hT', zI_eq, zPutJ_1, zPut_ne (by omega)]; rfl
    have t7 : T'.2 7 = T0.2 7 := by rw [hT', zI_at2, zPutJ_ne (by omega)]; rfl
    have t9 : T'.2 9 = zSegJ (T0.2 7) (T0.2 9) (20 * k) 20 := by rw [hT', zI_at2, zPutJ_eq]
    have s1 : ∀ c, c < 167 → S'.1 c = S.1 c ∧ S'.2 c = S.2 c := fun c hc => a2 c (by omega)
    have s2 : ∀ c, 229 ≤ c → S'.1 c = S.1 c ∧ S'.2 c = S.2 c := fun c hc => a2 c (by omega)
    have new : rImg S'.1 S'.2 k (T'.1 10) (T'.1 4) (T'.2 9) := by
      refine Or.inr ⟨a3, by rw [t10, if_pos rfl], rAll_m (fun i hi => ?_) (fun i hi => ?_) a4⟩
      · rw [t4, zSeg_in (by omega) (by omega), show 406 * k + i - 406 * k = i by omega]
      · rw [t9, zSegJ_in (by omega) (by omega), show 20 * k + i - 20 * k = i by omega]
    have old : ∀ j, j < 2 → j ≠ k → rImg S.1 S.2 j (T0.1 10) (T0.1 4) (T0.2 9) → rImg S'.1 S'.2 j (T'.1 10) (T'.1 4) (T'.2 9) := fun j hj hjk h => by
      refine rImg_T (by rw [t10, if_neg hjk]) (fun i hi => ?_) (fun i hi => ?_) (rImg_cong (fun a h1 h2 => (a2 a (by omega)).1) (fun a h1 h2 => (a2 a (by omega)).2) h)
      · rw [t4, zSeg_out (by omega)]
      · rw [t9, zSegJ_out (by omega)]
    have h6 := q2.2.1.2.1.2
    unfold Rel
    rw [t1 0 (by omega) (by omega), t1 1 (by omega) (by omega), t1 2 (by omega) (by omega), t1 5 (by omega) (by omega), t1 13 (by omega) (by omega), t1 14 (by omega) (by omega), t1 17 (by omega) (by omega), t7, (s1 1 (by omega)).1, (s1 2 (by omega)).1, (s1 44 (by omega)).1, (s1 0 (by omega)).1, (s2 256 (by omega)).1, (s2 260 (by omega)).1, (s2 255 (by omega)).1, (s2 240 (by omega)).1, (s1 3 (by omega)).2]
    refine ⟨q1, rAll_cong (fun a h => (a2 a (by omega)).1) (fun a h1 h2 => (a2 a (by omega)).2) q2, rPast_cong h6 (fun a h1 h2 => (s1 a (by omega)).1) q3, ?_, ?_, q6, q7, q8, q9, q10⟩
    · by_cases e : k = 0
      · subst e; exact new
      · exact old 0 (by omega) (by omega) q4
    · by_cases e : k = 1
      · subst e; exact new
      · exact old 1 (by omega) (by omega) q5
theorem m_restore {k : Nat} (hk : k < 2) : zLp (fX12_restore_27 (nI k)) 2000 (T, 0) = some (1, zI (zPutJ (zPut T 2 (zSeg (fun i => T.1 4 (406 * k + i)) (T.1 2) 0 406)) 7 (zSegJ (fun i => T.2 9 (20 * k + i)) (T.2 7) 0 20)) 0 24 0) := by
  have c1 : ∀ i, ((406 : Int32) * nI k) + nI i = nI (406 * k + i) := fun i => by rw [show (406 : Int32) = nI 406 from rfl, pk_mul, nI_add]
  have c2 : ∀ i, ((20 : Int32) * nI k) + nI i = nI (20 * k + i) := fun i => by rw [show (20 : Int32) = nI 20 from rfl, pk_mul, nI_add]
  refine zLp_copy (c := 2) (o := 0) (n := 406) (f := fun i => T.1 4 (406 * k + i)) (fun i hi => ?_) ?_ (by omega)
  · unfold fX12_restore_27
    dsimp only
    rw [c1, show (406 : Int32) = nI 406 from rfl, zle_f hi (by omega), zIx_nI (by omega) (by omega), zGd_t, zIx_nI (by omega) (by omega), zGd_t, zLt_s, zLt_s, nI_clamp (by omega), nI_clamp (by omega), nI_1, zPut_ne (by omega), Nat.zero_add]
  · unfold fX12_restore_27
    dsimp only
    rw [zBr_p (show (406 : Int32) ≤ nI 406 by decide)]
    have := zLp_copyJ (body := fX12_restore_60 (nI k)) (T := zPut T 2 (zSeg (fun i => T.1 4 (406 * k + i)) (T.1 2) 0 406)) (c := 7) (o := 0) (n := 20) (fuel := 2000) (f := fun i => T.2 9 (20 * k + i)) (r := (1, zI (zPutJ (zPut T 2 (zSeg (fun i => T.1 4 (406 * k + i)) (T.1 2) 0 406)) 7 (zSegJ (fun i => T.2 9 (20 * k + i)) (T.2 7) 0 20)) 0 24 0)) (fun i hi => ?_) ?_ (by omega)
    · rw [this, zXr_s]
    · unfold fX12_restore_60
      dsimp only
      rw [c2, show (20 : Int32) = nI 20 from rfl, zle_f hi (by omega), zIx_nI (by omega) (by omega), zGd_t, zIx_nI (by omega) (by omega), zGd_t, zLt_s, zLt_s, nI_clamp (by omega), nI_clamp (by omega), nI_1, zPutJ_ne (by omega), Nat.zero_add]
      rfl
    · unfold fX12_restore_60
      dsimp only
      rw [zBr_p (show (20 : Int32) ≤ nI 20 by decide), zLt_s, zXr_s]
      rfl
theorem op_restore (r : Rel S T) (v : Int32) : ∃ z S' T', fX11_restore S v = some (z, S') ∧ fX12_restore T v = some (z, T') ∧ Rel S' T' := by
  have rt := Rel_thrown r 0
  have e2 : (1 : Int32) = nI 2 - 1 := by decide
  have hin : fX12_isIn v 0 1 = some (aIs 2 v) := by
    have := m_isIn (show 2 < 1000 by omega) v
    rw [← e2] at this
    exact this
  unfold fX11_restore fX12_restore
  rw [zLt_s, hin, zBd_s]
  rcases zCase v 2 (by omega) with h | ⟨h, h'⟩ | ⟨k, hk, rfl⟩
  · have : aIs 2 v = 0 := by simp [aIs, h]
    rw [this, zBr_p h, zBr_p rfl]
    exact ⟨0, S, _, rfl, rfl, rt⟩
  · have : aIs 2 v = 0 := by simp [aIs, h, h']
    rw [this, zBr_q h, zBr_p (show (2 : Int32) ≤ v from h'), zBr_p rfl]
    exact ⟨0, S, _, rfl, rfl, rt⟩
  · obtain ⟨q1, q2, q3, q4, q5, q6, q7, q8, q9, q10⟩ := id rt
    obtain ⟨T0, hT0⟩ : ∃ X, X = zI T 0 0 0 := ⟨_, rfl⟩
    rw [← hT0] at q1 q2 q3 q4 q5 q6 q7 q8 q9 rt ⊢
    have im : rImg S.1 S.2 k (T0.1 10) (T0.1 4) (T0.2 9) := by
      rcases (show k = 0 ∨ k = 1 by omega) with rfl | rfl
      · exact q4
      · exact q5
    rw [aIs_n (by omega) (by omega), if_pos hk, zBr_q (nI_pos (by omega)), show (2 : Int32) = nI 2 from rfl, zle_f hk (by omega), zIx_nI hk (by omega), zGd_t, zGd_t, zGd_t, nI_clamp (by omega), zBr_q (show ¬ (1 : Int32) = 0 by decide)]
    rcases im with ⟨i1, i2⟩ | ⟨i1, i2, hh, hw, hl, hv, hn, hs⟩
    · rw [i1, i2, zBr_p rfl, zBr_p rfl]
      exact ⟨0, S, _, rfl, rfl, rt⟩
    rw [i1, i2, zBr_q (show ¬ (1 : Int32) = 0 by decide), zBr_q (show ¬ (1 : Int32) = 0 by decide), m_restore hk]
    have h6 := hw.2.1.2
    obtain ⟨m, hm⟩ : ∃ m : Nat → Int32, m = fun i => T0.1 4 (406 * k + i) := ⟨_, rfl⟩
    obtain ⟨nm, hnm⟩ : ∃ m : Nat → Int64, m = fun i => T0.2 9 (20 * k + i) := ⟨_, rfl⟩
    rw [← hm] at hh hw hl hv hn hs h6
    rw [← hnm] at hn
    obtain ⟨S2, a1, a2, g1, g2, g3, g4, g5⟩ := c_copyHouse (S := S) (a := 4) (b := 167 + 31 * k + 1) (by omega)
    rw [show 168 + 31 * k = 167 + 31 * k + 1 by omega] at hh hn
    rw [show 178 + 31 * k = 167 + 31 * k + 11 by omega] at hl
    rw [show 193 + 31 * k = 167 + 31 * k + 26 by omega] at hs
    obtain ⟨R2, N2⟩ := copyHouse_R (S := S) (S' := S2) (a := 4) (b := 167 + 31 * k + 1) hw g1 g2 g3 g4 g5 hh hn
    obtain ⟨S4, b1, b2, b3, b4⟩ := c_copyRl (S := S2) (a := 14) (b := 167 + 31 * k + 11) (m := m) (by omega) (Rl_cong h6 (fun a h1 h2 => (a2 a (by omega)).1) hl) h6 hv
    obtain ⟨S6, d1, d2, d3, d4⟩ := c_copySen (S := S4) (a := 245) (b := 167 + 31 * k + 26) (m := m) (by omega) (rSen_cong (fun a h1 h2 => by rw [b3 a (by omega), (a2 a (by omega)).1]) hs)
    simp only [zGd_t]
    rw [a1, zBd_s, b1, zBd_s, d1, zBd_s]
    unfold fX7_forget
    rw [zLt_s, zBd_s]
    refine ⟨1, zI S6 44 2 0, _, rfl, rfl, ?_⟩
    obtain ⟨T', hT'⟩ : ∃ X, X = zI (zPutJ (zPut T0 2 (zSeg (fun i => T0.1 4 (406 * k + i)) (T0.1 2) 0 406)) 7 (zSegJ (fun i => T0.2 9 (20 * k + i)) (T0.2 7) 0 20)) 0 24 0 := ⟨_, rfl⟩
    rw [← hT']
    have t1 : ∀ c, c ≠ 0 → c ≠ 2 → T'.1 c = T0.1 c := fun c c4 c10 => by rw [hT', zI_ne c4, zPutJ_1, zPut_ne c10]
    have t0 : ∀ j, j ≠ 24 → T'.1 0 j = T0.1 0 j := fun j hj => by rw [hT', zI_at, if_neg (by omega), zPutJ_1, zPut_ne (by omega)]
    have t24 : T'.1 0 24 = 0 := by rw [hT', zI_at, if_pos ⟨rfl, rfl⟩]
    have t2 : ∀ i, i < 406 → T'.1 2 i = m i := fun i hi => by rw [hT', zI_ne (by omega), zPutJ_1, zPut_eq, zSeg_in (by omega) (by omega), hm, Nat.sub_zero]
    have t7 : ∀ i, i < 20 → T'.2 7 i = nm i := fun i hi => by rw [hT', zI_at2, zPutJ_eq, zSegJ_in (by omega) (by omega), hnm, Nat.sub_zero]
    have t9 : T'.2 9 = T0.2 9 := by rw [hT', zI_at2, zPutJ_ne (by omega)]; rfl
    have s1 : ∀ c, (c < 4 ∨ (29 ≤ c ∧ c < 245) ∨ 249 ≤ c) → c ≠ 44 → (zI S6 44 2 0).1 c = S.1 c ∧ (zI S6 44 2 0).2 c = S.2 c := fun c hc h4 => ⟨by rw [zI_ne h4, d3 c (by omega), b3 c (by omega), (a2 c (by omega)).1], by rw [zI_at2, d2, b2, (a2 c (by omega)).2]⟩
    obtain ⟨nx, kp, c1, c2, c3, c4, c5, c6⟩ := q3
    unfold Rel
    rw [t1 1 (by omega) (by omega), t1 4 (by omega) (by omega), t1 5 (by omega) (by omega), t1 10 (by omega) (by omega), t1 13 (by omega) (by omega), t1 14 (by omega) (by omega), t1 17 (by omega) (by omega), t9, t0 2 (by omega), t0 10 (by omega), t0 25 (by omega), t0 26 (by omega), t0 29 (by omega), t0 31 (by omega), t0 39 (by omega), (s1 1 (by omega) (by omega)).1, (s1 2 (by omega) (by omega)).1, (s1 0 (by omega) (by omega)).1, (s1 256 (by omega) (by omega)).1, (s1 260 (by omega) (by omega)).1, (s1 255 (by omega) (by omega)).1, (s1 240 (by omega) (by omega)).1, (s1 3 (by omega) (by omega)).2]
    refine ⟨q1, ?_, ⟨nx, 0, c1, by omega, ?_, by rw [zI_at, if_pos ⟨rfl, rfl⟩]; rfl, by rw [t24]; rfl, fun t ht => by omega⟩, rImg_cong (fun a h1 h2 => (s1 a (by omega) (by omega)).1) (fun a h1 h2 => (s1 a (by omega) (by omega)).2) q4, rImg_cong (fun a h1 h2 => (s1 a (by omega) (by omega)).1) (fun a h1 h2 => (s1 a (by omega) (by omega)).2) q5, q6, q7, q8, q9, q10⟩
    · refine rAll_m (m := m) (nm := nm) t2 t7 ?_
      have e : ∀ a, 4 ≤ a → a < 14 → (zI S6 44 2 0).1 a = S2.1 a := fun a h1 h2 => by rw [zI_ne (by omega), d3 a (by omega), b3 a (by omega)]
      refine ⟨Rh_cong (fun a h1 h2 => e a h1 (by omega)) R2, hw, Rl_cong h6 (fun a h1 h2 => by rw [zI_ne (by omega), d3 a (by omega)]) b4, hv, ?_, rSen_cong (fun a h1 h2 => zI_ne (by omega)) d4⟩
      rw [zI_at2, d2, b2]
      exact rNm_cong (fun a h1 h2 => e a h1 (by omega)) (fun a _ _ => rfl) N2
    · rw [zI_at, if_neg (by omega), d3 44 (by omega), b3 44 (by omega), (a2 44 (by omega)).1]; exact c3
end Image
