/-! book: its lines lived -/
def JC (S0 T0 S T : zSt) : Prop := (Rh S.1 4 (T.1 2) ∧ WFh (T.1 2) ∧ Rl S.1 29 (T.1 2) ∧ WFl (T.1 2)) ∧ (S.2 = S0.2 ∧ (∀ c, (c < 29 ∨ 44 ≤ c) → c ≠ 240 → S.1 c = S0.1 c) ∧ ∀ j, j ≠ 7 → j ≠ 8 → S.1 240 j = S0.1 240 j) ∧ T.2 = T0.2 ∧ (∀ c, c ≠ 2 → T.1 c = T0.1 c) ∧ ∀ k, (k < 24 ∨ 164 ≤ k) → T.1 2 k = T0.1 2 k
theorem zI_asPut {T : zSt} {c j : Nat} {v : Int32} : zI T c j v = zPut T c (upd (T.1 c) j v) := by
  have := zI_zPut T c j (T.1 c) v
  rw [zPut_id] at this
  exact this
section Judge
variable {S0 T0 S T : zSt}
theorem JC_put (h : JC S0 T0 S T) {S' : zSt} {g : Nat → Int32} (e1 : S'.2 = S.2) (e2 : ∀ c, c < 29 ∨ 44 ≤ c → S'.1 c = S.1 c) (e3 : ∀ k, (k < 24 ∨ 164 ≤ k) → g k = T.1 2 k) (e4 : Rl S'.1 29 g) (e5 : WFl g) : JC S0 T0 S' (zPut T 2 g) := by
  obtain ⟨⟨a1, a2, a3, a4⟩, ⟨a6, a7, a7'⟩, a8, a9, a11⟩ := h
  refine ⟨?_, ⟨e1.trans a6, fun c hc h1 => by rw [e2 c hc]; exact a7 c hc h1, fun j h1 h2 => by rw [e2 240 (by omega)]; exact a7' j h1 h2⟩, a8, fun c h1 => by rw [zPut_ne h1]; exact a9 c h1, fun k hk => by rw [zPut_eq, e3 k hk]; exact a11 k hk⟩
  rw [zPut_eq]
  have e : ∀ k, k < 24 → g k = T.1 2 k := fun k hk => e3 k (Or.inl hk)
  exact ⟨Rh_cong (fun a h1 h2 => e2 a (by omega)) (Rh_m e a1 a2), WFh_m e a2, e4, e5⟩
theorem JC_240 (h : JC S0 T0 S T) {j : Nat} (hj : j = 7 ∨ j = 8) (v : Int32) : JC S0 T0 (zI S 240 j v) T := by
  obtain ⟨⟨a1, a2, a3, a4⟩, ⟨a6, a7, a7'⟩, a8⟩ := h
  refine ⟨⟨Rh_cong (fun a h1 h2 => zI_ne (by omega)) a1, a2, Rl_cong a2.2.1.2 (fun a h1 h2 => zI_ne (by omega)) a3, a4⟩, ⟨a6, fun c hc h1 => by rw [zI_ne h1]; exact a7 c hc h1, fun x h1 h2 => by rw [zI_at, if_neg (by omega)]; exact a7' x h1 h2⟩, a8⟩
theorem JC_k (h : JC S0 T0 S T) : kL (T.1 2) = kL (T0.1 2) ∧ kP (T.1 2) = kP (T0.1 2) ∧ kE (T.1 2) = kE (T0.1 2) ∧ kD (T.1 2) = kD (T0.1 2) := by
  have e : ∀ k, k < 24 → T.1 2 k = T0.1 2 k := fun k hk => h.2.2.2.2 k (Or.inl hk)
  unfold kL kP kE kD
  rw [e 0 (by omega), e 1 (by omega), e 2 (by omega), e 3 (by omega)]
  exact ⟨rfl, rfl, rfl, rfl⟩
theorem J_line (h : JC S0 T0 S T) {k : Nat} (hk : k < 40) (hb : BL (T0.1 2) S0 T0 k) : ∃ z S' T', fX0_liveLine S 29 (nI k) = some (z, S') ∧ fX12_goBy T (4 * nI k) = some (z, T') ∧ JC S0 T0 S' T' ∧ S'.1 240 = S.1 240 := by
  obtain ⟨⟨a1, a2, a3, a4⟩, ⟨a6, a7, a7'⟩, a8, a9, a11⟩ := id h
  obtain ⟨kl, kp, ke, kd⟩ := JC_k h
  have h6 := a2.2.1.2
  have h5 := a2.1.2
  obtain ⟨b1, b2, b3, bb⟩ := hb
  rw [← kl, ← kp, ← ke, ← kd] at bb
  have s1 : S.1 241 = S0.1 241 := a7 241 (by omega) (by omega)
  have s2 : S.1 242 k = T0.1 16 (4 * k + 1) := by rw [a7 242 (by omega) (by omega), b1]
  have s3 : S.1 243 k = T0.1 16 (4 * k + 2) := by rw [a7 243 (by omega) (by omega), b2]
  have s4 : S.1 244 k = T0.1 16 (4 * k + 3) := by rw [a7 244 (by omega) (by omega), b3]
  have t16 : T.1 16 = T0.1 16 := a9 16 (by omega)
  have n4k : (4 : Int32) * nI k = nI (4 * k) := by rw [show (4 : Int32) = nI 4 from rfl]; unfold nI; rw [← Int32.ofNat_mul]
  have eg : fX12_goBy T (4 * nI k) = zBr (T0.1 16 (4 * k) = 3) (zBr (T.1 2 24 + T0.1 16 (4 * k + 1) ≤ 400) (zBp (fX12_passDays T (T0.1 16 (4 * k + 1))) (fun r20 S19 => some ((0 : Int32), S19))) (some (31, T))) (zBd (fX12_why T (T0.1 16 (4 * k)) (T0.1 16 (4 * k + 1)) (T0.1 16 (4 * k + 2))) (fun r8 => zBr (r8 = 0) (zBd (fX12_live T (T0.1 16 (4 * k)) (T0.1 16 (4 * k + 1)) (T0.1 16 (4 * k + 2)) (T0.1 16 (4 * k + 3))) (fun S14 => some ((0 : Int32), S14))) (some (((10 : Int32) * T0.1 16 (4 * k)) + r8, T)))) := by
    unfold fX12_goBy
    rw [n4k, show nI (4 * k) + 1 = nI (4 * k + 1) from nI_1 _, show nI (4 * k) + 2 = nI (4 * k + 2) from n4 k 2, show nI (4 * k) + 3 = nI (4 * k + 3) from n4 k 3, zIx_nI (show 4 * k + 1 < 160 by omega) (by omega), zGd_t, zIx_nI (show 4 * k < 160 by omega) (by omega), zIx_nI (show 4 * k + 2 < 160 by omega) (by omega), zIx_nI (show 4 * k + 3 < 160 by omega) (by omega), zLt_s, zGd_t, zg_24_406, zGd_t, zGd_t, zGd_t, nI_clamp (by omega), nI_clamp (by omega), nI_clamp (by omega), nI_clamp (by omega), zt_24, t16]
    rfl
  unfold fX0_liveLine
  rw [eg, zIx_nI hk (by omega), zGd_t, zGd_t, zGd_t, zGd_t, zGd_t, nI_clamp (by omega), s1, s2, s3]
  rcases bb with ⟨c1, c2, ⟨x, hx, ex⟩, ⟨y, hy, ey⟩, ⟨l, hl, el⟩⟩ | ⟨c1, c2, ⟨p, hp, ep⟩⟩ | ⟨c1, c2, ⟨p, hp, ep⟩, ⟨l, hl, el⟩⟩ | ⟨c1, c2, v, v6, v1, ev⟩
  · have w1 : fX6_whyNotDo S 29 = some (if kA (T.1 2) = 12 then 1 else 0) ∧ fX12_why T 0 (nI x) (nI y) = some (if kA (T.1 2) = 12 then 1 else 0) := by
      have hA := a4.2.1.2
      refine ⟨?_, ?_⟩
      · unfold fX6_whyNotDo
        rw [a3.2.1, a4.2.1.1, show (12 : Int32) = nI 12 from rfl]
        by_cases q : kA (T.1 2) = 12
        · rw [zlt_f (by omega) (by omega), if_pos q]
        · rw [zlt_t (by omega) (by omega), if_neg q]
      · unfold fX12_why
        rw [zBr_p (show (0 : Int32) = 0 from rfl), zg_25_406, zGd_t, zt_25, a4.2.1.1, show (12 : Int32) = nI 12 from rfl]
        by_cases q : kA (T.1 2) = 12
        · rw [zBr_p (by rw [q]), if_pos q]
        · rw [zBr_q (fun e => q ((nI_eq (by omega) (by omega)).mp e)), if_neg q]
    unfold fX0_liveDoes
    rw [c1, c2, zBr_p (show (8 : Int32) = 8 from rfl), zBr_q (show ¬ (0 : Int32) = 3 by decide), w1.1, ex, ey, el, w1.2, zBd_s, zBd_s, zIx_nI hk (by omega), nI_clamp (by omega), s2, s3, s4, ex, ey, el]
    by_cases q : kA (T.1 2) = 12
    · rw [if_pos q, zBr_q (show ¬ (1 : Int32) = 0 by decide), zBr_q (show ¬ (1 : Int32) = 0 by decide), zBp_s]
      exact ⟨1, S, T, rfl, rfl, h, rfl⟩
    · rw [if_neg q, zBr_p (show (0 : Int32) = 0 from rfl), zBr_p (show (0 : Int32) = 0 from rfl), zGd_t, zGd_t, zGd_t]
      have hn : kA (T.1 2) < 12 := by have := a4.2.1.2; omega
      have hx1 : zIn (nI x) (kE (T.1 2)) := ⟨x, hx, rfl⟩
      have hy1 : zIn (nI y) (kD (T.1 2)) := ⟨y, hy, rfl⟩
      obtain ⟨S2, g1, g2, g3, g4⟩ := c_doDeed (S := S) (b := 29) (a := nI x) (d := nI y) rfl (by omega) a1 a2 a3 a4 hn hl
      have g5 := m_doDeed (T := T) a2 a4 hn hx1 hy1 hl
      unfold fX12_live
      rw [zBr_p (show (0 : Int32) = 0 from rfl), g1, g5, zBd_s, zBd_s, zBd_s, zBp_s]
      refine ⟨0, S2, _, rfl, rfl, JC_put h g2 g3 (fun k hk => ?_) g4 (WFl_deed a2 a4 hn (Nat.le_refl _) hx1 hy1 hl), g3 240 (by omega)⟩
      rcases hk with hk | hk
      · exact aDo_lo (by omega) (by omega) (by omega) (by omega) (by omega) (by omega)
      · exact aDo_hi hn (by omega) (by omega) (by omega)
  · unfold fX0_liveSponge
    rw [c1, c2, zBr_q (show ¬ (9 : Int32) = 8 by decide), zBr_p (show (9 : Int32) = 9 from rfl), zBr_q (show ¬ (1 : Int32) = 3 by decide), ep, c_whySponge a3 hp h6, m_whySponge (by omega), zBd_s, zBd_s]
    by_cases q : T.1 2 (32 + p) = 0
    · rw [if_pos q, zBr_q (show ¬ (1 : Int32) = 0 by decide), zBr_q (show ¬ (1 : Int32) = 0 by decide), zBp_s]
      exact ⟨11, S, T, rfl, rfl, h, rfl⟩
    · unfold fX6_spongeOff fX12_live
      rw [if_neg q, zBr_p (show (0 : Int32) = 0 from rfl), zBr_p (show (0 : Int32) = 0 from rfl), zIx_nI (show p < 6 by omega) (by omega), zGd_t, nI_clamp (by omega), zLt_s, zBd_s, zBp_s, zBr_q (show ¬ (1 : Int32) = 0 by decide), zBr_p (show (1 : Int32) = 1 from rfl), zo_32, zIx_nI (by omega) (by omega), zGd_t, zLt_s, nI_clamp (by omega), zBd_s]
      have er : zI T 2 (32 + p) 0 = zPut T 2 (upd (T.1 2) (32 + p) 0) := zI_asPut
      refine ⟨0, _, _, rfl, by rw [er], JC_put h rfl (fun c hc => zI_ne (by omega)) (fun k hk => pk_un (by omega)) (Rl_spongeB a3 hp h6 0) (WFl_sponge a4 hp h6 ⟨0, by omega, rfl⟩), zI_ne (by omega)⟩
  · unfold fX0_liveCarry
    have w1 : fX6_whyNotCarry S 29 (nI p) (nI l) = some (if T.1 2 (26 + p) = nI l then 1 else 0) := by
      unfold fX6_whyNotCarry
      rw [zIx_nI (by omega) (by omega), zGd_t, nI_clamp (by omega), (a3.2.2.1 p hp).1]
      by_cases q : T.1 2 (26 + p) = nI l
      · rw [zBr_p q, if_pos q]
      · rw [zBr_q q, if_neg q]
    have w2 : fX12_why T 2 (nI p) (nI l) = some (if T.1 2 (26 + p) = nI l then 1 else 0) := by
      unfold fX12_why
      rw [zBr_q (show ¬ (2 : Int32) = 0 by decide), zBr_q (show ¬ (2 : Int32) = 1 by decide), zo_26, zIx_nI (by omega) (by omega), zGd_t, nI_clamp (by omega)]
      by_cases q : T.1 2 (26 + p) = nI l
      · rw [zBr_p q, if_pos q]
      · rw [zBr_q q, if_neg q]
    rw [c1, c2, zBr_q (show ¬ (10 : Int32) = 8 by decide), zBr_q (show ¬ (10 : Int32) = 9 by decide), zBr_p (show (10 : Int32) = 10 from rfl), zBr_q (show ¬ (2 : Int32) = 3 by decide), ep, el, w1, w2, zBd_s, zBd_s]
    by_cases q : T.1 2 (26 + p) = nI l
    · rw [if_pos q, zBr_q (show ¬ (1 : Int32) = 0 by decide), zBr_q (show ¬ (1 : Int32) = 0 by decide), zBp_s]
      exact ⟨21, S, T, rfl, rfl, h, rfl⟩
    · unfold fX6_carryTo fX12_live
      rw [if_neg q, zBr_p (show (0 : Int32) = 0 from rfl), zBr_p (show (0 : Int32) = 0 from rfl), zIx_nI (show p < 6 by omega) (by omega), zGd_t, nI_clamp (by omega), zLt_s, zBd_s, zBp_s, zBr_q (show ¬ (2 : Int32) = 0 by decide), zBr_q (show ¬ (2 : Int32) = 1 by decide), zo_26, zIx_nI (by omega) (by omega), zGd_t, zLt_s, nI_clamp (by omega), zBd_s]
      have er : zI T 2 (26 + p) (nI l) = zPut T 2 (upd (T.1 2) (26 + p) (nI l)) := zI_asPut
      refine ⟨0, _, _, rfl, by rw [er], JC_put h rfl (fun c hc => zI_ne (by omega)) (fun k hk => pk_un (by omega)) (Rl_carryB a3 hp h6 _) (WFl_carry a4 hp h6 ⟨l, hl, rfl⟩), zI_ne (by omega)⟩
  · obtain ⟨d, hd4, hd⟩ := a4.1
    unfold fX0_liveDay fX6_daysLeft
    rw [c1, c2, zBr_q (show ¬ (11 : Int32) = 8 by decide), zBr_q (show ¬ (11 : Int32) = 9 by decide), zBr_q (show ¬ (11 : Int32) = 10 by decide), zBr_p (show (3 : Int32) = 3 from rfl), ev, zBd_s, a3.1, hd, show (400 : Int32) = nI 400 from rfl, pk_sub (show d ≤ 400 by omega), nI_add]
    by_cases q : d + v ≤ 400
    · obtain ⟨S2, g1, g2, g3, g4⟩ := c_goDays (S := S) (b := 29) (w := v) rfl (by omega) a1 a2 a3 a4 hd (by omega) v6
      have g5 := m_passDays (T := T) (w := v) a2 a4 hd (by omega) v6
      rw [zle_t (show v ≤ 400 - d by omega) (by omega), zle_t q (by omega), g1, g5, zBp_s, zBp_s, zBp_s]
      refine ⟨0, S2, _, rfl, rfl, JC_put h g2 g3 (fun k hk => aDy_un _ _ _ (by omega) (by omega)) g4 (WFl_days a4 h6 (by omega)), g3 240 (by omega)⟩
    · rw [zle_f (show 400 - d < v by omega) (by omega), zle_f (show 400 < d + v by omega) (by omega), zBp_s]
      exact ⟨31, S, T, rfl, rfl, h, rfl⟩
end Judge
