/-! a line that tells a name -/
def hFr (S0 T0 S T : zSt) : Prop := (∀ c, c ≠ 1 → (c < 229 ∨ 240 ≤ c) → S.1 c = S0.1 c ∧ S.2 c = S0.2 c) ∧ (∀ c, c ≠ 0 → c ≠ 3 → c ≠ 11 → T.1 c = T0.1 c) ∧ (∀ c, c ≠ 0 → c ≠ 8 → T.2 c = T0.2 c) ∧ ∀ j, (j < 3 ∨ 14 ≤ j) → T.1 0 j = T0.1 0 j
def dRs (d : Nat → Int32) (S T : zSt) : Prop := S.1 230 10 = d 4 ∧ S.1 230 11 = d 5 ∧ (∀ l, l < 5 → S.1 232 l = d (6 + l)) ∧ (∀ p, p < kP d → S.1 233 p = d (11 + p) ∧ S.1 234 p = d (17 + p) ∧ S.1 235 p = if aFern d p = true then 1 else 0) ∧ WFh d ∧ (∃ F, d 23 = nI F ∧ F < 2 ^ kP d) ∧ (S.1 229 2 = T.1 11 0 ∧ (T.1 11 0 = 0 ∨ T.1 11 0 = 1)) ∧ (S.1 229 3 = T.1 11 1 ∧ (T.1 11 1 = 0 ∨ T.1 11 1 = 1))
def dMd (d d' : Nat → Int32) (S T : zSt) : Prop := T.1 3 = d ∧ (∀ k, k < 4 → S.1 231 k = d' k) ∧ rNm S.1 S.2 230 (T.2 8) d' ∧ dRs d S T
def hQd (S0 T0 : zSt) (d d' : Nat → Int32) (S T : zSt) : Prop := hFr S0 T0 S T ∧ dMd d d' S T
def hQ (S0 T0 S T : zSt) : Prop := ∃ d, hQd S0 T0 d d S T
section Named
variable {S0 T0 S T : zSt} {d d' : Nat → Int32} {b : Nat → Nat} {L M lo : Nat}
theorem hFr_stb : stb (hFr S0 T0) := fun S S' T T' h1 h2 h3 h => ⟨fun c c1 c2 => ⟨((h1 c c1).1).trans (h.1 c c1 c2).1, ((h1 c c1).2).trans (h.1 c c1 c2).2⟩, fun c c0 c3 c11 => ((h2 c c0).1).trans (h.2.1 c c0 c3 c11), fun c c0 c8 => ((h2 c c0).2).trans (h.2.2.1 c c0 c8), fun j hj => (h3 j hj).trans (h.2.2.2 j hj)⟩
theorem dRs_stb {S S' T T' : zSt} (h1 : ∀ c, c ≠ 1 → S'.1 c = S.1 c ∧ S'.2 c = S.2 c) (h2 : ∀ c, c ≠ 0 → T'.1 c = T.1 c ∧ T'.2 c = T.2 c) (h : dRs d S T) : dRs d S' T' := by
  unfold dRs at h ⊢
  rw [(h1 230 (by omega)).1, (h1 232 (by omega)).1, (h1 233 (by omega)).1, (h1 234 (by omega)).1, (h1 235 (by omega)).1, (h1 229 (by omega)).1, (h2 11 (by omega)).1]
  exact h
theorem hQd_stb : stb (hQd S0 T0 d d') := fun S S' T T' h1 h2 h3 h => by
  refine ⟨hFr_stb S S' T T' h1 h2 h3 h.1, ?_⟩
  obtain ⟨-, a1, a2, a3, a4⟩ := h
  refine ⟨by rw [(h2 3 (by omega)).1]; exact a1, fun k hk => by rw [(h1 231 (by omega)).1]; exact a2 k hk, ?_, dRs_stb h1 h2 a4⟩
  rw [(h2 8 (by omega)).2]
  exact rNm_cong (fun a q1 q2 => (h1 a (by omega)).1) (fun a q1 q2 => (h1 a (by omega)).2) a3
theorem FI_w {Q Q' : zSt → zSt → Prop} (hw : Q S T → Q' S T) (h : FI Q S T) : FI Q' S T := ⟨hw h.1, h.2⟩
theorem PI_w {Q Q' : zSt → zSt → Prop} (hw : Q S T → Q' S T) {lo' : Nat} (hl : lo' ≤ lo) (h : PI Q b L M lo S T) : PI Q' b L M lo' S T := by
  obtain ⟨h1, h2, h3, st, to, h4, h5⟩ := h
  exact ⟨hw h1, h2, h3, st, to, h4, fun a1 a2 => Nat.le_trans hl (h5 a1 a2)⟩
theorem m_taken (hw : WFc d) (hn : rNm S.1 S.2 230 (T.2 8) d) (h3 : T.1 3 = d) {x : Int64} (hx : nmR x (T.2 0 12)) : (fX3_placeOfWord S 230 x = some (-1) ∧ fX12_isTaken T = some 0 ∧ ∀ W, W ≤ 20 → S.1 230 9 = nI W → ∀ k, k < W → ¬ S.2 237 k = x) ∨ ∃ k, k < 20 ∧ fX3_placeOfWord S 230 x = some (nI k) ∧ fX12_isTaken T = some 1 := by
  have t0 := two_known (a := 8) hw hn hx (show 0 < 4 by omega)
  have t1 := two_known (a := 8) hw hn hx (show 1 < 4 by omega)
  have t2 := two_known (a := 8) hw hn hx (show 2 < 4 by omega)
  have t3 := two_known (a := 8) hw hn hx (show 3 < 4 by omega)
  obtain ⟨W, n1, n2, n3, -⟩ := id hn
  have k0 := hw.1.2
  have k1 := hw.2.1.2
  have k2 := hw.2.2.1.2
  have k3 := hw.2.2.2.1.2
  unfold fX12_isTaken
  simp only [zg_0_24, zg_1_24, zg_2_24, zg_3_24, zGd_t, zt_0, zt_1, zt_2, zt_3, h3]
  rcases c_place n1 (by omega) x with ⟨k, hk, p1, p2⟩ | ⟨p1, p2⟩
  · refine Or.inr ⟨k, by omega, p2, ?_⟩
    obtain ⟨s, j, b1, b2, -⟩ := n3 k hk
    have same : ∀ k', k' < 20 → fX3_placeOfWord S 230 x = some (nI k') → k' = k := fun k' h1 h2 => (nI_eq (by omega) (by omega)).mp (Option.some.inj (h2.symm.trans p2))
    have yes : ∀ s', s' = s → ((∃ k j, k < 20 ∧ j < (d s').toNatClampNeg ∧ fX3_placeOfWord S 230 x = some (nI k) ∧ S.1 (230 + 8) k = nI s' ∧ S.1 (230 + 9) k = nI j ∧ fX12_findIn T 8 (nI (nB s')) (d s') (T.2 0 12) = some (nI j)) ∨ ((fX3_placeOfWord S 230 x = some (-1) ∨ ∃ k, k < 20 ∧ fX3_placeOfWord S 230 x = some (nI k) ∧ ¬ S.1 (230 + 8) k = nI s') ∧ fX12_findIn T 8 (nI (nB s')) (d s') (T.2 0 12) = some (-1))) → ∃ j, j < 1000 ∧ fX12_findIn T 8 (nI (nB s')) (d s') (T.2 0 12) = some (nI j) := fun s' es h => by
      subst es
      rcases h with ⟨-, j, -, h1, -, -, -, h2⟩ | ⟨h1 | ⟨k', h1, h2, h4⟩, -⟩
      · have := (WFh_cnt hw b1).2.2
        exact ⟨j, by omega, h2⟩
      · rw [p2] at h1
        exact absurd (Option.some.inj h1) (zneg2 (by omega))
      · rw [same k' h1 h2] at h4
        exact absurd b2 h4
    have each : ∀ s', s' < 4 → (∃ j, j < 1000 ∧ fX12_findIn T 8 (nI (nB s')) (d s') (T.2 0 12) = some (nI j)) ∨ (fX12_findIn T 8 (nI (nB s')) (d s') (T.2 0 12) = some (-1) ∧ s' ≠ s) := fun s' hs' => by
      by_cases es : s' = s
      · exact Or.inl (yes s' es (two_known (a := 8) hw hn hx hs'))
      · rcases two_known (a := 8) hw hn hx hs' with ⟨-, j, -, h1, -, -, -, h⟩ | ⟨-, h⟩
        · have := (WFh_cnt hw hs').2.2
          exact Or.inl ⟨j, by omega, h⟩
        · exact Or.inr ⟨h, es⟩
    rcases each 0 (by omega) with ⟨j0, hj0, e0⟩ | ⟨e0, ne0⟩
    · have e0' : fX12_findIn T 8 0 (d 0) (T.2 0 12) = some (nI j0) := e0
      rw [e0', zBd_s, zBr_q (zneg2 (by omega))]
    have e0' : fX12_findIn T 8 0 (d 0) (T.2 0 12) = some (-1) := e0
    rw [e0', zBd_s, zBr_p rfl]
    rcases each 1 (by omega) with ⟨j0, hj0, e0⟩ | ⟨e0, ne1⟩
    · have e0' : fX12_findIn T 8 5 (d 1) (T.2 0 12) = some (nI j0) := e0
      rw [e0', zBd_s, zBr_q (zneg2 (by omega))]
    have e0' : fX12_findIn T 8 5 (d 1) (T.2 0 12) = some (-1) := e0
    rw [e0', zBd_s, zBr_p rfl]
    rcases each 2 (by omega) with ⟨j0, hj0, e0⟩ | ⟨e0, ne2⟩
    · have e0' : fX12_findIn T 8 11 (d 2) (T.2 0 12) = some (nI j0) := e0
      rw [e0', zBd_s, zBr_q (zneg2 (by omega))]
    have e0' : fX12_findIn T 8 11 (d 2) (T.2 0 12) = some (-1) := e0
    rw [e0', zBd_s, zBr_p rfl]
    rcases each 3 (by omega) with ⟨j0, hj0, e0⟩ | ⟨e0, ne3⟩
    · have e0' : fX12_findIn T 8 15 (d 3) (T.2 0 12) = some (nI j0) := e0
      rw [e0', zBd_s, zBr_q (zneg2 (by omega))]
    omega
  · refine Or.inl ⟨p2, ?_, fun W' w20 hW' k hk => ?_⟩
    · have no : ∀ s', ((∃ k j, k < 20 ∧ j < (d s').toNatClampNeg ∧ fX3_placeOfWord S 230 x = some (nI k) ∧ S.1 (230 + 8) k = nI s' ∧ S.1 (230 + 9) k = nI j ∧ fX12_findIn T 8 (nI (nB s')) (d s') (T.2 0 12) = some (nI j)) ∨ ((fX3_placeOfWord S 230 x = some (-1) ∨ ∃ k, k < 20 ∧ fX3_placeOfWord S 230 x = some (nI k) ∧ ¬ S.1 (230 + 8) k = nI s') ∧ fX12_findIn T 8 (nI (nB s')) (d s') (T.2 0 12) = some (-1))) → fX12_findIn T 8 (nI (nB s')) (d s') (T.2 0 12) = some (-1) := fun s' h => by
        rcases h with ⟨k, j, h0, -, h1, -⟩ | ⟨-, h⟩
        · rw [p2] at h1
          exact absurd (Option.some.inj h1).symm (zneg2 (by omega))
        · exact h
      have e0 : fX12_findIn T 8 0 (d 0) (T.2 0 12) = some (-1) := no 0 t0
      have e1 : fX12_findIn T 8 5 (d 1) (T.2 0 12) = some (-1) := no 1 t1
      have e2 : fX12_findIn T 8 11 (d 2) (T.2 0 12) = some (-1) := no 2 t2
      have e3 : fX12_findIn T 8 15 (d 3) (T.2 0 12) = some (-1) := no 3 t3
      rw [e0, zBd_s, zBr_p rfl, e1, zBd_s, zBr_p rfl, e2, zBd_s, zBr_p rfl, e3, zBd_s, zBr_p rfl]
    · have : W' = W := (nI_eq (by omega) (by omega)).mp (hW'.symm.trans n1)
      subst this
      exact p1 k hk
/-- the keyword passed, a new name told: the class has it whole, the reference but for the count -/
theorem N_name (h : PI (hQd S0 T0 d d) b L M lo S T) (n2 : ¬ S.1 1 5 = 102) (n3 : ¬ S.1 1 5 = 103) {s c : Nat} (hs : s < 4) (hc : (d s).toNatClampNeg = c) : (∃ S' T2 T', fX4_readNamed S (nI s) = some (1, S') ∧ fX12_readFirst T (nI s) (nI (mMost s)) = some (1, T2) ∧ T2.1 3 = d ∧ fX12_readNew T2 (nI (nB s + c)) = some (1, T') ∧ c < mMost s ∧ PI (hQd S0 T0 d (upd d s (nI (c + 1)))) b L M (lo + 1) S' T') ∨ ∃ S' T', fX4_readNamed S (nI s) = some (0, S') ∧ (fX12_readFirst T (nI s) (nI (mMost s)) = some (0, T') ∨ ∃ T2, fX12_readFirst T (nI s) (nI (mMost s)) = some (1, T2) ∧ T2.1 3 = d ∧ fX12_readNew T2 (nI (nB s + c)) = some (0, T')) ∧ FI (hFr S0 T0) S' T' := by
  obtain ⟨⟨fr, m1, m2, m3, m4⟩, hr, hf, st, to, ht, hl⟩ := id h
  have hw : WFc d := m4.2.2.2.2.1.c
  have hcm := mMost_c hw hs
  have hms : d s = nI c := by rw [(WFh_cnt hw hs).1, hc]
  have c6 := (WFh_cnt hw hs).2.2
  have mm : mMost s ≤ 6 := by
    rcases (show s = 0 ∨ s = 1 ∨ s = 2 ∨ s = 3 by omega) with rfl | rfl | rfl | rfl <;> decide
  have zmo : zMo s = nI (mMost s) := by
    rcases (show s = 0 ∨ s = 1 ∨ s = 2 ∨ s = 3 by omega) with rfl | rfl | rfl | rfl <;> rfl
  unfold fX4_readNamed fX12_readFirst fX3_isFull
  rw [zIx_nI (show s < 4 by omega) (by omega), zGd_t, zGd_t, nI_clamp (by omega), show S.1 (230 + 1) s = nI c by rw [← hms]; exact m2 s hs, zmo, zIx_nI (show s < 24 by omega) (by omega), zGd_t, m1, hms]
  by_cases full : c < mMost s
  · rw [zlt_t full (by omega), zBd_s, zBr_p (show (0 : Int32) = 0 from rfl), zBr_q (fun q => by have := (nI_eq (by omega) (by omega)).mp q; omega)]
    obtain ⟨S5, T5, e1, e2, h5, -, fc, fm⟩ := P_read hQd_stb h n2 n3
    rw [e1, e2, zBd_s, zBd_s]
    obtain ⟨⟨fr5, a1, a2, a3, a4⟩, hr5, hf5, st5, to5, ht5, hl5⟩ := id h5
    by_cases nm : S5.1 1 5 = 100
    · rw [zBr_p nm]
      obtain ⟨t, et, ht4, hk⟩ := tk_kind ht5
      have et' : t = 100 := (nI_eq (b := 100) (by omega) (by omega)).mp (et.symm.trans nm)
      subst et'
      have hx : nmR (S5.2 1 7) (T5.2 0 12) := by
        rcases hk with ⟨hk, -⟩ | ⟨hk, -⟩ | ⟨hk, -⟩ | ⟨hk, -⟩ | ⟨-, -, hk, -⟩
        · omega
        · omega
        · omega
        · omega
        · exact hk
      have b20 := nB_20 hs full
      rcases m_taken hw a3 a1 hx with ⟨p1, p2, p3⟩ | ⟨k, k20, p1, p2⟩
      · obtain ⟨S6, g1, g2, g3, g4, g5, g6⟩ := c_addName hw a3 a2 hx hs hc full p3
        rw [p1, zBd_s, zBr_p rfl, g1, zBd_s]
        have q6 : hQd S0 T0 d (upd d s (nI (c + 1))) S6 (zJ T5 8 (nB s + c) (T5.2 0 12)) := by
          refine ⟨⟨fun a h1 h2 => ⟨by rw [g2 a (by omega) (by omega) (by omega) (by omega)]; exact (fr5.1 a h1 h2).1, by rw [g3 a (by omega) (by omega)]; exact (fr5.1 a h1 h2).2⟩, fun a h1 h2 h3 => fr5.2.1 a h1 h2 h3, fun a h1 h2 => by rw [zJ_ne h2]; exact fr5.2.2.1 a h1 h2, fr5.2.2.2⟩, a1, g5, by rw [zJ_eq]; exact g6, ?_⟩
          unfold dRs at a4 ⊢
          rw [g4 10 (by omega), g4 11 (by omega), g2 232 (by omega) (by omega) (by omega) (by omega), g2 233 (by omega) (by omega) (by omega) (by omega), g2 234 (by omega) (by omega) (by omega) (by omega), g2 235 (by omega) (by omega) (by omega) (by omega), g2 229 (by omega) (by omega) (by omega) (by omega)]
          exact a4
        have h6 : PI (hQd S0 T0 d (upd d s (nI (c + 1)))) b L M (lo + 1) S6 (zJ T5 8 (nB s + c) (T5.2 0 12)) := PI_upd h5 (g2 1 (by omega) (by omega) (by omega) (by omega)) (g3 1 (by omega) (by omega)) (g2 2 (by omega) (by omega) (by omega) (by omega)) (g3 3 (by omega) (by omega)) (fun j _ _ => rfl) (zJ_ne (by omega)) rfl q6
        have tok6 : S6.1 1 5 = 100 := by rw [g2 1 (by omega) (by omega) (by omega) (by omega)]; exact nm
        obtain ⟨S7, T7, e3, e4, h7, -⟩ := P_read hQd_stb h6 (by rw [tok6]; decide) (by rw [tok6]; decide)
        rw [e3, zBd_s]
        refine Or.inl ⟨S7, T5, T7, rfl, rfl, a1, ?_, full, PI_w (fun z => z) (by omega) h7⟩
        unfold fX12_readNew
        rw [tk_name ht5, zBd_s, bI_br, if_pos (decide_eq_true nm), p2, zBd_s, zBr_p rfl, zIx_nI b20 (by omega), zGd_t, zLt_s, nI_clamp (by omega), e4, zBd_s]
      · obtain ⟨S6, T6, g1, g2, g3⟩ := P_failK hQd_stb h5 (by rw [nm]; decide) 3
        rw [p1, zBd_s, zBr_q (zneg2 (by omega)), g1, zBp_s, zBo0, zGd_t]
        refine Or.inr ⟨S6, T6, rfl, Or.inr ⟨T5, rfl, a1, ?_⟩, FI_w (fun z => z.1) g3⟩
        unfold fX12_readNew
        rw [tk_name ht5, zBd_s, bI_br, if_pos (decide_eq_true nm), p2, zBd_s, zBr_q (show ¬ (1 : Int32) = 0 by decide), g2, zBp_s, zBo0, zGd_t]
    · obtain ⟨S6, T6, g1, g2, g3⟩ := P_fail1 hQd_stb h5
      rw [zBr_q nm, g1, zBp_s, zBo0, zGd_t]
      refine Or.inr ⟨S6, T6, rfl, Or.inr ⟨T5, rfl, a1, ?_⟩, FI_w (fun z => z.1) g3⟩
      unfold fX12_readNew
      rw [tk_name ht5, zBd_s, bI_br, if_neg (fun w => nm (of_decide_eq_true w)), g2, zBp_s, zBo0, zGd_t]
  · have ec : c = mMost s := by omega
    obtain ⟨S6, T6, g1, g2, g3⟩ := P_failK hQd_stb h n3 4
    rw [zlt_f (by omega) (by omega), zBd_s, zBr_q (show ¬ (1 : Int32) = 0 by decide), g1, zBp_s, zBo0, zGd_t, zBr_p (by rw [ec]), g2, zBp_s, zBo0, zGd_t]
    exact Or.inr ⟨S6, T6, rfl, Or.inl rfl, FI_w (fun z => z.1) g3⟩
end Named
