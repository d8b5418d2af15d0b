/-! names looked up -/
section Names
variable {S T : zSt} {m : Nat → Int32}
theorem c_place {h W : Nat} (hW : S.1 h 9 = nI W) (h20 : W ≤ 20) (x : Int64) : (∃ k, k < W ∧ S.2 (h + 7) k = x ∧ fX3_placeOfWord S h x = some (nI k)) ∨ ((∀ k, k < W → ¬ S.2 (h + 7) k = x) ∧ fX3_placeOfWord S h x = some (-1)) := by
  have body : ∀ k, k < W → fX3_placeOfWord_2 S h x (nI k) = if S.2 (h + 7) k = x then some (.inr (nI k)) else some (.inl (nI (k + 1))) := fun k hk => by
    unfold fX3_placeOfWord_2
    dsimp only
    rw [hW, zle_f hk (by omega), zIx_nI (by omega) (by omega), zGd_t, nI_clamp (by omega), zLt_s, nI_1]
    by_cases q : S.2 (h + 7) k = x
    · rw [zBr_p ((lg_cmp_eq _ _).mpr q), if_pos q, zXr_s]
    · rw [zBr_q (fun z => q ((lg_cmp_eq _ _).mp z)), if_neg q]
  unfold fX3_placeOfWord
  rcases zFirst (fun k => ¬ S.2 (h + 7) k = x) W with all | ⟨n, hn, h1, h2⟩
  · refine Or.inr ⟨all, zLp_run (body := fX3_placeOfWord_2 S h x) (fun i => nI i) W 2000 (fun i hi => by rw [body i hi, if_neg (all i hi)]) ?_ (by omega)⟩
    unfold fX3_placeOfWord_2
    dsimp only
    rw [hW, zle_t (Nat.le_refl _) (by omega), zXr_s]
  · have h2' : S.2 (h + 7) n = x := Classical.byContradiction h2
    exact Or.inl ⟨n, hn, h2', zLp_run (body := fX3_placeOfWord_2 S h x) (fun i => nI i) n 2000 (fun i hi => by rw [body i (by omega), if_neg (h1 i hi)]) (by rw [body n hn, if_pos h2']) (by omega)⟩
theorem m_find {a B n : Nat} (h20 : B + n ≤ 20) (y : Int64) : (∃ j, j < n ∧ T.2 a (B + j) = y ∧ fX12_findIn T a (nI B) (nI n) y = some (nI j)) ∨ ((∀ j, j < n → ¬ T.2 a (B + j) = y) ∧ fX12_findIn T a (nI B) (nI n) y = some (-1)) := by
  have body : ∀ k, k < n → fX12_findIn_3 T a (nI B) (nI n) y (nI k) = if T.2 a (B + k) = y then some (.inr (nI k)) else some (.inl (nI (k + 1))) := fun k hk => by
    unfold fX12_findIn_3
    dsimp only
    rw [zle_f hk (by omega), nI_add, zIx_nI (by omega) (by omega), zGd_t, nI_clamp (by omega), zLt_s, nI_1]
    by_cases q : T.2 a (B + k) = y
    · rw [zBr_p ((lg_cmp_eq _ _).mpr q), if_pos q, zXr_s]
    · rw [zBr_q (fun z => q ((lg_cmp_eq _ _).mp z)), if_neg q]
  unfold fX12_findIn
  rcases zFirst (fun k => ¬ T.2 a (B + k) = y) n with all | ⟨k, hn, h1, h2⟩
  · refine Or.inr ⟨all, zLp_run (body := fX12_findIn_3 T a (nI B) (nI n) y) (fun i => nI i) n 2000 (fun i hi => by rw [body i hi, if_neg (all i hi)]) ?_ (by omega)⟩
    unfold fX12_findIn_3
    dsimp only
    rw [zle_t (Nat.le_refl _) (by omega), zXr_s]
  · have h2' : T.2 a (B + k) = y := Classical.byContradiction h2
    exact Or.inl ⟨k, hn, h2', zLp_run (body := fX12_findIn_3 T a (nI B) (nI n) y) (fun i => nI i) k 2000 (fun i hi => by rw [body i (by omega), if_neg (h1 i hi)]) (by rw [body k hn, if_pos h2']) (by omega)⟩
def WFc (m : Nat → Int32) : Prop := (m 0 = nI (kL m) ∧ kL m ≤ 5) ∧ (m 1 = nI (kP m) ∧ kP m ≤ 6) ∧ (m 2 = nI (kE m) ∧ kE m ≤ 4) ∧ (m 3 = nI (kD m) ∧ kD m ≤ 5) ∧ True
theorem WFh.c (hw : WFh m) : WFc m := ⟨hw.1, hw.2.1, hw.2.2.1, hw.2.2.2.1, trivial⟩
theorem WFh_cnt (hw : WFc m) {s : Nat} (hs : s < 4) : m s = nI (m s).toNatClampNeg ∧ nB s + (m s).toNatClampNeg ≤ 20 ∧ (m s).toNatClampNeg ≤ 6 := by
  obtain ⟨⟨a1, a2⟩, ⟨b1, b2⟩, ⟨c1, c2⟩, ⟨d1, d2⟩, -⟩ := hw
  unfold kL at a1 a2
  unfold kP at b1 b2
  unfold kE at c1 c2
  unfold kD at d1 d2
  rcases (show s = 0 ∨ s = 1 ∨ s = 2 ∨ s = 3 by omega) with rfl | rfl | rfl | rfl
  · exact ⟨a1, by show 0 + _ ≤ 20; omega, by omega⟩
  · exact ⟨b1, by show 5 + _ ≤ 20; omega, by omega⟩
  · exact ⟨c1, by show 11 + _ ≤ 20; omega, by omega⟩
  · exact ⟨d1, by show 15 + _ ≤ 20; omega, by omega⟩
/-- a word looked up among those of a sort: on both sides the same -/
theorem two_known {h a s : Nat} (hw : WFc m) (hn : rNm S.1 S.2 h (T.2 a) m) {x y : Int64} (hx : nmR x y) (hs : s < 4) : (∃ k j, k < 20 ∧ j < (m s).toNatClampNeg ∧ fX3_placeOfWord S h x = some (nI k) ∧ S.1 (h + 8) k = nI s ∧ S.1 (h + 9) k = nI j ∧ fX12_findIn T a (nI (nB s)) (m s) y = some (nI j)) ∨ ((fX3_placeOfWord S h x = some (-1) ∨ ∃ k, k < 20 ∧ fX3_placeOfWord S h x = some (nI k) ∧ ¬ S.1 (h + 8) k = nI s) ∧ fX12_findIn T a (nI (nB s)) (m s) y = some (-1)) := by
  obtain ⟨W, n1, n2, n3, n4, n5, -⟩ := hn
  have k0 := hw.1.2
  have k1 := hw.2.1.2
  have k2 := hw.2.2.1.2
  have k3 := hw.2.2.2.1.2
  obtain ⟨c1, c2, c3⟩ := WFh_cnt hw hs
  have fnd := m_find (T := T) (a := a) (B := nB s) (n := (m s).toNatClampNeg) c2 y
  rw [← c1] at fnd
  rcases c_place n1 (by omega) x with ⟨k, hk, e1, e2⟩ | ⟨e1, e2⟩
  · obtain ⟨s0, j0, b1, b2, b3, b4, b5⟩ := n3 k hk
    rw [e1] at b5
    by_cases es : s0 = s
    · subst es
      have ey : T.2 a (nB s0 + j0) = y := (nmR_iff b5 hx).mp rfl
      rcases fnd with ⟨j, hj, f1, f2⟩ | ⟨f1, -⟩
      · obtain ⟨k', hk', g1, g2⟩ := n4 s0 j hs hj
        obtain ⟨s1, j1, d1, d2, d3, d4, d5⟩ := n3 k' hk'
        have es1 : s1 = s0 := (nI_eq (by omega) (by omega)).mp (d2.symm.trans g1)
        subst es1
        have c3' := (WFh_cnt hw hs).2.2
        have ej1 : j1 = j := (nI_eq (by omega) (by omega)).mp (d3.symm.trans g2)
        subst ej1
        rw [f1] at d5
        have : S.2 (h + 7) k' = x := (nmR_iff d5 hx).mpr rfl
        have ek := n5 k' k hk' hk (this.trans e1.symm)
        subst ek
        exact Or.inl ⟨k', j1, by omega, hj, e2, d2, d3, f2⟩
      · exact absurd ey (f1 j0 b4)
    · refine Or.inr ⟨Or.inr ⟨k, by omega, e2, fun q => es ((nI_eq (by omega) (by omega)).mp (b2.symm.trans q))⟩, ?_⟩
      rcases fnd with ⟨j, hj, f1, -⟩ | ⟨-, f2⟩
      · exfalso
        obtain ⟨k', hk', g1, g2⟩ := n4 s j hs hj
        obtain ⟨s1, j1, d1, d2, d3, d4, d5⟩ := n3 k' hk'
        have es1 : s1 = s := (nI_eq (by omega) (by omega)).mp (d2.symm.trans g1)
        subst es1
        have c3' := (WFh_cnt hw hs).2.2
        have ej1 : j1 = j := (nI_eq (by omega) (by omega)).mp (d3.symm.trans g2)
        subst ej1
        rw [f1] at d5
        have : S.2 (h + 7) k' = x := (nmR_iff d5 hx).mpr rfl
        have ek := n5 k' k hk' hk (this.trans e1.symm)
        subst ek
        exact es ((nI_eq (by omega) (by omega)).mp (b2.symm.trans d2))
      · exact f2
  · refine Or.inr ⟨Or.inl e2, ?_⟩
    rcases fnd with ⟨j, hj, f1, -⟩ | ⟨-, f2⟩
    · exfalso
      obtain ⟨k', hk', g1, g2⟩ := n4 s j hs hj
      obtain ⟨s1, j1, d1, d2, d3, d4, d5⟩ := n3 k' hk'
      have es1 : s1 = s := (nI_eq (by omega) (by omega)).mp (d2.symm.trans g1)
      subst es1
      have c3' := (WFh_cnt hw hs).2.2
      have ej1 : j1 = j := (nI_eq (by omega) (by omega)).mp (d3.symm.trans g2)
      subst ej1
      rw [f1] at d5
      exact e1 k' hk' ((nmR_iff d5 hx).mpr rfl)
    · exact f2
theorem K_core {L M st to h a s : Nat} (hh : 2 ≤ h) (ht : tkR S T L M st to) (hw : WFc m) (hn : rNm S.1 S.2 h (T.2 a) m) (hs : s < 4) : (S.1 1 5 = 100 ∧ ∃ j, j < (m s).toNatClampNeg ∧ (∀ S', fX9_read S = some S' → FC S S' → fX9_takeKnown S h (nI s) = some (nI j, S')) ∧ fX12_findIn T a (nI (nB s)) (m s) (T.2 0 12) = some (nI j)) ∨ (S.1 1 5 = 100 ∧ fX9_takeKnown S h (nI s) = fX9_takeKnown_41 S h ∧ fX12_findIn T a (nI (nB s)) (m s) (T.2 0 12) = some (-1)) ∨ (¬ S.1 1 5 = 100 ∧ fX9_takeKnown S h (nI s) = zBp (fX9_fail S (1 : Int32)) (fun r15 S14 => some ((-1 : Int32), S14))) := by
  unfold fX9_takeKnown
  by_cases q : S.1 1 5 = 100
  · obtain ⟨t, e, ht4, hk⟩ := tk_kind ht
    have et : t = 100 := (nI_eq (b := 100) (by omega) (by omega)).mp (e.symm.trans q)
    subst et
    have hx : nmR (S.2 1 7) (T.2 0 12) := by
      rcases hk with ⟨hk, -⟩ | ⟨hk, -⟩ | ⟨hk, -⟩ | ⟨hk, -⟩ | ⟨-, -, hk, -⟩
      · omega
      · omega
      · omega
      · omega
      · exact hk
    rw [zBr_p q]
    have c3 := (WFh_cnt hw hs).2.2
    rcases two_known hw hn hx hs with ⟨k, j, k20, hj, e1, e2, e3, e4⟩ | ⟨e1, e2⟩
    · refine Or.inl ⟨q, j, hj, fun S' r1 fc => ?_, e4⟩
      rw [e1, zBd_s, zBr_q (zneg2 (by omega)), zIx_nI k20 (by omega), zGd_t, nI_clamp (by omega), zBr_p e2, r1, zBd_s, zGd_t, (fc.1 (h + 9) (by omega)).1, e3]
    · refine Or.inr (Or.inl ⟨q, ?_, e2⟩)
      rcases e1 with e1 | ⟨k, k20, e1, e3⟩
      · rw [e1, zBd_s, zBr_p rfl]
      · rw [e1, zBd_s, zBr_q (zneg2 (by omega)), zIx_nI k20 (by omega), zGd_t, nI_clamp (by omega), zBr_q e3]
  · exact Or.inr (Or.inr ⟨q, by rw [zBr_q q]⟩)
variable {Q : zSt → zSt → Prop} {b : Nat → Nat} {L M lo : Nat}
theorem P_told (hQ : stb Q) (h : PI Q b L M lo S T) (v : Int32) : PI Q b L M lo S (zI T 0 13 v) := PI_upd h rfl rfl rfl rfl (fun j j1 j2 => by rw [zI_at, if_neg (by omega)]) rfl (zI_ne (by omega)) (hQ S S T _ (fun _ _ => ⟨rfl, rfl⟩) (fun c hc => ⟨zI_ne hc, rfl⟩) (fun j hj => by rw [zI_at, if_neg (by omega)]) h.1)
theorem P_named (hQ : stb Q) (h : PI Q b L M lo S T) (hw : WFc m) (hn : rNm S.1 S.2 4 (T.2 7) m) {s : Nat} (hs : s < 4) : (∃ j S' T', fX9_takeKnown S 4 (nI s) = some (nI j, S') ∧ fX12_readNamed T (nI (nB s)) (m s) = some (1, T') ∧ j < (m s).toNatClampNeg ∧ T'.1 0 13 = nI j ∧ PI Q b L M (lo + 1) S' T') ∨ ∃ S' T', fX9_takeKnown S 4 (nI s) = some (-1, S') ∧ fX12_readNamed T (nI (nB s)) (m s) = some (0, T') ∧ FI Q S' T' := by
  obtain ⟨q, hr, hf, st, to, ht, hl⟩ := id h
  have c3 := (WFh_cnt hw hs).2.2
  unfold fX12_readNamed
  rw [tk_name ht, zBd_s, bI_br]
  rcases K_core (a := 7) (by omega) ht hw hn hs with ⟨k1, j, hj, k2, k3⟩ | ⟨k1, k2, k3⟩ | ⟨k1, k2⟩
  · have h2 := P_told hQ h (nI j)
    obtain ⟨S', T', e1, e2, h', e3, fc, -⟩ := P_read hQ h2 (by rw [k1]; decide) (by rw [k1]; decide)
    rw [if_pos (decide_eq_true k1), k3, zBd_s, zLt_s, zI_at, if_pos ⟨rfl, rfl⟩, zBr_q (zneg2 (by omega)), e2, zBd_s]
    exact Or.inl ⟨j, S', T', k2 S' e1 fc, rfl, hj, by rw [e3, zI_at, if_pos ⟨rfl, rfl⟩], h'⟩
  · have h2 := P_told hQ h (-1)
    obtain ⟨S', T', e1, e2, h'⟩ := P_failK hQ h2 (by rw [k1]; decide) 3
    unfold fX9_takeKnown_41 at k2
    rw [if_pos (decide_eq_true k1), k3, zBd_s, zLt_s, zI_at, if_pos ⟨rfl, rfl⟩, zBr_p rfl, e2, zBp_s, zBo0, zGd_t, k2, e1, zBp_s]
    exact Or.inr ⟨S', T', rfl, rfl, h'⟩
  · obtain ⟨S', T', e1, e2, h'⟩ := P_fail1 hQ h
    rw [if_neg (fun w => k1 (of_decide_eq_true w)), k2, e1, e2, zBp_s, zBp_s, zBo0, zGd_t]
    exact Or.inr ⟨S', T', rfl, rfl, h'⟩
/-- a parlour of the draft: it stays at hand in the reference -/
theorem P_here (hQ : stb Q) (h : PI Q b L M lo S T) (hw : WFc m) (hn : rNm S.1 S.2 230 (T.2 8) m) (h0 : T.1 3 0 = m 0) : (∃ j, j < kL m ∧ (∀ S', fX9_read S = some S' → FC S S' → fX9_takeKnown S 230 0 = some (nI j, S')) ∧ fX12_isParlourHere T = some (1, zI T 0 13 (nI j)) ∧ S.1 1 5 = 100) ∨ ∃ S' T', fX9_takeKnown S 230 0 = some (-1, S') ∧ fX12_isParlourHere T = some (0, T') ∧ FI Q S' T' := by
  obtain ⟨q, hr, hf, st, to, ht, hl⟩ := id h
  have k5 := hw.1.2
  unfold fX12_isParlourHere
  rw [tk_name ht, zBd_s, bI_br, zg_0_24, zGd_t, zt_0, h0]
  rcases K_core (a := 8) (h := 230) (s := 0) (by omega) ht hw hn (by omega) with ⟨k1, j, hj, k2, k3⟩ | ⟨k1, k2, k3⟩ | ⟨k1, k2⟩
  · have hj' : j < kL m := hj
    have k3' : fX12_findIn T 8 0 (m 0) (T.2 0 12) = some (nI j) := k3
    rw [if_pos (decide_eq_true k1), k3', zBd_s, zLt_s, zI_at, if_pos ⟨rfl, rfl⟩, zBr_q (zneg2 (by omega))]
    exact Or.inl ⟨j, hj, k2, rfl, k1⟩
  · have h2 := P_told hQ h (-1)
    have k3' : fX12_findIn T 8 0 (m 0) (T.2 0 12) = some (-1) := k3
    obtain ⟨S', T', e1, e2, h'⟩ := P_failK hQ h2 (by rw [k1]; decide) 3
    have k2' : fX9_takeKnown S 230 0 = fX9_takeKnown_41 S 230 := k2
    unfold fX9_takeKnown_41 at k2'
    rw [if_pos (decide_eq_true k1), k3', zBd_s, zLt_s, zI_at, if_pos ⟨rfl, rfl⟩, zBr_p rfl, e2, zBp_s, zBr_p rfl, k2', e1, zBp_s]
    exact Or.inr ⟨S', T', rfl, rfl, h'⟩
  · obtain ⟨S', T', e1, e2, h'⟩ := P_fail1 hQ h
    have k2' : fX9_takeKnown S 230 0 = zBp (fX9_fail S (1 : Int32)) (fun r15 S14 => some ((-1 : Int32), S14)) := k2
    rw [if_neg (fun w => k1 (of_decide_eq_true w)), k2', e1, e2, zBp_s, zBp_s, zBo0, zGd_t]
    exact Or.inr ⟨S', T', rfl, rfl, h'⟩
end Names
