/-! a run, the reference's -/
theorem m_isL {c : Nat} (h : c < 256) : fX12_isLetter (nI c) = some (bI (cL c)) ∧ fX12_isDigit (nI c) = some (bI (cD c)) := by
  have key : ∀ c, c < 256 → fX12_isLetter (nI c) = some (bI (cL c)) ∧ fX12_isDigit (nI c) = some (bI (cD c)) := by decide +kernel
  exact key c h
theorem bI_inj {a b : Bool} : bI a = bI b ↔ a = b := by cases a <;> cases b <;> decide
section Run2
variable {T : zSt}
/-- are all of the first i letters, or none, as the first is -/
def gdB (b : Nat → Nat) (st : Nat) (l0 : Bool) : Nat → Bool
  | 0 => true
  | i + 1 => gdB b st l0 i && decide (cL (b (st + i)) = l0)
theorem gdB_t {b : Nat → Nat} {st : Nat} {l0 : Bool} : ∀ {i : Nat}, gdB b st l0 i = true ↔ ∀ j, j < i → cL (b (st + j)) = l0
  | 0 => ⟨fun _ j hj => by omega, fun _ => rfl⟩
  | i + 1 => by
    rw [gdB, Bool.and_eq_true, decide_eq_true_eq, gdB_t (i := i)]
    constructor
    · rintro ⟨h1, h2⟩ j hj
      by_cases e : j = i
      · subst e; exact h2
      · exact h1 j (by omega)
    · intro h
      exact ⟨fun j hj => h j (by omega), h i (by omega)⟩
def mRn (T : zSt) (b : Nat → Nat) (st i : Nat) (Y : zSt) : Prop := (∀ c, c ≠ 0 → Y.1 c = T.1 c ∧ Y.2 c = T.2 c) ∧ (∀ j, j ≠ 5 → j ≠ 8 → Y.1 0 j = T.1 0 j) ∧ Y.1 0 5 = nI (st + i) ∧ (i ≤ 7 → (∀ j, j < i → cL (b (st + j)) = true) → Y.2 0 12 = lN (f27 (lw b st i))) ∧ (i ≤ 3 → (∀ j, j < i → cD (b (st + j)) = true) → Y.1 0 8 = nI (nmV b st i))
def kdR (good l0 : Bool) (n : Nat) : Int32 := if good = true then (if l0 = true then (if n ≤ 7 then 2 else 1) else (if n ≤ 3 then 3 else 1)) else 1
theorem m_run {b : Nat → Nat} {L st n : Nat} (hL : T.1 0 3 = nI L) (hL9 : L ≤ 940) (hb : ∀ i, i < L → T.1 1 i = nI (b i) ∧ b i < 256) (h5 : T.1 0 5 = nI st) (h6 : T.1 0 6 = nI st) (hs : st < L) (hn : st + n ≤ L) (hA : ∀ j, j < n → cL (b (st + j)) = true ∨ cD (b (st + j)) = true) (hE : st + n = L ∨ ¬ (cL (b (st + n)) = true ∨ cD (b (st + n)) = true)) : ∃ Y, fX12_go_198 T (nI (b st)) = some (zI Y 0 7 (kdR (gdB b st (cL (b st)) n) (cL (b st)) n)) ∧ mRn T b st n Y := by
  obtain ⟨l0, hl0⟩ : ∃ l0, l0 = cL (b st) := ⟨_, rfl⟩
  rw [← hl0]
  unfold fX12_go_198
  rw [(m_isL (hb st hs).2).1, ← hl0, zBd_s, zLt_s, zLt_s]
  obtain ⟨R, e, Y, eR, hY⟩ := zLp_inv (body := fX12_go_215 (bI l0)) (fun i s => ∃ Y, s = (Y, bI (gdB b st l0 i)) ∧ mRn T b st i Y) (fun R => ∃ Y, R = zI Y 0 7 (kdR (gdB b st l0 n) l0 n) ∧ mRn T b st n Y) n (fun i s hi hI => by
    obtain ⟨Y, rfl, hY⟩ := hI
    obtain ⟨y1, y2, y3, y4, y5⟩ := id hY
    have yl : Y.1 0 3 = nI L := by rw [y2 3 (by omega) (by omega), hL]
    have y6 : Y.1 0 6 = nI st := by rw [y2 6 (by omega) (by omega), h6]
    have df : Y.1 0 5 - Y.1 0 6 = nI i := by rw [y3, y6, pk_sub (by omega), show st + i - st = i by omega]
    by_cases q : i < n
    · have hi2 : st + i < L := by omega
      have hc := (hb (st + i) hi2).2
      have ta : fX12_tapeAt Y (Y.1 0 5) = some (nI (b (st + i))) := by
        unfold fX12_tapeAt
        rw [yl, y3, zle_f hi2 (by omega), zIx_nI (by omega) (by omega), zGd_t, nI_clamp (by omega), (y1 1 (by omega)).1, (hb (st + i) hi2).1]
      refine Or.inl ?_
      have tail : ∀ (Z : zSt) (g : Bool), Z.1 0 5 = nI (st + i) → Z.1 0 6 = nI st → fX12_go_307 Z (bI l0) (bI g) (nI (b (st + i))) = some (.inl (zI (if i < 3 then zI Z 0 8 (((10 : Int32) * Z.1 0 8 + nI (b (st + i))) - 48) else Z) 0 5 (nI (st + i + 1)), bI g)) := by
        intro Z g z5 z6
        have dz : Z.1 0 5 - Z.1 0 6 = nI i := by rw [z5, z6, pk_sub (by omega), show st + i - st = i by omega]
        unfold fX12_go_307 fX12_go_337
        rw [dz, zLt_s, zLt_s, zLt_s, show (3 : Int32) = nI 3 from rfl, z5, zI_at, if_neg (by omega), z5, nI_1]
        by_cases q3 : i < 3
        · rw [zle_f q3 (by omega), if_pos q3]
        · rw [zle_t (by omega) (by omega), if_neg q3]
      have mid : ∀ g : Bool, fX12_go_272 Y (bI l0) (nI (b (st + i))) (bI g) = some (.inl (zI (if i < 3 then zI (if i < 7 then zJ Y 0 12 (((27 : Int64) * Y.2 0 12) + (nI (b (st + i))).toInt64 - 96) else Y) 0 8 (((10 : Int32) * Y.1 0 8 + nI (b (st + i))) - 48) else (if i < 7 then zJ Y 0 12 (((27 : Int64) * Y.2 0 12) + (nI (b (st + i))).toInt64 - 96) else Y)) 0 5 (nI (st + i + 1)), bI g)) := by
        intro g
        unfold fX12_go_272
        rw [df, show (7 : Int32) = nI 7 from rfl, zLt_s]
        by_cases q7 : i < 7
        · rw [zle_f q7 (by omega), if_pos q7, tail _ g (by rw [zJ_at1]; exact y3) (by rw [zJ_at1]; exact y6), zJ_at1]
        · rw [zle_t (by omega) (by omega), if_neg q7, tail Y g y3 y6]
      have step : fX12_go_243 Y (bI l0) (bI (gdB b st l0 i)) = fX12_go_272 Y (bI l0) (nI (b (st + i))) (bI (gdB b st l0 (i + 1))) := by
        unfold fX12_go_243 fX12_go_271
        rw [y3, zIx_nI (by omega) (by omega), zGd_t, nI_clamp (by omega), (y1 1 (by omega)).1, (hb (st + i) hi2).1, zLt_s, bI_br, (m_isL hc).1, zBd_s, gdB]
        by_cases g : gdB b st l0 i = true
        · rw [if_pos g, g, Bool.true_and]
          by_cases z : cL (b (st + i)) = l0
          · rw [zBr_p (bI_inj.mpr z), decide_eq_true z]; rfl
          · rw [zBr_q (fun w => z (bI_inj.mp w)), decide_eq_false z]; rfl
        · rw [if_neg g, Bool.not_eq_true _ |>.mp g, Bool.false_and]; rfl
      have bodyEq : fX12_go_215 (bI l0) (Y, bI (gdB b st l0 i)) = fX12_go_272 Y (bI l0) (nI (b (st + i))) (bI (gdB b st l0 (i + 1))) := by
        unfold fX12_go_215
        dsimp only
        rw [ta, zBd_s, zBd_s, (m_isL hc).1, (m_isL hc).2, zBd_s, zBd_s, bI_br, bI_br, step]
        rcases hA i q with hl | hd
        · rw [if_pos hl]
        · by_cases hl : cL (b (st + i)) = true
          · rw [if_pos hl]
          · rw [if_neg hl, if_pos hd]
      refine ⟨_, bodyEq.trans (mid _), ⟨_, rfl, ?_⟩, q⟩
      · obtain ⟨Z, hZ⟩ : ∃ Z, Z = if i < 7 then zJ Y 0 12 (((27 : Int64) * Y.2 0 12) + (nI (b (st + i))).toInt64 - 96) else Y := ⟨_, rfl⟩
        rw [← hZ]
        have z1 : Z.1 = Y.1 := by
          rw [hZ]
          split
          · rfl
          · rfl
        have z2 : ∀ c, c ≠ 0 → Z.2 c = Y.2 c := fun c hc => by
          rw [hZ]
          split
          · exact zJ_ne hc
          · rfl
        obtain ⟨V, hV⟩ : ∃ V, V = if i < 3 then zI Z 0 8 (((10 : Int32) * Y.1 0 8 + nI (b (st + i))) - 48) else Z := ⟨_, rfl⟩
        rw [← hV]
        have v1 : ∀ c, c ≠ 0 → V.1 c = Y.1 c := fun c hc => by
          rw [hV]
          split
          · rw [zI_ne hc, z1]
          · rw [z1]
        have v0 : ∀ j, j ≠ 8 → V.1 0 j = Y.1 0 j := fun j hj => by
          rw [hV]
          split
          · rw [zI_at, if_neg (by omega), z1]
          · rw [z1]
        have v2 : V.2 = Z.2 := by
          rw [hV]
          split
          · rfl
          · rfl
        refine ⟨fun c hc => ⟨by rw [zI_ne hc, v1 c hc]; exact (y1 c hc).1, by rw [zI_at2, v2, z2 c hc]; exact (y1 c hc).2⟩, fun j j5 j8 => by rw [zI_at, if_neg (by omega), v0 j j8]; exact y2 j j5 j8, by rw [zI_at, if_pos ⟨rfl, rfl⟩]; rfl, fun i7 ha => ?_, fun i3 ha => ?_⟩
        · have hw := y4 (by omega) (fun j hj => ha j (by omega))
          have lt := f27_lt (lw_ok (b := b) (st := st) (i := i) (fun j hj => ha j (by omega))) (by rw [lw_len]; omega)
          rw [zI_at2, v2, hZ, if_pos (show i < 7 by omega), zJ_at, if_pos ⟨rfl, rfl⟩, hw, zW27 lt (cL_iff.mp (ha i (by omega))), lw_s, f27_s]
        · have hw := y5 (by omega) (fun j hj => ha j (by omega))
          rw [zI_at, if_neg (by omega), hV, if_pos (show i < 3 by omega), zI_at, if_pos ⟨rfl, rfl⟩, hw, zV10m (cD_iff.mp (ha i (by omega)))]
          rfl
    · have ei : i = n := by omega
      subst ei
      refine Or.inr ⟨_, ?_, Y, rfl, hY⟩
      obtain ⟨r, er, ex⟩ : ∃ c, fX12_tapeAt Y (Y.1 0 5) = some (nI c) ∧ c < 256 ∧ ¬ (cL c = true ∨ cD c = true) := by
        rcases hE with hE | hE
        · refine ⟨0, ?_, by omega, by decide⟩
          unfold fX12_tapeAt
          rw [yl, y3, zle_t (by omega) (by omega)]
          rfl
        · by_cases q2 : st + i < L
          · refine ⟨b (st + i), ?_, (hb (st + i) q2).2, hE⟩
            unfold fX12_tapeAt
            rw [yl, y3, zle_f q2 (by omega), zIx_nI (by omega) (by omega), zGd_t, nI_clamp (by omega), (y1 1 (by omega)).1, (hb (st + i) q2).1]
          · refine ⟨0, ?_, by omega, by decide⟩
            unfold fX12_tapeAt
            rw [yl, y3, zle_t (by omega) (by omega)]
            rfl
      unfold fX12_go_215 fX12_go_374
      dsimp only
      rw [er, zBd_s, zBd_s, (m_isL ex.1).1, (m_isL ex.1).2, zBd_s, zBd_s, bI_br, bI_br, if_neg (fun z => ex.2 (Or.inl z)), if_neg (fun z => ex.2 (Or.inr z)), df, bI_br, bI_br, bI_br, show (3 : Int32) = nI 3 from rfl, show (7 : Int32) = nI 7 from rfl, zLt_s, zLt_s, zLt_s]
      unfold kdR
      by_cases g : gdB b st l0 i = true
      · rw [if_pos g, if_pos g]
        cases l0
        · rw [if_neg (by decide), if_neg (by decide), if_neg (by decide)]
          by_cases q3 : i ≤ 3
          · rw [zle_t q3 (by omega), if_pos q3, zXr_s]; rfl
          · rw [zle_f (by omega) (by omega), if_neg q3, zXr_s]
        · rw [if_pos rfl, if_pos rfl, if_pos rfl]
          by_cases q3 : i ≤ 7
          · rw [zle_t q3 (by omega), if_pos q3, zXr_s]
          · rw [zle_f (by omega) (by omega), if_neg q3, zXr_s]
      · rw [if_neg g, if_neg g, zXr_s]) 2000 0 (zI (zJ T 0 12 0) 0 8 0, 1) (by omega) (by omega) ⟨_, rfl, fun c hc => ⟨by rw [zI_ne hc, zJ_at1], by rw [zI_at2, zJ_ne hc]⟩, fun j j4 j8 => by rw [zI_at, if_neg (by omega), zJ_at1], by rw [zI_at, if_neg (by omega), zJ_at1, h5]; rfl, fun _ _ => by rw [zI_at2, zJ_at, if_pos ⟨rfl, rfl⟩]; rfl, fun _ _ => by rw [zI_at, if_pos ⟨rfl, rfl⟩]; rfl⟩
  exact ⟨Y, by rw [e, eR], hY⟩
end Run2
