/-! the reference's table of steps -/
theorem zLp_inv {σ β : Type} {body : σ → Option (σ ⊕ β)} (Inv : Nat → σ → Prop) (Post : β → Prop) (n : Nat) (h : ∀ i s, i ≤ n → Inv i s → (∃ s', body s = some (.inl s') ∧ Inv (i + 1) s' ∧ i < n) ∨ ∃ r, body s = some (.inr r) ∧ Post r) : ∀ (fuel k : Nat) (s : σ), k ≤ n → n < fuel + k → Inv k s → ∃ r, zLp body fuel s = some r ∧ Post r := by
  intro fuel
  induction fuel with
  | zero => intro k s h1 h2; omega
  | succ fuel ih =>
    intro k s h1 h2 hI
    rcases h k s h1 hI with ⟨s', e, hI', hk⟩ | ⟨r, e, hr⟩
    · obtain ⟨r, e2, hr⟩ := ih (k + 1) s' (by omega) (by omega) hI'
      exact ⟨r, by simp only [zLp, e]; exact e2, hr⟩
    · exact ⟨r, by simp only [zLp, e], hr⟩
def adM (m : Nat → Int32) (a k : Nat) : Bool := decide (a < kL m) && (m (6 + a)).toNatClampNeg.testBit k
theorem adM_lt {m : Nat → Int32} (hw : WFh m) {a k : Nat} (h : adM m a k = true) : a < kL m ∧ k < kL m := by
  unfold adM at h
  rw [Bool.and_eq_true, decide_eq_true_eq] at h
  refine ⟨h.1, ?_⟩
  have h5 := hw.1.2
  obtain ⟨d, hd, ed⟩ := hw.2.2.2.2.2.2.1 a (by omega)
  have hd5 : d < 2 ^ 5 := Nat.lt_of_lt_of_le hd (Nat.pow_le_pow_right (by omega) h5)
  have h2 := h.2
  rw [ed, nI_clamp (by omega)] at h2
  refine Nat.lt_of_not_le (fun q => ?_)
  rw [Nat.testBit_lt_two_pow (Nat.lt_of_lt_of_le hd (Nat.pow_le_pow_right (by omega) q))] at h2
  cases h2
theorem adM_ok {m : Nat → Int32} (hw : WFh m) : aOk (adM m) := fun a k h => by
  have := adM_lt hw h
  have := hw.1.2
  omega
theorem adM_has {m : Nat → Int32} (hw : WFh m) {a k : Nat} (ha : a < kL m) (hk : k < 5) : fX12_has (m (6 + a)) (nI k) = some (if adM m a k = true then 1 else 0) ∧ fX11_hasBit (m (6 + a)) (nI k) = some (if adM m a k = true then 1 else 0) := by
  have h5 := hw.1.2
  obtain ⟨d, hd, ed⟩ := hw.2.2.2.2.2.2.1 a (by omega)
  have hd5 : d < 2 ^ 5 := Nat.lt_of_lt_of_le hd (Nat.pow_le_pow_right (by omega) h5)
  have e : adM m a k = d.testBit k := by
    unfold adM
    rw [decide_eq_true ha, Bool.true_and, ed, nI_clamp (by omega)]
  rw [e, ed, m_hasB, c_hasB (by omega) hk, aBit_tb (by omega) hk]
  exact ⟨rfl, rfl⟩
theorem zLf {lf k : Nat} (hl : lf < 32) (hk : k < 5) : nI lf &&& (((1 : Int32) <<< (nI k &&& 31)) ^^^ (-1)) = nI (lfM lf k) := by
  have : 2 ^ k < 2 ^ 5 := Nat.pow_lt_pow_right (by omega) hk
  rw [zSh1 (by omega), (zAn hl (show 2 ^ k < 32 by omega)).1]
  rfl
theorem m_cell {l lf : Nat} : fX12_cellOf (nI l) (nI lf) = some (nI (32 * l + lf)) := by
  unfold fX12_cellOf
  rw [show (32 : Int32) = nI 32 from rfl, pk_mul, nI_add]
section Lay
variable {T : zSt}
def tS (adj : Nat → Nat → Bool) (u : Nat → Nat) : Prop := (∀ c, c < 160 → u c ≤ 100000) ∧ ∀ l lf, l < 5 → lf < 32 → u (32 * l + lf) < 100000 → eB adj (u (32 * l + lf)) l lf = true
def tD (l lf k l' lf' k' : Nat) : Prop := l' < l ∨ (l' = l ∧ (lf' < lf ∨ (lf' = lf ∧ k' < k)))
def RI (T : zSt) (u0 : Nat → Nat) (l lf k : Nat) (S : zSt) (any : Int32) : Prop := ∃ f u, S = zPut T 12 f ∧ (∀ c, c < 160 → f c = nI (u c)) ∧ (∀ c, c < 160 → u c ≤ u0 c) ∧ tS (adM (T.1 2)) u ∧ (∀ l' lf' k', l' < kL (T.1 2) → 1 ≤ lf' → lf' < 32 → k' < kL (T.1 2) → tD l lf k l' lf' k' → adM (T.1 2) l' k' = true → u (32 * l' + lf') ≤ u0 (32 * k' + lfM lf' k') + 1) ∧ ((any = 0 ∧ ∀ c, c < 160 → u c = u0 c) ∨ (any = 1 ∧ ∃ l lf, l < 5 ∧ lf < 32 ∧ u (32 * l + lf) < u0 (32 * l + lf)))
theorem lay1 (hw : WFh (T.1 2)) {u0 : Nat → Nat} {l lf k : Nat} {S : zSt} {any : Int32} (hl : l < kL (T.1 2)) (h1 : 1 ≤ lf) (hf : lf < 32) (hk : k < kL (T.1 2)) (hr : RI T u0 l lf k S any) : ∃ S' any', fX12_laySteps_66 (nI l) (nI lf) (S, any, nI k) = some (.inl (S', any', nI (k + 1))) ∧ RI T u0 l lf (k + 1) S' any' := by
  have h5 := hw.1.2
  obtain ⟨f, u, eS, ef, ea, ⟨eb1, eb2⟩, ec, ed⟩ := hr
  have s2 : S.1 2 = T.1 2 := by rw [eS, zPut_ne (by omega)]
  have s12 : S.1 12 = f := by rw [eS, zPut_eq]
  have lk := lfM_lt (k := k) hf
  have stay : (adM (T.1 2) l k = true → u (32 * l + lf) ≤ u (32 * k + lfM lf k) + 1) → RI T u0 l lf (k + 1) S any := by
    intro hq
    refine ⟨f, u, eS, ef, ea, ⟨eb1, eb2⟩, fun l' lf' k' q1 q2 q3 q4 q5 q6 => ?_, ed⟩
    by_cases e : l' = l ∧ lf' = lf ∧ k' = k
    · obtain ⟨rfl, rfl, rfl⟩ := e
      have := hq q6
      have := ea (32 * k' + lfM lf' k') (by omega)
      omega
    · exact ec l' lf' k' q1 q2 q3 q4 (by unfold tD at q5 ⊢; omega) q6
  unfold fX12_laySteps_66 fX12_laySteps_151
  dsimp only
  rw [s2, s12, zg_0_406, zGd_t, zt_0, hw.1.1, zle_f hk (by omega), zo_6, zIx_nI (by omega) (by omega), zGd_t, nI_clamp (by omega), (adM_has hw hl (by omega)).1, zBd_s, zLf hf (by omega), m_cell, m_cell, zBd_s, zIx_nI (by omega) (by omega), zGd_t, nI_clamp (by omega), ef _ (by omega), nI_1, zLt_s, zLt_s, zBd_s, zIx_nI (by omega) (by omega), zGd_t, nI_clamp (by omega), ef _ (by omega), zBd_s, zIx_nI (by omega) (by omega), zGd_t, zLt_s, zLt_s, nI_clamp (by omega), nI_1]
  have b1 := eb1 (32 * l + lf) (by omega)
  have b2 := eb1 (32 * k + lfM lf k) (by omega)
  by_cases ha : adM (T.1 2) l k = true
  · rw [if_pos ha, zBr_q (show ¬ (1 : Int32) = 0 by decide)]
    by_cases hn : u (32 * k + lfM lf k) + 1 < u (32 * l + lf)
    · rw [zlt_t hn (by omega), eS, zI_zPut]
      refine ⟨_, _, rfl, ?_⟩
      obtain ⟨v, hv⟩ : ∃ v : Nat → Nat, ∀ c, v c = if c = 32 * l + lf then u (32 * k + lfM lf k) + 1 else u c := ⟨_, fun _ => rfl⟩
      have vn : v (32 * l + lf) = u (32 * k + lfM lf k) + 1 := by rw [hv, if_pos rfl]
      have vle : ∀ c, v c ≤ u c := fun c => by
        rw [hv]
        by_cases e : c = 32 * l + lf
        · subst e; rw [if_pos rfl]; omega
        · rw [if_neg e]; omega
      refine ⟨_, v, rfl, fun c hc => ?_, fun c hc => Nat.le_trans (vle c) (ea c hc), ⟨fun c hc => Nat.le_trans (vle c) (eb1 c hc), fun a b q1 q2 q3 => ?_⟩, fun l' lf' k' q1 q2 q3 q4 q5 q6 => ?_, Or.inr ⟨rfl, l, lf, by omega, hf, ?_⟩⟩
      · rw [hv]
        by_cases e : c = 32 * l + lf
        · subst e; rw [pk_us, if_pos rfl]
        · rw [pk_un e, if_neg e, ef c hc]
      · by_cases e : 32 * a + b = 32 * l + lf
        · have ea' : a = l := by omega
          have eb' : b = lf := by omega
          subst ea' eb'
          rw [vn]
          exact eB_step ha (by omega) (eb2 k (lfM b k) (by omega) lk (by omega))
        · rw [hv, if_neg e] at q3 ⊢
          exact eb2 a b q1 q2 q3
      · by_cases e : l' = l ∧ lf' = lf ∧ k' = k
        · obtain ⟨rfl, rfl, rfl⟩ := e
          have := ea (32 * k' + lfM lf' k') (by omega)
          omega
        · have g1 := ec l' lf' k' q1 q2 q3 q4 (by unfold tD at q5 ⊢; omega) q6
          have g2 := vle (32 * l' + lf')
          omega
      · have := ea (32 * l + lf) (by omega)
        omega
    · rw [zlt_f (by omega) (by omega)]
      exact ⟨_, _, rfl, stay (fun _ => by omega)⟩
  · rw [if_neg ha, zBr_p (show (0 : Int32) = 0 from rfl)]
    exact ⟨_, _, rfl, stay (fun q => absurd q ha)⟩
theorem RI_step {u0 : Nat → Nat} {l lf k l2 lf2 k2 : Nat} {S : zSt} {any : Int32} (hr : RI T u0 l lf k S any) (h : ∀ l' lf' k', l' < kL (T.1 2) → 1 ≤ lf' → lf' < 32 → k' < kL (T.1 2) → tD l2 lf2 k2 l' lf' k' → tD l lf k l' lf' k') : RI T u0 l2 lf2 k2 S any := by
  obtain ⟨f, u, eS, ef, ea, eb, ec, ed⟩ := hr
  exact ⟨f, u, eS, ef, ea, eb, fun l' lf' k' q1 q2 q3 q4 q5 q6 => ec l' lf' k' q1 q2 q3 q4 (h l' lf' k' q1 q2 q3 q4 q5) q6, ed⟩
theorem RI_2 {u0 : Nat → Nat} {l lf k : Nat} {S : zSt} {any : Int32} (hr : RI T u0 l lf k S any) : S.1 2 = T.1 2 := by
  obtain ⟨f, u, eS, -⟩ := hr
  rw [eS, zPut_ne (by omega)]
theorem lay2 (hw : WFh (T.1 2)) {u0 : Nat → Nat} {l lf : Nat} {S : zSt} {any : Int32} (hl : l < kL (T.1 2)) (h1 : 1 ≤ lf) (hf : lf < 32) (hr : RI T u0 l lf 0 S any) : ∃ S' any', zLp (fX12_laySteps_66 (nI l) (nI lf)) 2000 (S, any, 0) = some (.inl (S', any', nI (lf + 1))) ∧ RI T u0 l (lf + 1) 0 S' any' := by
  have h5 := hw.1.2
  obtain ⟨r, e, S', any', er, hr'⟩ := zLp_inv (body := fX12_laySteps_66 (nI l) (nI lf)) (fun i s => ∃ S any, s = (S, any, nI i) ∧ RI T u0 l lf i S any) (fun r => ∃ S' any', r = .inl (S', any', nI (lf + 1)) ∧ RI T u0 l (lf + 1) 0 S' any') (kL (T.1 2)) (fun i s hi hI => by
    obtain ⟨S, any, rfl, hI⟩ := hI
    by_cases q : i < kL (T.1 2)
    · obtain ⟨S', any', e, h⟩ := lay1 hw hl h1 hf q hI
      exact Or.inl ⟨_, e, ⟨S', any', rfl, h⟩, q⟩
    · refine Or.inr ⟨_, ?_, S, any, rfl, RI_step hI (fun l' lf' k' q1 q2 q3 q4 q5 => by unfold tD at q5 ⊢; omega)⟩
      unfold fX12_laySteps_66
      dsimp only
      rw [RI_2 hI, zg_0_406, zGd_t, zt_0, hw.1.1, zle_t (by omega) (by omega), zLt_s, nI_1, zXr_s]) 2000 0 (S, any, 0) (by omega) (by omega) ⟨S, any, rfl, hr⟩
  exact ⟨S', any', by rw [e, er], hr'⟩
theorem lay3 (hw : WFh (T.1 2)) {u0 : Nat → Nat} {l : Nat} {S : zSt} {any : Int32} (hl : l < kL (T.1 2)) (hr : RI T u0 l 1 0 S any) : ∃ S' any', zLp (fX12_laySteps_57 (nI l)) 2000 (S, any, 1) = some (.inl (S', any', nI (l + 1))) ∧ RI T u0 (l + 1) 1 0 S' any' := by
  have h5 := hw.1.2
  obtain ⟨r, e, S', any', er, hr'⟩ := zLp_inv (body := fX12_laySteps_57 (nI l)) (fun i s => ∃ S any, s = (S, any, nI (i + 1)) ∧ RI T u0 l (i + 1) 0 S any) (fun r => ∃ S' any', r = .inl (S', any', nI (l + 1)) ∧ RI T u0 (l + 1) 1 0 S' any') 31 (fun i s hi hI => by
    obtain ⟨S, any, rfl, hI⟩ := hI
    unfold fX12_laySteps_57
    dsimp only
    by_cases q : i < 31
    · obtain ⟨S', any', e, h⟩ := lay2 hw hl (show 1 ≤ i + 1 by omega) (by omega) hI
      refine Or.inl ⟨(S', any', nI (i + 1 + 1)), ?_, ⟨S', any', rfl, h⟩, q⟩
      rw [show (32 : Int32) = nI 32 from rfl, zle_f (by omega) (by omega), e]
    · refine Or.inr ⟨.inl (S, any, nI (l + 1)), ?_, S, any, rfl, RI_step hI (fun l' lf' k' q1 q2 q3 q4 q5 => by unfold tD at q5 ⊢; omega)⟩
      rw [show (32 : Int32) = nI 32 from rfl, zle_t (by omega) (by omega), zLt_s, nI_1, zXr_s]) 2000 0 (S, any, 1) (by omega) (by omega) ⟨S, any, rfl, hr⟩
  exact ⟨S', any', by rw [e, er], hr'⟩
theorem lay4 (hw : WFh (T.1 2)) {u0 : Nat → Nat} {S : zSt} {any : Int32} (hr : RI T u0 0 1 0 S any) : ∃ S' any', zLp fX12_laySteps_45 2000 (S, any, 0) = some (.inl (S', any')) ∧ RI T u0 5 1 0 S' any' := by
  have h5 := hw.1.2
  obtain ⟨r, e, S', any', er, hr'⟩ := zLp_inv (body := fX12_laySteps_45) (fun i s => ∃ S any, s = (S, any, nI i) ∧ RI T u0 i 1 0 S any) (fun r => ∃ S' any', r = .inl (S', any') ∧ RI T u0 5 1 0 S' any') (kL (T.1 2)) (fun i s hi hI => by
    obtain ⟨S, any, rfl, hI⟩ := hI
    unfold fX12_laySteps_45
    dsimp only
    rw [RI_2 hI, zg_0_406, zGd_t, zt_0, hw.1.1]
    by_cases q : i < kL (T.1 2)
    · obtain ⟨S', any', e, h⟩ := lay3 hw q hI
      refine Or.inl ⟨(S', any', nI (i + 1)), ?_, ⟨S', any', rfl, h⟩, q⟩
      rw [zle_f (by omega) (by omega), e]
    · refine Or.inr ⟨.inl (S, any), ?_, S, any, rfl, RI_step hI (fun l' lf' k' q1 q2 q3 q4 q5 => by unfold tD at q5 ⊢; omega)⟩
      rw [zle_t (by omega) (by omega), zXr_s]) 2000 0 (S, any, 0) (by omega) (by omega) ⟨S, any, rfl, hr⟩
  exact ⟨S', any', by rw [e, er], hr'⟩
def GI (T : zSt) (r : Nat) (S : zSt) (any : Int32) : Prop := ∃ f u, S = zPut T 12 f ∧ (∀ c, c < 160 → f c = nI (u c)) ∧ (∀ l, l < 5 → u (32 * l) = 0) ∧ tS (adM (T.1 2)) u ∧ (∀ r' l lf, r' ≤ r → l < 5 → lf < 32 → eB (adM (T.1 2)) r' l lf = true → u (32 * l + lf) ≤ r') ∧ ((any = 0 ∧ ∀ l k lf, adM (T.1 2) l k = true → 1 ≤ lf → lf < 32 → u (32 * l + lf) ≤ u (32 * k + lfM lf k) + 1) ∨ (any = 1 ∧ r ≤ 26))
theorem lay5 (hw : WFh (T.1 2)) {r : Nat} {S : zSt} (hr : GI T r S 1) : ∃ S' any', zLp fX12_laySteps_45 2000 (S, 0, 0) = some (.inl (S', any')) ∧ GI T (r + 1) S' any' := by
  have h5 := hw.1.2
  obtain ⟨f, u, eS, ef, e0, ⟨eb1, eb2⟩, ec, ed⟩ := hr
  have r26 : r ≤ 26 := by
    rcases ed with ⟨q, -⟩ | ⟨-, q⟩
    · exact absurd q (by decide)
    · exact q
  obtain ⟨S', any', e, f', v, gS, gf, ga, ⟨gb1, gb2⟩, gc, gd⟩ := lay4 hw (u0 := u) (S := S) (any := 0) ⟨f, u, eS, ef, fun c _ => Nat.le_refl _, ⟨eb1, eb2⟩, fun l' lf' k' q1 q2 q3 q4 q5 => by unfold tD at q5; omega, Or.inl ⟨rfl, fun _ _ => rfl⟩⟩
  have gc' : ∀ l k lf, adM (T.1 2) l k = true → 1 ≤ lf → lf < 32 → v (32 * l + lf) ≤ u (32 * k + lfM lf k) + 1 := fun l k lf q1 q2 q3 => by
    obtain ⟨k1, k2⟩ := adM_lt hw q1
    exact gc l lf k k1 q2 q3 k2 (Or.inl (by omega)) q1
  refine ⟨S', any', e, f', v, gS, gf, fun l hl => ?_, ⟨gb1, gb2⟩, fun r' l lf h1 h2 h3 h4 => ?_, ?_⟩
  · have := ga (32 * l) (by omega)
    rw [e0 l hl] at this
    omega
  · have low := ga (32 * l + lf) (by omega)
    by_cases q : r' ≤ r
    · have := ec r' l lf q h2 h3 h4
      omega
    · have er : r' = r + 1 := by omega
      subst er
      rcases eB_inv h4 with h4 | ⟨k, hk, h6, h7⟩
      · have := ec r l lf (Nat.le_refl _) h2 h3 h4
        omega
      · by_cases l0 : lf = 0
        · subst l0
          rw [Nat.add_zero] at low ⊢
          rw [e0 l h2] at low
          omega
        · have g1 := ec r k (lfM lf k) (Nat.le_refl _) hk (lfM_lt h3) h7
          have g2 := gc' l k lf h6 (by omega) h3
          omega
  · rcases gd with ⟨q1, q2⟩ | ⟨q1, l, lf, h2, h3, q2⟩
    · refine Or.inl ⟨q1, fun l k lf p1 p2 p3 => ?_⟩
      have g2 := gc' l k lf p1 p2 p3
      obtain ⟨k1, k2⟩ := adM_lt hw p1
      have lk := lfM_lt (k := k) p3
      rw [← q2 (32 * k + lfM lf k) (by omega)] at g2
      exact g2
    · refine Or.inr ⟨q1, ?_⟩
      refine Nat.le_of_not_lt (fun q => ?_)
      have b1 := eb1 (32 * l + lf) (by omega)
      have s1 := gb2 l lf h2 h3 (by omega)
      by_cases q25 : v (32 * l + lf) ≤ 25
      · have := ec _ l lf (show v (32 * l + lf) ≤ r by omega) h2 h3 s1
        omega
      · have := ec 25 l lf (by omega) h2 h3 (eB_25 h3 h2 s1)
        omega
theorem m_lay (hw : WFh (T.1 2)) : ∃ f t, fX12_laySteps T = some (zPut T 12 f) ∧ (∀ l lf, l < 5 → lf < 32 → f (32 * l + lf) = nI (t l lf) ∧ t l lf ≤ 100000) ∧ tOk (adM (T.1 2)) t := by
  have h5 := hw.1.2
  obtain ⟨f, hf⟩ : ∃ f : Nat → Int32, ∀ c, f c = nI (if c % 32 = 0 then 0 else 100000) := ⟨_, fun _ => rfl⟩
  have start : GI T 0 (zPut T 12 (zSeg f (T.1 12) 0 160)) 1 := by
    refine ⟨_, fun c => if c % 32 = 0 then 0 else 100000, rfl, fun c hc => ?_, fun l hl => ?_, ⟨fun c hc => ?_, fun l lf h1 h2 h3 => ?_⟩, fun r' l lf h1 h2 h3 h4 => ?_, Or.inr ⟨rfl, by omega⟩⟩
    · rw [zSeg_in (by omega) (by omega), Nat.sub_zero, hf]
    · show (if 32 * l % 32 = 0 then 0 else 100000) = 0
      rw [if_pos (by omega)]
    · show (if c % 32 = 0 then 0 else 100000) ≤ 100000
      split <;> omega
    · have h3' : (if (32 * l + lf) % 32 = 0 then 0 else 100000) < 100000 := h3
      show eB (adM (T.1 2)) (if (32 * l + lf) % 32 = 0 then 0 else 100000) l lf = true
      by_cases q : (32 * l + lf) % 32 = 0
      · rw [if_pos q]
        have : lf = 0 := by omega
        subst this
        rfl
      · rw [if_neg q] at h3'
        omega
    · have r0 : r' = 0 := by omega
      subst r0
      have : lf = 0 := of_decide_eq_true h4
      subst this
      show (if (32 * l + 0) % 32 = 0 then 0 else 100000) ≤ 0
      rw [if_pos (by omega)]
      exact Nat.le_refl _
  obtain ⟨R, e, hR⟩ := zLp_inv (body := fX12_laySteps_37) (fun i s => ∃ S any, s = (S, any) ∧ GI T i S any) (fun R => ∃ i, GI T i R 0) 27 (fun i s hi hI => by
    obtain ⟨S, any, rfl, hI⟩ := hI
    unfold fX12_laySteps_37
    dsimp only
    by_cases q : any = 0
    · subst q
      exact Or.inr ⟨S, by rw [zBr_p rfl, zXr_s], i, hI⟩
    · have h1 : any = 1 ∧ i ≤ 26 := by
        obtain ⟨f, u, -, -, -, -, -, ed⟩ := hI
        rcases ed with ⟨q2, -⟩ | q2
        · exact absurd q2 q
        · exact q2
      obtain ⟨rfl, i26⟩ := h1
      obtain ⟨S', any', e, h⟩ := lay5 hw hI
      exact Or.inl ⟨(S', any'), by rw [zBr_q q, e], ⟨S', any', rfl, h⟩, by omega⟩) 2000 0 (zPut T 12 (zSeg f (T.1 12) 0 160), 1) (by omega) (by omega) ⟨_, _, rfl, start⟩
  obtain ⟨i, g, u, eS, eg, e0, ⟨eb1, eb2⟩, ec, ed⟩ := hR
  refine ⟨g, fun l lf => u (32 * l + lf), ?_, fun l lf h1 h2 => ⟨eg _ (by omega), eb1 _ (by omega)⟩, fun l hl => e0 l hl, eb2, ?_⟩
  · unfold fX12_laySteps
    rw [← eS]
    refine zLp_copy (c := 12) (o := 0) (n := 160) (f := f) (fun j hj => ?_) ?_ (by omega)
    · unfold fX12_laySteps_2 fX12_laySteps_28
      dsimp only
      rw [show (160 : Int32) = nI 160 from rfl, zle_f hj (by omega), show decide (¬ (32 : Int32) = 0) = true from rfl, zGd_t, show (32 : Int32) = nI 32 from rfl, pk_rem (by omega) (by omega) (by omega), zIx_nI hj (by omega), zGd_t, zGd_t, zLt_s, zLt_s, zLt_s, zLt_s, nI_1, nI_clamp (by omega), Nat.zero_add, hf j]
      by_cases q : j % 32 = 0
      · rw [q, zBr_p (show nI 0 = 0 from rfl), if_pos rfl]
        rfl
      · rw [zBr_q (show ¬ nI (j % 32) = (0 : Int32) from fun z => q ((nI_eq (b := 0) (by omega) (by omega)).mp z)), if_neg q]
        rfl
    · unfold fX12_laySteps_2
      dsimp only
      rw [show (160 : Int32) = nI 160 from rfl, zle_t (Nat.le_refl _) (by omega), e, zXr_s]
  · intro l k lf hl p1 p2 p3
    rcases ed with ⟨-, q⟩ | ⟨q, -⟩
    · exact q l k lf p1 p2 p3
    · exact absurd q (by decide)
end Lay
