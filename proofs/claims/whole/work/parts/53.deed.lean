/-! a deed done -/
def aBit (r : Int32) (l : Nat) : Bool := decide ((r >>> (nI l &&& 31)) &&& (1 : Int32) = 1)
theorem m_hasB (r : Int32) (l : Nat) : fX12_has r (nI l) = some (if aBit r l = true then 1 else 0) := by
  unfold fX12_has aBit
  by_cases h : (r >>> (nI l &&& 31)) &&& (1 : Int32) = 1
  · rw [zBr_p h, decide_eq_true h, if_pos rfl]
  · rw [zBr_q h, decide_eq_false h, if_neg (by decide)]
theorem zUsh_s {s l : Nat} (hs : s < 32) (hl : l < 5) : zUsh (nI s) (nI l) = nI s >>> (nI l &&& 31) := by
  have key : ∀ s, s < 32 → ∀ l, l < 5 → zUsh (nI s) (nI l) = nI s >>> (nI l &&& 31) := by decide +kernel
  exact key s hs l hl
theorem c_hasB {s l : Nat} (hs : s < 32) (hl : l < 5) : fX11_hasBit (nI s) (nI l) = some (if aBit (nI s) l = true then 1 else 0) := by
  unfold fX11_hasBit aBit
  rw [zUsh_s hs hl]
  by_cases h : (nI s >>> (nI l &&& 31)) &&& (1 : Int32) = 1
  · rw [zBr_p h, decide_eq_true h, if_pos rfl]
  · rw [zBr_q h, decide_eq_false h, if_neg (by decide)]
theorem aSees_lt {m : Nat → Int32} (hw : WFh m) {p : Nat} (ha : zIn (m (26 + p)) (kL m)) (more : Int32) : ∃ s, s < 32 ∧ aSees m p more = nI s := by
  obtain ⟨a, ha, ea⟩ := ha
  have h5 := hw.1.2
  obtain ⟨d, hd, ed⟩ := hw.2.2.2.2.2.2.1 a (by omega)
  have hd5 : d < 2 ^ 5 := Nat.lt_of_lt_of_le hd (Nat.pow_le_pow_right (by omega) h5)
  have ha5 : 2 ^ a < 2 ^ 5 := Nat.pow_lt_pow_right (by omega) (by omega)
  unfold aSees
  by_cases hf : aFern m p = true
  · exact ⟨0, by omega, by rw [if_pos hf]; rfl⟩
  · rw [if_neg hf]
    by_cases hq : m (32 + p) + more < m 4
    · refine ⟨d ||| 2 ^ a, Nat.or_lt_two_pow hd5 ha5, ?_⟩
      rw [if_pos hq, ea, nI_clamp (by omega)]
      unfold aRch
      rw [ed, zSh1 (by omega), nI_or]
    · exact ⟨0, by omega, by rw [if_neg hq]; rfl⟩
theorem c_seenBy2 {S : zSt} {b : Nat} {m : Nat → Int32} (hh : Rh S.1 (zHs b) m) (hw : WFh m) {p : Nat} (hp : p < kP m) (e1 : S.1 (b + 13) p = m (26 + p)) (e2 : S.1 (b + 14) p = m (32 + p)) (ha : zIn (m (26 + p)) (kL m)) : fX6_seenBy S b (nI p) = some (aSees m p 0) := by
  have h6 := hw.2.1.2
  have h5 := hw.1.2
  have e3 := (hh.2.2.2.2 p hp).2.2
  obtain ⟨a, ha, ea⟩ := ha
  simp only [fX6_seenBy, fX6_isBlind, zBd_s, zIx_nI (show p < 6 by omega) (by omega), zGd_t, nI_clamp (show p < 2 ^ 31 by omega), e1, e2, e3, hh.2.1, zBr_if, fX3_reach, ea, zIx_nI (show a < 5 by omega) (by omega), nI_clamp (show a < 2 ^ 31 by omega), hh.2.2.2.1 a (by omega), aSees, aRch, Int32.add_zero]
  by_cases hf : aFern m p = true
  · simp [hf, zBd_s]
  · by_cases hd : m (32 + p) < m 4 <;> simp [hf, hd, zBd_s]
theorem c_nextLeaf2 {S : zSt} {b : Nat} {m : Nat → Int32} {d : Nat} (hh : Rh S.1 (zHs b) m) (h6 : kP m ≤ 6) {p : Nat} (hp : p < kP m) (e1 : S.1 b 1 = m 24) (ed : m 24 = nI d) (hd : d ≤ 400) (e3 : S.1 (b + 12) p = m (158 + p) ∨ (S.1 (b + 12) p = 0 ∧ m (158 + p) = -1)) : fX6_nextLeafDay S b (nI p) = some (aNext m p) := by
  simp (disch := omega) only [fX6_nextLeafDay, zGd_t, zBd_s, zBp_s, zLt_s, zXr_s, zXr_n, zBd_n, zIx_nI, nI_clamp, e1, (hh.2.2.2.2 p hp).2.1, aNext]
  congr 2
  rcases e3 with e3 | ⟨e3, e5⟩
  · rw [e3]
    by_cases q : m (158 + p) ≤ m 24
    · rw [if_pos q, if_neg (Int32.not_lt.mpr q)]
    · rw [if_neg q, if_pos (Int32.not_le.mp q)]
  · rw [e3, e5, ed, if_pos (zneg1 (by omega)), if_neg (nI_pos (by omega))]
def aDo (m : Nat → Int32) (a d : Int32) (l n j : Nat) : Nat → Int32 := fun k => if 158 ≤ k ∧ k < 158 + j then (if aBit (aSees m (k - 158) 0) l = true then aNext m (k - 158) else m k) else if 86 ≤ k ∧ k < 158 ∧ (k - 86) % 12 = n ∧ (k - 86) / 12 < j then (if aBit (aSees m ((k - 86) / 12) 0) l = true then aNext m ((k - 86) / 12) else m k) else if k = 25 then nI (n + 1) else if k = 38 + n then a else if k = 50 + n then d else if k = 62 + n then nI l else if k = 74 + n then m 24 else m k
section Deed
variable {m : Nat → Int32} {a d : Int32} {l n j : Nat}
theorem aDo_158 {q : Nat} (h : q < j) : aDo m a d l n j (158 + q) = if aBit (aSees m q 0) l = true then aNext m q else m (158 + q) := by
  unfold aDo
  rw [if_pos (by omega), show 158 + q - 158 = q by omega]
theorem aDo_86 {q : Nat} (hn : n < 12) (hj : j ≤ 6) (h : q < j) : aDo m a d l n j (86 + 12 * q + n) = if aBit (aSees m q 0) l = true then aNext m q else m (86 + 12 * q + n) := by
  unfold aDo
  rw [if_neg (by omega), if_pos (by omega), show (86 + 12 * q + n - 86) / 12 = q by omega]
theorem aDo_hi {k : Nat} (hn : n < 12) (h1 : 86 ≤ k) (h2 : ¬ (158 ≤ k ∧ k < 158 + j)) (h3 : ¬ (86 ≤ k ∧ k < 158 ∧ (k - 86) % 12 = n ∧ (k - 86) / 12 < j)) : aDo m a d l n j k = m k := by
  unfold aDo
  rw [if_neg h2, if_neg h3, if_neg (by omega), if_neg (by omega), if_neg (by omega), if_neg (by omega), if_neg (by omega)]
theorem aDo_lo {k : Nat} (h1 : k < 86) (h2 : k ≠ 25) (h3 : k ≠ 38 + n) (h4 : k ≠ 50 + n) (h5 : k ≠ 62 + n) (h6 : k ≠ 74 + n) : aDo m a d l n j k = m k := by
  unfold aDo
  rw [if_neg (by omega), if_neg (by omega), if_neg h2, if_neg h3, if_neg h4, if_neg h5, if_neg h6]
theorem aDo_25 : aDo m a d l n j 25 = nI (n + 1) := by
  unfold aDo
  rw [if_neg (by omega), if_neg (by omega), if_pos rfl]
theorem aDo_38 (hn : n < 12) : aDo m a d l n j (38 + n) = a := by
  unfold aDo
  rw [if_neg (by omega), if_neg (by omega), if_neg (by omega), if_pos rfl]
theorem aDo_50 (hn : n < 12) : aDo m a d l n j (50 + n) = d := by
  unfold aDo
  rw [if_neg (by omega), if_neg (by omega), if_neg (by omega), if_neg (by omega), if_pos rfl]
theorem aDo_62 (hn : n < 12) : aDo m a d l n j (62 + n) = nI l := by
  unfold aDo
  rw [if_neg (by omega), if_neg (by omega), if_neg (by omega), if_neg (by omega), if_neg (by omega), if_pos rfl]
theorem aDo_74 (hn : n < 12) : aDo m a d l n j (74 + n) = m 24 := by
  unfold aDo
  rw [if_neg (by omega), if_neg (by omega), if_neg (by omega), if_neg (by omega), if_neg (by omega), if_neg (by omega), if_pos rfl]
theorem aDo_0 (hn : n < 12) : upd (upd (upd (upd (upd m (38 + n) a) (50 + n) d) (62 + n) (nI l)) (74 + n) (m 24)) 25 (nI (n + 1)) = aDo m a d l n 0 := by
  funext k
  unfold aDo
  rw [if_neg (by omega), if_neg (by omega)]
  by_cases h1 : k = 25
  · rw [if_pos h1, h1, pk_us]
  rw [if_neg h1, pk_un h1]
  by_cases h5 : k = 74 + n
  · rw [if_neg (by omega), if_neg (by omega), if_neg (by omega), if_pos h5, h5, pk_us]
  rw [pk_un h5]
  by_cases h4 : k = 62 + n
  · rw [if_neg (by omega), if_neg (by omega), if_pos h4, h4, pk_us]
  rw [pk_un h4]
  by_cases h3 : k = 50 + n
  · rw [if_neg (by omega), if_pos h3, h3, pk_us]
  rw [pk_un h3]
  by_cases h2 : k = 38 + n
  · rw [if_pos h2, h2, pk_us]
  rw [pk_un h2, if_neg h2, if_neg h3, if_neg h4, if_neg h5]
theorem aDo_no (hn : n < 12) (hj : j < 6) (h : ¬ aBit (aSees m j 0) l = true) : aDo m a d l n (j + 1) = aDo m a d l n j := by
  funext k
  by_cases h1 : k = 158 + j
  · subst h1
    rw [aDo_158 (by omega), if_neg h, aDo_hi hn (by omega) (by omega) (by omega)]
  · by_cases h2 : k = 86 + 12 * j + n
    · subst h2
      rw [aDo_86 hn (by omega) (by omega), if_neg h, aDo_hi hn (by omega) (by omega) (by omega)]
    · unfold aDo
      by_cases c1 : 158 ≤ k ∧ k < 158 + j
      · rw [if_pos c1, if_pos (by omega)]
      · rw [if_neg c1, if_neg (by omega)]
        by_cases c2 : 86 ≤ k ∧ k < 158 ∧ (k - 86) % 12 = n ∧ (k - 86) / 12 < j
        · rw [if_pos c2, if_pos (by omega)]
        · rw [if_neg c2, if_neg (by omega)]
theorem aDo_yes (hn : n < 12) (hj : j < 6) (h : aBit (aSees m j 0) l = true) : aDo m a d l n (j + 1) = upd (upd (aDo m a d l n j) (158 + j) (aNext m j)) (86 + 12 * j + n) (aNext m j) := by
  funext k
  by_cases h2 : k = 86 + 12 * j + n
  · subst h2
    rw [aDo_86 hn (by omega) (by omega), if_pos h, pk_us]
  · rw [pk_un h2]
    by_cases h1 : k = 158 + j
    · subst h1
      rw [aDo_158 (by omega), if_pos h, pk_us]
    · rw [pk_un h1]
      unfold aDo
      by_cases c1 : 158 ≤ k ∧ k < 158 + j
      · rw [if_pos c1, if_pos (by omega)]
      · rw [if_neg c1, if_neg (by omega)]
        by_cases c2 : 86 ≤ k ∧ k < 158 ∧ (k - 86) % 12 = n ∧ (k - 86) / 12 < j
        · rw [if_pos c2, if_pos (by omega)]
        · rw [if_neg c2, if_neg (by omega)]
theorem aNext_lt {m : Nat → Int32} (hw : WFh m) (hv : WFl m) {p : Nat} (hp : p < kP m) : ∃ e, e ≤ 400 + 9 * (kA m + 1) ∧ aNext m p = nI e := by
  obtain ⟨d, hd, ed⟩ := hv.1
  have ha := hv.2.1.2
  obtain ⟨w, hw1, hw2, ew⟩ := (hw.2.2.2.2.2.2.2 p hp).2
  unfold aNext
  rw [ed, ew]
  rcases hv.2.2.2.2.2.1 p hp with e | ⟨f, hf, e⟩
  · rw [e, if_pos (zneg1 (by omega)), nI_add]
    exact ⟨d + w, by omega, rfl⟩
  · rw [e]
    by_cases q : nI f ≤ nI d
    · rw [if_pos q, nI_add]
      exact ⟨d + w, by omega, rfl⟩
    · rw [if_neg q, nI_add]
      exact ⟨f + w, by omega, rfl⟩
theorem aDo_k (hn : n < 12) : kL (aDo m a d l n j) = kL m ∧ kP (aDo m a d l n j) = kP m ∧ kE (aDo m a d l n j) = kE m ∧ kD (aDo m a d l n j) = kD m ∧ kA (aDo m a d l n j) = n + 1 := by
  refine ⟨?_, ?_, ?_, ?_, ?_⟩
  · unfold kL; rw [aDo_lo (by omega) (by omega) (by omega) (by omega) (by omega) (by omega)]
  · unfold kP; rw [aDo_lo (by omega) (by omega) (by omega) (by omega) (by omega) (by omega)]
  · unfold kE; rw [aDo_lo (by omega) (by omega) (by omega) (by omega) (by omega) (by omega)]
  · unfold kD; rw [aDo_lo (by omega) (by omega) (by omega) (by omega) (by omega) (by omega)]
  · unfold kA; rw [aDo_25, nI_clamp (by omega)]
theorem WFl_deed (hw : WFh m) (hv : WFl m) (hn : kA m < 12) (hj : j ≤ kP m) (ha : zIn a (kE m)) (hd : zIn d (kD m)) (hl : l < kL m) : WFl (aDo m a d l (kA m) j) := by
  have h6 := hw.2.1.2
  obtain ⟨k0, k1, k2, k3, k4⟩ := aDo_k (m := m) (a := a) (d := d) (l := l) (j := j) hn
  obtain ⟨a1, a2, a3, a4, a5, a6, a7⟩ := id hv
  unfold WFl
  rw [k0, k1, k2, k3, k4, aDo_25, aDo_lo (show 24 < 86 by omega) (by omega) (by omega) (by omega) (by omega) (by omega)]
  refine ⟨a1, ⟨rfl, by omega⟩, fun x hx => ?_, fun i hi => ?_, fun x i hx hi => ?_, fun x hx => ?_, fun x i hx q1 q2 => ?_⟩
  · rw [aDo_lo (show 26 + x < 86 by omega) (by omega) (by omega) (by omega) (by omega) (by omega), aDo_lo (show 32 + x < 86 by omega) (by omega) (by omega) (by omega) (by omega) (by omega)]
    exact a3 x hx
  · by_cases hin : i = kA m
    · subst hin
      rw [aDo_38 hn, aDo_50 hn, aDo_62 hn, aDo_74 hn]
      exact ⟨ha, hd, ⟨l, hl, rfl⟩, a1⟩
    · rw [aDo_lo (show 38 + i < 86 by omega) (by omega) (by omega) (by omega) (by omega) (by omega), aDo_lo (show 50 + i < 86 by omega) (by omega) (by omega) (by omega) (by omega) (by omega), aDo_lo (show 62 + i < 86 by omega) (by omega) (by omega) (by omega) (by omega) (by omega), aDo_lo (show 74 + i < 86 by omega) (by omega) (by omega) (by omega) (by omega) (by omega)]
      exact a4 i (by omega)
  · by_cases hin : i = kA m
    · subst hin
      by_cases hxj : x < j
      · rw [aDo_86 hn (by omega) hxj]
        by_cases hs : aBit (aSees m x 0) l = true
        · rw [if_pos hs]
          exact Or.inr (aNext_lt hw hv hx)
        · rw [if_neg hs]
          exact Or.inl (a7 x (kA m) hx (Nat.le_refl _) hn)
      · rw [aDo_hi hn (by omega) (by omega) (by omega)]
        exact Or.inl (a7 x (kA m) hx (Nat.le_refl _) hn)
    · rw [aDo_hi hn (by omega) (by omega) (by omega)]
      rcases a5 x i hx (by omega) with e | ⟨f, hf, e⟩
      · exact Or.inl e
      · exact Or.inr ⟨f, by omega, e⟩
  · have old : m (158 + x) = -1 ∨ ∃ f, f ≤ 400 + 9 * (kA m + 1) ∧ m (158 + x) = nI f := by
      rcases a6 x hx with e | ⟨f, hf, e⟩
      · exact Or.inl e
      · exact Or.inr ⟨f, by omega, e⟩
    by_cases hxj : x < j
    · rw [aDo_158 hxj]
      by_cases hs : aBit (aSees m x 0) l = true
      · rw [if_pos hs]
        exact Or.inr (aNext_lt hw hv hx)
      · rw [if_neg hs]
        exact old
    · rw [aDo_hi hn (by omega) (by omega) (by omega)]
      exact old
  · rw [aDo_hi hn (by omega) (by omega) (by omega)]
    exact a7 x i hx (by omega) q2
end Deed
