theorem zck_ok {k n : Nat} (h : k ≤ n) (hn : n < 2147483648) : zCk 0 0 (nI k) n n = true := by
  have h1 : (nI k).toNatClampNeg = k := nI_clamp (by omega)
  have h2 : ¬ nI k < 0 := nI_pos (by omega)
  simp only [zCk, h1, zt_0, Bool.and_eq_true, decide_eq_true_eq]
  exact ⟨⟨⟨⟨by decide, by decide⟩, h2⟩, by omega⟩, by omega⟩
theorem zCi_row {S : zSt} {k k2 n : Nat} : (zCi S k k2 0 0 n).1 k2 = zSeg (S.1 k) (S.1 k2) 0 n := by rw [zCi_eq, va_cpy_seg]
theorem zCi_in {S : zSt} {k k2 n i : Nat} (h : i < n) : (zCi S k k2 0 0 n).1 k2 i = S.1 k i := by
  rw [zCi_row, zSeg_in (by omega) (by omega), Nat.sub_zero]
theorem zt6 : (6 : Int32).toNatClampNeg = 6 := rfl
def zRws (a b k : Nat) (X : zSt) (j : Nat) : zSt := zFo (fun p Y => zCi Y (b + 6 + p) (a + 6 + p) 0 0 k) X j
theorem zRws_s (a b k : Nat) (X : zSt) (j : Nat) : zRws a b k X (j + 1) = zCi (zRws a b k X j) (b + 6 + j) (a + 6 + j) 0 0 k := rfl
theorem zRws_2 (a b k : Nat) (X : zSt) : ∀ j, (zRws a b k X j).2 = X.2
  | 0 => rfl
  | j + 1 => by rw [zRws_s]; exact zRws_2 a b k X j
theorem zRws_ne (a b k : Nat) (X : zSt) {c : Nat} : ∀ j, (c < a + 6 ∨ a + 6 + j ≤ c) → (zRws a b k X j).1 c = X.1 c
  | 0, _ => rfl
  | j + 1, h => by rw [zRws_s, zCi_ne (by omega)]; exact zRws_ne a b k X j (by omega)
theorem zRws_in (a b k : Nat) (X : zSt) (hd : a + 15 ≤ b ∨ b + 15 ≤ a) {p i : Nat} (hi : i < k) : ∀ j, j ≤ 6 → p < j → (zRws a b k X j).1 (a + 6 + p) i = X.1 (b + 6 + p) i
  | 0, _, h => by omega
  | j + 1, h6, h => by
    rw [zRws_s]
    by_cases q : p = j
    · subst q
      rw [zCi_in hi, zRws_ne a b k X p (by omega)]
    · rw [zCi_ne (by omega)]
      exact zRws_in a b k X hd hi j (by omega) (by omega)
theorem c_copyLife {S : zSt} {a b k : Nat} (hd : a + 15 ≤ b ∨ b + 15 ≤ a) (hk : S.1 b 2 = nI k) (hk2 : k ≤ 12) : ∃ S', fX6_copyFrom S a b = some S' ∧ S'.2 = S.2 ∧ (∀ c, c < a ∨ a + 15 ≤ c → S'.1 c = S.1 c) ∧ S'.1 a 1 = S.1 b 1 ∧ S'.1 a 2 = S.1 b 2 ∧ (∀ j, 1 ≤ j → j ≤ 4 → ∀ i, i < k → S'.1 (a + j) i = S.1 (b + j) i) ∧ (∀ p, p < 6 → ∀ i, i < k → S'.1 (a + 6 + p) i = S.1 (b + 6 + p) i) ∧ (∀ j, 12 ≤ j → j ≤ 14 → ∀ i, i < 6 → S'.1 (a + j) i = S.1 (b + j) i) := by
  obtain ⟨S2, hS2⟩ : ∃ X, X = zI (zI S a 1 (S.1 b 1)) a 2 ((zI S a 1 (S.1 b 1)).1 b 2) := ⟨_, rfl⟩
  have a2 : S2.1 a 2 = nI k := by rw [hS2, zI_at, if_pos ⟨rfl, rfl⟩, zI_ne (by omega), hk]
  have a1 : S2.1 a 1 = S.1 b 1 := by rw [hS2, zI_at, if_neg (by omega), zI_at, if_pos ⟨rfl, rfl⟩]
  have an : ∀ c, c ≠ a → S2.1 c = S.1 c := fun c hc => by rw [hS2, zI_ne hc, zI_ne hc]
  have a0 : S2.2 = S.2 := by rw [hS2]; rfl
  obtain ⟨S4, hS4⟩ : ∃ X, X = zCi S2 (b + 1) (a + 1) 0 0 k := ⟨_, rfl⟩
  have b2 : S4.1 a 2 = nI k := by rw [hS4, zCi_ne (by omega), a2]
  obtain ⟨S6, hS6⟩ : ∃ X, X = zCi S4 (b + 2) (a + 2) 0 0 k := ⟨_, rfl⟩
  have c2 : S6.1 a 2 = nI k := by rw [hS6, zCi_ne (by omega), b2]
  obtain ⟨S8, hS8⟩ : ∃ X, X = zCi S6 (b + 3) (a + 3) 0 0 k := ⟨_, rfl⟩
  have d2 : S8.1 a 2 = nI k := by rw [hS8, zCi_ne (by omega), c2]
  obtain ⟨S10, hS10⟩ : ∃ X, X = zCi S8 (b + 4) (a + 4) 0 0 k := ⟨_, rfl⟩
  have e2 : S10.1 a 2 = nI k := by rw [hS10, zCi_ne (by omega), d2]
  have f2 : ∀ j, (zRws a b k S10 j).1 a 2 = nI k := fun j => by rw [zRws_ne a b k S10 j (by omega), e2]
  obtain ⟨S12, hS12⟩ : ∃ X, X = zCi (zRws a b k S10 6) (b + 12) (a + 12) 0 0 6 := ⟨_, rfl⟩
  obtain ⟨S14, hS14⟩ : ∃ X, X = zCi S12 (b + 13) (a + 13) 0 0 6 := ⟨_, rfl⟩
  obtain ⟨S16, hS16⟩ : ∃ X, X = zCi S14 (b + 14) (a + 14) 0 0 6 := ⟨_, rfl⟩
  have fr : ∀ c, c < a ∨ a + 15 ≤ c → S10.1 c = S.1 c := fun c hc => by rw [hS10, zCi_ne (by omega), hS8, zCi_ne (by omega), hS6, zCi_ne (by omega), hS4, zCi_ne (by omega), an c (by omega)]
  have h6 : zCk 0 0 (6 : Int32) 6 6 = true := by decide
  refine ⟨S16, ?_, ?_, ?_, ?_, ?_, ?_, ?_, ?_⟩
  · unfold fX6_copyFrom
    rw [zLt_s, zLt_s, ← hS2, a2, zck_ok hk2 (by omega), zGd_t, zLt_s, zt_0, nI_clamp (by omega), ← hS4, b2, zck_ok hk2 (by omega), zGd_t, zLt_s, nI_clamp (by omega), ← hS6, c2, zck_ok hk2 (by omega), zGd_t, zLt_s, nI_clamp (by omega), ← hS8, d2, zck_ok hk2 (by omega), zGd_t, zLt_s, nI_clamp (by omega), ← hS10]
    have st : ∀ j, j < 6 → fX6_copyFrom_86 a b (zRws a b k S10 j, nI j) = some (.inl (zRws a b k S10 (j + 1), nI (j + 1))) := by
      intro j hj
      unfold fX6_copyFrom_86
      dsimp only
      rw [show (6 : Int32) = nI 6 from rfl, zle_f hj (by omega), zIx_nI hj (by omega), zGd_t, zGd_t, f2 j, zck_ok hk2 (by omega), zGd_t, zLt_s, zLt_s, zt_0, nI_clamp (by omega), nI_clamp (by omega), nI_1, ← zRws_s]
    have ex : fX6_copyFrom_86 a b (zRws a b k S10 6, nI 6) = some (.inr S16) := by
      unfold fX6_copyFrom_86
      dsimp only
      rw [zBr_p (show (6 : Int32) ≤ nI 6 by decide), h6, zGd_t, zLt_s, zt_0, zt6, ← hS12, zGd_t, zLt_s, ← hS14, zGd_t, zLt_s, ← hS16, zXr_s]
    exact zLp_run (fun j => (zRws a b k S10 j, nI j)) 6 2000 st ex (by omega)
  · rw [hS16, hS14, hS12]
    show (zRws a b k S10 6).2 = S.2
    rw [zRws_2, hS10, hS8, hS6, hS4]
    exact a0
  · intro c hc
    rw [hS16, zCi_ne (by omega), hS14, zCi_ne (by omega), hS12, zCi_ne (by omega), zRws_ne a b k S10 6 (by omega), fr c hc]
  · rw [hS16, zCi_ne (by omega), hS14, zCi_ne (by omega), hS12, zCi_ne (by omega), zRws_ne a b k S10 6 (by omega), hS10, zCi_ne (by omega), hS8, zCi_ne (by omega), hS6, zCi_ne (by omega), hS4, zCi_ne (by omega), a1]
  · rw [hS16, zCi_ne (by omega), hS14, zCi_ne (by omega), hS12, zCi_ne (by omega), f2, hk]
  · intro j j1 j2 i hi
    rw [hS16, zCi_ne (by omega), hS14, zCi_ne (by omega), hS12, zCi_ne (by omega), zRws_ne a b k S10 6 (by omega)]
    rcases (show j = 1 ∨ j = 2 ∨ j = 3 ∨ j = 4 by omega) with rfl | rfl | rfl | rfl
    · rw [hS10, zCi_ne (by omega), hS8, zCi_ne (by omega), hS6, zCi_ne (by omega), hS4, zCi_in hi, an _ (by omega)]
    · rw [hS10, zCi_ne (by omega), hS8, zCi_ne (by omega), hS6, zCi_in hi, hS4, zCi_ne (by omega), an _ (by omega)]
    · rw [hS10, zCi_ne (by omega), hS8, zCi_in hi, hS6, zCi_ne (by omega), hS4, zCi_ne (by omega), an _ (by omega)]
    · rw [hS10, zCi_in hi, hS8, zCi_ne (by omega), hS6, zCi_ne (by omega), hS4, zCi_ne (by omega), an _ (by omega)]
  · intro p hp i hi
    rw [hS16, zCi_ne (by omega), hS14, zCi_ne (by omega), hS12, zCi_ne (by omega), zRws_in a b k S10 hd hi 6 (by omega) hp, fr _ (by omega)]
  · intro j j1 j2 i hi
    rcases (show j = 12 ∨ j = 13 ∨ j = 14 by omega) with rfl | rfl | rfl
    · rw [hS16, zCi_ne (by omega), hS14, zCi_ne (by omega), hS12, zCi_in hi, zRws_ne a b k S10 6 (by omega), fr _ (by omega)]
    · rw [hS16, zCi_ne (by omega), hS14, zCi_in hi, hS12, zCi_ne (by omega), zRws_ne a b k S10 6 (by omega), fr _ (by omega)]
    · rw [hS16, zCi_in hi, hS14, zCi_ne (by omega), hS12, zCi_ne (by omega), zRws_ne a b k S10 6 (by omega), fr _ (by omega)]
theorem c_copyRl {S : zSt} {a b : Nat} {m : Nat → Int32} (hd : a + 15 ≤ b ∨ b + 15 ≤ a) (hl : Rl S.1 b m) (h6 : kP m ≤ 6) (hv : WFl m) : ∃ S', fX6_copyFrom S a b = some S' ∧ S'.2 = S.2 ∧ (∀ c, c < a ∨ a + 15 ≤ c → S'.1 c = S.1 c) ∧ Rl S'.1 a m := by
  obtain ⟨S', h1, h2, h3, h4, h5, hj, hp, hq⟩ := c_copyLife hd (hl.2.1.trans hv.2.1.1) hv.2.1.2
  refine ⟨S', h1, h2, h3, by rw [h4]; exact hl.1, by rw [h5]; exact hl.2.1, fun p hp' => ?_, fun i hi => ?_, fun p i hp' hi => ?_⟩
  · rw [hq 13 (by omega) (by omega) p (by omega), hq 14 (by omega) (by omega) p (by omega), hq 12 (by omega) (by omega) p (by omega)]
    exact hl.2.2.1 p hp'
  · rw [hj 1 (by omega) (by omega) i hi, hj 2 (by omega) (by omega) i hi, hj 3 (by omega) (by omega) i hi, hj 4 (by omega) (by omega) i hi]
    exact hl.2.2.2.1 i hi
  · rw [hp p (by omega) i hi]
    exact hl.2.2.2.2 p i hp' hi
