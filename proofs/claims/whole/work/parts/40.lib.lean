/-! pure rows: evaluation of the functional words, numbers, loops -/
theorem zl_0 : (0 : Int32) = nI 0 := rfl
theorem zl_1 : (1 : Int32) = nI 1 := rfl
theorem zl_2 : (2 : Int32) = nI 2 := rfl
theorem zl_3 : (3 : Int32) = nI 3 := rfl
theorem zl_4 : (4 : Int32) = nI 4 := rfl
theorem zl_5 : (5 : Int32) = nI 5 := rfl
theorem zl_6 : (6 : Int32) = nI 6 := rfl
theorem zl_7 : (7 : Int32) = nI 7 := rfl
theorem zl_8 : (8 : Int32) = nI 8 := rfl
theorem zl_9 : (9 : Int32) = nI 9 := rfl
theorem zl_10 : (10 : Int32) = nI 10 := rfl
theorem zl_11 : (11 : Int32) = nI 11 := rfl
theorem zl_12 : (12 : Int32) = nI 12 := rfl
theorem zl_13 : (13 : Int32) = nI 13 := rfl
theorem zl_14 : (14 : Int32) = nI 14 := rfl
theorem zl_15 : (15 : Int32) = nI 15 := rfl
theorem zl_16 : (16 : Int32) = nI 16 := rfl
theorem zl_17 : (17 : Int32) = nI 17 := rfl
theorem zl_18 : (18 : Int32) = nI 18 := rfl
theorem zl_19 : (19 : Int32) = nI 19 := rfl
theorem zl_20 : (20 : Int32) = nI 20 := rfl
theorem zl_21 : (21 : Int32) = nI 21 := rfl
theorem zl_22 : (22 : Int32) = nI 22 := rfl
theorem zl_23 : (23 : Int32) = nI 23 := rfl
theorem zl_24 : (24 : Int32) = nI 24 := rfl
theorem zl_25 : (25 : Int32) = nI 25 := rfl
theorem zl_26 : (26 : Int32) = nI 26 := rfl
theorem zl_27 : (27 : Int32) = nI 27 := rfl
theorem zl_28 : (28 : Int32) = nI 28 := rfl
theorem zl_29 : (29 : Int32) = nI 29 := rfl
theorem zl_30 : (30 : Int32) = nI 30 := rfl
theorem zl_31 : (31 : Int32) = nI 31 := rfl
theorem zl_32 : (32 : Int32) = nI 32 := rfl
theorem zl_33 : (33 : Int32) = nI 33 := rfl
theorem zl_34 : (34 : Int32) = nI 34 := rfl
theorem zl_35 : (35 : Int32) = nI 35 := rfl
theorem zl_36 : (36 : Int32) = nI 36 := rfl
theorem zl_37 : (37 : Int32) = nI 37 := rfl
theorem zl_38 : (38 : Int32) = nI 38 := rfl
theorem zl_39 : (39 : Int32) = nI 39 := rfl
theorem zl_40 : (40 : Int32) = nI 40 := rfl
theorem zl_44 : (44 : Int32) = nI 44 := rfl
theorem zl_46 : (46 : Int32) = nI 46 := rfl
theorem zl_48 : (48 : Int32) = nI 48 := rfl
theorem zl_50 : (50 : Int32) = nI 50 := rfl
theorem zl_57 : (57 : Int32) = nI 57 := rfl
theorem zl_60 : (60 : Int32) = nI 60 := rfl
theorem zl_62 : (62 : Int32) = nI 62 := rfl
theorem zl_74 : (74 : Int32) = nI 74 := rfl
theorem zl_86 : (86 : Int32) = nI 86 := rfl
theorem zl_96 : (96 : Int32) = nI 96 := rfl
theorem zl_97 : (97 : Int32) = nI 97 := rfl
theorem zl_99 : (99 : Int32) = nI 99 := rfl
theorem zl_122 : (122 : Int32) = nI 122 := rfl
theorem zl_158 : (158 : Int32) = nI 158 := rfl
theorem zl_164 : (164 : Int32) = nI 164 := rfl
theorem zl_165 : (165 : Int32) = nI 165 := rfl
theorem zl_166 : (166 : Int32) = nI 166 := rfl
theorem zl_200 : (200 : Int32) = nI 200 := rfl
theorem zl_240 : (240 : Int32) = nI 240 := rfl
theorem zl_255 : (255 : Int32) = nI 255 := rfl
theorem zl_400 : (400 : Int32) = nI 400 := rfl
theorem zl_406 : (406 : Int32) = nI 406 := rfl
theorem zl_900 : (900 : Int32) = nI 900 := rfl
theorem zl_940 : (940 : Int32) = nI 940 := rfl

theorem zGd_t {β : Type} {x : Option β} : zGd true x = x := rfl
theorem zBd_s {α β : Type} {a : α} {f : α → Option β} : zBd (some a) f = f a := rfl
theorem zBd_n {α β : Type} {f : α → Option β} : zBd none f = none := rfl
theorem zBp_s {α β : Type} {a : α} {S : zSt} {f : α → zSt → Option β} : zBp (some (a, S)) f = f a S := rfl
theorem zLt_s {α β : Type} {a : α} {f : α → Option β} : zLt a f = f a := rfl
theorem zXr_s {σ β : Type} {r : β} : (zXr (some r) : Option (σ ⊕ β)) = some (.inr r) := rfl
theorem zXr_n {σ β : Type} : (zXr (none : Option β) : Option (σ ⊕ β)) = none := rfl
theorem zBr_p {β : Type} {c : Prop} [Decidable c] {x y : Option β} (h : c) : zBr c x y = x := if_pos h
theorem zBr_q {β : Type} {c : Prop} [Decidable c] {x y : Option β} (h : ¬ c) : zBr c x y = y := if_neg h
theorem zBr_if {β : Type} {c : Prop} [Decidable c] {x y : Option β} : zBr c x y = if c then x else y := rfl
theorem zIx_nI {i n : Nat} (h : i < n) (hn : n < 2147483648) : zIx (nI i) n = true := by
  have h1 : (nI i).toNatClampNeg = i := nI_clamp (by omega)
  simp only [zIx, h1, Bool.and_eq_true, decide_eq_true_eq]
  exact ⟨nI_pos (by omega), h⟩
def zIn (x : Int32) (n : Nat) : Prop := ∃ k : Nat, k < n ∧ x = nI k
theorem zIn_ix {x : Int32} {n : Nat} (h : zIn x n) (hn : n < 2147483648) : zIx x n = true := by
  obtain ⟨k, hk, rfl⟩ := h
  exact zIx_nI hk hn
theorem zIn_mono {x : Int32} {n k : Nat} (h : zIn x n) (hn : n ≤ k) : zIn x k := by
  obtain ⟨j, hk, rfl⟩ := h
  exact ⟨j, by omega, rfl⟩
theorem zIn_eq {x : Int32} {n : Nat} (h : zIn x n) (hn : n ≤ 2147483648) : x = nI x.toNatClampNeg ∧ x.toNatClampNeg < n := by
  obtain ⟨k, hk, rfl⟩ := h
  rw [nI_clamp (by omega)]
  exact ⟨rfl, hk⟩
/-- a number from outside: below 0, at n or beyond, or one of those below n -/
theorem zCase (x : Int32) (n : Nat) (hn : n < 2147483648) : x < 0 ∨ (¬ x < 0 ∧ nI n ≤ x) ∨ ∃ j : Nat, j < n ∧ x = nI j := by
  rcases pk_ix x (n := n) (by omega) with h | h | h
  · exact Or.inl h
  · by_cases h0 : x < 0
    · exact Or.inl h0
    · exact Or.inr (Or.inl ⟨h0, h⟩)
  · exact Or.inr (Or.inr h)
theorem zLp_run {σ β : Type} {body : σ → Option (σ ⊕ β)} (st : Nat → σ) {r : β} : ∀ (n fuel : Nat), (∀ i, i < n → body (st i) = some (.inl (st (i + 1)))) → body (st n) = some (.inr r) → n < fuel → zLp body fuel (st 0) = some r := by
  intro n
  induction n generalizing st with
  | zero =>
    intro fuel _ hx hf
    cases fuel with
    | zero => omega
    | succ f => simp [zLp, hx]
  | succ n ih =>
    intro fuel hs hx hf
    cases fuel with
    | zero => omega
    | succ f =>
      have h0 := hs 0 (by omega)
      simp only [zLp, h0]
      exact ih (fun i => st (i + 1)) f (fun i hi => hs (i + 1) (by omega)) hx (by omega)
/-- the bits of those below n for which P holds -/
def zBits (P : Nat → Bool) : Nat → Int32
  | 0 => 0
  | n + 1 => if P n = true then zBits P n ||| ((1 : Int32) <<< (nI n &&& 31)) else zBits P n
theorem zBits_cong {P Q : Nat → Bool} : ∀ {n : Nat}, (∀ k, k < n → P k = Q k) → zBits P n = zBits Q n
  | 0, _ => rfl
  | n + 1, h => by
    rw [zBits, zBits, zBits_cong (fun k hk => h k (by omega)), h n (by omega)]
theorem zI_at {S : zSt} {k j a b : Nat} {v : Int32} : (zI S k j v).1 a b = if a = k ∧ b = j then v else S.1 a b := rfl
theorem zI_at2 {S : zSt} {k j : Nat} {v : Int32} : (zI S k j v).2 = S.2 := rfl
theorem zJ_at {S : zSt} {k j a b : Nat} {v : Int64} : (zJ S k j v).2 a b = if a = k ∧ b = j then v else S.2 a b := rfl
theorem zJ_at1 {S : zSt} {k j : Nat} {v : Int64} : (zJ S k j v).1 = S.1 := rfl
/-! the abstract state: the reference's own row of numbers m -/
def kL (m : Nat → Int32) : Nat := (m 0).toNatClampNeg
def kP (m : Nat → Int32) : Nat := (m 1).toNatClampNeg
def kE (m : Nat → Int32) : Nat := (m 2).toNatClampNeg
def kD (m : Nat → Int32) : Nat := (m 3).toNatClampNeg
def kA (m : Nat → Int32) : Nat := (m 25).toNatClampNeg
def aFern (m : Nat → Int32) (p : Nat) : Bool := decide (((m 23 >>> (nI p &&& 31)) &&& (1 : Int32)) = 1)
def WFh (m : Nat → Int32) : Prop := (m 0 = nI (kL m) ∧ kL m ≤ 5) ∧ (m 1 = nI (kP m) ∧ kP m ≤ 6) ∧ (m 2 = nI (kE m) ∧ kE m ≤ 4) ∧ (m 3 = nI (kD m) ∧ kD m ≤ 5) ∧ (∃ d, d ≤ 60 ∧ 1 ≤ d ∧ m 4 = nI d) ∧ (∃ d, d ≤ 6 ∧ 1 ≤ d ∧ m 5 = nI d) ∧ (∀ l, l < 5 → ∃ d, d < 2 ^ kL m ∧ m (6 + l) = nI d) ∧ (∀ p, p < kP m → zIn (m (11 + p)) (kL m) ∧ ∃ d, d ≤ 9 ∧ 1 ≤ d ∧ m (17 + p) = nI d)
def WFl (m : Nat → Int32) : Prop := zIn (m 24) 401 ∧ (m 25 = nI (kA m) ∧ kA m ≤ 12) ∧ (∀ p, p < kP m → zIn (m (26 + p)) (kL m) ∧ zIn (m (32 + p)) 100) ∧ (∀ i, i < kA m → zIn (m (38 + i)) (kE m) ∧ zIn (m (50 + i)) (kD m) ∧ zIn (m (62 + i)) (kL m) ∧ zIn (m (74 + i)) 401) ∧ (∀ p i, p < kP m → i < kA m → m (86 + 12 * p + i) = -1 ∨ ∃ d, d ≤ 400 + 9 * kA m ∧ m (86 + 12 * p + i) = nI d) ∧ (∀ p, p < kP m → m (158 + p) = -1 ∨ ∃ d, d ≤ 400 + 9 * kA m ∧ m (158 + p) = nI d) ∧ (∀ p i, p < kP m → kA m ≤ i → i < 12 → m (86 + 12 * p + i) = -1)
def Rh (I : Nat → Nat → Int32) (h : Nat) (m : Nat → Int32) : Prop := (∀ k, k < 4 → I (h + 1) k = m k) ∧ I h 10 = m 4 ∧ I h 11 = m 5 ∧ (∀ l, l < 5 → I (h + 2) l = m (6 + l)) ∧ (∀ p, p < kP m → I (h + 3) p = m (11 + p) ∧ I (h + 4) p = m (17 + p) ∧ I (h + 5) p = if aFern m p = true then 1 else 0)
def Rl (I : Nat → Nat → Int32) (b : Nat) (m : Nat → Int32) : Prop := I b 1 = m 24 ∧ I b 2 = m 25 ∧ (∀ p, p < kP m → I (b + 13) p = m (26 + p) ∧ I (b + 14) p = m (32 + p) ∧ (I (b + 12) p = m (158 + p) ∨ (I (b + 12) p = 0 ∧ m (158 + p) = -1))) ∧ (∀ i, i < kA m → I (b + 1) i = m (38 + i) ∧ I (b + 2) i = m (50 + i) ∧ I (b + 3) i = m (62 + i) ∧ I (b + 4) i = m (74 + i)) ∧ (∀ p i, p < kP m → i < kA m → I (b + 6 + p) i = m (86 + 12 * p + i))
def aRch (m : Nat → Int32) (l : Nat) : Int32 := m (6 + l) ||| ((1 : Int32) <<< (nI l &&& 31))
def aSees (m : Nat → Int32) (p : Nat) (more : Int32) : Int32 := if aFern m p = true then 0 else if m (32 + p) + more < m 4 then aRch m (m (26 + p)).toNatClampNeg else 0
theorem c_plants {S : zSt} {b : Nat} {m : Nat → Int32} (hh : Rh S.1 (zHs b) m) : fX6_plants S b = some (m 1) := by
  have := hh.1 1 (by omega)
  simp only [fX6_plants, zl_1, zIx_nI (show 1 < 4 by omega) (by omega), zGd_t, nI_clamp (show 1 < 2 ^ 31 by omega), this]
theorem c_isBlind {S : zSt} {b : Nat} {m : Nat → Int32} (hh : Rh S.1 (zHs b) m) (hw : WFh m) (hl : Rl S.1 b m) {p : Nat} (hp : p < kP m) : fX6_isBlind S b (nI p) = some (if aFern m p = true ∨ ¬ m (32 + p) < m 4 then 1 else 0) := by
  have h6 := hw.2.1.2
  have e1 := (hh.2.2.2.2 p hp).2.2
  have e2 := (hl.2.2.1 p hp).2.1
  simp only [fX6_isBlind, zIx_nI (show p < 6 by omega) (by omega), zGd_t, nI_clamp (show p < 2 ^ 31 by omega), e1, e2, hh.2.1, zBr_if]
  by_cases hf : aFern m p = true
  · simp [hf]
  · simp only [hf]
    by_cases hd : m (32 + p) < m 4 <;> simp [hd]
theorem c_seenBy {S : zSt} {b : Nat} {m : Nat → Int32} (hh : Rh S.1 (zHs b) m) (hw : WFh m) (hl : Rl S.1 b m) (hv : WFl m) {p : Nat} (hp : p < kP m) : fX6_seenBy S b (nI p) = some (aSees m p 0) := by
  have h6 := hw.2.1.2
  have h5 := hw.1.2
  obtain ⟨a, ha, ea⟩ := (hv.2.2.1 p hp).1
  have e1 := (hl.2.2.1 p hp).1
  simp only [fX6_seenBy, c_isBlind hh hw hl hp, zBd_s, zIx_nI (show p < 6 by omega) (by omega), zGd_t, nI_clamp (show p < 2 ^ 31 by omega), e1, zBr_if, fX3_reach, ea, zIx_nI (show a < 5 by omega) (by omega), nI_clamp (show a < 2 ^ 31 by omega), hh.2.2.2.1 a (by omega), aSees, aRch]
  by_cases hf : aFern m p = true
  · simp [hf]
  · by_cases hd : m (32 + p) < m 4 <;> simp [hf, hd]
