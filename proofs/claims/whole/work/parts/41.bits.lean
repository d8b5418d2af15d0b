/-! counts of bits -/
def zPc : Nat → Nat → Nat
  | 0, _ => 0
  | f + 1, x => x % 2 + zPc f (x / 2)
set_option maxRecDepth 100000 in
theorem m_bits : ∀ x, x < 4096 → fX12_bits (nI x) = some (nI (zPc 12 x)) := by decide +kernel
set_option maxRecDepth 100000 in
theorem c_bitc : ∀ x, x < 4096 → fJ6_bitCount_0f7a4 (nI x) = some (nI (zPc 12 x)) := by decide +kernel
def zBn (P : Nat → Bool) : Nat → Nat
  | 0 => 0
  | n + 1 => zBn P n + if P n = true then 2 ^ n else 0
theorem zBn_lt (P : Nat → Bool) : ∀ n, zBn P n < 2 ^ n
  | 0 => by simp [zBn]
  | n + 1 => by
    have := zBn_lt P n
    rw [zBn, Nat.pow_succ]
    split <;> omega
theorem zBn_cong {P Q : Nat → Bool} : ∀ {n : Nat}, (∀ k, k < n → P k = Q k) → zBn P n = zBn Q n
  | 0, _ => rfl
  | n + 1, h => by
    rw [zBn, zBn, zBn_cong (fun k hk => h k (by omega)), h n (by omega)]
def zCt (P : Nat → Bool) : Nat → Nat
  | 0 => 0
  | n + 1 => zCt P n + if P n = true then 1 else 0
theorem zCt_le (P : Nat → Bool) : ∀ n, zCt P n ≤ n
  | 0 => Nat.le_refl _
  | n + 1 => by
    have := zCt_le P n
    rw [zCt]
    split <;> omega
theorem zPc_add : ∀ (n f x : Nat), x < 2 ^ n → n < f → zPc f (x + 2 ^ n) = zPc f x + 1
  | 0, f, x, hx, hf => by
    have : x = 0 := by simpa using hx
    subst this
    obtain ⟨g, rfl⟩ : ∃ g, f = g + 1 := ⟨f - 1, by omega⟩
    have : ∀ g, zPc g 0 = 0 := by
      intro g
      induction g with
      | zero => rfl
      | succ g ih => simp [zPc, ih]
    simp [zPc, this]
  | n + 1, f, x, hx, hf => by
    obtain ⟨g, rfl⟩ : ∃ g, f = g + 1 := ⟨f - 1, by omega⟩
    have h2 : 2 ^ (n + 1) = 2 * 2 ^ n := by rw [Nat.pow_succ]; omega
    rw [zPc, zPc, h2, show (x + 2 * 2 ^ n) % 2 = x % 2 by omega, show (x + 2 * 2 ^ n) / 2 = x / 2 + 2 ^ n by omega, zPc_add n g (x / 2) (by omega) (by omega)]
    omega
theorem zPc_zero : ∀ g, zPc g 0 = 0 := by
  intro g
  induction g with
  | zero => rfl
  | succ g ih => simp [zPc, ih]
theorem zPc_bn (P : Nat → Bool) (f : Nat) : ∀ n, n ≤ f → zPc f (zBn P n) = zCt P n
  | 0, _ => by rw [zBn, zCt, zPc_zero]
  | n + 1, h => by
    have ih := zPc_bn P f n (by omega)
    rw [zBn, zCt]
    by_cases hp : P n = true
    · rw [if_pos hp, if_pos hp, zPc_add n f _ (zBn_lt P n) (by omega), ih]
    · rw [if_neg hp, if_neg hp, Nat.add_zero, Nat.add_zero, ih]
theorem zSh1 {n : Nat} (h : n < 31) : (1 : Int32) <<< (nI n &&& 31) = nI (2 ^ n) := by
  have key : ∀ k, k < 31 → (1 : Int32) <<< (nI k &&& 31) = nI (2 ^ k) := by decide +kernel
  exact key n h
theorem nI_or (a b : Nat) : nI a ||| nI b = nI (a ||| b) := by
  apply Int32.toBitVec_inj.mp
  show (Int32.ofNat a).toBitVec ||| (Int32.ofNat b).toBitVec = (Int32.ofNat (a ||| b)).toBitVec
  simp [Int32.toBitVec_ofNat, BitVec.ofNat_or]
theorem nI_and (a b : Nat) : nI a &&& nI b = nI (a &&& b) := by
  apply Int32.toBitVec_inj.mp
  show (Int32.ofNat a).toBitVec &&& (Int32.ofNat b).toBitVec = (Int32.ofNat (a &&& b)).toBitVec
  simp [Int32.toBitVec_ofNat, BitVec.ofNat_and]
theorem zBits_n (P : Nat → Bool) : ∀ n, n < 31 → zBits P n = nI (zBn P n)
  | 0, _ => rfl
  | n + 1, h => by
    rw [zBits, zBn, zBits_n P n (by omega)]
    by_cases hp : P n = true
    · rw [if_pos hp, if_pos hp, zSh1 (by omega), nI_or]
      congr 1
      have := Nat.two_pow_add_eq_or_of_lt (zBn_lt P n) 1
      rw [Nat.or_comm, ← Nat.mul_one (2 ^ n), ← this]
      omega
    · rw [if_neg hp, if_neg hp, Nat.add_zero]
theorem m_bitsB (P : Nat → Bool) {n : Nat} (h : n ≤ 12) : fX12_bits (zBits P n) = some (nI (zCt P n)) := by
  have h1 := zBn_lt P n
  have h2 : 2 ^ n ≤ 4096 := Nat.pow_le_pow_right (by omega) h
  rw [zBits_n P n (by omega), m_bits _ (by omega), zPc_bn P 12 n h]
theorem c_bitcB (P : Nat → Bool) {n : Nat} (h : n ≤ 12) : fJ6_bitCount_0f7a4 (zBits P n) = some (nI (zCt P n)) := by
  have h1 := zBn_lt P n
  have h2 : 2 ^ n ≤ 4096 := Nat.pow_le_pow_right (by omega) h
  rw [zBits_n P n (by omega), c_bitc _ (by omega), zPc_bn P 12 n h]
