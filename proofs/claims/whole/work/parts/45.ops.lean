/-! more calls that change nothing -/
theorem zNt (x y : Int32) : (x ||| y) ^^^ (-1) = (x ^^^ (-1)) &&& (y ^^^ (-1)) := by
  apply Int32.toBitVec_inj.mp
  show (x.toBitVec ||| y.toBitVec) ^^^ (-1 : Int32).toBitVec = (x.toBitVec ^^^ (-1 : Int32).toBitVec) &&& (y.toBitVec ^^^ (-1 : Int32).toBitVec)
  rw [show (-1 : Int32).toBitVec = BitVec.allOnes 32 from rfl]
  ext i
  simp [-BitVec.reduceAllOnes]
theorem zAa (x y z : Int32) : (x &&& y) &&& z = x &&& (y &&& z) := by
  apply Int32.toBitVec_inj.mp
  show (x.toBitVec &&& y.toBitVec) &&& z.toBitVec = x.toBitVec &&& (y.toBitVec &&& z.toBitVec)
  exact BitVec.and_assoc _ _ _
theorem zA0 (x : Int32) : x &&& ((0 : Int32) ^^^ (-1)) = x := by
  apply Int32.toBitVec_inj.mp
  show x.toBitVec &&& ((0 : Int32).toBitVec ^^^ (-1 : Int32).toBitVec) = x.toBitVec
  rw [show (0 : Int32).toBitVec ^^^ (-1 : Int32).toBitVec = BitVec.allOnes 32 from rfl]
  exact BitVec.and_allOnes
theorem zBr_T {β : Type} {x y : Option β} : zBr True x y = x := rfl
theorem zNotF (a : Int32) (c : Nat → Bool) (g : Nat → Int32) : ∀ n, a &&& (zFo (fun p acc => if c p = true then acc ||| g p else acc) 0 n ^^^ (-1)) = zFo (fun p acc => if c p = true then acc &&& (g p ^^^ (-1)) else acc) a n
  | 0 => zA0 a
  | n + 1 => by
    rw [zFo, zFo, ← zNotF a c g n]
    by_cases h : c n = true
    · rw [if_pos h, if_pos h, zNt, zAa]
    · rw [if_neg h, if_neg h]
theorem zNotG (a : Int32) (g : Nat → Int32) (n : Nat) : a &&& (zFo (fun p acc => acc ||| g p) 0 n ^^^ (-1)) = zFo (fun p acc => acc &&& (g p ^^^ (-1))) a n := by
  have := zNotF a (fun _ => true) g n
  simpa using this
theorem zBn_or (P : Nat → Bool) (n : Nat) : zBn P (n + 1) = zBn P n ||| (if P n = true then 2 ^ n else 0) := by
  rw [zBn]
  by_cases hp : P n = true
  · rw [if_pos hp]
    have := Nat.two_pow_add_eq_or_of_lt (zBn_lt P n) 1
    rw [Nat.or_comm, ← Nat.mul_one (2 ^ n), ← this]
    omega
  · rw [if_neg hp]
    simp
theorem zBn_test (P : Nat → Bool) (i : Nat) : ∀ n, (zBn P n).testBit i = (decide (i < n) && P i)
  | 0 => by simp [zBn]
  | n + 1 => by
    rw [zBn_or, Nat.testBit_or, zBn_test P i n]
    by_cases hp : P n = true
    · rw [if_pos hp, Nat.testBit_two_pow]
      by_cases h : n = i
      · subst h; simp [hp]
      · have : (i < n + 1) ↔ i < n := by omega
        simp [h, this]
    · rw [if_neg hp]
      by_cases h : n = i
      · subst h; simp [hp]
      · have : (i < n + 1) ↔ i < n := by omega
        simp [this]
theorem zBn_and (P Q : Nat → Bool) (n : Nat) : zBn P n &&& zBn Q n = zBn (fun i => P i && Q i) n := by
  apply Nat.eq_of_testBit_eq
  intro i
  rw [Nat.testBit_and, zBn_test, zBn_test, zBn_test]
  by_cases h : i < n <;> simp [h]
theorem zBn_zero {P : Nat → Bool} {n : Nat} : zBn P n = 0 ↔ ∀ i, i < n → P i = false := by
  constructor
  · intro h i hi
    have := zBn_test P i n
    rw [h] at this
    simpa [hi] using this.symm
  · intro h
    apply Nat.eq_of_testBit_eq
    intro i
    rw [zBn_test]
    by_cases hi : i < n
    · simp [h i hi]
    · simp [hi]
theorem zBits_and (P Q : Nat → Bool) {n : Nat} (h : n < 31) : zBits P n &&& zBits Q n = zBits (fun i => P i && Q i) n := by
  rw [zBits_n P n h, zBits_n Q n h, zBits_n _ n h, nI_and, zBn_and]
theorem zBits_zero (P : Nat → Bool) {n : Nat} (h : n < 31) : zBits P n = 0 ↔ ∀ i, i < n → P i = false := by
  have h1 := zBn_lt P n
  have h2 : 2 ^ n ≤ 2 ^ 30 := Nat.pow_le_pow_right (by omega) (by omega)
  rw [zBits_n P n h, ← zBn_zero, show (0 : Int32) = nI 0 from rfl, nI_eq (by omega) (by omega)]
theorem zLp_any1 {β : Type} {body : Int32 → Option (Int32 ⊕ β)} {P : Nat → Bool} {n fuel : Nat} {r1 : β} (h : ∀ i, i < n → body (nI i) = some (if P i = true then .inr r1 else .inl (nI (i + 1)))) (hf : n < fuel) (hx : ∃ i, i < n ∧ P i = true) : zLp body fuel 0 = some r1 := by
  obtain ⟨k, ⟨hk, hp⟩, hl⟩ := pk_least (fun i => i < n ∧ P i = true) hx
  exact zLp_run (fun i => nI i) k fuel (fun i hi => by
    rw [h i (by omega), if_neg (fun q => hl i hi ⟨by omega, q⟩)]) (by rw [h k hk, if_pos hp]) (by omega)
theorem zLp_any0 {β : Type} {body : Int32 → Option (Int32 ⊕ β)} {P : Nat → Bool} {n fuel : Nat} {r0 r1 : β} (h : ∀ i, i < n → body (nI i) = some (if P i = true then .inr r1 else .inl (nI (i + 1)))) (h0 : body (nI n) = some (.inr r0)) (hf : n < fuel) (hx : ∀ i, i < n → P i = false) : zLp body fuel 0 = some r0 :=
  zLp_run (fun i => nI i) n fuel (fun i hi => by
    rw [h i hi, if_neg (by rw [hx i hi]; decide)]) h0 (by omega)
theorem aRch_ne (m : Nat → Int32) {l d : Nat} (hl : l < 5) (hd : d < 2 ^ 5) (e : m (6 + l) = nI d) : ¬ aRch m l = 0 := by
  unfold aRch
  rw [e]
  have key : ∀ l, l < 5 → ∀ d, d < 32 → ¬ (nI d ||| ((1 : Int32) <<< (nI l &&& 31))) = 0 := by decide +kernel
  exact key l hl d hd
theorem aSees_zero {m : Nat → Int32} (hw : WFh m) (hv : WFl m) {p : Nat} (hp : p < kP m) : decide (¬ aSees m p 0 = 0) = aSeer m p := by
  obtain ⟨a, ha, ea⟩ := (hv.2.2.1 p hp).1
  have h5 := hw.1.2
  obtain ⟨d, hd, ed⟩ := hw.2.2.2.2.2.2.1 a (by omega)
  have hd5 : d < 2 ^ 5 := Nat.lt_of_lt_of_le hd (Nat.pow_le_pow_right (by omega) h5)
  have hr := aRch_ne m (show a < 5 by omega) hd5 ed
  unfold aSees aSeer
  rw [ea, nI_clamp (by omega)]
  by_cases hf : aFern m p = true
  · simp [hf]
  · by_cases hd : m (32 + p) < m 4 <;> simp [hf, hd, hr]
section Ops2
variable {S T : zSt}
theorem op_guilty (r : Rel S T) (x d : Int32) : ∃ z, fX11_guilty S x d = some z ∧ fX12_guilty T x d = some (z, zI T 0 0 0) := by
  obtain ⟨-, ⟨hh, hw, hl, hv, -⟩, -⟩ := r
  have h4 := hw.2.2.1.2
  have h5 := hw.2.2.2.1.2
  have ha := hv.2.1.2
  simp only [fX11_guilty, fX12_guilty, zLt_s, show (2 : Int32) = nI 2 from rfl, show (3 : Int32) = nI 3 from rfl, c_has hh (show 2 < 4 by omega) hw.2.2.1.1, c_has hh (show 3 < 4 by omega) hw.2.2.2.1.1, zBd_s, m_isPerson (T := zI T 0 0 0) hw, m_isDeed (T := zI T 0 0 0) hw, zTh, c_actsProved (b := 14) hh hw hl hv, c_actsOf hl hv, c_actsOfDeed hl hv]
  rcases aIs_cases (kE (T.1 2)) x (by omega) with h | ⟨h, j, hj, rfl⟩
  · exact ⟨_, by rw [h]; rfl, by rw [h]; rfl⟩
  · rw [h]
    rcases aIs_cases (kD (T.1 2)) d (by omega) with h' | ⟨h', k, hk, rfl⟩
    · exact ⟨_, by rw [h']; rfl, by rw [h']; rfl⟩
    · rw [h', zBits_and _ _ (by omega), zBits_and _ _ (by omega), zBr_q (show ¬ (1 : Int32) = 0 by decide), zBr_q (show ¬ (1 : Int32) = 0 by decide), zBr_q (show ¬ (1 : Int32) = 0 by decide), zBr_q (show ¬ (1 : Int32) = 0 by decide)]
      have hb : ∀ i, i < kA (T.1 2) → fX12_guilty_25 (zI T 0 0 0) (nI j) (nI k) (nI i) = some (if (aProved (T.1 2) i && decide (T.1 2 (38 + i) = nI j) && decide (T.1 2 (50 + i) = nI k)) = true then .inr (1, zI T 0 0 0) else .inl (nI (i + 1))) := by
        intro i hi
        simp (disch := omega) only [fX12_guilty_25, fX12_guilty_72, zg_0_2, zg_0_3, zg_0_4, zg_0_24, zg_0_40, zg_0_160, zg_0_406, zg_1_2, zg_1_3, zg_1_4, zg_1_24, zg_1_406, zg_2_3, zg_2_4, zg_2_24, zg_2_406, zg_3_4, zg_3_24, zg_3_406, zg_4_24, zg_4_406, zg_5_24, zg_5_406, zg_23_24, zg_23_406, zg_24_406, zg_25_406, zg_164_406, zg_165_406, zt_0, zt_1, zt_2, zt_3, zt_4, zt_5, zt_6, zt_20, zt_23, zt_24, zt_25, zt_164, zt_165, zo_5, zo_6, zo_11, zo_17, zo_24, zo_26, zo_32, zo_38, zo_50, zo_62, zo_74, zo_86, zo_158, zo_166, zGd_t, zBd_s, zBp_s, zLt_s, zXr_s, zXr_n, zBd_n, zIx_nI, nI_clamp, zTh, hv.2.1.1, zle_f, m_isProved (T := zI T 0 0 0) hw hv hi]
        by_cases h1 : T.1 2 (38 + i) = nI j
        · by_cases h2 : T.1 2 (50 + i) = nI k
          · by_cases h3 : aProved (T.1 2) i = true <;> simp [zBr_if, h1, h2, h3, nI_1, zXr_s]
          · simp [zBr_if, h1, h2, nI_1]
        · simp [zBr_if, h1, nI_1]
      have hx : fX12_guilty_25 (zI T 0 0 0) (nI j) (nI k) (nI (kA (T.1 2))) = some (.inr (0, zI T 0 0 0)) := by
        simp (disch := omega) only [fX12_guilty_25, zg_0_2, zg_0_3, zg_0_4, zg_0_24, zg_0_40, zg_0_160, zg_0_406, zg_1_2, zg_1_3, zg_1_4, zg_1_24, zg_1_406, zg_2_3, zg_2_4, zg_2_24, zg_2_406, zg_3_4, zg_3_24, zg_3_406, zg_4_24, zg_4_406, zg_5_24, zg_5_406, zg_23_24, zg_23_406, zg_24_406, zg_25_406, zg_164_406, zg_165_406, zt_0, zt_1, zt_2, zt_3, zt_4, zt_5, zt_6, zt_20, zt_23, zt_24, zt_25, zt_164, zt_165, zGd_t, zBd_s, zBp_s, zLt_s, zXr_s, zXr_n, zBd_n, zIx_nI, nI_clamp, zTh, hv.2.1.1, zle_t]
      by_cases hz : zBits (fun i => (aProved (T.1 2) i && decide (T.1 2 (38 + i) = nI j)) && decide (T.1 2 (50 + i) = nI k)) (kA (T.1 2)) = 0
      · refine ⟨0, by rw [zBr_p hz], zLp_any0 hb hx (by omega) ((zBits_zero _ (by omega)).mp hz)⟩
      · refine ⟨1, by rw [zBr_q hz], zLp_any1 hb (by omega) ?_⟩
        rw [zBits_zero _ (by omega)] at hz
        exact Classical.byContradiction fun q => hz fun i hi => by
          cases hc : (aProved (T.1 2) i && decide (T.1 2 (38 + i) = nI j)) && decide (T.1 2 (50 + i) = nI k) with
          | false => rfl
          | true => exact absurd ⟨i, hi, hc⟩ q
theorem op_now (r : Rel S T) (w : Int32) : ∃ z, fX11_now S w = some z ∧ fX12_now T w = some (z, zI T 0 0 0) := by
  obtain ⟨-, ⟨hh, hw, hl, hv, -⟩, -⟩ := r
  have h66 := hw.2.1.2
  have ha := hv.2.1.2
  have e1 := hw.2.1.1
  unfold fX11_now fX12_now
  rw [zLt_s]
  by_cases h0 : w = 0
  · subst h0
    rw [zBr_p rfl]
    exact ⟨_, rfl, by rw [zBr_p rfl, zg_24_406, zGd_t, zt_24, zTh, ← hl.1]⟩
  by_cases h1 : w = 1
  · subst h1
    rw [zBr_q (by decide), zBr_p rfl]
    exact ⟨_, rfl, by rw [zBr_q (by decide), zBr_p rfl, zg_25_406, zGd_t, zt_25, zTh, ← hl.2.1]⟩
  by_cases h2 : w = 2
  · subst h2
    rw [zBr_q (by decide), zBr_q (by decide), zBr_p rfl]
    exact ⟨_, by rw [c_actsProved (b := 14) hh hw hl hv, zBd_s], by rw [zBr_q (by decide), zBr_q (by decide), zBr_p rfl, m_proved (T := zI T 0 0 0) hw hv, zBd_s, zTh]⟩
  by_cases h3 : w = 3
  · subst h3
    rw [zBr_q (by decide), zBr_q (by decide), zBr_q (by decide), zBr_p rfl]
    refine ⟨_, by rw [c_plantsThatSee (b := 14) hh hw hl, zBd_s], ?_⟩
    rw [zBr_q (by decide), zBr_q (by decide), zBr_q (by decide), zBr_p rfl]
    refine zLp_bits (g := fun x => (x, zI T 0 0 0)) (fun acc p hp => ?_) (fun acc => ?_) (by omega)
    · have hs := aSees_zero hw hv hp
      simp (disch := omega) only [fX12_now_79, fX12_now_104, zg_0_2, zg_0_3, zg_0_4, zg_0_24, zg_0_40, zg_0_160, zg_0_406, zg_1_2, zg_1_3, zg_1_4, zg_1_24, zg_1_406, zg_2_3, zg_2_4, zg_2_24, zg_2_406, zg_3_4, zg_3_24, zg_3_406, zg_4_24, zg_4_406, zg_5_24, zg_5_406, zg_23_24, zg_23_406, zg_24_406, zg_25_406, zg_164_406, zg_165_406, zt_0, zt_1, zt_2, zt_3, zt_4, zt_5, zt_6, zt_20, zt_23, zt_24, zt_25, zt_164, zt_165, zGd_t, zBd_s, zBp_s, zLt_s, zXr_s, zXr_n, zBd_n, zIx_nI, nI_clamp, zTh, e1, zle_f, m_seesOf (T := zI T 0 0 0) hw hv hp]
      rw [← hs]
      by_cases h1 : aSees (T.1 2) p 0 = 0 <;> simp [zBr_if, h1, nI_1]
    · simp (disch := omega) only [fX12_now_79, zg_0_2, zg_0_3, zg_0_4, zg_0_24, zg_0_40, zg_0_160, zg_0_406, zg_1_2, zg_1_3, zg_1_4, zg_1_24, zg_1_406, zg_2_3, zg_2_4, zg_2_24, zg_2_406, zg_3_4, zg_3_24, zg_3_406, zg_4_24, zg_4_406, zg_5_24, zg_5_406, zg_23_24, zg_23_406, zg_24_406, zg_25_406, zg_164_406, zg_165_406, zt_0, zt_1, zt_2, zt_3, zt_4, zt_5, zt_6, zt_20, zt_23, zt_24, zt_25, zt_164, zt_165, zGd_t, zBd_s, zBp_s, zLt_s, zXr_s, zXr_n, zBd_n, zIx_nI, nI_clamp, zTh, e1, zle_t]
  by_cases h4 : w = 4
  · subst h4
    rw [zBr_q (by decide), zBr_q (by decide), zBr_q (by decide), zBr_q (by decide), zBr_p rfl]
    refine ⟨_, by rw [c_plantsWithDust (b := 14) hh hw hl, zBd_s], ?_⟩
    rw [zBr_q (by decide), zBr_q (by decide), zBr_q (by decide), zBr_q (by decide), zBr_p rfl]
    refine zLp_bits (g := fun x => (x, zI T 0 0 0)) (fun acc p hp => ?_) (fun acc => ?_) (by omega)
    · simp (disch := omega) only [fX12_now_114, fX12_now_142, zg_0_2, zg_0_3, zg_0_4, zg_0_24, zg_0_40, zg_0_160, zg_0_406, zg_1_2, zg_1_3, zg_1_4, zg_1_24, zg_1_406, zg_2_3, zg_2_4, zg_2_24, zg_2_406, zg_3_4, zg_3_24, zg_3_406, zg_4_24, zg_4_406, zg_5_24, zg_5_406, zg_23_24, zg_23_406, zg_24_406, zg_25_406, zg_164_406, zg_165_406, zt_0, zt_1, zt_2, zt_3, zt_4, zt_5, zt_6, zt_20, zt_23, zt_24, zt_25, zt_164, zt_165, zo_5, zo_6, zo_11, zo_17, zo_24, zo_26, zo_32, zo_38, zo_50, zo_62, zo_74, zo_86, zo_158, zo_166, zGd_t, zBd_s, zBp_s, zLt_s, zXr_s, zXr_n, zBd_n, zIx_nI, nI_clamp, zTh, e1, zle_f]
      by_cases h1 : T.1 2 (32 + p) ≤ 0 <;> simp [zBr_if, h1, nI_1]
    · simp (disch := omega) only [fX12_now_114, zg_0_2, zg_0_3, zg_0_4, zg_0_24, zg_0_40, zg_0_160, zg_0_406, zg_1_2, zg_1_3, zg_1_4, zg_1_24, zg_1_406, zg_2_3, zg_2_4, zg_2_24, zg_2_406, zg_3_4, zg_3_24, zg_3_406, zg_4_24, zg_4_406, zg_5_24, zg_5_406, zg_23_24, zg_23_406, zg_24_406, zg_25_406, zg_164_406, zg_165_406, zt_0, zt_1, zt_2, zt_3, zt_4, zt_5, zt_6, zt_20, zt_23, zt_24, zt_25, zt_164, zt_165, zGd_t, zBd_s, zBp_s, zLt_s, zXr_s, zXr_n, zBd_n, zIx_nI, nI_clamp, zTh, e1, zle_t]
  by_cases h5 : w = 5
  · subst h5
    rw [zBr_q (by decide), zBr_q (by decide), zBr_q (by decide), zBr_q (by decide), zBr_q (by decide), zBr_p rfl]
    refine ⟨_, by rw [c_allLeavesCome (b := 14) hh hw hl hv, zBd_s], ?_⟩
    rw [zBr_q (by decide), zBr_q (by decide), zBr_q (by decide), zBr_q (by decide), zBr_q (by decide), zBr_p rfl]
    refine zLp_fold (F := fun p acc => acc + nI (zCt (aCome (T.1 2) p) (kA (T.1 2)))) (n := kP (T.1 2)) (fun acc p hp => ?_) ?_ (by omega)
    · simp (disch := omega) only [fX12_now_152, fX12_now_175, zg_0_2, zg_0_3, zg_0_4, zg_0_24, zg_0_40, zg_0_160, zg_0_406, zg_1_2, zg_1_3, zg_1_4, zg_1_24, zg_1_406, zg_2_3, zg_2_4, zg_2_24, zg_2_406, zg_3_4, zg_3_24, zg_3_406, zg_4_24, zg_4_406, zg_5_24, zg_5_406, zg_23_24, zg_23_406, zg_24_406, zg_25_406, zg_164_406, zg_165_406, zt_0, zt_1, zt_2, zt_3, zt_4, zt_5, zt_6, zt_20, zt_23, zt_24, zt_25, zt_164, zt_165, zGd_t, zBd_s, zBp_s, zLt_s, zXr_s, zXr_n, zBd_n, zIx_nI, nI_clamp, zTh, e1, zle_f, zBr_T, m_shownBy1 (T := zI T 0 0 0) hw hv hp, m_bitsB (aCome (T.1 2) p) ha, nI_1]
    · simp (disch := omega) only [fX12_now_152, zg_0_2, zg_0_3, zg_0_4, zg_0_24, zg_0_40, zg_0_160, zg_0_406, zg_1_2, zg_1_3, zg_1_4, zg_1_24, zg_1_406, zg_2_3, zg_2_4, zg_2_24, zg_2_406, zg_3_4, zg_3_24, zg_3_406, zg_4_24, zg_4_406, zg_5_24, zg_5_406, zg_23_24, zg_23_406, zg_24_406, zg_25_406, zg_164_406, zg_165_406, zt_0, zt_1, zt_2, zt_3, zt_4, zt_5, zt_6, zt_20, zt_23, zt_24, zt_25, zt_164, zt_165, zGd_t, zBd_s, zBp_s, zLt_s, zXr_s, zXr_n, zBd_n, zIx_nI, nI_clamp, zTh, e1, zle_t]
  by_cases h6 : w = 6
  · subst h6
    rw [zBr_q (by decide), zBr_q (by decide), zBr_q (by decide), zBr_q (by decide), zBr_q (by decide), zBr_q (by decide), zBr_p rfl]
    refine ⟨_, by rw [c_allLeavesDue (b := 14) hh hw hl hv, zBd_s], ?_⟩
    rw [zBr_q (by decide), zBr_q (by decide), zBr_q (by decide), zBr_q (by decide), zBr_q (by decide), zBr_q (by decide), zBr_p rfl]
    refine zLp_fold (F := fun p acc => acc + nI (zCt (aWill (T.1 2) p) (kA (T.1 2)))) (n := kP (T.1 2)) (fun acc p hp => ?_) ?_ (by omega)
    · simp (disch := omega) only [fX12_now_152, fX12_now_175, zg_0_2, zg_0_3, zg_0_4, zg_0_24, zg_0_40, zg_0_160, zg_0_406, zg_1_2, zg_1_3, zg_1_4, zg_1_24, zg_1_406, zg_2_3, zg_2_4, zg_2_24, zg_2_406, zg_3_4, zg_3_24, zg_3_406, zg_4_24, zg_4_406, zg_5_24, zg_5_406, zg_23_24, zg_23_406, zg_24_406, zg_25_406, zg_164_406, zg_165_406, zt_0, zt_1, zt_2, zt_3, zt_4, zt_5, zt_6, zt_20, zt_23, zt_24, zt_25, zt_164, zt_165, zGd_t, zBd_s, zBp_s, zLt_s, zXr_s, zXr_n, zBd_n, zIx_nI, nI_clamp, zTh, e1, zle_f, zBr_q (show ¬ (6 : Int32) = 5 by decide), m_shownBy0 (T := zI T 0 0 0) hw hv hp, m_bitsB (aWill (T.1 2) p) ha, nI_1]
    · simp (disch := omega) only [fX12_now_152, zg_0_2, zg_0_3, zg_0_4, zg_0_24, zg_0_40, zg_0_160, zg_0_406, zg_1_2, zg_1_3, zg_1_4, zg_1_24, zg_1_406, zg_2_3, zg_2_4, zg_2_24, zg_2_406, zg_3_4, zg_3_24, zg_3_406, zg_4_24, zg_4_406, zg_5_24, zg_5_406, zg_23_24, zg_23_406, zg_24_406, zg_25_406, zg_164_406, zg_165_406, zt_0, zt_1, zt_2, zt_3, zt_4, zt_5, zt_6, zt_20, zt_23, zt_24, zt_25, zt_164, zt_165, zGd_t, zBd_s, zBp_s, zLt_s, zXr_s, zXr_n, zBd_n, zIx_nI, nI_clamp, zTh, e1, zle_t]
  by_cases h7 : w = 7
  · subst h7
    rw [zBr_q (by decide), zBr_q (by decide), zBr_q (by decide), zBr_q (by decide), zBr_q (by decide), zBr_q (by decide), zBr_q (by decide), zBr_p rfl]
    refine ⟨_, by rw [c_parloursUnseen (b := 14) hh hw hl hv, zBd_s], ?_⟩
    rw [zBr_q (by decide), zBr_q (by decide), zBr_q (by decide), zBr_q (by decide), zBr_q (by decide), zBr_q (by decide), zBr_q (by decide), zBr_p rfl, m_unseen (T := zI T 0 0 0) hw hv, zBd_s, zTh, zNotG]
  exact ⟨-1, by rw [zBr_q h0, zBr_q h1, zBr_q h2, zBr_q h3, zBr_q h4, zBr_q h5, zBr_q h6, zBr_q h7], by rw [zBr_q h0, zBr_q h1, zBr_q h2, zBr_q h3, zBr_q h4, zBr_q h5, zBr_q h6, zBr_q h7]⟩
end Ops2
