/-! fits: what the tape's pairs leave, and whom to ask -/
theorem Rel_zero {S S' T T' : zSt} (r : Rel S T) (a1 : S'.2 = S.2) (a2 : ∀ c, c ≠ 0 → S'.1 c = S.1 c) (b1 : T'.2 = T.2) (b2 : ∀ c, c ≠ 0 → T'.1 c = T.1 c) (b3 : ∀ j, (j = 2 ∨ j = 24 ∨ j = 29 ∨ j = 31 ∨ j = 39) → T'.1 0 j = T.1 0 j) (h : S'.1 0 14 = T'.1 0 10 ∧ S'.1 0 15 = T'.1 0 25 ∧ S'.1 0 16 = T'.1 0 26) : Rel S' T' := by
  obtain ⟨r1, r2, r3, r4, r5, r6, r7, r8, r9, r10⟩ := r
  have h6 := r2.2.1.2.1.2
  unfold Rel
  rw [a1, b1, a2 1 (by omega), a2 2 (by omega), a2 44 (by omega), a2 256 (by omega), a2 260 (by omega), a2 255 (by omega), a2 240 (by omega), b2 1 (by omega), b2 2 (by omega), b2 5 (by omega), b2 10 (by omega), b2 4 (by omega), b2 13 (by omega), b2 14 (by omega), b2 17 (by omega), b3 2 (by omega), b3 24 (by omega), b3 29 (by omega), b3 31 (by omega), b3 39 (by omega)]
  exact ⟨r1, rAll_cong (fun a q => a2 a (by omega)) (fun a _ _ => rfl) r2, rPast_cong h6 (fun a q1 q2 => a2 a (by omega)) r3, rImg_cong (fun a q1 q2 => a2 a (by omega)) (fun a _ _ => rfl) r4, rImg_cong (fun a q1 q2 => a2 a (by omega)) (fun a _ _ => rfl) r5, h, r7, r8, r9, r10⟩
theorem Rel_take {S T : zSt} (r : Rel S T) : Rel (zI S 1 1 0) (zI (zI T 0 0 0) 0 2 0) := by
  refine Rel_tape (Rel_thrown r 0) (fun c _ => rfl) (fun c h1 _ => zI_ne h1) (fun c _ => rfl) (fun c h1 _ => zI_ne h1) (fun x hx => by rw [zI_at, if_neg (by omega)]) ⟨0, by omega, by rw [zI_at, if_pos ⟨rfl, rfl⟩]; rfl, by rw [zI_at, if_pos ⟨rfl, rfl⟩]; rfl, fun i hi => by omega⟩
def zPop (s : Nat) : Nat := zCt (fun i => s.testBit i) 5
theorem zPop_b {s : Nat} (h : s < 32) : nI s = zBits (fun i => s.testBit i) 5 := by
  have key : ∀ s, s < 32 → nI s = zBits (fun i => s.testBit i) 5 := by decide +kernel
  exact key s h
theorem m_pop {s : Nat} (h : s < 32) : fX12_bits (nI s) = some (nI (zPop s)) := by
  rw [zPop_b h, m_bitsB _ (by omega)]; rfl
theorem c_pop {s : Nat} (h : s < 32) : fJ6_bitCount_0f7a4 (nI s) = some (nI (zPop s)) := by
  rw [zPop_b h, c_bitcB _ (by omega)]; rfl
theorem zPop_le (s : Nat) : zPop s ≤ 5 := zCt_le _ 5
theorem zPop_and {s t : Nat} (hs : s < 32) (ht : t < 32) : zPop (s &&& t) ≤ zPop s := by
  have key : ∀ s, s < 32 → ∀ t, t < 32 → zPop (s &&& t) ≤ zPop s := by decide +kernel
  exact key s hs t ht
def zSz (a b : Nat) : Nat := if b ≤ 2 * a then 2 * a - b else b - 2 * a
theorem zSz_ok {a b : Nat} (ha : a ≤ 5) (hb : b ≤ 5) : (if (0 : Int32) ≤ (2 : Int32) * nI a - nI b then (2 : Int32) * nI a - nI b else 0 - ((2 : Int32) * nI a - nI b)) = nI (zSz a b) ∧ fX12_size ((2 : Int32) * nI a - nI b) = some (nI (zSz a b)) := by
  have key : ∀ a, a < 6 → ∀ b, b < 6 → (if (0 : Int32) ≤ (2 : Int32) * nI a - nI b then (2 : Int32) * nI a - nI b else 0 - ((2 : Int32) * nI a - nI b)) = nI (zSz a b) ∧ fX12_size ((2 : Int32) * nI a - nI b) = some (nI (zSz a b)) := by decide +kernel
  exact key a (by omega) b (by omega)
theorem zFirst (P : Nat → Prop) : ∀ k, (∀ j, j < k → P j) ∨ ∃ n, n < k ∧ (∀ j, j < n → P j) ∧ ¬ P n := by
  intro k
  induction k with
  | zero => exact Or.inl (fun j hj => by omega)
  | succ k ih =>
    rcases ih with h | ⟨n, h1, h2, h3⟩
    · by_cases q : P k
      · exact Or.inl (fun j hj => by
          by_cases e : j = k
          · subst e; exact q
          · exact h j (by omega))
      · exact Or.inr ⟨k, by omega, h, q⟩
    · exact Or.inr ⟨n, by omega, h2, h3⟩
def zAk (g : Nat → Nat) : Nat → Int32 × Int32 → Int32 × Int32 := fun p x => if x.2 ≤ nI (g p) then x else (nI p, nI (g p))
theorem zAk_at {g : Nat → Nat} {p z : Nat} (h : g p = z) (x : Int32 × Int32) : zAk g p x = if x.2 ≤ nI z then x else (nI p, nI z) := by
  subst h; rfl
theorem zAk_same {g : Nat → Nat} (hg : ∀ p, g p ≤ 5) (x y : Int32) : ∀ n, zFo (zAk g) (x, 6) (n + 1) = zFo (zAk g) (y, 100000) (n + 1) := by
  intro n
  induction n with
  | zero =>
    show zAk g 0 (x, 6) = zAk g 0 (y, 100000)
    unfold zAk
    have h0 := hg 0
    rw [if_neg (show ¬ (6 : Int32) ≤ nI (g 0) from fun q => by have := (nI_leI (a := 6) (by omega) (by omega)).mp q; omega), if_neg (show ¬ (100000 : Int32) ≤ nI (g 0) from fun q => by have := (nI_leI (a := 100000) (by omega) (by omega)).mp q; omega)]
  | succ n ih =>
    rw [zFo, ih]
    rfl
theorem zI_self (S : zSt) (k j : Nat) : zI S k j (S.1 k j) = S := by
  rw [zI_put]
  have : upd (S.1 k) j (S.1 k j) = S.1 k := by
    funext i
    by_cases h : i = j
    · subst h; rw [pk_us]
    · rw [pk_un h]
  rw [this, zPut_id]
theorem zI_again (S : zSt) (k j : Nat) (x y : Int32) : zI (zI S k j x) k j y = zI S k j y := by
  rw [zI_put (zI S k j x), zI_put S k j x, zPut_eq, zPut_put, zI_put S k j y]
  congr 1
  funext i
  by_cases h : i = j
  · subst h; rw [pk_us, pk_us]
  · rw [pk_un h, pk_un h, pk_un h]
section Fits
variable {S T : zSt}
/-- how evenly plant p's sight parts the set u -/
def aEven (m : Nat → Int32) (u p : Nat) : Nat := zSz (zPop (u &&& (aSees m p 0).toNatClampNeg)) (zPop u)
theorem aEven_le {m : Nat → Int32} {u : Nat} (hu : u < 32) {p : Nat} (hs : (aSees m p 0).toNatClampNeg < 32) : aEven m u p ≤ 5 := by
  unfold aEven zSz
  have h1 := zPop_le u
  have h2 := zPop_and hu hs
  split <;> omega
theorem c_plantToAsk {m : Nat → Int32} (hh : Rh S.1 4 m) (hw : WFh m) (hl : Rl S.1 14 m) (hv : WFl m) {u : Nat} (hu : u < 32) : fX2_plantToAsk S (nI u) = some (zFo (zAk (fun p => if p < kP m then aEven m u p else 0)) (-1, 6) (kP m)).1 := by
  have h6 := hw.2.1.2
  unfold fX2_plantToAsk
  refine zLp_run (body := fX2_plantToAsk_8 S (nI u)) (fun i => ((zFo (zAk (fun p => if p < kP m then aEven m u p else 0)) (-1, 6) i).1, (zFo (zAk (fun p => if p < kP m then aEven m u p else 0)) (-1, 6) i).2, nI i)) (kP m) 2000 (fun i hi => ?_) ?_ (by omega)
  · obtain ⟨s, hs, es⟩ := aSees_lt hw (hv.2.2.1 i hi).1 0
    have e5 : aEven m u i = zSz (zPop (u &&& s)) (zPop u) := by unfold aEven; rw [es, nI_clamp (by omega)]
    unfold fX2_plantToAsk_8 fX2_plantToAsk_62
    dsimp only
    rw [c_plants (b := 14) hh, zBd_s, hw.2.1.1, zle_f hi (by omega), c_seenBy (b := 14) hh hw hl hv hi, zBd_s, es, nI_and, c_pop (Nat.lt_of_le_of_lt Nat.and_le_left hu), zBd_s, c_pop hu, zBd_s, (zSz_ok (zPop_le _) (zPop_le _)).1, zLt_s, zLt_s, zLt_s, nI_1, zFo]
    obtain ⟨X, hX⟩ : ∃ X, X = zFo (zAk (fun p => if p < kP m then aEven m u p else 0)) (-1, 6) i := ⟨_, rfl⟩
    rw [← hX]
    rw [zAk_at (g := fun p => if p < kP m then aEven m u p else 0) (show (if i < kP m then aEven m u i else 0) = zSz (zPop (u &&& s)) (zPop u) by rw [if_pos hi, e5])]
    by_cases q : X.2 ≤ nI (zSz (zPop (u &&& s)) (zPop u))
    · rw [zBr_p q, if_pos q]
    · rw [zBr_q q, if_neg q]
  · unfold fX2_plantToAsk_8
    dsimp only
    rw [c_plants (b := 14) hh, zBd_s, hw.2.1.1, zle_t (by omega) (by omega), zXr_s]
theorem m_fitsAsk (hw : WFh (T.1 2)) (hv : WFl (T.1 2)) {u : Nat} (hu : u < 32) : zLp (fX12_fits_157 (nI u)) 2000 (T, (100000 : Int32), (0 : Int32)) = some (nI u, zI T 0 25 (zFo (zAk (fun p => if p < kP (T.1 2) then aEven (T.1 2) u p else 0)) (T.1 0 25, 100000) (kP (T.1 2))).1) := by
  have h6 := hw.2.1.2
  have key := zLp_run (body := fX12_fits_157 (nI u)) (fun i => (zI T 0 25 (zFo (zAk (fun p => if p < kP (T.1 2) then aEven (T.1 2) u p else 0)) (T.1 0 25, 100000) i).1, (zFo (zAk (fun p => if p < kP (T.1 2) then aEven (T.1 2) u p else 0)) (T.1 0 25, 100000) i).2, nI i)) (r := (nI u, zI T 0 25 (zFo (zAk (fun p => if p < kP (T.1 2) then aEven (T.1 2) u p else 0)) (T.1 0 25, 100000) (kP (T.1 2))).1)) (kP (T.1 2)) 2000 (fun i hi => ?_) ?_ (by omega)
  · have e0 : (zI T 0 25 (zFo (zAk (fun p => if p < kP (T.1 2) then aEven (T.1 2) u p else 0)) (T.1 0 25, 100000) 0).1, (zFo (zAk (fun p => if p < kP (T.1 2) then aEven (T.1 2) u p else 0)) (T.1 0 25, (100000 : Int32)) 0).2, nI 0) = (T, (100000 : Int32), (0 : Int32)) := by
      show (zI T 0 25 (T.1 0 25), (100000 : Int32), (0 : Int32)) = _
      rw [zI_self]
    rw [e0] at key
    exact key
  · obtain ⟨s, hs, es⟩ := aSees_lt hw (hv.2.2.1 i hi).1 0
    have e5 : aEven (T.1 2) u i = zSz (zPop (u &&& s)) (zPop u) := by unfold aEven; rw [es, nI_clamp (by omega)]
    rw [zFo]
    obtain ⟨X, hX⟩ : ∃ X, X = zFo (zAk (fun p => if p < kP (T.1 2) then aEven (T.1 2) u p else 0)) (T.1 0 25, 100000) i := ⟨_, rfl⟩
    rw [← hX]
    have t2 : (zI T 0 25 X.1).1 2 = T.1 2 := zI_ne (by omega)
    have e6 := m_seesOf (T := zI T 0 25 X.1) (by rw [t2]; exact hw) (by rw [t2]; exact hv) (p := i) (by rw [t2]; exact hi) 0
    rw [t2, es] at e6
    unfold fX12_fits_157 fX12_fits_212
    dsimp only
    rw [zg_1_406, zGd_t, zt_1, t2, hw.2.1.1, zle_f hi (by omega), e6, zBd_s, nI_and, m_pop (Nat.lt_of_le_of_lt Nat.and_le_left hu), zBd_s, m_pop hu, zBd_s, (zSz_ok (zPop_le _) (zPop_le _)).2, zBd_s, zLt_s, zLt_s, zLt_s, nI_1, zI_again]
    rw [zAk_at (g := fun p => if p < kP (T.1 2) then aEven (T.1 2) u p else 0) (show (if i < kP (T.1 2) then aEven (T.1 2) u i else 0) = zSz (zPop (u &&& s)) (zPop u) by rw [if_pos hi, e5])]
    by_cases q : X.2 ≤ nI (zSz (zPop (u &&& s)) (zPop u))
    · rw [zBr_q (Int32.not_lt.mpr q), if_pos q]
    · rw [zBr_p (Int32.not_le.mp q), if_neg q]
  · unfold fX12_fits_157
    dsimp only
    rw [zg_1_406, zGd_t, zt_1, zI_ne (show (2 : Nat) ≠ 0 by omega), hw.2.1.1, zle_t (by omega) (by omega), zXr_s]
end Fits
