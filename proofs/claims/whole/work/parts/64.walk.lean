/-! walks: what is left to be come to, how far it is -/
def lfM (lf k : Nat) : Nat := lf &&& (31 ^^^ 2 ^ k)
theorem lfM_lt {lf k : Nat} (h : lf < 32) : lfM lf k < 32 := Nat.lt_of_le_of_lt Nat.and_le_left h
set_option maxRecDepth 100000 in
theorem lfM_in {lf k : Nat} (h : lf < 32) (hk : k < 5) : (lf.testBit k = true → zPop (lfM lf k) + 1 = zPop lf) ∧ (lf.testBit k = false → lfM lf k = lf) := by
  have key : ∀ lf, lf < 32 → ∀ k, k < 5 → (lf.testBit k = true → zPop (lfM lf k) + 1 = zPop lf) ∧ (lf.testBit k = false → lfM lf k = lf) := by decide +kernel
  exact key lf h k hk
theorem zPop_0 {lf : Nat} (h : lf < 32) (h0 : zPop lf = 0) : lf = 0 := by
  have key : ∀ lf, lf < 32 → zPop lf = 0 → lf = 0 := by decide +kernel
  exact key lf h h0
def eB (adj : Nat → Nat → Bool) : Nat → Nat → Nat → Bool
  | 0, _, lf => decide (lf = 0)
  | r + 1, a, lf => eB adj r a lf || (List.range 5).any (fun k => adj a k && eB adj r k (lfM lf k))
section Walk
variable {adj : Nat → Nat → Bool}
theorem eB_s {r a lf : Nat} (h : eB adj r a lf = true) : eB adj (r + 1) a lf = true := by
  rw [eB, h]; rfl
theorem eB_le {a lf : Nat} {r s : Nat} (h : eB adj r a lf = true) (hs : r ≤ s) : eB adj s a lf = true := by
  obtain ⟨d, rfl⟩ : ∃ d, s = r + d := ⟨s - r, by omega⟩
  clear hs
  induction d with
  | zero => exact h
  | succ d ih => exact eB_s ih
theorem eB_step {r a k lf : Nat} (h1 : adj a k = true) (hk : k < 5) (h : eB adj r k (lfM lf k) = true) : eB adj (r + 1) a lf = true := by
  rw [eB, Bool.or_eq_true]
  refine Or.inr ?_
  rw [List.any_eq_true]
  exact ⟨k, List.mem_range.mpr hk, by rw [h1, h]; rfl⟩
theorem eB_inv {r a lf : Nat} (h : eB adj (r + 1) a lf = true) : eB adj r a lf = true ∨ ∃ k, k < 5 ∧ adj a k = true ∧ eB adj r k (lfM lf k) = true := by
  rw [eB, Bool.or_eq_true, List.any_eq_true] at h
  rcases h with h | ⟨k, hk, h⟩
  · exact Or.inl h
  · rw [Bool.and_eq_true] at h
    exact Or.inr ⟨k, List.mem_range.mp hk, h.1, h.2⟩
theorem zCt_mono {P Q : Nat → Bool} : ∀ {n : Nat}, (∀ i, i < n → P i = true → Q i = true) → zCt P n ≤ zCt Q n
  | 0, _ => Nat.le_refl _
  | n + 1, h => by
    have ih := zCt_mono (P := P) (Q := Q) (n := n) (fun i hi => h i (by omega))
    rw [zCt, zCt]
    by_cases p : P n = true
    · rw [if_pos p, if_pos (h n (by omega) p)]; omega
    · rw [if_neg p]; omega
theorem zCt_mono_lt {P Q : Nat → Bool} : ∀ {n : Nat}, (∀ i, i < n → P i = true → Q i = true) → (∃ i, i < n ∧ Q i = true ∧ ¬ P i = true) → zCt P n < zCt Q n
  | 0, _, ⟨i, hi, _⟩ => by omega
  | n + 1, h, ⟨i, hi, q1, q2⟩ => by
    rw [zCt, zCt]
    by_cases e : i = n
    · subst e
      have := zCt_mono (P := P) (Q := Q) (n := i) (fun j hj => h j (by omega))
      rw [if_pos q1, if_neg q2]; omega
    · have ih := zCt_mono_lt (P := P) (Q := Q) (n := n) (fun j hj => h j (by omega)) ⟨i, by omega, q1, q2⟩
      by_cases p : P n = true
      · rw [if_pos p, if_pos (h n (by omega) p)]; omega
      · rw [if_neg p]; omega
theorem eB_bound : ∀ n lf, lf < 32 → zPop lf = n → ∀ r a, a < 5 → eB adj r a lf = true → eB adj (5 * n) a lf = true := by
  intro n
  induction n with
  | zero =>
    intro lf h1 h2 r a ha hr
    have := zPop_0 h1 h2
    subst this
    rfl
  | succ n ih =>
    intro lf h1 h2
    have G : ∀ r l k, k < 5 → adj l k = true → lf.testBit k = true → eB adj r k (lfM lf k) = true → eB adj (5 * n + 1) l lf = true := by
      intro r l k hk h3 h4 h5
      have := (lfM_in h1 hk).1 h4
      exact eB_step h3 hk (ih (lfM lf k) (lfM_lt h1) (by omega) r k hk h5)
    have up : ∀ t l, eB adj (5 * n + 1) l lf = true → eB adj (5 * n + 1 + t) l lf = true := fun t l h => eB_le h (by omega)
    have fwd : ∀ t s l, l < 5 → (∀ k, k < 5 → eB adj (5 * n + 1 + s) k lf = true → eB adj (5 * n + 1 + t) k lf = true) → eB adj (5 * n + 1 + (s + 1)) l lf = true → (∀ k, k < 5 → eB adj (5 * n + 1 + (t + 1)) k lf = true → eB adj (5 * n + 1 + t) k lf = true) → eB adj (5 * n + 1 + t) l lf = true := by
      intro t s l hl h3 h4 h5
      rcases eB_inv (r := 5 * n + 1 + s) h4 with h | ⟨k, hk, h6, h7⟩
      · exact h3 l hl h
      · by_cases hb : lf.testBit k = true
        · exact up t l (G _ l k hk h6 hb h7)
        · have e := (lfM_in h1 hk).2 (Bool.not_eq_true _ |>.mp hb)
          rw [e] at h7
          have h8 := h3 k hk h7
          exact h5 l hl (eB_step (r := 5 * n + 1 + t) h6 hk (by rw [e]; exact h8))
    have stab : ∀ t, (∀ k, k < 5 → eB adj (5 * n + 1 + (t + 1)) k lf = true → eB adj (5 * n + 1 + t) k lf = true) → ∀ s l, l < 5 → eB adj (5 * n + 1 + s) l lf = true → eB adj (5 * n + 1 + t) l lf = true := by
      intro t ht s
      induction s with
      | zero => exact fun l _ h => up t l h
      | succ s is => exact fun l hl h => fwd t s l hl is h ht
    have some4 : ∃ t, t ≤ 4 ∧ ∀ k, k < 5 → eB adj (5 * n + 1 + (t + 1)) k lf = true → eB adj (5 * n + 1 + t) k lf = true := by
      obtain ⟨Z, hZ⟩ : ∃ Z : Nat → Nat, ∀ t, Z t = zCt (fun k => eB adj (5 * n + 1 + t) k lf) 5 := ⟨_, fun _ => rfl⟩
      have grow : ∀ t, ¬ (∀ k, k < 5 → eB adj (5 * n + 1 + (t + 1)) k lf = true → eB adj (5 * n + 1 + t) k lf = true) → Z t < Z (t + 1) := by
        intro t ht
        rw [hZ, hZ]
        refine zCt_mono_lt (fun i hi h => eB_le h (by omega)) ?_
        refine Classical.byContradiction (fun q => ht (fun k hk h => Classical.byContradiction (fun q2 => q ⟨k, hk, h, q2⟩)))
      refine Classical.byContradiction (fun q => ?_)
      have ns : ∀ t, t ≤ 4 → ¬ (∀ k, k < 5 → eB adj (5 * n + 1 + (t + 1)) k lf = true → eB adj (5 * n + 1 + t) k lf = true) := fun t ht h => q ⟨t, ht, h⟩
      have g0 : Z 0 < Z 1 := grow 0 (ns 0 (by omega))
      have g1 : Z 1 < Z 2 := grow 1 (ns 1 (by omega))
      have g2 : Z 2 < Z 3 := grow 2 (ns 2 (by omega))
      have g3 : Z 3 < Z 4 := grow 3 (ns 3 (by omega))
      have g4 : Z 4 < Z 5 := grow 4 (ns 4 (by omega))
      have top := zCt_le (fun k => eB adj (5 * n + 1 + 5) k lf) 5
      rw [← hZ] at top
      have bot : Z 0 = 0 := by omega
      rw [hZ] at bot
      have none0 : ∀ k, k < 5 → ¬ eB adj (5 * n + 1 + 0) k lf = true := fun k hk h => by
        have := zCt_mono_lt (P := fun _ => false) (Q := fun k => eB adj (5 * n + 1 + 0) k lf) (n := 5) (fun i _ h => by cases h) ⟨k, hk, h, by decide⟩
        omega
      refine ns 0 (by omega) (fun l hl h => ?_)
      rcases eB_inv (r := 5 * n + 1 + 0) h with h | ⟨k, hk, h6, h7⟩
      · exact h
      · by_cases hb : lf.testBit k = true
        · exact G _ l k hk h6 hb h7
        · rw [(lfM_in h1 hk).2 (Bool.not_eq_true _ |>.mp hb)] at h7
          exact absurd h7 (none0 k hk)
    obtain ⟨t, ht, hs⟩ := some4
    intro r a ha hr
    have := stab t hs r a ha (eB_le hr (by omega))
    exact eB_le this (by omega)
theorem eB_25 {r a lf : Nat} (hlf : lf < 32) (ha : a < 5) (h : eB adj r a lf = true) : eB adj 25 a lf = true := eB_le (eB_bound _ lf hlf rfl r a ha h) (by have := zPop_le lf; omega)
def wOk (adj : Nat → Nat → Bool) : Nat → List Nat → Prop
  | _, [] => True
  | a, k :: w => adj a k = true ∧ wOk adj k w
def wAt : Nat → List Nat → Nat
  | a, [] => a
  | _, k :: w => wAt k w
def wLf : Nat → List Nat → Nat
  | lf, [] => lf
  | lf, k :: w => wLf (lfM lf k) w
def wBn : Nat → List Nat → Nat
  | b, [] => b
  | b, k :: w => wBn (b ||| 2 ^ k) w
def wC : Nat → List Nat → Nat
  | c, [] => c
  | c, k :: w => wC (8 * c + k) w
theorem wOk_app : ∀ (w : List Nat) (a l : Nat), wOk adj a (w ++ [l]) ↔ wOk adj a w ∧ adj (wAt a w) l = true
  | [], a, l => by simp [wOk, wAt]
  | k :: w, a, l => by
    have ih := wOk_app w k l
    simp only [List.cons_append, wOk, wAt, ih, and_assoc]
theorem wAt_app : ∀ (w : List Nat) (a l : Nat), wAt a (w ++ [l]) = l
  | [], a, l => rfl
  | k :: w, a, l => wAt_app w k l
theorem wBn_app : ∀ (w : List Nat) (b l : Nat), wBn b (w ++ [l]) = wBn b w ||| 2 ^ l
  | [], b, l => rfl
  | k :: w, b, l => wBn_app w _ l
theorem wC_app : ∀ (w : List Nat) (c l : Nat), wC c (w ++ [l]) = 8 * wC c w + l
  | [], c, l => rfl
  | k :: w, c, l => wC_app w _ l
theorem wC_lo : ∀ (w : List Nat) (c : Nat), c * 8 ^ w.length ≤ wC c w
  | [], c => by simp [wC]
  | k :: w, c => by
    have ih := wC_lo w (8 * c + k)
    rw [wC, List.length_cons, Nat.pow_succ]
    have : c * (8 ^ w.length * 8) = 8 * c * 8 ^ w.length := by rw [Nat.mul_comm (8 ^ w.length) 8, ← Nat.mul_assoc, Nat.mul_comm c 8]
    rw [this]
    exact Nat.le_trans (Nat.mul_le_mul_right _ (by omega)) ih
def aOk (adj : Nat → Nat → Bool) : Prop := ∀ a k, adj a k = true → k < 5
theorem wC_hi (hadj : aOk adj) : ∀ (w : List Nat) (a c : Nat), wOk adj a w → wC c w < (c + 1) * 8 ^ w.length
  | [], a, c, _ => by simp [wC]
  | k :: w, a, c, h => by
    have ih := wC_hi hadj w k (8 * c + k) h.2
    have hk := hadj a k h.1
    rw [wC, List.length_cons, Nat.pow_succ]
    have : (c + 1) * (8 ^ w.length * 8) = 8 * (c + 1) * 8 ^ w.length := by rw [Nat.mul_comm (8 ^ w.length) 8, ← Nat.mul_assoc, Nat.mul_comm (c + 1) 8]
    rw [this]
    exact Nat.lt_of_lt_of_le ih (Nat.mul_le_mul_right _ (by omega))
theorem wC_inj (hadj : aOk adj) : ∀ (w v : List Nat) (a b c d : Nat), w.length = v.length → wOk adj a w → wOk adj b v → wC c w = wC d v → c = d ∧ w = v
  | [], [], _, _, _, _, _, _, _, h => ⟨h, rfl⟩
  | [], _ :: _, _, _, _, _, hl, _, _, _ => by simp at hl
  | _ :: _, [], _, _, _, _, hl, _, _, _ => by simp at hl
  | k :: w, j :: v, a, b, c, d, hl, h1, h2, h => by
    have hk := hadj a k h1.1
    have hj := hadj b j h2.1
    obtain ⟨e1, e2⟩ := wC_inj hadj w v k j (8 * c + k) (8 * d + j) (by simpa using hl) h1.2 h2.2 h
    exact ⟨by omega, by rw [e2, show k = j by omega]⟩
def gW (adj : Nat → Nat → Bool) (a lf : Nat) (w : List Nat) : Prop := wOk adj a w ∧ wLf lf w = 0
theorem eB_of (hadj : aOk adj) : ∀ (w : List Nat) (a lf : Nat), gW adj a lf w → eB adj w.length a lf = true
  | [], a, lf, h => by
    have : lf = 0 := h.2
    subst this
    rfl
  | k :: w, a, lf, h => eB_step h.1.1 (hadj a k h.1.1) (eB_of hadj w k (lfM lf k) ⟨h.1.2, h.2⟩)
theorem of_eB : ∀ (r a lf : Nat), eB adj r a lf = true → ∃ w, gW adj a lf w
  | 0, a, lf, h => ⟨[], trivial, of_decide_eq_true h⟩
  | r + 1, a, lf, h => by
    rcases eB_inv h with h | ⟨k, hk, h1, h2⟩
    · exact of_eB r a lf h
    · obtain ⟨w, w1, w2⟩ := of_eB r k (lfM lf k) h2
      exact ⟨k :: w, ⟨h1, w1⟩, w2⟩
set_option maxRecDepth 100000 in
theorem wLf_bn (hadj : aOk adj) : ∀ (w : List Nat) (a b nd : Nat), wOk adj a w → b < 32 → nd < 32 → wBn b w < 32 ∧ nd &&& (31 ^^^ wBn b w) = wLf (nd &&& (31 ^^^ b)) w
  | [], a, b, nd, _, hb, hn => ⟨hb, rfl⟩
  | k :: w, a, b, nd, h, hb, hn => by
    have hk := hadj a k h.1
    have key : ∀ k, k < 5 → ∀ b, b < 32 → b ||| 2 ^ k < 32 ∧ ∀ nd, nd < 32 → nd &&& (31 ^^^ (b ||| 2 ^ k)) = lfM (nd &&& (31 ^^^ b)) k := by decide +kernel
    obtain ⟨k1, k2⟩ := key k hk b hb
    have ih := wLf_bn hadj w k (b ||| 2 ^ k) nd h.2 k1 hn
    rw [k2 nd hn] at ih
    exact ih
/-- a table of steps that nothing more can mend -/
def tOk (adj : Nat → Nat → Bool) (t : Nat → Nat → Nat) : Prop := (∀ l, l < 5 → t l 0 = 0) ∧ (∀ l lf, l < 5 → lf < 32 → t l lf < 100000 → eB adj (t l lf) l lf = true) ∧ ∀ l k lf, l < 5 → adj l k = true → 1 ≤ lf → lf < 32 → t l lf ≤ t k (lfM lf k) + 1
theorem tOk_le (hadj : aOk adj) {t : Nat → Nat → Nat} (ht : tOk adj t) : ∀ r l lf, l < 5 → lf < 32 → eB adj r l lf = true → t l lf ≤ r
  | 0, l, lf, hl, hf, h => by
    have : lf = 0 := of_decide_eq_true h
    subst this
    rw [ht.1 l hl]; omega
  | r + 1, l, lf, hl, hf, h => by
    rcases eB_inv h with h | ⟨k, hk, h1, h2⟩
    · have := tOk_le hadj ht r l lf hl hf h
      omega
    · have ih := tOk_le hadj ht r k (lfM lf k) hk (lfM_lt hf) h2
      by_cases h0 : lf = 0
      · subst h0; rw [ht.1 l hl]; omega
      · have := ht.2.2 l k lf hl h1 (by omega) hf
        omega
def lst (P : Nat → Bool) : Nat := if P 0 = true then 0 else if P 1 = true then 1 else if P 2 = true then 2 else if P 3 = true then 3 else 4
theorem lst_ok {P : Nat → Bool} (h : ∃ k, k < 5 ∧ P k = true) : P (lst P) = true ∧ lst P < 5 ∧ ∀ j, j < lst P → P j = false := by
  obtain ⟨k, hk, h⟩ := h
  unfold lst
  by_cases p0 : P 0 = true
  · rw [if_pos p0]; exact ⟨p0, by omega, fun j hj => by omega⟩
  rw [if_neg p0]
  have n0 : P 0 = false := Bool.not_eq_true _ |>.mp p0
  by_cases p1 : P 1 = true
  · rw [if_pos p1]; exact ⟨p1, by omega, fun j hj => by rw [show j = 0 by omega]; exact n0⟩
  rw [if_neg p1]
  have n1 : P 1 = false := Bool.not_eq_true _ |>.mp p1
  by_cases p2 : P 2 = true
  · rw [if_pos p2]
    refine ⟨p2, by omega, fun j hj => ?_⟩
    rcases (show j = 0 ∨ j = 1 by omega) with rfl | rfl
    · exact n0
    · exact n1
  rw [if_neg p2]
  have n2 : P 2 = false := Bool.not_eq_true _ |>.mp p2
  by_cases p3 : P 3 = true
  · rw [if_pos p3]
    refine ⟨p3, by omega, fun j hj => ?_⟩
    rcases (show j = 0 ∨ j = 1 ∨ j = 2 by omega) with rfl | rfl | rfl
    · exact n0
    · exact n1
    · exact n2
  rw [if_neg p3]
  have n3 : P 3 = false := Bool.not_eq_true _ |>.mp p3
  have k4 : k = 4 := by
    rcases (show k = 0 ∨ k = 1 ∨ k = 2 ∨ k = 3 ∨ k = 4 by omega) with rfl | rfl | rfl | rfl | rfl
    · exact absurd h p0
    · exact absurd h p1
    · exact absurd h p2
    · exact absurd h p3
    · rfl
  subst k4
  refine ⟨h, by omega, fun j hj => ?_⟩
  rcases (show j = 0 ∨ j = 1 ∨ j = 2 ∨ j = 3 by omega) with rfl | rfl | rfl | rfl
  · exact n0
  · exact n1
  · exact n2
  · exact n3
def gK (adj : Nat → Nat → Bool) (t : Nat → Nat → Nat) (n a lf : Nat) : Nat := lst (fun k => adj a k && decide (t k (lfM lf k) = n))
def gM (adj : Nat → Nat → Bool) (t : Nat → Nat → Nat) : Nat → Nat → Nat → List Nat
  | 0, _, _ => []
  | n + 1, a, lf => gK adj t n a lf :: gM adj t n (gK adj t n a lf) (lfM lf (gK adj t n a lf))
theorem gM_len (t : Nat → Nat → Nat) : ∀ n a lf, (gM adj t n a lf).length = n
  | 0, _, _ => rfl
  | n + 1, a, lf => by rw [gM, List.length_cons, gM_len t n]
theorem gK_ok (hadj : aOk adj) {t : Nat → Nat → Nat} (ht : tOk adj t) {n a lf : Nat} (ha : a < 5) (hf : lf < 32) (hn : t a lf = n + 1) (hN : n + 1 < 100000) : adj a (gK adj t n a lf) = true ∧ t (gK adj t n a lf) (lfM lf (gK adj t n a lf)) = n ∧ gK adj t n a lf < 5 ∧ ∀ j, j < gK adj t n a lf → ¬ (adj a j = true ∧ t j (lfM lf j) = n) := by
  have h0 : ∃ k, k < 5 ∧ (fun k => adj a k && decide (t k (lfM lf k) = n)) k = true := by
    have e := ht.2.1 a lf ha hf (by omega)
    rw [hn] at e
    have lf1 : 1 ≤ lf := by
      rcases Nat.eq_zero_or_pos lf with h | h
      · subst h; rw [ht.1 a ha] at hn; omega
      · exact h
    rcases eB_inv e with e | ⟨k, hk, h1, h2⟩
    · have := tOk_le hadj ht n a lf ha hf e
      omega
    · refine ⟨k, hk, ?_⟩
      have g1 := tOk_le hadj ht n k (lfM lf k) hk (lfM_lt hf) h2
      have g2 := ht.2.2 a k lf ha h1 lf1 hf
      have g3 : t k (lfM lf k) = n := by omega
      show (adj a k && decide (t k (lfM lf k) = n)) = true
      rw [h1, decide_eq_true g3]; rfl
  obtain ⟨h1, h2, h3⟩ := lst_ok h0
  have h1' : (adj a (gK adj t n a lf) && decide (t (gK adj t n a lf) (lfM lf (gK adj t n a lf)) = n)) = true := h1
  rw [Bool.and_eq_true, decide_eq_true_eq] at h1'
  refine ⟨h1'.1, h1'.2, h2, fun j hj q => ?_⟩
  have h4 : (adj a j && decide (t j (lfM lf j) = n)) = false := h3 j hj
  rw [q.1, decide_eq_true q.2] at h4
  cases h4
theorem gM_ok (hadj : aOk adj) {t : Nat → Nat → Nat} (ht : tOk adj t) : ∀ n a lf, a < 5 → lf < 32 → t a lf = n → n < 100000 → gW adj a lf (gM adj t n a lf) ∧ ∀ w c, gW adj a lf w → w.length = n → wC c (gM adj t n a lf) ≤ wC c w
  | 0, a, lf, ha, hf, hn, _ => by
    have e := ht.2.1 a lf ha hf (by omega)
    rw [hn] at e
    refine ⟨⟨trivial, of_decide_eq_true e⟩, fun w c hw hl => ?_⟩
    have : w = [] := List.length_eq_zero_iff.mp hl
    subst this
    exact Nat.le_refl _
  | n + 1, a, lf, ha, hf, hn, hN => by
    obtain ⟨k1, k2, k3, k4⟩ := gK_ok hadj ht ha hf hn hN
    obtain ⟨i1, i2⟩ := gM_ok hadj ht n (gK adj t n a lf) (lfM lf (gK adj t n a lf)) k3 (lfM_lt hf) k2 (by omega)
    refine ⟨⟨⟨k1, i1.1⟩, i1.2⟩, fun w c hw hl => ?_⟩
    cases w with
    | nil => simp at hl
    | cons k w =>
      have hk := hadj a k hw.1.1
      have hw' : gW adj k (lfM lf k) w := ⟨hw.1.2, hw.2⟩
      have hl' : w.length = n := by simpa using hl
      rw [gM, wC, wC]
      by_cases e : k = gK adj t n a lf
      · subst e
        exact i2 w _ hw' hl'
      · have ek : t k (lfM lf k) = n := by
          have g1 := tOk_le hadj ht n k (lfM lf k) hk (lfM_lt hf) (by rw [← hl']; exact eB_of hadj w k _ hw')
          have lf1 : 1 ≤ lf := by
            rcases Nat.eq_zero_or_pos lf with h | h
            · subst h; rw [ht.1 a ha] at hn; omega
            · exact h
          have g2 := ht.2.2 a k lf ha hw.1.1 lf1 hf
          omega
        have lt : gK adj t n a lf < k := by
          rcases Nat.lt_trichotomy k (gK adj t n a lf) with q | q | q
          · exact absurd ⟨hw.1.1, ek⟩ (k4 k q)
          · exact absurd q e
          · exact q
        have b1 := wC_hi hadj (gM adj t n (gK adj t n a lf) (lfM lf (gK adj t n a lf))) (gK adj t n a lf) (8 * c + gK adj t n a lf) i1.1
        have b2 := wC_lo w (8 * c + k)
        rw [gM_len] at b1
        rw [hl'] at b2
        have b3 : (8 * c + gK adj t n a lf + 1) * 8 ^ n ≤ (8 * c + k) * 8 ^ n := Nat.mul_le_mul_right _ (by omega)
        omega
/-- of all goal walks the greedy one has the least code -/
theorem gM_least (hadj : aOk adj) {t : Nat → Nat → Nat} (ht : tOk adj t) {a lf : Nat} (ha : a < 5) (hf : lf < 32) (hN : t a lf < 100000) {w : List Nat} (hw : gW adj a lf w) : wC 1 (gM adj t (t a lf) a lf) ≤ wC 1 w := by
  obtain ⟨i1, i2⟩ := gM_ok hadj ht (t a lf) a lf ha hf rfl hN
  have g1 := tOk_le hadj ht w.length a lf ha hf (eB_of hadj w a lf hw)
  by_cases e : w.length = t a lf
  · exact i2 w 1 hw e
  · have b1 := wC_hi hadj (gM adj t (t a lf) a lf) a 1 i1.1
    have b2 := wC_lo w 1
    rw [gM_len] at b1
    have b3 : 8 ^ (t a lf + 1) ≤ 8 ^ w.length := Nat.pow_le_pow_right (by omega) (by omega)
    rw [Nat.pow_succ] at b3
    omega
theorem wC_eq (hadj : aOk adj) {a b : Nat} {w v : List Nat} (hw : wOk adj a w) (hv : wOk adj b v) (h : wC 1 w = wC 1 v) : w = v := by
  refine (wC_inj hadj w v a b 1 1 ?_ hw hv h).2
  have b1 := wC_hi hadj w a 1 hw
  have b2 := wC_lo w 1
  have b3 := wC_hi hadj v b 1 hv
  have b4 := wC_lo v 1
  rcases Nat.lt_trichotomy w.length v.length with q | q | q
  · have : 8 ^ (w.length + 1) ≤ 8 ^ v.length := Nat.pow_le_pow_right (by omega) q
    rw [Nat.pow_succ] at this
    omega
  · exact q
  · have : 8 ^ (v.length + 1) ≤ 8 ^ w.length := Nat.pow_le_pow_right (by omega) q
    rw [Nat.pow_succ] at this
    omega
end Walk
