/-! cover -/
theorem aBit_tb {s l : Nat} (hs : s < 32) (hl : l < 5) : aBit (nI s) l = s.testBit l := by
  have key : ∀ s, s < 32 → ∀ l, l < 5 → aBit (nI s) l = s.testBit l := by decide +kernel
  exact key s hs l hl
def aR (m : Nat → Int32) (l : Nat) : Nat := (m (6 + l)).toNatClampNeg ||| 2 ^ l
theorem aR_v {m : Nat → Int32} (hw : WFh m) {l : Nat} (hl : l < 5) : aRch m l = nI (aR m l) := by
  have h5 := hw.1.2
  obtain ⟨d, hd, ed⟩ := hw.2.2.2.2.2.2.1 l hl
  have hd5 : d < 2 ^ 5 := Nat.lt_of_lt_of_le hd (Nat.pow_le_pow_right (by omega) h5)
  unfold aRch aR
  rw [ed, nI_clamp (by omega), zSh1 (by omega), nI_or]
theorem aR_lt {m : Nat → Int32} (hw : WFh m) {l : Nat} (hl : l < kL m) : aR m l < 2 ^ kL m := by
  have h5 := hw.1.2
  obtain ⟨d, hd, ed⟩ := hw.2.2.2.2.2.2.1 l (by omega)
  have hd5 : d < 2 ^ 5 := Nat.lt_of_lt_of_le hd (Nat.pow_le_pow_right (by omega) h5)
  unfold aR
  rw [ed, nI_clamp (by omega)]
  exact Nat.or_lt_two_pow hd (Nat.pow_lt_pow_right (by omega) hl)
theorem c_reach {S : zSt} {m : Nat → Int32} (hh : Rh S.1 4 m) (hw : WFh m) {l : Nat} (hl : l < 5) : fX3_reach S 4 (nI l) = some (nI (aR m l)) := by
  unfold fX3_reach
  rw [zIx_nI hl (by omega), zGd_t, nI_clamp (by omega), hh.2.2.2.1 l hl, ← aR_v hw hl]
  rfl
theorem m_around2 {T : zSt} (hw : WFh (T.1 2)) {l : Nat} (hl : l < 5) : fX12_around T (nI l) = some (nI (aR (T.1 2) l)) := by
  unfold fX12_around
  rw [zo_6, zIx_nI (by omega) (by omega), zGd_t, nI_clamp (by omega), ← aR_v hw hl]
  rfl
def cov (m : Nat → Int32) (s n : Nat) : Nat := zFo (fun l acc => if s.testBit l = true then acc ||| aR m l else acc) 0 n
theorem cov_s (m : Nat → Int32) (s n : Nat) : cov m s (n + 1) = if s.testBit n = true then cov m s n ||| aR m n else cov m s n := rfl
theorem cov_top (m : Nat → Int32) {s k : Nat} (hs : s < 2 ^ k) : ∀ j, cov m s (k + j) = cov m s k
  | 0 => rfl
  | j + 1 => by
    rw [show k + (j + 1) = (k + j) + 1 by omega, cov_s, Nat.testBit_lt_two_pow (Nat.lt_of_lt_of_le hs (Nat.pow_le_pow_right (by omega) (by omega))), if_neg (by decide)]
    exact cov_top m hs j
theorem cov_all {m : Nat → Int32} (hw : WFh m) : cov m (2 ^ kL m - 1) (kL m) = 2 ^ kL m - 1 := by
  have key : ∀ n, n ≤ kL m → cov m (2 ^ kL m - 1) n < 2 ^ kL m ∧ ∀ i, i < n → (cov m (2 ^ kL m - 1) n).testBit i = true := by
    intro n
    induction n with
    | zero => exact fun _ => ⟨Nat.two_pow_pos _, fun i hi => by omega⟩
    | succ n ih =>
      intro hn
      obtain ⟨i1, i2⟩ := ih (by omega)
      rw [cov_s, Nat.testBit_two_pow_sub_one, decide_eq_true (show n < kL m by omega), if_pos rfl]
      refine ⟨Nat.or_lt_two_pow i1 (aR_lt hw (by omega)), fun i hi => ?_⟩
      rw [Nat.testBit_or]
      by_cases h : i = n
      · subst h
        unfold aR
        rw [Nat.testBit_or, Nat.testBit_two_pow_self]
        simp
      · rw [i2 i (by omega)]; rfl
  obtain ⟨k1, k2⟩ := key (kL m) (Nat.le_refl _)
  apply Nat.eq_of_testBit_eq
  intro i
  rw [Nat.testBit_two_pow_sub_one]
  by_cases h : i < kL m
  · rw [k2 i h, decide_eq_true h]
  · rw [decide_eq_false h, Nat.testBit_lt_two_pow (Nat.lt_of_lt_of_le k1 (Nat.pow_le_pow_right (by omega) (by omega)))]
/-- the least of those that P allows, by p first -/
def lexOk (P : Nat → Prop) (p : Nat → Nat) (A x : Nat) : Prop := x ≤ A ∧ P x ∧ ∀ y, y ≤ A → P y → p x < p y ∨ (p x = p y ∧ x ≤ y)
theorem lexOk_one {P : Nat → Prop} {p : Nat → Nat} {A x y : Nat} (hx : lexOk P p A x) (hy : lexOk P p A y) : x = y := by
  obtain ⟨a1, a2, a3⟩ := hx
  obtain ⟨b1, b2, b3⟩ := hy
  have c1 := a3 y b1 b2
  have c2 := b3 x a1 a2
  omega
def covC (P : Nat → Prop) [DecidablePred P] (p : Nat → Nat) (A n : Nat) : Nat := zFo (fun s acc => if p s < p acc ∧ P s then s else acc) A n
theorem covC_s (P : Nat → Prop) [DecidablePred P] (p : Nat → Nat) (A n : Nat) : covC P p A (n + 1) = if p n < p (covC P p A n) ∧ P n then n else covC P p A n := rfl
theorem covC_ok (P : Nat → Prop) [DecidablePred P] (p : Nat → Nat) (A : Nat) (hA : P A) (hp : ∀ y, y < A → p y < p A) : lexOk P p A (covC P p A A) := by
  have key : ∀ n, n ≤ A → P (covC P p A n) ∧ (covC P p A n < n ∨ covC P p A n = A) ∧ p (covC P p A n) ≤ p A ∧ ∀ y, y < n → P y → p (covC P p A n) < p y ∨ (p (covC P p A n) = p y ∧ covC P p A n ≤ y) := by
    intro n
    induction n with
    | zero => exact fun _ => ⟨hA, Or.inr rfl, Nat.le_refl _, fun y hy => by omega⟩
    | succ n ih =>
      intro hn
      obtain ⟨i1, i2, i3, i4⟩ := ih (by omega)
      have hpn := hp n (by omega)
      rw [covC_s]
      by_cases h : p n < p (covC P p A n) ∧ P n
      · rw [if_pos h]
        refine ⟨h.2, Or.inl (by omega), by omega, fun y hy py => ?_⟩
        by_cases e : y = n
        · subst e; exact Or.inr ⟨rfl, Nat.le_refl _⟩
        · rcases i4 y (by omega) py with q | q
          · exact Or.inl (by omega)
          · exact Or.inl (by omega)
      · rw [if_neg h]
        refine ⟨i1, by omega, i3, fun y hy py => ?_⟩
        by_cases e : y = n
        · subst e
          have : ¬ p y < p (covC P p A y) := fun q => h ⟨q, py⟩
          rcases i2 with e2 | e2
          · by_cases e3 : p (covC P p A y) = p y
            · exact Or.inr ⟨e3, by omega⟩
            · exact Or.inl (by omega)
          · rw [e2] at this; omega
        · exact i4 y (by omega) py
  obtain ⟨k1, k2, k3, k4⟩ := key A (Nat.le_refl _)
  refine ⟨by omega, k1, fun y hy py => ?_⟩
  by_cases e : y = A
  · subst e
    by_cases e3 : p (covC P p y y) = p y
    · exact Or.inr ⟨e3, by omega⟩
    · exact Or.inl (by omega)
  · exact k4 y (by omega) py
def covM (P : Nat → Prop) [DecidablePred P] (p : Nat → Nat) (A n : Nat) : Nat := zFo (fun j acc => if P (A - j) ∧ p (A - j) ≤ p acc then A - j else acc) A n
theorem covM_s (P : Nat → Prop) [DecidablePred P] (p : Nat → Nat) (A n : Nat) : covM P p A (n + 1) = if P (A - n) ∧ p (A - n) ≤ p (covM P p A n) then A - n else covM P p A n := rfl
theorem covM_ok (P : Nat → Prop) [DecidablePred P] (p : Nat → Nat) (A : Nat) (hA : P A) : lexOk P p A (covM P p A (A + 1)) := by
  have key : ∀ n, n ≤ A + 1 → P (covM P p A n) ∧ covM P p A n ≤ A ∧ A < covM P p A n + n + 1 ∧ ∀ y, y ≤ A → A < y + n → P y → p (covM P p A n) < p y ∨ (p (covM P p A n) = p y ∧ covM P p A n ≤ y) := by
    intro n
    induction n with
    | zero => exact fun _ => ⟨hA, Nat.le_refl _, by show A < A + 0 + 1; omega, fun y hy h2 => by omega⟩
    | succ n ih =>
      intro hn
      obtain ⟨i1, i2, i3, i4⟩ := ih (by omega)
      rw [covM_s]
      by_cases h : P (A - n) ∧ p (A - n) ≤ p (covM P p A n)
      · rw [if_pos h]
        refine ⟨h.1, by omega, by omega, fun y hy h2 py => ?_⟩
        by_cases e : y = A - n
        · subst e; exact Or.inr ⟨rfl, Nat.le_refl _⟩
        · rcases i4 y hy (by omega) py with q | q
          · exact Or.inl (by omega)
          · by_cases e3 : p (A - n) = p y
            · exact Or.inr ⟨e3, by omega⟩
            · exact Or.inl (by omega)
      · rw [if_neg h]
        refine ⟨i1, i2, by omega, fun y hy h2 py => ?_⟩
        by_cases e : y = A - n
        · have : ¬ p (A - n) ≤ p (covM P p A n) := fun q => h ⟨by rw [← e]; exact py, q⟩
          rw [e]
          exact Or.inl (by omega)
        · exact i4 y hy (by omega) py
  obtain ⟨k1, k2, k3, k4⟩ := key (A + 1) (Nat.le_refl _)
  exact ⟨k2, k1, fun y hy py => k4 y hy (by omega) py⟩
theorem zPop_top {k y : Nat} (hk : k ≤ 5) (hy : y < 2 ^ k - 1) : zPop y < zPop (2 ^ k - 1) := by
  have key : ∀ k, k < 6 → ∀ y, y < 32 → y < 2 ^ k - 1 → zPop y < zPop (2 ^ k - 1) := by decide +kernel
  have h := (zAll hk).2.1
  exact key k (by omega) y (by omega) hy
section Cover
variable {S T : zSt}
theorem c_reachAll {m : Nat → Int32} (hh : Rh S.1 4 m) (hw : WFh m) {s : Nat} (hs : s < 32) : fX2_reachOfAll S (nI s) = some (nI (cov m s (kL m))) := by
  have h5 := hw.1.2
  unfold fX2_reachOfAll
  refine zLp_run (body := fX2_reachOfAll_4 S (nI s)) (fun i => (nI (cov m s i), nI i)) (kL m) 2000 (fun i hi => ?_) ?_ (by omega)
  · unfold fX2_reachOfAll_4 fX2_reachOfAll_36
    dsimp only
    rw [zg_0_4, zGd_t, zt_0, hh.1 0 (by omega), hw.1.1, zle_f hi (by omega), c_hasB hs (by omega), zBd_s, aBit_tb hs (by omega), zLt_s, nI_1, cov_s]
    by_cases b : s.testBit i = true
    · rw [if_pos b, zBr_q (show ¬ (1 : Int32) = 0 by decide), c_reach hh hw (by omega), zBd_s, zLt_s, zLt_s, nI_or, if_pos b]
    · rw [if_neg b, zBr_p (show (0 : Int32) = 0 from rfl), if_neg b]
  · unfold fX2_reachOfAll_4
    dsimp only
    rw [zg_0_4, zGd_t, zt_0, hh.1 0 (by omega), hw.1.1, zle_t (Nat.le_refl _) (by omega), zXr_s]
theorem m_seenFrom (hw : WFh (T.1 2)) {s : Nat} (hs : s < 32) : fX12_seenFrom T (nI s) = some (nI (cov (T.1 2) s 5)) := by
  unfold fX12_seenFrom
  refine zLp_run (body := fX12_seenFrom_4 T (nI s)) (fun i => (nI (cov (T.1 2) s i), nI i)) 5 2000 (fun i hi => ?_) ?_ (by omega)
  · unfold fX12_seenFrom_4 fX12_seenFrom_25
    dsimp only
    rw [show (5 : Int32) = nI 5 from rfl, zle_f hi (by omega), m_hasB, zBd_s, aBit_tb hs (by omega), zLt_s, nI_1, cov_s]
    by_cases b : s.testBit i = true
    · rw [if_pos b, zBr_q (show ¬ (1 : Int32) = 0 by decide), m_around2 hw (by omega), zBd_s, zLt_s, zLt_s, nI_or, if_pos b]
    · rw [if_neg b, zBr_p (show (0 : Int32) = 0 from rfl), if_neg b]
  · unfold fX12_seenFrom_4
    dsimp only
    rw [zBr_p (show (5 : Int32) ≤ nI 5 by decide), zXr_s]
def aCov (m : Nat → Int32) (s : Nat) : Prop := cov m s (kL m) = 2 ^ kL m - 1
theorem cov_lt {m : Nat → Int32} (hw : WFh m) (s : Nat) : ∀ n, n ≤ kL m → cov m s n < 2 ^ kL m
  | 0, _ => Nat.two_pow_pos _
  | n + 1, h => by
    rw [cov_s]
    by_cases b : s.testBit n = true
    · rw [if_pos b]; exact Nat.or_lt_two_pow (cov_lt hw s n (by omega)) (aR_lt hw (by omega))
    · rw [if_neg b]; exact cov_lt hw s n (by omega)
theorem op_cover (r : Rel S T) : ∃ z S' T', fX11_cover S = some (z, S') ∧ fX12_cover T = some (z, T') ∧ Rel S' T' := by
  have rt := Rel_thrown r 0
  obtain ⟨-, ⟨hh, hw, hl, hv, -⟩, -⟩ := id r
  have h5 := hw.1.2
  obtain ⟨q1, q2, -⟩ := zAll h5
  obtain ⟨A, hA⟩ : ∃ A, A = 2 ^ kL (T.1 2) - 1 := ⟨_, rfl⟩
  have hA1 : A + 1 = 2 ^ kL (T.1 2) := by have := Nat.two_pow_pos (kL (T.1 2)); omega
  rw [← hA] at q1 q2
  have dP : DecidablePred (aCov (T.1 2)) := fun s => inferInstanceAs (Decidable (cov (T.1 2) s (kL (T.1 2)) = 2 ^ kL (T.1 2) - 1))
  have pA : aCov (T.1 2) A := by rw [hA]; exact cov_all hw
  have l1 := covC_ok (aCov (T.1 2)) zPop A pA (fun y hy => by rw [hA]; exact zPop_top h5 (by omega))
  have l2 := covM_ok (aCov (T.1 2)) zPop A pA
  have same := lexOk_one l1 l2
  have cl : ∀ s, s ≤ A → cov (T.1 2) s (kL (T.1 2)) < 32 := fun s _ => by have := cov_lt hw s (kL (T.1 2)) (Nat.le_refl _); omega
  have cle : ∀ n, n ≤ A → covC (aCov (T.1 2)) zPop A n ≤ A := by
    intro n
    induction n with
    | zero => exact fun _ => Nat.le_refl _
    | succ n ih =>
      intro hn
      rw [covC_s]
      by_cases h : zPop n < zPop (covC (aCov (T.1 2)) zPop A n) ∧ aCov (T.1 2) n
      · rw [if_pos h]; omega
      · rw [if_neg h]; exact ih (by omega)
  have mle : ∀ n, covM (aCov (T.1 2)) zPop A n ≤ A := by
    intro n
    induction n with
    | zero => exact Nat.le_refl _
    | succ n ih =>
      rw [covM_s]
      by_cases h : aCov (T.1 2) (A - n) ∧ zPop (A - n) ≤ zPop (covM (aCov (T.1 2)) zPop A n)
      · rw [if_pos h]; omega
      · rw [if_neg h]; exact ih
  have e1 : fX2_leastCover S = some (nI (covC (aCov (T.1 2)) zPop A A)) := by
    unfold fX2_leastCover fX11_allBits
    rw [zg_0_4, zGd_t, zt_0, hh.1 0 (by omega), hw.1.1, q1, zBd_s]
    refine zLp_run (body := fX2_leastCover_17 S (nI A)) (fun i => (nI (covC (aCov (T.1 2)) zPop A i), nI i)) A 2000 (fun i hi => ?_) ?_ (by omega)
    · have hi2 := cle i (by omega)
      unfold fX2_leastCover_17 fX2_leastCover_44
      dsimp only
      rw [zle_f hi (by omega), c_pop (by omega), zBd_s, c_pop (by omega), zBd_s, zLt_s, zLt_s, nI_1, c_reachAll hh hw (by omega), zBd_s, covC_s]
      have p1 := zPop_le i
      have p2 := zPop_le (covC (aCov (T.1 2)) zPop A i)
      by_cases b : zPop i < zPop (covC (aCov (T.1 2)) zPop A i)
      · rw [zle_f b (by omega)]
        by_cases c : aCov (T.1 2) i
        · have c' : cov (T.1 2) i (kL (T.1 2)) = A := by rw [hA]; exact c
          rw [c', zBr_p rfl, if_pos ⟨b, c⟩]
        · rw [zBr_q (fun q => c (by unfold aCov; rw [← hA]; exact (nI_eq (by have := cl i (by omega); omega) (by omega)).mp q)), if_neg (fun q => c q.2)]
      · rw [zle_t (by omega) (by omega), if_neg (fun q => b q.1)]
    · unfold fX2_leastCover_17
      dsimp only
      rw [zle_t (Nat.le_refl _) (by omega), zXr_s]
  obtain ⟨X, hX⟩ : ∃ X, X = covC (aCov (T.1 2)) zPop A A := ⟨_, rfl⟩
  have hXA : X ≤ A := by rw [hX]; exact cle A (Nat.le_refl _)
  have e2 : fX12_cover T = some (nI (zPop X), zI (zI T 0 0 0) 0 26 (nI X)) := by
    have seen : ∀ s, s ≤ A → fX12_seenFrom (zI T 0 0 0) (nI s) = some (nI (cov (T.1 2) s (kL (T.1 2)))) := fun s hs => by
      rw [m_seenFrom (T := zI T 0 0 0) (by rw [zTh]; exact hw) (by omega), zTh, show 5 = kL (T.1 2) + (5 - kL (T.1 2)) by omega, cov_top _ (by omega)]
    unfold fX12_cover
    rw [zLt_s, zTh, zg_0_406, zGd_t, zt_0, hw.1.1, q1, zLt_s]
    have key := zLp_run (body := fX12_cover_20 (zI T 0 0 0) (nI A)) (fun i => (nI (covM (aCov (T.1 2)) zPop A i), nI A - nI i)) (r := (nI (zPop X), zI (zI T 0 0 0) 0 26 (nI X))) (A + 1) 2000 (fun i hi => ?_) ?_ (by omega)
    · rw [show nI A - nI 0 = nI A by rw [pk_sub (by omega)]; rfl] at key
      exact key
    · have hi2 := mle i
      unfold fX12_cover_20 fX12_cover_46
      dsimp only
      rw [pk_sub (show i ≤ A by omega), zBr_q (nI_pos (by omega)), seen _ (by omega), zBd_s, m_pop (by omega), zBd_s, m_pop (by omega), zBd_s, zLt_s, zLt_s, covM_s, show nI (A - i) + (-1) = nI A - nI (i + 1) by
        have key : ∀ a, a < 32 → ∀ i, i < 32 → i ≤ a → nI (a - i) + (-1) = nI a - nI (i + 1) := by decide +kernel
        exact key A (by omega) i (by omega) (by omega)]
      have p1 := zPop_le (A - i)
      have p2 := zPop_le (covM (aCov (T.1 2)) zPop A i)
      by_cases c : aCov (T.1 2) (A - i)
      · have c' : cov (T.1 2) (A - i) (kL (T.1 2)) = A := by rw [hA] at c ⊢; exact c
        rw [c', zBr_p rfl]
        by_cases b : zPop (A - i) ≤ zPop (covM (aCov (T.1 2)) zPop A i)
        · rw [zlt_f b (by omega), if_pos ⟨c, b⟩]
        · rw [zlt_t (by omega) (by omega), if_neg (fun q => b q.2)]
      · rw [zBr_q (fun q => c (by unfold aCov; rw [← hA]; exact (nI_eq (by have := cl (A - i) (by omega); omega) (by omega)).mp q)), if_neg (fun q => c q.1)]
    · unfold fX12_cover_20
      dsimp only
      rw [zBr_p (show nI A - nI (A + 1) < 0 by
        have key : ∀ a, a < 32 → nI a - nI (a + 1) < 0 := by decide +kernel
        exact key A (by omega)), zLt_s, ← same, ← hX, m_pop (by omega), zBd_s, zXr_s]
  unfold fX11_cover
  rw [e1, ← hX, zBd_s, zLt_s, show (zI S 0 16 (nI X)).1 0 16 = nI X by rw [zI_at, if_pos ⟨rfl, rfl⟩], c_pop (by omega), zBd_s, e2]
  refine ⟨_, _, _, rfl, rfl, ?_⟩
  refine Rel_zero rt rfl (fun c hc => zI_ne hc) rfl (fun c hc => zI_ne hc) (fun j hj => by rw [zI_at, if_neg (by omega)]) ⟨?_, ?_, ?_⟩
  · rw [zI_at, if_neg (by omega), zI_at, if_neg (by omega)]; exact rt.2.2.2.2.2.1.1
  · rw [zI_at, if_neg (by omega), zI_at, if_neg (by omega)]; exact rt.2.2.2.2.2.1.2.1
  · rw [zI_at, if_pos ⟨rfl, rfl⟩, zI_at, if_pos ⟨rfl, rfl⟩]
end Cover
