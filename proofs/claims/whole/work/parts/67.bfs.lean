/-! round: the class's search -/
theorem zCt_lt {P : Nat → Bool} {n x : Nat} (hx : x < n) (h : P x = false) : zCt P n < n := by
  have h1 := zCt_mono_lt (P := P) (Q := fun _ => true) (n := n) (fun _ _ _ => rfl) ⟨x, hx, rfl, by rw [h]; decide⟩
  have : ∀ n, zCt (fun _ => true) n = n := by
    intro n
    induction n with
    | zero => rfl
    | succ n ih => rw [zCt, ih, if_pos rfl]
  rw [this] at h1
  exact h1
theorem zCt_set {P Q : Nat → Bool} {x : Nat} (h0 : P x = false) (h1 : Q x = true) (h : ∀ i, i ≠ x → Q i = P i) : ∀ n, zCt Q n = zCt P n + if x < n then 1 else 0
  | 0 => by simp [zCt]
  | n + 1 => by
    rw [zCt, zCt, zCt_set h0 h1 h n]
    by_cases e : n = x
    · subst e
      rw [h0, h1, if_pos (show true = true from rfl), if_neg (show ¬ false = true by decide), if_neg (show ¬ n < n by omega), if_pos (show n < n + 1 by omega)]
    · rw [h n e]
      by_cases q : x < n
      · rw [if_pos q, if_pos (show x < n + 1 by omega)]; omega
      · rw [if_neg q, if_neg (show ¬ x < n + 1 by omega), Nat.add_zero, Nat.add_zero]
theorem wAt_ltn {adj : Nat → Nat → Bool} {n : Nat} (hadj : ∀ a k, adj a k = true → k < n) : ∀ (w : List Nat) (a : Nat), a < n → wOk adj a w → wAt a w < n
  | [], a, ha, _ => ha
  | k :: w, a, _, h => wAt_ltn hadj w k (hadj a k h.1) h.2
theorem wAt_lt {adj : Nat → Nat → Bool} (hadj : aOk adj) (w : List Nat) (a : Nat) (ha : a < 5) (h : wOk adj a w) : wAt a w < 5 := wAt_ltn hadj w a ha h
def cdW (s : Nat) (w : List Nat) : Nat := 5 * wBn (2 ^ s) w + wAt s w
theorem cdW_app (s : Nat) (w : List Nat) (l : Nat) : cdW s (w ++ [l]) = 5 * (wBn (2 ^ s) w ||| 2 ^ l) + l := by
  unfold cdW
  rw [wBn_app, wAt_app]
theorem zPw {s : Nat} (h : s < 5) : 2 ^ s < 32 := by
  have : 2 ^ s < 2 ^ 5 := Nat.pow_lt_pow_right (by omega) h
  omega
theorem cdW_lt {adj : Nat → Nat → Bool} (hadj : aOk adj) {s : Nat} (hs : s < 5) {w : List Nat} (h : wOk adj s w) : wAt s w < 5 ∧ wBn (2 ^ s) w < 32 ∧ cdW s w < 160 := by
  have h1 := wAt_lt hadj w s hs h
  have h2 := (wLf_bn hadj w s (2 ^ s) 0 h (zPw hs) (by omega)).1
  exact ⟨h1, h2, by unfold cdW; omega⟩
theorem cdW_eq {adj : Nat → Nat → Bool} (hadj : aOk adj) {s : Nat} (hs : s < 5) {w v : List Nat} (hw : wOk adj s w) (hv : wOk adj s v) (e : cdW s w = cdW s v) : wAt s w = wAt s v ∧ wBn (2 ^ s) w = wBn (2 ^ s) v := by
  obtain ⟨a1, a2, -⟩ := cdW_lt hadj hs hw
  obtain ⟨b1, b2, -⟩ := cdW_lt hadj hs hv
  unfold cdW at e
  exact ⟨by omega, by omega⟩
/-- the queue: P tells a walk to each that was met; k is at hand, its neighbours below l are done -/
def BI (S0 : zSt) (adj : Nat → Nat → Bool) (s nd : Nat) (P : Nat → List Nat) (k l E : Nat) (S : zSt) : Prop := (S.2 = S0.2 ∧ ∀ c, c ≠ 257 → c ≠ 258 → c ≠ 259 → S.1 c = S0.1 c) ∧ (1 ≤ E ∧ E ≤ 160) ∧ (∀ i, i < E → wOk adj s (P i) ∧ S.1 257 i = nI (cdW s (P i))) ∧ (P 0 = [] ∧ S.1 258 (cdW s (P 0)) = -1) ∧ (∀ i, 1 ≤ i → i < E → ∃ j x, j < i ∧ P i = P j ++ [x] ∧ S.1 258 (cdW s (P i)) = nI (cdW s (P j))) ∧ (∃ mt : Nat → Bool, (∀ x, x < 160 → S.1 259 x = if mt x = true then 1 else 0) ∧ (∀ x, mt x = true ↔ ∃ i, i < E ∧ cdW s (P i) = x) ∧ zCt mt 160 = E) ∧ (∀ i j, i < j → j < E → wC 1 (P i) < wC 1 (P j)) ∧ (k < E → ∀ i, i < E → wC 1 (P i) < 8 * wC 1 (P k) + l) ∧ (∀ j x, (j < k ∨ (j = k ∧ x < l)) → j < E → adj (wAt s (P j)) x = true → ∃ i, i < E ∧ cdW s (P i) = cdW s (P j ++ [x]) ∧ wC 1 (P i) ≤ wC 1 (P j ++ [x])) ∧ (∀ j, j < k → j < E → ¬ nd &&& (31 ^^^ wBn (2 ^ s) (P j)) = 0)
section Bfs
variable {S0 S : zSt} {m : Nat → Int32} {s nd k l E : Nat} {P : Nat → List Nat}
theorem c_state {b l : Nat} (hb : b < 32) (hl : l < 5) : fX10_state (nI l) (nI b ||| ((1 : Int32) <<< (nI l &&& 31))) = some (nI (5 * (b ||| 2 ^ l) + l)) := by
  unfold fX10_state
  rw [zSh1 (by omega), nI_or, show (5 : Int32) = nI 5 from rfl, pk_mul, nI_add, Nat.mul_comm]
theorem bfs1 (hh : Rh S0.1 4 m) (hw : WFh m) (hsL : s < kL m) (hk : k < E) (hl : l < kL m) (hB : BI S0 (adM m) s nd P k l E S) : ∃ P' E' S', fX10_find_134 4 (nI nd) (nI k) (nI (wBn (2 ^ s) (P k))) (m (6 + wAt s (P k))) (S, nI E, nI l) = some (.inl (S', nI E', nI (l + 1))) ∧ P' k = P k ∧ k < E' ∧ BI S0 (adM m) s nd P' k (l + 1) E' S' := by
  have hadj := adM_ok hw
  have h5 := hw.1.2
  have hs : s < 5 := by omega
  obtain ⟨⟨f1, f2⟩, ⟨e1, e2⟩, q1, ⟨z1, z2⟩, q2, ⟨mt, t1, t2, t3⟩, o1, o2, cl, ng⟩ := id hB
  obtain ⟨wk, qk⟩ := q1 k hk
  obtain ⟨a1, a2, a3⟩ := cdW_lt hadj hs wk
  obtain ⟨x, hx⟩ : ∃ x, x = cdW s (P k ++ [l]) := ⟨_, rfl⟩
  have ex : 5 * (wBn (2 ^ s) (P k) ||| 2 ^ l) + l = x := by rw [hx, cdW_app]
  have x160 : x < 160 := by
    have : wBn (2 ^ s) (P k) ||| 2 ^ l < 32 := Nat.or_lt_two_pow (n := 5) a2 (zPw (by omega))
    omega
  have sL : S.1 (4 + 1) 0 = nI (kL m) := by rw [f2 (4 + 1) (by omega) (by omega) (by omega), hh.1 0 (by omega), hw.1.1]
  -- nothing new
  have stay : (adM m (wAt s (P k)) l = true → mt x = true) → BI S0 (adM m) s nd P k (l + 1) E S := by
    intro hq
    refine ⟨⟨f1, f2⟩, ⟨e1, e2⟩, q1, ⟨z1, z2⟩, q2, ⟨mt, t1, t2, t3⟩, o1, fun h i hi => by have := o2 h i hi; omega, fun j y hy hj ha => ?_, ng⟩
    by_cases e : j = k ∧ y = l
    · obtain ⟨rfl, rfl⟩ := e
      obtain ⟨i, hi, ei⟩ := (t2 x).mp (hq ha)
      refine ⟨i, hi, by rw [ei, hx], ?_⟩
      have := o2 hk i hi
      rw [wC_app]
      omega
    · exact cl j y (by omega) hj ha
  unfold fX10_find_134 fX10_find_221
  dsimp only
  rw [zg_0_4, zGd_t, zt_0, sL, zle_f hl (by omega), c_state a2 (by omega), zBd_s, ex]
  by_cases had : adM m (wAt s (P k)) l = true
  · have hb : fX11_hasBit (m (6 + wAt s (P k))) (nI l) = some 1 := by
      rw [(adM_has hw (adM_lt hw had).1 (by omega)).2, if_pos had]
    rw [hb, zBd_s, zBr_q (show ¬ (1 : Int32) = 0 by decide), zIx_nI x160 (by omega), zGd_t, nI_clamp (by omega), t1 x x160]
    by_cases hm : mt x = true
    · rw [if_pos hm, zBr_q (show ¬ (1 : Int32) = 0 by decide), zLt_s, nI_1]
      exact ⟨P, E, S, rfl, rfl, hk, stay (fun _ => hm)⟩
    · have hm' : mt x = false := Bool.not_eq_true _ |>.mp hm
      have E159 : E < 160 := by
        have := zCt_lt x160 hm'
        omega
      have fresh : ∀ i, i < E → cdW s (P i) ≠ x := fun i hi e => hm ((t2 x).mpr ⟨i, hi, e⟩)
      rw [if_neg hm, zBr_p (show (0 : Int32) = 0 from rfl), show (160 : Int32) = nI 160 from rfl, zle_f E159 (by omega), zGd_t, zLt_s, zIx_nI (show k < 160 by omega) (by omega), zGd_t, zGd_t, zLt_s, zIx_nI E159 (by omega), zGd_t, zLt_s, zLt_s, zLt_s, nI_1, nI_1, nI_clamp (by omega), nI_clamp (by omega), zI_ne (show (257 : Nat) ≠ 259 by omega), qk]
      obtain ⟨P', hP⟩ : ∃ P' : Nat → List Nat, ∀ i, P' i = if i = E then P k ++ [l] else P i := ⟨_, fun _ => rfl⟩
      have pE : P' E = P k ++ [l] := by rw [hP, if_pos rfl]
      have pO : ∀ i, i < E → P' i = P i := fun i hi => by rw [hP, if_neg (by omega)]
      have wn : wOk (adM m) s (P k ++ [l]) := (wOk_app _ _ _).mpr ⟨wk, had⟩
      obtain ⟨S', hS'⟩ : ∃ X, X = zI (zI (zI S 259 x (vp_nar FieldType.boolean 1)) 258 x (nI (cdW s (P k)))) 257 E (nI x) := ⟨_, rfl⟩
      have r7 : ∀ i, S'.1 257 i = if i = E then nI x else S.1 257 i := fun i => by
        rw [hS', zI_eq, zI_ne (by omega), zI_ne (by omega)]; rfl
      have r8 : ∀ i, S'.1 258 i = if i = x then nI (cdW s (P k)) else S.1 258 i := fun i => by
        rw [hS', zI_ne (by omega), zI_eq, zI_ne (by omega)]; rfl
      have r9 : ∀ i, S'.1 259 i = if i = x then 1 else S.1 259 i := fun i => by
        rw [hS', zI_ne (by omega), zI_ne (by omega), zI_eq]; rfl
      refine ⟨P', E + 1, S', by rw [hS'], pO k hk, by omega, ⟨by rw [hS']; exact f1, fun c c1 c2 c3 => by rw [hS', zI_ne c1, zI_ne c2, zI_ne c3, f2 c c1 c2 c3]⟩, ⟨by omega, by omega⟩, fun i hi => ?_, ⟨by rw [pO 0 (by omega)]; exact z1, ?_⟩, fun i i1 hi => ?_, ⟨fun y => decide (y = x) || mt y, fun y hy => ?_, fun y => ?_, ?_⟩, fun i j hij hj => ?_, fun _ i hi => ?_, fun j y hy hj ha => ?_, fun j hj hj2 => ?_⟩
      · by_cases e : i = E
        · subst e
          rw [pE, r7, if_pos rfl, hx]
          exact ⟨wn, rfl⟩
        · rw [pO i (by omega), r7, if_neg e]
          exact q1 i (by omega)
      · rw [pO 0 (by omega), r8, if_neg (fresh 0 (by omega))]; exact z2
      · by_cases e : i = E
        · subst e
          exact ⟨k, l, hk, by rw [pE, pO k hk], by rw [pE, ← hx, r8, if_pos rfl, pO k hk]⟩
        · obtain ⟨j, y, g1, g2, g3⟩ := q2 i i1 (by omega)
          exact ⟨j, y, g1, by rw [pO i (by omega), pO j (by omega)]; exact g2, by rw [pO i (by omega), pO j (by omega), r8, if_neg (fresh i (by omega))]; exact g3⟩
      · rw [r9]
        by_cases e : y = x
        · rw [if_pos e]; simp [e]
        · rw [if_neg e, t1 y hy]; simp [e]
      · rw [Bool.or_eq_true, decide_eq_true_eq, t2]
        constructor
        · rintro (e | ⟨i, hi, e⟩)
          · exact ⟨E, by omega, by rw [pE, e, hx]⟩
          · exact ⟨i, by omega, by rw [pO i hi]; exact e⟩
        · rintro ⟨i, hi, e⟩
          by_cases ei : i = E
          · subst ei
            exact Or.inl (by rw [← e, pE, hx])
          · exact Or.inr ⟨i, by omega, by rw [← pO i (by omega)]; exact e⟩
      · rw [zCt_set (P := mt) (x := x) hm' (by rw [decide_eq_true rfl]; rfl) (fun i hi => by rw [decide_eq_false hi, Bool.false_or]), t3, if_pos x160]
      · by_cases e : j = E
        · subst e
          have := o2 hk i (by omega)
          rw [pE, pO i (by omega), wC_app]
          exact this
        · rw [pO i (by omega), pO j (by omega)]
          exact o1 i j hij (by omega)
      · rw [pO k hk]
        by_cases e : i = E
        · subst e
          rw [pE, wC_app]
          omega
        · rw [pO i (by omega)]
          have := o2 hk i (by omega)
          omega
      · have jE : j < E := by omega
        rw [pO j jE] at ha ⊢
        by_cases e : j = k ∧ y = l
        · obtain ⟨rfl, rfl⟩ := e
          exact ⟨E, by omega, by rw [pE], by rw [pE]; exact Nat.le_refl _⟩
        · obtain ⟨i, hi, g1, g2⟩ := cl j y (by omega) jE ha
          exact ⟨i, by omega, by rw [pO i hi]; exact g1, by rw [pO i hi]; exact g2⟩
      · rw [pO j (by omega)]
        exact ng j hj (by omega)
  · have hL : wAt s (P k) < kL m := wAt_ltn (fun a k h => (adM_lt hw h).2) (P k) s hsL wk
    have hb : fX11_hasBit (m (6 + wAt s (P k))) (nI l) = some 0 := by
      rw [(adM_has hw hL (by omega)).2, if_neg had]
    rw [hb, zBd_s, zBr_p (show (0 : Int32) = 0 from rfl), zLt_s, nI_1]
    exact ⟨P, E, S, rfl, rfl, hk, stay (fun q => absurd q had)⟩
theorem bfs2 (hh : Rh S0.1 4 m) (hw : WFh m) (hsL : s < kL m) (hk : k < E) (hB : BI S0 (adM m) s nd P k 0 E S) : ∃ P' E' S', zLp (fX10_find_134 4 (nI nd) (nI k) (nI (wBn (2 ^ s) (P k))) (m (6 + wAt s (P k)))) 2000 (S, nI E, 0) = some (.inl (S', nI E', nI (k + 1))) ∧ P' k = P k ∧ k < E' ∧ BI S0 (adM m) s nd P' k (kL m) E' S' := by
  have h5 := hw.1.2
  obtain ⟨R, e, P', E', S', eR, h1, h2, h3⟩ := zLp_inv (body := fX10_find_134 4 (nI nd) (nI k) (nI (wBn (2 ^ s) (P k))) (m (6 + wAt s (P k)))) (fun i x => ∃ P' E' S', x = (S', nI E', nI i) ∧ P' k = P k ∧ k < E' ∧ BI S0 (adM m) s nd P' k i E' S') (fun R => ∃ P' E' S', R = .inl (S', nI E', nI (k + 1)) ∧ P' k = P k ∧ k < E' ∧ BI S0 (adM m) s nd P' k (kL m) E' S') (kL m) (fun i x hi hI => by
    obtain ⟨P', E', S', rfl, h1, h2, h3⟩ := hI
    by_cases q : i < kL m
    · obtain ⟨P2, E2, S2, g1, g2, g3, g4⟩ := bfs1 hh hw hsL h2 q h3
      rw [h1] at g1
      exact Or.inl ⟨_, g1, ⟨P2, E2, S2, rfl, g2.trans h1, g3, g4⟩, q⟩
    · have ei : i = kL m := by omega
      subst ei
      refine Or.inr ⟨_, ?_, P', E', S', rfl, h1, h2, h3⟩
      have sL : S'.1 (4 + 1) 0 = nI (kL m) := by rw [h3.1.2 (4 + 1) (by omega) (by omega) (by omega), hh.1 0 (by omega), hw.1.1]
      unfold fX10_find_134
      dsimp only
      rw [zg_0_4, zGd_t, zt_0, sL, zle_t (Nat.le_refl _) (by omega), zLt_s, nI_1, zXr_s]) 2000 0 (S, nI E, 0) (by omega) (by omega) ⟨P, E, S, rfl, rfl, hk, hB⟩
  exact ⟨P', E', S', by rw [e, eR], h1, h2, h3⟩
theorem BI_next (hw : WFh m) (hk : k < E) (hng : ¬ nd &&& (31 ^^^ wBn (2 ^ s) (P k)) = 0) (hB : BI S0 (adM m) s nd P k (kL m) E S) : BI S0 (adM m) s nd P (k + 1) 0 E S := by
  have h5 := hw.1.2
  obtain ⟨f, e, q1, z, q2, t, o1, o2, cl, ng⟩ := hB
  refine ⟨f, e, q1, z, q2, t, o1, fun h i hi => ?_, fun j x hx hj ha => ?_, fun j hj hj2 => ?_⟩
  · have := o2 hk i hi
    have := o1 k (k + 1) (by omega) h
    omega
  · have := (adM_lt hw ha).2
    exact cl j x (by omega) hj ha
  · by_cases ej : j = k
    · subst ej; exact hng
    · exact ng j (by omega) hj2
/-- any walk leads to what was met, on no later code, unless one at k or behind it comes ahead -/
theorem BI_all (hw : WFh m) (hsL : s < kL m) {l : Nat} (hB : BI S0 (adM m) s nd P k l E S) : ∀ n (w : List Nat), w.length = n → wOk (adM m) s w → (∃ i, i < E ∧ cdW s (P i) = cdW s w ∧ wC 1 (P i) ≤ wC 1 w) ∨ (k < E ∧ wC 1 (P k) ≤ wC 1 w) := by
  have hadj := adM_ok hw
  have h5 := hw.1.2
  have hs : s < 5 := by omega
  obtain ⟨f, e, q1, ⟨z1, z2⟩, q2, t, o1, o2, cl, ng⟩ := hB
  intro n
  induction n with
  | zero =>
    intro w hl hok
    have : w = [] := List.length_eq_zero_iff.mp hl
    subst this
    exact Or.inl ⟨0, by omega, by rw [z1], by rw [z1]; exact Nat.le_refl _⟩
  | succ n ih =>
    intro w hl hok
    obtain ⟨v, x, rfl⟩ : ∃ v x, w = v ++ [x] := by
      have hne : w ≠ [] := fun q => by subst q; simp at hl
      exact ⟨w.dropLast, w.getLast hne, (List.dropLast_concat_getLast hne).symm⟩
    obtain ⟨ok1, ok2⟩ := (wOk_app _ _ _).mp hok
    rw [wC_app]
    rcases ih v (by simpa using hl) ok1 with ⟨i, hi, g1, g2⟩ | ⟨g1, g2⟩
    · by_cases ik : i < k
      · obtain ⟨w1, w2⟩ := cdW_eq hadj hs (q1 i hi).1 ok1 g1
        obtain ⟨j, hj, g3, g4⟩ := cl i x (Or.inl ik) hi (by rw [w1]; exact ok2)
        refine Or.inl ⟨j, hj, ?_, ?_⟩
        · rw [g3, cdW_app, cdW_app, w2]
        · rw [wC_app] at g4
          omega
      · refine Or.inr ⟨by omega, ?_⟩
        by_cases ek : i = k
        · subst ek; omega
        · have := o1 k i (by omega) hi
          omega
    · exact Or.inr ⟨g1, by omega⟩
theorem BI_len {l : Nat} (hB : BI S0 (adM m) s nd P k l E S) : ∀ n i, i ≤ n → i < E → (P i).length ≤ i := by
  obtain ⟨f, e, q1, ⟨z1, z2⟩, q2, t, o1, o2, cl, ng⟩ := hB
  intro n
  induction n with
  | zero =>
    intro i hi hE
    have : i = 0 := by omega
    subst this
    rw [z1]; exact Nat.le_refl _
  | succ n ih =>
    intro i hi hE
    by_cases i0 : i = 0
    · subst i0; rw [z1]; exact Nat.le_refl _
    · obtain ⟨j, x, h1, h2, -⟩ := q2 i (by omega) hE
      have := ih j (by omega) (by omega)
      rw [h2, List.length_append, List.length_singleton]
      omega
theorem keepWay (hw : WFh m) (hsL : s < kL m) {l : Nat} (hk : k < E) (hB : BI S0 (adM m) s nd P k l E S) : ∃ g, fX10_keepWay S (nI (cdW s (P k))) = some (zPut (zI S 256 4 (nI (P k).length)) 260 g) ∧ ∀ x v, (P k)[x]? = some v → g x = nI v := by
  have hadj := adM_ok hw
  have h5 := hw.1.2
  have hs : s < 5 := by omega
  have hlen : ∀ i, i < E → (P i).length ≤ i := fun i hi => BI_len hB i i (Nat.le_refl _) hi
  obtain ⟨f, ⟨e1, e2⟩, q1, ⟨z1, z2⟩, q2, t, o1, o2, cl, ng⟩ := hB
  obtain ⟨n, hn⟩ : ∃ n, n = (P k).length := ⟨_, rfl⟩
  have n160 : n < 160 := by have := hlen k hk; omega
  have cd : ∀ i, i < E → cdW s (P i) < 160 ∧ wAt s (P i) < 5 := fun i hi => ⟨(cdW_lt hadj hs (q1 i hi).1).2.2, (cdW_lt hadj hs (q1 i hi).1).1⟩
  have par : ∀ i, i < E → (P i).length ≠ 0 → ∃ j, j < i ∧ P i = P j ++ [wAt s (P i)] ∧ S.1 258 (cdW s (P i)) = nI (cdW s (P j)) := fun i hi h0 => by
    have i1 : 1 ≤ i := by
      rcases Nat.eq_zero_or_pos i with q | q
      · subst q; rw [z1] at h0; simp at h0
      · exact q
    obtain ⟨j, x, g1, g2, g3⟩ := q2 i i1 hi
    refine ⟨j, g1, ?_, g3⟩
    have : wAt s (P i) = x := by rw [g2, wAt_app]
    rw [this]; exact g2
  have nil : ∀ i, i < E → (P i).length = 0 → i = 0 := fun i hi h0 => by
    rcases Nat.eq_zero_or_pos i with q | q
    · exact q
    · obtain ⟨j, x, g1, g2, g3⟩ := q2 i q hi
      rw [g2] at h0
      simp at h0
  obtain ⟨S1, hS1⟩ : ∃ X, X = zI S 256 4 (nI n) := ⟨_, rfl⟩
  have s1 : ∀ c, c ≠ 256 → S1.1 c = S.1 c := fun c hc => by rw [hS1, zI_ne hc]
  have s4 : S1.1 256 4 = nI n := by rw [hS1, zI_at, if_pos ⟨rfl, rfl⟩]
  have vdec : ∀ t, t < n → nI n - (1 : Int32) - nI t = nI (n - t - 1) := fun t ht => by
    rw [show (1 : Int32) = nI 1 from rfl, pk_sub (by omega), pk_sub (by omega), show n - 1 - t = n - t - 1 by omega]
  have vneg : nI n - (1 : Int32) - nI n < 0 := by
    have key : ∀ n, n < 160 → nI n - (1 : Int32) - nI n < 0 := by decide +kernel
    exact key n n160
  have vnx : ∀ t, t < n → nI n - (1 : Int32) - nI t + (-1) = nI n - (1 : Int32) - nI (t + 1) := fun t ht => by
    rw [← nI_1, Int32.sub_eq_add_neg (nI n - 1) (nI t + 1), Int32.neg_add, Int32.sub_eq_add_neg (-nI t) 1, ← Int32.add_assoc, ← Int32.sub_eq_add_neg (nI n - 1) (nI t)]
  -- back along the way, laying it
  have second : ∃ g, zLp fX10_keepWay_58 2000 (S1, nI (cdW s (P k)), nI n - 1) = some (zPut S1 260 g) ∧ ∀ x v, (P k)[x]? = some v → g x = nI v := by
    obtain ⟨R, e, g, eR, hg⟩ := zLp_inv (body := fX10_keepWay_58) (fun t x => ∃ i g rest, i < E ∧ x = (zPut S1 260 g, nI (cdW s (P i)), nI n - 1 - nI t) ∧ (P i).length + t = n ∧ P k = P i ++ rest ∧ ∀ x v, n ≤ x + t → (P k)[x]? = some v → g x = nI v) (fun R => ∃ g, R = zPut S1 260 g ∧ ∀ x v, (P k)[x]? = some v → g x = nI v) n (fun t x ht hI => by
      obtain ⟨i, g, rest, hi, rfl, g1, g2, g3⟩ := hI
      unfold fX10_keepWay_58
      dsimp only
      by_cases q : t < n
      · obtain ⟨j, j1, j2, j3⟩ := par i hi (by omega)
        have jl : (P i).length = (P j).length + 1 := by
          have := congrArg List.length j2
          rw [List.length_append, List.length_singleton] at this
          exact this
        have c3 : cdW s (P i) % 5 = wAt s (P i) := by
          have := (cd i hi).2
          unfold cdW
          omega
        rw [vnx t q, vdec t q, zBr_q (nI_pos (by omega)), show decide (¬ (5 : Int32) = 0) = true from rfl, zGd_t, zIx_nI (show n - t - 1 < 160 by omega) (by omega), zGd_t, show (5 : Int32) = nI 5 from rfl, pk_rem (by have := (cd i hi).1; omega) (by omega) (by omega), c3, zLt_s, nI_clamp (by omega), zIx_nI (cd i hi).1 (by omega), zGd_t, nI_clamp (by have := (cd i hi).1; omega), zI_zPut, zLt_s, zPut_ne (show (258 : Nat) ≠ 260 by omega), s1 258 (by omega), j3, zLt_s]
        refine Or.inl ⟨_, rfl, ⟨j, upd g (n - t - 1) (nI (wAt s (P i))), wAt s (P i) :: rest, by omega, rfl, by omega, ?_, fun y v hy hv => ?_⟩, q⟩
        · rw [g2]
          have := congrArg (· ++ rest) j2
          simpa using this
        · by_cases ey : y = n - t - 1
          · have ej : y = (P j).length := by omega
            have e2 : P k = P j ++ wAt s (P i) :: rest := by
              rw [g2]
              have := congrArg (· ++ rest) j2
              simpa using this
            rw [e2, ej, List.getElem?_append_right (Nat.le_refl _), Nat.sub_self] at hv
            have : wAt s (P i) = v := by simpa using hv
            rw [ey, pk_us, this]
          · rw [pk_un ey]
            exact g3 y v (by omega) hv
      · have et : t = n := by omega
        subst et
        rw [zBr_p vneg, zXr_s]
        exact Or.inr ⟨_, rfl, g, rfl, fun y v hv => g3 y v (by omega) hv⟩) 2000 0 (S1, nI (cdW s (P k)), nI n - 1) (by omega) (by omega) ⟨k, S1.1 260, [], hk, by
        rw [zPut_id, show nI n - (1 : Int32) - nI 0 = nI n - 1 from Int32.sub_zero _], by omega, by simp, fun x v hx hv => by
        have := (List.getElem?_eq_some_iff.mp hv).1
        omega⟩
    exact ⟨g, by rw [e, eR], hg⟩
  obtain ⟨g, e3, hg⟩ := second
  refine ⟨g, ?_, hg⟩
  rw [← hn, ← hS1, ← e3]
  unfold fX10_keepWay
  rw [zLt_s]
  obtain ⟨R, e, eR⟩ := zLp_inv (body := fX10_keepWay_9 (nI (cdW s (P k)))) (fun t x => ∃ i, i < E ∧ x = (zI S 256 4 (nI t), nI (cdW s (P i)), nI t) ∧ (P i).length + t = n) (fun R => R = zPut S1 260 g) n (fun t x ht hI => by
    obtain ⟨i, hi, rfl, g1⟩ := hI
    have c1 := (cd i hi).1
    have key : fX10_keepWay_9 (nI (cdW s (P k))) (zI S 256 4 (nI t), nI (cdW s (P i)), nI t) = zBr (S.1 258 (cdW s (P i)) = -1) (zXr (zLp fX10_keepWay_58 2000 (zI S 256 4 (nI t), nI (cdW s (P k)), nI t - 1))) (some (.inl (zI S 256 4 (nI (t + 1)), S.1 258 (cdW s (P i)), nI (t + 1)))) := by
      unfold fX10_keepWay_9 fX10_keepWay_49
      dsimp only
      rw [show (160 : Int32) = nI 160 from rfl, zle_f (show t < 160 by omega) (by omega), zIx_nI c1 (by omega), zGd_t, zLt_s, zLt_s, zGd_t, zLt_s, zLt_s, nI_clamp (by omega), zI_again, zI_ne (show (258 : Nat) ≠ 256 by omega), zI_ne (show (258 : Nat) ≠ 256 by omega), zI_at, if_pos ⟨rfl, rfl⟩, nI_1]
    rw [key]
    by_cases q : (P i).length = 0
    · have := nil i hi q
      subst this
      have et : t = n := by omega
      subst et
      rw [z2, zBr_p rfl, ← hS1, e3, zXr_s]
      exact Or.inr ⟨_, rfl, rfl⟩
    · obtain ⟨j, j1, j2, j3⟩ := par i hi q
      have jl : (P i).length = (P j).length + 1 := by
        have := congrArg List.length j2
        rw [List.length_append, List.length_singleton] at this
        exact this
      rw [j3, zBr_q (zneg2 (by have := (cd j (by omega)).1; omega))]
      exact Or.inl ⟨_, rfl, ⟨j, by omega, rfl, by omega⟩, by omega⟩) 2000 0 (zI S 256 4 0, nI (cdW s (P k)), 0) (by omega) (by omega) ⟨k, hk, rfl, by omega⟩
  rw [e, eR, e3]
end Bfs
