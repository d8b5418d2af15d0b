/-! a row set whole; what changes in a life alone -/
def zPut (T : zSt) (c : Nat) (f : Nat → Int32) : zSt := (fun a => if a = c then f else T.1 a, T.2)
theorem zPut_eq (T : zSt) (c : Nat) (f : Nat → Int32) : (zPut T c f).1 c = f := if_pos rfl
theorem zPut_ne {T : zSt} {c : Nat} {f : Nat → Int32} {a : Nat} (h : a ≠ c) : (zPut T c f).1 a = T.1 a := if_neg h
theorem zPut_2 (T : zSt) (c : Nat) (f : Nat → Int32) : (zPut T c f).2 = T.2 := rfl
theorem zPut_id (T : zSt) (c : Nat) : zPut T c (T.1 c) = T := by
  unfold zPut
  refine Prod.ext ?_ rfl
  funext a
  by_cases h : a = c
  · subst h; simp
  · simp [h]
theorem zI_put (T : zSt) (c j : Nat) (v : Int32) : zI T c j v = zPut T c (upd (T.1 c) j v) := by
  unfold zI zPut
  refine Prod.ext ?_ rfl
  funext a b
  by_cases h : a = c
  · subst h; simp [upd]
  · simp [h]
theorem zPut_put (T : zSt) (c : Nat) (f g : Nat → Int32) : zPut (zPut T c f) c g = zPut T c g := by
  unfold zPut
  refine Prod.ext ?_ rfl
  funext a
  by_cases h : a = c <;> simp [h]
theorem zI_zPut (T : zSt) (c j : Nat) (f : Nat → Int32) (v : Int32) : zI (zPut T c f) c j v = zPut T c (upd f j v) := by
  rw [zI_put, zPut_eq, zPut_put]
theorem zCi_put (S : zSt) (k k2 sp dp n : Nat) : zCi S k k2 sp dp n = zPut S k2 (va_cpy (S.1 k) (S.1 k2) sp dp n) := by
  unfold zCi zPut
  refine Prod.ext ?_ rfl
  funext a b
  by_cases h : a = k2 <;> simp [h]
/-- f on [o, o + n), g elsewhere -/
def zSeg (f g : Nat → Int32) (o n : Nat) : Nat → Int32 := fun b => if o ≤ b ∧ b < o + n then f (b - o) else g b
theorem zSeg_0 (f g : Nat → Int32) (o : Nat) : zSeg f g o 0 = g := by
  funext b
  simp [zSeg]
  omega
theorem zSeg_s (f g : Nat → Int32) (o n : Nat) : upd (zSeg f g o n) (o + n) (f n) = zSeg f g o (n + 1) := by
  funext b
  unfold upd zSeg
  by_cases h : b = o + n
  · subst h
    rw [if_pos rfl, if_pos (by omega)]
    congr 1
    omega
  · rw [if_neg h]
    by_cases h2 : o ≤ b ∧ b < o + n
    · rw [if_pos h2, if_pos (by omega)]
    · rw [if_neg h2, if_neg (by omega)]
theorem zSeg_in {f g : Nat → Int32} {o n b : Nat} (h1 : o ≤ b) (h2 : b < o + n) : zSeg f g o n b = f (b - o) := if_pos ⟨h1, h2⟩
theorem zSeg_out {f g : Nat → Int32} {o n b : Nat} (h : b < o ∨ o + n ≤ b) : zSeg f g o n b = g b := if_neg (by omega)
theorem va_cpy_seg (f g : Nat → Int32) (n : Nat) : va_cpy f g 0 0 n = zSeg f g 0 n := by
  funext b
  unfold va_cpy zSeg
  by_cases h : 0 ≤ b ∧ b < 0 + n
  · rw [if_pos h, if_pos h]; simp
  · rw [if_neg h, if_neg h]
/-- a loop that copies a row, cell by cell -/
theorem zLp_copy {β : Type} {body : zSt × Int32 → Option ((zSt × Int32) ⊕ β)} {T : zSt} {c o n fuel : Nat} {f : Nat → Int32} {r : β} (h : ∀ i, i < n → body (zPut T c (zSeg f (T.1 c) o i), nI i) = some (.inl (zI (zPut T c (zSeg f (T.1 c) o i)) c (o + i) (f i), nI (i + 1)))) (hx : body (zPut T c (zSeg f (T.1 c) o n), nI n) = some (.inr r)) (hf : n < fuel) : zLp body fuel (T, 0) = some r := by
  have := zLp_run (body := body) (fun i => (zPut T c (zSeg f (T.1 c) o i), nI i)) n fuel (fun i hi => by
    rw [h i hi, zI_zPut, zSeg_s]) hx hf
  simp only [zSeg_0, zPut_id] at this
  exact this
theorem kP_eq {m m' : Nat → Int32} (h : m' 1 = m 1) : kP m' = kP m := by unfold kP; rw [h]
theorem Rh_m {I : Nat → Nat → Int32} {h : Nat} {m m' : Nat → Int32} (e : ∀ k, k < 24 → m' k = m k) (r : Rh I h m) (hw : WFh m) : Rh I h m' := by
  have h6 := hw.2.1.2
  have ep : kP m' = kP m := kP_eq (e 1 (by omega))
  obtain ⟨r1, r2, r3, r4, r5⟩ := r
  refine ⟨fun k hk => by rw [e k (by omega)]; exact r1 k hk, by rw [e 4 (by omega)]; exact r2, by rw [e 5 (by omega)]; exact r3, fun l hl => by rw [e _ (by omega)]; exact r4 l hl, fun p hp => ?_⟩
  rw [ep] at hp
  rw [e _ (by omega), e _ (by omega)]
  have := r5 p hp
  unfold aFern at this ⊢
  rw [e 23 (by omega)]
  exact this
theorem WFh_m {m m' : Nat → Int32} (e : ∀ k, k < 24 → m' k = m k) (hw : WFh m) : WFh m' := by
  have h6 := hw.2.1.2
  have e0 : kL m' = kL m := by unfold kL; rw [e 0 (by omega)]
  have e1 : kP m' = kP m := kP_eq (e 1 (by omega))
  have e2 : kE m' = kE m := by unfold kE; rw [e 2 (by omega)]
  have e3 : kD m' = kD m := by unfold kD; rw [e 3 (by omega)]
  unfold WFh
  rw [e0, e1, e2, e3, e 0 (by omega), e 1 (by omega), e 2 (by omega), e 3 (by omega), e 4 (by omega), e 5 (by omega)]
  refine ⟨hw.1, hw.2.1, hw.2.2.1, hw.2.2.2.1, hw.2.2.2.2.1, hw.2.2.2.2.2.1, fun l hl => by rw [e _ (by omega)]; exact hw.2.2.2.2.2.2.1 l hl, fun p hp => by rw [e _ (by omega), e _ (by omega)]; exact hw.2.2.2.2.2.2.2 p hp⟩
theorem rNm_m {I : Nat → Nat → Int32} {J : Nat → Nat → Int64} {h : Nat} {nm : Nat → Int64} {m m' : Nat → Int32} (e : ∀ k, k < 24 → m' k = m k) (r : rNm I J h nm m) : rNm I J h nm m' := by
  have e0 : kL m' = kL m := by unfold kL; rw [e 0 (by omega)]
  have e1 : kP m' = kP m := kP_eq (e 1 (by omega))
  have e2 : kE m' = kE m := by unfold kE; rw [e 2 (by omega)]
  have e3 : kD m' = kD m := by unfold kD; rw [e 3 (by omega)]
  obtain ⟨W, a1, a2, a3, a4, a5, a6⟩ := r
  refine ⟨W, a1, by rw [e0, e1, e2, e3]; exact a2, fun k hk => ?_, fun s j hs hj => ?_, a5, by rw [e1]; exact a6⟩
  · obtain ⟨s, j, b1, b2, b3, b4, b5⟩ := a3 k hk
    exact ⟨s, j, b1, b2, b3, by rw [e s (by omega)]; exact b4, b5⟩
  · rw [e s (by omega)] at hj
    exact a4 s j hs hj
theorem rSen_m {I : Nat → Nat → Int32} {t : Nat} {m m' : Nat → Int32} (e : ∀ k, k < 24 → m' k = m k) (e' : ∀ k, 164 ≤ k → m' k = m k) (r : rSen I t m) : rSen I t m' := by
  have e0 : kL m' = kL m := by unfold kL; rw [e 0 (by omega)]
  have e2 : kE m' = kE m := by unfold kE; rw [e 2 (by omega)]
  have eg : (fun j => m' (166 + j)) = (fun j => m (166 + j)) := by funext j; exact e' _ (by omega)
  unfold rSen at r ⊢
  rw [e' 164 (by omega), e' 165 (by omega), e0, e2, eg]
  exact r
/-- what changes in the life 14 alone -/
theorem Rel_life {S S' T T' : zSt} (r : Rel S T) (a1 : S'.2 = S.2) (a2 : ∀ c, (c < 14 ∨ 29 ≤ c) → S'.1 c = S.1 c) (b1 : T'.2 = T.2) (b2 : ∀ c, c ≠ 2 → c ≠ 0 → T'.1 c = T.1 c) (b3 : ∀ j, j ≠ 0 → j ≠ 35 → T'.1 0 j = T.1 0 j) (b4 : ∀ k, (k < 24 ∨ 164 ≤ k) → T'.1 2 k = T.1 2 k) (hl : Rl S'.1 14 (T'.1 2)) (hv : WFl (T'.1 2)) : Rel S' T' := by
  obtain ⟨r1, ⟨q1, q2, q3, q4, q5, q6⟩, r3, r4, r5, r6, r7, r8, r9, r10⟩ := r
  have e1 : ∀ k, k < 24 → T'.1 2 k = T.1 2 k := fun k hk => b4 k (Or.inl hk)
  have e2 : ∀ k, 164 ≤ k → T'.1 2 k = T.1 2 k := fun k hk => b4 k (Or.inr hk)
  have h6 := q2.2.1.2
  unfold Rel
  rw [a1, b1, a2 1 (by omega), a2 2 (by omega), a2 44 (by omega), a2 0 (by omega), a2 256 (by omega), a2 260 (by omega), a2 255 (by omega), a2 240 (by omega), b2 1 (by omega) (by omega), b2 5 (by omega) (by omega), b2 10 (by omega) (by omega), b2 4 (by omega) (by omega), b2 13 (by omega) (by omega), b2 14 (by omega) (by omega), b2 17 (by omega) (by omega), b3 2 (by omega) (by omega), b3 24 (by omega) (by omega), b3 10 (by omega) (by omega), b3 25 (by omega) (by omega), b3 26 (by omega) (by omega), b3 29 (by omega) (by omega), b3 31 (by omega) (by omega), b3 39 (by omega) (by omega)]
  refine ⟨r1, ⟨Rh_cong (fun a h1 h2 => a2 a (by omega)) (Rh_m e1 q1 q2), WFh_m e1 q2, hl, hv, rNm_cong (fun a h1 h2 => a2 a (by omega)) (fun a _ _ => rfl) (rNm_m e1 q5), rSen_cong (fun a h1 h2 => a2 a (by omega)) (rSen_m e1 e2 q6)⟩, ?_, rImg_cong (fun a h1 h2 => a2 a (by omega)) (fun a _ _ => rfl) r4, rImg_cong (fun a h1 h2 => a2 a (by omega)) (fun a _ _ => rfl) r5, r6, r7, r8, r9, r10⟩
  have es : ∀ t, mSn (T'.1 2) (T.1 5) t = mSn (T.1 2) (T.1 5) t := by
    intro t
    funext k
    unfold mSn
    by_cases h : 24 ≤ k ∧ k < 164
    · rw [if_pos h, if_pos h]
    · rw [if_neg h, if_neg h, b4 k (by omega)]
  obtain ⟨nx, kp, c1, c2, c3, c4, c5, c6⟩ := rPast_cong h6 (fun a h1 h2 => a2 a (by omega)) r3
  exact ⟨nx, kp, c1, c2, c3, c4, c5, fun t ht => by rw [es t]; exact c6 t ht⟩
