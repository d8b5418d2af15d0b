/-! sentence: trees and their parts -/
def SO (g : Nat → Int32) (nL nE k : Nat) : Prop := sOk g nL nE (k + 1) k
def SC (g : Nat → Int32) (k : Nat) : List (Int32 × Int32 × Int32) := sComp g (k + 1) k
theorem sOk_up {g g' : Nat → Int32} {nL nE : Nat} : ∀ (f f' k : Nat), f ≤ f' → (∀ j, j < 4 * (k + 1) → g' j = g j) → sOk g nL nE f k → sOk g' nL nE f' k ∧ sComp g' f' k = sComp g f k
  | 0, _, _, _, _, h => False.elim h
  | f + 1, f', k, hf, e, h => by
    obtain ⟨f'', rfl⟩ : ∃ x, f' = x + 1 := ⟨f' - 1, by omega⟩
    obtain ⟨k6, h⟩ := h
    unfold sOk sComp
    rw [e (4 * k) (by omega), e (4 * k + 1) (by omega), e (4 * k + 2) (by omega), e (4 * k + 3) (by omega)]
    rcases h with ⟨w, a, ha, ea, h1⟩ | ⟨w, a, b, ha, hb, ea, eb, h1, h2⟩ | h
    · obtain ⟨i1, i2⟩ := sOk_up f f'' a (by omega) (fun j hj => e j (by omega)) h1
      refine ⟨⟨k6, Or.inl ⟨w, a, ha, ea, i1⟩⟩, ?_⟩
      rw [if_pos w, if_pos w, ea, nI_clamp (by omega), i2]
    · obtain ⟨i1, i2⟩ := sOk_up f f'' a (by omega) (fun j hj => e j (by omega)) h1
      obtain ⟨i3, i4⟩ := sOk_up f f'' b (by omega) (fun j hj => e j (by omega)) h2
      refine ⟨⟨k6, Or.inr (Or.inl ⟨w, a, b, ha, hb, ea, eb, i1, i3⟩)⟩, ?_⟩
      rw [ea, eb, nI_clamp (by omega), nI_clamp (by omega), i2, i4]
    · refine ⟨⟨k6, Or.inr (Or.inr h)⟩, ?_⟩
      have n : ¬ g (4 * k) = 1 ∧ ¬ g (4 * k) = 2 ∧ ¬ g (4 * k) = 3 := by
        rcases h with w | w | ⟨w | w, -⟩ | ⟨w, -⟩ | ⟨w | w | w, -⟩ <;> rw [w] <;> decide
      rw [if_neg n.1, if_neg n.2.1, if_neg n.2.2, if_neg n.1, if_neg n.2.1, if_neg n.2.2]
section Sen
variable {g g' : Nat → Int32} {nL nE n : Nat}
theorem SO_up {k : Nat} (h : SO g nL nE k) (e : ∀ j, j < 4 * (k + 1) → g' j = g j) : SO g' nL nE k ∧ SC g' k = SC g k := sOk_up (k + 1) (k + 1) k (Nat.le_refl _) e h
theorem SO_not {a : Nat} (h : SO g nL nE a) (ha : a < n) (hn : n < 60) (e0 : g (4 * n) = 1) (e1 : g (4 * n + 1) = nI a) : SO g nL nE n ∧ SC g n = SC g a ++ [(14, 0, 0)] := by
  obtain ⟨i1, i2⟩ := sOk_up (a + 1) n a (by omega) (fun _ _ => rfl) h
  refine ⟨⟨hn, Or.inl ⟨e0, a, ha, e1, i1⟩⟩, ?_⟩
  unfold SC
  rw [sComp, if_pos e0, e1, nI_clamp (by omega), i2]
theorem SO_join {a b : Nat} {z : Bool} (h : SO g nL nE a) (h' : SO g nL nE b) (ha : a < n) (hb : b < n) (hn : n < 60) (e0 : g (4 * n) = if z = true then 2 else 3) (e1 : g (4 * n + 1) = nI a) (e2 : g (4 * n + 2) = nI b) : SO g nL nE n ∧ SC g n = SC g a ++ SC g b ++ [(if z = true then 13 else 12, 0, 0)] := by
  obtain ⟨i1, i2⟩ := sOk_up (a + 1) n a (by omega) (fun _ _ => rfl) h
  obtain ⟨i3, i4⟩ := sOk_up (b + 1) n b (by omega) (fun _ _ => rfl) h'
  refine ⟨⟨hn, Or.inr (Or.inl ⟨?_, a, b, ha, hb, e1, e2, i1, i3⟩)⟩, ?_⟩
  · rw [e0]; cases z
    · exact Or.inr rfl
    · exact Or.inl rfl
  · unfold SC
    rw [sComp, e0, e1, e2, nI_clamp (by omega), nI_clamp (by omega), i2, i4]
    cases z
    · rw [if_neg (by decide), if_neg (by decide), if_pos (by decide)]; rfl
    · rw [if_neg (by decide), if_pos (by decide)]; rfl
theorem SO_leaf (hn : n < 60) (ok : lOk (g (4 * n)) (g (4 * n + 1)) (g (4 * n + 2)) (g (4 * n + 3)) nL nE) : SO g nL nE n ∧ SC g n = [sLeaf (g (4 * n)) (g (4 * n + 1)) (g (4 * n + 2)) (g (4 * n + 3))] := by
  have nn : ¬ g (4 * n) = 1 ∧ ¬ g (4 * n) = 2 ∧ ¬ g (4 * n) = 3 := by
    rcases ok with w | w | ⟨w | w, -⟩ | ⟨w, -⟩ | ⟨w | w | w, -⟩ <;> rw [w] <;> decide
  refine ⟨⟨hn, Or.inr (Or.inr ok)⟩, ?_⟩
  unfold SC
  rw [sComp, if_neg nn.1, if_neg nn.2.1, if_neg nn.2.2]
end Sen
def sRow (S : zSt) (p : Nat) (l : List (Int32 × Int32 × Int32)) : Prop := ∀ j x, l[j]? = some x → S.1 251 (p + j) = x.1 ∧ S.1 252 (p + j) = x.2.1 ∧ S.1 253 (p + j) = x.2.2
def sOld (p : Nat) (S T S' T' : zSt) : Prop := (∀ j, j < p → S'.1 251 j = S.1 251 j ∧ S'.1 252 j = S.1 252 j ∧ S'.1 253 j = S.1 253 j) ∧ ∀ j, j < 4 * p → T'.1 18 j = T.1 18 j
theorem sOld.refl (p : Nat) (S T : zSt) : sOld p S T S T := ⟨fun _ _ => ⟨rfl, rfl, rfl⟩, fun _ _ => rfl⟩
theorem sOld.trans {p p' : Nat} {S T S' T' S'' T'' : zSt} (h : sOld p S T S' T') (h' : sOld p' S' T' S'' T'') (hp : p ≤ p') : sOld p S T S'' T'' := ⟨fun j hj => ⟨((h'.1 j (by omega)).1).trans (h.1 j hj).1, ((h'.1 j (by omega)).2.1).trans (h.1 j hj).2.1, ((h'.1 j (by omega)).2.2).trans (h.1 j hj).2.2⟩, fun j hj => (h'.2 j (by omega)).trans (h.2 j hj)⟩
theorem sRow_old {q p : Nat} {S T S' T' : zSt} {l : List (Int32 × Int32 × Int32)} (h : sRow S q l) (o : sOld p S T S' T') (hp : q + l.length ≤ p) : sRow S' q l := fun j x hx => by
  have hj : j < l.length := (List.getElem?_eq_some_iff.mp hx).1
  obtain ⟨a, b, c⟩ := o.1 (q + j) (by omega)
  rw [a, b, c]
  exact h j x hx
theorem sRow_app {S : zSt} {p : Nat} {l l' : List (Int32 × Int32 × Int32)} (h : sRow S p l) (h' : sRow S (p + l.length) l') : sRow S p (l ++ l') := fun j x hx => by
  by_cases q : j < l.length
  · rw [List.getElem?_append_left q] at hx; exact h j x hx
  · rw [List.getElem?_append_right (by omega)] at hx
    have := h' (j - l.length) x hx
    rw [show p + l.length + (j - l.length) = p + j by omega] at this
    exact this
theorem sRow_one {S : zSt} {p : Nat} {x : Int32 × Int32 × Int32} (h1 : S.1 251 p = x.1) (h2 : S.1 252 p = x.2.1) (h3 : S.1 253 p = x.2.2) : sRow S p [x] := fun j y hy => by
  cases j with
  | zero => cases (Option.some.inj hy); exact ⟨h1, h2, h3⟩
  | succ j => simp at hy
def sFr (S0 T0 S T : zSt) : Prop := (∀ c, c ≠ 1 → (c < 250 ∨ 254 ≤ c) → S.1 c = S0.1 c) ∧ (∀ c, c ≠ 1 → S.2 c = S0.2 c) ∧ (∀ c, c ≠ 0 → c ≠ 18 → T.1 c = T0.1 c) ∧ (∀ c, c ≠ 0 → T.2 c = T0.2 c) ∧ ∀ j, (j < 3 ∨ 14 ≤ j) → (j < 41 ∨ 44 < j) → T.1 0 j = T0.1 0 j
def sQ (S0 T0 : zSt) (p o d : Nat) (S T : zSt) : Prop := sFr S0 T0 S T ∧ S.1 250 4 = nI p ∧ S.1 250 5 = nI o ∧ T.1 0 41 = nI p ∧ T.1 0 42 = nI o ∧ T.1 0 43 = nI d
/-- the parts from p on that a piece of a sentence adds -/
def sNw (nL nE p p' : Nat) (S T S' T' : zSt) : Prop := sOld p S T S' T' ∧ p < p' ∧ SO (T'.1 18) nL nE (p' - 1) ∧ (SC (T'.1 18) (p' - 1)).length = p' - p ∧ sRow S' p (SC (T'.1 18) (p' - 1))
section Sen2
variable {S0 T0 S T : zSt} {b : Nat → Nat} {L M lo p o d : Nat}
theorem sFr_stb : stb (sFr S0 T0) := fun S S' T T' h1 h2 h3 h => ⟨fun c c1 c2 => ((h1 c c1).1).trans (h.1 c c1 c2), fun c c1 => ((h1 c c1).2).trans (h.2.1 c c1), fun c c0 c16 => ((h2 c c0).1).trans (h.2.2.1 c c0 c16), fun c c0 => ((h2 c c0).2).trans (h.2.2.2.1 c c0), fun j hj j38 => (h3 j hj).trans (h.2.2.2.2 j hj j38)⟩
theorem sQ_stb : stb (sQ S0 T0 p o d) := fun S S' T T' h1 h2 h3 h => ⟨sFr_stb S S' T T' h1 h2 h3 h.1, by rw [(h1 250 (by omega)).1]; exact h.2.1, by rw [(h1 250 (by omega)).1]; exact h.2.2.1, by rw [h3 41 (by omega)]; exact h.2.2.2.1, by rw [h3 42 (by omega)]; exact h.2.2.2.2.1, by rw [h3 43 (by omega)]; exact h.2.2.2.2.2⟩
def cAdd (S : zSt) (p : Nat) (k a c : Int32) : zSt := zI (zI (zI (zI S 251 p k) 252 p a) 253 p c) 250 4 (nI (p + 1))
def mAdd (T : zSt) (p : Nat) (k a c e : Int32) : zSt := zI (zI (zI (zI (zI T 18 (4 * p) k) 18 (4 * p + 1) a) 18 (4 * p + 2) c) 18 (4 * p + 3) e) 0 41 (nI (p + 1))
theorem c_add (h : S.1 250 4 = nI p) (hp : p < 40) {k a c : Int32} (ha : ¬ a = -1) (hc : ¬ c = -1) : fX8_add S 250 k a c = some (1, cAdd S p k a c) := by
  unfold fX8_add cAdd
  rw [zBr_q ha, zBr_q hc, h, show (40 : Int32) = nI 40 from rfl, zlt_t hp (by omega), zIx_nI hp (by omega), zGd_t, nI_clamp (by omega), zLt_s, zI_ne (show 250 ≠ 251 by omega), h, zIx_nI hp (by omega), zGd_t, nI_clamp (by omega), zLt_s, zI_ne (show 250 ≠ 252 by omega), zI_ne (show 250 ≠ 251 by omega), h, zIx_nI hp (by omega), zGd_t, nI_clamp (by omega), zLt_s, zI_ne (show 250 ≠ 253 by omega), zI_ne (show 250 ≠ 252 by omega), zI_ne (show 250 ≠ 251 by omega), h, nI_1, zLt_s]
theorem m_says (h : T.1 0 41 = nI p) (hp : p < 60) (k a c e : Int32) : fX12_saysOne T k a c e = some (nI p, mAdd T p k a c e) := by
  unfold fX12_saysOne mAdd
  have n4k : (4 : Int32) * nI p = nI (4 * p) := by rw [show (4 : Int32) = nI 4 from rfl, pk_mul]
  rw [h, n4k, zLt_s, zIx_nI (show 4 * p < 240 by omega) (by omega), zGd_t, zLt_s, nI_clamp (by omega), show nI (4 * p) + 1 = nI (4 * p + 1) from nI_1 _, show nI (4 * p) + 2 = nI (4 * p + 2) from n4 p 2, show nI (4 * p) + 3 = nI (4 * p + 3) from n4 p 3, zIx_nI (show 4 * p + 1 < 240 by omega) (by omega), zGd_t, zLt_s, nI_clamp (by omega), zIx_nI (show 4 * p + 2 < 240 by omega) (by omega), zGd_t, zLt_s, nI_clamp (by omega), zIx_nI (show 4 * p + 3 < 240 by omega) (by omega), zGd_t, zLt_s, nI_clamp (by omega), zI_ne (show 0 ≠ 18 by omega), zI_ne (show 0 ≠ 18 by omega), zI_ne (show 0 ≠ 18 by omega), zI_ne (show 0 ≠ 18 by omega), h, nI_1, zLt_s, zI_at, if_pos ⟨rfl, rfl⟩, show (1 : Int32) = nI 1 from rfl, pk_sub (by omega), Nat.add_sub_cancel]
theorem P_part (h : PI (sQ S0 T0 p o d) b L M lo S T) (k a c k' a' c' e' : Int32) : PI (sQ S0 T0 (p + 1) o d) b L M lo (cAdd S p k a c) (mAdd T p k' a' c' e') ∧ sOld p S T (cAdd S p k a c) (mAdd T p k' a' c' e') := by
  obtain ⟨fr, q1, q2, q3, q4, q5⟩ := h.1
  have sn : ∀ c', c' < 250 ∨ 254 ≤ c' → (cAdd S p k a c).1 c' = S.1 c' := fun c' hc => by unfold cAdd; rw [zI_ne (by omega), zI_ne (by omega), zI_ne (by omega), zI_ne (by omega)]
  have tn : ∀ x, x ≠ 0 → x ≠ 18 → (mAdd T p k' a' c' e').1 x = T.1 x := fun x h1 h2 => by unfold mAdd; rw [zI_ne h1, zI_ne h2, zI_ne h2, zI_ne h2, zI_ne h2]
  have t0 : ∀ j, j ≠ 41 → (mAdd T p k' a' c' e').1 0 j = T.1 0 j := fun j hj => by unfold mAdd; rw [zI_at, if_neg (by omega), zI_ne (by omega), zI_ne (by omega), zI_ne (by omega), zI_ne (by omega)]
  refine ⟨PI_upd h (sn 1 (by omega)) rfl (sn 2 (by omega)) rfl (fun j _ _ => t0 j (by omega)) rfl (tn 1 (by omega) (by omega)) ⟨⟨fun x h1 h2 => by rw [sn x h2]; exact fr.1 x h1 h2, fr.2.1, fun x h1 h2 => by rw [tn x h1 h2]; exact fr.2.2.1 x h1 h2, fr.2.2.2.1, fun j h1 h2 => by rw [t0 j (by omega)]; exact fr.2.2.2.2 j h1 h2⟩, ?_, ?_, ?_, by rw [t0 42 (by omega)]; exact q4, by rw [t0 43 (by omega)]; exact q5⟩, ⟨fun j hj => ⟨?_, ?_, ?_⟩, fun j hj => ?_⟩⟩
  · unfold cAdd; rw [zI_at, if_pos ⟨rfl, rfl⟩]
  · unfold cAdd; rw [zI_at, if_neg (by omega), zI_ne (by omega), zI_ne (by omega), zI_ne (by omega)]; exact q2
  · unfold mAdd; rw [zI_at, if_pos ⟨rfl, rfl⟩]
  · unfold cAdd; rw [zI_ne (by omega), zI_ne (by omega), zI_ne (by omega), zI_at, if_neg (by omega)]
  · unfold cAdd; rw [zI_ne (by omega), zI_ne (by omega), zI_at, if_neg (by omega), zI_ne (by omega)]
  · unfold cAdd; rw [zI_ne (by omega), zI_at, if_neg (by omega), zI_ne (by omega), zI_ne (by omega)]
  · unfold mAdd; rw [zI_ne (by omega), zI_at, if_neg (by omega), zI_at, if_neg (by omega), zI_at, if_neg (by omega), zI_at, if_neg (by omega)]
theorem cAdd_at (k a c : Int32) : (cAdd S p k a c).1 251 p = k ∧ (cAdd S p k a c).1 252 p = a ∧ (cAdd S p k a c).1 253 p = c := by
  unfold cAdd
  refine ⟨?_, ?_, ?_⟩
  · rw [zI_ne (by omega), zI_ne (by omega), zI_ne (by omega), zI_at, if_pos ⟨rfl, rfl⟩]
  · rw [zI_ne (by omega), zI_ne (by omega), zI_at, if_pos ⟨rfl, rfl⟩]
  · rw [zI_ne (by omega), zI_at, if_pos ⟨rfl, rfl⟩]
theorem mAdd_at (k a c e : Int32) : (mAdd T p k a c e).1 18 (4 * p) = k ∧ (mAdd T p k a c e).1 18 (4 * p + 1) = a ∧ (mAdd T p k a c e).1 18 (4 * p + 2) = c ∧ (mAdd T p k a c e).1 18 (4 * p + 3) = e := by
  unfold mAdd
  refine ⟨?_, ?_, ?_, ?_⟩
  · rw [zI_ne (by omega), zI_at, if_neg (by omega), zI_at, if_neg (by omega), zI_at, if_neg (by omega), zI_at, if_pos ⟨rfl, rfl⟩]
  · rw [zI_ne (by omega), zI_at, if_neg (by omega), zI_at, if_neg (by omega), zI_at, if_pos ⟨rfl, rfl⟩]
  · rw [zI_ne (by omega), zI_at, if_neg (by omega), zI_at, if_pos ⟨rfl, rfl⟩]
  · rw [zI_ne (by omega), zI_at, if_pos ⟨rfl, rfl⟩]
end Sen2
