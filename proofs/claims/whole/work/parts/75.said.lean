/-! said: the stack run, and the call -/
theorem sLeaf_k {w x y r : Int32} {a b : Nat} (ok : lOk w x y r a b) : ¬ (sLeaf w x y r).1 = 13 ∧ ¬ (sLeaf w x y r).1 = 12 ∧ ¬ (sLeaf w x y r).1 = 14 := by
  rcases ok with rfl | rfl | ⟨rfl | rfl, -⟩ | ⟨rfl, -⟩ | ⟨rfl | rfl | rfl, -⟩
  · exact ⟨show ¬ (15 : Int32) = 13 by decide, show ¬ (15 : Int32) = 12 by decide, show ¬ (15 : Int32) = 14 by decide⟩
  · exact ⟨show ¬ (3 : Int32) = 13 by decide, show ¬ (3 : Int32) = 12 by decide, show ¬ (3 : Int32) = 14 by decide⟩
  · exact ⟨show ¬ (16 : Int32) = 13 by decide, show ¬ (16 : Int32) = 12 by decide, show ¬ (16 : Int32) = 14 by decide⟩
  · exact ⟨show ¬ (17 : Int32) = 13 by decide, show ¬ (17 : Int32) = 12 by decide, show ¬ (17 : Int32) = 14 by decide⟩
  · exact ⟨show ¬ (18 : Int32) = 13 by decide, show ¬ (18 : Int32) = 12 by decide, show ¬ (18 : Int32) = 14 by decide⟩
  · exact ⟨show ¬ (19 : Int32) = 13 by decide, show ¬ (19 : Int32) = 12 by decide, show ¬ (19 : Int32) = 14 by decide⟩
  · exact ⟨show ¬ (20 : Int32) = 13 by decide, show ¬ (20 : Int32) = 12 by decide, show ¬ (20 : Int32) = 14 by decide⟩
  · exact ⟨show ¬ (21 : Int32) = 13 by decide, show ¬ (21 : Int32) = 12 by decide, show ¬ (21 : Int32) = 14 by decide⟩
section Said3
variable {S T : zSt} {m : Nat → Int32} {N : Nat}
def aAll (m : Nat → Int32) : Int32 := ((1 : Int32) <<< (nI (kP m) &&& 31)) - 1
theorem st_leaf (hh : Rh S.1 4 m) (hw : WFh m) (hl : Rl S.1 14 m) (hv : WFl m) (hN : S.1 245 4 = nI N) (h40 : N ≤ 40) {n v : Nat} (hn : n ≤ v) (hvN : v < N) (F : Nat → Int32) {w x y r : Int32} (ok : lOk w x y r (kL m) (kE m)) (e1 : S.1 246 v = (sLeaf w x y r).1) (e2 : S.1 247 v = (sLeaf w x y r).2.1) (e3 : S.1 248 v = (sLeaf w x y r).2.2) : fX8_plantsOf_13 245 14 (aAll m) (zPut S 249 F, nI n, nI v) = some (.inl (zPut S 249 (upd F n (zBits (fun p => aL m p w x y r) (kP m))), nI (n + 1), nI (v + 1))) := by
  have h6 := hw.2.1.2
  obtain ⟨k13, k12, k14⟩ := sLeaf_k ok
  have hh' : Rh (zPut S 249 F).1 4 m := Rh_cong (fun a h1 h2 => zPut_ne (by omega)) hh
  have hl' : Rl (zPut S 249 F).1 14 m := Rl_cong h6 (fun a h1 h2 => zPut_ne (by omega)) hl
  have p1 : (zPut S 249 F).1 246 = S.1 246 := zPut_ne (by omega)
  have p2 : (zPut S 249 F).1 247 = S.1 247 := zPut_ne (by omega)
  have p3 : (zPut S 249 F).1 248 = S.1 248 := zPut_ne (by omega)
  have p0 : (zPut S 249 F).1 245 = S.1 245 := zPut_ne (by omega)
  have th := c_that (S := zPut S 249 F) hh' hw hl' hv (show v < 40 by omega) ok (by rw [p1]; exact e1) (by rw [p2]; exact e2) (by rw [p3]; exact e3)
  unfold fX8_plantsOf_13 fX8_plantsOf_51 fX8_plantsOf_122 fX8_plantsOf_162 fX8_plantsOf_195
  dsimp only
  rw [p0, hN, zle_f hvN (by omega), zIx_nI (show v < 40 by omega) (by omega)]
  simp only [zGd_t]
  rw [nI_clamp (show v < 2 ^ 31 by omega), show (zPut S 249 F).1 (245 + 1) v = S.1 246 v by rw [← p1], e1, zBr_q k13, zBr_q k12, zBr_T, zBr_q k14, zBr_T, zBr_q k14, th, zBd_s, zIx_nI (show n < 40 by omega) (by omega), zGd_t, zLt_s, zLt_s, zLt_s, nI_clamp (by omega), nI_1, nI_1]
  rw [show 245 + 4 = 249 from rfl, zI_zPut]
theorem st_not (hN : S.1 245 4 = nI N) (h40 : N ≤ 40) {n v : Nat} (hn : n + 1 ≤ v) (hvN : v < N) (F : Nat → Int32) (e1 : S.1 246 v = 14) (V : Int32) : fX8_plantsOf_13 245 14 V (zPut S 249 F, nI (n + 1), nI v) = some (.inl (zPut S 249 (upd F n (V &&& (F n ^^^ (-1)))), nI (n + 1), nI (v + 1))) := by
  have p1 : (zPut S 249 F).1 246 = S.1 246 := zPut_ne (by omega)
  have p0 : (zPut S 249 F).1 245 = S.1 245 := zPut_ne (by omega)
  have s1 : nI (n + 1) - (1 : Int32) = nI n := by rw [show (1 : Int32) = nI 1 from rfl, pk_sub (by omega), Nat.add_sub_cancel]
  unfold fX8_plantsOf_13 fX8_plantsOf_51 fX8_plantsOf_122 fX8_plantsOf_195
  dsimp only
  rw [p0, hN, zle_f hvN (by omega), zIx_nI (show v < 40 by omega) (by omega)]
  simp only [zGd_t, s1]
  rw [nI_clamp (show v < 2 ^ 31 by omega), show (zPut S 249 F).1 (245 + 1) v = S.1 246 v by rw [← p1], e1, zBr_q (show ¬ (14 : Int32) = 13 by decide), zBr_q (show ¬ (14 : Int32) = 12 by decide), zBr_T, zBr_p (show (14 : Int32) = 14 from rfl), zBr_q (show ¬ nI (n + 1) < (1 : Int32) from fun q => by have := (nI_ltI (b := 1) (by omega) (by omega)).mp q; omega), zIx_nI (show n < 40 by omega) (by omega), zGd_t, zGd_t, zLt_s, zLt_s, nI_clamp (by omega), nI_1]
  rw [show 245 + 4 = 249 from rfl, zPut_eq, zI_zPut]
theorem st_join (hN : S.1 245 4 = nI N) (h40 : N ≤ 40) {n v : Nat} (hn : n + 2 ≤ v) (hvN : v < N) (F : Nat → Int32) {b : Bool} (e1 : S.1 246 v = if b = true then 13 else 12) (V : Int32) : fX8_plantsOf_13 245 14 V (zPut S 249 F, nI (n + 2), nI v) = some (.inl (zPut S 249 (upd F n (if b = true then F n &&& F (n + 1) else F n ||| F (n + 1))), nI (n + 1), nI (v + 1))) := by
  have p1 : (zPut S 249 F).1 246 = S.1 246 := zPut_ne (by omega)
  have p0 : (zPut S 249 F).1 245 = S.1 245 := zPut_ne (by omega)
  have s0 : nI (n + 2) + (-1 : Int32) = nI (n + 1) := pk_m1 (n + 1)
  have s1 : nI (n + 1) - (1 : Int32) = nI n := by rw [show (1 : Int32) = nI 1 from rfl, pk_sub (by omega), Nat.add_sub_cancel]
  have big : ¬ nI (n + 2) < (2 : Int32) := fun q => by have := (nI_ltI (b := 2) (by omega) (by omega)).mp q; omega
  unfold fX8_plantsOf_13 fX8_plantsOf_46 fX8_plantsOf_51 fX8_plantsOf_118 fX8_plantsOf_195
  dsimp only
  rw [p0, hN, zle_f hvN (by omega), zIx_nI (show v < 40 by omega) (by omega)]
  simp only [zGd_t, zLt_s, s0, s1]
  rw [nI_clamp (show v < 2 ^ 31 by omega), show (zPut S 249 F).1 (245 + 1) v = S.1 246 v by rw [← p1], e1]
  cases b
  · rw [if_neg (show ¬ false = true by decide), zBr_q (show ¬ (12 : Int32) = 13 by decide), zBr_p (show (12 : Int32) = 12 from rfl), zBr_q (show ¬ (1 : Int32) = 0 by decide), zBr_q big, zBr_q (show ¬ (12 : Int32) = 13 by decide), zIx_nI (show n < 40 by omega) (by omega), zGd_t, zIx_nI (show n + 1 < 40 by omega) (by omega), zGd_t, zGd_t, nI_clamp (by omega), nI_clamp (by omega), nI_1]
    rw [show 245 + 4 = 249 from rfl, zPut_eq, zI_zPut, if_neg (show ¬ false = true by decide)]
  · rw [if_pos rfl, zBr_p (show (13 : Int32) = 13 from rfl), zBr_q (show ¬ (1 : Int32) = 0 by decide), zBr_q big, zBr_p (show (13 : Int32) = 13 from rfl), zIx_nI (show n < 40 by omega) (by omega), zGd_t, zIx_nI (show n + 1 < 40 by omega) (by omega), zGd_t, zGd_t, nI_clamp (by omega), nI_clamp (by omega), nI_1]
    rw [show 245 + 4 = 249 from rfl, zPut_eq, zI_zPut, if_pos rfl]
theorem st_run (hh : Rh S.1 4 m) (hw : WFh m) (hl : Rl S.1 14 m) (hv : WFl m) (hN : S.1 245 4 = nI N) (h40 : N ≤ 40) : ∀ f k, sOk (fun j => m (166 + j)) (kL m) (kE m) f k → ∀ n v F, n ≤ v → v + (sComp (fun j => m (166 + j)) f k).length ≤ N → (∀ j x, (sComp (fun j => m (166 + j)) f k)[j]? = some x → S.1 246 (v + j) = x.1 ∧ S.1 247 (v + j) = x.2.1 ∧ S.1 248 (v + j) = x.2.2) → ∃ F', zRun (fX8_plantsOf_13 245 14 (aAll m)) (sComp (fun j => m (166 + j)) f k).length (zPut S 249 F, nI n, nI v) (zPut S 249 F', nI (n + 1), nI (v + (sComp (fun j => m (166 + j)) f k).length)) ∧ F' n = zBits (fun p => hV m p f k) (kP m) ∧ ∀ i, i < n → F' i = F i
  | 0, k, h => h.elim
  | f + 1, k, ⟨hk, h⟩ => by
    intro n v F hn hlen rows
    have h6 := hw.2.1.2
    dsimp only at h
    have leaf : lOk (m (166 + 4 * k)) (m (166 + (4 * k + 1))) (m (166 + (4 * k + 2))) (m (166 + (4 * k + 3))) (kL m) (kE m) → sComp (fun j => m (166 + j)) (f + 1) k = [sLeaf (m (166 + 4 * k)) (m (166 + (4 * k + 1))) (m (166 + (4 * k + 2))) (m (166 + (4 * k + 3)))] → (∀ p, hV m p (f + 1) k = aL m p (m (166 + 4 * k)) (m (166 + (4 * k + 1))) (m (166 + (4 * k + 2))) (m (166 + (4 * k + 3)))) → ∃ F', zRun (fX8_plantsOf_13 245 14 (aAll m)) (sComp (fun j => m (166 + j)) (f + 1) k).length (zPut S 249 F, nI n, nI v) (zPut S 249 F', nI (n + 1), nI (v + (sComp (fun j => m (166 + j)) (f + 1) k).length)) ∧ F' n = zBits (fun p => hV m p (f + 1) k) (kP m) ∧ ∀ i, i < n → F' i = F i := by
      intro ok ec eh
      rw [ec] at hlen rows ⊢
      rw [List.length_singleton] at hlen ⊢
      obtain ⟨g1, g2, g3⟩ := rows 0 _ rfl
      rw [Nat.add_zero] at g1 g2 g3
      refine ⟨_, zRun_one (st_leaf hh hw hl hv hN h40 hn (by omega) F ok g1 g2 g3), ?_, fun i hi => pk_un (by omega)⟩
      rw [pk_us]
      exact zBits_cong (fun p _ => (eh p).symm)
    rcases h with ⟨h, a, ha, ea, oa⟩ | ⟨h, a, b, ha, hb, ea, eb, oa, ob⟩ | h
    · have ec : sComp (fun j => m (166 + j)) (f + 1) k = sComp (fun j => m (166 + j)) f a ++ [(14, 0, 0)] := by
        rw [sComp]
        rw [if_pos h, ea, nI_clamp (by omega)]
      have eh : ∀ p, hV m p (f + 1) k = !hV m p f a := fun p => by rw [hV, if_pos h, ea, nI_clamp (by omega)]
      rw [ec] at hlen rows ⊢
      rw [List.length_append, List.length_singleton] at hlen ⊢
      obtain ⟨F1, r1, r2, r3⟩ := st_run hh hw hl hv hN h40 f a oa n v F hn (by omega) (fun j x hx => rows j x (by rw [List.getElem?_append_left (List.getElem?_eq_some_iff.mp hx).1]; exact hx))
      obtain ⟨g1, -, -⟩ := rows (sComp (fun j => m (166 + j)) f a).length (14, 0, 0) (by rw [List.getElem?_append_right (Nat.le_refl _), Nat.sub_self]; rfl)
      have cl : 1 ≤ (sComp (fun j => m (166 + j)) f a).length := by
        refine Nat.pos_of_ne_zero (fun q => ?_)
        rw [q] at r1
        have : (zPut S 249 F1, nI (n + 1), nI (v + 0)) = (zPut S 249 F, nI n, nI v) := r1
        have e2 : nI (n + 1) = nI n := congrArg (fun z => z.2.1) this
        have := (nI_eq (a := n + 1) (b := n) (by omega) (by omega)).mp e2
        omega
      have st := st_not hN h40 (n := n) (v := v + (sComp (fun j => m (166 + j)) f a).length) (by omega) (by omega) F1 g1 (aAll m)
      refine ⟨_, zRun_add r1 (zRun_one st), ?_, fun i hi => by rw [pk_un (by omega)]; exact r3 i hi⟩
      rw [pk_us, r2]
      unfold aAll
      rw [zBits_not _ h6]
      exact zBits_cong (fun p _ => (eh p).symm)
    · obtain ⟨c, hc⟩ : ∃ c : Bool, (c = true ∧ m (166 + 4 * k) = 2) ∨ (c = false ∧ m (166 + 4 * k) = 3) := by
        rcases h with h | h
        · exact ⟨true, Or.inl ⟨rfl, h⟩⟩
        · exact ⟨false, Or.inr ⟨rfl, h⟩⟩
      have ec : sComp (fun j => m (166 + j)) (f + 1) k = sComp (fun j => m (166 + j)) f a ++ sComp (fun j => m (166 + j)) f b ++ [((if c = true then 13 else 12), 0, 0)] := by
        rw [sComp]
        rcases hc with ⟨rfl, hc⟩ | ⟨rfl, hc⟩
        · rw [if_neg (by rw [hc]; decide), if_pos hc, ea, eb, nI_clamp (by omega), nI_clamp (by omega)]; rfl
        · rw [if_neg (by rw [hc]; decide), if_neg (by rw [hc]; decide), if_pos hc, ea, eb, nI_clamp (by omega), nI_clamp (by omega)]; rfl
      have eh : ∀ p, hV m p (f + 1) k = if c = true then hV m p f a && hV m p f b else hV m p f a || hV m p f b := fun p => by
        rw [hV]
        rcases hc with ⟨rfl, hc⟩ | ⟨rfl, hc⟩
        · rw [if_neg (by rw [hc]; decide), if_pos hc, ea, eb, nI_clamp (by omega), nI_clamp (by omega)]; rfl
        · rw [if_neg (by rw [hc]; decide), if_neg (by rw [hc]; decide), if_pos hc, ea, eb, nI_clamp (by omega), nI_clamp (by omega)]; rfl
      rw [ec] at hlen rows ⊢
      obtain ⟨A, hA⟩ : ∃ A, A = sComp (fun j => m (166 + j)) f a := ⟨_, rfl⟩
      obtain ⟨B, hB⟩ : ∃ B, B = sComp (fun j => m (166 + j)) f b := ⟨_, rfl⟩
      rw [← hA, ← hB] at hlen rows ⊢
      rw [List.length_append, List.length_append, List.length_singleton] at hlen ⊢
      obtain ⟨F1, r1, r2, r3⟩ := st_run hh hw hl hv hN h40 f a oa n v F hn (by rw [← hA]; omega) (fun j x hx => by
        rw [← hA] at hx
        have hj := (List.getElem?_eq_some_iff.mp hx).1
        exact rows j x (by rw [List.getElem?_append_left (by rw [List.length_append]; omega), List.getElem?_append_left hj]; exact hx))
      rw [← hA] at r1
      have cl : 1 ≤ A.length := by
        refine Nat.pos_of_ne_zero (fun q => ?_)
        rw [q] at r1
        have : (zPut S 249 F1, nI (n + 1), nI (v + 0)) = (zPut S 249 F, nI n, nI v) := r1
        have e2 : nI (n + 1) = nI n := congrArg (fun z => z.2.1) this
        have := (nI_eq (a := n + 1) (b := n) (by omega) (by omega)).mp e2
        omega
      obtain ⟨F2, q1, q2, q3⟩ := st_run hh hw hl hv hN h40 f b ob (n + 1) (v + A.length) F1 (by omega) (by rw [← hB]; omega) (fun j x hx => by
        rw [← hB] at hx
        have hj := (List.getElem?_eq_some_iff.mp hx).1
        have := rows (A.length + j) x (by rw [List.getElem?_append_left (by rw [List.length_append]; omega), List.getElem?_append_right (by omega), show A.length + j - A.length = j by omega]; exact hx)
        rw [← Nat.add_assoc] at this
        exact this)
      rw [← hB] at q1
      have cl2 : 1 ≤ B.length := by
        refine Nat.pos_of_ne_zero (fun q => ?_)
        rw [q] at q1
        have : (zPut S 249 F2, nI (n + 1 + 1), nI (v + A.length + 0)) = (zPut S 249 F1, nI (n + 1), nI (v + A.length)) := q1
        have e2 : nI (n + 1 + 1) = nI (n + 1) := congrArg (fun z => z.2.1) this
        have := (nI_eq (a := n + 1 + 1) (b := n + 1) (by omega) (by omega)).mp e2
        omega
      obtain ⟨g1, -, -⟩ := rows (A.length + B.length) _ (by rw [List.getElem?_append_right (by rw [List.length_append]; omega), List.length_append, Nat.sub_self]; rfl)
      have st := st_join hN h40 (n := n) (v := v + (A.length + B.length)) (by omega) (by omega) F2 (b := c) g1 (aAll m)
      rw [← Nat.add_assoc] at st
      have run := zRun_add (zRun_add r1 q1) (zRun_one st)
      refine ⟨upd F2 n (if c = true then F2 n &&& F2 (n + 1) else F2 n ||| F2 (n + 1)), ?_, ?_, fun i hi => by rw [pk_un (by omega), q3 i (by omega)]; exact r3 i hi⟩
      · rw [show v + (A.length + B.length + 1) = v + A.length + B.length + 1 by omega]
        exact run
      · rw [pk_us, q2, q3 n (by omega), r2]
        cases c
        · rw [if_neg (show ¬ false = true by decide), zBits_or _ _ (by omega)]
          exact zBits_cong (fun p _ => by rw [eh p]; rfl)
        · rw [if_pos rfl, zBits_and _ _ (by omega)]
          exact zBits_cong (fun p _ => by rw [eh p]; rfl)
    · have n3 : ¬ m (166 + 4 * k) = 1 ∧ ¬ m (166 + 4 * k) = 2 ∧ ¬ m (166 + 4 * k) = 3 := by
        rcases h with h | h | ⟨h | h, -⟩ | ⟨h, -⟩ | ⟨h | h | h, -⟩ <;> rw [h] <;> decide
      refine leaf h ?_ (fun p => by rw [hV, if_neg n3.1, if_neg n3.2.1, if_neg n3.2.2])
      rw [sComp]
      rw [if_neg n3.1, if_neg n3.2.1, if_neg n3.2.2]
end Said3
