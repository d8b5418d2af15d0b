/-! image, restore -/
def zPutJ (T : zSt) (c : Nat) (f : Nat → Int64) : zSt := (T.1, fun a => if a = c then f else T.2 a)
theorem zPutJ_eq (T : zSt) (c : Nat) (f : Nat → Int64) : (zPutJ T c f).2 c = f := if_pos rfl
theorem zPutJ_ne {T : zSt} {c : Nat} {f : Nat → Int64} {a : Nat} (h : a ≠ c) : (zPutJ T c f).2 a = T.2 a := if_neg h
theorem zPutJ_1 (T : zSt) (c : Nat) (f : Nat → Int64) : (zPutJ T c f).1 = T.1 := rfl
theorem zPutJ_id (T : zSt) (c : Nat) : zPutJ T c (T.2 c) = T := by
  unfold zPutJ
  refine Prod.ext rfl ?_
  funext a
  by_cases h : a = c
  · subst h; simp
  · simp [h]
def zSegJ (f g : Nat → Int64) (o n : Nat) : Nat → Int64 := fun b => if o ≤ b ∧ b < o + n then f (b - o) else g b
theorem zSegJ_in {f g : Nat → Int64} {o n b : Nat} (h1 : o ≤ b) (h2 : b < o + n) : zSegJ f g o n b = f (b - o) := if_pos ⟨h1, h2⟩
theorem zSegJ_out {f g : Nat → Int64} {o n b : Nat} (h : b < o ∨ o + n ≤ b) : zSegJ f g o n b = g b := if_neg (by omega)
theorem zSegJ_0 (f g : Nat → Int64) (o : Nat) : zSegJ f g o 0 = g := by
  funext b
  simp [zSegJ]
  omega
theorem zJ_seg (T : zSt) (c o n : Nat) (f g : Nat → Int64) : zJ (zPutJ T c (zSegJ f g o n)) c (o + n) (f n) = zPutJ T c (zSegJ f g o (n + 1)) := by
  unfold zJ zPutJ
  refine Prod.ext rfl ?_
  funext a b
  by_cases h : a = c
  · subst h
    unfold zSegJ
    by_cases h2 : b = o + n
    · subst h2
      simp
    · by_cases h3 : o ≤ b ∧ b < o + n
      · simp [h2, h3, show b < o + (n + 1) by omega]
      · simp only [h2, and_false, if_false, if_true, h3]
        rw [if_neg (by omega)]
  · simp [h]
theorem zLp_copyJ {β : Type} {body : zSt × Int32 → Option ((zSt × Int32) ⊕ β)} {T : zSt} {c o n fuel : Nat} {f : Nat → Int64} {r : β} (h : ∀ i, i < n → body (zPutJ T c (zSegJ f (T.2 c) o i), nI i) = some (.inl (zJ (zPutJ T c (zSegJ f (T.2 c) o i)) c (o + i) (f i), nI (i + 1)))) (hx : body (zPutJ T c (zSegJ f (T.2 c) o n), nI n) = some (.inr r)) (hf : n < fuel) : zLp body fuel (T, 0) = some r := by
  have := zLp_run (body := body) (fun i => (zPutJ T c (zSegJ f (T.2 c) o i), nI i)) n fuel (fun i hi => by
    rw [h i hi, zJ_seg]) hx hf
  simp only [zSegJ_0, zPutJ_id] at this
  exact this
theorem zCj_in {S : zSt} {k k2 n i : Nat} (h : i < n) : (zCj S k k2 0 0 n).2 k2 i = S.2 k i := by
  rw [zCj_eq, pk_cpy_in (by omega) (by omega)]
  simp
theorem zt5 : (5 : Int32).toNatClampNeg = 5 := rfl
theorem zt4 : (4 : Int32).toNatClampNeg = 4 := rfl
theorem zt20 : (20 : Int32).toNatClampNeg = 20 := rfl
/-- a house copied -/
theorem c_copyHouse {S : zSt} {a b : Nat} (hd : a + 10 ≤ b ∨ b + 10 ≤ a) : ∃ S', fX3_copyFrom S a b = some S' ∧ (∀ c, c < a ∨ a + 10 ≤ c → S'.1 c = S.1 c ∧ S'.2 c = S.2 c) ∧ (∀ i, i < 4 → S'.1 (a + 1) i = S.1 (b + 1) i) ∧ (∀ i, i < 5 → S'.1 (a + 2) i = S.1 (b + 2) i) ∧ (∀ i, i < 6 → S'.1 (a + 3) i = S.1 (b + 3) i ∧ S'.1 (a + 4) i = S.1 (b + 4) i ∧ S'.1 (a + 5) i = S.1 (b + 5) i ∧ S'.2 (a + 6) i = S.2 (b + 6) i) ∧ (∀ i, i < 20 → S'.2 (a + 7) i = S.2 (b + 7) i ∧ S'.1 (a + 8) i = S.1 (b + 8) i ∧ S'.1 (a + 9) i = S.1 (b + 9) i) ∧ ∀ j, 9 ≤ j → j ≤ 11 → S'.1 a j = S.1 b j := by
  have k4 : zCk 0 0 (4 : Int32) 4 4 = true := by decide
  have k5 : zCk 0 0 (5 : Int32) 5 5 = true := by decide
  have k6 : zCk 0 0 (6 : Int32) 6 6 = true := by decide
  have k20 : zCk 0 0 (20 : Int32) 20 20 = true := by decide
  obtain ⟨S1, h1⟩ : ∃ X, X = zCi S (b + 1) (a + 1) 0 0 4 := ⟨_, rfl⟩
  obtain ⟨S2, h2⟩ : ∃ X, X = zCi S1 (b + 2) (a + 2) 0 0 5 := ⟨_, rfl⟩
  obtain ⟨S3, h3⟩ : ∃ X, X = zCi S2 (b + 3) (a + 3) 0 0 6 := ⟨_, rfl⟩
  obtain ⟨S4, h4⟩ : ∃ X, X = zCi S3 (b + 4) (a + 4) 0 0 6 := ⟨_, rfl⟩
  obtain ⟨S5, h5⟩ : ∃ X, X = zCi S4 (b + 5) (a + 5) 0 0 6 := ⟨_, rfl⟩
  obtain ⟨S6, h6⟩ : ∃ X, X = zCj S5 (b + 6) (a + 6) 0 0 6 := ⟨_, rfl⟩
  obtain ⟨S7, h7⟩ : ∃ X, X = zCj S6 (b + 7) (a + 7) 0 0 20 := ⟨_, rfl⟩
  obtain ⟨S8, h8⟩ : ∃ X, X = zCi S7 (b + 8) (a + 8) 0 0 20 := ⟨_, rfl⟩
  obtain ⟨S9, h9⟩ : ∃ X, X = zCi S8 (b + 9) (a + 9) 0 0 20 := ⟨_, rfl⟩
  have J6 : S6.1 = S5.1 := by rw [h6]; rfl
  have J7 : S7.1 = S6.1 := by rw [h7]; rfl
  have I1 : S1.2 = S.2 := by rw [h1]; rfl
  have I2 : S2.2 = S.2 := by rw [h2, ← I1]; rfl
  have I3 : S3.2 = S.2 := by rw [h3, ← I2]; rfl
  have I4 : S4.2 = S.2 := by rw [h4, ← I3]; rfl
  have I5 : S5.2 = S.2 := by rw [h5, ← I4]; rfl
  have I8 : S8.2 = S7.2 := by rw [h8]; rfl
  have I9 : S9.2 = S7.2 := by rw [h9, ← I8]; rfl
  have out : ∀ c, (c < a + 1 ∨ a + 10 ≤ c) → S9.1 c = S.1 c ∧ S9.2 c = S.2 c := fun c hc => by
    refine ⟨?_, ?_⟩
    · rw [h9, zCi_ne (by omega), h8, zCi_ne (by omega), J7, J6, h5, zCi_ne (by omega), h4, zCi_ne (by omega), h3, zCi_ne (by omega), h2, zCi_ne (by omega), h1, zCi_ne (by omega)]
    · rw [I9, h7, zCj_ne (by omega), h6, zCj_ne (by omega), I5]
  refine ⟨zI (zI (zI S9 a 9 (S9.1 b 9)) a 10 ((zI S9 a 9 (S9.1 b 9)).1 b 10)) a 11 ((zI (zI S9 a 9 (S9.1 b 9)) a 10 ((zI S9 a 9 (S9.1 b 9)).1 b 10)).1 b 11), ?_, fun c hc => ?_, fun i hi => ?_, fun i hi => ?_, fun i hi => ?_, fun i hi => ?_, fun j j1 j2 => ?_⟩
  · unfold fX3_copyFrom
    rw [k4, zGd_t, zLt_s, zt_0, zt4, ← h1, k5, zGd_t, zLt_s, zt5, ← h2, k6, zGd_t, zLt_s, zt6, ← h3, zGd_t, zLt_s, ← h4, zGd_t, zLt_s, ← h5, zGd_t, zLt_s, ← h6, k20, zGd_t, zLt_s, zt20, ← h7, zGd_t, zLt_s, ← h8, zGd_t, zLt_s, ← h9, zLt_s, zLt_s, zLt_s]
  · rw [zI_ne (by omega), zI_ne (by omega), zI_ne (by omega)]
    exact out c (by omega)
  · rw [zI_ne (by omega), zI_ne (by omega), zI_ne (by omega), h9, zCi_ne (by omega), h8, zCi_ne (by omega), J7, J6, h5, zCi_ne (by omega), h4, zCi_ne (by omega), h3, zCi_ne (by omega), h2, zCi_ne (by omega), h1, zCi_in hi]
  · rw [zI_ne (by omega), zI_ne (by omega), zI_ne (by omega), h9, zCi_ne (by omega), h8, zCi_ne (by omega), J7, J6, h5, zCi_ne (by omega), h4, zCi_ne (by omega), h3, zCi_ne (by omega), h2, zCi_in hi, h1, zCi_ne (by omega)]
  · refine ⟨?_, ?_, ?_, ?_⟩
    · rw [zI_ne (by omega), zI_ne (by omega), zI_ne (by omega), h9, zCi_ne (by omega), h8, zCi_ne (by omega), J7, J6, h5, zCi_ne (by omega), h4, zCi_ne (by omega), h3, zCi_in hi, h2, zCi_ne (by omega), h1, zCi_ne (by omega)]
    · rw [zI_ne (by omega), zI_ne (by omega), zI_ne (by omega), h9, zCi_ne (by omega), h8, zCi_ne (by omega), J7, J6, h5, zCi_ne (by omega), h4, zCi_in hi, h3, zCi_ne (by omega), h2, zCi_ne (by omega), h1, zCi_ne (by omega)]
    · rw [zI_ne (by omega), zI_ne (by omega), zI_ne (by omega), h9, zCi_ne (by omega), h8, zCi_ne (by omega), J7, J6, h5, zCi_in hi, h4, zCi_ne (by omega), h3, zCi_ne (by omega), h2, zCi_ne (by omega), h1, zCi_ne (by omega)]
    · rw [zI_at2, zI_at2, zI_at2, I9, h7, zCj_ne (by omega), h6, zCj_in hi, I5]
  · refine ⟨?_, ?_, ?_⟩
    · rw [zI_at2, zI_at2, zI_at2, I9, h7, zCj_in hi, h6, zCj_ne (by omega), I5]
    · rw [zI_ne (by omega), zI_ne (by omega), zI_ne (by omega), h9, zCi_ne (by omega), h8, zCi_in hi, J7, J6, h5, zCi_ne (by omega), h4, zCi_ne (by omega), h3, zCi_ne (by omega), h2, zCi_ne (by omega), h1, zCi_ne (by omega)]
    · rw [zI_ne (by omega), zI_ne (by omega), zI_ne (by omega), h9, zCi_in hi, h8, zCi_ne (by omega), J7, J6, h5, zCi_ne (by omega), h4, zCi_ne (by omega), h3, zCi_ne (by omega), h2, zCi_ne (by omega), h1, zCi_ne (by omega)]
  · have ob := (out b (by omega)).1
    rcases (show j = 9 ∨ j = 10 ∨ j = 11 by omega) with rfl | rfl | rfl
    · rw [zI_at, if_neg (by omega), zI_at, if_neg (by omega), zI_at, if_pos ⟨rfl, rfl⟩, ob]
    · rw [zI_at, if_neg (by omega), zI_at, if_pos ⟨rfl, rfl⟩, zI_ne (by omega), ob]
    · rw [zI_at, if_pos ⟨rfl, rfl⟩, zI_ne (by omega), zI_ne (by omega), ob]
theorem copyHouse_R {S S' : zSt} {a b : Nat} {m : Nat → Int32} {nm : Nat → Int64} (hw : WFh m) (q1 : ∀ i, i < 4 → S'.1 (a + 1) i = S.1 (b + 1) i) (q2 : ∀ i, i < 5 → S'.1 (a + 2) i = S.1 (b + 2) i) (q3 : ∀ i, i < 6 → S'.1 (a + 3) i = S.1 (b + 3) i ∧ S'.1 (a + 4) i = S.1 (b + 4) i ∧ S'.1 (a + 5) i = S.1 (b + 5) i ∧ S'.2 (a + 6) i = S.2 (b + 6) i) (q4 : ∀ i, i < 20 → S'.2 (a + 7) i = S.2 (b + 7) i ∧ S'.1 (a + 8) i = S.1 (b + 8) i ∧ S'.1 (a + 9) i = S.1 (b + 9) i) (q5 : ∀ j, 9 ≤ j → j ≤ 11 → S'.1 a j = S.1 b j) (hh : Rh S.1 b m) (hn : rNm S.1 S.2 b nm m) : Rh S'.1 a m ∧ rNm S'.1 S'.2 a nm m := by
  obtain ⟨r1, r2, r3, r4, r5⟩ := hh
  have h0 := hw.1.2
  have h1 := hw.2.1.2
  have h2 := hw.2.2.1.2
  have h3 := hw.2.2.2.1.2
  refine ⟨⟨fun k hk => by rw [q1 k hk]; exact r1 k hk, by rw [q5 10 (by omega) (by omega)]; exact r2, by rw [q5 11 (by omega) (by omega)]; exact r3, fun l hl => by rw [q2 l hl]; exact r4 l hl, fun p hp => by rw [(q3 p (by omega)).1, (q3 p (by omega)).2.1, (q3 p (by omega)).2.2.1]; exact r5 p hp⟩, ?_⟩
  obtain ⟨W, n1, n2, n3, n4, n5, n6⟩ := hn
  refine ⟨W, by rw [q5 9 (by omega) (by omega)]; exact n1, n2, fun k hk => ?_, fun s j hs hj => ?_, fun k k' hk hk' e => ?_, fun p hp => by rw [(q3 p (by omega)).2.2.2]; exact n6 p hp⟩
  · rw [(q4 k (by omega)).1, (q4 k (by omega)).2.1, (q4 k (by omega)).2.2]; exact n3 k hk
  · obtain ⟨k, hk, e1, e2⟩ := n4 s j hs hj
    exact ⟨k, hk, by rw [(q4 k (by omega)).2.1]; exact e1, by rw [(q4 k (by omega)).2.2]; exact e2⟩
  · rw [(q4 k (by omega)).1, (q4 k' (by omega)).1] at e
    exact n5 k k' hk hk' e
/-- a sentence copied -/
theorem c_copySen {S : zSt} {a b : Nat} {m : Nat → Int32} (hd : a + 4 ≤ b ∨ b + 4 ≤ a) (hs : rSen S.1 b m) : ∃ S', fX8_copyFrom S a b = some S' ∧ S'.2 = S.2 ∧ (∀ c, c < a ∨ a + 4 ≤ c → S'.1 c = S.1 c) ∧ rSen S'.1 a m := by
  obtain ⟨n, hn, en⟩ : ∃ n, n ≤ 40 ∧ S.1 b 4 = nI n := by
    rcases hs with ⟨-, -, h⟩ | ⟨-, k, o, -, -, -, -, -, h, h2, -⟩
    · exact ⟨0, by omega, h⟩
    · exact ⟨_, h2, h⟩
  obtain ⟨S2, hS2⟩ : ∃ X, X = zI (zI S a 4 (nI n)) a 5 (S.1 b 5) := ⟨_, rfl⟩
  have a4 : S2.1 a 4 = nI n := by rw [hS2, zI_at, if_neg (by omega), zI_at, if_pos ⟨rfl, rfl⟩]
  have a5 : S2.1 a 5 = S.1 b 5 := by rw [hS2, zI_at, if_pos ⟨rfl, rfl⟩]
  have an : ∀ c, c ≠ a → S2.1 c = S.1 c := fun c hc => by rw [hS2, zI_ne hc, zI_ne hc]
  obtain ⟨S4, h4⟩ : ∃ X, X = zCi S2 (b + 1) (a + 1) 0 0 n := ⟨_, rfl⟩
  obtain ⟨S6, h6⟩ : ∃ X, X = zCi S4 (b + 2) (a + 2) 0 0 n := ⟨_, rfl⟩
  obtain ⟨S8, h8⟩ : ∃ X, X = zCi S6 (b + 3) (a + 3) 0 0 n := ⟨_, rfl⟩
  have b4 : S4.1 a 4 = nI n := by rw [h4, zCi_ne (by omega), a4]
  have c4 : S6.1 a 4 = nI n := by rw [h6, zCi_ne (by omega), b4]
  have d4 : S8.1 a 4 = nI n := by rw [h8, zCi_ne (by omega), c4]
  have d5 : S8.1 a 5 = S.1 b 5 := by rw [h8, zCi_ne (by omega), h6, zCi_ne (by omega), h4, zCi_ne (by omega), a5]
  have e1 : ∀ i, i < n → S8.1 (a + 1) i = S.1 (b + 1) i := fun i hi => by rw [h8, zCi_ne (by omega), h6, zCi_ne (by omega), h4, zCi_in hi, an _ (by omega)]
  have e2 : ∀ i, i < n → S8.1 (a + 2) i = S.1 (b + 2) i := fun i hi => by rw [h8, zCi_ne (by omega), h6, zCi_in hi, h4, zCi_ne (by omega), an _ (by omega)]
  have e3 : ∀ i, i < n → S8.1 (a + 3) i = S.1 (b + 3) i := fun i hi => by rw [h8, zCi_in hi, h6, zCi_ne (by omega), h4, zCi_ne (by omega), an _ (by omega)]
  refine ⟨S8, ?_, by rw [h8, h6, h4, hS2]; rfl, fun c hc => by rw [h8, zCi_ne (by omega), h6, zCi_ne (by omega), h4, zCi_ne (by omega), an c (by omega)], ?_⟩
  · unfold fX8_copyFrom
    rw [en, zLt_s, zI_ne (show b ≠ a by omega), zLt_s, ← hS2, a4, zck_ok hn (by omega), zGd_t, zLt_s, zt_0, nI_clamp (by omega), ← h4, b4, zck_ok hn (by omega), zGd_t, zLt_s, nI_clamp (by omega), ← h6, c4, zck_ok hn (by omega), zGd_t, zLt_s, nI_clamp (by omega), ← h8]
  · unfold rSen at hs ⊢
    rw [d4, d5, ← en]
    rcases hs with hs | ⟨g1, k, o, g2, g3, g4, g5, g6, g7, g8, g9⟩
    · exact Or.inl hs
    · refine Or.inr ⟨g1, k, o, g2, g3, g4, g5, g6, g7, g8, fun j x hx => ?_⟩
      have hj : j < n := by
        have q1 := (List.getElem?_eq_some_iff.mp hx).1
        have q2 := (nI_eq (a := n) (b := (sComp (fun j => m (166 + j)) (k + 1) k).length) (by omega) (by omega)).mp (by rw [← en, g7])
        omega
      rw [e1 j hj, e2 j hj, e3 j hj]
      exact g9 j x hx
