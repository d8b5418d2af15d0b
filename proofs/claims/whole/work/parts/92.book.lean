/-! lines of a book -/
def BL (m : Nat → Int32) (S T : zSt) (k : Nat) : Prop := S.1 242 k = T.1 16 (4 * k + 1) ∧ S.1 243 k = T.1 16 (4 * k + 2) ∧ S.1 244 k = T.1 16 (4 * k + 3) ∧ ((S.1 241 k = 8 ∧ T.1 16 (4 * k) = 0 ∧ zIn (T.1 16 (4 * k + 1)) (kE m) ∧ zIn (T.1 16 (4 * k + 2)) (kD m) ∧ zIn (T.1 16 (4 * k + 3)) (kL m)) ∨ (S.1 241 k = 9 ∧ T.1 16 (4 * k) = 1 ∧ zIn (T.1 16 (4 * k + 1)) (kP m)) ∨ (S.1 241 k = 10 ∧ T.1 16 (4 * k) = 2 ∧ zIn (T.1 16 (4 * k + 1)) (kP m) ∧ zIn (T.1 16 (4 * k + 2)) (kL m)) ∨ (S.1 241 k = 11 ∧ T.1 16 (4 * k) = 3 ∧ ∃ v, v ≤ 60 ∧ 1 ≤ v ∧ T.1 16 (4 * k + 1) = nI v))
def bFr (S0 T0 S T : zSt) : Prop := (∀ c, c ≠ 1 → (c < 240 ∨ 245 ≤ c) → S.1 c = S0.1 c) ∧ (∀ c, c ≠ 1 → S.2 c = S0.2 c) ∧ (∀ j, j ≠ 6 → S.1 240 j = S0.1 240 j) ∧ (∀ c, c ≠ 0 → c ≠ 16 → T.1 c = T0.1 c) ∧ (∀ c, c ≠ 0 → T.2 c = T0.2 c) ∧ ∀ j, (j < 3 ∨ 14 ≤ j) → j ≠ 38 → T.1 0 j = T0.1 0 j
def bQ (S0 T0 : zSt) (cn mn : Nat) (f : Nat → Int32) (S T : zSt) : Prop := bFr S0 T0 S T ∧ S.1 240 6 = nI cn ∧ T.1 0 38 = nI mn ∧ (∀ k, k < cn → BL (T0.1 2) S T k) ∧ ∀ i, i < 4 → T.1 16 (4 * mn + i) = f i
section Book
variable {S0 T0 S T : zSt} {b : Nat → Nat} {L M lo n : Nat} {f : Nat → Int32}
theorem bFr_stb : stb (bFr S0 T0) := fun S S' T T' h1 h2 h3 h => ⟨fun c c1 c2 => ((h1 c c1).1).trans (h.1 c c1 c2), fun c c1 => ((h1 c c1).2).trans (h.2.1 c c1), fun j hj => by rw [(h1 240 (by omega)).1]; exact h.2.2.1 j hj, fun c c0 c16 => ((h2 c c0).1).trans (h.2.2.2.1 c c0 c16), fun c c0 => ((h2 c c0).2).trans (h.2.2.2.2.1 c c0), fun j hj j38 => (h3 j hj).trans (h.2.2.2.2.2 j hj j38)⟩
theorem bQ_stb {cn mn : Nat} : stb (bQ S0 T0 cn mn f) := fun S S' T T' h1 h2 h3 h => by
  obtain ⟨a1, a2, a3, a4, a5⟩ := h
  refine ⟨bFr_stb S S' T T' h1 h2 h3 a1, by rw [(h1 240 (by omega)).1]; exact a2, by rw [h3 38 (by omega)]; exact a3, fun k hk => ?_, fun i hi => by rw [(h2 16 (by omega)).1]; exact a5 i hi⟩
  have := a4 k hk
  unfold BL at this ⊢
  rw [(h1 241 (by omega)).1, (h1 242 (by omega)).1, (h1 243 (by omega)).1, (h1 244 (by omega)).1, (h2 16 (by omega)).1]
  exact this
/-- a place of the line at hand told in the reference -/
theorem bQ_row (h : bQ S0 T0 n n f S T) {i : Nat} (hi : i < 4) (v : Int32) : bQ S0 T0 n n (upd f i v) S (zI T 16 (4 * n + i) v) := by
  obtain ⟨a1, a2, a3, a4, a5⟩ := h
  refine ⟨⟨a1.1, a1.2.1, a1.2.2.1, fun c c0 c16 => by rw [zI_ne c16]; exact a1.2.2.2.1 c c0 c16, a1.2.2.2.2.1, fun j hj j38 => by rw [zI_ne (by omega)]; exact a1.2.2.2.2.2 j hj j38⟩, a2, by rw [zI_ne (by omega)]; exact a3, fun k hk => ?_, fun x hx => ?_⟩
  · have := a4 k hk
    unfold BL at this ⊢
    rw [zI_at, if_neg (by omega), zI_at, if_neg (by omega), zI_at, if_neg (by omega), zI_at, if_neg (by omega)]
    exact this
  · by_cases e : x = i
    · subst e; rw [zI_at, if_pos ⟨rfl, rfl⟩, pk_us]
    · rw [zI_at, if_neg (by omega), pk_un e]; exact a5 x hx
theorem P_row (h : PI (bQ S0 T0 n n f) b L M lo S T) {i : Nat} (hi : i < 4) (v : Int32) : PI (bQ S0 T0 n n (upd f i v)) b L M lo S (zI T 16 (4 * n + i) v) := PI_upd h rfl rfl rfl rfl (fun j _ _ => by rw [zI_ne (by omega)]) rfl (zI_ne (by omega)) (bQ_row h.1 hi v)
theorem m_keep (h : bQ S0 T0 n n f S T) (hn : n < 40) {i : Nat} (hi : i < 4) {v : Int32} (hv : T.1 0 13 = v) : fX12_keep T (nI (4 * n + i)) 1 = some (1, zI T 16 (4 * n + i) v) := by
  unfold fX12_keep
  rw [zBr_q (show ¬ (1 : Int32) = 0 by decide), zIx_nI (by omega) (by omega), zGd_t, nI_clamp (by omega), hv, zLt_s, zBo1, zGd_t]
theorem m_keep0 (x : Int32) : fX12_keep T x 0 = some (0, T) := by
  unfold fX12_keep
  rw [zBr_p rfl, zBo0, zGd_t]
/-- the line told to the class -/
theorem P_add (h : PI (bQ S0 T0 n n f) b L M lo S T) (hn : n < 40) {k : Nat} (hk : (k = 8 ∧ f 0 = 0 ∧ zIn (f 1) (kE (T0.1 2)) ∧ zIn (f 2) (kD (T0.1 2)) ∧ zIn (f 3) (kL (T0.1 2))) ∨ (k = 9 ∧ f 0 = 1 ∧ zIn (f 1) (kP (T0.1 2))) ∨ (k = 10 ∧ f 0 = 2 ∧ zIn (f 1) (kP (T0.1 2)) ∧ zIn (f 2) (kL (T0.1 2))) ∨ (k = 11 ∧ f 0 = 3 ∧ ∃ v, v ≤ 60 ∧ 1 ≤ v ∧ f 1 = nI v)) : ∃ S', fX0_addLine S (nI k) (f 1) (f 2) (f 3) = some (1, S') ∧ PI (bQ S0 T0 (n + 1) n f) b L M lo S' T := by
  obtain ⟨⟨a1, a2, a3, a4, a5⟩, -⟩ := id h
  obtain ⟨S4, hS4⟩ : ∃ X, X = zI (zI (zI (zI S 241 n (nI k)) 242 n (f 1)) 243 n (f 2)) 244 n (f 3) := ⟨_, rfl⟩
  have e6 : S4.1 240 6 = nI n := by rw [hS4, zI_ne (by omega), zI_ne (by omega), zI_ne (by omega), zI_ne (by omega), a2]
  refine ⟨zI S4 240 6 (nI (n + 1)), ?_, ?_⟩
  · unfold fX0_addLine
    rw [a2, show (40 : Int32) = nI 40 from rfl, zlt_t hn (by omega), zIx_nI hn (by omega), zGd_t, zLt_s, zI_ne (show (240 : Nat) ≠ 241 by omega), a2, zIx_nI hn (by omega), zGd_t, zLt_s, zI_ne (show (240 : Nat) ≠ 242 by omega), zI_ne (show (240 : Nat) ≠ 241 by omega), a2, zIx_nI hn (by omega), zGd_t, zLt_s, zI_ne (show (240 : Nat) ≠ 243 by omega), zI_ne (show (240 : Nat) ≠ 242 by omega), zI_ne (show (240 : Nat) ≠ 241 by omega), a2, zIx_nI hn (by omega), zGd_t, zLt_s, nI_clamp (by omega), ← hS4, e6, nI_1, zLt_s]
  · have sc : ∀ c, c ≠ 240 → c ≠ 241 → c ≠ 242 → c ≠ 243 → c ≠ 244 → (zI S4 240 6 (nI (n + 1))).1 c = S.1 c := fun c h0 h1 h2 h3 h4 => by rw [zI_ne h0, hS4, zI_ne h4, zI_ne h3, zI_ne h2, zI_ne h1]
    have sj : (zI S4 240 6 (nI (n + 1))).2 = S.2 := by rw [zI_at2, hS4]; rfl
    have r1 : ∀ x, (zI S4 240 6 (nI (n + 1))).1 241 x = if x = n then nI k else S.1 241 x := fun x => by rw [zI_ne (by omega), hS4, zI_ne (by omega), zI_ne (by omega), zI_ne (by omega), zI_eq]; rfl
    have r2 : ∀ x, (zI S4 240 6 (nI (n + 1))).1 242 x = if x = n then f 1 else S.1 242 x := fun x => by rw [zI_ne (by omega), hS4, zI_ne (by omega), zI_ne (by omega), zI_eq, zI_ne (by omega)]; rfl
    have r3 : ∀ x, (zI S4 240 6 (nI (n + 1))).1 243 x = if x = n then f 2 else S.1 243 x := fun x => by rw [zI_ne (by omega), hS4, zI_ne (by omega), zI_eq, zI_ne (by omega), zI_ne (by omega)]; rfl
    have r4 : ∀ x, (zI S4 240 6 (nI (n + 1))).1 244 x = if x = n then f 3 else S.1 244 x := fun x => by rw [zI_ne (by omega), hS4, zI_eq, zI_ne (by omega), zI_ne (by omega), zI_ne (by omega)]; rfl
    refine PI_upd h (sc 1 (by omega) (by omega) (by omega) (by omega) (by omega)) (by rw [sj]) (sc 2 (by omega) (by omega) (by omega) (by omega) (by omega)) (by rw [sj]) (fun _ _ _ => rfl) rfl rfl ⟨⟨fun c c1 c2 => by rw [sc c (by omega) (by omega) (by omega) (by omega) (by omega)]; exact a1.1 c c1 c2, fun c c1 => by rw [sj]; exact a1.2.1 c c1, fun j hj => by rw [zI_at, if_neg (by omega), hS4, zI_ne (by omega), zI_ne (by omega), zI_ne (by omega), zI_ne (by omega)]; exact a1.2.2.1 j hj, a1.2.2.2⟩, by rw [zI_at, if_pos ⟨rfl, rfl⟩], a3, fun x hx => ?_, a5⟩
    unfold BL
    rw [r1, r2, r3, r4]
    by_cases e : x = n
    · subst e
      have f0 := a5 0 (by omega)
      rw [Nat.add_zero] at f0
      rw [if_pos rfl, if_pos rfl, if_pos rfl, if_pos rfl, f0, a5 1 (by omega), a5 2 (by omega), a5 3 (by omega)]
      refine ⟨rfl, rfl, rfl, ?_⟩
      rcases hk with ⟨rfl, hk⟩ | ⟨rfl, hk⟩ | ⟨rfl, hk⟩ | ⟨rfl, hk⟩
      · exact Or.inl ⟨rfl, hk⟩
      · exact Or.inr (Or.inl ⟨rfl, hk⟩)
      · exact Or.inr (Or.inr (Or.inl ⟨rfl, hk⟩))
      · exact Or.inr (Or.inr (Or.inr ⟨rfl, hk⟩))
    · rw [if_neg e, if_neg e, if_neg e, if_neg e]
      exact a4 x (by omega)
variable (hw : WFh (T0.1 2)) (hn0 : rNm S0.1 S0.2 4 (T0.2 7) (T0.1 2))
theorem bQ_nm {cn mn : Nat} (hn0 : rNm S0.1 S0.2 4 (T0.2 7) (T0.1 2)) (h : bQ S0 T0 cn mn f S T) : rNm S.1 S.2 4 (T.2 7) (T0.1 2) ∧ T.1 2 = T0.1 2 := by
  refine ⟨?_, h.1.2.2.2.1 2 (by omega) (by omega)⟩
  rw [h.1.2.2.2.2.1 7 (by omega)]
  exact rNm_cong (fun a q1 q2 => h.1.1 a (by omega) (by omega)) (fun a q1 q2 => h.1.2.1 a (by omega)) hn0
def bOut (S0 T0 : zSt) (b : Nat → Nat) (L M lo n : Nat) (x : Option (Int32 × zSt)) (y : Option (Int32 × zSt)) : Prop := (∃ S1 S2 T2 f, x = some (1, S1) ∧ fX9_take S1 59 = some (1, S2) ∧ y = some (1, T2) ∧ n < 40 ∧ PI (bQ S0 T0 (n + 1) n f) b L M (lo + 1) S2 T2) ∨ ∃ S1 T1, (x = some (0, S1) ∨ ∃ S2, x = some (1, S2) ∧ fX9_take S2 59 = some (0, S1)) ∧ y = some (0, T1) ∧ FI (bFr S0 T0) S1 T1
/-- after the line's words: the class has it, the end is due -/
theorem b_end (h : PI (bQ S0 T0 (n + 1) n f) b L M (lo + 1) S T) (hn : n < 40) : bOut S0 T0 b L M lo n (some (1, S)) (fX12_readBookLine_293 T) := by
  unfold fX12_readBookLine_293 bOut
  rcases P_end bQ_stb h with ⟨S2, T2, e1, e2, h2⟩ | ⟨S2, T2, e1, e2, h2⟩
  · exact Or.inl ⟨S, S2, T2, f, rfl, e1, by rw [e2, zBp_s, zBr_q (show ¬ (1 : Int32) = 0 by decide)], hn, PI_w (fun z => z) (by omega) h2⟩
  · exact Or.inr ⟨S2, T2, Or.inr ⟨S, rfl, e1⟩, by rw [e2, zBp_s, zBr_p rfl], FI_w (fun z => z.1) h2⟩
end Book
