/-! days by draws -/
theorem zLp_two {σ τ β γ : Type} {f : σ → Option (σ ⊕ β)} {g : τ → Option (τ ⊕ γ)} (Inv : Nat → σ → τ → Prop) (Post : β → γ → Prop) (n : Nat) (h : ∀ i s t, i ≤ n → Inv i s t → (∃ s' t', f s = some (.inl s') ∧ g t = some (.inl t') ∧ Inv (i + 1) s' t' ∧ i < n) ∨ ∃ b c, f s = some (.inr b) ∧ g t = some (.inr c) ∧ Post b c) : ∀ (fuel fuel' k : Nat) (s : σ) (t : τ), k ≤ n → n < fuel + k → n < fuel' + k → Inv k s t → ∃ b c, zLp f fuel s = some b ∧ zLp g fuel' t = some c ∧ Post b c := by
  intro fuel
  induction fuel with
  | zero => intro fuel' k s t h1 h2; omega
  | succ fuel ih =>
    intro fuel' k s t h1 h2 h3 hI
    obtain ⟨fuel', rfl⟩ : ∃ q, fuel' = q + 1 := ⟨fuel' - 1, by omega⟩
    rcases h k s t h1 hI with ⟨s', t', e1, e2, hI', hk⟩ | ⟨b, c, e1, e2, hp⟩
    · obtain ⟨b, c, g1, g2, hp⟩ := ih fuel' (k + 1) s' t' (by omega) (by omega) (by omega) hI'
      exact ⟨b, c, by simp only [zLp, e1]; exact g1, by simp only [zLp, e2]; exact g2, hp⟩
    · exact ⟨b, c, by simp only [zLp, e1], by simp only [zLp, e2], hp⟩
theorem zOfN {y : Int32} {u : Nat} (h : y.toBitVec.toNat = u) : y = nI u := by
  apply Int32.toBitVec_inj.mp
  apply BitVec.eq_of_toNat_eq
  have : y.toBitVec.toNat < 2 ^ 32 := y.toBitVec.isLt
  rw [pk_tn (by omega), h]
theorem zU8 (x : Int32) : ∃ u, u < 16777216 ∧ zUsh x 8 = nI u := by
  have h := pk_ushr x 8 8 (by decide)
  have h2 : x.toBitVec.toNat < 2 ^ 32 := x.toBitVec.isLt
  exact ⟨x.toBitVec.toNat / 2 ^ 8, by omega, zOfN h⟩
def nxt (x : Int32) : Int32 := x * (1103515245 : Int32) + (12345 : Int32)
theorem two_draw (S : zSt) {n : Nat} (hn : 0 < n) (hn2 : n < 1000) : ∃ d, d < n ∧ fX1_draw S (nI n) = some (nI d, zI S 261 0 (nxt (S.1 261 0))) ∧ ∀ T : zSt, T.1 0 35 = S.1 261 0 → fX12_draw T (nI n) = some (nI d, zI T 0 35 (nxt (S.1 261 0))) := by
  obtain ⟨u, hu, eu⟩ := zU8 (nxt (S.1 261 0))
  have n0 : decide (¬ nI n = 0) = true := decide_eq_true (fun q => by have := (nI_eq (a := n) (b := 0) (by omega) (by omega)).mp q; omega)
  refine ⟨u % n, Nat.mod_lt _ hn, ?_, fun T hT => ?_⟩
  · unfold fX1_draw
    rw [show S.1 261 0 * (1103515245 : Int32) + (12345 : Int32) = nxt (S.1 261 0) from rfl, zLt_s, zI_at, if_pos ⟨rfl, rfl⟩, eu, pk_rem (by omega) hn (by omega), n0, zGd_t, zBr_q (show ¬ nI n ≤ (0 : Int32) from fun q => by have := (nI_leI (a := n) (b := 0) (by omega) (by omega)).mp q; omega)]
  · unfold fX12_draw
    rw [hT, show S.1 261 0 * (1103515245 : Int32) + (12345 : Int32) = nxt (S.1 261 0) from rfl, zLt_s, zI_at, if_pos ⟨rfl, rfl⟩, eu, pk_rem (by omega) hn (by omega), n0, zGd_t]
theorem Rl_spongeB {S : zSt} {b : Nat} {m : Nat → Int32} (hl : Rl S.1 b m) {p : Nat} (hp : p < kP m) (h6 : kP m ≤ 6) (v : Int32) : Rl (zI S (b + 14) p v).1 b (upd m (32 + p) v) := by
  obtain ⟨a1, a2, a3, a4, a5⟩ := hl
  have k1 : kP (upd m (32 + p) v) = kP m := kP_eq (pk_un (by omega))
  have k2 : kA (upd m (32 + p) v) = kA m := by unfold kA; rw [pk_un (by omega)]
  refine ⟨?_, ?_, fun x hx => ?_, fun i hi => ?_, fun x i hx hi => ?_⟩
  · rw [zI_ne (by omega), pk_un (by omega)]; exact a1
  · rw [zI_ne (by omega), pk_un (by omega)]; exact a2
  · rw [k1] at hx
    rw [zI_ne (show b + 13 ≠ b + 14 by omega), zI_ne (show b + 12 ≠ b + 14 by omega), pk_un (show 26 + x ≠ 32 + p by omega), pk_un (show 158 + x ≠ 32 + p by omega), zI_eq]
    refine ⟨(a3 x hx).1, ?_, (a3 x hx).2.2⟩
    by_cases h : x = p
    · subst h; rw [pk_us, pk_us]
    · rw [pk_un h, pk_un (by omega)]; exact (a3 x hx).2.1
  · rw [k2] at hi
    rw [zI_ne (by omega), zI_ne (by omega), zI_ne (by omega), zI_ne (by omega), pk_un (by omega), pk_un (by omega), pk_un (by omega), pk_un (by omega)]
    exact a4 i hi
  · rw [k1] at hx
    rw [k2] at hi
    rw [zI_ne (by omega), pk_un (by omega)]
    exact a5 x i hx hi
theorem Rl_carryB {S : zSt} {b : Nat} {m : Nat → Int32} (hl : Rl S.1 b m) {p : Nat} (hp : p < kP m) (h6 : kP m ≤ 6) (v : Int32) : Rl (zI S (b + 13) p v).1 b (upd m (26 + p) v) := by
  obtain ⟨a1, a2, a3, a4, a5⟩ := hl
  have k1 : kP (upd m (26 + p) v) = kP m := kP_eq (pk_un (by omega))
  have k2 : kA (upd m (26 + p) v) = kA m := by unfold kA; rw [pk_un (by omega)]
  refine ⟨?_, ?_, fun x hx => ?_, fun i hi => ?_, fun x i hx hi => ?_⟩
  · rw [zI_ne (by omega), pk_un (by omega)]; exact a1
  · rw [zI_ne (by omega), pk_un (by omega)]; exact a2
  · rw [k1] at hx
    rw [zI_ne (show b + 14 ≠ b + 13 by omega), zI_ne (show b + 12 ≠ b + 13 by omega), pk_un (show 32 + x ≠ 26 + p by omega), pk_un (show 158 + x ≠ 26 + p by omega), zI_eq]
    refine ⟨?_, (a3 x hx).2⟩
    by_cases h : x = p
    · subst h; rw [pk_us, pk_us]
    · rw [pk_un h, pk_un (by omega)]; exact (a3 x hx).1
  · rw [k2] at hi
    rw [zI_ne (by omega), zI_ne (by omega), zI_ne (by omega), zI_ne (by omega), pk_un (by omega), pk_un (by omega), pk_un (by omega), pk_un (by omega)]
    exact a4 i hi
  · rw [k1] at hx
    rw [k2] at hi
    rw [zI_ne (by omega), pk_un (by omega)]
    exact a5 x i hx hi
/-- a life b of the class that goes as the reference's now, from S0 and T0 on -/
def LR (b : Nat) (S0 T0 S T : zSt) : Prop := (Rh S.1 4 (T.1 2) ∧ WFh (T.1 2) ∧ Rl S.1 b (T.1 2) ∧ WFl (T.1 2)) ∧ S.1 261 0 = T.1 0 35 ∧ (S.2 = S0.2 ∧ ∀ c, (c < b ∨ b + 15 ≤ c) → c ≠ 261 → S.1 c = S0.1 c) ∧ T.2 = T0.2 ∧ (∀ c, c ≠ 0 → c ≠ 2 → T.1 c = T0.1 c) ∧ (∀ j, j ≠ 35 → T.1 0 j = T0.1 0 j) ∧ ∀ k, (k < 24 ∨ 164 ≤ k) → T.1 2 k = T0.1 2 k
section Draws
variable {S0 T0 S T : zSt} {b : Nat}
theorem LR_draw (hz : b = 14 ∨ b = 29) (h : LR b S0 T0 S T) (x : Int32) : LR b S0 T0 (zI S 261 0 x) (zI T 0 35 x) := by
  obtain ⟨⟨a1, a2, a3, a4⟩, a5, ⟨a6, a7⟩, a8, a9, a10, a11⟩ := h
  have t2 : (zI T 0 35 x).1 2 = T.1 2 := zI_ne (by omega)
  refine ⟨?_, by rw [zI_at, if_pos ⟨rfl, rfl⟩, zI_at, if_pos ⟨rfl, rfl⟩], ⟨a6, fun c hc h1 => by rw [zI_ne h1]; exact a7 c hc h1⟩, a8, fun c h1 h2 => by rw [zI_ne h1]; exact a9 c h1 h2, fun j hj => by rw [zI_at, if_neg (by omega)]; exact a10 j hj, fun k hk => by rw [t2]; exact a11 k hk⟩
  rw [t2]
  exact ⟨Rh_cong (fun a h1 h2 => zI_ne (by omega)) a1, a2, Rl_cong a2.2.1.2 (fun a h1 h2 => zI_ne (by omega)) a3, a4⟩
theorem LR_sponge (hz : b = 14 ∨ b = 29) (h : LR b S0 T0 S T) {p : Nat} (hp : p < kP (T.1 2)) : LR b S0 T0 (zI S (b + 14) p 0) (zI T 2 (32 + p) 0) := by
  obtain ⟨⟨a1, a2, a3, a4⟩, a5, ⟨a6, a7⟩, a8, a9, a10, a11⟩ := h
  have h6 := a2.2.1.2
  refine ⟨?_, by rw [zI_ne (by omega), zI_ne (by omega)]; exact a5, ⟨a6, fun c hc h1 => by rw [zI_ne (by omega)]; exact a7 c hc h1⟩, a8, fun c h1 h2 => by rw [zI_ne h2]; exact a9 c h1 h2, fun j hj => by rw [zI_ne (by omega)]; exact a10 j hj, fun k hk => by rw [zI_at, if_neg (by omega)]; exact a11 k hk⟩
  rw [zI_eq (S := T)]
  have e : ∀ k, k < 24 → upd (T.1 2) (32 + p) 0 k = T.1 2 k := fun k hk => pk_un (by omega)
  exact ⟨Rh_cong (fun a h1 h2 => zI_ne (by omega)) (Rh_m e a1 a2), WFh_m e a2, Rl_spongeB a3 hp h6 0, WFl_sponge a4 hp h6 ⟨0, by omega, rfl⟩⟩
theorem LR_carry (hz : b = 14 ∨ b = 29) (h : LR b S0 T0 S T) {p l : Nat} (hp : p < kP (T.1 2)) (hl : l < kL (T.1 2)) : LR b S0 T0 (zI S (b + 13) p (nI l)) (zI T 2 (26 + p) (nI l)) := by
  obtain ⟨⟨a1, a2, a3, a4⟩, a5, ⟨a6, a7⟩, a8, a9, a10, a11⟩ := h
  have h6 := a2.2.1.2
  refine ⟨?_, by rw [zI_ne (by omega), zI_ne (by omega)]; exact a5, ⟨a6, fun c hc h1 => by rw [zI_ne (by omega)]; exact a7 c hc h1⟩, a8, fun c h1 h2 => by rw [zI_ne h2]; exact a9 c h1 h2, fun j hj => by rw [zI_ne (by omega)]; exact a10 j hj, fun k hk => by rw [zI_at, if_neg (by omega)]; exact a11 k hk⟩
  rw [zI_eq (S := T)]
  have e : ∀ k, k < 24 → upd (T.1 2) (26 + p) (nI l) k = T.1 2 k := fun k hk => pk_un (by omega)
  exact ⟨Rh_cong (fun a h1 h2 => zI_ne (by omega)) (Rh_m e a1 a2), WFh_m e a2, Rl_carryB a3 hp h6 _, WFl_carry a4 hp h6 ⟨l, hl, rfl⟩⟩
/-- the row now set anew, the life with it -/
theorem LR_put (hz : b = 14 ∨ b = 29) (h : LR b S0 T0 S T) {S' : zSt} {g : Nat → Int32} (e1 : S'.2 = S.2) (e2 : ∀ c, c < b ∨ b + 15 ≤ c → S'.1 c = S.1 c) (e3 : ∀ k, (k < 24 ∨ 164 ≤ k) → g k = T.1 2 k) (e4 : Rl S'.1 b g) (e5 : WFl g) : LR b S0 T0 S' (zPut T 2 g) := by
  obtain ⟨⟨a1, a2, a3, a4⟩, a5, ⟨a6, a7⟩, a8, a9, a10, a11⟩ := h
  refine ⟨?_, by rw [e2 261 (by omega), zPut_ne (by omega)]; exact a5, ⟨e1.trans a6, fun c hc h1 => by rw [e2 c hc]; exact a7 c hc h1⟩, a8, fun c h1 h2 => by rw [zPut_ne h2]; exact a9 c h1 h2, fun j hj => by rw [zPut_ne (by omega)]; exact a10 j hj, fun k hk => by rw [zPut_eq, e3 k hk]; exact a11 k hk⟩
  rw [zPut_eq]
  have e : ∀ k, k < 24 → g k = T.1 2 k := fun k hk => e3 k (Or.inl hk)
  exact ⟨Rh_cong (fun a h1 h2 => e2 a (by omega)) (Rh_m e a1 a2), WFh_m e a2, e4, e5⟩
theorem LR_deed (hz : b = 14 ∨ b = 29) (h : LR b S0 T0 S T) (hn : kA (T.1 2) < 12) {x y l : Nat} (hx : x < kE (T.1 2)) (hy : y < kD (T.1 2)) (hl : l < kL (T.1 2)) : ∃ S' T', fX6_doDeed S b (nI x) (nI y) (nI l) = some S' ∧ fX12_doDeed T (nI x) (nI y) (nI l) = some T' ∧ LR b S0 T0 S' T' := by
  have hzs : zHs b = 4 := by rcases hz with rfl | rfl <;> rfl
  obtain ⟨a1, a2, a3, a4⟩ := h.1
  have hx1 : zIn (nI x) (kE (T.1 2)) := ⟨x, hx, rfl⟩
  have hy1 : zIn (nI y) (kD (T.1 2)) := ⟨y, hy, rfl⟩
  obtain ⟨S2, g1, g2, g3, g4⟩ := c_doDeed (S := S) (b := b) (a := nI x) (d := nI y) hzs (by omega) a1 a2 a3 a4 hn hl
  have g5 := m_doDeed (T := T) a2 a4 hn hx1 hy1 hl
  refine ⟨S2, _, g1, g5, LR_put hz h g2 g3 (fun k hk => ?_) g4 (WFl_deed a2 a4 hn (Nat.le_refl _) hx1 hy1 hl)⟩
  have h6 := a2.2.1.2
  rcases hk with hk | hk
  · exact aDo_lo (by omega) (by omega) (by omega) (by omega) (by omega) (by omega)
  · exact aDo_hi hn (by omega) (by omega) (by omega)
theorem LR_day (hz : b = 14 ∨ b = 29) (h : LR b S0 T0 S T) {d : Nat} (hd : T.1 2 24 = nI d) (h4 : d < 400) : ∃ S' T', fX6_goDays S b 1 = some (1, S') ∧ fX12_oneDay T = some T' ∧ LR b S0 T0 S' T' ∧ T'.1 2 24 = nI (d + 1) := by
  have hzs : zHs b = 4 := by rcases hz with rfl | rfl <;> rfl
  obtain ⟨a1, a2, a3, a4⟩ := h.1
  have h6 := a2.2.1.2
  have hs : ∀ p, p < kP (T.1 2) → zIn (T.1 2 (32 + p)) 100 := fun p hp => (a4.2.2.1 p hp).2
  obtain ⟨S2, g1, g2, g3, g4⟩ := c_goDays (S := S) (b := b) (w := 1) hzs (by omega) a1 a2 a3 a4 hd (by omega) (by omega)
  rw [show min 1 (400 - d) = 1 by omega] at g1 g4
  refine ⟨S2, _, g1, m_oneDay (T := T) (m := T.1 2) (d := d) (j := 0) a2.2.1.1 h6 hs (aDy_0 hd hs).symm, LR_put hz h g2 g3 (fun k hk => ?_) g4 (WFl_days a4 h6 (by omega)), ?_⟩
  · exact aDy_un _ _ _ (by omega) (by omega)
  · rw [zPut_eq, aDy_24]
theorem zPos {n : Nat} (h1 : n < 1000) (h0 : 0 < n) : ¬ nI n ≤ (0 : Int32) := fun q => by have := (nI_leI (a := n) (b := 0) (by omega) (by omega)).mp q; omega
theorem zPos0 {n : Nat} (h1 : n < 1000) (h0 : 0 < n) : ¬ nI n = (0 : Int32) := fun q => by have := (nI_eq (a := n) (b := 0) (by omega) (by omega)).mp q; omega
theorem LR_plants (hz : b = 14 ∨ b = 29) (h : LR b S0 T0 S T) : fX6_plants S b = some (nI (kP (T.1 2))) := by
  have hzs : zHs b = 4 := by rcases hz with rfl | rfl <;> rfl
  rw [c_plants (b := b) (by rw [hzs]; exact h.1.1), h.1.2.1.2.1.1]
theorem two_tail (hz : b = 14 ∨ b = 29) (h : LR b S0 T0 S T) {d : Nat} (hd : d < 6) : ∃ S' T', fX1_liveTurn_70 S b (nI d) (nI (kL (T.1 2))) = some S' ∧ fX12_drawsFor_71 T (nI d) = some T' ∧ LR b S0 T0 S' T' ∧ T'.1 2 24 = T.1 2 24 ∧ (d = 0 → S' = S ∧ T' = T) := by
  obtain ⟨a1, a2, a3, a4⟩ := id h.1
  have h6 := a2.2.1.2
  have h5 := a2.1.2
  have pl := LR_plants hz h
  have kl : 0 < kP (T.1 2) → 0 < kL (T.1 2) := fun hp => by
    obtain ⟨y, hy, -⟩ := (a2.2.2.2.2.2.2.2 0 hp).1
    omega
  unfold fX1_liveTurn_70 fX1_liveTurn_97 fX12_drawsFor_71 fX12_drawsFor_81
  simp only [zg_1_406, zg_0_406, zGd_t, zt_1, zt_0, pl, zBd_s, a2.2.1.1]
  by_cases d1 : d = 1
  · subst d1
    rw [zBr_p (show nI 1 = 1 from rfl), zBr_p (show nI 1 = 1 from rfl), zBr_q (show ¬ nI 1 = 2 by decide)]
    by_cases k0 : kP (T.1 2) = 0
    · rw [k0, zBr_p (show nI 0 ≤ 0 by decide), zBr_p (show nI 0 = 0 from rfl)]
      exact ⟨S, T, rfl, rfl, h, rfl, fun q => by omega⟩
    · obtain ⟨p, hp, c1, m1⟩ := two_draw S (n := kP (T.1 2)) (by omega) (by omega)
      have m1 := m1 T h.2.1.symm
      have h1 := LR_draw hz h (nxt (S.1 261 0))
      have t2 : (zI T 0 35 (nxt (S.1 261 0))).1 2 = T.1 2 := zI_ne (by omega)
      have h2 := LR_sponge hz h1 (p := p) (by rw [t2]; exact hp)
      rw [zBr_q (zPos (by omega) (by omega)), zBr_q (zPos0 (by omega) (by omega)), c1, m1, zBp_s, zBp_s]
      unfold fX6_spongeOff fX12_live
      rw [zBr_p (show nI 1 = 1 from rfl), zBr_q (show ¬ (1 : Int32) = 0 by decide), zBr_p (show (1 : Int32) = 1 from rfl), zo_32, zIx_nI (by omega) (by omega), zGd_t, zIx_nI (by omega) (by omega), zGd_t, zLt_s, zLt_s, nI_clamp (by omega), nI_clamp (by omega), zBd_s, zBd_s]
      exact ⟨_, _, rfl, rfl, h2, by rw [zI_at, if_neg (by omega), t2], fun q => by omega⟩
  · rw [zBr_q (show ¬ nI d = (1 : Int32) from fun q => d1 ((nI_eq (b := 1) (by omega) (by omega)).mp q)), zBr_q (show ¬ nI d = (1 : Int32) from fun q => d1 ((nI_eq (b := 1) (by omega) (by omega)).mp q))]
    by_cases d2 : d = 2
    · subst d2
      rw [zBr_p (show nI 2 = 2 from rfl), zBr_p (show nI 2 = 2 from rfl)]
      by_cases k0 : kP (T.1 2) = 0
      · rw [k0, zBr_p (show nI 0 ≤ 0 by decide), zBr_p (show nI 0 = 0 from rfl)]
        exact ⟨S, T, rfl, rfl, h, rfl, fun q => by omega⟩
      · obtain ⟨p, hp, c1, m1⟩ := two_draw S (n := kP (T.1 2)) (by omega) (by omega)
        have m1 := m1 T h.2.1.symm
        have h1 := LR_draw hz h (nxt (S.1 261 0))
        have t2 : (zI T 0 35 (nxt (S.1 261 0))).1 2 = T.1 2 := zI_ne (by omega)
        rw [zBr_q (zPos (by omega) (by omega)), zBr_q (zPos0 (by omega) (by omega)), zBr_q (zPos (by omega) (kl (by omega))), c1, m1, zBp_s, zBp_s, zBr_q (show ¬ nI 2 = (1 : Int32) by decide), t2, a2.1.1]
        obtain ⟨S1, hS1⟩ : ∃ X, X = zI S 261 0 (nxt (S.1 261 0)) := ⟨_, rfl⟩
        obtain ⟨T1, hT1⟩ : ∃ X, X = zI T 0 35 (nxt (S.1 261 0)) := ⟨_, rfl⟩
        rw [← hS1] at h1 ⊢
        rw [← hT1] at h1 t2 ⊢
        obtain ⟨l, hl, c2, m2⟩ := two_draw S1 (n := kL (T.1 2)) (kl (by omega)) (by omega)
        have m2 := m2 T1 h1.2.1.symm
        have h2 := LR_draw hz h1 (nxt (S1.1 261 0))
        have t3 : (zI T1 0 35 (nxt (S1.1 261 0))).1 2 = T.1 2 := by rw [zI_ne (by omega), t2]
        have h3 := LR_carry hz h2 (p := p) (l := l) (by rw [t3]; exact hp) (by rw [t3]; exact hl)
        rw [c2, m2, zBp_s, zBp_s]
        unfold fX6_carryTo fX12_live
        rw [zBr_q (show ¬ (2 : Int32) = 0 by decide), zBr_q (show ¬ (2 : Int32) = 1 by decide), zo_26, zIx_nI (by omega) (by omega), zGd_t, zIx_nI (by omega) (by omega), zGd_t, zLt_s, zLt_s, nI_clamp (by omega), nI_clamp (by omega), zBd_s, zBd_s]
        exact ⟨_, _, rfl, rfl, h3, by rw [zI_at, if_neg (by omega), t3], fun q => by omega⟩
    · rw [zBr_q (show ¬ nI d = (2 : Int32) from fun q => d2 ((nI_eq (b := 2) (by omega) (by omega)).mp q)), zBr_q (show ¬ nI d = (2 : Int32) from fun q => d2 ((nI_eq (b := 2) (by omega) (by omega)).mp q))]
      exact ⟨S, T, rfl, rfl, h, rfl, fun _ => ⟨rfl, rfl⟩⟩
theorem LR_why (h : LR b S0 T0 S T) : fX6_whyNotDo S b = some (if kA (T.1 2) = 12 then 1 else 0) ∧ ∀ u w, fX12_why T 0 u w = some (if kA (T.1 2) = 12 then 1 else 0) := by
  obtain ⟨a1, a2, a3, a4⟩ := id h.1
  have hA := a4.2.1.2
  refine ⟨?_, fun u w => ?_⟩
  · unfold fX6_whyNotDo
    rw [a3.2.1, a4.2.1.1, show (12 : Int32) = nI 12 from rfl]
    by_cases q : kA (T.1 2) = 12
    · rw [zlt_f (by omega) (by omega), if_pos q]
    · rw [zlt_t (by omega) (by omega), if_neg q]
  · unfold fX12_why
    rw [zBr_p (show (0 : Int32) = 0 from rfl), zg_25_406, zGd_t, zt_25, a4.2.1.1, show (12 : Int32) = nI 12 from rfl]
    by_cases q : kA (T.1 2) = 12
    · rw [zBr_p (by rw [q]), if_pos q]
    · rw [zBr_q (fun e => q ((nI_eq (by omega) (by omega)).mp e)), if_neg q]
theorem LR_same {S' T' : zSt} (h : LR b S0 T0 S T) (h' : LR b S0 T0 S' T') : kL (T'.1 2) = kL (T.1 2) ∧ kP (T'.1 2) = kP (T.1 2) ∧ kE (T'.1 2) = kE (T.1 2) ∧ kD (T'.1 2) = kD (T.1 2) := by
  have e : ∀ k, k < 24 → T'.1 2 k = T.1 2 k := fun k hk => by rw [h.2.2.2.2.2.2 k (Or.inl hk), h'.2.2.2.2.2.2 k (Or.inl hk)]
  unfold kL kP kE kD
  rw [e 0 (by omega), e 1 (by omega), e 2 (by omega), e 3 (by omega)]
  exact ⟨rfl, rfl, rfl, rfl⟩
theorem two_turn (hz : b = 14 ∨ b = 29) (h : LR b S0 T0 S T) {x : Nat} (hx : x < kE (T.1 2)) : ∃ S' T', fX1_liveTurn S b (nI x) = some S' ∧ fX12_drawsFor T (nI x) = some T' ∧ LR b S0 T0 S' T' ∧ T'.1 2 24 = T.1 2 24 := by
  have hzs : zHs b = 4 := by rcases hz with rfl | rfl <;> rfl
  obtain ⟨d, hd, c1, m1⟩ := two_draw S (n := 6) (by omega) (by omega)
  have m1 := m1 T h.2.1.symm
  have h1 := LR_draw hz h (nxt (S.1 261 0))
  have t2 : (zI T 0 35 (nxt (S.1 261 0))).1 2 = T.1 2 := zI_ne (by omega)
  obtain ⟨S1, hS1⟩ : ∃ X, X = zI S 261 0 (nxt (S.1 261 0)) := ⟨_, rfl⟩
  obtain ⟨T1, hT1⟩ : ∃ X, X = zI T 0 35 (nxt (S.1 261 0)) := ⟨_, rfl⟩
  rw [← hS1] at c1 h1
  rw [← hT1] at m1 h1 t2
  rw [← t2] at hx ⊢
  obtain ⟨a1, a2, a3, a4⟩ := id h1.1
  have h6 := a2.2.1.2
  have h5 := a2.1.2
  have hD := a2.2.2.2.1.2
  have hA := a4.2.1.2
  obtain ⟨S9, T9, g1, g2, g3, g4, g5⟩ := two_tail hz h1 hd
  unfold fX1_liveTurn fX12_drawsFor
  rw [show (6 : Int32) = nI 6 from rfl, c1, m1, zBp_s, zBp_s]
  simp only [hzs, zg_0_4, zg_3_4, zg_3_406, zg_0_406, zGd_t, zt_0, zt_3, a1.1 0 (by omega), a1.1 3 (by omega), zLt_s, a2.1.1, a2.2.2.2.1.1, g1, g2]
  by_cases d0 : d = 0
  · subst d0
    obtain ⟨rfl, rfl⟩ := g5 rfl
    rw [zBr_p (show nI 0 = 0 from rfl), zBr_p (show nI 0 = 0 from rfl)]
    by_cases kd : kD (T9.1 2) = 0
    · rw [kd, zBr_p (show nI 0 ≤ 0 by decide), zBr_p (show nI 0 ≤ 0 by decide)]
      exact ⟨S9, T9, rfl, rfl, g3, g4⟩
    have kd' : ¬ nI (kD (T9.1 2)) ≤ (0 : Int32) := zPos (by omega) (by omega)
    rw [zBr_q kd', zBr_q kd']
    by_cases kl : kL (T9.1 2) = 0
    · rw [kl, zBr_p (show nI 0 ≤ 0 by decide), zBr_p (show nI 0 ≤ 0 by decide)]
      exact ⟨S9, T9, rfl, rfl, g3, g4⟩
    have kl' : ¬ nI (kL (T9.1 2)) ≤ (0 : Int32) := zPos (by omega) (by omega)
    rw [zBr_q kl', zBr_q kl']
    obtain ⟨y, hy, c2, m2⟩ := two_draw S9 (n := kD (T9.1 2)) (by omega) (by omega)
    have m2 := m2 T9 h1.2.1.symm
    have h2 := LR_draw hz h1 (nxt (S9.1 261 0))
    rw [c2, m2, zBp_s, zBp_s]
    have t3 : (zI T9 0 35 (nxt (S9.1 261 0))).1 2 = T9.1 2 := zI_ne (by omega)
    obtain ⟨S2, hS2⟩ : ∃ X, X = zI S9 261 0 (nxt (S9.1 261 0)) := ⟨_, rfl⟩
    obtain ⟨T2, hT2⟩ : ∃ X, X = zI T9 0 35 (nxt (S9.1 261 0)) := ⟨_, rfl⟩
    rw [← hS2] at h2 ⊢
    rw [← hT2] at h2 t3 ⊢
    rw [t3, a2.1.1]
    obtain ⟨l, hl, c3, m3⟩ := two_draw S2 (n := kL (T9.1 2)) (by omega) (by omega)
    have m3 := m3 T2 h2.2.1.symm
    have h3 := LR_draw hz h2 (nxt (S2.1 261 0))
    have t4 : (zI T2 0 35 (nxt (S2.1 261 0))).1 2 = T9.1 2 := by rw [zI_ne (by omega), t3]
    rw [c3, m3, zBp_s, zBp_s]
    obtain ⟨S3, hS3⟩ : ∃ X, X = zI S2 261 0 (nxt (S2.1 261 0)) := ⟨_, rfl⟩
    obtain ⟨T3, hT3⟩ : ∃ X, X = zI T2 0 35 (nxt (S2.1 261 0)) := ⟨_, rfl⟩
    rw [← hS3] at h3 ⊢
    rw [← hT3] at h3 t4 ⊢
    obtain ⟨w1, w2⟩ := LR_why h3
    unfold fX1_drawDeed
    rw [w1, w2, zBd_s, zBd_s]
    rw [t4]
    by_cases n12 : kA (T9.1 2) = 12
    · rw [if_pos n12, zBr_q (show ¬ (1 : Int32) = 0 by decide), zBr_q (show ¬ (1 : Int32) = 0 by decide), zBd_s]
      obtain ⟨S4, T4, j1, j2, j3, j4, j5⟩ := two_tail hz h3 (d := 0) (by omega)
      obtain ⟨rfl, rfl⟩ := j5 rfl
      rw [j2]
      exact ⟨_, _, rfl, rfl, h3, by rw [t4]⟩
    · rw [if_neg n12, zBr_p (show (0 : Int32) = 0 from rfl), zBr_p (show (0 : Int32) = 0 from rfl)]
      obtain ⟨S4, T4, j1, j2, j3⟩ := LR_deed hz h3 (x := x) (y := y) (l := l) (by rw [t4]; omega) (by rw [t4]; exact hx) (by rw [t4]; exact hy) (by rw [t4]; exact hl)
      have day : T4.1 2 24 = T3.1 2 24 := by
        have g5 := m_doDeed (T := T3) h3.1.2.1 h3.1.2.2.2 (by rw [t4]; omega) (a := nI x) (d := nI y) (l := l) ⟨x, by rw [t4]; exact hx, rfl⟩ ⟨y, by rw [t4]; exact hy, rfl⟩ (by rw [t4]; exact hl)
        rw [g5] at j2
        have := Option.some.inj j2
        rw [← this, zPut_eq]
        exact aDo_lo (by omega) (by omega) (by omega) (by omega) (by omega) (by omega)
      unfold fX12_live
      rw [j1, zBd_s, zBd_s, zBr_p (show (0 : Int32) = 0 from rfl), j2, zBd_s, zBd_s]
      obtain ⟨S5, T5, i1, i2, i3, i4, i5⟩ := two_tail hz j3 (d := 0) (by omega)
      obtain ⟨rfl, rfl⟩ := i5 rfl
      rw [i2]
      exact ⟨_, _, rfl, rfl, j3, by rw [day, t4]⟩
  · rw [zBr_q (zPos0 (by omega) (by omega)), zBr_q (zPos0 (by omega) (by omega))]
    exact ⟨S9, T9, rfl, rfl, g3, g4⟩
theorem two_days (hz : b = 14 ∨ b = 29) (h : LR b S0 T0 S T) (hs : S.1 261 0 = T.1 0 35) {d x : Nat} (hd : T.1 2 24 = nI d) (hx : d + x ≤ 400) : ∃ S' T', zLp (fX1_liveDays_18 b (nI x)) 2000 (S, 0) = some (nI x, S') ∧ zLp (fX12_drawDays_24 (nI x)) 2000 (T, 0) = some (nI x, T') ∧ LR b S0 T0 S' T' := by
  have hzs : zHs b = 4 := by rcases hz with rfl | rfl <;> rfl
  obtain ⟨r1, r2, e1, e2, S', T', rfl, rfl, hL⟩ := zLp_two (f := fX1_liveDays_18 b (nI x)) (g := fX12_drawDays_24 (nI x)) (fun i s t => ∃ S T, s = (S, nI i) ∧ t = (T, nI i) ∧ LR b S0 T0 S T ∧ T.1 2 24 = nI (d + i)) (fun p q => ∃ S' T', p = (nI x, S') ∧ q = (nI x, T') ∧ LR b S0 T0 S' T') x (fun i s t hi hI => by
    obtain ⟨S, T, rfl, rfl, hL, hdd⟩ := hI
    unfold fX1_liveDays_18 fX12_drawDays_24
    dsimp only
    by_cases q : i < x
    · rw [zle_f q (by omega), zle_f q (by omega)]
      have hE := hL.1.2.1.2.2.1.2
      obtain ⟨p1, p2, g1, g2, S', T', rfl, rfl, hL', hd'⟩ := zLp_two (f := fX1_liveDays_28 b (nI x) (nI i)) (g := fX12_drawDays_33 (nI x) (nI i)) (fun y s t => ∃ S T, s = (S, nI y) ∧ t = (T, nI y) ∧ LR b S0 T0 S T ∧ T.1 2 24 = nI (d + i)) (fun p q => ∃ S' T', p = .inl (S', nI (i + 1)) ∧ q = .inl (T', nI (i + 1)) ∧ LR b S0 T0 S' T' ∧ T'.1 2 24 = nI (d + (i + 1))) (kE (T.1 2)) (fun y s t hy hI => by
        obtain ⟨S1, T1, rfl, rfl, hL1, hd1⟩ := hI
        have ek := (LR_same hL hL1).2.2.1
        obtain ⟨a1, a2, a3, a4⟩ := id hL1.1
        unfold fX1_liveDays_28 fX12_drawDays_33
        dsimp only
        rw [zg_2_4, zGd_t, zt_2, hzs, a1.1 2 (by omega), a2.2.2.1.1, zg_2_406, zGd_t, ek]
        by_cases q2 : y < kE (T.1 2)
        · obtain ⟨S2, T2, j1, j2, j3, j4⟩ := two_turn hz hL1 (x := y) (by rw [ek]; exact q2)
          rw [zle_f q2 (by omega), zle_f q2 (by omega), j1, j2, zBd_s, zBd_s, zLt_s, zLt_s, nI_1]
          exact Or.inl ⟨_, _, rfl, rfl, ⟨S2, T2, rfl, rfl, j3, j4.trans hd1⟩, q2⟩
        · obtain ⟨S2, T2, j1, j2, j3, j4⟩ := LR_day hz hL1 hd1 (by omega)
          rw [zle_t (by omega) (by omega), zle_t (by omega) (by omega), j1, j2, zBp_s, zBd_s, zLt_s, zLt_s, nI_1, zXr_s, zXr_s]
          exact Or.inr ⟨_, _, rfl, rfl, S2, T2, rfl, rfl, j3, by rw [j4]; rfl⟩) 2000 2000 0 (S, 0) (T, 0) (by omega) (by omega) (by omega) ⟨S, T, rfl, rfl, hL, hdd⟩
      rw [g1, g2]
      exact Or.inl ⟨_, _, rfl, rfl, ⟨S', T', rfl, rfl, hL', hd'⟩, q⟩
    · have ei : i = x := by omega
      subst ei
      rw [zle_t (Nat.le_refl _) (by omega), zle_t (Nat.le_refl _) (by omega), zXr_s, zXr_s]
      exact Or.inr ⟨_, _, rfl, rfl, S, T, rfl, rfl, hL⟩) 2000 2000 0 (S, 0) (T, 0) (by omega) (by omega) (by omega) ⟨S, T, rfl, rfl, h, hd⟩
  exact ⟨S', T', e1, e2, hL⟩
end Draws
