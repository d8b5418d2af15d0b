/-! sentence: one piece, its helpers -/
section One
variable {S0 T0 S T : zSt} {b : Nat → Nat} {L M nL nE p o d st to : Nat} {rc : Nat → zSt → Option (Int32 × zSt)}
theorem mKy_c : ∀ u, u < 22 → 13 ≤ u → (u = 13 ∧ mKy u = 14) ∨ (u = 14 ∧ mKy u = 15) ∨ (u = 15 ∧ mKy u = 3) ∨ (16 ≤ u ∧ mKy u = u) := by decide
theorem c_can : ∀ t, t < 104 → fX8_canBeginOne (nI t) = some (bI (decide (t = 40 ∨ t = 3 ∨ (14 ≤ t ∧ t ≤ 21)))) := by decide
theorem s_scan (ht : tkR S T L M st to) {v : Nat} (hv : 13 ≤ v) (hv' : v ≤ 22) (hb : ∀ u, 13 ≤ u → u < v → ¬ S.1 1 5 = nI (mKy u)) (hx : v = 22 ∨ (v < 22 ∧ S.1 1 5 = nI (mKy v))) {r : Int32 × zSt} (hr : fX12_readSaid_30 rc T (bI (decide (S.1 1 5 = nI 40))) (nI v) = some r) : fX12_readSaid rc T = some r := by
  unfold fX12_readSaid
  rw [show (40 : Int32) = nI 40 from rfl, tk_sign ht (Or.inl rfl), zBd_s]
  refine zLp_run (body := fX12_readSaid_10 rc T (bI (decide (S.1 1 5 = nI 40)))) (fun i => nI (13 + i)) (v - 13) 2000 (fun i hi => ?_) ?_ (by omega)
  · unfold fX12_readSaid_10
    dsimp only
    rw [show (21 : Int32) = nI 21 from rfl, zlt_f (show 13 + i ≤ 21 by omega) (by omega), tk_word ht (by omega), zBd_s, bI_br, if_neg (fun q => hb (13 + i) (by omega) (by omega) (of_decide_eq_true q)), zLt_s, nI_1]
    rfl
  · unfold fX12_readSaid_10
    dsimp only
    rw [show 13 + (v - 13) = v by omega]
    rcases hx with rfl | ⟨h1, h2⟩
    · rw [zBr_p (show (21 : Int32) < nI 22 by decide), hr, zXr_s]
    · rw [show (21 : Int32) = nI 21 from rfl, zlt_f (show v ≤ 21 by omega) (by omega), tk_word ht (by omega), zBd_s, bI_br, if_pos (decide_eq_true h2), hr, zXr_s]
theorem s_out (ht : tkR S T L M st to) {v : Nat} (hv : 13 ≤ v) (hv' : v ≤ 22) (hb : ∀ u, 13 ≤ u → u < v → ¬ S.1 1 5 = nI (mKy u)) (hx : v = 22 ∨ (v < 22 ∧ S.1 1 5 = nI (mKy v))) {x : Option (Int32 × zSt)} {X Y : zSt} (h : sOut S0 T0 b L M nL nE p o d X Y x (fX12_readSaid_30 rc T (bI (decide (S.1 1 5 = nI 40))) (nI v))) : sOut S0 T0 b L M nL nE p o d X Y x (fX12_readSaid rc T) := by
  rcases h with ⟨S', T', p', o', e1, e2, h⟩ | ⟨S', T', e1, e2, h⟩
  · exact Or.inl ⟨S', T', p', o', e1, s_scan ht hv hv' hb hx e2, h⟩
  · exact Or.inr ⟨S', T', e1, s_scan ht hv hv' hb hx e2, h⟩
theorem sQ_44 (h : sQ S0 T0 p o d S T) (v : Int32) : sQ S0 T0 p o d S (zI T 0 44 v) := by
  obtain ⟨fr, q1, q2, q3, q4, q5⟩ := h
  exact ⟨⟨fr.1, fr.2.1, fun x h1 h2 => by rw [zI_ne h1]; exact fr.2.2.1 x h1 h2, fr.2.2.2.1, fun j h1 h2 => by rw [zI_at, if_neg (by omega)]; exact fr.2.2.2.2 j h1 h2⟩, q1, q2, by rw [zI_at, if_neg (by omega)]; exact q3, by rw [zI_at, if_neg (by omega)]; exact q4, by rw [zI_at, if_neg (by omega)]; exact q5⟩
theorem P_44 {lo : Nat} (h : PI (sQ S0 T0 p o d) b L M lo S T) (v : Int32) : PI (sQ S0 T0 p o d) b L M lo S (zI T 0 44 v) := PI_upd h rfl rfl rfl rfl (fun j _ _ => by rw [zI_at, if_neg (by omega)]) rfl (zI_ne (by omega)) (sQ_44 h.1 v)
theorem s_fail {X Y : zSt} (h : FI (sFr S0 T0) S T) : sOut S0 T0 b L M nL nE p o d X Y (some (0, S)) (fX12_readSaid_166 rc T 0) := by
  unfold fX12_readSaid_166
  rw [zLt_s, zBo0, zGd_t]
  obtain ⟨fr, f1, pl, f2, f3, f4⟩ := h
  refine Or.inr ⟨S, _, rfl, rfl, ⟨fr.1, fr.2.1, fun x h1 h2 => by rw [zI_ne h1]; exact fr.2.2.1 x h1 h2, fr.2.2.2.1, fun j h1 h2 => by rw [zI_at, if_neg (by omega)]; exact fr.2.2.2.2 j h1 h2⟩, by rw [zI_at, if_neg (by omega)]; exact f1, pl, f2, f3, by rw [zI_at, if_neg (by omega)]; exact f4⟩
theorem s_fin {X Y X1 Y1 : zSt} {p' o' : Nat} (old : sOld p X Y X1 Y1) (h : PI (sQ S0 T0 p' o' (d + 1)) b L M 0 S T) (nw : sNw nL nE p p' X1 Y1 S T) (t44 : T.1 0 44 = nI (p' - 1)) (h1 : o < o') (h2 : o' ≤ 20) (h3 : p' + 2 * o + 1 ≤ p + 2 * o') : sOut S0 T0 b L M nL nE p o d X Y (some (1, S)) (fX12_readSaid_166 rc T 1) := by
  obtain ⟨fr, q1, q2, q3, q4, q5⟩ := h.1
  obtain ⟨w1, w2, w3, w4, w5⟩ := nw
  unfold fX12_readSaid_166
  rw [q5, show (1 : Int32) = nI 1 from rfl, pk_sub (by omega), Nat.add_sub_cancel, zLt_s, show zBo (nI 1) = true by decide, zGd_t]
  refine Or.inl ⟨S, _, p', o', rfl, rfl, PI_upd h rfl rfl rfl rfl (fun j _ _ => by rw [zI_at, if_neg (by omega)]) rfl (zI_ne (by omega)) ⟨⟨fr.1, fr.2.1, fun x h1 h2 => by rw [zI_ne h1]; exact fr.2.2.1 x h1 h2, fr.2.2.2.1, fun j h1 h2 => by rw [zI_at, if_neg (by omega)]; exact fr.2.2.2.2 j h1 h2⟩, q1, q2, by rw [zI_at, if_neg (by omega)]; exact q3, by rw [zI_at, if_neg (by omega)]; exact q4, by rw [zI_at, if_pos ⟨rfl, rfl⟩]⟩, ?_, by rw [zI_at, if_neg (by omega)]; exact t44, h1, h2, h3⟩
  have := old.trans w1 (Nat.le_refl _)
  exact ⟨⟨this.1, fun j hj => by rw [zI_ne (by omega)]; exact this.2 j hj⟩, w2, by rw [zI_ne (by omega)]; exact w3, by rw [zI_ne (by omega)]; exact w4, by rw [zI_ne (by omega)]; exact w5⟩
theorem s_leaf (h : PI (sQ S0 T0 p o d) b L M 0 S T) (hp : p < 40) {w a c e : Int32} (ok : lOk w a c e nL nE) (hx : ¬ (sLeaf w a c e).2.1 = -1) (hy : ¬ (sLeaf w a c e).2.2 = -1) : ∃ S' T', fX8_add S 250 (sLeaf w a c e).1 (sLeaf w a c e).2.1 (sLeaf w a c e).2.2 = some (1, S') ∧ fX12_saysOne T w a c e = some (nI p, T') ∧ PI (sQ S0 T0 (p + 1) o d) b L M 0 S' (zI T' 0 44 (nI p)) ∧ sNw nL nE p (p + 1) S T S' (zI T' 0 44 (nI p)) ∧ (zI T' 0 44 (nI p)).1 0 44 = nI (p + 1 - 1) := by
  obtain ⟨fr, q1, q2, q3, q4, q5⟩ := id h.1
  obtain ⟨h4, old4⟩ := P_part h (sLeaf w a c e).1 (sLeaf w a c e).2.1 (sLeaf w a c e).2.2 w a c e
  obtain ⟨a1, a2, a3⟩ := cAdd_at (S := S) (p := p) (sLeaf w a c e).1 (sLeaf w a c e).2.1 (sLeaf w a c e).2.2
  obtain ⟨m1, m2, m3, m4⟩ := mAdd_at (T := T) (p := p) w a c e
  refine ⟨_, _, c_add q1 hp hx hy, m_says q3 (by omega) w a c e, P_44 h4 _, ?_, by rw [zI_at, if_pos ⟨rfl, rfl⟩, Nat.add_sub_cancel]⟩
  obtain ⟨T4, hT4⟩ : ∃ X, X = mAdd T p w a c e := ⟨_, rfl⟩
  rw [← hT4] at m1 m2 m3 m4 old4 ⊢
  obtain ⟨u1, u2⟩ := SO_leaf (g := T4.1 18) (n := p) (nL := nL) (nE := nE) (by omega) (by rw [m1, m2, m3, m4]; exact ok)
  rw [m1, m2, m3, m4] at u2
  refine ⟨⟨old4.1, fun j hj => by rw [zI_ne (by omega)]; exact old4.2 j hj⟩, by omega, ?_, ?_, ?_⟩
  · rw [Nat.add_sub_cancel, zI_ne (by omega)]; exact u1
  · rw [Nat.add_sub_cancel, zI_ne (by omega), u2]
    show 1 = _
    omega
  · rw [Nat.add_sub_cancel, zI_ne (by omega), u2]
    exact sRow_one a1 a2 a3
end One
