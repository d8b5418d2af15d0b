/-! choice: the two loops -/
def vF (m g : Nat → Int32) : Nat := fA (cn g) (kL m)
def vN (m g : Nat → Int32) : Nat := cn g (vF m g)
def stp (m : Nat → Int32) (p l : Nat) (X : Nat × Int32 × Int32 × Nat) : Nat × Int32 × Int32 × Nat := if X.1 < vN m (upd m (26 + p) (nI l)) then (vN m (upd m (26 + p) (nI l)), nI p, nI l, vF m (upd m (26 + p) (nI l))) else X
def rC (f : Nat → Int32) (X : Nat × Int32 × Int32 × Nat) : Nat → Int32 := fun k => if k = 2 then X.2.1 else if k = 3 then X.2.2.1 else if k = 4 then nI X.2.2.2 else f k
def rM (f : Nat → Int32) (X : Nat × Int32 × Int32 × Nat) : Nat → Int32 := fun k => if k = 0 then X.2.1 else if k = 1 then X.2.2.1 else if k = 2 then nI X.2.2.2 else f k
theorem rC_u (f : Nat → Int32) (X : Nat × Int32 × Int32 × Nat) (n : Nat) (a b : Int32) (d : Nat) : upd (upd (upd (rC f X) 2 a) 3 b) 4 (nI d) = rC f (n, a, b, d) := by
  funext k
  simp only [upd, rC]
  by_cases h4 : k = 4
  · subst h4; simp
  · by_cases h3 : k = 3
    · subst h3; simp
    · by_cases h2 : k = 2
      · subst h2; simp
      · simp [h2, h3, h4]
theorem rM_u (f : Nat → Int32) (X : Nat × Int32 × Int32 × Nat) (n : Nat) (a b : Int32) (d : Nat) : upd (upd (upd (rM f X) 0 a) 1 b) 2 (nI d) = rM f (n, a, b, d) := by
  funext k
  simp only [upd, rM]
  by_cases h4 : k = 2
  · subst h4; simp
  · by_cases h3 : k = 1
    · subst h3; simp
    · by_cases h2 : k = 0
      · subst h2; simp
      · simp [h2, h3, h4]
theorem vN_le {m g : Nat → Int32} (hw : WFh g) : vN m g ≤ 6 := cn_le hw _
theorem upd_self (f : Nat → Int32) (k : Nat) : upd f k (f k) = f := by
  funext i
  by_cases h : i = k
  · subst h; rw [pk_us]
  · rw [pk_un h]
theorem upd_upd (f : Nat → Int32) (k : Nat) (x y : Int32) : upd (upd f k x) k y = upd f k y := by
  funext i
  by_cases h : i = k
  · subst h; rw [pk_us, pk_us]
  · rw [pk_un h, pk_un h, pk_un h]
theorem WFh_carry {m : Nat → Int32} (hw : WFh m) (p : Nat) (v : Int32) : WFh (upd m (26 + p) v) := WFh_m (fun k hk => pk_un (by omega)) hw
theorem zI_putne (X : zSt) {c c' : Nat} (h : c' ≠ c) (f : Nat → Int32) (j : Nat) (v : Int32) : zI (zPut X c f) c' j v = zPut (zI X c' j v) c f := by
  unfold zI zPut
  refine Prod.ext ?_ rfl
  funext a b
  by_cases h1 : a = c
  · subst h1
    simp [Ne.symm h]
  · simp [h1]
def zM (T : zSt) (y : Int32) (r g : Nat → Int32) : zSt := zPut (zPut (zI T 0 32 y) 14 r) 2 g
theorem zM_2 (T : zSt) (y : Int32) (r g : Nat → Int32) : (zM T y r g).1 2 = g := zPut_eq _ _ _
theorem zM_0 (T : zSt) (y : Int32) (r g : Nat → Int32) : (zM T y r g).1 0 = (zI T 0 32 y).1 0 := by
  unfold zM
  rw [zPut_ne (by omega), zPut_ne (by omega)]
theorem zM_w2 (T : zSt) (y : Int32) (r g : Nat → Int32) (j : Nat) (v : Int32) : zI (zM T y r g) 2 j v = zM T y r (upd g j v) := zI_zPut _ _ _ _ _
theorem zM_w0 (T : zSt) (y : Int32) (r g : Nat → Int32) (v : Int32) : zI (zM T y r g) 0 32 v = zM T v r g := by
  unfold zM
  rw [zI_putne _ (by omega), zI_putne _ (by omega), zI_again]
theorem zM_w14 (T : zSt) (y : Int32) (r g : Nat → Int32) (j : Nat) (v : Int32) : zI (zM T y r g) 14 j v = zM T y (upd r j v) g := by
  unfold zM
  rw [zI_putne _ (by omega), zI_zPut]
section Choice2
variable {S T : zSt}
theorem m_choose (T : zSt) (v w : Int32) : fX12_choose T v w = some (zI (zI (zI T 14 0 v) 14 1 w) 14 2 (T.1 0 32)) := by
  unfold fX12_choose
  rw [zg_0_3, zGd_t, zt_0, zLt_s, zg_1_3, zGd_t, zt_1, zLt_s, zg_2_3, zGd_t, zt_2, zLt_s, zI_ne (show (0 : Nat) ≠ 14 by omega), zI_ne (show (0 : Nat) ≠ 14 by omega)]
theorem stp_le {m : Nat → Int32} (hw : WFh m) (p l : Nat) {X : Nat × Int32 × Int32 × Nat} (h : X.1 ≤ 6) : (stp m p l X).1 ≤ 6 ∧ X.1 ≤ (stp m p l X).1 := by
  have := vN_le (m := m) (WFh_carry hw p (nI l))
  unfold stp
  by_cases q : X.1 < vN m (upd m (26 + p) (nI l))
  · rw [if_pos q]; exact ⟨this, by omega⟩
  · rw [if_neg q]; exact ⟨h, Nat.le_refl _⟩
theorem stps_le {m : Nat → Int32} (hw : WFh m) (p : Nat) {X : Nat × Int32 × Int32 × Nat} (h : X.1 ≤ 6) : ∀ n, (zFo (stp m p) X n).1 ≤ 6 ∧ X.1 ≤ (zFo (stp m p) X n).1
  | 0 => ⟨h, Nat.le_refl _⟩
  | n + 1 => by
    obtain ⟨i1, i2⟩ := stps_le hw p h n
    obtain ⟨j1, j2⟩ := stp_le hw p n i1
    rw [zFo]
    exact ⟨j1, by omega⟩
theorem c_turn {m : Nat → Int32} (hh : Rh S.1 4 m) (hw : WFh m) (hl : Rl S.1 14 m) (hv : WFl m) (f : Nat → Int32) {p l n : Nat} (hn : kL m = n + 1) (hp : p < kP m) (hlL : l < kL m) {X : Nat × Int32 × Int32 × Nat} (hX : X.1 ≤ 6) : fX2_chooseByTurns_46 (nI p) (zPut S 255 (rC f X), nI X.1, nI l) = some (.inl (zPut S 255 (rC f (stp m p l X)), nI (stp m p l X).1, nI (l + 1))) := by
  have h5 := hw.1.2
  have h6 := hw.2.1.2
  have hh' : Rh (zPut S 255 (rC f X)).1 4 m := Rh_cong (fun a h1 h2 => zPut_ne (by omega)) hh
  have hl' : Rl (zPut S 255 (rC f X)).1 14 m := Rl_cong h6 (fun a h1 h2 => zPut_ne (by omega)) hl
  have hg : ∀ k, (k < 26 ∨ 32 ≤ k) → upd m (26 + p) (nI l) k = m k := fun k hk => pk_un (by omega)
  have hq : ∀ q, q < kP m → upd m (26 + p) (nI l) (26 + q) = if nI q = nI p then nI l else m (26 + q) := fun q hq => by
    by_cases e : q = p
    · subst e; rw [pk_us, if_pos rfl]
    · rw [pk_un (by omega), if_neg (fun z => e ((nI_eq (by omega) (by omega)).mp z))]
  have hz : ∀ q, q < kP m → zIn (upd m (26 + p) (nI l) (26 + q)) (kL m) := fun q hq' => by
    by_cases e : q = p
    · subst e; rw [pk_us]; exact ⟨l, hlL, rfl⟩
    · rw [pk_un (by omega)]; exact (hv.2.2.1 q hq').1
  have e1 := c_answer hh' hw hl' hg hq hz hn
  have f1 : vF m (upd m (26 + p) (nI l)) < 5 := by
    have := fA_lt (cn (upd m (26 + p) (nI l))) n
    unfold vF
    rw [hn]
    omega
  have e2 := c_seeing hh' hw hl' hg hq hz f1
  have n1 := vN_le (m := m) (WFh_carry hw p (nI l))
  unfold fX2_chooseByTurns_46 fX2_chooseByTurns_102
  dsimp only
  rw [zg_0_4, zGd_t, zt_0, hh'.1 0 (by omega), hw.1.1, zle_f hlL (by omega), e1, zBd_s]
  rw [show fA (cn (upd m (26 + p) (nI l))) (kL m) = vF m (upd m (26 + p) (nI l)) from rfl, e2, zBd_s, zLt_s, zLt_s, zLt_s, zLt_s, zLt_s, nI_1, zI_zPut, zI_zPut, zI_zPut, rC_u f X (vN m (upd m (26 + p) (nI l)))]
  rw [show cn (upd m (26 + p) (nI l)) (vF m (upd m (26 + p) (nI l))) = vN m (upd m (26 + p) (nI l)) from rfl]
  unfold stp
  by_cases q : X.1 < vN m (upd m (26 + p) (nI l))
  · rw [zle_f q (by omega), if_pos q]
  · rw [zle_t (by omega) (by omega), if_neg q]
theorem c_turns {m : Nat → Int32} (hh : Rh S.1 4 m) (hw : WFh m) (hl : Rl S.1 14 m) (hv : WFl m) (f : Nat → Int32) {p n : Nat} (hn : kL m = n + 1) (hp : p < kP m) {X : Nat × Int32 × Int32 × Nat} (hX : X.1 ≤ 6) : fX2_chooseByTurns_33 (zPut S 255 (rC f X), nI X.1, nI p) = some (.inl (zPut S 255 (rC f (zFo (stp m p) X (kL m))), nI (zFo (stp m p) X (kL m)).1, nI (p + 1))) := by
  have h5 := hw.1.2
  have h6 := hw.2.1.2
  have hh' : ∀ Y, Rh (zPut S 255 (rC f Y)).1 4 m := fun Y => Rh_cong (fun a h1 h2 => zPut_ne (by omega)) hh
  unfold fX2_chooseByTurns_33
  dsimp only
  rw [c_plants (b := 14) (hh' X), zBd_s, hw.2.1.1, zle_f hp (by omega)]
  refine zLp_run (body := fX2_chooseByTurns_46 (nI p)) (fun i => (zPut S 255 (rC f (zFo (stp m p) X i)), nI (zFo (stp m p) X i).1, nI i)) (kL m) 2000 (fun i hi => ?_) ?_ (by omega)
  · exact c_turn hh hw hl hv f hn hp hi (stps_le hw p hX i).1
  · unfold fX2_chooseByTurns_46
    dsimp only
    rw [zg_0_4, zGd_t, zt_0, (hh' _).1 0 (by omega), hw.1.1, zle_t (Nat.le_refl _) (by omega), zLt_s, nI_1, zXr_s]
def stM (m : Nat → Int32) (p o l : Nat) (Z : (Nat × Int32 × Int32 × Nat) × Int32 × Int32) : (Nat × Int32 × Int32 × Nat) × Int32 × Int32 := if l = o then Z else (stp m p l Z.1, nI (vF m (upd m (26 + p) (nI l))), nI l)
theorem stM_1 {m : Nat → Int32} (hw : WFh m) {p o : Nat} (ho : m (26 + p) = nI o) {Z : (Nat × Int32 × Int32 × Nat) × Int32 × Int32} (h0 : vN m m ≤ Z.1.1) (h6 : Z.1.1 ≤ 6) : ∀ n, (zFo (stM m p o) Z n).1 = zFo (stp m p) Z.1 n
  | 0 => rfl
  | n + 1 => by
    have ih := stM_1 hw ho h0 h6 n
    rw [zFo, zFo, stM, ← ih]
    by_cases q : n = o
    · subst q
      have hs := stps_le hw p h6 n
      rw [if_pos rfl, stp, ← ho, upd_self, if_neg (by rw [ih]; omega)]
    · rw [if_neg q]
theorem m_turn {m : Nat → Int32} (hw : WFh m) (hv : WFl m) (f : Nat → Int32) {p o l n : Nat} (hn : kL m = n + 1) (hp : p < kP m) (ho : o < kL m) (hlL : l < kL m) {Z : (Nat × Int32 × Int32 × Nat) × Int32 × Int32} (hX : Z.1.1 ≤ 6) : fX12_choice_57 (nI p) (nI o) (zM T Z.2.1 (rM f Z.1) (upd m (26 + p) Z.2.2), nI Z.1.1, nI l) = some (.inl (zM T (stM m p o l Z).2.1 (rM f (stM m p o l Z).1) (upd m (26 + p) (stM m p o l Z).2.2), nI (stM m p o l Z).1.1, nI (l + 1))) := by
  have h5 := hw.1.2
  have h6 := hw.2.1.2
  unfold fX12_choice_57 fX12_choice_113
  dsimp only
  rw [zg_0_406, zGd_t, zt_0, zM_2, pk_un (show 0 ≠ 26 + p by omega), hw.1.1, zle_f hlL (by omega), stM, nI_1, zLt_s, zLt_s, zo_26, zIx_nI (by omega) (by omega), zGd_t, nI_clamp (by omega), zM_w2, upd_upd]
  by_cases q : l = o
  · subst q
    rw [zBr_p rfl, if_pos rfl]
  · rw [zBr_q (fun z => q ((nI_eq (by omega) (by omega)).mp z)), if_neg q]
    have wg : WFh (upd m (26 + p) (nI l)) := WFh_carry hw p _
    have wl : WFl (upd m (26 + p) (nI l)) := WFl_carry hv hp h6 ⟨l, hlL, rfl⟩
    have kg : kL (upd m (26 + p) (nI l)) = kL m := by unfold kL; rw [pk_un (by omega)]
    have e1 := m_fewest (T := zM T Z.2.1 (rM f Z.1) (upd m (26 + p) (nI l))) (by rw [zM_2]; exact wg) (by rw [zM_2]; exact wl) (n := n) (by rw [zM_2, kg]; exact hn)
    rw [zM_2, kg, zM_w0] at e1
    have n1 := vN_le (m := m) wg
    rw [e1, zBp_s, m_choose, zBd_s, zM_0, zI_at, if_pos ⟨rfl, rfl⟩, zM_w14, zM_w14, zM_w14, zLt_s, zLt_s]
    rw [show fA (cn (upd m (26 + p) (nI l))) (kL m) = vF m (upd m (26 + p) (nI l)) from rfl, show cn (upd m (26 + p) (nI l)) (vF m (upd m (26 + p) (nI l))) = vN m (upd m (26 + p) (nI l)) from rfl, rM_u f Z.1 (vN m (upd m (26 + p) (nI l)))]
    unfold stp
    by_cases b : Z.1.1 < vN m (upd m (26 + p) (nI l))
    · rw [zlt_t b (by omega), if_pos b]
    · rw [zlt_f (by omega) (by omega), if_neg b]
theorem m_turns {m : Nat → Int32} (hw : WFh m) (hv : WFl m) (f : Nat → Int32) {p n : Nat} (hn : kL m = n + 1) (hp : p < kP m) (y : Int32) {X : Nat × Int32 × Int32 × Nat} (h0 : vN m m ≤ X.1) (hX : X.1 ≤ 6) : ∃ y', fX12_choice_34 (zM T y (rM f X) m, nI X.1, nI p) = some (.inl (zM T y' (rM f (zFo (stp m p) X (kL m))) m, nI (zFo (stp m p) X (kL m)).1, nI (p + 1))) := by
  have h5 := hw.1.2
  have h6 := hw.2.1.2
  obtain ⟨o, ho, eo⟩ := (hv.2.2.1 p hp).1
  have s1 := stM_1 hw eo (Z := (X, y, nI o)) h0 hX
  refine ⟨(zFo (stM m p o) (X, y, nI o) (kL m)).2.1, ?_⟩
  unfold fX12_choice_34
  dsimp only
  rw [zM_2, zg_1_406, zGd_t, zt_1, hw.2.1.1, zle_f hp (by omega), zo_26, zIx_nI (by omega) (by omega), zGd_t, nI_clamp (by omega), eo, zLt_s]
  have key := zLp_run (body := fX12_choice_57 (nI p) (nI o)) (fun i => (zM T (zFo (stM m p o) (X, y, nI o) i).2.1 (rM f (zFo (stM m p o) (X, y, nI o) i).1) (upd m (26 + p) (zFo (stM m p o) (X, y, nI o) i).2.2), nI (zFo (stM m p o) (X, y, nI o) i).1.1, nI i)) (r := .inl (zM T (zFo (stM m p o) (X, y, nI o) (kL m)).2.1 (rM f (zFo (stp m p) X (kL m))) m, nI (zFo (stp m p) X (kL m)).1, nI (p + 1))) (kL m) 2000 (fun i hi => ?_) ?_ (by omega)
  · rw [show (zFo (stM m p o) (X, y, nI o) 0) = (X, y, nI o) from rfl] at key
    dsimp only at key
    rw [← eo, upd_self] at key
    rw [← eo]
    exact key
  · rw [zFo]
    exact m_turn hw hv f hn hp ho hi (by rw [s1 i]; exact (stps_le hw p hX i).1)
  · unfold fX12_choice_57
    dsimp only
    rw [zg_0_406, zGd_t, zt_0, zM_2, pk_un (show 0 ≠ 26 + p by omega), hw.1.1, zle_t (Nat.le_refl _) (by omega), zo_26, zIx_nI (by omega) (by omega), zGd_t, nI_clamp (by omega), zM_w2, upd_upd, zLt_s, zLt_s, nI_1, zXr_s, s1, ← eo, upd_self]
theorem zLp_ex {σ τ β : Type} {body : σ → Option (σ ⊕ β)} (st : Nat → τ → σ) {r : τ → β} : ∀ (n fuel k : Nat) (y : τ), (∀ i y, i < n → ∃ y', body (st (k + i) y) = some (.inl (st (k + i + 1) y'))) → (∀ y, body (st (k + n) y) = some (.inr (r y))) → n < fuel → ∃ y', zLp body fuel (st k y) = some (r y') := by
  intro n
  induction n with
  | zero =>
    intro fuel k y _ hx hf
    obtain ⟨f, rfl⟩ : ∃ f, fuel = f + 1 := ⟨fuel - 1, by omega⟩
    refine ⟨y, ?_⟩
    have := hx y
    rw [Nat.add_zero] at this
    simp [zLp, this]
  | succ n ih =>
    intro fuel k y hs hx hf
    obtain ⟨f, rfl⟩ : ∃ f, fuel = f + 1 := ⟨fuel - 1, by omega⟩
    obtain ⟨y1, h0⟩ := hs 0 y (by omega)
    rw [Nat.add_zero] at h0
    obtain ⟨y2, h2⟩ := ih f (k + 1) y1 (fun i y hi => by
      have := hs (i + 1) y (by omega)
      rw [show k + (i + 1) = k + 1 + i by omega] at this
      exact this) (fun y => by
      have := hx y
      rw [show k + (n + 1) = k + 1 + n by omega] at this
      exact this) (by omega)
    refine ⟨y2, ?_⟩
    simp only [zLp, h0]
    exact h2
def allS (m : Nat → Int32) (n : Nat) : Nat × Int32 × Int32 × Nat := zFo (fun p X => zFo (stp m p) X (kL m)) (vN m m, -1, -1, vF m m) n
theorem allS_le {m : Nat → Int32} (hw : WFh m) : ∀ n, (allS m n).1 ≤ 6 ∧ vN m m ≤ (allS m n).1
  | 0 => ⟨vN_le hw, Nat.le_refl _⟩
  | n + 1 => by
    obtain ⟨i1, i2⟩ := allS_le hw n
    obtain ⟨j1, j2⟩ := stps_le hw n i1 (kL m)
    exact ⟨j1, Nat.le_trans i2 j2⟩
theorem op_choice (r : Rel S T) : ∃ z S' T', fX11_choice S = some (z, S') ∧ fX12_choice T = some (z, T') ∧ Rel S' T' := by
  have rt := Rel_thrown r 0
  obtain ⟨-, ⟨hh, hw, hl, hv, -⟩, -⟩ := id r
  have h5 := hw.1.2
  have h6 := hw.2.1.2
  obtain ⟨m, hm⟩ : ∃ m, m = T.1 2 := ⟨_, rfl⟩
  rw [← hm] at hh hw hl hv h5 h6
  unfold fX11_choice fX12_choice
  rw [zLt_s, zTh, ← hm, zg_0_406, zGd_t, zt_0, zg_0_4, zGd_t, hh.1 0 (by omega), hw.1.1]
  by_cases k0 : kL m = 0
  · rw [k0, zBr_p (show nI 0 = 0 from rfl), zBr_p (show nI 0 = 0 from rfl)]
    exact ⟨-1, S, _, rfl, rfl, rt⟩
  obtain ⟨n, hn⟩ : ∃ n, kL m = n + 1 := ⟨kL m - 1, by omega⟩
  have k1 : ¬ nI (kL m) = (0 : Int32) := fun q => k0 ((nI_eq (b := 0) (by omega) (by omega)).mp q)
  rw [zBr_q k1, zBr_q k1]
  have hp0 : ∀ q, q < kP m → m (26 + q) = if nI q = -1 then -1 else m (26 + q) := fun q hq => by
    rw [if_neg (zneg2 (by omega))]
  have hz0 : ∀ q, q < kP m → zIn (m (26 + q)) (kL m) := fun q hq => (hv.2.2.1 q hq).1
  have f1 : vF m m < 5 := by
    have := fA_lt (cn m) n
    unfold vF
    rw [hn]
    omega
  have e1 : fX2_chooseByTurns S = some (nI (allS m (kP m)).1, zPut S 255 (rC (S.1 255) (allS m (kP m)))) := by
    obtain ⟨S2, hS2⟩ : ∃ X, X = zI (zI S 255 2 (-1)) 255 3 (-1) := ⟨_, rfl⟩
    have n2 : ∀ c, c ≠ 255 → S2.1 c = S.1 c := fun c hc => by rw [hS2, zI_ne hc, zI_ne hc]
    have a1 := c_answer (S := S2) (g := m) (v2 := -1) (v3 := -1) (Rh_cong (fun a h1 h2 => n2 a (by omega)) hh) hw (Rl_cong h6 (fun a h1 h2 => n2 a (by omega)) hl) (fun _ _ => rfl) hp0 hz0 hn
    have e5 : zI S2 255 4 (nI (vF m m)) = zPut S 255 (rC (S.1 255) (allS m 0)) := by
      rw [hS2, zI_put S, zI_zPut, zI_zPut]
      have := rC_u (S.1 255) (0, S.1 255 2, S.1 255 3, 0) (vN m m) (-1) (-1) (vF m m)
      rw [show allS m 0 = (vN m m, -1, -1, vF m m) from rfl]
      congr 1
      funext k
      simp only [upd, rC]
      by_cases q4 : k = 4
      · subst q4; simp
      · by_cases q3 : k = 3
        · subst q3; simp
        · by_cases q2 : k = 2
          · subst q2; simp
          · simp [q2, q3, q4]
    unfold fX2_chooseByTurns
    rw [zLt_s, zLt_s, ← hS2, a1, zBd_s, zLt_s, show fA (cn m) (kL m) = vF m m from rfl, e5]
    have r4 : (zPut S 255 (rC (S.1 255) (allS m 0))).1 255 4 = nI (vF m m) := by rw [zPut_eq]; rfl
    have a2 := c_seeing (S := zPut S 255 (rC (S.1 255) (allS m 0))) (g := m) (v2 := -1) (v3 := -1) (Rh_cong (fun a h1 h2 => zPut_ne (by omega)) hh) hw (Rl_cong h6 (fun a h1 h2 => zPut_ne (by omega)) hl) (fun _ _ => rfl) hp0 hz0 f1
    rw [r4, a2, zBd_s]
    refine zLp_run (body := fX2_chooseByTurns_33) (fun i => (zPut S 255 (rC (S.1 255) (allS m i)), nI (allS m i).1, nI i)) (kP m) 2000 (fun i hi => ?_) ?_ (by omega)
    · exact c_turns hh hw hl hv (S.1 255) hn hi (allS_le hw i).1
    · unfold fX2_chooseByTurns_33
      dsimp only
      rw [c_plants (b := 14) (m := m) (show Rh _ 4 m from Rh_cong (fun a h1 h2 => zPut_ne (by omega)) hh), zBd_s, hw.2.1.1, zle_t (Nat.le_refl _) (by omega), zXr_s]
  have e2 : ∃ y, zBp (fX12_fewestSee (zI T 0 0 0)) (fun r6 S5 => zBd (fX12_choose S5 (-1 : Int32) (-1 : Int32)) (fun S8 => zGd (zBo (1 : Int32)) (zLt (zI S8 0 31 (1 : Int32)) (fun S9 => zLp (fX12_choice_34) 2000 (S9, r6, (0 : Int32)))))) = some (nI (allS m (kP m)).1, zM (zI (zI T 0 0 0) 0 31 1) y (rM (T.1 14) (allS m (kP m))) m) := by
    have a1 := m_fewest (T := zI T 0 0 0) (by rw [zTh, ← hm]; exact hw) (by rw [zTh, ← hm]; exact hv) (n := n) (by rw [zTh, ← hm]; exact hn)
    rw [zTh, ← hm] at a1
    have e5 : zI (zI (zI (zI (zI (zI T 0 0 0) 0 32 (nI (vF m m))) 14 0 (-1)) 14 1 (-1)) 14 2 (nI (vF m m))) 0 31 1 = zM (zI (zI T 0 0 0) 0 31 1) (nI (vF m m)) (rM (T.1 14) (allS m 0)) m := by
      unfold zM
      refine Prod.ext ?_ rfl
      funext a b
      simp only [zPut, zI]
      by_cases c2 : a = 2
      · subst c2; simp [hm]
      · by_cases c14 : a = 14
        · subst c14
          rw [show allS m 0 = (vN m m, -1, -1, vF m m) from rfl]
          by_cases q4 : b = 2
          · subst q4; simp [rM]
          · by_cases q3 : b = 1
            · subst q3; simp [rM]
            · by_cases q2 : b = 0
              · subst q2; simp [rM]
              · simp [rM, q2, q3, q4]
        · by_cases c0 : a = 0
          · subst c0
            by_cases q1 : b = 31
            · subst q1; simp
            · by_cases q2 : b = 32
              · subst q2; simp
              · simp [q1, q2]
          · simp [c0, c2, c14]
    rw [a1, zBp_s, m_choose, zBd_s, show zBo (1 : Int32) = true by decide, zGd_t, zLt_s, show fA (cn m) (kL m) = vF m m from rfl, show (zI (zI T 0 0 0) 0 32 (nI (vF m m))).1 0 32 = nI (vF m m) by rw [zI_at, if_pos ⟨rfl, rfl⟩], e5, show cn m (vF m m) = (allS m 0).1 from rfl]
    have key := zLp_ex (body := fX12_choice_34) (fun i y => (zM (zI (zI T 0 0 0) 0 31 1) y (rM (T.1 14) (allS m i)) m, nI (allS m i).1, nI i)) (r := fun y => (nI (allS m (kP m)).1, zM (zI (zI T 0 0 0) 0 31 1) y (rM (T.1 14) (allS m (kP m))) m)) (kP m) 2000 0 (nI (vF m m)) (fun i y hi => ?_) (fun y => ?_) (by omega)
    · obtain ⟨y, hy⟩ := key
      exact ⟨y, hy⟩
    · rw [Nat.zero_add]
      exact m_turns hw hv (T.1 14) hn hi y (allS_le hw i).2 (allS_le hw i).1
    · rw [Nat.zero_add]
      unfold fX12_choice_34
      dsimp only
      rw [zM_2, zg_1_406, zGd_t, zt_1, hw.2.1.1, zle_t (Nat.le_refl _) (by omega), zXr_s]
  obtain ⟨y, e2⟩ := e2
  rw [e1, zBp_s, e2]
  refine ⟨_, _, _, rfl, rfl, ?_⟩
  have z0 : ∀ j, j ≠ 31 → j ≠ 32 → (zM (zI (zI T 0 0 0) 0 31 1) y (rM (T.1 14) (allS m (kP m))) m).1 0 j = (zI T 0 0 0).1 0 j := fun j h1 h2 => by
    rw [zM_0, zI_at, if_neg (by omega), zI_at, if_neg (by omega)]
  have zc : ∀ c, c ≠ 0 → c ≠ 2 → c ≠ 14 → (zM (zI (zI T 0 0 0) 0 31 1) y (rM (T.1 14) (allS m (kP m))) m).1 c = T.1 c := fun c h0 h2 h14 => by
    unfold zM
    rw [zPut_ne h2, zPut_ne h14, zI_ne h0, zI_ne h0, zI_ne h0]
  obtain ⟨r1, -, -, -, -, r6, r7, r8, r9, -⟩ := id rt
  refine Rel_side rt (fun c hc => zPut_ne (by omega)) (fun c hc => rfl) ⟨by rw [zM_2, hm, zTh], by rw [zc 4 (by omega) (by omega) (by omega), zI_ne (by omega)], by rw [zc 5 (by omega) (by omega) (by omega), zI_ne (by omega)], by rw [zc 10 (by omega) (by omega) (by omega), zI_ne (by omega)]⟩ ⟨rfl, rfl⟩ (z0 24 (by omega) (by omega)) ?_ ?_ ?_ ?_ ?_
  · rw [zPut_ne (by omega), zPut_ne (by omega), z0 2 (by omega) (by omega), zc 1 (by omega) (by omega) (by omega)]
    rw [zI_ne (show (1 : Nat) ≠ 0 by omega)] at r1
    exact r1
  · rw [zPut_ne (by omega), z0 10 (by omega) (by omega), z0 25 (by omega) (by omega), z0 26 (by omega) (by omega)]
    exact r6
  · rw [zPut_ne (by omega), zPut_ne (by omega), z0 29 (by omega) (by omega), zc 13 (by omega) (by omega) (by omega)]
    rw [zI_ne (show (13 : Nat) ≠ 0 by omega)] at r7
    exact r7
  · rw [zPut_eq]
    refine Or.inr ⟨?_, ?_, ?_, ?_⟩
    · rw [zM_0, zI_at, if_neg (by omega), zI_at, if_pos ⟨rfl, rfl⟩]; decide
    · unfold zM; rw [zPut_ne (by omega), zPut_eq]; rfl
    · unfold zM; rw [zPut_ne (by omega), zPut_eq]; rfl
    · unfold zM; rw [zPut_ne (by omega), zPut_eq]; rfl
  · rw [zPut_ne (by omega), z0 39 (by omega) (by omega), zc 17 (by omega) (by omega) (by omega)]
    rw [zI_ne (show (17 : Nat) ≠ 0 by omega)] at r9
    exact r9
end Choice2
