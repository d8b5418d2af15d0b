/-! tokens -/
def rdB (S T : zSt) (b : Nat → Nat) (L M : Nat) : Prop := L ≤ 940 ∧ S.1 1 1 = nI L ∧ T.1 0 3 = nI L ∧ S.1 1 3 = nI M ∧ T.1 0 4 = nI M ∧ M ≤ 900 ∧ (∀ i, i < L → S.1 2 i = nI (b i) ∧ T.1 1 i = nI (b i) ∧ b i < 256) ∧ rKey (S.2 3)
def FC (S S' : zSt) : Prop := (∀ c, c ≠ 1 → S'.1 c = S.1 c ∧ S'.2 c = S.2 c) ∧ ∀ j, (j = 1 ∨ j = 3 ∨ j = 9 ∨ j = 10) → S'.1 1 j = S.1 1 j
def FM (T T' : zSt) : Prop := (∀ c, c ≠ 0 → T'.1 c = T.1 c ∧ T'.2 c = T.2 c) ∧ ∀ j, (j < 5 ∨ 10 ≤ j) → T'.1 0 j = T.1 0 j
def tkR (S T : zSt) (L M st to : Nat) : Prop := S.1 1 6 = nI st ∧ T.1 0 6 = nI st ∧ st ≤ 940 ∧ ((S.1 1 5 = 102 ∧ T.1 0 7 = 0) ∨ (S.1 1 5 = 103 ∧ T.1 0 7 = 1) ∨ (S.1 1 4 = nI to ∧ T.1 0 5 = nI to ∧ st < to ∧ to ≤ L ∧ st < M ∧ ((S.1 1 5 = 101 ∧ T.1 0 7 = 3 ∧ ∃ v, v < 1000 ∧ S.1 1 8 = nI v ∧ T.1 0 8 = nI v) ∨ (∃ c, (c = 40 ∨ c = 41 ∨ (59 ≤ c ∧ c ≤ 62)) ∧ S.1 1 5 = nI c ∧ T.1 0 7 = 4 ∧ T.1 0 9 = nI c) ∨ (T.1 0 7 = 2 ∧ nmR (S.2 1 7) (T.2 0 12) ∧ S.1 1 5 = tkOf (S.2 1 7)))))
theorem FC.refl (S : zSt) : FC S S := ⟨fun _ _ => ⟨rfl, rfl⟩, fun _ _ => rfl⟩
theorem FM.refl (T : zSt) : FM T T := ⟨fun _ _ => ⟨rfl, rfl⟩, fun _ _ => rfl⟩
theorem FC.trans {S S' S'' : zSt} (h : FC S S') (h' : FC S' S'') : FC S S'' := ⟨fun c hc => ⟨((h'.1 c hc).1).trans (h.1 c hc).1, ((h'.1 c hc).2).trans (h.1 c hc).2⟩, fun j hj => (h'.2 j hj).trans (h.2 j hj)⟩
theorem FM.trans {S S' S'' : zSt} (h : FM S S') (h' : FM S' S'') : FM S S'' := ⟨fun c hc => ⟨((h'.1 c hc).1).trans (h.1 c hc).1, ((h'.1 c hc).2).trans (h.1 c hc).2⟩, fun j hj => (h'.2 j hj).trans (h.2 j hj)⟩
theorem rdB_F {S S' T T' : zSt} {b : Nat → Nat} {L M : Nat} (h : rdB S T b L M) (hS : FC S S') (hT : FM T T') : rdB S' T' b L M := by
  obtain ⟨h1, h2, h3, h4, h5, h6, h7, h8⟩ := h
  refine ⟨h1, by rw [hS.2 1 (by omega)]; exact h2, by rw [hT.2 3 (by omega)]; exact h3, by rw [hS.2 3 (by omega)]; exact h4, by rw [hT.2 4 (by omega)]; exact h5, h6, fun i hi => ?_, by rw [(hS.1 3 (by omega)).2]; exact h8⟩
  rw [(hS.1 2 (by omega)).1, (hT.1 1 (by omega)).1]
  exact h7 i hi
section Token
variable {S T : zSt} {b : Nat → Nat} {L M : Nat}
/-- a run, on both sides -/
theorem two_run (hr : rdB S T b L M) {st : Nat} (h4 : S.1 1 4 = nI st) (h5 : T.1 0 5 = nI st) (h6 : T.1 0 6 = nI st) (h6' : S.1 1 6 = nI st) (hs : st < L) (hM : st < M) (ha : cL (b st) = true ∨ cD (b st) = true) : ∃ S' T' to, fX9_readRun S = some S' ∧ fX12_go_198 T (nI (b st)) = some T' ∧ FC S S' ∧ FM T T' ∧ tkR S' T' L M st to := by
  obtain ⟨r1, r2, r3, r4, r5, r6, r7, r8⟩ := hr
  obtain ⟨n, hn, hA, hE⟩ : ∃ n, st + n ≤ L ∧ (∀ j, j < n → cL (b (st + j)) = true ∨ cD (b (st + j)) = true) ∧ (st + n = L ∨ ¬ (cL (b (st + n)) = true ∨ cD (b (st + n)) = true)) := by
    rcases zFirst (fun j => cL (b (st + j)) = true ∨ cD (b (st + j)) = true) (L - st) with all | ⟨n, hn, h1, h2⟩
    · exact ⟨L - st, by omega, all, Or.inl (by omega)⟩
    · exact ⟨n, by omega, h1, Or.inr h2⟩
  have n1 : 1 ≤ n := by
    refine Nat.pos_of_ne_zero (fun q => ?_)
    subst q
    rcases hE with h | h
    · omega
    · exact h ha
  obtain ⟨X, cX, x1, x2, x3, x4, x5⟩ := c_run (S := S) (b := b) r2 r1 (fun i hi => ⟨(r7 i hi).1, (r7 i hi).2.2⟩) r8 h4 hn hA hE
  obtain ⟨Y, cY, y1, y2, y3, y4, y5⟩ := m_run (T := T) (b := b) r3 r1 (fun i hi => ⟨(r7 i hi).2.1, (r7 i hi).2.2⟩) h5 h6 hs hn hA hE
  refine ⟨_, _, st + n, cX, cY, ⟨fun c hc => ⟨by rw [zI_ne hc]; exact (x1 c hc).1, by rw [zI_at2]; exact (x1 c hc).2⟩, fun j hj => by rw [zI_at, if_neg (by omega)]; exact x2 j (by omega) (by omega)⟩, ⟨fun c hc => ⟨by rw [zI_ne hc]; exact (y1 c hc).1, by rw [zI_at2]; exact (y1 c hc).2⟩, fun j hj => by rw [zI_at, if_neg (by omega)]; exact y2 j (by omega) (by omega)⟩, ?_⟩
  have s6 : ∀ t, (zI X 1 5 t).1 1 6 = nI st := fun t => by rw [zI_at, if_neg (by omega), x2 6 (by omega) (by omega), h6']
  have t6 : ∀ t, (zI Y 0 7 t).1 0 6 = nI st := fun t => by rw [zI_at, if_neg (by omega), y2 6 (by omega) (by omega), h6]
  have s4 : ∀ t, (zI X 1 5 t).1 1 4 = nI (st + n) := fun t => by rw [zI_at, if_neg (by omega), x3]
  have t5 : ∀ t, (zI Y 0 7 t).1 0 5 = nI (st + n) := fun t => by rw [zI_at, if_neg (by omega), y3]
  have excl : ∀ j, j < n → (cL (b (st + j)) = true ↔ ¬ cD (b (st + j)) = true) := fun j hj => by
    constructor
    · intro h1 h2
      have := cL_iff.mp h1
      have := cD_iff.mp h2
      omega
    · intro h2
      rcases hA j hj with h | h
      · exact h
      · exact absurd h h2
  refine ⟨s6 _, t6 _, by omega, ?_⟩
  have zs5 : ∀ t, (zI X 1 5 t).1 1 5 = t := fun t => by rw [zI_at, if_pos ⟨rfl, rfl⟩]
  have zt7 : ∀ t, (zI Y 0 7 t).1 0 7 = t := fun t => by rw [zI_at, if_pos ⟨rfl, rfl⟩]
  rw [zs5, zt7]
  by_cases l0 : cL (b st) = true
  · by_cases al : ∀ j, j < n → cL (b (st + j)) = true
    · have c1 : zCt (fun j => cL (b (st + j))) n = n := zCt_all al
      have c2 : zCt (fun j => cD (b (st + j))) n = 0 := zCt_none (fun j hj => Bool.not_eq_true _ |>.mp ((excl j hj).mp (al j hj)))
      have gd : gdB b st (cL (b st)) n = true := gdB_t.mpr (fun j hj => by rw [al j hj, l0])
      rw [c1, c2, gd, l0]
      unfold tokR kdR
      rw [if_neg (by omega), if_pos rfl, if_pos rfl]
      by_cases n7 : n ≤ 7
      · rw [if_pos ⟨rfl, n7⟩, if_pos n7]
        refine Or.inr (Or.inr ⟨s4 _, t5 _, by omega, hn, hM, Or.inr (Or.inr ⟨rfl, ?_, rfl⟩)⟩)
        exact ⟨lw b st n, by rw [lw_len]; omega, by rw [lw_len]; exact n7, lw_ok al, by rw [zI_at2]; exact x4 n7 al, by rw [zI_at2]; exact y4 n7 al⟩
      · rw [if_neg (fun z => n7 z.2), if_neg n7]
        exact Or.inr (Or.inl ⟨rfl, rfl⟩)
    · obtain ⟨j, hj, hd⟩ : ∃ j, j < n ∧ ¬ cL (b (st + j)) = true := Classical.byContradiction (fun q => al (fun j hj => Classical.byContradiction (fun z => q ⟨j, hj, z⟩)))
      have hd' : cD (b (st + j)) = true := (hA j hj).resolve_left hd
      have c1 := zCt_some (P := fun j => cL (b (st + j))) (n := n) (i := 0) (by omega) (by rw [Nat.add_zero]; exact l0)
      have c2 := zCt_some (P := fun j => cD (b (st + j))) (n := n) hj hd'
      have gd : gdB b st (cL (b st)) n = false := Bool.not_eq_true _ |>.mp (fun z => hd (by rw [gdB_t.mp z j hj, l0]))
      unfold tokR kdR
      rw [if_neg (by omega), if_neg (fun z => by omega), gd, if_neg (by decide)]
      exact Or.inr (Or.inl ⟨rfl, rfl⟩)
  · have l0' : cL (b st) = false := Bool.not_eq_true _ |>.mp l0
    have d0 : cD (b st) = true := ha.resolve_left l0
    by_cases al : ∀ j, j < n → cD (b (st + j)) = true
    · have c1 : zCt (fun j => cL (b (st + j))) n = 0 := zCt_none (fun j hj => Bool.not_eq_true _ |>.mp (fun z => (excl j hj).mp z (al j hj)))
      have c2 : zCt (fun j => cD (b (st + j))) n = n := zCt_all al
      have gd : gdB b st (cL (b st)) n = true := gdB_t.mpr (fun j hj => by rw [l0', Bool.not_eq_true _ |>.mp (fun z => (excl j hj).mp z (al j hj))])
      rw [c1, c2, gd, l0']
      unfold tokR kdR
      rw [if_pos rfl, if_pos rfl, if_neg (show ¬ false = true by decide)]
      by_cases n3 : n ≤ 3
      · rw [if_pos n3, if_pos n3]
        have lt := nmV_lt (b := b) (st := st) (i := n) al
        have le : 10 ^ n ≤ 10 ^ 3 := Nat.pow_le_pow_right (by omega) n3
        refine Or.inr (Or.inr ⟨s4 _, t5 _, by omega, hn, hM, Or.inl ⟨rfl, rfl, nmV b st n, by omega, ?_, ?_⟩⟩)
        · rw [zI_at, if_neg (by omega)]; exact x5 n3 al
        · rw [zI_at, if_neg (by omega)]; exact y5 n3 al
      · rw [if_neg n3, if_neg n3]
        exact Or.inr (Or.inl ⟨rfl, rfl⟩)
    · obtain ⟨j, hj, hd⟩ : ∃ j, j < n ∧ ¬ cD (b (st + j)) = true := Classical.byContradiction (fun q => al (fun j hj => Classical.byContradiction (fun z => q ⟨j, hj, z⟩)))
      have hd' : cL (b (st + j)) = true := (hA j hj).resolve_right hd
      have c1 := zCt_some (P := fun j => cL (b (st + j))) (n := n) hj hd'
      have c2 := zCt_some (P := fun j => cD (b (st + j))) (n := n) (i := 0) (by omega) (by rw [Nat.add_zero]; exact d0)
      have gd : gdB b st (cL (b st)) n = false := Bool.not_eq_true _ |>.mp (fun z => by
        have := gdB_t.mp z j hj
        rw [hd', l0'] at this
        cases this)
      unfold tokR kdR
      rw [if_neg (by omega), if_neg (fun z => by omega), gd, if_neg (by decide)]
      exact Or.inr (Or.inl ⟨rfl, rfl⟩)
theorem c_tok {c : Nat} (hc : c < 256) (nl : ¬ cL c = true) (nd : ¬ cD c = true) (X : zSt) (at4 : Nat) (h4 : X.1 1 4 = nI at4) : fX9_read_127 X (nI c) = some (zI (zI X 1 5 (if c = 40 ∨ c = 41 ∨ (59 ≤ c ∧ c ≤ 62) then nI c else 103)) 1 4 (nI (at4 + 1))) := by
  have nd' : ¬ (48 ≤ c ∧ c ≤ 57) := fun z => nd (cD_iff.mpr z)
  have e : fX9_read_127 X (nI c) = fX9_read_144 X (nI c) := by
    unfold fX9_read_127
    rw [show (48 : Int32) = nI 48 from rfl, show (57 : Int32) = nI 57 from rfl]
    by_cases z : c < 48
    · rw [zlt_t z (by omega)]
    · rw [zlt_f (by omega) (by omega), zlt_t (by omega) (by omega)]
  rw [e]
  unfold fX9_read_144 fX9_read_168 fX9_read_172 fX9_read_173 fX9_read_185
  rw [zBr_q (show ¬ (1 : Int32) = 0 by decide), zBr_p (show (0 : Int32) = 0 from rfl), zLt_s, zLt_s, zLt_s, zLt_s, zI_at, if_neg (by omega), h4, zI_at, if_neg (by omega), h4, nI_1, show (40 : Int32) = nI 40 from rfl, show (41 : Int32) = nI 41 from rfl, show (59 : Int32) = nI 59 from rfl, show (62 : Int32) = nI 62 from rfl]
  by_cases c40 : c = 40
  · rw [zBr_p (by rw [c40]), if_pos (Or.inl c40)]
  rw [zBr_q (fun q => c40 ((nI_eq (by omega) (by omega)).mp q))]
  by_cases c41 : c = 41
  · rw [zBr_p (by rw [c41]), if_pos (Or.inr (Or.inl c41))]
  rw [zBr_q (fun q => c41 ((nI_eq (by omega) (by omega)).mp q))]
  by_cases c59 : c < 59
  · rw [zlt_t c59 (by omega), if_neg (by omega)]
  rw [zlt_f (by omega) (by omega)]
  by_cases c62 : 62 < c
  · rw [zlt_t c62 (by omega), if_neg (by omega)]
  rw [zlt_f (by omega) (by omega), if_pos (by omega)]
theorem m_tok {c : Nat} (hc : c < 256) (Y : zSt) (at5 : Nat) (h5 : Y.1 0 5 = nI at5) : zBr (nI c = (59 : Int32)) (fX12_go_174 Y (nI c)) (zBr (nI c = (60 : Int32)) (fX12_go_174 Y (nI c)) (zBr (nI c = (61 : Int32)) (fX12_go_174 Y (nI c)) (zBr (nI c = (62 : Int32)) (fX12_go_174 Y (nI c)) (zBr (nI c = (40 : Int32)) (fX12_go_174 Y (nI c)) (zBr (nI c = (41 : Int32)) (fX12_go_174 Y (nI c)) (fX12_go_179 Y (nI c) (1 : Int32))))))) = some (zI (zI (zI Y 0 7 (if c = 40 ∨ c = 41 ∨ (59 ≤ c ∧ c ≤ 62) then 4 else 1)) 0 9 (nI c)) 0 5 (nI (at5 + 1))) := by
  have e : ∀ t, fX12_go_179 Y (nI c) t = some (zI (zI (zI Y 0 7 t) 0 9 (nI c)) 0 5 (nI (at5 + 1))) := fun t => by
    unfold fX12_go_179
    rw [zLt_s, zLt_s, zLt_s, zI_at, if_neg (by omega), zI_at, if_neg (by omega), h5, nI_1]
  unfold fX12_go_174
  rw [e 4, e 1, show (59 : Int32) = nI 59 from rfl, show (60 : Int32) = nI 60 from rfl, show (61 : Int32) = nI 61 from rfl, show (62 : Int32) = nI 62 from rfl, show (40 : Int32) = nI 40 from rfl, show (41 : Int32) = nI 41 from rfl]
  have ne : ∀ k, k < 256 → ¬ c = k → ¬ nI c = nI k := fun k hk h q => h ((nI_eq (by omega) (by omega)).mp q)
  by_cases a1 : c = 59
  · rw [zBr_p (by rw [a1]), if_pos (by omega)]
  rw [zBr_q (ne _ (by omega) a1)]
  by_cases a2 : c = 60
  · rw [zBr_p (by rw [a2]), if_pos (by omega)]
  rw [zBr_q (ne _ (by omega) a2)]
  by_cases a3 : c = 61
  · rw [zBr_p (by rw [a3]), if_pos (by omega)]
  rw [zBr_q (ne _ (by omega) a3)]
  by_cases a4 : c = 62
  · rw [zBr_p (by rw [a4]), if_pos (by omega)]
  rw [zBr_q (ne _ (by omega) a4)]
  by_cases a5 : c = 40
  · rw [zBr_p (by rw [a5]), if_pos (by omega)]
  rw [zBr_q (ne _ (by omega) a5)]
  by_cases a6 : c = 41
  · rw [zBr_p (by rw [a6]), if_pos (by omega)]
  rw [zBr_q (ne _ (by omega) a6), if_neg (by omega)]
def cB (c : Nat) : Prop := c = 32 ∨ c = 10
theorem tk_read (hr : rdB S T b L M) {to : Nat} (h4 : S.1 1 4 = nI to) (h5 : T.1 0 5 = nI to) (hto : to ≤ L) : ∃ S' T' st to', fX9_read S = some S' ∧ fX12_go T = some T' ∧ FC S S' ∧ FM T T' ∧ tkR S' T' L M st to' ∧ (¬ S'.1 1 5 = 102 → ¬ S'.1 1 5 = 103 → to ≤ st) := by
  obtain ⟨r1, r2, r3, r4, r5, r6, r7, r8⟩ := id hr
  -- the first that is no blank
  obtain ⟨n, hn, hA, hE⟩ : ∃ n, to + n ≤ L ∧ (∀ j, j < n → cB (b (to + j))) ∧ (to + n = L ∨ ¬ cB (b (to + n))) := by
    rcases zFirst (fun j => cB (b (to + j))) (L - to) with all | ⟨n, hn, h1, h2⟩
    · exact ⟨L - to, by omega, all, Or.inl (by omega)⟩
    · exact ⟨n, by omega, h1, Or.inr h2⟩
  have nb : ∀ c, c < 256 → (nI c = (32 : Int32) ↔ c = 32) ∧ (nI c = (10 : Int32) ↔ c = 10) := fun c hc => ⟨nI_eq (b := 32) (by omega) (by omega), nI_eq (b := 10) (by omega) (by omega)⟩
  have skC : ∀ (l i : Nat), i < n → to + i < l → l ≤ L → fX9_read_12 (nI l) (zI S 1 4 (nI (to + i))) = some (.inl (zI S 1 4 (nI (to + (i + 1))))) := by
    intro l i hi hl hlL
    unfold fX9_read_12 fX9_read_48
    dsimp only
    have e4 : (zI S 1 4 (nI (to + i))).1 1 4 = nI (to + i) := by rw [zI_at, if_pos ⟨rfl, rfl⟩]
    have hc := (r7 (to + i) (by omega)).2.2
    rw [e4, zle_f hl (by omega), zIx_nI (by omega) (by omega), zGd_t, zGd_t, nI_clamp (by omega), zI_ne (by omega), (r7 (to + i) (by omega)).1, nI_1, zLt_s, zI_again]
    rcases hA i hi with h | h
    · rw [zBr_p ((nb _ hc).1.mpr h)]; rfl
    · by_cases q : b (to + i) = 32
      · rw [zBr_p ((nb _ hc).1.mpr q)]; rfl
      · rw [zBr_q (fun z => q ((nb _ hc).1.mp z)), zBr_p ((nb _ hc).2.mpr h)]; rfl
  have skM : ∀ i, i < n → fX12_go_0 (zI T 0 5 (nI (to + i))) = some (.inl (zI T 0 5 (nI (to + (i + 1))))) := by
    intro i hi
    unfold fX12_go_0 fX12_go_39
    dsimp only
    have e5 : (zI T 0 5 (nI (to + i))).1 0 5 = nI (to + i) := by rw [zI_at, if_pos ⟨rfl, rfl⟩]
    have e3 : (zI T 0 5 (nI (to + i))).1 0 3 = nI L := by rw [zI_at, if_neg (by omega), r3]
    have hc := (r7 (to + i) (by omega)).2.2
    rw [e5, e3, zle_f (by omega) (by omega), zIx_nI (by omega) (by omega), zGd_t, zGd_t, nI_clamp (by omega), zI_ne (by omega), (r7 (to + i) (by omega)).2.1, nI_1, zLt_s, zI_again]
    rcases hA i hi with h | h
    · rw [zBr_p ((nb _ hc).1.mpr h)]; rfl
    · by_cases q : b (to + i) = 32
      · rw [zBr_p ((nb _ hc).1.mpr q)]; rfl
      · rw [zBr_q (fun z => q ((nb _ hc).1.mp z)), zBr_p ((nb _ hc).2.mpr h)]; rfl
  obtain ⟨last, hlast⟩ : ∃ l, l = min M L := ⟨_, rfl⟩
  have eread : fX9_read S = zLp (fX9_read_12 (nI last)) 2000 S := by
    unfold fX9_read
    rw [r2, r4, zmin (by omega) (by omega), zLt_s, ← hlast]
  have sS : zI S 1 4 (nI (to + 0)) = S := by rw [Nat.add_zero, ← h4, zI_self]
  have sT : zI T 0 5 (nI (to + 0)) = T := by rw [Nat.add_zero, ← h5, zI_self]
  -- the reference at its stop
  have stM : ∀ R, fX12_go_52 (zI T 0 5 (nI (to + n))) = some R → fX12_go T = some R := by
    intro R hR
    unfold fX12_go
    have key := zLp_run (body := fX12_go_0) (fun i => zI T 0 5 (nI (to + i))) (r := R) n 2000 (fun i hi => skM i hi) ?_ (by omega)
    · rw [sT] at key; exact key
    · unfold fX12_go_0
      dsimp only
      have e5 : (zI T 0 5 (nI (to + n))).1 0 5 = nI (to + n) := by rw [zI_at, if_pos ⟨rfl, rfl⟩]
      have e3 : (zI T 0 5 (nI (to + n))).1 0 3 = nI L := by rw [zI_at, if_neg (by omega), r3]
      rw [e5, e3, hR, zXr_s]
      by_cases q : to + n < L
      · have hc := (r7 (to + n) q).2.2
        have nB : ¬ cB (b (to + n)) := hE.resolve_left (by omega)
        rw [zle_f (by omega) (by omega), zIx_nI (by omega) (by omega), zGd_t, zGd_t, nI_clamp (by omega), zI_ne (by omega), (r7 (to + n) q).2.1, zBr_q (fun z => nB (Or.inl ((nb _ hc).1.mp z))), zBr_q (fun z => nB (Or.inr ((nb _ hc).2.mp z)))]
      · rw [zle_t (by omega) (by omega)]
  by_cases hcase : to + n < last
  · -- a token at to + n
    have nB : ¬ cB (b (to + n)) := hE.resolve_left (by omega)
    have hc := (r7 (to + n) (by omega)).2.2
    have stC : ∀ R, fX9_read_61 (zI S 1 4 (nI (to + n))) (nI last) = some R → fX9_read S = some R := by
      intro R hR
      rw [eread]
      have key := zLp_run (body := fX9_read_12 (nI last)) (fun i => zI S 1 4 (nI (to + i))) (r := R) n 2000 (fun i hi => skC last i hi (by omega) (by omega)) ?_ (by omega)
      · rw [sS] at key; exact key
      · unfold fX9_read_12
        dsimp only
        have e4 : (zI S 1 4 (nI (to + n))).1 1 4 = nI (to + n) := by rw [zI_at, if_pos ⟨rfl, rfl⟩]
        rw [e4, hR, zXr_s, zle_f hcase (by omega), zIx_nI (by omega) (by omega), zGd_t, zGd_t, nI_clamp (by omega), zI_ne (by omega), (r7 (to + n) (by omega)).1, zBr_q (fun z => nB (Or.inl ((nb _ hc).1.mp z))), zBr_q (fun z => nB (Or.inr ((nb _ hc).2.mp z)))]
    obtain ⟨X, hX⟩ : ∃ X, X = zI (zI S 1 4 (nI (to + n))) 1 6 (nI (to + n)) := ⟨_, rfl⟩
    obtain ⟨Y, hY⟩ : ∃ Y, Y = zI (zI T 0 5 (nI (to + n))) 0 6 (nI (to + n)) := ⟨_, rfl⟩
    have x4 : X.1 1 4 = nI (to + n) := by rw [hX, zI_at, if_neg (by omega), zI_at, if_pos ⟨rfl, rfl⟩]
    have x6 : X.1 1 6 = nI (to + n) := by rw [hX, zI_at, if_pos ⟨rfl, rfl⟩]
    have y5 : Y.1 0 5 = nI (to + n) := by rw [hY, zI_at, if_neg (by omega), zI_at, if_pos ⟨rfl, rfl⟩]
    have y6 : Y.1 0 6 = nI (to + n) := by rw [hY, zI_at, if_pos ⟨rfl, rfl⟩]
    have fX : FC S X := ⟨fun c hc => ⟨by rw [hX, zI_ne hc, zI_ne hc], by rw [hX]; rfl⟩, fun j hj => by rw [hX, zI_at, if_neg (by omega), zI_at, if_neg (by omega)]⟩
    have fY : FM T Y := ⟨fun c hc => ⟨by rw [hY, zI_ne hc, zI_ne hc], by rw [hY]; rfl⟩, fun j hj => by rw [hY, zI_at, if_neg (by omega), zI_at, if_neg (by omega)]⟩
    have rX := rdB_F hr fX fY
    have pC : fX9_read_61 (zI S 1 4 (nI (to + n))) (nI last) = if cL (b (to + n)) = true ∨ cD (b (to + n)) = true then fX9_readRun X else fX9_read_127 X (nI (b (to + n))) := by
      have e4 : (zI S 1 4 (nI (to + n))).1 1 4 = nI (to + n) := by rw [zI_at, if_pos ⟨rfl, rfl⟩]
      have run : fX9_read_139 X = fX9_readRun X := by
        unfold fX9_read_139
        cases fX9_readRun X <;> rfl
      unfold fX9_read_61
      rw [e4, zlt_t hcase (by omega), ← hX, zLt_s, x4, zIx_nI (by omega) (by omega), zGd_t, nI_clamp (by omega), (fX.1 2 (by omega)).1, (r7 (to + n) (by omega)).1, zLt_s, show (97 : Int32) = nI 97 from rfl, show (122 : Int32) = nI 122 from rfl, run]
      by_cases hl : cL (b (to + n)) = true
      · have := cL_iff.mp hl
        rw [zlt_f (by omega) (by omega), zle_t (by omega) (by omega), if_pos (Or.inl hl)]
      · have hl' : ¬ (97 ≤ b (to + n) ∧ b (to + n) ≤ 122) := fun z => hl (cL_iff.mpr z)
        have e127 : zBr (nI (b (to + n)) < nI 97) (fX9_read_127 X (nI (b (to + n)))) (zBr (nI (b (to + n)) ≤ nI 122) (fX9_readRun X) (fX9_read_127 X (nI (b (to + n))))) = fX9_read_127 X (nI (b (to + n))) := by
          by_cases z : b (to + n) < 97
          · rw [zlt_t z (by omega)]
          · rw [zlt_f (by omega) (by omega), zle_f (by omega) (by omega)]
        rw [e127]
        by_cases hd : cD (b (to + n)) = true
        · have := cD_iff.mp hd
          rw [if_pos (Or.inr hd)]
          unfold fX9_read_127
          rw [run, zBr_q (show ¬ nI (b (to + n)) < (48 : Int32) from fun z => by have := (nI_ltI (b := 48) (by omega) (by omega)).mp z; omega), zBr_q (show ¬ (57 : Int32) < nI (b (to + n)) from fun z => by have := (nI_ltI (a := 57) (by omega) (by omega)).mp z; omega)]
        · rw [if_neg (fun z => z.elim hl hd)]
    have pM : fX12_go_52 (zI T 0 5 (nI (to + n))) = if cL (b (to + n)) = true ∨ cD (b (to + n)) = true then fX12_go_198 Y (nI (b (to + n))) else zBr (nI (b (to + n)) = (59 : Int32)) (fX12_go_174 Y (nI (b (to + n)))) (zBr (nI (b (to + n)) = (60 : Int32)) (fX12_go_174 Y (nI (b (to + n)))) (zBr (nI (b (to + n)) = (61 : Int32)) (fX12_go_174 Y (nI (b (to + n)))) (zBr (nI (b (to + n)) = (62 : Int32)) (fX12_go_174 Y (nI (b (to + n)))) (zBr (nI (b (to + n)) = (40 : Int32)) (fX12_go_174 Y (nI (b (to + n)))) (zBr (nI (b (to + n)) = (41 : Int32)) (fX12_go_174 Y (nI (b (to + n)))) (fX12_go_179 Y (nI (b (to + n))) (1 : Int32))))))) := by
      have e5 : (zI T 0 5 (nI (to + n))).1 0 5 = nI (to + n) := by rw [zI_at, if_pos ⟨rfl, rfl⟩]
      have y3 : Y.1 0 3 = nI L := by rw [fY.2 3 (by omega), r3]
      have y4 : Y.1 0 4 = nI M := by rw [fY.2 4 (by omega), r5]
      have e96 : fX12_go_96 Y = if cL (b (to + n)) = true ∨ cD (b (to + n)) = true then fX12_go_198 Y (nI (b (to + n))) else zBr (nI (b (to + n)) = (59 : Int32)) (fX12_go_174 Y (nI (b (to + n)))) (zBr (nI (b (to + n)) = (60 : Int32)) (fX12_go_174 Y (nI (b (to + n)))) (zBr (nI (b (to + n)) = (61 : Int32)) (fX12_go_174 Y (nI (b (to + n)))) (zBr (nI (b (to + n)) = (62 : Int32)) (fX12_go_174 Y (nI (b (to + n)))) (zBr (nI (b (to + n)) = (40 : Int32)) (fX12_go_174 Y (nI (b (to + n)))) (zBr (nI (b (to + n)) = (41 : Int32)) (fX12_go_174 Y (nI (b (to + n)))) (fX12_go_179 Y (nI (b (to + n))) (1 : Int32))))))) := by
        unfold fX12_go_96
        rw [y3, y5, zlt_t (by omega) (by omega), zIx_nI (by omega) (by omega), zGd_t, nI_clamp (by omega), (fY.1 1 (by omega)).1, (r7 (to + n) (by omega)).2.1, zLt_s, (m_isL hc).1, (m_isL hc).2, zBd_s, zBd_s, bI_br, bI_br]
        by_cases hl : cL (b (to + n)) = true
        · rw [if_pos hl, if_pos (Or.inl hl)]
        · rw [if_neg hl]
          by_cases hd : cD (b (to + n)) = true
          · rw [if_pos hd, if_pos (Or.inr hd)]
          · rw [if_neg hd, if_neg (fun z => z.elim hl hd)]
      unfold fX12_go_52
      rw [e5, ← hY, zLt_s, y3, y4, y6, zlt_t (show to + n < M by omega) (by omega), ← e96]
      by_cases q : L ≤ M
      · rw [zle_t q (by omega)]
      · rw [zle_f (by omega) (by omega)]
    by_cases hal : cL (b (to + n)) = true ∨ cD (b (to + n)) = true
    · obtain ⟨S', T', to', g1, g2, g3, g4, g5⟩ := two_run rX x4 y5 y6 x6 (show to + n < L by omega) (by omega) hal
      exact ⟨S', T', to + n, to', stC _ (by rw [pC, if_pos hal, g1]), stM _ (by rw [pM, if_pos hal, g2]), fX.trans g3, fY.trans g4, g5, fun _ _ => by omega⟩
    · have k1 := c_tok hc (fun z => hal (Or.inl z)) (fun z => hal (Or.inr z)) X (to + n) x4
      have k2 := m_tok hc Y (to + n) y5
      have jC := stC _ (pC.trans ((if_neg hal).trans k1))
      have jM := stM _ (pM.trans ((if_neg hal).trans k2))
      refine ⟨_, _, to + n, to + n + 1, jC, jM, fX.trans ⟨fun c hc => ⟨by rw [zI_ne hc, zI_ne hc], rfl⟩, fun j hj => by rw [zI_at, if_neg (by omega), zI_at, if_neg (by omega)]⟩, fY.trans ⟨fun c hc => ⟨by rw [zI_ne hc, zI_ne hc, zI_ne hc], rfl⟩, fun j hj => by rw [zI_at, if_neg (by omega), zI_at, if_neg (by omega), zI_at, if_neg (by omega)]⟩, ⟨by rw [zI_at, if_neg (by omega), zI_at, if_neg (by omega), x6], by rw [zI_at, if_neg (by omega), zI_at, if_neg (by omega), zI_at, if_neg (by omega), y6], by omega, ?_⟩, fun _ _ => by omega⟩
      have t1 : ∀ t, (zI (zI X 1 5 t) 1 4 (nI (to + n + 1))).1 1 5 = t := fun t => by rw [zI_at, if_neg (by omega), zI_at, if_pos ⟨rfl, rfl⟩]
      have t2 : ∀ t, (zI (zI (zI Y 0 7 t) 0 9 (nI (b (to + n)))) 0 5 (nI (to + n + 1))).1 0 7 = t := fun t => by rw [zI_at, if_neg (by omega), zI_at, if_neg (by omega), zI_at, if_pos ⟨rfl, rfl⟩]
      rw [t1, t2]
      by_cases k : b (to + n) = 40 ∨ b (to + n) = 41 ∨ (59 ≤ b (to + n) ∧ b (to + n) ≤ 62)
      · rw [if_pos k, if_pos k]
        refine Or.inr (Or.inr ⟨by rw [zI_at, if_pos ⟨rfl, rfl⟩], by rw [zI_at, if_pos ⟨rfl, rfl⟩], by omega, by omega, by omega, Or.inr (Or.inl ⟨_, k, rfl, rfl, by rw [zI_at, if_neg (by omega), zI_at, if_pos ⟨rfl, rfl⟩]⟩)⟩)
      · rw [if_neg k, if_neg k]
        exact Or.inr (Or.inl ⟨rfl, rfl⟩)
  · -- nothing more, or no more that may be
    have stC : ∃ x, x ≤ 940 ∧ fX9_read S = fX9_read_61 (zI S 1 4 (nI x)) (nI last) ∧ last ≤ x := by
      by_cases q : to < last
      · refine ⟨last, by omega, ?_, Nat.le_refl _⟩
        rw [eread]
        obtain ⟨R, hR⟩ : ∃ R, R = fX9_read_61 (zI S 1 4 (nI last)) (nI last) := ⟨_, rfl⟩
        rw [← hR]
        cases R with
        | none =>
          exfalso
          unfold fX9_read_61 at hR
          rw [zI_at, if_pos ⟨rfl, rfl⟩, zlt_f (Nat.le_refl _) (by omega), zLt_s, zLt_s, zLt_s] at hR
          unfold zBr at hR
          split at hR <;> cases hR
        | some R =>
          have key := zLp_run (body := fX9_read_12 (nI last)) (fun i => zI S 1 4 (nI (to + i))) (r := R) (last - to) 2000 (fun i hi => skC last i (by omega) (by omega) (by omega)) ?_ (by omega)
          · rw [sS] at key; exact key
          · unfold fX9_read_12
            dsimp only
            rw [zI_at, if_pos ⟨rfl, rfl⟩, show to + (last - to) = last by omega, zle_t (Nat.le_refl _) (by omega), ← hR, zXr_s]
      · refine ⟨to, by omega, ?_, by omega⟩
        rw [eread, show zI S 1 4 (nI to) = S by rw [← h4, zI_self]]
        obtain ⟨R, hR⟩ : ∃ R, R = fX9_read_61 S (nI last) := ⟨_, rfl⟩
        rw [← hR]
        cases R with
        | none =>
          exfalso
          unfold fX9_read_61 at hR
          rw [h4, zlt_f (by omega) (by omega), zLt_s, zLt_s, zLt_s] at hR
          unfold zBr at hR
          split at hR <;> cases hR
        | some R =>
          refine zLp_run (body := fX9_read_12 (nI last)) (fun _ => S) 0 2000 (fun i hi => by omega) ?_ (by omega)
          unfold fX9_read_12
          dsimp only
          rw [h4, zle_t (by omega) (by omega), ← hR, zXr_s]
    obtain ⟨x, hx9, eC, hx⟩ := stC
    have e61 : fX9_read_61 (zI S 1 4 (nI x)) (nI last) = some (zI (zI (zI S 1 4 (nI x)) 1 6 (nI last)) 1 5 (if L ≤ M then 102 else 103)) := by
      unfold fX9_read_61
      rw [zI_at, if_pos ⟨rfl, rfl⟩, zlt_f hx (by omega), zLt_s, zLt_s, zLt_s, zI_at, if_neg (by omega), zI_at, if_neg (by omega), r2, zI_at, if_neg (by omega), zI_at, if_neg (by omega), r4]
      by_cases q : L ≤ M
      · rw [zle_t q (by omega), if_pos q]
      · rw [zle_f (by omega) (by omega), if_neg q]
    have fX : FC S (zI (zI (zI S 1 4 (nI x)) 1 6 (nI last)) 1 5 (if L ≤ M then 102 else 103)) := ⟨fun c hc => ⟨by rw [zI_ne hc, zI_ne hc, zI_ne hc], rfl⟩, fun j hj => by rw [zI_at, if_neg (by omega), zI_at, if_neg (by omega), zI_at, if_neg (by omega)]⟩
    have s6 : ∀ t, (zI (zI (zI S 1 4 (nI x)) 1 6 (nI last)) 1 5 t).1 1 6 = nI last := fun t => by rw [zI_at, if_neg (by omega), zI_at, if_pos ⟨rfl, rfl⟩]
    have s5 : ∀ t, (zI (zI (zI S 1 4 (nI x)) 1 6 (nI last)) 1 5 t).1 1 5 = t := fun t => by rw [zI_at, if_pos ⟨rfl, rfl⟩]
    obtain ⟨Y, hY⟩ : ∃ Y, Y = zI (zI T 0 5 (nI (to + n))) 0 6 (nI (to + n)) := ⟨_, rfl⟩
    have y5 : Y.1 0 5 = nI (to + n) := by rw [hY, zI_at, if_neg (by omega), zI_at, if_pos ⟨rfl, rfl⟩]
    have y6 : Y.1 0 6 = nI (to + n) := by rw [hY, zI_at, if_pos ⟨rfl, rfl⟩]
    have fY : FM T Y := ⟨fun c hc => ⟨by rw [hY, zI_ne hc, zI_ne hc], by rw [hY]; rfl⟩, fun j hj => by rw [hY, zI_at, if_neg (by omega), zI_at, if_neg (by omega)]⟩
    have y3 : Y.1 0 3 = nI L := by rw [fY.2 3 (by omega), r3]
    have y4 : Y.1 0 4 = nI M := by rw [fY.2 4 (by omega), r5]
    by_cases q : L ≤ M
    · have eL : last = L := by omega
      have eM : fX12_go_52 (zI T 0 5 (nI (to + n))) = some (zI Y 0 7 0) := by
        have e5 : (zI T 0 5 (nI (to + n))).1 0 5 = nI (to + n) := by rw [zI_at, if_pos ⟨rfl, rfl⟩]
        unfold fX12_go_52 fX12_go_96
        rw [e5, ← hY, zLt_s, y3, y4, y5, zle_t q (by omega), zlt_f (by omega) (by omega), zLt_s]
      rw [if_pos q] at e61 fX
      refine ⟨_, _, last, 0, eC.trans e61, stM _ eM, fX, fY.trans ⟨fun c hc => ⟨zI_ne hc, rfl⟩, fun j hj => by rw [zI_at, if_neg (by omega)]⟩, ⟨s6 _, ?_, by omega, Or.inl ⟨s5 _, by rw [zI_at, if_pos ⟨rfl, rfl⟩]⟩⟩, fun z _ => absurd (s5 _) z⟩
      rw [zI_at, if_neg (by omega), y6, show to + n = last by omega]
    · have eM : fX12_go_52 (zI T 0 5 (nI (to + n))) = some (zI (zI Y 0 6 (nI M)) 0 7 1) := by
        have e5 : (zI T 0 5 (nI (to + n))).1 0 5 = nI (to + n) := by rw [zI_at, if_pos ⟨rfl, rfl⟩]
        unfold fX12_go_52
        rw [e5, ← hY, zLt_s, y3, y4, y6, zle_f (by omega) (by omega), zlt_f (by omega) (by omega), zLt_s, zLt_s]
      rw [if_neg q] at e61 fX
      refine ⟨_, _, last, 0, eC.trans e61, stM _ eM, fX, fY.trans ⟨fun c hc => ⟨by rw [zI_ne hc, zI_ne hc], rfl⟩, fun j hj => by rw [zI_at, if_neg (by omega), zI_at, if_neg (by omega)]⟩, ⟨s6 _, ?_, by omega, Or.inr (Or.inl ⟨s5 _, by rw [zI_at, if_pos ⟨rfl, rfl⟩]⟩)⟩, fun _ z => absurd (s5 _) z⟩
      rw [zI_at, if_neg (by omega), zI_at, if_pos ⟨rfl, rfl⟩, show last = M by omega]
end Token
