/-! the tape alone changes -/
theorem Rel_tape {S S' T T' : zSt} (r : Rel S T) (a1 : ∀ c, c ≠ 1 → S'.2 c = S.2 c) (a2 : ∀ c, c ≠ 1 → c ≠ 2 → S'.1 c = S.1 c) (b1 : ∀ c, c ≠ 0 → T'.2 c = T.2 c) (b2 : ∀ c, c ≠ 0 → c ≠ 1 → T'.1 c = T.1 c) (b3 : ∀ j, (j = 24 ∨ j = 10 ∨ j = 25 ∨ j = 26 ∨ j = 29 ∨ j = 31 ∨ j = 39) → T'.1 0 j = T.1 0 j) (ht : rTp (S'.1 1 1) (S'.1 2) (T'.1 0 2) (T'.1 1)) : Rel S' T' := by
  obtain ⟨r1, r2, r3, r4, r5, r6, r7, r8, r9, r10⟩ := r
  have h6 := r2.2.1.2.1.2
  unfold Rel
  rw [a1 3 (by omega), a2 44 (by omega) (by omega), a2 0 (by omega) (by omega), a2 256 (by omega) (by omega), a2 260 (by omega) (by omega), a2 255 (by omega) (by omega), a2 240 (by omega) (by omega), b1 7 (by omega), b1 9 (by omega), b2 2 (by omega) (by omega), b2 5 (by omega) (by omega), b2 10 (by omega) (by omega), b2 4 (by omega) (by omega), b2 13 (by omega) (by omega), b2 14 (by omega) (by omega), b2 17 (by omega) (by omega), b3 24 (by omega), b3 10 (by omega), b3 25 (by omega), b3 26 (by omega), b3 29 (by omega), b3 31 (by omega), b3 39 (by omega)]
  exact ⟨ht, rAll_cong (fun a h => a2 a (by omega) (by omega)) (fun a h1 h2 => a1 a (by omega)) r2, rPast_cong h6 (fun a h1 h2 => a2 a (by omega) (by omega)) r3, rImg_cong (fun a h1 h2 => a2 a (by omega) (by omega)) (fun a h1 h2 => a1 a (by omega)) r4, rImg_cong (fun a h1 h2 => a2 a (by omega) (by omega)) (fun a h1 h2 => a1 a (by omega)) r5, r6, r7, r8, r9, r10⟩
section Ops4
variable {S T : zSt}
theorem op_end (r : Rel S T) (n : Int32) : ∃ z S' T', fX11_end S n = some (z, S') ∧ fX12_end T n = some (z, T') ∧ Rel S' T' := by
  obtain ⟨⟨L, l1, l2, l3, l4⟩, -⟩ := id r
  have l5 : (zI T 0 0 0).1 0 2 = nI L := by rw [zTh0 T 0 2 (by omega), l3]
  unfold fX11_end fX12_end
  rw [zLt_s (a := zI T 0 0 0), l2]
  simp only [l5]
  rcases zCase n (L + 1) (by omega) with h | ⟨h, h'⟩ | ⟨j, hj, rfl⟩
  · exact ⟨0, S, zI T 0 0 0, by rw [zBr_p h], by rw [zBr_p h], Rel_thrown r 0⟩
  · have h2 : ¬ n ≤ nI L := fun q => by
      have q2 := Int32.le_trans h' q
      have := (nI_leI (by omega) (by omega)).mp q2
      omega
    exact ⟨0, S, zI T 0 0 0, by rw [zBr_q h, zBr_q h2], by rw [zBr_q h, zBr_q h2], Rel_thrown r 0⟩
  · refine ⟨1, zI S 1 1 (nI j), zI (zI T 0 0 0) 0 2 (nI j), ?_, ?_, ?_⟩
    · rw [zBr_q (nI_pos (by omega)), zle_t (by omega) (by omega), zLt_s]
    · rw [zBr_q (nI_pos (by omega)), zle_t (by omega) (by omega), zLt_s]
    · refine Rel_tape r (fun c _ => rfl) (fun c h1 _ => zI_ne h1) (fun c _ => rfl) (fun c h1 _ => by rw [zI_ne h1, zI_ne h1]) (fun x hx => by rw [zI_at, if_neg (by omega), zI_at, if_neg (by omega)]) ⟨j, by omega, by rw [zI_at, if_pos ⟨rfl, rfl⟩], by rw [zI_at, if_pos ⟨rfl, rfl⟩], fun i hi => ?_⟩
      rw [zI_ne (by omega), zI_ne (by omega), zI_ne (by omega)]
      exact l4 i (by omega)
/-! sponge and carry -/
theorem c_whySponge {b : Nat} {m : Nat → Int32} (hl : Rl S.1 b m) {p : Nat} (hp : p < kP m) (h6 : kP m ≤ 6) : fX6_whyNotSponge S b (nI p) = some (if m (32 + p) = 0 then 1 else 0) := by
  unfold fX6_whyNotSponge
  rw [zIx_nI (by omega) (by omega), zGd_t, nI_clamp (by omega), (hl.2.2.1 p hp).2.1]
  by_cases h : m (32 + p) = 0
  · rw [zBr_p h, if_pos h]
  · rw [zBr_q h, if_neg h]
theorem m_whySponge {p : Nat} (hp : p < 6) (x : Int32) : fX12_why T 1 (nI p) x = some (if T.1 2 (32 + p) = 0 then 1 else 0) := by
  unfold fX12_why
  rw [zBr_q (by decide), zBr_p rfl, zo_32, zIx_nI (by omega) (by omega), zGd_t, nI_clamp (by omega)]
  by_cases h : T.1 2 (32 + p) = 0
  · rw [zBr_p h, if_pos h]
  · rw [zBr_q h, if_neg h]
theorem Rl_sponge {m : Nat → Int32} (hl : Rl S.1 14 m) {p : Nat} (hp : p < kP m) (h6 : kP m ≤ 6) (v : Int32) : Rl (zI S 28 p v).1 14 (upd m (32 + p) v) := by
  obtain ⟨a1, a2, a3, a4, a5⟩ := hl
  have k1 : kP (upd m (32 + p) v) = kP m := kP_eq (pk_un (by omega))
  have k2 : kA (upd m (32 + p) v) = kA m := by unfold kA; rw [pk_un (by omega)]
  refine ⟨?_, ?_, fun x hx => ?_, fun i hi => ?_, fun x i hx hi => ?_⟩
  · rw [zI_ne (by omega), pk_un (by omega)]; exact a1
  · rw [zI_ne (by omega), pk_un (by omega)]; exact a2
  · rw [k1] at hx
    rw [zI_ne (show (14 + 13 : Nat) ≠ 28 by omega), zI_ne (show (14 + 12 : Nat) ≠ 28 by omega), pk_un (show 26 + x ≠ 32 + p by omega), pk_un (show 158 + x ≠ 32 + p by omega), show (14 + 14 : Nat) = 28 from rfl, zI_eq]
    refine ⟨(a3 x hx).1, ?_, (a3 x hx).2.2⟩
    by_cases h : x = p
    · subst h; rw [pk_us, pk_us]
    · rw [pk_un h, pk_un (by omega)]; exact (a3 x hx).2.1
  · rw [k2] at hi
    rw [zI_ne (by omega), zI_ne (by omega), zI_ne (by omega), zI_ne (by omega), pk_un (by omega), pk_un (by omega), pk_un (by omega), pk_un (by omega)]
    exact a4 i hi
  · rw [k1] at hx
    rw [k2] at hi
    rw [zI_ne (by omega), pk_un (by omega)]
    exact a5 x i hx hi
theorem WFl_sponge {m : Nat → Int32} (hv : WFl m) {p : Nat} (hp : p < kP m) (h6 : kP m ≤ 6) {v : Int32} (h : zIn v 100) : WFl (upd m (32 + p) v) := by
  obtain ⟨a1, a2, a3, a4, a5, a6, a7⟩ := hv
  have k0 : kL (upd m (32 + p) v) = kL m := by unfold kL; rw [pk_un (by omega)]
  have k1 : kP (upd m (32 + p) v) = kP m := kP_eq (pk_un (by omega))
  have k2 : kA (upd m (32 + p) v) = kA m := by unfold kA; rw [pk_un (by omega)]
  have k3 : kE (upd m (32 + p) v) = kE m := by unfold kE; rw [pk_un (by omega)]
  have k4 : kD (upd m (32 + p) v) = kD m := by unfold kD; rw [pk_un (by omega)]
  unfold WFl
  rw [k0, k1, k2, k3, k4, pk_un (show (24 : Nat) ≠ 32 + p by omega), pk_un (show (25 : Nat) ≠ 32 + p by omega)]
  refine ⟨a1, a2, fun x hx => ?_, fun i hi => ?_, fun x i hx hi => ?_, fun x hx => ?_, fun x i hx h1 h2 => ?_⟩
  · rw [pk_un (by omega)]
    refine ⟨(a3 x hx).1, ?_⟩
    by_cases q : x = p
    · subst q; rw [pk_us]; exact h
    · rw [pk_un (by omega)]; exact (a3 x hx).2
  · rw [pk_un (by omega), pk_un (by omega), pk_un (by omega), pk_un (by omega)]; exact a4 i hi
  · rw [pk_un (by omega)]; exact a5 x i hx hi
  · rw [pk_un (by omega)]; exact a6 x hx
  · rw [pk_un (by omega)]; exact a7 x i hx h1 h2
theorem Rl_carry {m : Nat → Int32} (hl : Rl S.1 14 m) {p : Nat} (hp : p < kP m) (h6 : kP m ≤ 6) (v : Int32) : Rl (zI S 27 p v).1 14 (upd m (26 + p) v) := by
  obtain ⟨a1, a2, a3, a4, a5⟩ := hl
  have k1 : kP (upd m (26 + p) v) = kP m := kP_eq (pk_un (by omega))
  have k2 : kA (upd m (26 + p) v) = kA m := by unfold kA; rw [pk_un (by omega)]
  refine ⟨?_, ?_, fun x hx => ?_, fun i hi => ?_, fun x i hx hi => ?_⟩
  · rw [zI_ne (by omega), pk_un (by omega)]; exact a1
  · rw [zI_ne (by omega), pk_un (by omega)]; exact a2
  · rw [k1] at hx
    rw [zI_ne (show (14 + 14 : Nat) ≠ 27 by omega), zI_ne (show (14 + 12 : Nat) ≠ 27 by omega), pk_un (show 32 + x ≠ 26 + p by omega), pk_un (show 158 + x ≠ 26 + p by omega), show (14 + 13 : Nat) = 27 from rfl, zI_eq]
    refine ⟨?_, (a3 x hx).2⟩
    by_cases h : x = p
    · subst h; rw [pk_us, pk_us]
    · rw [pk_un h, pk_un (by omega)]; exact (a3 x hx).1
  · rw [k2] at hi
    rw [zI_ne (by omega), zI_ne (by omega), zI_ne (by omega), zI_ne (by omega), pk_un (by omega), pk_un (by omega), pk_un (by omega), pk_un (by omega)]
    exact a4 i hi
  · rw [k1] at hx
    rw [k2] at hi
    rw [zI_ne (by omega), pk_un (by omega)]
    exact a5 x i hx hi
theorem WFl_carry {m : Nat → Int32} (hv : WFl m) {p : Nat} (hp : p < kP m) (h6 : kP m ≤ 6) {v : Int32} (h : zIn v (kL m)) : WFl (upd m (26 + p) v) := by
  obtain ⟨a1, a2, a3, a4, a5, a6, a7⟩ := hv
  have k0 : kL (upd m (26 + p) v) = kL m := by unfold kL; rw [pk_un (by omega)]
  have k1 : kP (upd m (26 + p) v) = kP m := kP_eq (pk_un (by omega))
  have k2 : kA (upd m (26 + p) v) = kA m := by unfold kA; rw [pk_un (by omega)]
  have k3 : kE (upd m (26 + p) v) = kE m := by unfold kE; rw [pk_un (by omega)]
  have k4 : kD (upd m (26 + p) v) = kD m := by unfold kD; rw [pk_un (by omega)]
  unfold WFl
  rw [k0, k1, k2, k3, k4, pk_un (show (24 : Nat) ≠ 26 + p by omega), pk_un (show (25 : Nat) ≠ 26 + p by omega)]
  refine ⟨a1, a2, fun x hx => ?_, fun i hi => ?_, fun x i hx hi => ?_, fun x hx => ?_, fun x i hx h1 h2 => ?_⟩
  · rw [pk_un (show 32 + x ≠ 26 + p by omega)]
    refine ⟨?_, (a3 x hx).2⟩
    by_cases q : x = p
    · subst q; rw [pk_us]; exact h
    · rw [pk_un (by omega)]; exact (a3 x hx).1
  · rw [pk_un (by omega), pk_un (by omega), pk_un (by omega), pk_un (by omega)]; exact a4 i hi
  · rw [pk_un (by omega)]; exact a5 x i hx hi
  · rw [pk_un (by omega)]; exact a6 x hx
  · rw [pk_un (by omega)]; exact a7 x i hx h1 h2
theorem m_doNo (k a b c : Int32) : fX12_doIt T k a b c 0 = some (-1, T) := by
  unfold fX12_doIt
  rw [zBr_p rfl]
theorem m_doWhy {k a b c w : Int32} (h : fX12_why T k a b = some w) (hw : ¬ w = 0) : fX12_doIt T k a b c 1 = some (w, T) := by
  unfold fX12_doIt
  rw [zBr_q (show ¬ (1 : Int32) = 0 by decide), h, zBd_s, zBr_q hw]
theorem m_doYes {k a b c : Int32} {T1 T2 : zSt} (h : fX12_why T k a b = some 0) (h1 : fX12_snap T = some T1) (h2 : fX12_live T1 k a b c = some T2) : fX12_doIt T k a b c 1 = some (0, T2) := by
  unfold fX12_doIt
  rw [zBr_q (show ¬ (1 : Int32) = 0 by decide), h, zBd_s, zBr_p (show (0 : Int32) = 0 from rfl), h1, zBd_s, h2, zBd_s]
theorem op_sponge (r : Rel S T) (x : Int32) : ∃ z S' T', fX11_sponge S x = some (z, S') ∧ fX12_sponge T x = some (z, T') ∧ Rel S' T' := by
  obtain ⟨-, ⟨hh, hw, hl, hv, -⟩, -⟩ := id r
  have h6 := hw.2.1.2
  have rt := Rel_thrown r 0
  have hc : fX3_has S 4 1 x = some (aIs (kP (T.1 2)) x) := c_has hh (show 1 < 4 by omega) hw.2.1.1 x
  have hm : fX12_isPlant (zI T 0 0 0) x = some (aIs (kP (T.1 2)) x) := by
    rw [m_isPlant (T := zI T 0 0 0) (by rw [zTh]; exact hw), zTh]
  unfold fX11_sponge fX12_sponge
  rw [zLt_s, hc, hm, zBd_s, zBd_s]
  rcases aIs_cases (kP (T.1 2)) x (by omega) with h | ⟨h, p, hp, rfl⟩
  · rw [h, m_doNo, zBr_p rfl, zBp_s]
    exact ⟨-1, S, zI T 0 0 0, rfl, rfl, rt⟩
  · rw [h, zBr_q (show ¬ (1 : Int32) = 0 by decide), c_whySponge hl hp h6, zBd_s]
    have w2 := m_whySponge (T := zI T 0 0 0) (show p < 6 by omega) 0
    rw [zTh] at w2
    by_cases hd : T.1 2 (32 + p) = 0
    · rw [if_pos hd] at w2
      rw [if_pos hd, zBr_q (show ¬ (1 : Int32) = 0 by decide), m_doWhy w2 (by decide), zBp_s]
      exact ⟨1, S, zI T 0 0 0, rfl, rfl, rt⟩
    · rw [if_neg hd] at w2
      rw [if_neg hd, zBr_p (show (0 : Int32) = 0 from rfl)]
      obtain ⟨S1, T1, e1, e2, r1, e3⟩ := Rel_keep rt
      obtain ⟨-, ⟨-, -, hl1, hv1, -⟩, -⟩ := id r1
      rw [zTh] at e3
      have hp1 : p < kP (T1.1 2) := by rw [e3]; exact hp
      have h61 : kP (T1.1 2) ≤ 6 := by rw [e3]; exact h6
      have e4 : fX12_live T1 1 (nI p) 0 0 = some (zI T1 2 (32 + p) 0) := by
        unfold fX12_live
        rw [zBr_q (show ¬ (1 : Int32) = 0 by decide), zBr_p (show (1 : Int32) = 1 from rfl), zo_32, zIx_nI (by omega) (by omega), zGd_t, zLt_s, nI_clamp (by omega)]
      refine ⟨0, zI S1 28 p 0, zI T1 2 (32 + p) 0, ?_, ?_, ?_⟩
      · rw [e1, zBd_s]
        unfold fX6_spongeOff
        rw [zIx_nI (by omega) (by omega), zGd_t, zLt_s, nI_clamp (by omega), zBd_s]
      · rw [m_doYes w2 e2 e4, zBp_s]
      · refine Rel_life r1 rfl (fun c hc => zI_ne (by omega)) rfl (fun c h1 _ => zI_ne h1) (fun j _ _ => by rw [zI_at, if_neg (by omega)]) (fun k hk => by rw [zI_at, if_neg (by omega)]) ?_ ?_
        · rw [zI_eq]; exact Rl_sponge hl1 hp1 h61 0
        · rw [zI_eq]; exact WFl_sponge hv1 hp1 h61 ⟨0, by omega, rfl⟩
theorem op_carry (r : Rel S T) (x l : Int32) : ∃ z S' T', fX11_carry S x l = some (z, S') ∧ fX12_carry T x l = some (z, T') ∧ Rel S' T' := by
  obtain ⟨-, ⟨hh, hw, hl, hv, -⟩, -⟩ := id r
  have h6 := hw.2.1.2
  have h5 := hw.1.2
  have rt := Rel_thrown r 0
  have hc : fX3_has S 4 1 x = some (aIs (kP (T.1 2)) x) := c_has hh (show 1 < 4 by omega) hw.2.1.1 x
  have hc' : fX3_has S 4 0 l = some (aIs (kL (T.1 2)) l) := c_has hh (show 0 < 4 by omega) hw.1.1 l
  have hm : fX12_isPlant (zI T 0 0 0) x = some (aIs (kP (T.1 2)) x) := by
    rw [m_isPlant (T := zI T 0 0 0) (by rw [zTh]; exact hw), zTh]
  have hm' : fX12_isParlour (zI T 0 0 0) l = some (aIs (kL (T.1 2)) l) := by
    rw [m_isParlour (T := zI T 0 0 0) (by rw [zTh]; exact hw), zTh]
  unfold fX11_carry fX12_carry fX12_carry_30 fX12_carry_31
  rw [zLt_s, hc, hm, hm', zBd_s, zBd_s, zBd_s, m_doNo, zBp_s]
  rcases aIs_cases (kP (T.1 2)) x (by omega) with h | ⟨h, p, hp, rfl⟩
  · rw [h, zBr_p rfl, zBr_p rfl]
    exact ⟨-1, S, zI T 0 0 0, rfl, rfl, rt⟩
  · rw [h, zBr_q (show ¬ (1 : Int32) = 0 by decide), zBr_q (show ¬ (1 : Int32) = 0 by decide), hc', zBd_s]
    rcases aIs_cases (kL (T.1 2)) l (by omega) with h' | ⟨h', y, hy, rfl⟩
    · rw [h', zBr_p rfl, zBr_p rfl]
      exact ⟨-1, S, zI T 0 0 0, rfl, rfl, rt⟩
    · rw [h', zBr_q (show ¬ (1 : Int32) = 0 by decide), zBr_q (show ¬ (1 : Int32) = 0 by decide)]
      have w1 : fX6_whyNotCarry S 14 (nI p) (nI y) = some (if T.1 2 (26 + p) = nI y then 1 else 0) := by
        unfold fX6_whyNotCarry
        rw [zIx_nI (by omega) (by omega), zGd_t, nI_clamp (by omega), (hl.2.2.1 p hp).1]
        by_cases q : T.1 2 (26 + p) = nI y
        · rw [zBr_p q, if_pos q]
        · rw [zBr_q q, if_neg q]
      have w2 : fX12_why (zI T 0 0 0) 2 (nI p) (nI y) = some (if T.1 2 (26 + p) = nI y then 1 else 0) := by
        unfold fX12_why
        rw [zBr_q (show ¬ (2 : Int32) = 0 by decide), zBr_q (show ¬ (2 : Int32) = 1 by decide), zo_26, zIx_nI (by omega) (by omega), zGd_t, nI_clamp (by omega), zTh]
        by_cases q : T.1 2 (26 + p) = nI y
        · rw [zBr_p q, if_pos q]
        · rw [zBr_q q, if_neg q]
      rw [w1, zBd_s]
      by_cases hd : T.1 2 (26 + p) = nI y
      · rw [if_pos hd] at w2
        rw [if_pos hd, zBr_q (show ¬ (1 : Int32) = 0 by decide), m_doWhy w2 (by decide), zBp_s]
        exact ⟨1, S, zI T 0 0 0, rfl, rfl, rt⟩
      · rw [if_neg hd] at w2
        rw [if_neg hd, zBr_p (show (0 : Int32) = 0 from rfl)]
        obtain ⟨S1, T1, e1, e2, r1, e3⟩ := Rel_keep rt
        obtain ⟨-, ⟨-, -, hl1, hv1, -⟩, -⟩ := id r1
        rw [zTh] at e3
        have hp1 : p < kP (T1.1 2) := by rw [e3]; exact hp
        have h61 : kP (T1.1 2) ≤ 6 := by rw [e3]; exact h6
        have e4 : fX12_live T1 2 (nI p) (nI y) 0 = some (zI T1 2 (26 + p) (nI y)) := by
          unfold fX12_live
          rw [zBr_q (show ¬ (2 : Int32) = 0 by decide), zBr_q (show ¬ (2 : Int32) = 1 by decide), zo_26, zIx_nI (by omega) (by omega), zGd_t, zLt_s, nI_clamp (by omega)]
        refine ⟨0, zI S1 27 p (nI y), zI T1 2 (26 + p) (nI y), ?_, ?_, ?_⟩
        · rw [e1, zBd_s]
          unfold fX6_carryTo
          rw [zIx_nI (by omega) (by omega), zGd_t, zLt_s, nI_clamp (by omega), zBd_s]
        · rw [m_doYes w2 e2 e4, zBp_s]
        · refine Rel_life r1 rfl (fun c hc => zI_ne (by omega)) rfl (fun c h1 _ => zI_ne h1) (fun j _ _ => by rw [zI_at, if_neg (by omega)]) (fun k hk => by rw [zI_at, if_neg (by omega)]) ?_ ?_
          · rw [zI_eq]; exact Rl_carry hl1 hp1 h61 _
          · rw [zI_eq]; exact WFl_carry hv1 hp1 h61 ⟨y, by rw [e3]; exact hy, rfl⟩
end Ops4
