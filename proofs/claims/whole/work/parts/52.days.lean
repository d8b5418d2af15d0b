/-! days gone by -/
def aDy (m : Nat → Int32) (d j : Nat) : Nat → Int32 := fun k => if k = 24 then nI (d + j) else if 32 ≤ k ∧ k < 32 + kP m then nI (min ((m k).toNatClampNeg + j) 99) else m k
theorem aDy_24 (m : Nat → Int32) (d j : Nat) : aDy m d j 24 = nI (d + j) := if_pos rfl
theorem aDy_32 (m : Nat → Int32) (d j : Nat) {p : Nat} (h : p < kP m) : aDy m d j (32 + p) = nI (min ((m (32 + p)).toNatClampNeg + j) 99) := by
  unfold aDy
  rw [if_neg (by omega), if_pos (by omega)]
theorem aDy_un (m : Nat → Int32) (d j : Nat) {k : Nat} (h1 : k ≠ 24) (h2 : k < 32 ∨ 32 + kP m ≤ k) : aDy m d j k = m k := by
  unfold aDy
  rw [if_neg h1, if_neg (by omega)]
theorem aDy_kP (m : Nat → Int32) (d j : Nat) : kP (aDy m d j) = kP m := kP_eq (aDy_un m d j (by omega) (by omega))
theorem aDy_0 {m : Nat → Int32} {d : Nat} (hd : m 24 = nI d) (hs : ∀ p, p < kP m → zIn (m (32 + p)) 100) : aDy m d 0 = m := by
  funext k
  by_cases h1 : k = 24
  · subst h1; rw [aDy_24, hd]; rfl
  · by_cases h2 : 32 ≤ k ∧ k < 32 + kP m
    · obtain ⟨p, rfl⟩ : ∃ p, k = 32 + p := ⟨k - 32, by omega⟩
      obtain ⟨s, hs1, hs2⟩ := hs p (by omega)
      rw [aDy_32 m d 0 (by omega), hs2, nI_clamp (by omega), show min (s + 0) 99 = s by omega]
    · rw [aDy_un m d 0 h1 (by omega)]
theorem m_least {a b : Nat} (ha : a < 2147483648) (hb : b < 2147483648) : fX12_least (nI a) (nI b) = some (nI (min a b)) := by
  unfold fX12_least
  by_cases h : b ≤ a
  · rw [zle_t h ha, Nat.min_eq_right h]
  · rw [zle_f (by omega) hb, Nat.min_eq_left (by omega)]
theorem m_oneDay {T : zSt} {m : Nat → Int32} {d j : Nat} (h1 : m 1 = nI (kP m)) (h6 : kP m ≤ 6) (hs : ∀ p, p < kP m → zIn (m (32 + p)) 100) (hT : T.1 2 = aDy m d j) : fX12_oneDay T = some (zPut T 2 (aDy m d (j + 1))) := by
  have e : zI (zPut T 2 (zSeg (fun p => nI (min ((m (32 + p)).toNatClampNeg + (j + 1)) 99)) (T.1 2) 32 (kP m))) 2 24 (nI (d + (j + 1))) = zPut T 2 (aDy m d (j + 1)) := by
    rw [zI_zPut]
    congr 1
    funext k
    by_cases q1 : k = 24
    · subst q1; rw [pk_us, aDy_24]
    · rw [pk_un q1]
      by_cases q2 : 32 ≤ k ∧ k < 32 + kP m
      · obtain ⟨p, rfl⟩ : ∃ p, k = 32 + p := ⟨k - 32, by omega⟩
        rw [aDy_32 m d (j + 1) (by omega), zSeg_in (by omega) (by omega), show 32 + p - 32 = p by omega]
      · rw [aDy_un m d (j + 1) q1 (by omega), zSeg_out (by omega), hT, aDy_un m d j q1 (by omega)]
  rw [← e]
  unfold fX12_oneDay
  refine zLp_copy (c := 2) (o := 32) (n := kP m) (f := fun p => nI (min ((m (32 + p)).toNatClampNeg + (j + 1)) 99)) (fun i hi => ?_) ?_ (by omega)
  · obtain ⟨s, hs1, hs2⟩ := hs i hi
    unfold fX12_oneDay_2
    dsimp only
    rw [zPut_eq, zg_1_406, zGd_t, zt_1, zSeg_out (show 1 < 32 ∨ 32 + i ≤ 1 by omega), hT, aDy_un m d j (show 1 ≠ 24 by omega) (by omega), h1, zle_f hi (by omega), zo_32, zIx_nI (by omega) (by omega), zGd_t, nI_clamp (by omega), zSeg_out (by omega), aDy_32 m d j hi, hs2, nI_clamp (by omega), nI_1, show (99 : Int32) = nI 99 from rfl, m_least (by omega) (by omega), zBd_s, zGd_t, zLt_s, zLt_s, nI_1, show min 99 (min (s + j) 99 + 1) = min (s + (j + 1)) 99 by omega]
  · unfold fX12_oneDay_2
    dsimp only
    rw [zPut_eq, zg_1_406, zGd_t, zt_1, zSeg_out (show 1 < 32 ∨ 32 + kP m ≤ 1 by omega), hT, aDy_un m d j (show 1 ≠ 24 by omega) (by omega), h1, zle_t (by omega) (by omega), zg_24_406, zGd_t, zGd_t, zt_24, zSeg_out (show 24 < 32 ∨ 32 + kP m ≤ 24 by omega), aDy_24, nI_1, zLt_s, zXr_s, Nat.add_assoc]
theorem m_passDays {T : zSt} {d w : Nat} (hw : WFh (T.1 2)) (hv : WFl (T.1 2)) (hd : T.1 2 24 = nI d) (hd4 : d ≤ 400) (hw6 : w ≤ 60) : fX12_passDays T (nI w) = some (nI (min w (400 - d)), zPut T 2 (aDy (T.1 2) d (min w (400 - d)))) := by
  have h1 := hw.2.1.1
  have h6 := hw.2.1.2
  have hs : ∀ p, p < kP (T.1 2) → zIn (T.1 2 (32 + p)) 100 := fun p hp => (hv.2.2.1 p hp).2
  unfold fX12_passDays
  rw [zg_24_406, zGd_t, zt_24, hd, show (400 : Int32) = nI 400 from rfl, pk_sub hd4, m_least (by omega) (by omega), zBd_s]
  obtain ⟨x, hx⟩ : ∃ x, x = min w (400 - d) := ⟨_, rfl⟩
  rw [← hx]
  have key := zLp_run (body := fX12_passDays_18 (nI x)) (fun i => (zPut T 2 (aDy (T.1 2) d i), nI i)) (r := (nI x, zPut T 2 (aDy (T.1 2) d x))) x 2000 (fun i hi => ?_) ?_ (by omega)
  · rw [aDy_0 hd hs, zPut_id] at key
    exact key
  · unfold fX12_passDays_18
    dsimp only
    rw [zle_f hi (by omega), m_oneDay (T := zPut T 2 (aDy (T.1 2) d i)) h1 h6 hs (zPut_eq _ _ _), zBd_s, zLt_s, nI_1, zPut_put]
  · unfold fX12_passDays_18
    dsimp only
    rw [zle_t (Nat.le_refl x) (by omega), zXr_s]
theorem zmin {a b : Nat} (ha : a < 2147483648) (hb : b < 2147483648) : (if nI a < nI b then nI a else nI b) = nI (min a b) := by
  by_cases h : a < b
  · rw [if_pos ((nI_ltI ha hb).mpr h), Nat.min_eq_left (by omega)]
  · rw [if_neg (fun q => h ((nI_ltI ha hb).mp q)), Nat.min_eq_right (by omega)]
theorem c_goDays {S : zSt} {b : Nat} {m : Nat → Int32} {d w : Nat} (hz : zHs b = 4) (hb : 14 ≤ b) (hh : Rh S.1 4 m) (hw : WFh m) (hl : Rl S.1 b m) (hv : WFl m) (hd : m 24 = nI d) (hd4 : d ≤ 400) (hw6 : w ≤ 60) : ∃ S', fX6_goDays S b (nI w) = some (nI (min w (400 - d)), S') ∧ S'.2 = S.2 ∧ (∀ c, c < b ∨ b + 15 ≤ c → S'.1 c = S.1 c) ∧ Rl S'.1 b (aDy m d (min w (400 - d))) := by
  have h1 := hw.2.1.1
  have h6 := hw.2.1.2
  have hs : ∀ p, p < kP m → zIn (m (32 + p)) 100 := fun p hp => (hv.2.2.1 p hp).2
  obtain ⟨x, hx⟩ : ∃ x, x = min w (400 - d) := ⟨_, rfl⟩
  obtain ⟨S4, hS4⟩ : ∃ X, X = zI S b 1 (nI (d + x)) := ⟨_, rfl⟩
  have s4 : ∀ c, c ≠ b → S4.1 c = S.1 c := fun c hc => by rw [hS4, zI_ne hc]
  obtain ⟨G, hG⟩ : ∃ G, G = zSeg (fun p => nI (min ((m (32 + p)).toNatClampNeg + x) 99)) (S4.1 (b + 14)) 0 (kP m) := ⟨_, rfl⟩
  have hp4 : ∀ g, fX6_plants (zPut S4 (b + 14) g) b = some (nI (kP m)) := fun g => by
    rw [c_plants (m := m) (by rw [hz]; exact Rh_cong (fun a q1 q2 => by rw [zPut_ne (by omega), s4 a (by omega)]) hh), h1]
  refine ⟨zPut S4 (b + 14) G, ?_, ?_, ?_, ?_⟩
  · unfold fX6_goDays fX6_daysLeft
    rw [zBd_s, hl.1, hd, show (400 : Int32) = nI 400 from rfl, pk_sub hd4, zmin (by omega) (by omega), zLt_s, Nat.min_comm, ← hx, nI_add, ← hS4, zLt_s, hG]
    refine zLp_copy (c := b + 14) (o := 0) (n := kP m) (f := fun p => nI (min ((m (32 + p)).toNatClampNeg + x) 99)) (fun i hi => ?_) ?_ (by omega)
    · obtain ⟨s, hs1, hs2⟩ := hs i hi
      unfold fX6_goDays_21
      dsimp only
      rw [hp4, zBd_s, zle_f hi (by omega), zIx_nI (by omega) (by omega), zGd_t, zGd_t, zLt_s, zLt_s, nI_clamp (by omega), zPut_eq, zSeg_out (by omega), s4 (b + 14) (by omega), (hl.2.2.1 i hi).2.1, hs2, nI_add, show (99 : Int32) = nI 99 from rfl, zmin (by omega) (by omega), nI_1, nI_clamp (by omega), Nat.zero_add]
    · unfold fX6_goDays_21
      dsimp only
      rw [hp4, zBd_s, zle_t (by omega) (by omega), zXr_s]
  · rw [zPut_2, hS4]; rfl
  · intro c hc
    rw [zPut_ne (by omega), s4 c (by omega)]
  · rw [← hx]
    obtain ⟨a1, a2, a3, a4, a5⟩ := hl
    have kA' : kA (aDy m d x) = kA m := by unfold kA; rw [aDy_un m d x (by omega) (by omega)]
    refine ⟨?_, ?_, fun p hp => ?_, fun i hi => ?_, fun p i hp hi => ?_⟩
    · rw [zPut_ne (by omega), hS4, zI_at, if_pos ⟨rfl, rfl⟩, aDy_24]
    · rw [zPut_ne (by omega), hS4, zI_at, if_neg (by omega), aDy_un m d x (by omega) (by omega)]; exact a2
    · rw [aDy_kP] at hp
      rw [zPut_eq, zPut_ne (show b + 13 ≠ b + 14 by omega), zPut_ne (show b + 12 ≠ b + 14 by omega), s4 (b + 13) (by omega), s4 (b + 12) (by omega), aDy_un m d x (show 26 + p ≠ 24 by omega) (by omega), aDy_un m d x (show 158 + p ≠ 24 by omega) (by omega), aDy_32 m d x hp, hG, zSeg_in (by omega) (by omega), Nat.sub_zero]
      exact ⟨(a3 p hp).1, rfl, (a3 p hp).2.2⟩
    · rw [kA'] at hi
      have := hv.2.1.2
      rw [zPut_ne (show b + 1 ≠ b + 14 by omega), zPut_ne (show b + 2 ≠ b + 14 by omega), zPut_ne (show b + 3 ≠ b + 14 by omega), zPut_ne (show b + 4 ≠ b + 14 by omega), s4 (b + 1) (by omega), s4 (b + 2) (by omega), s4 (b + 3) (by omega), s4 (b + 4) (by omega), aDy_un m d x (show 38 + i ≠ 24 by omega) (by omega), aDy_un m d x (show 50 + i ≠ 24 by omega) (by omega), aDy_un m d x (show 62 + i ≠ 24 by omega) (by omega), aDy_un m d x (show 74 + i ≠ 24 by omega) (by omega)]
      exact a4 i hi
    · rw [kA'] at hi
      rw [aDy_kP] at hp
      rw [zPut_ne (by omega), s4 (b + 6 + p) (by omega), aDy_un m d x (by omega) (by omega)]
      exact a5 p i hp hi
theorem WFl_days {m : Nat → Int32} (hv : WFl m) (h6 : kP m ≤ 6) {d j : Nat} (h : d + j ≤ 400) : WFl (aDy m d j) := by
  obtain ⟨a1, a2, a3, a4, a5, a6, a7⟩ := hv
  have k0 : kL (aDy m d j) = kL m := by unfold kL; rw [aDy_un m d j (by omega) (by omega)]
  have k1 := aDy_kP m d j
  have k2 : kA (aDy m d j) = kA m := by unfold kA; rw [aDy_un m d j (by omega) (by omega)]
  have k3 : kE (aDy m d j) = kE m := by unfold kE; rw [aDy_un m d j (by omega) (by omega)]
  have k4 : kD (aDy m d j) = kD m := by unfold kD; rw [aDy_un m d j (by omega) (by omega)]
  unfold WFl
  rw [k0, k1, k2, k3, k4, aDy_24, aDy_un m d j (show 25 ≠ 24 by omega) (by omega)]
  refine ⟨⟨d + j, by omega, rfl⟩, a2, fun x hx => ?_, fun i hi => ?_, fun x i hx hi => ?_, fun x hx => ?_, fun x i hx q1 q2 => ?_⟩
  · rw [aDy_un m d j (show 26 + x ≠ 24 by omega) (by omega), aDy_32 m d j hx]
    exact ⟨(a3 x hx).1, ⟨_, by omega, rfl⟩⟩
  · rw [aDy_un m d j (show 38 + i ≠ 24 by omega) (by omega), aDy_un m d j (show 50 + i ≠ 24 by omega) (by omega), aDy_un m d j (show 62 + i ≠ 24 by omega) (by omega), aDy_un m d j (show 74 + i ≠ 24 by omega) (by omega)]
    exact a4 i hi
  · rw [aDy_un m d j (by omega) (by omega)]; exact a5 x i hx hi
  · rw [aDy_un m d j (by omega) (by omega)]; exact a6 x hx
  · rw [aDy_un m d j (by omega) (by omega)]; exact a7 x i hx q1 q2
theorem op_days {S T : zSt} (r : Rel S T) (v : Int32) : ∃ z S' T', fX11_days S v = some (z, S') ∧ fX12_days T v = some (z, T') ∧ Rel S' T' := by
  have rt := Rel_thrown r 0
  obtain ⟨-, ⟨-, hw, hl, hv, -⟩, -⟩ := id r
  have h6 := hw.2.1.2
  obtain ⟨d, hd4, hd⟩ := hv.1
  unfold fX11_days fX12_days fX12_isIn fX6_daysLeft
  rw [zLt_s (a := zI T 0 0 0), zTh]
  rcases zCase v 61 (by omega) with h | ⟨h, h'⟩ | ⟨w, hw6, rfl⟩
  · have h2 : v < 1 := Int32.lt_trans h (by decide)
    rw [zBr_p h2, zBr_p h2, zBd_s, zBr_p rfl]
    exact ⟨-1, S, zI T 0 0 0, rfl, rfl, rt⟩
  · have h2 : ¬ v < 1 := fun q => by
      have := Int32.lt_of_le_of_lt h' q
      exact absurd this (by decide)
    have h3 : ¬ v ≤ 60 := fun q => by
      have := Int32.le_trans h' q
      exact absurd this (by decide)
    have h4 : 60 < v := Int32.lt_of_lt_of_le (show (60 : Int32) < nI 61 by decide) h'
    rw [zBr_q h2, zBr_q h2, zBr_q h3, zBr_p h4, zBd_s, zBr_p rfl]
    exact ⟨-1, S, zI T 0 0 0, rfl, rfl, rt⟩
  · by_cases h0 : w = 0
    · subst h0
      rw [zBr_p (show nI 0 < 1 by decide), zBr_p (show nI 0 < 1 by decide), zBd_s, zBr_p rfl]
      exact ⟨-1, S, zI T 0 0 0, rfl, rfl, rt⟩
    · rw [show (1 : Int32) = nI 1 from rfl, show (60 : Int32) = nI 60 from rfl, zlt_f (show 1 ≤ w by omega) (by omega), zlt_f (show 1 ≤ w by omega) (by omega), zle_t (show w ≤ 60 by omega) (by omega), zlt_f (show w ≤ 60 by omega) (by omega), zBd_s, zBd_s, zBr_q (show ¬ nI 1 = 0 by decide), zg_24_406, zGd_t, zt_24, hl.1, hd, show (400 : Int32) = nI 400 from rfl, pk_sub (show d ≤ 400 by omega)]
      by_cases h40 : d = 400
      · subst h40
        rw [zBr_p (show nI (400 - 400) = 0 from rfl), zBr_p rfl]
        exact ⟨0, S, zI T 0 0 0, rfl, rfl, rt⟩
      · rw [zBr_q (show ¬ nI (400 - d) = 0 from fun q => by have := (nI_eq (a := 400 - d) (b := 0) (by omega) (by omega)).mp q; omega), zBr_q (fun q => by have := (nI_eq (a := d) (b := 400) (by omega) (by omega)).mp q; omega)]
        obtain ⟨S1, T1, e1, e2, r1, e3⟩ := Rel_keep rt
        obtain ⟨-, ⟨hh1, hw1, hl1, hv1, -⟩, -⟩ := id r1
        rw [zTh] at e3
        have hd1 : T1.1 2 24 = nI d := by rw [e3]; exact hd
        obtain ⟨S2, g1, g2, g3, g4⟩ := c_goDays (S := S1) (b := 14) (w := w) rfl (by omega) hh1 hw1 hl1 hv1 hd1 (by omega) (by omega)
        have g5 := m_passDays (T := T1) (w := w) hw1 hv1 hd1 (by omega) (by omega)
        refine ⟨nI (min w (400 - d)), S2, zPut T1 2 (aDy (T1.1 2) d (min w (400 - d))), ?_, ?_, ?_⟩
        · rw [e1, zBd_s, g1, zBp_s]
        · rw [e2, zBd_s, g5, zBp_s]
        · refine Rel_life r1 g2 (fun c hc => g3 c (by omega)) rfl (fun c q1 _ => zPut_ne q1) (fun j _ _ => by rw [zPut_ne (by omega)]) (fun k hk => ?_) ?_ ?_
          · rw [zPut_eq, aDy_un _ _ _ (by omega) (by rw [e3]; omega)]
          · rw [zPut_eq]; exact g4
          · rw [zPut_eq]; exact WFl_days hv1 (by rw [e3]; exact h6) (by omega)
