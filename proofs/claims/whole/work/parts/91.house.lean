/-! house: the call -/
section House2
variable {S T : zSt}
theorem hQ_stb {S0 T0 : zSt} : stb (hQ S0 T0) := fun S S' T T' h1 h2 h3 ⟨d, h⟩ => ⟨d, hQd_stb S S' T T' h1 h2 h3 h⟩
def hEnd (T : zSt) : zSt := zI (zPut (zPutJ T 7 (zSegJ (T.2 8) (T.2 7) 0 20)) 2 (rSo (zSeg (T.1 3) (T.1 2) 0 24))) 0 24 0
theorem two_lines {S0 T0 : zSt} {b : Nat → Nat} {L : Nat} (h : PI (hQ S0 T0) b L 900 0 S T) : ∃ x y, zLp fX4_readAll_29 2000 (S, 0) = some x ∧ zLp fX12_house_59 2000 (T, 0) = some y ∧ ((∃ k S' T', x = (nI k, S') ∧ k < 900 ∧ y = (nI k, hEnd T') ∧ PI (hQ S0 T0) b L 900 k S' T') ∨ ∃ S' T', x = (-1, S') ∧ y = (-1 - T'.1 0 11, T') ∧ FI (hFr S0 T0) S' T') := by
  refine zLp_two (f := fX4_readAll_29) (g := fX12_house_59) (fun i s t => i ≤ 899 ∧ ∃ S T, s = (S, nI i) ∧ t = (T, nI i) ∧ PI (hQ S0 T0) b L 900 i S T) (fun x y => (∃ k S' T', x = (nI k, S') ∧ k < 900 ∧ y = (nI k, hEnd T') ∧ PI (hQ S0 T0) b L 900 k S' T') ∨ ∃ S' T', x = (-1, S') ∧ y = (-1 - T'.1 0 11, T') ∧ FI (hFr S0 T0) S' T') 900 (fun i s t hi hI => ?_) 2000 2000 0 (S, 0) (T, 0) (by omega) (by omega) (by omega) ⟨by omega, S, T, rfl, rfl, h⟩
  obtain ⟨i9, S, T, rfl, rfl, hp⟩ := hI
  obtain ⟨-, -, -, st, to, ht, -⟩ := id hp
  unfold fX4_readAll_29 fX12_house_59
  dsimp only
  rw [show (900 : Int32) = nI 900 from rfl, zle_f (show i < 900 by omega) (by omega)]
  by_cases e : S.1 1 5 = 102
  · rw [zBr_p e, zBr_p ((tk_stop ht).mpr e), m_houseEnd, zXr_s, zXr_s]
    exact Or.inr ⟨_, _, rfl, rfl, Or.inl ⟨i, S, T, rfl, by omega, rfl, hp⟩⟩
  · rw [zBr_q e, zBr_q (fun z => e ((tk_stop ht).mp z))]
    rcases L_line hp e with ⟨S1, T1, e1, e2, h1⟩ | ⟨S1, T1, e1, e2, h1⟩
    · rw [e1, e2, zBp_s, zBp_s, zBr_q (show ¬ (1 : Int32) = 0 by decide), zBr_q (show ¬ (1 : Int32) = 0 by decide)]
      rcases P_end hQ_stb h1 with ⟨S2, T2, g1, g2, h2⟩ | ⟨S2, T2, g1, g2, h2⟩
      · have tok : S1.1 1 5 = nI 59 := Classical.byContradiction (fun q => by
          unfold fX9_take at g1
          rw [zBr_q (show ¬ S1.1 1 5 = (59 : Int32) from q)] at g1
          obtain ⟨S9, T9, k1, -⟩ := P_fail1 hQ_stb h1
          rw [k1, zBp_s, zBo0, zGd_t] at g1
          have w : (0 : Int32) = 1 := congrArg Prod.fst (Option.some.inj g1)
          exact absurd w (by decide))
        have lt := PI_lt h1 (tk_d (b := 102) tok (by omega) (by omega) (by omega)) (tk_d (b := 103) tok (by omega) (by omega) (by omega))
        rw [g1, g2, zBp_s, zBp_s, zBr_q (show ¬ (1 : Int32) = 0 by decide), zBr_q (show ¬ (1 : Int32) = 0 by decide), zLt_s, zLt_s, nI_1]
        exact Or.inl ⟨_, _, rfl, rfl, ⟨by omega, S2, T2, rfl, rfl, PI_w (fun z => z) (by omega) h2⟩, by omega⟩
      · rw [g1, g2, zBp_s, zBp_s, zBr_p rfl, zBr_p rfl, zXr_s]
        unfold fX12_house_80
        rw [zXr_s]
        exact Or.inr ⟨_, _, rfl, rfl, Or.inr ⟨S2, T2, rfl, rfl, FI_w (fun ⟨_, z⟩ => z.1) h2⟩⟩
    · rw [e1, e2, zBp_s, zBp_s, zBr_p rfl, zBr_p rfl, zXr_s]
      unfold fX12_house_80
      rw [zXr_s]
      exact Or.inr ⟨_, _, rfl, rfl, Or.inr ⟨S1, T1, rfl, rfl, h1⟩⟩
theorem op_house (r : Rel S T) : ∃ z S' T', fX11_house S = some (z, S') ∧ fX12_house T = some (z, T') ∧ Rel S' T' := by
  obtain ⟨X0, c1, c2, c3, c4, c5, c6, c7, c8⟩ := c_clear (S := S)
  obtain ⟨X, hX⟩ : ∃ X, X = zI (zI X0 229 2 0) 229 3 0 := ⟨_, rfl⟩
  have xn : ∀ c, c ≠ 229 → c ≠ 230 → c ≠ 231 → c ≠ 232 → X.1 c = S.1 c := fun c q0 q1 q2 q3 => by rw [hX, zI_ne q0, zI_ne q0, c3 c q1 q2 q3]
  have xj : X.2 = S.2 := by rw [hX]; exact c2
  obtain ⟨T0, hT0⟩ : ∃ X, X = zI (zI T 0 0 0) 0 2 0 := ⟨_, rfl⟩
  have bg := two_begin (Q := fun S' T' => (∀ c, c ≠ 1 → S'.1 c = X.1 c ∧ S'.2 c = X.2 c) ∧ (∀ c, c ≠ 0 → T'.1 c = T.1 c ∧ T'.2 c = T.2 c) ∧ T'.1 0 0 = 0 ∧ T'.1 0 2 = 0 ∧ ∀ j, (j = 1 ∨ 14 ≤ j) → T'.1 0 j = T.1 0 j) r (X := X) (fun c q0 q1 q2 q3 _ _ => xn c q0 q1 q2 q3) xj (M := 900) (by omega) (fun S' T' h1 h2 h3 h4 h5 => ⟨h1, h2, h3, h4, h5⟩)
  obtain ⟨S1, T1, b, L, b1, b2, hp⟩ := bg
  obtain ⟨⟨q1, q2, q3, q4, q5⟩, -⟩ := id hp
  -- the reference's draft cleared
  obtain ⟨d, hd⟩ : ∃ d, d = upd (upd (zSeg (fun _ => 0) (T1.1 3) 0 24) 4 6) 5 2 := ⟨_, rfl⟩
  have dz : ∀ k, k < 24 → k ≠ 4 → k ≠ 5 → d k = 0 := fun k h1 h2 h3 => by rw [hd, pk_un h3, pk_un h2, zSeg_in (by omega) (by omega)]
  have d4 : d 4 = 6 := by rw [hd, pk_un (by omega), pk_us]
  have d5 : d 5 = 2 := by rw [hd, pk_us]
  have k0 : kL d = 0 := by unfold kL; rw [dz 0 (by omega) (by omega) (by omega)]; rfl
  have k1 : kP d = 0 := by unfold kP; rw [dz 1 (by omega) (by omega) (by omega)]; rfl
  have k2 : kE d = 0 := by unfold kE; rw [dz 2 (by omega) (by omega) (by omega)]; rfl
  have k3 : kD d = 0 := by unfold kD; rw [dz 3 (by omega) (by omega) (by omega)]; rfl
  obtain ⟨T2, hT2⟩ : ∃ X, X = zPut (zI (zI T1 11 0 0) 11 1 0) 3 d := ⟨_, rfl⟩
  have hp2 : PI (hQ S T0) b L 900 0 S1 T2 := by
    have tc : ∀ c, c ≠ 3 → c ≠ 11 → T2.1 c = T1.1 c := fun c h1 h2 => by rw [hT2, zPut_ne h1, zI_ne h2, zI_ne h2]
    have tj : T2.2 = T1.2 := by rw [hT2]; rfl
    refine PI_upd hp rfl rfl rfl rfl (fun j _ _ => by rw [tc 0 (by omega) (by omega)]) (by rw [tj]) (tc 1 (by omega) (by omega)) ⟨d, ⟨fun c h1 h2 => ⟨by rw [(q1 c h1).1]; exact xn c (by omega) (by omega) (by omega) (by omega), by rw [(q1 c h1).2, xj]⟩, fun c h1 h2 h3 => ?_, fun c h1 h2 => ?_, fun j hj => ?_⟩, by rw [hT2, zPut_eq], fun k hk => ?_, ?_, ?_⟩
    · rw [tc c h2 h3, (q2 c h1).1, hT0, zI_ne h1, zI_ne h1]
    · rw [tj, (q2 c h1).2, hT0]; rfl
    · rw [tc 0 (by omega) (by omega), hT0]
      rcases (show j = 0 ∨ j = 2 ∨ (j = 1 ∨ 14 ≤ j) by omega) with rfl | rfl | hj'
      · rw [q3, zI_at, if_neg (by omega), zI_at, if_pos ⟨rfl, rfl⟩]
      · rw [q4, zI_at, if_pos ⟨rfl, rfl⟩]
      · rw [q5 j hj', zI_at, if_neg (by omega), zI_at, if_neg (by omega)]
    · rw [(q1 231 (by omega)).1, hX, zI_ne (by omega), zI_ne (by omega), c4 k hk, dz k (by omega) (by omega) (by omega)]
    · refine ⟨0, ?_, by rw [k0, k1, k2, k3], fun k hk => by omega, fun s j hs hj => ?_, fun k k' hk => by omega, fun p hp => by rw [k1] at hp; omega⟩
      · rw [(q1 230 (by omega)).1, hX, zI_ne (by omega), zI_ne (by omega), c6]; rfl
      · rw [dz s (by omega) (by omega) (by omega), zt_0] at hj; omega
    · refine ⟨?_, ?_, fun l hl => ?_, fun p hp => by rw [k1] at hp; omega, ?_, ⟨0, dz 23 (by omega) (by omega) (by omega), by rw [k1]; decide⟩, ⟨?_, Or.inl ?_⟩, ⟨?_, Or.inl ?_⟩⟩
      · rw [(q1 230 (by omega)).1, hX, zI_ne (by omega), zI_ne (by omega), c7, d4]
      · rw [(q1 230 (by omega)).1, hX, zI_ne (by omega), zI_ne (by omega), c8, d5]
      · rw [(q1 232 (by omega)).1, hX, zI_ne (by omega), zI_ne (by omega), c5 l hl, dz (6 + l) (by omega) (by omega) (by omega)]
      · refine ⟨⟨?_, by omega⟩, ⟨?_, by omega⟩, ⟨?_, by omega⟩, ⟨?_, by omega⟩, ⟨6, by omega, by omega, d4⟩, ⟨2, by omega, by omega, d5⟩, fun l hl => ⟨0, by rw [k0]; decide, dz (6 + l) (by omega) (by omega) (by omega)⟩, fun p hp => by rw [k1] at hp; omega⟩
        · rw [k0, dz 0 (by omega) (by omega) (by omega)]; rfl
        · rw [k1, dz 1 (by omega) (by omega) (by omega)]; rfl
        · rw [k2, dz 2 (by omega) (by omega) (by omega)]; rfl
        · rw [k3, dz 3 (by omega) (by omega) (by omega)]; rfl
      · rw [(q1 229 (by omega)).1, hX, zI_at, if_neg (by omega), zI_at, if_pos ⟨rfl, rfl⟩, hT2, zPut_ne (by omega), zI_at, if_neg (by omega), zI_at, if_pos ⟨rfl, rfl⟩]
      · rw [hT2, zPut_ne (by omega), zI_at, if_neg (by omega), zI_at, if_pos ⟨rfl, rfl⟩]
      · rw [(q1 229 (by omega)).1, hX, zI_at, if_pos ⟨rfl, rfl⟩, hT2, zPut_ne (by omega), zI_at, if_pos ⟨rfl, rfl⟩]
      · rw [hT2, zPut_ne (by omega), zI_at, if_pos ⟨rfl, rfl⟩]
  obtain ⟨x, y, l1, l2, hxy⟩ := two_lines hp2
  have cA : fX4_readAll S = some x := by
    unfold fX4_readAll
    rw [c1, zBd_s, zBo0, zGd_t, zLt_s, zGd_t, zLt_s, ← hX, show (900 : Int32) = nI 900 from rfl, b1, zBd_s, l1]
  have mA : fX12_house T = some y := by
    unfold fX12_house
    rw [show (900 : Int32) = nI 900 from rfl, b2, zBd_s]
    refine zLp_copy (c := 3) (o := 0) (n := 24) (f := fun _ => 0) (fun i hi => ?_) ?_ (by omega)
    · unfold fX12_house_9
      dsimp only
      rw [show (24 : Int32) = nI 24 from rfl, zle_f hi (by omega), zIx_nI hi (by omega), zGd_t, zLt_s, zLt_s, nI_clamp (by omega), nI_1, Nat.zero_add]
    · unfold fX12_house_9
      dsimp only
      rw [zBr_p (show (24 : Int32) ≤ nI 24 by decide), zg_0_2, zGd_t, zt_0, zLt_s, zg_1_2, zGd_t, zt_1, zLt_s, zg_4_24, zGd_t, zt_4, zLt_s, zg_5_24, zGd_t, zt_5, zLt_s, show vp_nar FieldType.boolean (0 : Int32) = 0 from rfl]
      have e : zI (zI (zI (zI (zPut T1 3 (zSeg (fun _ => 0) (T1.1 3) 0 24)) 11 0 0) 11 1 0) 3 4 6) 3 5 2 = T2 := by
        rw [hT2, hd, zI_putne _ (by omega), zI_putne _ (by omega), zI_zPut, zI_zPut]
      rw [e, l2, zXr_s]
  unfold fX11_house
  rw [cA, mA]
  rcases hxy with ⟨k, S2, T3, rfl, k9, rfl, h3⟩ | ⟨S2, T3, rfl, rfl, fr, f1, pl, f2, f3, f4⟩
  · obtain ⟨⟨d, fr, m1, m2, m3, g1, g2, g3, g4, hw, -, -, -⟩, hr3, ⟨ff1, ff2⟩, -⟩ := id h3
    have h6 := hw.2.1.2
    obtain ⟨S5, hS5⟩ : ∃ X, X = zI (zI S2 0 14 0) 1 1 0 := ⟨_, rfl⟩
    have n5 : ∀ c, c ≠ 0 → c ≠ 1 → S5.1 c = S2.1 c := fun c h1 h2 => by rw [hS5, zI_ne h2, zI_ne h1]
    have j5 : S5.2 = S2.2 := by rw [hS5]; rfl
    obtain ⟨S8, u1, u2, v1, v2, v3, v4, v5⟩ := c_copyHouse (S := S5) (a := 4) (b := 230) (by omega)
    have Rd : Rh S5.1 230 d := ⟨fun x hx => by rw [n5 (230 + 1) (by omega) (by omega)]; exact m2 x hx, by rw [n5 230 (by omega) (by omega)]; exact g1, by rw [n5 230 (by omega) (by omega)]; exact g2, fun l hl => by rw [n5 (230 + 2) (by omega) (by omega)]; exact g3 l hl, fun p hp => by rw [n5 (230 + 3) (by omega) (by omega), n5 (230 + 4) (by omega) (by omega), n5 (230 + 5) (by omega) (by omega)]; exact g4 p hp⟩
    have Nd : rNm S5.1 S5.2 230 (T3.2 8) d := by
      rw [j5]
      exact rNm_cong (fun a q1 q2 => n5 a (by omega) (by omega)) (fun a _ _ => rfl) m3
    obtain ⟨R8, N8⟩ := copyHouse_R (S := S5) (S' := S8) (a := 4) (b := 230) hw v1 v2 v3 v4 v5 Rd Nd
    obtain ⟨S10, w1, w2, w3, w4, w5, w6⟩ := c_begin (S := S8) (fun _ _ => trivial)
    have er : fX11_endReading S2 = some S5 := by
      unfold fX11_endReading fX9_clear
      rw [ff1, zLt_s, zLt_s, zBd_s, hS5]
    rw [zBp_s, er, zBd_s, zBr_q (zneg2 (by omega)), u1, zBd_s, w1, zBd_s]
    unfold fX7_forget fX8_clear
    rw [zLt_s, zBd_s, zLt_s, zLt_s, zBd_s]
    refine ⟨nI k, _, _, rfl, rfl, ?_⟩
    obtain ⟨S', hS'⟩ : ∃ X, X = zI (zI (zI S10 44 2 0) 245 4 0) 245 5 0 := ⟨_, rfl⟩
    rw [← hS']
    obtain ⟨m, hm⟩ : ∃ m, m = rSo (zSeg (T3.1 3) (T3.1 2) 0 24) := ⟨_, rfl⟩
    have mk : ∀ x, x < 24 → m x = d x := fun x hx => by
      rw [hm]
      unfold rSo
      rw [if_neg (by omega), if_neg (by omega), if_neg (by omega), zSeg_in (by omega) (by omega), Nat.sub_zero, m1]
    have m0 : ∀ x, 24 ≤ x → x < 406 → (x < 26 ∨ 32 ≤ x) → (x < 86 ∨ 164 ≤ x) → m x = 0 := fun x h1 h2 h3 h4 => by
      rw [hm]
      unfold rSo
      rw [if_neg (by omega), if_neg (by omega), if_pos (by omega)]
    have mn : ∀ x, 86 ≤ x → x < 164 → m x = -1 := fun x h1 h2 => by
      rw [hm]
      unfold rSo
      rw [if_neg (by omega), if_pos (by omega)]
    have mp : ∀ p, p < 6 → m (26 + p) = d (11 + p) := fun p hp => by
      rw [hm]
      unfold rSo
      rw [if_pos (by omega), show 26 + p - 15 = 11 + p by omega, zSeg_in (by omega) (by omega), Nat.sub_zero, m1]
    have eP : kP m = kP d := kP_eq (mk 1 (by omega))
    have eL : kL m = kL d := by unfold kL; rw [mk 0 (by omega)]
    have eA : kA m = 0 := by unfold kA; rw [m0 25 (by omega) (by omega) (by omega) (by omega)]; rfl
    have t2 : (hEnd T3).1 2 = m := by unfold hEnd; rw [zI_ne (by omega), zPut_eq, hm]
    have tc : ∀ c, c ≠ 0 → c ≠ 2 → (hEnd T3).1 c = T3.1 c := fun c h1 h2 => by unfold hEnd; rw [zI_ne h1, zPut_ne h2, zPutJ_1]
    have t0 : ∀ j, j ≠ 24 → (hEnd T3).1 0 j = T3.1 0 j := fun j hj => by unfold hEnd; rw [zI_at, if_neg (by omega), zPut_ne (by omega), zPutJ_1]
    have t24 : (hEnd T3).1 0 24 = 0 := by unfold hEnd; rw [zI_at, if_pos ⟨rfl, rfl⟩]
    have t7 : ∀ i, i < 20 → (hEnd T3).2 7 i = T3.2 8 i := fun i hi => by unfold hEnd; rw [zI_at2, zPut_2, zPutJ_eq, zSegJ_in (by omega) (by omega), Nat.sub_zero]
    have t9 : (hEnd T3).2 9 = T3.2 9 := by unfold hEnd; rw [zI_at2, zPut_2, zPutJ_ne (by omega)]
    have s8 : ∀ c, c < 4 ∨ 14 ≤ c → c ≠ 0 → c ≠ 1 → S8.1 c = S2.1 c := fun c h1 h2 h3 => by rw [(u2 c (by omega)).1, n5 c h2 h3]
    have sj : ∀ c, S'.2 c = S8.2 c := fun c => by rw [hS', zI_at2, zI_at2, zI_at2, w2]
    have sc : ∀ c, c ≠ 14 → c ≠ 26 → c ≠ 27 → c ≠ 28 → c ≠ 44 → c ≠ 245 → S'.1 c = S8.1 c := fun c h1 h2 h3 h4 h5 h6 => by rw [hS', zI_ne h6, zI_ne h6, zI_ne h5, w3 c h1 h2 h3 h4]
    have so : ∀ c, c ≠ 0 → c ≠ 1 → (c < 4 ∨ (29 ≤ c ∧ c < 229) ∨ 240 ≤ c) → c ≠ 44 → c ≠ 245 → S'.1 c = S.1 c := fun c h0 h1 h2 h3 h4 => by rw [sc c (by omega) (by omega) (by omega) (by omega) h3 h4, s8 c (by omega) h0 h1]; exact (fr.1 c h1 (by omega)).1
    have soj : ∀ c, c ≠ 1 → (c < 4 ∨ (14 ≤ c ∧ c < 229) ∨ 240 ≤ c) → S'.2 c = S.2 c := fun c h1 h2 => by rw [sj, (u2 c (by omega)).2, j5]; exact (fr.1 c h1 (by omega)).2
    have s0 : ∀ j, j ≠ 14 → S'.1 0 j = S.1 0 j := fun j hj => by rw [sc 0 (by omega) (by omega) (by omega) (by omega) (by omega) (by omega), (u2 0 (by omega)).1, hS5, zI_ne (by omega), zI_at, if_neg (by omega)]; exact congrFun (fr.1 0 (by omega) (by omega)).1 j
    have to : ∀ c, c ≠ 0 → c ≠ 2 → c ≠ 3 → c ≠ 11 → (hEnd T3).1 c = T.1 c := fun c h1 h2 h3 h4 => by rw [tc c h1 h2, fr.2.1 c h1 h3 h4, hT0, zI_ne h1, zI_ne h1]
    have tz : ∀ j, 14 ≤ j → j ≠ 24 → (hEnd T3).1 0 j = T.1 0 j := fun j h1 h2 => by rw [t0 j h2, fr.2.2.2 j (by omega), hT0, zI_at, if_neg (by omega), zI_at, if_neg (by omega)]
    obtain ⟨r1, r2, ⟨nx, kp, c1', c2', c3', c4', c5', c6'⟩, r4, r5, r6, r7, r8, r9, r10⟩ := r
    unfold Rel
    rw [t2, to 4 (by omega) (by omega) (by omega) (by omega), to 5 (by omega) (by omega) (by omega) (by omega), to 10 (by omega) (by omega) (by omega) (by omega), to 13 (by omega) (by omega) (by omega) (by omega), to 14 (by omega) (by omega) (by omega) (by omega), to 17 (by omega) (by omega) (by omega) (by omega), t9, tz 25 (by omega) (by omega), tz 26 (by omega) (by omega), tz 29 (by omega) (by omega), tz 31 (by omega) (by omega), tz 39 (by omega) (by omega), so 256 (by omega) (by omega) (by omega) (by omega) (by omega), so 260 (by omega) (by omega) (by omega) (by omega) (by omega), so 255 (by omega) (by omega) (by omega) (by omega) (by omega), so 240 (by omega) (by omega) (by omega) (by omega) (by omega), soj 3 (by omega) (by omega), s0 15 (by omega), s0 16 (by omega), fr.2.2.1 9 (by omega) (by omega), hT0]
    refine ⟨⟨0, by omega, ?_, ?_, fun i hi => by omega⟩, ⟨?_, ?_, ?_, ?_, ?_, Or.inl ⟨m0 164 (by omega) (by omega) (by omega) (by omega), ?_, ?_⟩⟩, ⟨nx, 0, c1', by omega, ?_, ?_, by rw [t24]; rfl, fun t ht => by omega⟩, rImg_cong (fun a h1 h2 => so a (by omega) (by omega) (by omega) (by omega) (by omega)) (fun a h1 h2 => soj a (by omega) (by omega)) r4, rImg_cong (fun a h1 h2 => so a (by omega) (by omega) (by omega) (by omega) (by omega)) (fun a h1 h2 => soj a (by omega) (by omega)) r5, ⟨?_, r6.2.1, r6.2.2⟩, r7, r8, r9, r10⟩
    · rw [sc 1 (by omega) (by omega) (by omega) (by omega) (by omega) (by omega), (u2 1 (by omega)).1, hS5, zI_at, if_pos ⟨rfl, rfl⟩]; rfl
    · rw [t0 2 (by omega), fr.2.2.2 2 (by omega), hT0, zI_at, if_pos ⟨rfl, rfl⟩]; rfl
    · exact Rh_m mk (Rh_cong (fun a h1 h2 => sc a (by omega) (by omega) (by omega) (by omega) (by omega) (by omega)) R8) hw
    · exact WFh_m mk hw
    · unfold Rl
      rw [eP, eA]
      refine ⟨?_, ?_, fun p hp => ⟨?_, ?_, Or.inr ⟨?_, mn _ (by omega) (by omega)⟩⟩, fun i hi => by omega, fun p i hp hi => by omega⟩
      · rw [hS', zI_ne (by omega), zI_ne (by omega), zI_ne (by omega), w4, m0 24 (by omega) (by omega) (by omega) (by omega)]
      · rw [hS', zI_ne (by omega), zI_ne (by omega), zI_ne (by omega), w5, m0 25 (by omega) (by omega) (by omega) (by omega)]
      · rw [hS', zI_ne (by omega), zI_ne (by omega), zI_ne (by omega), (w6 p (by omega)).2.2, mp p (by omega)]; exact (R8.2.2.2.2 p hp).1
      · rw [hS', zI_ne (by omega), zI_ne (by omega), zI_ne (by omega), (w6 p (by omega)).2.1, m0 (32 + p) (by omega) (by omega) (by omega) (by omega)]
      · rw [hS', zI_ne (by omega), zI_ne (by omega), zI_ne (by omega), (w6 p (by omega)).1]
    · unfold WFl
      rw [eP, eA, eL]
      refine ⟨⟨0, by omega, by rw [m0 24 (by omega) (by omega) (by omega) (by omega)]; rfl⟩, ⟨by rw [m0 25 (by omega) (by omega) (by omega) (by omega)]; rfl, by omega⟩, fun p hp => ⟨by rw [mp p (by omega)]; exact (hw.2.2.2.2.2.2.2 p hp).1, ⟨0, by omega, by rw [m0 (32 + p) (by omega) (by omega) (by omega) (by omega)]; rfl⟩⟩, fun i hi => by omega, fun p i hp hi => by omega, fun p hp => Or.inl (mn _ (by omega) (by omega)), fun p i hp h1 h2 => mn _ (by omega) (by omega)⟩
    · refine rNm_nm (WFh_m mk hw) t7 (rNm_m mk ?_)
      exact rNm_cong (fun a h1 h2 => sc a (by omega) (by omega) (by omega) (by omega) (by omega) (by omega)) (fun a h1 h2 => sj a) N8
    · rw [hS', zI_at, if_pos ⟨rfl, rfl⟩]
    · rw [hS', zI_at, if_neg (by omega), zI_at, if_pos ⟨rfl, rfl⟩]
    · rw [hS', zI_ne (by omega), zI_ne (by omega), zI_at, if_neg (by omega), w3 44 (by omega) (by omega) (by omega) (by omega), s8 44 (by omega) (by omega) (by omega), (fr.1 44 (by omega) (by omega)).1]; exact c3'
    · rw [hS', zI_ne (by omega), zI_ne (by omega), zI_at, if_pos ⟨rfl, rfl⟩]; rfl
    · rw [sc 0 (by omega) (by omega) (by omega) (by omega) (by omega) (by omega), (u2 0 (by omega)).1, hS5, zI_ne (by omega), zI_at, if_pos ⟨rfl, rfl⟩, t0 10 (by omega), ff2]
  · obtain ⟨S5, hS5⟩ : ∃ X, X = zI (zI S2 0 14 (S2.1 1 9)) 1 1 0 := ⟨_, rfl⟩
    have er : fX11_endReading S2 = some S5 := by
      unfold fX11_endReading fX9_clear
      rw [zLt_s, zLt_s, zBd_s, hS5]
    have n5 : ∀ c, c ≠ 0 → c ≠ 1 → S5.1 c = S2.1 c := fun c h1 h2 => by rw [hS5, zI_ne h2, zI_ne h1]
    have s110 : S5.1 1 10 = nI pl := by rw [hS5, zI_at, if_neg (by omega), zI_ne (by omega), f3]
    rw [zBp_s, er, zBd_s, zBr_p rfl, s110, f4]
    refine ⟨_, _, _, rfl, rfl, ?_⟩
    have to : ∀ c, c ≠ 0 → c ≠ 3 → c ≠ 11 → T3.1 c = T.1 c := fun c h1 h3 h4 => by rw [fr.2.1 c h1 h3 h4, hT0, zI_ne h1, zI_ne h1]
    have tz : ∀ j, 14 ≤ j → T3.1 0 j = T.1 0 j := fun j h1 => by rw [fr.2.2.2 j (by omega), hT0, zI_at, if_neg (by omega), zI_at, if_neg (by omega)]
    obtain ⟨-, -, -, -, -, r6, -, -, r9, -⟩ := id r
    refine Rel_fault r (fun c h0 h1 h2 => ⟨by rw [n5 c h0 h1]; exact (fr.1 c h1 (by omega)).1, by rw [hS5]; exact (fr.1 c h1 (by omega)).2⟩) ?_ (fun c hc => to c (by omega) (by omega) (by omega)) ⟨by rw [fr.2.2.1 7 (by omega) (by omega), hT0]; rfl, by rw [fr.2.2.1 9 (by omega) (by omega), hT0]; rfl⟩ (fun j hj => tz j (by omega)) (by rw [hS5]; exact (fr.1 3 (by omega) (by omega)).2) (by rw [hS5, zI_at, if_pos ⟨rfl, rfl⟩]) (by rw [fr.2.2.2 2 (by omega), hT0, zI_at, if_pos ⟨rfl, rfl⟩]) (by rw [hS5, zI_ne (by omega), zI_at, if_pos ⟨rfl, rfl⟩]; exact f1) ?_ ?_
    · rw [n5 240 (by omega) (by omega), (fr.1 240 (by omega) (by omega)).1, tz 39 (by omega), to 17 (by omega) (by omega) (by omega)]; exact r9
    · rw [hS5, zI_ne (by omega), zI_at, if_neg (by omega), (fr.1 0 (by omega) (by omega)).1]
    · rw [hS5, zI_ne (by omega), zI_at, if_neg (by omega), (fr.1 0 (by omega) (by omega)).1]
end House2
