/-! lines of a house: a plant; any line -/
theorem aFern_tb {m : Nat → Int32} {F q : Nat} (h : m 23 = nI F) (hF : F < 64) (hq : q < 6) : aFern m q = F.testBit q := by
  have key : ∀ F, F < 64 → ∀ q, q < 6 → decide (((nI F >>> (nI q &&& 31)) &&& (1 : Int32)) = 1) = F.testBit q := by decide +kernel
  unfold aFern
  rw [h]
  exact key F hF q hq
section Plant
variable {S0 T0 S T : zSt} {d : Nat → Int32} {b : Nat → Nat} {L M lo : Nat}
def dPq (d : Nat → Int32) (p j v F : Nat) : Nat → Int32 := upd (upd (upd d (11 + p) (nI j)) (17 + p) (nI v)) 23 (nI F)
def dPf (d : Nat → Int32) (p j v F : Nat) : Nat → Int32 := upd (dPq d p j v F) 1 (nI (p + 1))
theorem dPf_un {p j v F k : Nat} (hp : p < 6) (h1 : k ≠ 1) (h2 : k ≠ 11 + p) (h3 : k ≠ 17 + p) (h4 : k ≠ 23) : dPf d p j v F k = d k := by
  unfold dPf dPq
  rw [pk_un h1, pk_un h4, pk_un h3, pk_un h2]
theorem dPf_v {p j v F : Nat} (hp : p < 6) : dPf d p j v F 1 = nI (p + 1) ∧ dPf d p j v F (11 + p) = nI j ∧ dPf d p j v F (17 + p) = nI v ∧ dPf d p j v F 23 = nI F := by
  unfold dPf dPq
  refine ⟨pk_us, ?_, ?_, ?_⟩
  · rw [pk_un (by omega), pk_un (by omega), pk_un (by omega), pk_us]
  · rw [pk_un (by omega), pk_un (by omega), pk_us]
  · rw [pk_un (by omega), pk_us]
theorem plant_fin {p j v F F0 : Nat} (hp : kP d = p) (hp6 : p < 6) (hF0 : d 23 = nI F0) (hF0' : F0 < 2 ^ p) (hF : F < 2 ^ (p + 1)) (hFq : ∀ q, q < p → F.testBit q = F0.testBit q) (hj : j < kL d) (hv : 1 ≤ v ∧ v ≤ 9) (h : hQe S0 T0 (dPq d p j v F) d (upd d 1 (nI (p + 1))) S T) (s3 : S.1 233 p = nI j) (s4 : S.1 234 p = nI v) (s5 : S.1 235 p = if F.testBit p = true then 1 else 0) : hQ S0 T0 S (zI T 3 1 (nI (p + 1))) := by
  obtain ⟨fr, a1, a2, a3, f1, f2, f3, f4, f5, -, f7, f8⟩ := h
  have t3 : (zI T 3 1 (nI (p + 1))).1 3 = dPf d p j v F := by rw [zI_eq, a1]; rfl
  have p64 : 2 ^ (p + 1) ≤ 2 ^ 6 := Nat.pow_le_pow_right (by omega) (by omega)
  have p32 : 2 ^ p ≤ 2 ^ 5 := Nat.pow_le_pow_right (by omega) (by omega)
  obtain ⟨v1, v2, v3, v4⟩ := dPf_v (d := d) (j := j) (v := v) (F := F) hp6
  have eP : kP (dPf d p j v F) = p + 1 := by unfold kP; rw [v1, nI_clamp (by omega)]
  have e0 : kL (dPf d p j v F) = kL d := by unfold kL; rw [dPf_un hp6 (by omega) (by omega) (by omega) (by omega)]
  have e2 : kE (dPf d p j v F) = kE d := by unfold kE; rw [dPf_un hp6 (by omega) (by omega) (by omega) (by omega)]
  have e3 : kD (dPf d p j v F) = kD d := by unfold kD; rw [dPf_un hp6 (by omega) (by omega) (by omega) (by omega)]
  have eK : ∀ k, k < 4 → dPf d p j v F k = upd d 1 (nI (p + 1)) k := fun k hk => by
    by_cases k1 : k = 1
    · subst k1; rw [v1, pk_us]
    · rw [dPf_un hp6 k1 (by omega) (by omega) (by omega), pk_un k1]
  refine ⟨dPf d p j v F, ⟨fr.1, fun c c0 c3 c11 => by rw [zI_ne c3]; exact fr.2.1 c c0 c3 c11, fr.2.2.1, fun x hx => by rw [zI_ne (by omega)]; exact fr.2.2.2 x hx⟩, t3, fun k hk => by rw [eK k hk]; exact a2 k hk, ?_, ?_⟩
  · obtain ⟨W, y1, y2, y3, y4, y5, y6⟩ := a3
    have u0 : kL (upd d 1 (nI (p + 1))) = kL d := by unfold kL; rw [pk_un (by omega)]
    have u1 : kP (upd d 1 (nI (p + 1))) = p + 1 := by unfold kP; rw [pk_us, nI_clamp (by omega)]
    have u2 : kE (upd d 1 (nI (p + 1))) = kE d := by unfold kE; rw [pk_un (by omega)]
    have u3 : kD (upd d 1 (nI (p + 1))) = kD d := by unfold kD; rw [pk_un (by omega)]
    refine ⟨W, y1, by rw [e0, eP, e2, e3]; rw [u0, u1, u2, u3] at y2; exact y2, fun q hq => ?_, fun s x hs hx => ?_, y5, by rw [eP]; rw [u1] at y6; exact y6⟩
    · obtain ⟨s, x, z1, z2, z3, z4, z5⟩ := y3 q hq
      exact ⟨s, x, z1, z2, z3, by rw [eK s z1]; exact z4, z5⟩
    · rw [eK s hs] at hx
      exact y4 s x hs hx
  · refine ⟨by rw [dPf_un hp6 (by omega) (by omega) (by omega) (by omega)]; exact f1, by rw [dPf_un hp6 (by omega) (by omega) (by omega) (by omega)]; exact f2, fun l hl => by rw [dPf_un hp6 (by omega) (by omega) (by omega) (by omega)]; exact f3 l hl, fun q hq => ?_, ?_, ⟨F, v4, by rw [eP]; exact hF⟩, by rw [zI_ne (by omega)]; exact f7, by rw [zI_ne (by omega)]; exact f8⟩
    · rw [eP] at hq
      rw [aFern_tb v4 (by omega) (by omega)]
      by_cases e : q = p
      · subst e
        rw [v2, v3]
        exact ⟨s3, s4, s5⟩
      · have := f4 q (by omega)
        rw [aFern_tb hF0 (by omega) (by omega)] at this
        rw [dPf_un hp6 (by omega) (by omega) (by omega) (by omega), dPf_un hp6 (by omega) (by omega) (by omega) (by omega), hFq q (by omega)]
        exact this
    · unfold WFh
      rw [e0, eP, e2, e3, v1, dPf_un hp6 (show 0 ≠ 1 by omega) (by omega) (by omega) (by omega), dPf_un hp6 (show 2 ≠ 1 by omega) (by omega) (by omega) (by omega), dPf_un hp6 (show 3 ≠ 1 by omega) (by omega) (by omega) (by omega), dPf_un hp6 (show 4 ≠ 1 by omega) (by omega) (by omega) (by omega), dPf_un hp6 (show 5 ≠ 1 by omega) (by omega) (by omega) (by omega)]
      refine ⟨f5.1, ⟨rfl, by omega⟩, f5.2.2.1, f5.2.2.2.1, f5.2.2.2.2.1, f5.2.2.2.2.2.1, fun l hl => by rw [dPf_un hp6 (by omega) (by omega) (by omega) (by omega)]; exact f5.2.2.2.2.2.2.1 l hl, fun q hq => ?_⟩
      by_cases e : q = p
      · subst e
        rw [v2, v3]
        exact ⟨⟨j, hj, rfl⟩, v, hv.2, hv.1, rfl⟩
      · rw [dPf_un hp6 (by omega) (by omega) (by omega) (by omega), dPf_un hp6 (by omega) (by omega) (by omega) (by omega)]
        exact f5.2.2.2.2.2.2.2 q (by omega)
/-- the reference's draft told on: nothing else of the relation speaks of it -/
theorem hQe_put {dT d d' : Nat → Int32} (h : hQe S0 T0 dT d d' S T) (k : Nat) (v : Int32) : hQe S0 T0 (upd dT k v) d d' S (zI T 3 k v) := by
  obtain ⟨fr, a1, a2, a3, a4⟩ := h
  refine ⟨⟨fr.1, fun c c0 c3 c11 => by rw [zI_ne c3]; exact fr.2.1 c c0 c3 c11, fr.2.2.1, fun x hx => by rw [zI_ne (by omega)]; exact fr.2.2.2 x hx⟩, by rw [zI_eq, a1], a2, a3, ?_⟩
  unfold dRs at a4 ⊢
  rw [zI_ne (show (11 : Nat) ≠ 3 by omega)]
  exact a4
theorem hQe_cls {dT d d' : Nat → Int32} (h : hQe S0 T0 dT d d' S T) {a p : Nat} (ha : a = 233 ∨ a = 234 ∨ a = 235) (hp : kP d ≤ p) (v : Int32) : hQe S0 T0 dT d d' (zI S a p v) T := by
  obtain ⟨fr, a1, a2, a3, f1, f2, f3, f4, f5, f6, f7, f8⟩ := h
  refine ⟨⟨fun c c1 c2 => ⟨by rw [zI_ne (by omega)]; exact (fr.1 c c1 c2).1, (fr.1 c c1 c2).2⟩, fr.2⟩, a1, fun k hk => by rw [zI_ne (by omega)]; exact a2 k hk, ?_, by rw [zI_ne (by omega)]; exact f1, by rw [zI_ne (by omega)]; exact f2, fun l hl => by rw [zI_ne (by omega)]; exact f3 l hl, fun q hq => ?_, f5, f6, by rw [zI_ne (by omega)]; exact f7, by rw [zI_ne (by omega)]; exact f8⟩
  · unfold rNm at a3 ⊢
    rw [zI_ne (show (230 : Nat) ≠ a by omega), zI_ne (show (230 + 8 : Nat) ≠ a by omega), zI_ne (show (230 + 9 : Nat) ≠ a by omega)]
    exact a3
  · rw [zI_at, if_neg (by omega), zI_at, if_neg (by omega), zI_at, if_neg (by omega)]
    exact f4 q hq
theorem L_plant (h : PI (hQd S0 T0 d d) b L M lo S T) (n2 : ¬ S.1 1 5 = 102) (n3 : ¬ S.1 1 5 = 103) : (∃ S' T', fX4_readPlant S = some (1, S') ∧ fX12_readPlant T = some (1, T') ∧ PI (hQ S0 T0) b L M (lo + 1) S' T') ∨ ∃ S' T', fX4_readPlant S = some (0, S') ∧ fX12_readPlant T = some (0, T') ∧ FI (hFr S0 T0) S' T' := by
  obtain ⟨⟨-, m1, m2, -, m4⟩, -⟩ := id h
  have hw : WFh d := m4.2.2.2.2.1
  obtain ⟨p, hp⟩ : ∃ p, kP d = p := ⟨_, rfl⟩
  have h6 := hw.2.1.2
  have h5 := hw.1.2
  have d1 : d 1 = nI p := by rw [hw.2.1.1, hp]
  have nm := N_name h n2 n3 (s := 1) (c := p) (by omega) hp
  unfold fX4_readPlant fX12_readPlant
  rw [zg_1_4, zGd_t, zt_1, show S.1 (230 + 1) 1 = nI p by rw [← d1]; exact m2 1 (by omega), zLt_s]
  rcases nm with ⟨S4, T2, T4, e1, e2, e3, e4, e5, h4⟩ | ⟨S', T', e1, e2, h'⟩
  · have p6 : p < 6 := e5
    have e1' : fX4_readNamed S 1 = some (1, S4) := e1
    have e2' : fX12_readFirst T 1 6 = some (1, T2) := e2
    have e4' : fX12_readNew T2 (nI (5 + p)) = some (1, T4) := e4
    rw [e1', e2', zBp_s, zBp_s, zBr_q (show ¬ (1 : Int32) = 0 by decide), zBr_q (show ¬ (1 : Int32) = 0 by decide), zg_1_24, zGd_t, e3, d1, zLt_s, zo_5, e4', zBp_s, zBr_q (show ¬ (1 : Int32) = 0 by decide)]
    obtain ⟨⟨fr4, a1, a2, a3, a4⟩, -⟩ := id h4
    have wc : WFc (upd d 1 (nI (p + 1))) := WFc_upd hw.c (by omega) (show p + 1 ≤ 6 by omega)
    have kl : kL (upd d 1 (nI (p + 1))) = kL d := by unfold kL; rw [pk_un (by omega)]
    rcases P_here hQd_stb h4 wc a3 (by rw [a1, pk_un (by omega)]) with ⟨j, hj, k1, k2, k3⟩ | ⟨S', T', k1, k2, k3⟩
    · rw [kl] at hj
      have q5 : hQe S0 T0 (upd d (11 + p) (nI j)) d (upd d 1 (nI (p + 1))) S4 (zI (zI T4 0 13 (nI j)) 3 (11 + p) (nI j)) := hQe_put ((P_told hQd_stb h4 (nI j)).1) _ _
      have h5' : PI (hQe S0 T0 (upd d (11 + p) (nI j)) d (upd d 1 (nI (p + 1)))) b L M (lo + 1) S4 (zI (zI T4 0 13 (nI j)) 3 (11 + p) (nI j)) := PI_upd (P_told hQd_stb h4 (nI j)) rfl rfl rfl rfl (fun x _ _ => by rw [zI_ne (by omega)]) rfl (zI_ne (by omega)) q5
      obtain ⟨S8, T8, g1, g2, h8, -, fc, -⟩ := P_read hQe_stb h5' (by rw [k3]; decide) (by rw [k3]; decide)
      have put1 : fX12_put (zI T4 0 13 (nI j)) (nI (11 + p)) 1 = some (1, zI (zI T4 0 13 (nI j)) 3 (11 + p) (nI j)) := by
        unfold fX12_put
        rw [zBr_q (show ¬ (1 : Int32) = 0 by decide), zIx_nI (by omega) (by omega), zGd_t, nI_clamp (by omega), zI_at, if_pos ⟨rfl, rfl⟩, zLt_s, zBo1, zGd_t]
      rw [k1 S8 g1 fc, k2, zBp_s, zBp_s, zBr_q (zneg2 (by omega)), zo_11, put1, zBp_s, zBr_q (show ¬ (1 : Int32) = 0 by decide), g2, zBd_s]
      rcases P_num hQe_stb h8 (a := 1) (d := 9) (by omega) (by omega) with ⟨v, S12, T12, r1, r2, v1, v2, r3, h12⟩ | ⟨S12, T12, r1, r2, h12⟩
      · have r1' : fX9_takeNumber S8 1 9 = some (nI v, S12) := r1
        have r2' : fX12_readNumber T8 1 9 = some (1, T12) := r2
        have put2 : fX12_put T12 (nI (17 + p)) 1 = some (1, zI T12 3 (17 + p) (nI v)) := by
          unfold fX12_put
          rw [zBr_q (show ¬ (1 : Int32) = 0 by decide), zIx_nI (by omega) (by omega), zGd_t, nI_clamp (by omega), r3, zLt_s, zBo1, zGd_t]
        obtain ⟨S20, hS20⟩ : ∃ X, X = zI (zI (zI S12 233 p (nI j)) 234 p (nI v)) 235 p 0 := ⟨_, rfl⟩
        rw [r1', r2', zBp_s, zBp_s, zBr_q (zneg2 (by omega)), zo_17, put2, zBp_s, zBr_q (show ¬ (1 : Int32) = 0 by decide), zIx_nI p6 (by omega)]
        simp only [zGd_t, zLt_s]
        rw [nI_clamp (show p < 2 ^ 31 by omega), show zI (zI (zI S12 (230 + 3) p (nI j)) (230 + 4) p (nI v)) (230 + 5) p 0 = S20 from hS20.symm]
        obtain ⟨F0, hF0, hF0'⟩ : ∃ F, d 23 = nI F ∧ F < 2 ^ p := by
          have := m4.2.2.2.2.2.1
          rw [hp] at this
          exact this
        have nx : upd (upd d (11 + p) (nI j)) (17 + p) (nI v) = dPq d p j v F0 := by
          unfold dPq
          have : upd (upd d (11 + p) (nI j)) (17 + p) (nI v) 23 = nI F0 := by rw [pk_un (by omega), pk_un (by omega), hF0]
          rw [← this, upd_self]
        have q20 : hQe S0 T0 (dPq d p j v F0) d (upd d 1 (nI (p + 1))) S20 (zI T12 3 (17 + p) (nI v)) := by
          rw [hS20, ← nx]
          exact hQe_cls (hQe_cls (hQe_cls (hQe_put h12.1 _ _) (Or.inl rfl) (by omega) _) (Or.inr (Or.inl rfl)) (by omega) _) (Or.inr (Or.inr rfl)) (by omega) _
        have c20 : S20.1 1 = S12.1 1 := by rw [hS20, zI_ne (by omega), zI_ne (by omega), zI_ne (by omega)]
        have c20b : S20.1 2 = S12.1 2 := by rw [hS20, zI_ne (by omega), zI_ne (by omega), zI_ne (by omega)]
        have x3 : S20.1 233 p = nI j := by rw [hS20, zI_ne (by omega), zI_ne (by omega), zI_at, if_pos ⟨rfl, rfl⟩]
        have x4 : S20.1 234 p = nI v := by rw [hS20, zI_ne (by omega), zI_at, if_pos ⟨rfl, rfl⟩]
        have x5 : S20.1 235 p = 0 := by rw [hS20, zI_at, if_pos ⟨rfl, rfl⟩]
        have h20 : PI (hQe S0 T0 (dPq d p j v F0) d (upd d 1 (nI (p + 1)))) b L M (lo + 1 + 1 + 1) S20 (zI T12 3 (17 + p) (nI v)) := PI_upd h12 c20 (by rw [hS20]; rfl) c20b (by rw [hS20]; rfl) (fun x _ _ => by rw [zI_ne (by omega)]) rfl (zI_ne (by omega)) q20
        obtain ⟨-, -, -, st, to, ht, -⟩ := id h20
        have t23 : (zI T12 3 (17 + p) (nI v)).1 3 23 = nI F0 := by rw [q20.2.1]; unfold dPq; rw [pk_us]
        have t1 : (zI T12 3 (17 + p) (nI v)).1 3 1 = nI p := by
          rw [q20.2.1]
          unfold dPq
          rw [pk_un (by omega), pk_un (by omega), pk_un (by omega), d1]
        have fin96 : ∀ X : zSt, X.1 3 1 = nI p → fX12_readPlant_96 X = some (1, zI X 3 1 (nI (p + 1))) := fun X hX => by
          unfold fX12_readPlant_96
          rw [zg_1_24, zGd_t, zGd_t, zt_1, hX, nI_1, zLt_s]
        have p32 : 2 ^ p ≤ 2 ^ 5 := Nat.pow_le_pow_right (by omega) (by omega)
        rw [show (15 : Int32) = nI 15 from rfl, tk_word ht (by omega), zBd_s, bI_br, show mKy 15 = 3 from rfl]
        by_cases fern : S20.1 1 5 = nI 3
        · rw [zBr_p (show S20.1 1 5 = 3 from fern), if_pos (decide_eq_true fern)]
          have sg : (zI T12 3 (17 + p) (nI v)).1 3 (23 : Int32).toNatClampNeg ||| ((1 : Int32) <<< (nI p &&& 31)) = nI (F0 ||| 2 ^ p) := by
            rw [zt_23, t23, zSh1 (by omega), nI_or]
          have q23 : hQe S0 T0 (dPq d p j v (F0 ||| 2 ^ p)) d (upd d 1 (nI (p + 1))) (zI S20 235 p 1) (zI (zI T12 3 (17 + p) (nI v)) 3 23 (nI (F0 ||| 2 ^ p))) := by
            have e : upd (dPq d p j v F0) 23 (nI (F0 ||| 2 ^ p)) = dPq d p j v (F0 ||| 2 ^ p) := by
              unfold dPq
              rw [upd_upd]
            rw [← e]
            exact hQe_cls (hQe_put q20 _ _) (Or.inr (Or.inr rfl)) (by omega) _
          have h23 : PI (hQe S0 T0 (dPq d p j v (F0 ||| 2 ^ p)) d (upd d 1 (nI (p + 1)))) b L M (lo + 1 + 1 + 1) (zI S20 235 p 1) (zI (zI T12 3 (17 + p) (nI v)) 3 23 (nI (F0 ||| 2 ^ p))) := PI_upd h20 (zI_ne (by omega)) rfl (zI_ne (by omega)) rfl (fun x _ _ => by rw [zI_ne (by omega)]) rfl (zI_ne (by omega)) q23
          have tok : (zI S20 235 p 1).1 1 5 = nI 3 := by rw [zI_ne (by omega)]; exact fern
          obtain ⟨S25, T25, u1, u2, h25, -, fc2, -⟩ := P_read hQe_stb h23 (by rw [tok]; decide) (by rw [tok]; decide)
          have y3 : S25.1 233 p = nI j := by rw [(fc2.1 233 (by omega)).1, zI_ne (by omega)]; exact x3
          have y4 : S25.1 234 p = nI v := by rw [(fc2.1 234 (by omega)).1, zI_ne (by omega)]; exact x4
          have y5 : S25.1 235 p = 1 := by rw [(fc2.1 235 (by omega)).1, zI_at, if_pos ⟨rfl, rfl⟩]
          have t25 : T25.1 3 1 = nI p := by
            rw [h25.1.2.1]
            unfold dPq
            rw [pk_un (by omega), pk_un (by omega), pk_un (by omega), d1]
          have tb : (F0 ||| 2 ^ p).testBit p = true := by rw [Nat.testBit_or, Nat.testBit_two_pow_self, Bool.or_true]
          rw [show (230 + 5 : Nat) = 235 from rfl, u1, zBd_s, zg_23_24, zGd_t, zGd_t, sg, zt_23, u2, zBd_s, fin96 T25 t25]
          refine Or.inl ⟨S25, _, rfl, rfl, PI_w (fun z => z) (by omega) (PI_upd h25 rfl rfl rfl rfl (fun x _ _ => by rw [zI_ne (by omega)]) rfl (zI_ne (by omega)) (plant_fin hp p6 hF0 hF0' (Nat.or_lt_two_pow (Nat.lt_of_lt_of_le hF0' (Nat.pow_le_pow_right (by omega) (by omega))) (Nat.pow_lt_pow_right (by omega) (by omega))) (fun q hq => ?_) hj ⟨v1, v2⟩ h25.1 y3 y4 (by rw [tb, if_pos rfl]; exact y5)))⟩
          rw [Nat.testBit_or, Nat.testBit_two_pow_of_ne (by omega), Bool.or_false]
        · rw [zBr_q (show ¬ S20.1 1 5 = 3 from fern), if_neg (fun w => fern (of_decide_eq_true w)), fin96 _ t1]
          have tb : F0.testBit p = false := Nat.testBit_lt_two_pow hF0'
          refine Or.inl ⟨S20, _, rfl, rfl, PI_w (fun z => z) (by omega) (PI_upd h20 rfl rfl rfl rfl (fun x _ _ => by rw [zI_ne (by omega)]) rfl (zI_ne (by omega)) (plant_fin hp p6 hF0 hF0' (Nat.lt_of_lt_of_le hF0' (Nat.pow_le_pow_right (by omega) (by omega))) (fun _ _ => rfl) hj ⟨v1, v2⟩ q20 x3 x4 (by rw [tb, if_neg (by decide)]; exact x5)))⟩
      · have r1' : fX9_takeNumber S8 1 9 = some (-1, S12) := r1
        have r2' : fX12_readNumber T8 1 9 = some (0, T12) := r2
        unfold fX12_put
        rw [r1', r2', zBp_s, zBp_s, zBr_p rfl, zBr_p rfl, zBo0, zGd_t, zBp_s, zBr_p rfl]
        exact Or.inr ⟨S12, T12, rfl, rfl, FI_w (fun z => z.1) h12⟩
    · unfold fX12_put
      rw [k1, k2, zBp_s, zBp_s, zBr_p rfl, zBr_p rfl, zBo0, zGd_t, zBp_s, zBr_p rfl]
      exact Or.inr ⟨S', T', rfl, rfl, FI_w (fun z => z.1) k3⟩
  · have e1' : fX4_readNamed S 1 = some (0, S') := e1
    rw [e1', zBp_s, zBr_p rfl]
    rcases e2 with e2 | ⟨T2, e2, e3, e4⟩
    · have e2' : fX12_readFirst T 1 6 = some (0, T') := e2
      rw [e2', zBp_s, zBr_p rfl]
      exact Or.inr ⟨S', T', rfl, rfl, h'⟩
    · have e2' : fX12_readFirst T 1 6 = some (1, T2) := e2
      have e4' : fX12_readNew T2 (nI (5 + p)) = some (0, T') := e4
      rw [e2', zBp_s, zBr_q (show ¬ (1 : Int32) = 0 by decide), zg_1_24, zGd_t, e3, d1, zLt_s, zo_5, e4', zBp_s, zBr_p rfl]
      exact Or.inr ⟨S', T', rfl, rfl, h'⟩
end Plant
