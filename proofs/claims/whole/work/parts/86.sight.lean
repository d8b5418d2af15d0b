/-! lines of a house: a sight -/
section Sight
variable {S0 T0 S T : zSt} {d d' dT : Nat → Int32} {b : Nat → Nat} {L M lo : Nat}
def dSg (d : Nat → Int32) (a o : Nat) : Nat → Int32 := upd (upd d (6 + a) (d (6 + a) ||| ((1 : Int32) <<< (nI o &&& 31)))) (6 + o) (d (6 + o) ||| ((1 : Int32) <<< (nI a &&& 31)))
theorem dSg_un {a o k : Nat} (h1 : k ≠ 6 + a) (h2 : k ≠ 6 + o) : dSg d a o k = d k := by
  unfold dSg
  rw [pk_un h2, pk_un h1]
theorem dSg_wf (hw : WFh d) {a o : Nat} (ha : a < kL d) (ho : o < kL d) (hao : a ≠ o) : WFh (dSg d a o) := by
  have h5 := hw.1.2
  have e0 : kL (dSg d a o) = kL d := by unfold kL; rw [dSg_un (by omega) (by omega)]
  have e1 : kP (dSg d a o) = kP d := kP_eq (dSg_un (by omega) (by omega))
  have e2 : kE (dSg d a o) = kE d := by unfold kE; rw [dSg_un (by omega) (by omega)]
  have e3 : kD (dSg d a o) = kD d := by unfold kD; rw [dSg_un (by omega) (by omega)]
  unfold WFh
  rw [e0, e1, e2, e3, dSg_un (show 0 ≠ 6 + a by omega) (by omega), dSg_un (show 1 ≠ 6 + a by omega) (by omega), dSg_un (show 2 ≠ 6 + a by omega) (by omega), dSg_un (show 3 ≠ 6 + a by omega) (by omega), dSg_un (show 4 ≠ 6 + a by omega) (by omega), dSg_un (show 5 ≠ 6 + a by omega) (by omega)]
  refine ⟨hw.1, hw.2.1, hw.2.2.1, hw.2.2.2.1, hw.2.2.2.2.1, hw.2.2.2.2.2.1, fun l hl => ?_, fun p hp => by rw [dSg_un (by omega) (by omega), dSg_un (by omega) (by omega)]; exact hw.2.2.2.2.2.2.2 p hp⟩
  obtain ⟨x, hx, ex⟩ := hw.2.2.2.2.2.2.1 l hl
  by_cases lo : l = o
  · subst lo
    refine ⟨x ||| 2 ^ a, Nat.or_lt_two_pow hx (Nat.pow_lt_pow_right (by omega) ha), ?_⟩
    unfold dSg
    rw [pk_us, ex, zSh1 (by omega), nI_or]
  · by_cases la : l = a
    · subst la
      refine ⟨x ||| 2 ^ o, Nat.or_lt_two_pow hx (Nat.pow_lt_pow_right (by omega) ho), ?_⟩
      unfold dSg
      rw [pk_un (by omega), pk_us, ex, zSh1 (by omega), nI_or]
    · exact ⟨x, hx, by rw [dSg_un (by omega) (by omega)]; exact ex⟩
theorem L_sight (h : PI (hQd S0 T0 d d) b L M lo S T) (n2 : ¬ S.1 1 5 = 102) (n3 : ¬ S.1 1 5 = 103) : (∃ S' T', fX4_readSight S = some (1, S') ∧ fX12_readSight T = some (1, T') ∧ PI (hQ S0 T0) b L M (lo + 1) S' T') ∨ ∃ S' T', fX4_readSight S = some (0, S') ∧ fX12_readSight T = some (0, T') ∧ FI (hFr S0 T0) S' T' := by
  have hw : WFh d := h.1.2.2.2.2.2.2.2.2.1
  have h5 := hw.1.2
  obtain ⟨S2, T2, e1, e2, h2, -⟩ := P_read hQd_stb h n2 n3
  unfold fX4_readSight fX12_readSight
  rw [e1, e2, zBd_s, zBd_s]
  obtain ⟨⟨-, a1, a2, a3, a4⟩, -⟩ := id h2
  rcases P_here hQd_stb h2 hw.c a3 (by rw [a1]) with ⟨a, ha, k1, k2, k3⟩ | ⟨S', T', k1, k2, k3⟩
  · have h3 := P_told hQd_stb h2 (nI a)
    obtain ⟨S4, T4, e3, e4, h4, e5, fc, -⟩ := P_read hQd_stb h3 (by rw [k3]; decide) (by rw [k3]; decide)
    rw [k1 S4 e3 fc, k2, zBp_s, zBp_s, zBr_q (zneg2 (by omega)), zBr_q (show ¬ (1 : Int32) = 0 by decide), zLt_s, zLt_s, zI_at, if_pos ⟨rfl, rfl⟩, e4, zBd_s]
    obtain ⟨⟨-, b1, b2, b3, b4⟩, hr4, hf4, st4, to4, ht4, hl4⟩ := id h4
    rcases P_here hQd_stb h4 hw.c b3 (by rw [b1]) with ⟨o, ho, q1, q2, q3⟩ | ⟨S', T', q1, q2, q3⟩
    · have h5' := P_told hQd_stb h4 (nI o)
      obtain ⟨x, hx, ex⟩ := hw.2.2.2.2.2.2.1 a (by omega)
      have hx5' : x < 2 ^ 5 := Nat.lt_of_lt_of_le hx (Nat.pow_le_pow_right (by omega) h5)
      have hx5 : x < 32 := by omega
      have told : (zI T4 0 13 (nI o)).1 0 13 = nI o := by rw [zI_at, if_pos ⟨rfl, rfl⟩]
      have t3 : (zI T4 0 13 (nI o)).1 3 = d := by rw [zI_ne (by omega), b1]
      have s6 := ht4.1
      -- the class has read on before it refuses
      have refuse : ∀ S9, fX9_read S4 = some S9 → FC S4 S9 → hFr S0 T0 S9 T4 → ∃ S' T', fX4_readSight_76 S9 (nI st4) = some (0, S') ∧ fX12_readSight_58 (zI T4 0 13 (nI o)) = some (0, T') ∧ FI (hFr S0 T0) S' T' := by
        intro S9 r1 r2 r3
        obtain ⟨S6, T6, g1, g2, g3, g4, pl, g5, g6, g7⟩ := P_failK hQd_stb h5' (by rw [q3]; decide) 3
        have f6 : S6.1 1 9 = 3 ∧ S6.1 1 10 = nI st4 := by
          unfold fX9_fail fX9_failAt at g1
          rw [s6, zLt_s, zLt_s, zBp_s, zBo0, zGd_t] at g1
          have := Option.some.inj g1
          have e : S6 = zI (zI S4 1 9 3) 1 10 (nI st4) := (congrArg Prod.snd this).symm
          rw [e]
          exact ⟨by rw [zI_at, if_neg (by omega), zI_at, if_pos ⟨rfl, rfl⟩], by rw [zI_at, if_pos ⟨rfl, rfl⟩]⟩
        refine ⟨zI (zI S9 1 9 3) 1 10 (nI st4), T6, ?_, ?_, ⟨fun c c1 c2 => ⟨by rw [zI_ne c1, zI_ne c1]; exact (r3.1 c c1 c2).1, (r3.1 c c1 c2).2⟩, g3.1.2⟩, ?_, pl, g5, ?_, g7⟩
        · unfold fX4_readSight_76 fX9_failAt
          rw [zLt_s, zLt_s, zBp_s, zBo0, zGd_t]
        · unfold fX12_readSight_58
          rw [g2, zBp_s, zBo0, zGd_t]
        · rw [zI_at, if_neg (by omega), zI_at, if_pos ⟨rfl, rfl⟩, ← f6.1]; exact g4
        · rw [zI_at, if_pos ⟨rfl, rfl⟩, ← f6.2]; exact g6
      by_cases same : a = o
      · obtain ⟨S9, T9, r1, -, hp9, -, r2, -⟩ := P_read hQd_stb h5' (by rw [q3]; decide) (by rw [q3]; decide)
        have fr9 : hFr S0 T0 S9 T4 := ⟨hp9.1.1.1, h4.1.1.2⟩
        obtain ⟨S', T', w1, w2, w3⟩ := refuse S9 r1 r2 fr9
        rw [q1 S9 r1 r2, q2, zBp_s, zBp_s, zBr_q (zneg2 (by omega)), zBr_q (show ¬ (1 : Int32) = 0 by decide), zBr_p (by rw [same]), told, zBr_p (by rw [same]), s6, w1, w2]
        exact Or.inr ⟨S', T', rfl, rfl, w3⟩
      · rw [q2, zBp_s, zBr_q (show ¬ (1 : Int32) = 0 by decide), told, zBr_q (fun z => same ((nI_eq (by omega) (by omega)).mp z).symm), zo_6, zIx_nI (show 6 + a < 24 by omega) (by omega), zGd_t, nI_clamp (show 6 + a < 2 ^ 31 by omega), t3, ex, m_hasB, zBd_s, bI_if, bI_br, zGd_t, zGd_t, zLt_s]
        by_cases bit : aBit (nI x) o = true
        · obtain ⟨S9, T9, r1, -, hp9, -, r2, -⟩ := P_read hQd_stb h5' (by rw [q3]; decide) (by rw [q3]; decide)
          have fr9 : hFr S0 T0 S9 T4 := ⟨hp9.1.1.1, h4.1.1.2⟩
          have s232 : S9.1 (230 + 2) a = nI x := by
            rw [(r2.1 (230 + 2) (by omega)).1, ← ex]
            exact b4.2.2.1 a (by omega)
          obtain ⟨S', T', w1, w2, w3⟩ := refuse S9 r1 r2 fr9
          rw [q1 S9 r1 r2, zBp_s, zBr_q (zneg2 (by omega)), zBr_q (fun z => same ((nI_eq (by omega) (by omega)).mp z)), zIx_nI (show a < 5 by omega) (by omega), zGd_t, nI_clamp (by omega), s232, c_hasB hx5 (by omega), zBd_s, bI_if, bI_br, if_pos bit, if_pos bit, s6, w1, w2]
          exact Or.inr ⟨S', T', rfl, rfl, w3⟩
        · obtain ⟨y, hy, ey⟩ := hw.2.2.2.2.2.2.1 o (by omega)
          -- the reference's draft is told ahead of the next token
          have tt : zI (zI (zI T4 0 13 (nI o)) 3 (6 + a) (nI x ||| ((1 : Int32) <<< (nI o &&& 31)))) 3 (6 + o) (nI y ||| ((1 : Int32) <<< (nI a &&& 31))) = zPut (zI T4 0 13 (nI o)) 3 (dSg d a o) := by
            rw [zI_put (zI T4 0 13 (nI o)) 3 (6 + a), zI_zPut, t3]
            unfold dSg
            rw [ex, ey]
          have v1 : (zI (zI T4 0 13 (nI o)) 3 (6 + a) (nI x ||| ((1 : Int32) <<< (nI o &&& 31)))).1 0 13 = nI o := by rw [zI_ne (by omega)]; exact told
          have v2 : (zI (zI T4 0 13 (nI o)) 3 (6 + a) (nI x ||| ((1 : Int32) <<< (nI o &&& 31)))).1 3 (6 + o) = nI y := by rw [zI_at, if_neg (by omega), t3, ey]
          have hm : PI (hQe S0 T0 (dSg d a o) d d) b L M (lo + 1 + 1) S4 (zPut (zI T4 0 13 (nI o)) 3 (dSg d a o)) := by
            obtain ⟨⟨fr, -⟩, -⟩ := id h5'
            refine PI_upd h5' rfl rfl rfl rfl (fun j _ _ => by rw [zPut_ne (by omega)]) rfl (zPut_ne (by omega)) ⟨⟨fr.1, fun c c0 c3 c11 => by rw [zPut_ne c3]; exact fr.2.1 c c0 c3 c11, fr.2.2.1, fun j hj => by rw [zPut_ne (by omega)]; exact fr.2.2.2 j hj⟩, zPut_eq _ _ _, b2, ?_, ?_⟩
            · exact b3
            · have : dRs d S4 T4 := b4
              unfold dRs at this ⊢
              rw [zPut_ne (show (11 : Nat) ≠ 3 by omega), zI_ne (show (11 : Nat) ≠ 0 by omega)]
              exact this
          obtain ⟨S9, T9, r1, r3, h9, -, r2, -⟩ := P_read hQe_stb hm (by rw [q3]; decide) (by rw [q3]; decide)
          have s232 : ∀ l, l < 5 → S9.1 232 l = d (6 + l) := fun l hl => by rw [(r2.1 232 (by omega)).1]; exact b4.2.2.1 l hl
          rw [q1 S9 r1 r2, zBp_s, zBr_q (zneg2 (by omega)), zBr_q (fun z => same ((nI_eq (by omega) (by omega)).mp z)), zIx_nI (show a < 5 by omega) (by omega), zGd_t, nI_clamp (by omega), show S9.1 (230 + 2) a = nI x by rw [← ex]; exact s232 a (by omega), c_hasB hx5 (by omega), zBd_s, bI_if, bI_br, if_neg bit, if_neg bit, v1, zo_6, zIx_nI (show 6 + o < 24 by omega) (by omega), zGd_t, zGd_t, zLt_s, nI_clamp (by omega), v2, tt, r3, zBd_s]
          have cA : fX3_addSight S9 230 (nI a) (nI o) = some (zI (zI S9 232 a (d (6 + a) ||| ((1 : Int32) <<< (nI o &&& 31)))) 232 o (d (6 + o) ||| ((1 : Int32) <<< (nI a &&& 31)))) := by
            unfold fX3_addSight
            rw [zIx_nI (show a < 5 by omega) (by omega), zGd_t, zGd_t, nI_clamp (by omega), show S9.1 (230 + 2) a = d (6 + a) from s232 a (by omega), zLt_s, zIx_nI (show o < 5 by omega) (by omega), zGd_t, zGd_t, nI_clamp (by omega), show (zI S9 (230 + 2) a (d (6 + a) ||| ((1 : Int32) <<< (nI o &&& 31)))).1 (230 + 2) o = d (6 + o) by rw [zI_at, if_neg (by omega)]; exact s232 o (by omega), zLt_s]
          rw [cA, zBd_s]
          obtain ⟨⟨fr9, g1, g2, g3, g4⟩, -⟩ := id h9
          have n1 : ∀ c, c ≠ 232 → (zI (zI S9 232 a (d (6 + a) ||| ((1 : Int32) <<< (nI o &&& 31)))) 232 o (d (6 + o) ||| ((1 : Int32) <<< (nI a &&& 31)))).1 c = S9.1 c := fun c hc => by rw [zI_ne hc, zI_ne hc]
          have eK : ∀ k, k < 6 → dSg d a o k = d k := fun k hk => dSg_un (by omega) (by omega)
          have eP : kP (dSg d a o) = kP d := kP_eq (eK 1 (by omega))
          refine Or.inl ⟨_, T9, rfl, rfl, PI_w (fun z => z) (by omega) (PI_upd h9 (n1 1 (by omega)) rfl (n1 2 (by omega)) rfl (fun j _ _ => rfl) rfl rfl ⟨dSg d a o, ⟨fun c c1 c2 => ⟨by rw [n1 c (by omega)]; exact (fr9.1 c c1 c2).1, (fr9.1 c c1 c2).2⟩, fr9.2⟩, g1, fun k hk => by rw [n1 231 (by omega), eK k (by omega)]; exact g2 k hk, ?_, ?_⟩)⟩
          · have r : rNm S9.1 S9.2 230 (T9.2 8) (dSg d a o) := by
              obtain ⟨W, y1, y2, y3, y4, y5, y6⟩ := g3
              have k0 : kL (dSg d a o) = kL d := by unfold kL; rw [eK 0 (by omega)]
              have k2 : kE (dSg d a o) = kE d := by unfold kE; rw [eK 2 (by omega)]
              have k3 : kD (dSg d a o) = kD d := by unfold kD; rw [eK 3 (by omega)]
              refine ⟨W, y1, by rw [k0, eP, k2, k3]; exact y2, fun q hq => ?_, fun s j hs hj => ?_, y5, by rw [eP]; exact y6⟩
              · obtain ⟨s, j, z1, z2, z3, z4, z5⟩ := y3 q hq
                exact ⟨s, j, z1, z2, z3, by rw [eK s (by omega)]; exact z4, z5⟩
              · rw [eK s (by omega)] at hj
                exact y4 s j hs hj
            unfold rNm at r ⊢
            rw [n1 230 (by omega), n1 (230 + 8) (by omega), n1 (230 + 9) (by omega)]
            exact r
          · obtain ⟨x1, x2, x3, x4, x5, x6, x7, x8⟩ := g4
            refine ⟨by rw [n1 230 (by omega), eK 4 (by omega)]; exact x1, by rw [n1 230 (by omega), eK 5 (by omega)]; exact x2, fun l hl => ?_, fun p hp => ?_, dSg_wf hw ha ho same, by rw [dSg_un (by omega) (by omega), eP]; exact x6, by rw [n1 229 (by omega)]; exact x7, by rw [n1 229 (by omega)]; exact x8⟩
            · unfold dSg
              by_cases lo : l = o
              · subst lo
                rw [zI_at, if_pos ⟨rfl, rfl⟩, pk_us]
              · by_cases la : l = a
                · subst la
                  rw [zI_at, if_neg (by omega), zI_at, if_pos ⟨rfl, rfl⟩, pk_un (by omega), pk_us]
                · rw [zI_at, if_neg (by omega), zI_at, if_neg (by omega), pk_un (by omega), pk_un (by omega)]
                  exact x3 l hl
            · rw [eP] at hp
              have h6 := hw.2.1.2
              have eF : aFern (dSg d a o) p = aFern d p := by unfold aFern; rw [dSg_un (by omega) (by omega)]
              rw [eF, n1 233 (by omega), n1 234 (by omega), n1 235 (by omega), dSg_un (by omega) (by omega), dSg_un (by omega) (by omega)]
              exact x4 p hp
    · rw [q1, q2, zBp_s, zBp_s, zBr_p rfl, zBr_p rfl]
      exact Or.inr ⟨S', T', rfl, rfl, FI_w (fun z => z.1) q3⟩
  · rw [k1, k2, zBp_s, zBp_s, zBr_p rfl, zBr_p rfl]
    exact Or.inr ⟨S', T', rfl, rfl, FI_w (fun z => z.1) k3⟩
end Sight
