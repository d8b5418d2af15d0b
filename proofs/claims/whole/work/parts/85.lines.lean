/-! lines of a house: a plain name, dusty and proof -/
def hQe (S0 T0 : zSt) (dT d d' : Nat → Int32) (S T : zSt) : Prop := hFr S0 T0 S T ∧ T.1 3 = dT ∧ (∀ k, k < 4 → S.1 231 k = d' k) ∧ rNm S.1 S.2 230 (T.2 8) d' ∧ dRs d S T
section Lines
variable {S0 T0 S T : zSt} {d d' dT : Nat → Int32} {b : Nat → Nat} {L M lo : Nat}
theorem hQe_stb : stb (hQe S0 T0 dT d d') := fun S S' T T' h1 h2 h3 h => by
  obtain ⟨a0, a1, a2, a3, a4⟩ := h
  refine ⟨hFr_stb S S' T T' h1 h2 h3 a0, by rw [(h2 3 (by omega)).1]; exact a1, fun k hk => by rw [(h1 231 (by omega)).1]; exact a2 k hk, ?_, dRs_stb h1 h2 a4⟩
  rw [(h2 8 (by omega)).2]
  exact rNm_cong (fun a q1 q2 => (h1 a (by omega)).1) (fun a q1 q2 => (h1 a (by omega)).2) a3
theorem WFh_up {m : Nat → Int32} (hw : WFh m) {s c : Nat} (hs : s < 4) (hs1 : s ≠ 1) (hc : (m s).toNatClampNeg = c) (hm : c < mMost s) : WFh (upd m s (nI (c + 1))) ∧ kP (upd m s (nI (c + 1))) = kP m ∧ kL m ≤ kL (upd m s (nI (c + 1))) := by
  have hc' := WFc_upd hw.c hs (show c + 1 ≤ mMost s by omega)
  have eP : kP (upd m s (nI (c + 1))) = kP m := kP_eq (pk_un (by omega))
  have m6 : mMost s ≤ 6 := by
    rcases (show s = 0 ∨ s = 1 ∨ s = 2 ∨ s = 3 by omega) with rfl | rfl | rfl | rfl <;> decide
  have eL : kL m ≤ kL (upd m s (nI (c + 1))) := by
    by_cases s0 : s = 0
    · subst s0
      have e1 : kL m = c := hc
      have e2 : kL (upd m 0 (nI (c + 1))) = c + 1 := upd_cnt (by omega)
      omega
    · unfold kL
      rw [pk_un (show (0 : Nat) ≠ s by omega)]
      exact Nat.le_refl _
  refine ⟨⟨hc'.1, hc'.2.1, hc'.2.2.1, hc'.2.2.2.1, ?_, ?_, fun l hl => ?_, fun p hp => ?_⟩, eP, eL⟩
  · rw [pk_un (by omega)]; exact hw.2.2.2.2.1
  · rw [pk_un (by omega)]; exact hw.2.2.2.2.2.1
  · obtain ⟨x, hx, ex⟩ := hw.2.2.2.2.2.2.1 l hl
    exact ⟨x, Nat.lt_of_lt_of_le hx (Nat.pow_le_pow_right (by omega) eL), by rw [pk_un (by omega)]; exact ex⟩
  · rw [eP] at hp
    obtain ⟨w1, w2⟩ := hw.2.2.2.2.2.2.2 p hp
    rw [pk_un (by omega), pk_un (by omega)]
    exact ⟨zIn_mono w1 eL, w2⟩
theorem L_plain (h : PI (hQd S0 T0 d d) b L M lo S T) (n2 : ¬ S.1 1 5 = 102) (n3 : ¬ S.1 1 5 = 103) {s : Nat} (hs : s < 4) (hs1 : s ≠ 1) : (∃ S' T', fX4_readNamed S (nI s) = some (1, S') ∧ fX12_readPlain T (nI s) (nI (mMost s)) (nI (nB s)) = some (1, T') ∧ PI (hQ S0 T0) b L M (lo + 1) S' T') ∨ ∃ S' T', fX4_readNamed S (nI s) = some (0, S') ∧ fX12_readPlain T (nI s) (nI (mMost s)) (nI (nB s)) = some (0, T') ∧ FI (hFr S0 T0) S' T' := by
  obtain ⟨c, hc⟩ : ∃ c, (d s).toNatClampNeg = c := ⟨_, rfl⟩
  have hw : WFh d := h.1.2.2.2.2.2.2.2.2.1
  have hms : d s = nI c := by rw [(WFh_cnt hw.c hs).1, hc]
  have c6 := (WFh_cnt hw.c hs).2.2
  unfold fX12_readPlain
  rcases N_name h n2 n3 hs hc with ⟨S', T2, T', e1, e2, e3, e4, e5, h'⟩ | ⟨S', T', e1, e2, h'⟩
  · obtain ⟨⟨fr, a1, a2, a3, a4⟩, -⟩ := id h'
    obtain ⟨w1, w2, w3⟩ := WFh_up hw hs hs1 hc e5
    rw [e1, e2, zBp_s, zBr_q (show ¬ (1 : Int32) = 0 by decide), zIx_nI (show s < 24 by omega) (by omega), zGd_t, nI_clamp (by omega), e3, hms, nI_add, e4, zBp_s, zBr_q (show ¬ (1 : Int32) = 0 by decide), zGd_t, zGd_t, a1, hms, nI_1, zLt_s]
    refine Or.inl ⟨S', _, rfl, rfl, ?_⟩
    have t3 : (zI T' 3 s (nI (c + 1))).1 3 = upd d s (nI (c + 1)) := by rw [zI_eq, a1]
    refine PI_upd h' rfl rfl rfl rfl (fun j _ _ => by rw [zI_ne (by omega)]) rfl (zI_ne (by omega)) ⟨upd d s (nI (c + 1)), ⟨fr.1, fun a q0 q3 q11 => by rw [zI_ne q3]; exact fr.2.1 a q0 q3 q11, fr.2.2.1, fun j hj => by rw [zI_ne (by omega)]; exact fr.2.2.2 j hj⟩, t3, a2, a3, ?_⟩
    obtain ⟨f1, f2, f3, f4, f5, f6, f7, f8⟩ := a4
    refine ⟨by rw [pk_un (by omega)]; exact f1, by rw [pk_un (by omega)]; exact f2, fun l hl => by rw [pk_un (by omega)]; exact f3 l hl, fun p hp => ?_, w1, by rw [pk_un (by omega), w2]; exact f6, by rw [zI_ne (by omega)]; exact f7, by rw [zI_ne (by omega)]; exact f8⟩
    rw [w2] at hp
    have eF : aFern (upd d s (nI (c + 1))) p = aFern d p := by unfold aFern; rw [pk_un (by omega)]
    rw [eF, pk_un (by omega), pk_un (by omega)]
    exact f4 p hp
  · rw [e1]
    rcases e2 with e2 | ⟨T2, e2, e3, e4⟩
    · rw [e2, zBp_s, zBr_p rfl]
      exact Or.inr ⟨S', T', rfl, rfl, h'⟩
    · rw [e2, zBp_s, zBr_q (show ¬ (1 : Int32) = 0 by decide), zIx_nI (show s < 24 by omega) (by omega), zGd_t, nI_clamp (by omega), e3, hms, nI_add, e4, zBp_s, zBr_p rfl]
      exact Or.inr ⟨S', T', rfl, rfl, h'⟩
theorem FI_put (h : FI (hFr S0 T0) S T) {a j : Nat} (ha : 229 ≤ a) (ha2 : a < 240) (v : Int32) : FI (hFr S0 T0) (zI S a j v) T := by
  obtain ⟨fr, f1, pl, f2, f3, f4⟩ := h
  exact ⟨⟨fun c c1 c2 => ⟨by rw [zI_ne (by omega)]; exact (fr.1 c c1 c2).1, (fr.1 c c1 c2).2⟩, fr.2.1, fr.2.2.1, fr.2.2.2⟩, by rw [zI_ne (by omega)]; exact f1, pl, f2, by rw [zI_ne (by omega)]; exact f3, f4⟩
/-- what 'dusty' and 'proof' set -/
theorem WFh_set {m : Nat → Int32} (hw : WFh m) {k v : Nat} (hk : (k = 4 ∧ 1 ≤ v ∧ v ≤ 60) ∨ (k = 5 ∧ 1 ≤ v ∧ v ≤ 6)) : WFh (upd m k (nI v)) := by
  have e0 : kL (upd m k (nI v)) = kL m := by unfold kL; rw [pk_un (by omega)]
  have e1 : kP (upd m k (nI v)) = kP m := kP_eq (pk_un (by omega))
  have e2 : kE (upd m k (nI v)) = kE m := by unfold kE; rw [pk_un (by omega)]
  have e3 : kD (upd m k (nI v)) = kD m := by unfold kD; rw [pk_un (by omega)]
  unfold WFh
  rw [e0, e1, e2, e3, pk_un (show 0 ≠ k by omega), pk_un (show 1 ≠ k by omega), pk_un (show 2 ≠ k by omega), pk_un (show 3 ≠ k by omega)]
  refine ⟨hw.1, hw.2.1, hw.2.2.1, hw.2.2.2.1, ?_, ?_, fun l hl => by rw [pk_un (by omega)]; exact hw.2.2.2.2.2.2.1 l hl, fun p hp => by rw [pk_un (by omega), pk_un (by omega)]; exact hw.2.2.2.2.2.2.2 p hp⟩
  · rcases hk with ⟨rfl, h1, h2⟩ | ⟨rfl, h1, h2⟩
    · exact ⟨v, h2, h1, pk_us⟩
    · rw [pk_un (by omega)]; exact hw.2.2.2.2.1
  · rcases hk with ⟨rfl, h1, h2⟩ | ⟨rfl, h1, h2⟩
    · rw [pk_un (by omega)]; exact hw.2.2.2.2.2.1
    · exact ⟨v, h2, h1, pk_us⟩
/-- the two that may be told once: k of them, told in cell j of the class's reader, kept in cell i of its draft -/
theorem once_core (h : PI (hQd S0 T0 d d) b L M lo S T) (n2 : ¬ S.1 1 5 = 102) (n3 : ¬ S.1 1 5 = 103) {k most : Nat} (hk : (k = 0 ∧ most = 60) ∨ (k = 1 ∧ most = 6)) : (∃ S' T', (zBr ((S.1 229 (2 + k)) = 0) (zGd (zBo (1 : Int32)) (zLt (zI S 229 (2 + k) (1 : Int32)) (fun S2 => zBd (fX9_read S2) (fun S5 => zBp (fX9_takeNumber S5 (1 : Int32) (nI most)) (fun r8 S7 => zLt (zI S7 230 (10 + k) r8) (fun S9 => zBr ((S9.1 230 (10 + k)) = (-1 : Int32)) (some ((0 : Int32), S9)) (some ((1 : Int32), S9)))))))) (zBp (fX9_fail S (3 : Int32)) (fun r13 S12 => zGd (zBo r13) (some (r13, S12))))) = some (1, S') ∧ fX12_readOnce T (nI k) (nI (4 + k)) (nI most) = some (1, T') ∧ PI (hQ S0 T0) b L M (lo + 1) S' T') ∨ ∃ S' T', (zBr ((S.1 229 (2 + k)) = 0) (zGd (zBo (1 : Int32)) (zLt (zI S 229 (2 + k) (1 : Int32)) (fun S2 => zBd (fX9_read S2) (fun S5 => zBp (fX9_takeNumber S5 (1 : Int32) (nI most)) (fun r8 S7 => zLt (zI S7 230 (10 + k) r8) (fun S9 => zBr ((S9.1 230 (10 + k)) = (-1 : Int32)) (some ((0 : Int32), S9)) (some ((1 : Int32), S9)))))))) (zBp (fX9_fail S (3 : Int32)) (fun r13 S12 => zGd (zBo r13) (some (r13, S12))))) = some (0, S') ∧ fX12_readOnce T (nI k) (nI (4 + k)) (nI most) = some (0, T') ∧ FI (hFr S0 T0) S' T' := by
  obtain ⟨⟨fr, m1, m2, m3, m4⟩, -⟩ := id h
  obtain ⟨f1, f2, f3, f4, f5, f6, f7, f8⟩ := id m4
  have on : S.1 229 (2 + k) = T.1 11 k ∧ (T.1 11 k = 0 ∨ T.1 11 k = 1) := by
    rcases hk with ⟨rfl, -⟩ | ⟨rfl, -⟩
    · exact f7
    · exact f8
  unfold fX12_readOnce
  rw [on.1, zIx_nI (show k < 2 by omega) (by omega), zGd_t, zGd_t, nI_clamp (by omega)]
  rcases on.2 with o0 | o1
  · rw [o0, zBr_p rfl, zBr_p rfl, zBo1, zGd_t, zLt_s, show vp_nar FieldType.boolean (1 : Int32) = 1 from rfl, zLt_s]
    have q2 : hQd S0 T0 d d (zI S 229 (2 + k) 1) (zI T 11 k 1) := by
      refine ⟨⟨fun c c1 c2 => ⟨by rw [zI_ne (by omega)]; exact (fr.1 c c1 c2).1, (fr.1 c c1 c2).2⟩, fun c c0 c3 c11 => by rw [zI_ne c11]; exact fr.2.1 c c0 c3 c11, fr.2.2.1, fun j hj => by rw [zI_ne (by omega)]; exact fr.2.2.2 j hj⟩, by rw [zI_ne (by omega)]; exact m1, fun x hx => by rw [zI_ne (by omega)]; exact m2 x hx, rNm_cong (fun a q1 q2 => zI_ne (by omega)) (fun a _ _ => rfl) m3, ?_⟩
      refine ⟨by rw [zI_ne (by omega)]; exact f1, by rw [zI_ne (by omega)]; exact f2, fun l hl => by rw [zI_ne (by omega)]; exact f3 l hl, fun p hp => by rw [zI_ne (by omega), zI_ne (by omega), zI_ne (by omega)]; exact f4 p hp, f5, f6, ?_, ?_⟩
      · rcases hk with ⟨rfl, -⟩ | ⟨rfl, -⟩
        · rw [zI_at, if_pos ⟨rfl, rfl⟩, zI_at, if_pos ⟨rfl, rfl⟩]; exact ⟨rfl, Or.inr rfl⟩
        · rw [zI_at, if_neg (by omega), zI_at, if_neg (by omega)]; exact f7
      · rcases hk with ⟨rfl, -⟩ | ⟨rfl, -⟩
        · rw [zI_at, if_neg (by omega), zI_at, if_neg (by omega)]; exact f8
        · rw [zI_at, if_pos ⟨rfl, rfl⟩, zI_at, if_pos ⟨rfl, rfl⟩]; exact ⟨rfl, Or.inr rfl⟩
    have h2 : PI (hQd S0 T0 d d) b L M lo (zI S 229 (2 + k) 1) (zI T 11 k 1) := PI_upd h (zI_ne (by omega)) rfl (zI_ne (by omega)) rfl (fun j _ _ => by rw [zI_ne (by omega)]) rfl (zI_ne (by omega)) q2
    have tok : (zI S 229 (2 + k) 1).1 1 5 = S.1 1 5 := by rw [zI_ne (by omega)]
    obtain ⟨S5, T5, e1, e2, h5, -⟩ := P_read hQd_stb h2 (by rw [tok]; exact n2) (by rw [tok]; exact n3)
    rw [e1, e2, zBd_s, zBd_s]
    rcases P_num hQd_stb h5 (a := 1) (d := most) (by omega) (by omega) with ⟨v, S7, T7, g1, g2, v1, v2, g3, h7⟩ | ⟨S7, T7, g1, g2, h7⟩
    · obtain ⟨⟨fr7, a1, a2, a3, a4⟩, -⟩ := id h7
      obtain ⟨x1, x2, x3, x4, x5, x6, x7, x8⟩ := id a4
      unfold fX12_put
      rw [show fX9_takeNumber S5 1 (nI most) = some (nI v, S7) from g1, show fX12_readNumber T5 1 (nI most) = some (1, T7) from g2, zBp_s, zBp_s, zLt_s, zI_at, if_pos ⟨rfl, rfl⟩, zBr_q (zneg2 (by omega)), zBr_q (show ¬ (1 : Int32) = 0 by decide), zIx_nI (show 4 + k < 24 by omega) (by omega), zGd_t, nI_clamp (by omega), g3, zLt_s, zBo1, zGd_t, zBp_s, zBo1, zGd_t]
      refine Or.inl ⟨_, _, rfl, rfl, ?_⟩
      have t3 : (zI T7 3 (4 + k) (nI v)).1 3 = upd d (4 + k) (nI v) := by rw [zI_eq, a1]
      have eP : kP (upd d (4 + k) (nI v)) = kP d := kP_eq (pk_un (by omega))
      have eK : ∀ x, x < 4 → upd d (4 + k) (nI v) x = d x := fun x hx => pk_un (by omega)
      refine PI_w (fun z => z) (by omega) (PI_upd h7 (zI_ne (by omega)) rfl (zI_ne (by omega)) rfl (fun j _ _ => by rw [zI_ne (by omega)]) rfl (zI_ne (by omega)) ⟨upd d (4 + k) (nI v), ⟨fun c c1 c2 => ⟨by rw [zI_ne (by omega)]; exact (fr7.1 c c1 c2).1, (fr7.1 c c1 c2).2⟩, fun c c0 c3 c11 => by rw [zI_ne c3]; exact fr7.2.1 c c0 c3 c11, fr7.2.2.1, fun j hj => by rw [zI_ne (by omega)]; exact fr7.2.2.2 j hj⟩, t3, fun x hx => by rw [zI_ne (by omega), eK x hx]; exact a2 x hx, ?_, ?_⟩)
      · have r1 : rNm S7.1 S7.2 230 (T7.2 8) (upd d (4 + k) (nI v)) := by
          obtain ⟨W, y1, y2, y3, y4, y5, y6⟩ := a3
          have k0 : kL (upd d (4 + k) (nI v)) = kL d := by unfold kL; rw [eK 0 (by omega)]
          have k2 : kE (upd d (4 + k) (nI v)) = kE d := by unfold kE; rw [eK 2 (by omega)]
          have k3 : kD (upd d (4 + k) (nI v)) = kD d := by unfold kD; rw [eK 3 (by omega)]
          refine ⟨W, y1, by rw [k0, eP, k2, k3]; exact y2, fun q hq => ?_, fun s j hs hj => ?_, y5, by rw [eP]; exact y6⟩
          · obtain ⟨s, j, z1, z2, z3, z4, z5⟩ := y3 q hq
            exact ⟨s, j, z1, z2, z3, by rw [eK s z1]; exact z4, z5⟩
          · rw [eK s hs] at hj
            exact y4 s j hs hj
        obtain ⟨W, y1, y2⟩ := r1
        refine ⟨W, ?_, ?_⟩
        · rw [zI_at, if_neg (by omega)]; exact y1
        · rw [zI_ne (show (230 + 8 : Nat) ≠ 230 by omega), zI_ne (show (230 + 9 : Nat) ≠ 230 by omega)]
          exact y2
      · refine ⟨?_, ?_, fun l hl => by rw [zI_ne (by omega), pk_un (by omega)]; exact x3 l hl, fun p hp => ?_, WFh_set x5 (by omega), by rw [pk_un (by omega), eP]; exact x6, by rw [zI_ne (by omega), zI_ne (by omega)]; exact x7, by rw [zI_ne (by omega), zI_ne (by omega)]; exact x8⟩
        · rcases hk with ⟨rfl, -⟩ | ⟨rfl, -⟩
          · rw [zI_at, if_pos ⟨rfl, rfl⟩, pk_us]
          · rw [zI_at, if_neg (by omega), pk_un (by omega)]; exact x1
        · rcases hk with ⟨rfl, -⟩ | ⟨rfl, -⟩
          · rw [zI_at, if_neg (by omega), pk_un (by omega)]; exact x2
          · rw [zI_at, if_pos ⟨rfl, rfl⟩, pk_us]
        · rw [eP] at hp
          have eF : aFern (upd d (4 + k) (nI v)) p = aFern d p := by unfold aFern; rw [pk_un (by omega)]
          have h6 := x5.2.1.2
          rw [eF, zI_ne (by omega), zI_ne (by omega), zI_ne (by omega), pk_un (by omega), pk_un (by omega)]
          exact x4 p hp
    · unfold fX12_put
      rw [show fX9_takeNumber S5 1 (nI most) = some (-1, S7) from g1, show fX12_readNumber T5 1 (nI most) = some (0, T7) from g2, zBp_s, zBp_s, zLt_s, zI_at, if_pos ⟨rfl, rfl⟩, zBr_p rfl, zBr_p rfl, zBo0, zGd_t, zBp_s, zBo0, zGd_t]
      exact Or.inr ⟨_, _, rfl, rfl, FI_put (FI_w (fun z => z.1) h7) (by omega) (by omega) _⟩
  · obtain ⟨S6, T6, g1, g2, g3⟩ := P_failK hQd_stb h n3 3
    rw [o1, zBr_q (show ¬ (1 : Int32) = 0 by decide), zBr_q (show ¬ (1 : Int32) = 0 by decide), g1, g2, zBp_s, zBp_s, zBo0, zGd_t, zGd_t]
    exact Or.inr ⟨S6, T6, rfl, rfl, FI_w (fun z => z.1) g3⟩
end Lines
