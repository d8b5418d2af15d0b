/-! sentence: pieces joined -/
def sOut (S0 T0 : zSt) (b : Nat → Nat) (L M nL nE p o d : Nat) (S T : zSt) (x y : Option (Int32 × zSt)) : Prop := (∃ S' T' p' o', x = some (1, S') ∧ y = some (1, T') ∧ PI (sQ S0 T0 p' o' d) b L M 0 S' T' ∧ sNw nL nE p p' S T S' T' ∧ T'.1 0 44 = nI (p' - 1) ∧ o < o' ∧ o' ≤ 20 ∧ p' + 2 * o + 1 ≤ p + 2 * o') ∨ ∃ S' T', x = some (0, S') ∧ y = some (0, T') ∧ FI (sFr S0 T0) S' T'
def cBody (key : Int32) (F : zSt → Option (Int32 × zSt)) (t : zSt × Int32) : Option ((zSt × Int32) ⊕ (Int32 × zSt)) :=
  match t with
  | (S, v4) => zBr ((20 : Int32) ≤ v4) (zXr (some ((1 : Int32), S))) (zBr ((S.1 1 5) = key) (zBd (fX9_read S) (fun S10 => zBp (F S10) (fun r13 S12 => zBr (r13 = 0) (zXr (some ((0 : Int32), S12))) (zBp (fX8_add S12 250 key (0 : Int32) (0 : Int32)) (fun r17 S16 => zLt (v4 + (1 : Int32)) (fun x18 => some (.inl (S16, x18)))))))) (zXr (some ((1 : Int32), S))))
def mBody (w c : Int32) (G : zSt → Option (Int32 × zSt)) (t : zSt × Int32) : Option ((zSt × Int32) ⊕ (Int32 × zSt)) :=
  match t with
  | (S, v1) => zBd (fX12_isWord S w) (fun r7 => zBr (r7 = 0) (zXr (zLt (zI S 0 44 v1) (fun S10 => some ((1 : Int32), S10)))) (zBd (fX12_go S) (fun S12 => zBp (G S12) (fun r15 S14 => zBr (r15 = 0) (zXr (some ((0 : Int32), S14))) (zBp (fX12_saysOne S14 c v1 (S14.1 0 44) (0 : Int32)) (fun r19 S18 => some (.inl (S18, r19))))))))
section Join
variable {S0 T0 S T : zSt} {b : Nat → Nat} {L M nL nE p o d : Nat}
theorem sOld_F {S S' T T' : zSt} (h : FC S S') (h' : FM T T') (p : Nat) : sOld p S T S' T' := ⟨fun j _ => ⟨by rw [(h.1 251 (by omega)).1], by rw [(h.1 252 (by omega)).1], by rw [(h.1 253 (by omega)).1]⟩, fun j _ => by rw [(h'.1 18 (by omega)).1]⟩
theorem s_join (z : Bool) {F G : zSt → Option (Int32 × zSt)} (hone : ∀ S T p o, o ≤ 20 → p ≤ 2 * o → PI (sQ S0 T0 p o d) b L M 0 S T → sOut S0 T0 b L M nL nE p o d S T (F S) (G T)) (ho : o ≤ 20) (hp : p ≤ 2 * o) (h : PI (sQ S0 T0 p o d) b L M 0 S T) : sOut S0 T0 b L M nL nE p o d S T (zBp (F S) (fun r3 S2 => zBr (r3 = 0) (some ((0 : Int32), S2)) (zLp (cBody (if z = true then 13 else 12) F) 2000 (S2, (0 : Int32))))) (zBp (G T) (fun r3 S2 => zBr (r3 = 0) (some ((0 : Int32), S2)) (zLt (S2.1 0 44) (fun x5 => zLp (mBody (if z = true then 12 else 11) (if z = true then 2 else 3) G) 2000 (S2, x5))))) := by
  rcases hone S T p o ho hp h with ⟨S1, T1, p1, o1, e1, e2, h1, n1, t44, lt, o20, ar⟩ | ⟨S1, T1, e1, e2, h1⟩
  · rw [e1, e2, zBp_s, zBp_s, zBr_q (show ¬ (1 : Int32) = 0 by decide), zBr_q (show ¬ (1 : Int32) = 0 by decide), t44, zLt_s]
    have key := zLp_two (f := cBody (if z = true then 13 else 12) F) (g := mBody (if z = true then 12 else 11) (if z = true then 2 else 3) G) (fun i s t => ∃ S' T' p' o', s = (S', nI i) ∧ t = (T', nI (p' - 1)) ∧ PI (sQ S0 T0 p' o' d) b L M 0 S' T' ∧ sNw nL nE p p' S T S' T' ∧ o + i + 1 ≤ o' ∧ o' ≤ 20 ∧ p' + 2 * o + 1 ≤ p + 2 * o') (fun x y => sOut S0 T0 b L M nL nE p o d S T (some x) (some y)) 20 (fun i s t hi hI => ?_) 2000 2000 0 (S1, 0) (T1, nI (p1 - 1)) (by omega) (by omega) (by omega) ⟨S1, T1, p1, o1, rfl, rfl, h1, n1, by omega, o20, ar⟩
    · obtain ⟨x, y, k1, k2, k3⟩ := key
      rw [k1, k2]
      exact k3
    · obtain ⟨S', T', p', o', rfl, rfl, hq, ⟨w1, w2, w3, w4, w5⟩, b1, b2, b3⟩ := hI
      obtain ⟨-, -, -, st, to, ht, -⟩ := id hq
      unfold cBody mBody
      dsimp only
      have wd : fX12_isWord T' (if z = true then 12 else 11) = some (bI (decide (S'.1 1 5 = if z = true then 13 else 12))) := by
        cases z
        · exact tk_word (k := 11) ht (by omega)
        · exact tk_word (k := 12) ht (by omega)
      rw [show (20 : Int32) = nI 20 from rfl, zle_f (show i < 20 by omega) (by omega), wd, zBd_s, bI_br]
      by_cases q : S'.1 1 5 = if z = true then 13 else 12
      · have nn : ¬ S'.1 1 5 = 102 ∧ ¬ S'.1 1 5 = 103 := by rw [q]; cases z <;> decide
        obtain ⟨S2, T2, g1, g2, h2, -, fc, fm⟩ := P_read sQ_stb hq nn.1 nn.2
        have h2' := PI_w (lo' := 0) (fun z => z) (by omega) h2
        rw [zBr_p q, if_pos (decide_eq_true q), g1, g2, zBd_s, zBd_s]
        rcases hone S2 T2 p' o' b2 (by omega) h2' with ⟨S3, T3, p3, o3, e3, e4, h3, ⟨x1, x2, x3, x4, x5⟩, t443, lt3, o203, ar3⟩ | ⟨S3, T3, e3, e4, h3⟩
        · obtain ⟨-, c4, -, m41, -⟩ := id h3.1
          rw [e3, e4, zBp_s, zBp_s, zBr_q (show ¬ (1 : Int32) = 0 by decide), zBr_q (show ¬ (1 : Int32) = 0 by decide), c_add c4 (by omega) (by decide) (by decide), zBp_s, t443, m_says m41 (by omega), zBp_s, zLt_s, nI_1]
          obtain ⟨h4, old4⟩ := P_part h3 (if z = true then 13 else 12) 0 0 (if z = true then 2 else 3) (nI (p' - 1)) (nI (p3 - 1)) 0
          refine Or.inl ⟨_, _, rfl, rfl, ⟨_, _, p3 + 1, o3, rfl, by rw [Nat.add_sub_cancel], h4, ?_, by omega, o203, by omega⟩, by omega⟩
          obtain ⟨S4, hS4⟩ : ∃ X, X = cAdd S3 p3 (if z = true then 13 else 12) 0 0 := ⟨_, rfl⟩
          obtain ⟨T4, hT4⟩ : ∃ X, X = mAdd T3 p3 (if z = true then 2 else 3) (nI (p' - 1)) (nI (p3 - 1)) 0 := ⟨_, rfl⟩
          obtain ⟨a1, a2, a3⟩ := cAdd_at (S := S3) (p := p3) (if z = true then 13 else 12) 0 0
          obtain ⟨m1, m2, m3, m4⟩ := mAdd_at (T := T3) (p := p3) (if z = true then 2 else 3) (nI (p' - 1)) (nI (p3 - 1)) 0
          rw [← hS4] at a1 a2 a3 old4 ⊢
          rw [← hT4] at m1 m2 m3 m4 old4 ⊢
          have o2 := sOld_F fc fm p'
          have o34 : sOld p' S' T' S4 T4 := (o2.trans x1 (Nat.le_refl _)).trans old4 (by omega)
          obtain ⟨u1, u2⟩ := SO_up (g' := T4.1 18) w3 (fun j hj => o34.2 j (by omega))
          obtain ⟨u3, u4⟩ := SO_up (g' := T4.1 18) x3 (fun j hj => old4.2 j (by omega))
          obtain ⟨u5, u6⟩ := SO_join (z := z) (n := p3) u1 u3 (by omega) (by omega) (by omega) m1 m2 m3
          refine ⟨w1.trans o34 (by omega), by omega, by rw [Nat.add_sub_cancel]; exact u5, ?_, ?_⟩
          · rw [Nat.add_sub_cancel, u6, u2, u4, List.length_append, List.length_append, w4, x4]
            show _ + 1 = _
            omega
          · rw [Nat.add_sub_cancel, u6, u2, u4]
            refine sRow_app (sRow_app (sRow_old w5 o34 (by rw [w4]; omega)) ?_) ?_
            · rw [w4, show p + (p' - p) = p' by omega]
              exact sRow_old x5 old4 (by rw [x4]; omega)
            · rw [List.length_append, w4, x4, show p + (p' - p + (p3 - p')) = p3 by omega]
              exact sRow_one a1 a2 a3
        · rw [e3, e4, zBp_s, zBp_s, zBr_p rfl, zBr_p rfl, zXr_s, zXr_s]
          exact Or.inr ⟨_, _, rfl, rfl, Or.inr ⟨S3, T3, rfl, rfl, h3⟩⟩
      · rw [zBr_q q, if_neg (fun y => q (of_decide_eq_true y)), zXr_s, zLt_s, zXr_s]
        refine Or.inr ⟨_, _, rfl, rfl, Or.inl ⟨S', zI T' 0 44 (nI (p' - 1)), p', o', rfl, rfl, ?_, ⟨⟨w1.1, fun j hj => by rw [zI_ne (by omega)]; exact w1.2 j hj⟩, w2, ?_, ?_, ?_⟩, by rw [zI_at, if_pos ⟨rfl, rfl⟩], by omega, b2, b3⟩⟩
        · obtain ⟨fr, q1, q2, q3, q4, q5⟩ := hq.1
          refine PI_upd hq rfl rfl rfl rfl (fun j _ _ => by rw [zI_at, if_neg (by omega)]) rfl (zI_ne (by omega)) ⟨⟨fr.1, fr.2.1, fun x h1 h2 => by rw [zI_ne h1]; exact fr.2.2.1 x h1 h2, fr.2.2.2.1, fun j h1 h2 => by rw [zI_at, if_neg (by omega)]; exact fr.2.2.2.2 j h1 h2⟩, q1, q2, by rw [zI_at, if_neg (by omega)]; exact q3, by rw [zI_at, if_neg (by omega)]; exact q4, by rw [zI_at, if_neg (by omega)]; exact q5⟩
        · rw [zI_ne (by omega)]; exact w3
        · rw [zI_ne (by omega)]; exact w4
        · rw [zI_ne (by omega)]; exact w5
  · rw [e1, e2, zBp_s, zBp_s, zBr_p rfl, zBr_p rfl]
    exact Or.inr ⟨S1, T1, rfl, rfl, h1⟩
end Join
