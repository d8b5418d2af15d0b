/-! house -/
theorem Rel_side2 {S S' T T' : zSt} (r : Rel S T) (a1 : ∀ c, (4 ≤ c ∧ c < 29) ∨ (44 ≤ c ∧ c < 229) ∨ (245 ≤ c ∧ c < 249) → S'.1 c = S.1 c) (a2 : ∀ c, (3 ≤ c ∧ c < 14) ∨ (167 ≤ c ∧ c < 229) → S'.2 c = S.2 c) (b1 : T'.1 2 = T.1 2 ∧ T'.1 4 = T.1 4 ∧ T'.1 5 = T.1 5 ∧ T'.1 10 = T.1 10) (b2 : T'.2 7 = T.2 7 ∧ T'.2 9 = T.2 9) (b3 : T'.1 0 24 = T.1 0 24) (t1 : rTp (S'.1 1 1) (S'.1 2) (T'.1 0 2) (T'.1 1)) (t6 : S'.1 0 14 = T'.1 0 10 ∧ S'.1 0 15 = T'.1 0 25 ∧ S'.1 0 16 = T'.1 0 26) (t7 : rWay (S'.1 256 4) (S'.1 260) (T'.1 0 29) (T'.1 13)) (t8 : rCho (S'.1 255) (T'.1 0 31) (T'.1 14)) (t9 : rTold (S'.1 240) (T'.1 0 39) (T'.1 17)) : Rel S' T' := by
  obtain ⟨r1, r2, r3, r4, r5, r6, r7, r8, r9, r10⟩ := r
  have h6 := r2.2.1.2.1.2
  unfold Rel
  rw [b1.1, b1.2.1, b1.2.2.1, b1.2.2.2, b2.1, b2.2, b3, a1 44 (by omega), a2 3 (by omega)]
  exact ⟨t1, rAll_cong (fun a q => a1 a (by omega)) (fun a _ _ => a2 a (by omega)) r2, rPast_cong h6 (fun a q1 q2 => a1 a (by omega)) r3, rImg_cong (fun a q1 q2 => a1 a (by omega)) (fun a _ _ => a2 a (by omega)) r4, rImg_cong (fun a q1 q2 => a1 a (by omega)) (fun a _ _ => a2 a (by omega)) r5, t6, t7, t8, t9, r10⟩
section House
variable {S T : zSt}
/-- both readers begun on the tape -/
theorem two_begin {Q : zSt → zSt → Prop} (r : Rel S T) {X : zSt} (hX : ∀ c, c ≠ 229 → c ≠ 230 → c ≠ 231 → c ≠ 232 → c ≠ 240 → c ≠ 250 → X.1 c = S.1 c) (hX2 : X.2 = S.2) {M : Nat} (hM : M ≤ 900) (hQ : ∀ S' T', (∀ c, c ≠ 1 → S'.1 c = X.1 c ∧ S'.2 c = X.2 c) → (∀ c, c ≠ 0 → T'.1 c = T.1 c ∧ T'.2 c = T.2 c) → T'.1 0 0 = 0 → T'.1 0 2 = 0 → (∀ j, (j = 1 ∨ 14 ≤ j) → T'.1 0 j = T.1 0 j) → Q S' T') : ∃ S' T' b L, fX9_beginReading X (nI M) = some S' ∧ fX12_begin T (nI M) = some T' ∧ PI Q b L M 0 S' T' := by
  obtain ⟨⟨L, l1, l2, l3, l4⟩, -, -, -, -, -, -, -, -, rk⟩ := id r
  obtain ⟨X4, hX4⟩ : ∃ Y, Y = zI (zI (zI (zI X 1 3 (nI M)) 1 4 0) 1 9 0) 1 10 0 := ⟨_, rfl⟩
  obtain ⟨T8, hT8⟩ : ∃ Y, Y = zI (zI (zI (zI (zI (zI T 0 0 0) 0 2 0) 0 3 (nI L)) 0 4 (nI M)) 0 10 0) 0 5 0 := ⟨_, rfl⟩
  have xn : ∀ c, c ≠ 1 → X4.1 c = X.1 c := fun c hc => by rw [hX4, zI_ne hc, zI_ne hc, zI_ne hc, zI_ne hc]
  have tn : ∀ c, c ≠ 0 → T8.1 c = T.1 c := fun c hc => by rw [hT8, zI_ne hc, zI_ne hc, zI_ne hc, zI_ne hc, zI_ne hc, zI_ne hc]
  have hr : rdB X4 T8 (fun i => (T.1 1 i).toNatClampNeg) L M := by
    refine ⟨l1, ?_, ?_, ?_, ?_, hM, fun i hi => ?_, ?_⟩
    · rw [hX4, zI_at, if_neg (by omega), zI_at, if_neg (by omega), zI_at, if_neg (by omega), zI_at, if_neg (by omega), hX 1 (by omega) (by omega) (by omega) (by omega) (by omega) (by omega)]; exact l2
    · rw [hT8, zI_at, if_neg (by omega), zI_at, if_neg (by omega), zI_at, if_neg (by omega), zI_at, if_pos ⟨rfl, rfl⟩]
    · rw [hX4, zI_at, if_neg (by omega), zI_at, if_neg (by omega), zI_at, if_neg (by omega), zI_at, if_pos ⟨rfl, rfl⟩]
    · rw [hT8, zI_at, if_neg (by omega), zI_at, if_neg (by omega), zI_at, if_pos ⟨rfl, rfl⟩]
    · obtain ⟨g1, g2⟩ := l4 i hi
      obtain ⟨e1, e2⟩ := zIn_eq g2 (by omega)
      rw [xn 2 (by omega), tn 1 (by omega), hX 2 (by omega) (by omega) (by omega) (by omega) (by omega) (by omega)]
      exact ⟨g1.trans e1, e1, e2⟩
    · rw [hX4]
      show rKey (X.2 3)
      rw [hX2]
      exact rk
  have x4 : X4.1 1 4 = nI 0 := by rw [hX4, zI_at, if_neg (by omega), zI_at, if_neg (by omega), zI_at, if_pos ⟨rfl, rfl⟩]; rfl
  have t5 : T8.1 0 5 = nI 0 := by rw [hT8, zI_at, if_pos ⟨rfl, rfl⟩]; rfl
  obtain ⟨S', T', st, to, e1, e2, fc, fm, hk, hl⟩ := tk_read hr x4 t5 (by omega)
  refine ⟨S', T', _, L, ?_, ?_, hQ S' T' (fun c hc => ⟨by rw [(fc.1 c hc).1, xn c hc], by rw [(fc.1 c hc).2, hX4]; rfl⟩) (fun c hc => ⟨by rw [(fm.1 c hc).1, tn c hc], by rw [(fm.1 c hc).2, hT8]; rfl⟩) ?_ ?_ (fun j hj => ?_), rdB_F hr fc fm, ⟨?_, ?_⟩, st, to, hk, fun _ _ => Nat.zero_le _⟩
  · unfold fX9_beginReading
    rw [zLt_s, zLt_s, zLt_s, zLt_s, ← hX4, e1, zBd_s]
  · unfold fX12_begin fX12_take
    rw [zLt_s, zLt_s, zLt_s, zBp_s, zI_at, if_neg (by omega), l3, zLt_s, zLt_s, zLt_s, zLt_s, ← hT8, e2, zBd_s]
  · rw [fm.2 0 (by omega), hT8, zI_at, if_neg (by omega), zI_at, if_neg (by omega), zI_at, if_neg (by omega), zI_at, if_neg (by omega), zI_at, if_neg (by omega), zI_at, if_pos ⟨rfl, rfl⟩]
  · rw [fm.2 2 (by omega), hT8, zI_at, if_neg (by omega), zI_at, if_neg (by omega), zI_at, if_neg (by omega), zI_at, if_neg (by omega), zI_at, if_pos ⟨rfl, rfl⟩]
  · rw [fm.2 j (by omega), hT8, zI_at, if_neg (by omega), zI_at, if_neg (by omega), zI_at, if_neg (by omega), zI_at, if_neg (by omega), zI_at, if_neg (by omega), zI_at, if_neg (by omega)]
  · rw [fc.2 9 (by omega), hX4, zI_at, if_neg (by omega), zI_at, if_pos ⟨rfl, rfl⟩]
  · rw [fm.2 10 (by omega), hT8, zI_at, if_neg (by omega), zI_at, if_pos ⟨rfl, rfl⟩]
theorem PI_lt {Q : zSt → zSt → Prop} {b : Nat → Nat} {L M lo : Nat} (h : PI Q b L M lo S T) (n2 : ¬ S.1 1 5 = 102) (n3 : ¬ S.1 1 5 = 103) : lo < M := by
  obtain ⟨-, -, -, st, to, hk, hl⟩ := h
  have := hl n2 n3
  rcases hk.2.2.2 with ⟨h1, -⟩ | ⟨h1, -⟩ | ⟨-, -, -, -, k, -⟩
  · exact absurd h1 n2
  · exact absurd h1 n3
  · omega
/-- what a fault leaves: the tape empty, its kind kept -/
theorem Rel_fault {S' T' : zSt} (r : Rel S T) (hS : ∀ c, c ≠ 0 → c ≠ 1 → (c < 229 ∨ (245 ≤ c ∧ c < 250) ∨ 255 ≤ c) → S'.1 c = S.1 c ∧ S'.2 c = S.2 c) (h240 : rTold (S'.1 240) (T'.1 0 39) (T'.1 17)) (hT : ∀ c, (c = 1 ∨ c = 2 ∨ c = 4 ∨ c = 5 ∨ c = 10 ∨ c = 13 ∨ c = 14) → T'.1 c = T.1 c) (hT2 : T'.2 7 = T.2 7 ∧ T'.2 9 = T.2 9) (h0 : ∀ j, (j = 24 ∨ j = 25 ∨ j = 26 ∨ j = 29 ∨ j = 31) → T'.1 0 j = T.1 0 j) (s3 : S'.2 3 = S.2 3) (l1 : S'.1 1 1 = 0) (l2 : T'.1 0 2 = 0) (k : S'.1 0 14 = T'.1 0 10) (k5 : S'.1 0 15 = S.1 0 15) (k6 : S'.1 0 16 = S.1 0 16) : Rel S' T' := by
  obtain ⟨r1, -, -, -, -, r6, r7, r8, r9, -⟩ := id r
  refine Rel_side2 r (fun c hc => (hS c (by omega) (by omega) (by omega)).1) (fun c hc => ?_) ⟨hT 2 (by omega), hT 4 (by omega), hT 5 (by omega), hT 10 (by omega)⟩ hT2 (h0 24 (by omega)) ⟨0, by omega, l1, l2, fun i hi => by omega⟩ ⟨k, by rw [k5, h0 25 (by omega)]; exact r6.2.1, by rw [k6, h0 26 (by omega)]; exact r6.2.2⟩ ?_ ?_ h240
  · by_cases c3 : c = 3
    · subst c3; exact s3
    · exact (hS c (by omega) (by omega) (by omega)).2
  · rw [(hS 256 (by omega) (by omega) (by omega)).1, (hS 260 (by omega) (by omega) (by omega)).1, h0 29 (by omega), hT 13 (by omega)]; exact r7
  · rw [(hS 255 (by omega) (by omega) (by omega)).1, h0 31 (by omega), hT 14 (by omega)]; exact r8
end House
