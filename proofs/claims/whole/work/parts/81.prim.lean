/-! reading: what is at hand, taken or refused -/
theorem tk_d {x : Int32} {a b : Nat} (h : x = nI a) (ha : a < 1000) (hb : b < 1000) (hab : a ≠ b) : ¬ x = nI b := fun q => hab ((nI_eq (by omega) (by omega)).mp (h.symm.trans q))
section Prim
variable {S T : zSt} {L M st to : Nat}
theorem tkOf_n (x : Int64) : ∃ t, (t < 22 ∨ t = 100) ∧ tkOf x = nI t := by
  rcases tkOf_cases x with ⟨k, hk, e⟩ | e
  · exact ⟨k, Or.inl hk, e⟩
  · exact ⟨100, Or.inr rfl, e⟩
/-- the class's token as a number, and the reference's kind with it -/
theorem tk_kind (h : tkR S T L M st to) : ∃ t, S.1 1 5 = nI t ∧ t < 104 ∧ ((t = 102 ∧ T.1 0 7 = 0) ∨ (t = 103 ∧ T.1 0 7 = 1) ∨ (t = 101 ∧ T.1 0 7 = 3) ∨ ((t = 40 ∨ t = 41 ∨ (59 ≤ t ∧ t ≤ 62)) ∧ T.1 0 7 = 4 ∧ T.1 0 9 = nI t) ∨ ((t < 22 ∨ t = 100) ∧ T.1 0 7 = 2 ∧ nmR (S.2 1 7) (T.2 0 12) ∧ S.1 1 5 = tkOf (S.2 1 7))) := by
  obtain ⟨-, -, -, h⟩ := h
  rcases h with ⟨h1, h2⟩ | ⟨h1, h2⟩ | ⟨-, -, -, -, -, h⟩
  · exact ⟨102, h1, by omega, Or.inl ⟨rfl, h2⟩⟩
  · exact ⟨103, h1, by omega, Or.inr (Or.inl ⟨rfl, h2⟩)⟩
  · rcases h with ⟨h1, h2, -⟩ | ⟨c, h1, h2, h3, h4⟩ | ⟨h1, h2, h3⟩
    · exact ⟨101, h1, by omega, Or.inr (Or.inr (Or.inl ⟨rfl, h2⟩))⟩
    · exact ⟨c, h2, by omega, Or.inr (Or.inr (Or.inr (Or.inl ⟨h1, h3, h4⟩)))⟩
    · obtain ⟨t, ht, e⟩ := tkOf_n (S.2 1 7)
      exact ⟨t, by rw [h3, e], by omega, Or.inr (Or.inr (Or.inr (Or.inr ⟨ht, h1, h2, h3⟩)))⟩
theorem tk_stop (h : tkR S T L M st to) : T.1 0 7 = 0 ↔ S.1 1 5 = 102 := by
  obtain ⟨t, e, ht, h⟩ := tk_kind h
  rw [e, show (102 : Int32) = nI 102 from rfl, nI_eq (by omega) (by omega)]
  rcases h with ⟨h, k⟩ | ⟨h, k⟩ | ⟨h, k⟩ | ⟨h, k, -⟩ | ⟨h, k, -⟩ <;> rw [k]
  · exact ⟨fun _ => h, fun _ => rfl⟩
  · exact ⟨fun q => absurd q (by decide), fun q => by omega⟩
  · exact ⟨fun q => absurd q (by decide), fun q => by omega⟩
  · exact ⟨fun q => absurd q (by decide), fun q => by omega⟩
  · exact ⟨fun q => absurd q (by decide), fun q => by omega⟩
theorem tk_wrong (h : tkR S T L M st to) : T.1 0 7 = 1 ↔ S.1 1 5 = 103 := by
  obtain ⟨t, e, ht, h⟩ := tk_kind h
  rw [e, show (103 : Int32) = nI 103 from rfl, nI_eq (by omega) (by omega)]
  rcases h with ⟨h, k⟩ | ⟨h, k⟩ | ⟨h, k⟩ | ⟨h, k, -⟩ | ⟨h, k, -⟩ <;> rw [k]
  · exact ⟨fun q => absurd q (by decide), fun q => by omega⟩
  · exact ⟨fun _ => h, fun _ => rfl⟩
  · exact ⟨fun q => absurd q (by decide), fun q => by omega⟩
  · exact ⟨fun q => absurd q (by decide), fun q => by omega⟩
  · exact ⟨fun q => absurd q (by decide), fun q => by omega⟩
theorem tk_word (h : tkR S T L M st to) {k : Nat} (hk : k < 22) : fX12_isWord T (nI k) = some (bI (decide (S.1 1 5 = nI (mKy k)))) := by
  obtain ⟨m1, m2⟩ := mKy_ok k hk
  obtain ⟨t, e, ht, h⟩ := tk_kind h
  unfold fX12_isWord
  rw [m2, zBd_s]
  have no : ¬ t = mKy k → ¬ T.1 0 7 = 2 → zBr (T.1 0 7 = (2 : Int32)) (zBr ((lg_cmp (T.2 0 12) (lN (f27 (kLs (mKy k))))) = 0) (some (1 : Int32)) (some (0 : Int32))) (some (0 : Int32)) = some (bI (decide (S.1 1 5 = nI (mKy k)))) := fun q1 q2 => by
    rw [zBr_q q2, e, decide_eq_false (fun q => q1 ((nI_eq (by omega) (by omega)).mp q))]; rfl
  rcases h with ⟨h, q⟩ | ⟨h, q⟩ | ⟨h, q⟩ | ⟨h, q, -⟩ | ⟨h, q, h2, h3⟩
  · exact no (by omega) (by rw [q]; decide)
  · exact no (by omega) (by rw [q]; decide)
  · exact no (by omega) (by rw [q]; decide)
  · exact no (by omega) (by rw [q]; decide)
  · rw [q, zBr_p rfl, zBr_b]
    congr 2
    rw [h3]
    by_cases z : T.2 0 12 = lN (f27 (kLs (mKy k)))
    · rw [decide_eq_true ((lg_cmp_eq _ _).mpr z), decide_eq_true ((tkOf_word h2 hk).mpr z)]
    · rw [decide_eq_false (fun w => z ((lg_cmp_eq _ _).mp w)), decide_eq_false (fun w => z ((tkOf_word h2 hk).mp w))]
theorem tk_sign (h : tkR S T L M st to) {c : Nat} (hc : c = 40 ∨ c = 41 ∨ (59 ≤ c ∧ c ≤ 62)) : fX12_isSign T (nI c) = some (bI (decide (S.1 1 5 = nI c))) := by
  obtain ⟨t, e, ht, h⟩ := tk_kind h
  unfold fX12_isSign
  have no : ¬ t = c → ¬ T.1 0 7 = 4 → zBr (T.1 0 7 = (4 : Int32)) (zBr (T.1 0 9 = nI c) (some (1 : Int32)) (some (0 : Int32))) (some (0 : Int32)) = some (bI (decide (S.1 1 5 = nI c))) := fun q1 q2 => by
    rw [zBr_q q2, e, decide_eq_false (fun q => q1 ((nI_eq (by omega) (by omega)).mp q))]; rfl
  rcases h with ⟨h, q⟩ | ⟨h, q⟩ | ⟨h, q⟩ | ⟨h, q, h4⟩ | ⟨h, q, h2, h3⟩
  · exact no (by omega) (by rw [q]; decide)
  · exact no (by omega) (by rw [q]; decide)
  · exact no (by omega) (by rw [q]; decide)
  · rw [q, zBr_p rfl, h4, e, zBr_b]
  · exact no (by omega) (by rw [q]; decide)
theorem tk_name (h : tkR S T L M st to) : fX12_isName T = some (bI (decide (S.1 1 5 = 100))) := by
  have hw := fun k hk => tk_word (k := k) h hk
  obtain ⟨t, e, ht, h⟩ := tk_kind h
  unfold fX12_isName
  have no : ¬ t = 100 → ¬ T.1 0 7 = 2 → zBr (T.1 0 7 = (2 : Int32)) (zLp (fX12_isName_12 T) 2000 (0 : Int32)) (some (0 : Int32)) = some (bI (decide (S.1 1 5 = 100))) := fun q1 q2 => by
    rw [zBr_q q2, decide_eq_false (show ¬ S.1 1 5 = 100 from tk_d e (by omega) (show 100 < 1000 by omega) q1)]; rfl
  rcases h with ⟨h, q⟩ | ⟨h, q⟩ | ⟨h, q⟩ | ⟨h, q, -⟩ | ⟨h, q, h2, h3⟩
  · exact no (by omega) (by rw [q]; decide)
  · exact no (by omega) (by rw [q]; decide)
  · exact no (by omega) (by rw [q]; decide)
  · exact no (by omega) (by rw [q]; decide)
  · rw [q, zBr_p rfl]
    have body : ∀ k, k < 22 → fX12_isName_12 T (nI k) = if S.1 1 5 = nI (mKy k) then some (.inr 0) else some (.inl (nI (k + 1))) := fun k hk => by
      obtain ⟨m1, m2⟩ := mKy_ok k hk
      unfold fX12_isName_12
      dsimp only
      rw [show (21 : Int32) = nI 21 from rfl, zlt_f (by omega) (by omega), m2, zBd_s, zLt_s, nI_1]
      by_cases z : S.1 1 5 = nI (mKy k)
      · rw [if_pos z, zBr_p ((lg_cmp_eq _ _).mpr ((tkOf_word h2 hk).mp (h3.symm.trans z))), zXr_s]
      · rw [if_neg z, zBr_q (fun w => z (h3.trans ((tkOf_word h2 hk).mpr ((lg_cmp_eq _ _).mp w))))]
    by_cases t100 : t = 100
    · subst t100
      rw [decide_eq_true (show S.1 1 5 = 100 from e)]
      refine zLp_run (body := fX12_isName_12 T) (fun i => nI i) 22 2000 (fun i hi => ?_) ?_ (by omega)
      · rw [body i hi, if_neg (tk_d e (by omega) (by have := (mKy_ok i hi).1; omega) (by have := (mKy_ok i hi).1; omega))]
      · unfold fX12_isName_12
        dsimp only
        rw [zBr_p (show (21 : Int32) < nI 22 by decide), zXr_s]
        rfl
    · rw [decide_eq_false (show ¬ S.1 1 5 = 100 from tk_d e (by omega) (show 100 < 1000 by omega) t100)]
      obtain ⟨k0, hk0, ek0⟩ := mKy_in t (by omega)
      rcases zFirst (fun k => ¬ S.1 1 5 = nI (mKy k)) 22 with all | ⟨n, hn, h1, h2'⟩
      · exact absurd (by rw [e, ek0]) (all k0 hk0)
      · refine zLp_run (body := fX12_isName_12 T) (fun i => nI i) n 2000 (fun i hi => ?_) ?_ (by omega)
        · rw [body i (by omega), if_neg (h1 i hi)]
        · rw [body n hn, if_pos (Classical.byContradiction h2')]
          rfl
end Prim
def stb (Q : zSt → zSt → Prop) : Prop := ∀ S S' T T', (∀ c, c ≠ 1 → S'.1 c = S.1 c ∧ S'.2 c = S.2 c) → (∀ c, c ≠ 0 → T'.1 c = T.1 c ∧ T'.2 c = T.2 c) → (∀ j, (j < 3 ∨ 14 ≤ j) → T'.1 0 j = T.1 0 j) → Q S T → Q S' T'
def PI (Q : zSt → zSt → Prop) (b : Nat → Nat) (L M lo : Nat) (S T : zSt) : Prop := Q S T ∧ rdB S T b L M ∧ (S.1 1 9 = 0 ∧ T.1 0 10 = 0) ∧ ∃ st to, tkR S T L M st to ∧ (¬ S.1 1 5 = 102 → ¬ S.1 1 5 = 103 → lo ≤ st)
def FI (Q : zSt → zSt → Prop) (S T : zSt) : Prop := Q S T ∧ S.1 1 9 = T.1 0 10 ∧ ∃ pl, pl ≤ 940 ∧ S.1 1 10 = nI pl ∧ T.1 0 11 = nI pl
section Prim2
variable {Q Q' : zSt → zSt → Prop} {b : Nat → Nat} {L M lo : Nat} {S T : zSt}
theorem PI_upd {S2 T2 : zSt} (h : PI Q b L M lo S T) (s1 : S2.1 1 = S.1 1) (s2 : S2.2 1 = S.2 1) (s3 : S2.1 2 = S.1 2) (s4 : S2.2 3 = S.2 3) (t1 : ∀ j, 3 ≤ j → j ≤ 12 → T2.1 0 j = T.1 0 j) (t2 : T2.2 0 = T.2 0) (t3 : T2.1 1 = T.1 1) (hQ : Q' S2 T2) : PI Q' b L M lo S2 T2 := by
  obtain ⟨-, ⟨r1, r2, r3, r4, r5, r6, r7, r8⟩, ⟨f1, f2⟩, st, to, hk, hl⟩ := h
  refine ⟨hQ, ⟨r1, by rw [s1]; exact r2, by rw [t1 3 (by omega) (by omega)]; exact r3, by rw [s1]; exact r4, by rw [t1 4 (by omega) (by omega)]; exact r5, r6, by rw [s3, t3]; exact r7, by rw [s4]; exact r8⟩, ⟨by rw [s1]; exact f1, by rw [t1 10 (by omega) (by omega)]; exact f2⟩, st, to, ?_, by rw [s1]; exact hl⟩
  unfold tkR at hk ⊢
  rw [s1, s2, t2, t1 6 (by omega) (by omega), t1 7 (by omega) (by omega), t1 5 (by omega) (by omega), t1 8 (by omega) (by omega), t1 9 (by omega) (by omega)]
  exact hk
theorem P_read (hQ : stb Q) (h : PI Q b L M lo S T) (n2 : ¬ S.1 1 5 = 102) (n3 : ¬ S.1 1 5 = 103) : ∃ S' T', fX9_read S = some S' ∧ fX12_go T = some T' ∧ PI Q b L M (lo + 1) S' T' ∧ T'.1 0 13 = T.1 0 13 ∧ FC S S' ∧ FM T T' := by
  obtain ⟨q, hr, ⟨f1, f2⟩, st, to, hk, hl⟩ := h
  have lo1 := hl n2 n3
  obtain ⟨-, -, -, hk'⟩ := hk
  rcases hk' with ⟨h1, -⟩ | ⟨h1, -⟩ | ⟨k4, k5, k6, k7, k8, -⟩
  · exact absurd h1 n2
  · exact absurd h1 n3
  · obtain ⟨S', T', st', to', e1, e2, fc, fm, hk2, hl2⟩ := tk_read hr k4 k5 k7
    refine ⟨S', T', e1, e2, ⟨hQ S S' T T' fc.1 fm.1 (fun j hj => fm.2 j (by omega)) q, rdB_F hr fc fm, ⟨by rw [fc.2 9 (by omega)]; exact f1, by rw [fm.2 10 (by omega)]; exact f2⟩, st', to', hk2, fun z1 z2 => by have := hl2 z1 z2; omega⟩, fm.2 13 (by omega), fc, fm⟩
theorem P_fail (hQ : stb Q) (h : PI Q b L M lo S T) {k k' : Int32} (hk : k = if S.1 1 5 = 103 then 1 else k') : ∃ S' T', fX9_fail S k = some (0, S') ∧ fX12_bad T k' = some (0, T') ∧ FI Q S' T' := by
  obtain ⟨q, hr, ⟨f1, f2⟩, st, to, ht, hl⟩ := h
  obtain ⟨a1, a2, a3, -⟩ := id ht
  refine ⟨zI (zI S 1 9 k) 1 10 (nI st), zI (zI T 0 10 k) 0 11 (nI st), ?_, ?_, hQ S _ T _ (fun c hc => ⟨by rw [zI_ne hc, zI_ne hc], rfl⟩) (fun c hc => ⟨by rw [zI_ne hc, zI_ne hc], rfl⟩) (fun j hj => by rw [zI_at, if_neg (by omega), zI_at, if_neg (by omega)]) q, ?_, st, a3, by rw [zI_at, if_pos ⟨rfl, rfl⟩], by rw [zI_at, if_pos ⟨rfl, rfl⟩]⟩
  · unfold fX9_fail fX9_failAt
    rw [a1, zLt_s, zLt_s, zBp_s, show zBo (0 : Int32) = true by decide, zGd_t]
  · have e : ∀ x, fX12_bad_14 T x = some (0, zI (zI T 0 10 x) 0 11 (nI st)) := fun x => by
      unfold fX12_bad_14
      rw [zLt_s, zLt_s, zI_at, if_neg (by omega), a2]
    unfold fX12_bad
    rw [e, e, hk]
    by_cases z : S.1 1 5 = 103
    · rw [zBr_p ((tk_wrong ht).mpr z), if_pos z]
    · rw [zBr_q (fun w => z ((tk_wrong ht).mp w)), if_neg z]
  · rw [zI_at, if_neg (by omega), zI_at, if_pos ⟨rfl, rfl⟩, zI_at, if_neg (by omega), zI_at, if_pos ⟨rfl, rfl⟩]
theorem P_fail1 (hQ : stb Q) (h : PI Q b L M lo S T) : ∃ S' T', fX9_fail S 1 = some (0, S') ∧ fX12_bad T 1 = some (0, T') ∧ FI Q S' T' := P_fail hQ h (by split <;> rfl)
theorem P_failK (hQ : stb Q) (h : PI Q b L M lo S T) (n3 : ¬ S.1 1 5 = 103) (k : Int32) : ∃ S' T', fX9_fail S k = some (0, S') ∧ fX12_bad T k = some (0, T') ∧ FI Q S' T' := P_fail hQ h (by rw [if_neg n3])
theorem zBo0 : zBo (0 : Int32) = true := by decide
theorem zBo1 : zBo (1 : Int32) = true := by decide
theorem P_end (hQ : stb Q) (h : PI Q b L M lo S T) : (∃ S' T', fX9_take S 59 = some (1, S') ∧ fX12_readEnd T = some (1, T') ∧ PI Q b L M (lo + 1) S' T') ∨ ∃ S' T', fX9_take S 59 = some (0, S') ∧ fX12_readEnd T = some (0, T') ∧ FI Q S' T' := by
  obtain ⟨q, hr, hf, st, to, ht, hl⟩ := id h
  unfold fX9_take fX12_readEnd
  rw [show (59 : Int32) = nI 59 from rfl, tk_sign ht (by omega), zBd_s, bI_br]
  by_cases z : S.1 1 5 = nI 59
  · obtain ⟨S', T', e1, e2, h', -⟩ := P_read hQ h (tk_d z (by omega) (show 102 < 1000 by omega) (by decide)) (tk_d z (by omega) (show 103 < 1000 by omega) (by decide))
    rw [zBr_p z, if_pos (decide_eq_true z), e1, e2, zBd_s, zBd_s]
    exact Or.inl ⟨S', T', rfl, rfl, h'⟩
  · obtain ⟨S', T', e1, e2, h'⟩ := P_fail1 hQ h
    rw [zBr_q z, if_neg (fun w => z (of_decide_eq_true w)), e1, e2, zBp_s, zBp_s, zBo0, zGd_t, zGd_t]
    exact Or.inr ⟨S', T', rfl, rfl, h'⟩
theorem P_num (hQ : stb Q) (h : PI Q b L M lo S T) {a d : Nat} (ha : a < 1000) (hd : d < 1000) : (∃ v S' T', fX9_takeNumber S (nI a) (nI d) = some (nI v, S') ∧ fX12_readNumber T (nI a) (nI d) = some (1, T') ∧ a ≤ v ∧ v ≤ d ∧ T'.1 0 13 = nI v ∧ PI Q b L M (lo + 1) S' T') ∨ ∃ S' T', fX9_takeNumber S (nI a) (nI d) = some (-1, S') ∧ fX12_readNumber T (nI a) (nI d) = some (0, T') ∧ FI Q S' T' := by
  obtain ⟨q, hr, hf, st, to, ht, hl⟩ := id h
  obtain ⟨t, e, ht4, hk⟩ := tk_kind ht
  unfold fX9_takeNumber fX12_readNumber fX9_takeNumber_33 fX12_isIn
  have bad : ¬ t = 101 → ¬ T.1 0 7 = 3 → (∃ v S' T', zBr (S.1 1 5 = (101 : Int32)) (zBr (S.1 1 8 < nI a) (zBp (fX9_fail S (2 : Int32)) (fun r5 S4 => some ((-1 : Int32), S4))) (zBr (S.1 1 8 ≤ nI d) (zLt (S.1 1 8) (fun x7 => zBd (fX9_read S) (fun S9 => some (x7, S9)))) (zBp (fX9_fail S (2 : Int32)) (fun r5 S4 => some ((-1 : Int32), S4))))) (zBp (fX9_fail S (1 : Int32)) (fun r12 S11 => some ((-1 : Int32), S11))) = some (nI v, S') ∧ zBr (T.1 0 7 = (3 : Int32)) (zBd (zBr (T.1 0 8 < nI a) (some (0 : Int32)) (zBr (nI d < T.1 0 8) (some (0 : Int32)) (some (1 : Int32)))) (fun r3 => zBr (r3 = 0) (zBp (fX12_bad T (2 : Int32)) (fun r10 S9 => zGd (zBo r10) (some (r10, S9)))) (zLt (zI T 0 13 (T.1 0 8)) (fun S5 => zBd (fX12_go S5) (fun S7 => some ((1 : Int32), S7)))))) (zBp (fX12_bad T (1 : Int32)) (fun r14 S13 => zGd (zBo r14) (some (r14, S13)))) = some (1, T') ∧ a ≤ v ∧ v ≤ d ∧ T'.1 0 13 = nI v ∧ PI Q b L M (lo + 1) S' T') ∨ ∃ S' T', zBr (S.1 1 5 = (101 : Int32)) (zBr (S.1 1 8 < nI a) (zBp (fX9_fail S (2 : Int32)) (fun r5 S4 => some ((-1 : Int32), S4))) (zBr (S.1 1 8 ≤ nI d) (zLt (S.1 1 8) (fun x7 => zBd (fX9_read S) (fun S9 => some (x7, S9)))) (zBp (fX9_fail S (2 : Int32)) (fun r5 S4 => some ((-1 : Int32), S4))))) (zBp (fX9_fail S (1 : Int32)) (fun r12 S11 => some ((-1 : Int32), S11))) = some (-1, S') ∧ zBr (T.1 0 7 = (3 : Int32)) (zBd (zBr (T.1 0 8 < nI a) (some (0 : Int32)) (zBr (nI d < T.1 0 8) (some (0 : Int32)) (some (1 : Int32)))) (fun r3 => zBr (r3 = 0) (zBp (fX12_bad T (2 : Int32)) (fun r10 S9 => zGd (zBo r10) (some (r10, S9)))) (zLt (zI T 0 13 (T.1 0 8)) (fun S5 => zBd (fX12_go S5) (fun S7 => some ((1 : Int32), S7)))))) (zBp (fX12_bad T (1 : Int32)) (fun r14 S13 => zGd (zBo r14) (some (r14, S13)))) = some (0, T') ∧ FI Q S' T' := by
    intro t1 k3
    obtain ⟨S', T', e1, e2, h'⟩ := P_fail1 hQ h
    refine Or.inr ⟨S', T', ?_, ?_, h'⟩
    · rw [zBr_q (show ¬ S.1 1 5 = (101 : Int32) from tk_d e (by omega) (show 101 < 1000 by omega) t1), e1, zBp_s]
    · rw [zBr_q k3, e2, zBp_s, zBo0, zGd_t]
  rcases hk with ⟨hk, k⟩ | ⟨hk, k⟩ | ⟨hk, k⟩ | ⟨hk, k, -⟩ | ⟨hk, k, -⟩
  · exact bad (by omega) (by rw [k]; decide)
  · exact bad (by omega) (by rw [k]; decide)
  · subst hk
    obtain ⟨v, hv, v1, v2⟩ : ∃ v, v < 1000 ∧ S.1 1 8 = nI v ∧ T.1 0 8 = nI v := by
      rcases ht.2.2.2 with ⟨w, -⟩ | ⟨w, -⟩ | ⟨-, -, -, -, -, w⟩
      · exact absurd w (tk_d e (by omega) (show 102 < 1000 by omega) (by decide))
      · exact absurd w (tk_d e (by omega) (show 103 < 1000 by omega) (by decide))
      · rcases w with ⟨-, -, w⟩ | ⟨c, w1, w2, w3, -⟩ | ⟨w, -⟩
        · exact w
        · rw [k] at w3; exact absurd w3 (by decide)
        · rw [k] at w; exact absurd w (by decide)
    have n3 : ¬ S.1 1 5 = 103 := tk_d e (by omega) (show 103 < 1000 by omega) (by decide)
    have n2 : ¬ S.1 1 5 = 102 := tk_d e (by omega) (show 102 < 1000 by omega) (by decide)
    rw [zBr_p (show S.1 1 5 = (101 : Int32) from e), k, zBr_p (show (3 : Int32) = 3 from rfl), v1, v2]
    have fail2 : ∀ x y : Option (Int32 × zSt), (∀ S', fX9_fail S 2 = some (0, S') → x = some (-1, S')) → (∀ T', fX12_bad T 2 = some (0, T') → y = some (0, T')) → ∃ S' T', x = some (-1, S') ∧ y = some (0, T') ∧ FI Q S' T' := fun x y hx hy => by
      obtain ⟨S', T', e1, e2, h'⟩ := P_failK hQ h n3 2
      exact ⟨S', T', hx S' e1, hy T' e2, h'⟩
    by_cases va : v < a
    · rw [zlt_t va (by omega), zlt_t va (by omega), zBd_s, zBr_p (show (0 : Int32) = 0 from rfl)]
      exact Or.inr (fail2 _ _ (fun S' w => by rw [w, zBp_s]) (fun T' w => by rw [w, zBp_s, zBo0, zGd_t]))
    · rw [zlt_f (by omega) (by omega), zlt_f (by omega) (by omega)]
      by_cases vd : v ≤ d
      · rw [zle_t vd (by omega), zlt_f vd (by omega), zBd_s, zBr_q (show ¬ (1 : Int32) = 0 by decide), zLt_s, zLt_s]
        have h2 : PI Q b L M lo S (zI T 0 13 (nI v)) := PI_upd h rfl rfl rfl rfl (fun j j1 j2 => by rw [zI_at, if_neg (by omega)]) rfl (zI_ne (by omega)) (hQ S S T _ (fun _ _ => ⟨rfl, rfl⟩) (fun c hc => ⟨zI_ne hc, rfl⟩) (fun j hj => by rw [zI_at, if_neg (by omega)]) q)
        obtain ⟨S', T', e1, e2, h', e3, -⟩ := P_read hQ h2 n2 n3
        rw [e1, e2, zBd_s, zBd_s]
        exact Or.inl ⟨v, S', T', rfl, rfl, by omega, vd, by rw [e3, zI_at, if_pos ⟨rfl, rfl⟩], h'⟩
      · rw [zle_f (by omega) (by omega), zlt_t (by omega) (by omega), zBd_s, zBr_p (show (0 : Int32) = 0 from rfl)]
        exact Or.inr (fail2 _ _ (fun S' w => by rw [w, zBp_s]) (fun T' w => by rw [w, zBp_s, zBo0, zGd_t]))
  · exact bad (by omega) (by rw [k]; decide)
  · exact bad (by omega) (by rw [k]; decide)
end Prim2
