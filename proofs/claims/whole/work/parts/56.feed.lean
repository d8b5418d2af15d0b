/-! numbers fed to the tape -/
def zFd (S : zSt) (cb cl il L : Nat) (q : Nat → Int32) (k : Nat) : zSt := zFo (fun k X => zI (zI X cb (L + k) (q k)) cl il (nI (L + k + 1))) S k
theorem zFd_ok (S : zSt) (cb cl il L : Nat) (q : Nat → Int32) (hc : cb ≠ cl) (hS : S.1 cl il = nI L) : ∀ k, (zFd S cb cl il L q k).2 = S.2 ∧ (∀ c, c ≠ cb → c ≠ cl → (zFd S cb cl il L q k).1 c = S.1 c) ∧ (zFd S cb cl il L q k).1 cl il = nI (L + k) ∧ (∀ j, j ≠ il → (zFd S cb cl il L q k).1 cl j = S.1 cl j) ∧ (∀ i, i < L → (zFd S cb cl il L q k).1 cb i = S.1 cb i) ∧ (∀ i, i < k → (zFd S cb cl il L q k).1 cb (L + i) = q i) := by
  intro k
  induction k with
  | zero => exact ⟨rfl, fun _ _ _ => rfl, hS, fun _ _ => rfl, fun _ _ => rfl, fun i hi => by omega⟩
  | succ k ih =>
    obtain ⟨i1, i2, i3, i4, i5, i6⟩ := ih
    have e : zFd S cb cl il L q (k + 1) = zI (zI (zFd S cb cl il L q k) cb (L + k) (q k)) cl il (nI (L + k + 1)) := rfl
    rw [e]
    refine ⟨i1, fun c h1 h2 => ?_, ?_, fun j hj => ?_, fun i hi => ?_, fun i hi => ?_⟩
    · rw [zI_ne h2, zI_ne h1, i2 c h1 h2]
    · rw [zI_at, if_pos ⟨rfl, rfl⟩]; rfl
    · rw [zI_at, if_neg (by omega), zI_at, if_neg (by omega), i4 j hj]
    · rw [zI_ne hc, zI_at, if_neg (by omega), i5 i hi]
    · rw [zI_ne hc, zI_at]
      by_cases h : i = k
      · subst h; rw [if_pos ⟨rfl, rfl⟩]
      · rw [if_neg (by omega), i6 i (by omega)]
def zBy (v : Int32) (k : Nat) : Int32 := (zUsh v (nI (24 - 8 * k))) &&& (255 : Int32)
theorem zBy_in (v : Int32) (k : Nat) : ∃ j, j < 256 ∧ zBy v k = nI j := pk_andE (zUsh v (nI (24 - 8 * k))) (m := 255) 8 rfl
theorem zCh {j : Nat} (h : j < 256) : vp_nar .char (zI2c (nI j)) = nI j := by
  have key : ∀ j, j < 256 → vp_nar .char (zI2c (nI j)) = nI j := by decide +kernel
  exact key j h
def zSh (k : Nat) : Int32 := if k = 4 then -8 else nI (24 - 8 * k)
theorem zSh_nat {k : Nat} (h : k < 4) : zSh k = nI (24 - 8 * k) := if_neg (by omega)
theorem zSh_s {k : Nat} (h : k < 4) : zSh k + (-8) = zSh (k + 1) := by
  have key : ∀ k, k < 4 → zSh k + (-8) = zSh (k + 1) := by decide +kernel
  exact key k h
theorem feed1 {S T : zSt} (r : Rel S T) {L : Nat} (h : S.1 1 1 = nI L) (hL : L + 4 ≤ 940) (v : Int32) : ∃ S' T', fX9_addNumber S v = some S' ∧ fX12_come T v = some T' ∧ Rel S' T' ∧ S'.1 1 1 = nI (L + 4) := by
  obtain ⟨⟨L', l1, l2, l3, l4⟩, -⟩ := id r
  have e : L' = L := (nI_eq (by omega) (by omega)).mp (by rw [← l2, h])
  subst e
  have c := zFd_ok S 2 1 1 L' (zBy v) (by omega) h
  have d := zFd_ok T 1 0 2 L' (zBy v) (by omega) l3
  refine ⟨zFd S 2 1 1 L' (zBy v) 4, zFd T 1 0 2 L' (zBy v) 4, ?_, ?_, ?_, (c 4).2.2.1⟩
  · refine zLp_run (body := fX9_addNumber_3 v) (fun i => (zFd S 2 1 1 L' (zBy v) i, zSh i)) (r := zFd S 2 1 1 L' (zBy v) 4) 4 2000 (fun i hi => ?_) ?_ (by omega)
    · have e2 : zFd S 2 1 1 L' (zBy v) (i + 1) = zI (zI (zFd S 2 1 1 L' (zBy v) i) 2 (L' + i) (zBy v i)) 1 1 (nI (L' + i + 1)) := rfl
      obtain ⟨j, hj, ej⟩ := zBy_in v i
      unfold fX9_addNumber_3
      dsimp only
      rw [e2, zSh_s hi, zSh_nat hi, zBr_q (nI_pos (by omega)), (c i).2.2.1, show (940 : Int32) = nI 940 from rfl, zle_f (by omega) (by omega), zIx_nI (by omega) (by omega), zGd_t, nI_clamp (by omega), show (zUsh v (nI (24 - 8 * i))) &&& (255 : Int32) = zBy v i from rfl, ej, zCh hj, zLt_s, zI_ne (show (1 : Nat) ≠ 2 by omega), (c i).2.2.1, nI_1, zLt_s, zLt_s]
    · unfold fX9_addNumber_3
      dsimp only
      rw [zBr_p (show zSh 4 < 0 by decide), zXr_s]
  · refine zLp_run (body := fX12_come_3 v) (fun i => (zFd T 1 0 2 L' (zBy v) i, zSh i)) (r := zFd T 1 0 2 L' (zBy v) 4) 4 2000 (fun i hi => ?_) ?_ (by omega)
    · have e2 : zFd T 1 0 2 L' (zBy v) (i + 1) = zI (zI (zFd T 1 0 2 L' (zBy v) i) 1 (L' + i) (zBy v i)) 0 2 (nI (L' + i + 1)) := rfl
      unfold fX12_come_3
      dsimp only
      rw [e2, zSh_s hi, zSh_nat hi, zBr_q (nI_pos (by omega)), (d i).2.2.1, zIx_nI (by omega) (by omega), zGd_t, nI_clamp (by omega), show (zUsh v (nI (24 - 8 * i))) &&& (255 : Int32) = zBy v i from rfl, zLt_s, zI_ne (show (0 : Nat) ≠ 1 by omega), (d i).2.2.1, nI_1, zLt_s, zLt_s]
    · unfold fX12_come_3
      dsimp only
      rw [zBr_p (show zSh 4 < 0 by decide), zXr_s]
  · obtain ⟨c1, c2, c3, c4, c5, c6⟩ := c 4
    obtain ⟨d1, d2, d3, d4, d5, d6⟩ := d 4
    refine Rel_tape r (fun a _ => by rw [c1]) (fun a h1 h2 => c2 a h2 h1) (fun a _ => by rw [d1]) (fun a h1 h2 => d2 a h2 h1) (fun j hj => d4 j (by omega)) ⟨L' + 4, by omega, c3, d3, fun i hi => ?_⟩
    by_cases hiL : i < L'
    · rw [c5 i hiL, d5 i hiL]; exact l4 i hiL
    · obtain ⟨k, rfl⟩ : ∃ k, i = L' + k := ⟨i - L', by omega⟩
      rw [c6 k (by omega), d6 k (by omega)]
      exact ⟨rfl, zBy_in v k⟩
theorem op_feed {S T : zSt} (r : Rel S T) (v1 v2 v3 v4 v5 : Int32) : ∃ z S' T', fX11_feed S v1 v2 v3 v4 v5 = some (z, S') ∧ fX12_feed T v1 v2 v3 v4 v5 = some (z, T') ∧ Rel S' T' := by
  have rt := Rel_thrown r 0
  obtain ⟨⟨L, l1, l2, l3, -⟩, -⟩ := id r
  unfold fX11_feed fX12_feed
  rw [zLt_s (a := zI T 0 0 0), zTh0 T 0 2 (by omega), l2, l3, show (20 : Int32) = nI 20 from rfl, nI_add, show (940 : Int32) = nI 940 from rfl]
  by_cases h : L + 20 ≤ 940
  · rw [zle_t h (by omega), zle_t h (by omega)]
    obtain ⟨S1, T1, a1, b1, r1, f1⟩ := feed1 rt l2 (by omega) v1
    obtain ⟨S2, T2, a2, b2, r2, f2⟩ := feed1 r1 f1 (by omega) v2
    obtain ⟨S3, T3, a3, b3, r3, f3⟩ := feed1 r2 f2 (by omega) v3
    obtain ⟨S4, T4, a4, b4, r4, f4⟩ := feed1 r3 f3 (by omega) v4
    obtain ⟨S5, T5, a5, b5, r5, f5⟩ := feed1 r4 f4 (by omega) v5
    obtain ⟨⟨L', q1, q2, q3, -⟩, -⟩ := id r5
    rw [a1, zBd_s, a2, zBd_s, a3, zBd_s, a4, zBd_s, a5, zBd_s, b1, zBd_s, b2, zBd_s, b3, zBd_s, b4, zBd_s, b5, zBd_s, q2, q3]
    exact ⟨nI L', S5, T5, rfl, rfl, r5⟩
  · rw [zle_f (by omega) (by omega), zle_f (by omega) (by omega)]
    exact ⟨-1, S, zI T 0 0 0, rfl, rfl, rt⟩
