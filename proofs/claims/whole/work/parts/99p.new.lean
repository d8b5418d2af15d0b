/-! two fresh objects -/
section New
variable {S T : zSt}
theorem Rel_new (s1 : S.1 1 1 = 0) (s4 : S.1 4 9 = 0 ∧ S.1 4 10 = 6 ∧ S.1 4 11 = 2) (s5 : ∀ k, k < 4 → S.1 5 k = 0) (s6 : ∀ l, l < 5 → S.1 6 l = 0) (s14 : S.1 14 1 = 0 ∧ S.1 14 2 = 0) (s44 : S.1 44 1 = 0 ∧ S.1 44 2 = 0) (si : S.1 167 3 = 0 ∧ S.1 198 3 = 0) (s0 : S.1 0 14 = 0 ∧ S.1 0 15 = -1 ∧ S.1 0 16 = -1) (sw : S.1 256 4 = 0) (sc : S.1 255 2 = -1 ∧ S.1 255 3 = -1 ∧ S.1 255 4 = -1) (sb : S.1 240 7 = -1 ∧ S.1 240 8 = -1 ∧ S.1 240 9 = -1 ∧ S.1 240 10 = -1) (ss : S.1 245 4 = 0 ∧ S.1 245 5 = 0) (sk : rKey (S.2 3)) (t0 : T.1 0 2 = 0 ∧ T.1 0 24 = 0 ∧ T.1 0 10 = 0 ∧ T.1 0 25 = -1 ∧ T.1 0 26 = -1 ∧ T.1 0 29 = 0 ∧ T.1 0 31 = 0 ∧ T.1 0 39 = 0 ∧ T.1 0 34 = 0) (t2 : ∀ k, k < 26 → T.1 2 k = if k = 4 then 6 else if k = 5 then 2 else 0) (t164 : T.1 2 164 = 0) (tl : ∀ k, 86 ≤ k → k < 164 → T.1 2 k = -1) (t10 : T.1 10 0 = 0 ∧ T.1 10 1 = 0) : RelT [] S T := by
  have m0 : ∀ k, k < 26 → k ≠ 4 → k ≠ 5 → T.1 2 k = 0 := fun k h1 h2 h3 => by rw [t2 k h1, if_neg h2, if_neg h3]
  have m4 : T.1 2 4 = 6 := by rw [t2 4 (by omega), if_pos rfl]
  have m5 : T.1 2 5 = 2 := by rw [t2 5 (by omega), if_neg (by omega), if_pos rfl]
  have k0 : kL (T.1 2) = 0 := by unfold kL; rw [m0 0 (by omega) (by omega) (by omega)]; rfl
  have k1 : kP (T.1 2) = 0 := by unfold kP; rw [m0 1 (by omega) (by omega) (by omega)]; rfl
  have k2 : kE (T.1 2) = 0 := by unfold kE; rw [m0 2 (by omega) (by omega) (by omega)]; rfl
  have k3 : kD (T.1 2) = 0 := by unfold kD; rw [m0 3 (by omega) (by omega) (by omega)]; rfl
  have kA0 : kA (T.1 2) = 0 := by unfold kA; rw [m0 25 (by omega) (by omega) (by omega)]; rfl
  have e0 : ∀ k, k < 26 → k ≠ 4 → k ≠ 5 → (T.1 2 k).toNatClampNeg = 0 := fun k h1 h2 h3 => by rw [m0 k h1 h2 h3]; rfl
  have hw : WFh (T.1 2) := by
    unfold WFh
    rw [k0, k1, k2, k3]
    refine ⟨⟨by rw [m0 0 (by omega) (by omega) (by omega)]; rfl, by omega⟩, ⟨by rw [m0 1 (by omega) (by omega) (by omega)]; rfl, by omega⟩, ⟨by rw [m0 2 (by omega) (by omega) (by omega)]; rfl, by omega⟩, ⟨by rw [m0 3 (by omega) (by omega) (by omega)]; rfl, by omega⟩, ⟨6, by omega, by omega, by rw [m4]; rfl⟩, ⟨2, by omega, by omega, by rw [m5]; rfl⟩, fun l hl => ⟨0, by decide, by rw [m0 (6 + l) (by omega) (by omega) (by omega)]; rfl⟩, fun p hp => by omega⟩
  refine ⟨⟨⟨0, by omega, by rw [s1]; rfl, by rw [t0.1]; rfl, fun i hi => by omega⟩, ⟨?_, hw, ?_, ?_, ?_, Or.inl ⟨t164, ss.2, ss.1⟩⟩, ⟨0, 0, by omega, by omega, by rw [s44.1]; rfl, by rw [s44.2]; rfl, by rw [t0.2.1]; rfl, fun t ht => by omega⟩, Or.inl ⟨si.1, t10.1⟩, Or.inl ⟨si.2, t10.2⟩, ⟨by rw [s0.1, t0.2.2.1], by rw [s0.2.1, t0.2.2.2.1], by rw [s0.2.2, t0.2.2.2.2.1]⟩, ⟨0, by omega, by rw [sw]; rfl, by rw [t0.2.2.2.2.2.1]; rfl, fun i hi => by omega⟩, Or.inl ⟨t0.2.2.2.2.2.2.1, sc⟩, Or.inl ⟨t0.2.2.2.2.2.2.2.1, sb⟩, sk⟩, by show 0 ≤ 20; omega, by rw [t0.2.2.2.2.2.2.2.2]; rfl, fun i x hx => by simp at hx⟩
  · exact ⟨fun k hk => by rw [m0 k (by omega) (by omega) (by omega)]; exact s5 k hk, by rw [m4]; exact s4.2.1, by rw [m5]; exact s4.2.2, fun l hl => by rw [m0 (6 + l) (by omega) (by omega) (by omega)]; exact s6 l hl, fun p hp => by omega⟩
  · unfold Rl
    rw [k1, kA0]
    exact ⟨by rw [s14.1, m0 24 (by omega) (by omega) (by omega)], by rw [s14.2, m0 25 (by omega) (by omega) (by omega)], fun p hp => by omega, fun i hi => by omega, fun p i hp => by omega⟩
  · unfold WFl
    rw [k1, kA0, k0]
    exact ⟨⟨0, by omega, by rw [m0 24 (by omega) (by omega) (by omega)]; rfl⟩, ⟨by rw [m0 25 (by omega) (by omega) (by omega)]; rfl, by omega⟩, fun p hp => by omega, fun i hi => by omega, fun p i hp => by omega, fun p hp => by omega, fun p i hp => by omega⟩
  · refine ⟨0, by rw [s4.1]; rfl, by rw [k0, k1, k2, k3], fun k hk => by omega, fun s j hs hj => ?_, fun k k' hk => by omega, fun p hp => by rw [k1] at hp; omega⟩
    rw [e0 s (by omega) (by omega) (by omega)] at hj; omega
end New
