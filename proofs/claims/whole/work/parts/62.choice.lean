/-! choice -/
theorem Rel_side {S S' T T' : zSt} (r : Rel S T) (a1 : ∀ c, (4 ≤ c ∧ c < 29) ∨ (44 ≤ c ∧ c < 230) ∨ (245 ≤ c ∧ c < 249) → S'.1 c = S.1 c) (a2 : ∀ c, (3 ≤ c ∧ c < 14) ∨ (167 ≤ c ∧ c < 229) → S'.2 c = S.2 c) (b1 : T'.1 2 = T.1 2 ∧ T'.1 4 = T.1 4 ∧ T'.1 5 = T.1 5 ∧ T'.1 10 = T.1 10) (b2 : T'.2 7 = T.2 7 ∧ T'.2 9 = T.2 9) (b3 : T'.1 0 24 = T.1 0 24) (t1 : rTp (S'.1 1 1) (S'.1 2) (T'.1 0 2) (T'.1 1)) (t6 : S'.1 0 14 = T'.1 0 10 ∧ S'.1 0 15 = T'.1 0 25 ∧ S'.1 0 16 = T'.1 0 26) (t7 : rWay (S'.1 256 4) (S'.1 260) (T'.1 0 29) (T'.1 13)) (t8 : rCho (S'.1 255) (T'.1 0 31) (T'.1 14)) (t9 : rTold (S'.1 240) (T'.1 0 39) (T'.1 17)) : Rel S' T' := by
  obtain ⟨r1, r2, r3, r4, r5, r6, r7, r8, r9, r10⟩ := r
  have h6 := r2.2.1.2.1.2
  unfold Rel
  rw [b1.1, b1.2.1, b1.2.2.1, b1.2.2.2, b2.1, b2.2, b3, a1 44 (by omega), a2 3 (by omega)]
  exact ⟨t1, rAll_cong (fun a q => a1 a (by omega)) (fun a _ _ => a2 a (by omega)) r2, rPast_cong h6 (fun a q1 q2 => a1 a (by omega)) r3, rImg_cong (fun a q1 q2 => a1 a (by omega)) (fun a _ _ => a2 a (by omega)) r4, rImg_cong (fun a q1 q2 => a1 a (by omega)) (fun a _ _ => a2 a (by omega)) r5, t6, t7, t8, t9, r10⟩
def fA (c : Nat → Nat) (n : Nat) : Nat := zFo (fun l a => if c l < c a then l else a) 0 n
theorem fA_s (c : Nat → Nat) (n : Nat) : fA c (n + 1) = if c n < c (fA c n) then n else fA c n := rfl
theorem fA_1 (c : Nat → Nat) : fA c 1 = 0 := by
  show (if c 0 < c 0 then 0 else 0) = 0
  rw [if_neg (by omega)]
theorem fA_lt (c : Nat → Nat) : ∀ n, fA c (n + 1) ≤ n
  | 0 => by rw [fA_1]; omega
  | n + 1 => by
    have := fA_lt c n
    rw [fA_s]
    split <;> omega
def cn (m : Nat → Int32) (l : Nat) : Nat := zCt (fun p => aBit (aSees m p 0) l) (kP m)
theorem cn_le {m : Nat → Int32} (hw : WFh m) (l : Nat) : cn m l ≤ 6 := Nat.le_trans (zCt_le _ _) hw.2.1.2
section Choice
variable {S T : zSt}
theorem c_seeing {m g : Nat → Int32} (hh : Rh S.1 4 m) (hw : WFh m) (hl : Rl S.1 14 m) {v2 v3 : Int32} (hg : ∀ k, (k < 26 ∨ 32 ≤ k) → g k = m k) (hp : ∀ q, q < kP m → g (26 + q) = if nI q = v2 then v3 else m (26 + q)) (hz : ∀ q, q < kP m → zIn (g (26 + q)) (kL m)) {l : Nat} (hl5 : l < 5) : fX2_plantsSeeing S (nI l) v2 v3 = some (nI (cn g l)) := by
  have h6 := hw.2.1.2
  have h5 := hw.1.2
  have kp : kP g = kP m := kP_eq (hg 1 (by omega))
  unfold fX2_plantsSeeing cn
  rw [← zFo_ct, kp]
  refine zLp_fold (F := fun p acc => if aBit (aSees g p 0) l = true then acc + 1 else acc) (n := kP m) (fun acc p hpp => ?_) ?_ (by omega)
  · obtain ⟨a, ha, ea⟩ := hz p hpp
    have eR : aRch g a = nI (aR m a) := by
      rw [← aR_v hw (by omega)]
      unfold aRch
      rw [hg _ (by omega)]
    have eF : aFern g p = aFern m p := by unfold aFern; rw [hg 23 (by omega)]
    have lt : aR m a < 32 := Nat.lt_of_lt_of_le (aR_lt hw ha) (Nat.pow_le_pow_right (by omega) h5)
    have eS : aSees g p 0 = if aFern m p = true then 0 else if m (32 + p) < m 4 then nI (aR m a) else 0 := by
      unfold aSees
      rw [eF, hg (32 + p) (by omega), hg 4 (by omega), ea, nI_clamp (by omega), eR, Int32.add_zero]
    have body : ∀ t0, t0 = nI a → fX2_plantsSeeing_38 S (nI l) v2 v3 acc (nI p) t0 = some (.inl ((if aBit (aSees g p 0) l = true then acc + 1 else acc), nI (p + 1))) := by
      intro t0 et
      unfold fX2_plantsSeeing_38 fX2_plantsSeeing_71
      rw [et, c_isBlind (b := 14) hh hw hl hpp, zBd_s, c_reach hh hw (by omega), zBd_s, c_hasB lt hl5, zBd_s, zLt_s, zLt_s, zLt_s, nI_1, eS]
      by_cases f : aFern m p = true
      · rw [if_pos (Or.inl f), zBr_q (show ¬ (1 : Int32) = 0 by decide), if_pos f, aBit_0 l hl5, if_neg (by decide)]
      · by_cases d : m (32 + p) < m 4
        · rw [if_neg (fun q => q.elim f (fun q => q d)), zBr_p (show (0 : Int32) = 0 from rfl), if_neg f, if_pos d]
          by_cases b : aBit (nI (aR m a)) l = true
          · rw [if_pos b, zBr_q (show ¬ (1 : Int32) = 0 by decide), if_pos b]
          · rw [if_neg b, zBr_p (show (0 : Int32) = 0 from rfl), if_neg b]
        · rw [if_pos (Or.inr d), zBr_q (show ¬ (1 : Int32) = 0 by decide), if_neg f, if_neg d, aBit_0 l hl5, if_neg (by decide)]
    unfold fX2_plantsSeeing_6
    dsimp only
    rw [c_plants (b := 14) hh, zBd_s, hw.2.1.1, zle_f hpp (by omega), zIx_nI (by omega) (by omega), zGd_t, nI_clamp (by omega), (hl.2.2.1 p hpp).1]
    have e1 := hp p hpp
    by_cases e : nI p = v2
    · rw [if_pos e] at e1
      rw [zBr_p e, body v3 (by rw [← e1, ea])]
    · rw [if_neg e] at e1
      rw [zBr_q e, body _ (by rw [← e1, ea])]
  · unfold fX2_plantsSeeing_6
    dsimp only
    rw [c_plants (b := 14) hh, zBd_s, hw.2.1.1, zle_t (by omega) (by omega), zXr_s]
theorem c_answer {m g : Nat → Int32} (hh : Rh S.1 4 m) (hw : WFh m) (hl : Rl S.1 14 m) {v2 v3 : Int32} (hg : ∀ k, (k < 26 ∨ 32 ≤ k) → g k = m k) (hp : ∀ q, q < kP m → g (26 + q) = if nI q = v2 then v3 else m (26 + q)) (hz : ∀ q, q < kP m → zIn (g (26 + q)) (kL m)) {n : Nat} (hn : kL m = n + 1) : fX2_familysAnswer S v2 v3 = some (nI (fA (cn g) (kL m))) := by
  have h5 := hw.1.2
  have wg : WFh g := WFh_m (fun k hk => hg k (by omega)) hw
  have cs : ∀ l, l < 5 → _ := fun l hl5 => c_seeing hh hw hl hg hp hz (l := l) hl5
  unfold fX2_familysAnswer
  have key := zLp_run (body := fX2_familysAnswer_5 S v2 v3) (fun i => (nI (fA (cn g) (i + 1)), nI (i + 1))) (r := nI (fA (cn g) (kL m))) n 2000 (fun i hi => ?_) ?_ (by omega)
  · rw [fA_1] at key
    exact key
  · have f1 := fA_lt (cn g) i
    unfold fX2_familysAnswer_5 fX2_familysAnswer_40
    dsimp only
    rw [zg_0_4, zGd_t, zt_0, hh.1 0 (by omega), hw.1.1, zle_f (by omega) (by omega), cs (i + 1) (by omega), zBd_s, cs _ (by omega), zBd_s, zLt_s, zLt_s, nI_1, fA_s (cn g) (i + 1)]
    have q1 := cn_le wg (i + 1)
    have q2 := cn_le wg (fA (cn g) (i + 1))
    by_cases b : cn g (i + 1) < cn g (fA (cn g) (i + 1))
    · rw [zle_f b (by omega), if_pos b]
    · rw [zle_t (by omega) (by omega), if_neg b]
  · unfold fX2_familysAnswer_5
    dsimp only
    rw [zg_0_4, zGd_t, zt_0, hh.1 0 (by omega), hw.1.1, zle_t (by omega) (by omega), zXr_s, hn]
theorem m_fewest (hw : WFh (T.1 2)) (hv : WFl (T.1 2)) {n : Nat} (hn : kL (T.1 2) = n + 1) : fX12_fewestSee T = some (nI (cn (T.1 2) (fA (cn (T.1 2)) (kL (T.1 2)))), zI T 0 32 (nI (fA (cn (T.1 2)) (kL (T.1 2))))) := by
  have h5 := hw.1.2
  have h6 := hw.2.1.2
  obtain ⟨c, hc⟩ : ∃ c, c = cn (T.1 2) := ⟨_, rfl⟩
  have cl : ∀ l, c l ≤ 6 := fun l => by rw [hc]; exact cn_le hw l
  rw [← hc]
  have inner : ∀ (y : Int32) (b : Bool) (best : Int32) (l : Nat), l < 5 → zLp (fX12_fewestSee_21 (if b = true then T else zI T 0 32 y) best (nI l)) 2000 (0, 0) = some (.inl (if nI (c l) < best then (zI T 0 32 (nI l), nI (c l), nI (l + 1)) else ((if b = true then T else zI T 0 32 y), best, nI (l + 1)))) := by
    intro y b best l hl5
    obtain ⟨X, hX⟩ : ∃ X, X = if b = true then T else zI T 0 32 y := ⟨_, rfl⟩
    have x2 : X.1 2 = T.1 2 := by
      rw [hX]
      cases b
      · exact zI_ne (by omega)
      · rfl
    have x3 : ∀ v, zI X 0 32 v = zI T 0 32 v := fun v => by
      rw [hX]
      cases b
      · exact zI_again _ _ _ _ _
      · rfl
    rw [← hX]
    refine zLp_fold (F := fun p acc => if aBit (aSees (T.1 2) p 0) l = true then acc + 1 else acc) (n := kP (T.1 2)) (fun acc p hpp => ?_) ?_ (by omega)
    · have e6 := m_seesOf (T := X) (by rw [x2]; exact hw) (by rw [x2]; exact hv) (p := p) (by rw [x2]; exact hpp) 0
      rw [x2] at e6
      unfold fX12_fewestSee_21 fX12_fewestSee_49
      dsimp only
      rw [zg_1_406, zGd_t, zt_1, x2, hw.2.1.1, zle_f hpp (by omega), e6, zBd_s, m_hasB, zBd_s, zLt_s, zLt_s, zLt_s, nI_1]
      by_cases q : aBit (aSees (T.1 2) p 0) l = true
      · rw [if_pos q, zBr_q (show ¬ (1 : Int32) = 0 by decide), if_pos q]
      · rw [if_neg q, zBr_p (show (0 : Int32) = 0 from rfl), if_neg q]
    · rw [zFo_ct, show zCt (fun p => aBit (aSees (T.1 2) p 0) l) (kP (T.1 2)) = c l by rw [hc]; rfl]
      unfold fX12_fewestSee_21 fX12_fewestSee_70
      dsimp only
      rw [zg_1_406, zGd_t, zt_1, x2, hw.2.1.1, zle_t (by omega) (by omega), zLt_s, zLt_s, zLt_s, nI_1, x3]
      by_cases q : nI (c l) < best
      · rw [zBr_p q, zXr_s, if_pos q]
      · rw [zBr_q q, zXr_s, if_neg q]
  unfold fX12_fewestSee
  have key := zLp_run (body := fX12_fewestSee_6) (fun i => ((if decide (i = 0) = true then T else zI T 0 32 (nI (fA c i))), (if i = 0 then (100000 : Int32) else nI (c (fA c i))), nI i)) (r := (nI (c (fA c (kL (T.1 2)))), zI T 0 32 (nI (fA c (kL (T.1 2)))))) (n + 1) 2000 (fun i hi => ?_) ?_ (by omega)
  · exact key
  · have x2 : (if decide (i = 0) = true then T else zI T 0 32 (nI (fA c i))).1 2 = T.1 2 := by
      split
      · rfl
      · exact zI_ne (by omega)
    unfold fX12_fewestSee_6
    dsimp only
    rw [zg_0_406, zGd_t, zt_0, x2, hw.1.1, zle_f (by omega) (by omega), inner _ _ _ i (by omega)]
    have c0 := cl i
    have c1 := cl (fA c i)
    by_cases i0 : i = 0
    · subst i0
      rw [if_pos rfl, if_pos (show nI (c 0) < (100000 : Int32) from (nI_ltI (b := 100000) (by omega) (by omega)).mpr (by omega)), if_neg (show ¬ decide (0 + 1 = 0) = true by decide), if_neg (by omega), fA_1]
    · rw [if_neg i0, decide_eq_false i0, if_neg (show ¬ false = true by decide), decide_eq_false (show ¬ i + 1 = 0 by omega), if_neg (show ¬ false = true by decide), if_neg (show ¬ i + 1 = 0 by omega), fA_s]
      by_cases q : c i < c (fA c i)
      · rw [if_pos ((nI_ltI (by omega) (by omega)).mpr q), if_pos q]
      · rw [if_neg (fun z => q ((nI_ltI (by omega) (by omega)).mp z)), if_neg q]
  · unfold fX12_fewestSee_6
    dsimp only
    rw [decide_eq_false (show ¬ n + 1 = 0 by omega), if_neg (show ¬ false = true by decide), if_neg (show ¬ n + 1 = 0 by omega), zg_0_406, zGd_t, zt_0, zI_ne (show (2 : Nat) ≠ 0 by omega), hw.1.1, hn, zle_t (by omega) (by omega), zXr_s]
end Choice
