/-! said: the call -/
theorem c_hasB64 {x i : Nat} (hx : x < 64) (hi : i < 6) : fX11_hasBit (nI x) (nI i) = some (bI (x.testBit i)) := by
  have key : ∀ x, x < 64 → ∀ i, i < 6 → fX11_hasBit (nI x) (nI i) = some (bI (x.testBit i)) := by decide +kernel
  exact key x hx i hi
theorem zSub0 {v : Int32} {c : Nat} : v - nI c = 0 ↔ v = nI c := by
  constructor
  · intro h
    have : v - nI c + nI c = 0 + nI c := by rw [h]
    rwa [Int32.sub_add_cancel, Int32.zero_add] at this
  · intro h
    rw [h, Int32.sub_self]
theorem zSub1 (v : Int32) (c : Nat) : v - nI c + (-1) = v - nI (c + 1) := by
  rw [← nI_1, Int32.sub_eq_add_neg v (nI c + 1), Int32.neg_add, Int32.sub_eq_add_neg (-nI c) 1, ← Int32.add_assoc, ← Int32.sub_eq_add_neg v (nI c)]
section Said4
variable {S T : zSt} {m : Nat → Int32}
theorem c_plantsOf (hh : Rh S.1 4 m) (hw : WFh m) (hl : Rl S.1 14 m) (hv : WFl m) {k : Nat} (ok : sOk (fun j => m (166 + j)) (kL m) (kE m) (k + 1) k) (hN : S.1 245 4 = nI (sComp (fun j => m (166 + j)) (k + 1) k).length) (h40 : (sComp (fun j => m (166 + j)) (k + 1) k).length ≤ 40) (rows : ∀ j x, (sComp (fun j => m (166 + j)) (k + 1) k)[j]? = some x → S.1 246 j = x.1 ∧ S.1 247 j = x.2.1 ∧ S.1 248 j = x.2.2) : ∃ F, fX8_plantsOf S 245 14 = some (zBits (fun p => hV m p (k + 1) k) (kP m), zPut S 249 F) := by
  obtain ⟨F, r1, r2, -⟩ := st_run hh hw hl hv hN h40 (k + 1) k ok 0 0 (S.1 249) (Nat.le_refl _) (by omega) (fun j x hx => by rw [Nat.zero_add]; exact rows j x hx)
  refine ⟨F, ?_⟩
  rw [zPut_id] at r1
  unfold fX8_plantsOf fX11_allBits
  rw [c_plants (b := 14) hh, zBd_s, hw.2.1.1, zBd_s]
  refine zRun_lp r1 ?_ (by omega)
  unfold fX8_plantsOf_13
  dsimp only
  rw [zPut_ne (show (245 : Nat) ≠ 249 by omega), hN, zle_t (by omega) (by omega), zBr_p (show nI (0 + 1) = 1 from rfl), zg_0_40, zGd_t, zt_0, zXr_s, show 245 + 4 = 249 from rfl, zPut_eq, r2]
theorem c_plantAt {P : Nat → Bool} {n : Nat} (hn : n ≤ 6) (v : Int32) : fX11_plantAt (zBits P n) v = some (match (List.range n).find? (fun p => P p && decide (v = nI (zCt P p))) with | some p => nI p | none => -1) := by
  have h1 := zBn_lt P n
  have h2 : 2 ^ n ≤ 2 ^ 6 := Nat.pow_le_pow_right (by omega) hn
  have hb : ∀ i, i < 6 → fX11_hasBit (zBits P n) (nI i) = some (bI (decide (i < n) && P i)) := fun i hi => by
    rw [zBits_n P n (by omega), c_hasB64 (by omega) hi, zBn_test]
  unfold fX11_plantAt
  have step : ∀ i, i < 6 → fX11_plantAt_4 (zBits P n) (v - nI (zCt P i), nI i) = if (decide (i < n) && P i) = true ∧ v = nI (zCt P i) then some (.inr (nI i)) else some (.inl (v - nI (if (decide (i < n) && P i) = true then zCt P i + 1 else zCt P i), nI (i + 1))) := by
    intro i hi
    unfold fX11_plantAt_4 fX11_plantAt_27
    dsimp only
    rw [show (6 : Int32) = nI 6 from rfl, zle_f hi (by omega), hb i hi, zBd_s, bI_br, zLt_s, zLt_s, zLt_s, nI_1]
    by_cases q : (decide (i < n) && P i) = true
    · rw [if_pos q, if_pos q]
      by_cases q2 : v = nI (zCt P i)
      · rw [zBr_p (zSub0.mpr q2), zXr_s, if_pos ⟨q, q2⟩]
      · rw [zBr_q (fun z => q2 (zSub0.mp z)), if_neg (fun z => q2 z.2), zSub1]
    · rw [if_neg q, if_neg q, if_neg (fun z => q z.1)]
  have cnt : ∀ i, i < n → (if (decide (i < n) && P i) = true then zCt P i + 1 else zCt P i) = zCt P (i + 1) := fun i hi => by
    rw [zCt, decide_eq_true hi, Bool.true_and]
    by_cases q : P i = true
    · rw [if_pos q, if_pos q]
    · rw [if_neg q, if_neg q]; rfl
  rcases zFirst (fun p => ¬ (P p = true ∧ v = nI (zCt P p))) n with all | ⟨q, hq, h3, h4⟩
  · have e : (List.range n).find? (fun p => P p && decide (v = nI (zCt P p))) = none := by
      rw [List.find?_eq_none]
      intro x hx
      have := all x (List.mem_range.mp hx)
      rw [Bool.and_eq_true, decide_eq_true_eq]
      exact this
    rw [e]
    have key := zLp_run (body := fX11_plantAt_4 (zBits P n)) (fun i => (v - nI (zCt P (min i n)), nI i)) (r := (-1 : Int32)) 6 2000 (fun i hi => ?_) ?_ (by omega)
    · rw [show v - nI (zCt P (min 0 n)) = v by rw [Nat.zero_min]; exact Int32.sub_zero v] at key
      exact key
    · by_cases hin : i < n
      · rw [Nat.min_eq_left (by omega), Nat.min_eq_left (by omega), step i hi, if_neg (fun z => all i hin ⟨by rw [decide_eq_true hin, Bool.true_and] at z; exact z.1, z.2⟩), cnt i hin]
      · have hz : (decide (i < n) && P i) = false := by rw [decide_eq_false hin]; rfl
        rw [Nat.min_eq_right (by omega), Nat.min_eq_right (by omega)]
        unfold fX11_plantAt_4 fX11_plantAt_27
        dsimp only
        rw [show (6 : Int32) = nI 6 from rfl, zle_f hi (by omega), hb i hi, zBd_s, bI_br, hz, if_neg (by decide), zLt_s, nI_1]
    · unfold fX11_plantAt_4
      dsimp only
      rw [zBr_p (show (6 : Int32) ≤ nI 6 by decide), zXr_s]
  · have h5 : P q = true ∧ v = nI (zCt P q) := Classical.byContradiction h4
    have e : (List.range n).find? (fun p => P p && decide (v = nI (zCt P p))) = some q := by
      rw [List.find?_range_eq_some]
      refine ⟨by rw [h5.1, decide_eq_true h5.2]; rfl, List.mem_range.mpr hq, fun j hj => ?_⟩
      have := h3 j hj
      rw [Bool.not_eq_true', Bool.and_eq_false_iff]
      by_cases a : P j = true
      · exact Or.inr (decide_eq_false (fun z => this ⟨a, z⟩))
      · exact Or.inl (Bool.not_eq_true _ |>.mp a)
    rw [e]
    have key := zLp_run (body := fX11_plantAt_4 (zBits P n)) (fun i => (v - nI (zCt P i), nI i)) (r := nI q) q 2000 (fun i hi => ?_) ?_ (by omega)
    · rw [show v - nI (zCt P 0) = v from Int32.sub_zero v] at key
      exact key
    · rw [step i (by omega), if_neg (fun z => h3 i hi ⟨by rw [decide_eq_true (show i < n by omega), Bool.true_and] at z; exact z.1, z.2⟩), cnt i (by omega)]
    · rw [step q (by omega), if_pos ⟨by rw [decide_eq_true hq, Bool.true_and]; exact h5.1, h5.2⟩]
theorem op_said (r : Rel S T) (v : Int32) : ∃ z S' T', fX11_said S v = some (z, S') ∧ fX12_said T v = some (z, T') ∧ Rel S' T' := by
  have rt := Rel_thrown r 0
  obtain ⟨-, ⟨hh, hw, hl, hv, -, hs⟩, -⟩ := id r
  have h6 := hw.2.1.2
  unfold fX11_said fX12_said
  rw [zLt_s, zg_164_406, zGd_t, zt_164, zTh]
  rcases hs with ⟨s1, s2, -⟩ | ⟨s1, k, o, s2, s3, s4, s5, s6, s7, s8, s9⟩
  · rw [s1, s2, zBr_p rfl, zBr_p rfl]
    exact ⟨_, _, _, rfl, rfl, rt⟩
  rw [s1, s3, zBr_q (show ¬ (1 : Int32) = 0 by decide), zBr_q (show ¬ nI o = (0 : Int32) from fun q => by have := (nI_eq (b := 0) (by omega) (by omega)).mp q; omega)]
  obtain ⟨F, eF⟩ := c_plantsOf hh hw hl hv s6 s7 s8 s9
  obtain ⟨P, hP⟩ : ∃ P : Nat → Bool, P = fun p => hV (T.1 2) p (k + 1) k := ⟨_, rfl⟩
  rw [← hP] at eF
  have k60 : k < 60 := s6.1
  have st : ∀ i, i < kP (T.1 2) → fX12_said_22 (zI T 0 0 0) v (nI (zCt P i), nI i) = if P i = true ∧ v = nI (zCt P i) then some (.inr (nI i, zI T 0 0 0)) else some (.inl (nI (zCt P (i + 1)), nI (i + 1))) := by
    intro i hi
    have ho := m_holds (T := zI T 0 0 0) (by rw [zTh]; exact hw) (by rw [zTh]; exact hv) (p := i) (by rw [zTh]; exact hi) (k + 1) 64 k (by rw [zTh]; exact s6) (by omega)
    rw [zTh, show hV (T.1 2) i (k + 1) k = P i by rw [hP]] at ho
    unfold fX12_said_22 fX12_said_61
    dsimp only
    rw [zTh, zg_1_406, zGd_t, zt_1, hw.2.1.1, zle_f hi (by omega), zg_165_406, zGd_t, zt_165, s2, ho, zBd_s, bI_br, zLt_s, zLt_s, zLt_s, nI_1, nI_1, zCt]
    by_cases q : P i = true
    · rw [if_pos q, if_pos q]
      by_cases q2 : v = nI (zCt P i)
      · rw [zBr_p q2.symm, zXr_s, if_pos ⟨q, q2⟩]
      · rw [zBr_q (fun z => q2 z.symm), if_neg (fun z => q2 z.2)]
    · rw [if_neg q, if_neg q, if_neg (fun z => q z.1)]
      rfl
  have ex : fX12_said_22 (zI T 0 0 0) v (nI (zCt P (kP (T.1 2))), nI (kP (T.1 2))) = some (.inr (if v = -1 then nI (zCt P (kP (T.1 2))) else -1, zI T 0 0 0)) := by
    unfold fX12_said_22
    dsimp only
    rw [zTh, zg_1_406, zGd_t, zt_1, hw.2.1.1, zle_t (Nat.le_refl _) (by omega)]
    by_cases q : v = -1
    · rw [zBr_p q, zXr_s, if_pos q]
    · rw [zBr_q q, zXr_s, if_neg q]
  have relF : Rel (zPut S 249 F) (zI T 0 0 0) := by
    obtain ⟨r1, -, -, -, -, r6, r7, r8, r9, -⟩ := id rt
    refine Rel_side rt (fun c hc => zPut_ne (by omega)) (fun c hc => rfl) ⟨rfl, rfl, rfl, rfl⟩ ⟨rfl, rfl⟩ rfl ?_ ?_ ?_ ?_ ?_
    · rw [zPut_ne (by omega), zPut_ne (by omega)]; exact r1
    · rw [zPut_ne (by omega)]; exact r6
    · rw [zPut_ne (by omega), zPut_ne (by omega)]; exact r7
    · rw [zPut_ne (by omega)]; exact r8
    · rw [zPut_ne (by omega)]; exact r9
  have nope : v < 0 → zLp (fX12_said_22 (zI T 0 0 0) v) 2000 (0, 0) = some (if v = -1 then nI (zCt P (kP (T.1 2))) else -1, zI T 0 0 0) := fun hv0 => by
    refine zLp_run (body := fX12_said_22 (zI T 0 0 0) v) (fun i => (nI (zCt P i), nI i)) (kP (T.1 2)) 2000 (fun i hi => ?_) ex (by omega)
    rw [st i hi, if_neg (fun z => ?_)]
    rw [z.2] at hv0
    have := zCt_le P i
    exact nI_pos (by omega) hv0
  by_cases v1 : v = -1
  · subst v1
    rw [zBr_p (show (-1 : Int32) ≤ -1 by decide), eF, zBp_s, zBr_p rfl, c_bitcB P (by omega), zBd_s, nope (by decide), if_pos rfl]
    exact ⟨_, _, _, rfl, rfl, relF⟩
  by_cases v0 : v < 0
  · have hlt : ¬ (-1 : Int32) ≤ v := fun q => v1 (by
      rw [Int32.le_iff_toInt_le] at q
      rw [Int32.lt_iff_toInt_lt] at v0
      have a1 : (-1 : Int32).toInt = -1 := rfl
      have a2 : (0 : Int32).toInt = 0 := rfl
      rw [← Int32.toInt_inj]
      omega)
    rw [zBr_q hlt, nope v0, if_neg v1]
    exact ⟨_, _, _, rfl, rfl, rt⟩
  · have hge : (-1 : Int32) ≤ v := by
      rw [Int32.le_iff_toInt_le]
      rw [Int32.lt_iff_toInt_lt] at v0
      have a1 : (-1 : Int32).toInt = -1 := rfl
      have a2 : (0 : Int32).toInt = 0 := rfl
      omega
    rw [zBr_p hge, eF, zBp_s, zBr_q v1, c_plantAt h6, zBd_s]
    refine ⟨_, _, _, rfl, ?_, relF⟩
    rcases zFirst (fun p => ¬ (P p = true ∧ v = nI (zCt P p))) (kP (T.1 2)) with all | ⟨q, hq, h3, h4⟩
    · have e : (List.range (kP (T.1 2))).find? (fun p => P p && decide (v = nI (zCt P p))) = none := by
        rw [List.find?_eq_none]
        intro x hx
        have := all x (List.mem_range.mp hx)
        rw [Bool.and_eq_true, decide_eq_true_eq]
        exact this
      rw [e]
      refine zLp_run (body := fX12_said_22 (zI T 0 0 0) v) (fun i => (nI (zCt P i), nI i)) (kP (T.1 2)) 2000 (fun i hi => ?_) ?_ (by omega)
      · rw [st i hi, if_neg (all i hi)]
      · rw [ex, if_neg v1]
    · have h5 : P q = true ∧ v = nI (zCt P q) := Classical.byContradiction h4
      have e : (List.range (kP (T.1 2))).find? (fun p => P p && decide (v = nI (zCt P p))) = some q := by
        rw [List.find?_range_eq_some]
        refine ⟨by rw [h5.1, decide_eq_true h5.2]; rfl, List.mem_range.mpr hq, fun j hj => ?_⟩
        have := h3 j hj
        rw [Bool.not_eq_true', Bool.and_eq_false_iff]
        by_cases a : P j = true
        · exact Or.inr (decide_eq_false (fun z => this ⟨a, z⟩))
        · exact Or.inl (Bool.not_eq_true _ |>.mp a)
      rw [e]
      refine zLp_run (body := fX12_said_22 (zI T 0 0 0) v) (fun i => (nI (zCt P i), nI i)) q 2000 (fun i hi => ?_) ?_ (by omega)
      · rw [st i (by omega), if_neg (h3 i hi)]
      · rw [st q hq, if_pos h5]
end Said4
