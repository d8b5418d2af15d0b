/-! round -/
section Round
variable {S T : zSt} {m : Nat → Int32}
def zFr (S0 S : zSt) : Prop := S.2 = S0.2 ∧ ∀ c, c ≠ 257 → c ≠ 258 → c ≠ 259 → S.1 c = S0.1 c
def zGl (m : Nat → Int32) (s nd : Nat) (w : List Nat) : Prop := wOk (adM m) s w ∧ nd &&& (31 ^^^ wBn (2 ^ s) w) = 0
def zFnd (S0 : zSt) (m : Nat → Int32) (s nd : Nat) (R : Int32 × zSt) : Prop := (∃ S', R = (-1, S') ∧ zFr S0 S' ∧ ∀ w, ¬ zGl m s nd w) ∨ ∃ w g S', R = (nI w.length, zPut (zI S' 256 4 (nI w.length)) 260 g) ∧ zFr S0 S' ∧ zGl m s nd w ∧ (∀ v, zGl m s nd v → wC 1 w ≤ wC 1 v) ∧ ∀ x v, w[x]? = some v → g x = nI v
theorem c_find64 (hh : Rh S.1 4 m) (hw : WFh m) {s nd : Nat} (hsL : s < kL m) (hnd : nd < 32) {P : Nat → List Nat} {E k : Nat} {S1 : zSt} (hkE : k ≤ E) (hB : BI S (adM m) s nd P k 0 E S1) : (∃ P' E' S', fX10_find_64 4 (nI nd) (S1, nI E, nI k) = some (.inl (S', nI E', nI (k + 1))) ∧ k + 1 ≤ E' ∧ BI S (adM m) s nd P' (k + 1) 0 E' S' ∧ k < 160) ∨ ∃ R, fX10_find_64 4 (nI nd) (S1, nI E, nI k) = some (.inr R) ∧ zFnd S m s nd R := by
  have hadj := adM_ok hw
  have h5 := hw.1.2
  have hs : s < 5 := by omega
  obtain ⟨⟨f1, f2⟩, ⟨e1, e2⟩, q1, z, q2, t, o1, o2, cl, ng⟩ := id hB
  have all := BI_all hw hsL hB
  by_cases q : k < E
  · obtain ⟨wk, qk⟩ := q1 k q
    obtain ⟨a1, a2, a3⟩ := cdW_lt hadj hs wk
    have c5 : cdW s (P k) / 5 = wBn (2 ^ s) (P k) := by unfold cdW; omega
    have c6 : cdW s (P k) % 5 = wAt s (P k) := by unfold cdW; omega
    have sg : S1.1 (4 + 2) (wAt s (P k)) = m (6 + wAt s (P k)) := by rw [f2 (4 + 2) (by omega) (by omega) (by omega), hh.2.2.2.1 _ a1]
    have d5 : decide (¬ nI 5 = 0) = true := by decide
    have pre : fX10_find_64 4 (nI nd) (S1, nI E, nI k) = zBr (nI (nd &&& (31 ^^^ wBn (2 ^ s) (P k))) = 0) (zXr (zBd (fX10_keepWay S1 (nI (cdW s (P k)))) (fun S47 => some ((S47.1 256 4), S47)))) (zLp (fX10_find_134 4 (nI nd) (nI k) (nI (wBn (2 ^ s) (P k))) (m (6 + wAt s (P k)))) 2000 (S1, nI E, (0 : Int32))) := by
      unfold fX10_find_64
      dsimp only
      rw [zle_f q (by omega), show (160 : Int32) = nI 160 from rfl, zle_f (show k < 160 by omega) (by omega), zIx_nI (show k < 160 by omega) (by omega), zGd_t, zGd_t, show (5 : Int32) = nI 5 from rfl, d5, zGd_t, nI_clamp (by omega), qk, pk_rem (by omega) (by omega) (by omega), c6, pk_div (by omega) (by omega) (by omega), c5, zLt_s, zGd_t, zGd_t, zIx_nI a1 (by omega), zGd_t, zLt_s, nI_clamp (by omega), sg, (zAn hnd a2).1]
    have lt32 : nd &&& (31 ^^^ wBn (2 ^ s) (P k)) < 32 := Nat.lt_of_le_of_lt Nat.and_le_left hnd
    by_cases g : nd &&& (31 ^^^ wBn (2 ^ s) (P k)) = 0
    · obtain ⟨gg, k1, k2⟩ := keepWay hw hsL q hB
      refine Or.inr ⟨(nI (P k).length, zPut (zI S1 256 4 (nI (P k).length)) 260 gg), ?_, Or.inr ⟨P k, gg, S1, rfl, ⟨f1, f2⟩, ⟨wk, g⟩, fun v hv => ?_, k2⟩⟩
      · rw [pre, g, zBr_p (show nI 0 = 0 from rfl), k1, zBd_s, zPut_ne (show (256 : Nat) ≠ 260 by omega), zI_at, if_pos ⟨rfl, rfl⟩, zXr_s]
      · rcases all v.length v rfl hv.1 with ⟨i, hi, g1, g2⟩ | ⟨-, g2⟩
        · obtain ⟨w1, w2⟩ := cdW_eq hadj hs (q1 i hi).1 hv.1 g1
          by_cases ik : i < k
          · exact absurd (by rw [w2]; exact hv.2) (ng i ik hi)
          · by_cases ek : i = k
            · subst ek; exact g2
            · have := o1 k i (by omega) hi
              omega
        · exact g2
    · obtain ⟨P', E', S', b1, b2, b3, b4⟩ := bfs2 hh hw hsL q hB
      refine Or.inl ⟨P', E', S', ?_, by omega, BI_next hw b3 (by rw [b2]; exact g) b4, by omega⟩
      rw [pre, zBr_q (show ¬ nI (nd &&& (31 ^^^ wBn (2 ^ s) (P k))) = (0 : Int32) from fun z => g ((nI_eq (b := 0) (by omega) (by omega)).mp z)), b1]
  · have ek : k = E := by omega
    subst ek
    refine Or.inr ⟨(-1, S1), ?_, Or.inl ⟨S1, rfl, ⟨f1, f2⟩, fun w hg => ?_⟩⟩
    · unfold fX10_find_64
      dsimp only
      rw [zle_t (Nat.le_refl _) (by omega), zXr_s]
    · rcases all w.length w rfl hg.1 with ⟨i, hi, g1, g2⟩ | ⟨q', -⟩
      · obtain ⟨w1, w2⟩ := cdW_eq hadj hs (q1 i hi).1 hg.1 g1
        exact ng i hi hi (by rw [w2]; exact hg.2)
      · exact q q'
theorem c_find (hh : Rh S.1 4 m) (hw : WFh m) {s nd : Nat} (hsL : s < kL m) (hnd : nd < 32) : ∃ R, fX10_find S 4 (nI s) (nI nd) = some R ∧ zFnd S m s nd R := by
  have h5 := hw.1.2
  have hs : s < 5 := by omega
  obtain ⟨x, hx⟩ : ∃ x, x = 5 * 2 ^ s + s := ⟨_, rfl⟩
  have x160 : x < 160 := by have := zPw hs; omega
  obtain ⟨G, hG⟩ : ∃ G, G = zSeg (fun _ => 0) (S.1 259) 0 160 := ⟨_, rfl⟩
  obtain ⟨S1, hS1⟩ : ∃ X, X = zI (zI (zI (zPut S 259 G) 257 0 (nI x)) 258 x (-1)) 259 x 1 := ⟨_, rfl⟩
  have r9 : ∀ i, i < 160 → S1.1 259 i = if i = x then 1 else 0 := fun i hi => by
    rw [hS1, zI_eq, zI_ne (by omega), zI_ne (by omega), zPut_eq]
    by_cases e : i = x
    · subst e; rw [pk_us, if_pos rfl]
    · rw [pk_un e, if_neg e, hG, zSeg_in (by omega) (by omega)]
  have start : BI S (adM m) s nd (fun _ => []) 0 0 1 S1 := by
    have c0 : cdW s [] = x := by rw [hx]; rfl
    refine ⟨⟨by rw [hS1]; rfl, fun c c1 c2 c3 => by rw [hS1, zI_ne c3, zI_ne c2, zI_ne c1, zPut_ne c3]⟩, ⟨by omega, by omega⟩, fun i hi => ⟨trivial, ?_⟩, ⟨rfl, ?_⟩, fun i i1 i2 => by omega, ⟨fun y => decide (y = x), fun y hy => ?_, fun y => ?_, ?_⟩, fun i j h1 h2 => by omega, fun _ i hi => by show wC 1 [] < 8 * wC 1 [] + 0; decide, fun j y hy => by omega, fun j hj => by omega⟩
    · rw [show i = 0 by omega, c0, hS1, zI_ne (by omega), zI_ne (by omega), zI_at, if_pos ⟨rfl, rfl⟩]
    · rw [c0, hS1, zI_ne (by omega), zI_at, if_pos ⟨rfl, rfl⟩]
    · rw [r9 y hy]
      by_cases e : y = x
      · rw [if_pos e]; simp [e]
      · rw [if_neg e]; simp [e]
    · rw [decide_eq_true_eq]
      exact ⟨fun e => ⟨0, by omega, by rw [e]; exact c0⟩, fun ⟨i, _, e⟩ => by rw [← e]; exact c0⟩
    · have := zCt_set (P := fun _ => false) (Q := fun y => decide (y = x)) (x := x) rfl (decide_eq_true rfl) (fun i hi => decide_eq_false hi) 160
      have z0 : ∀ n, zCt (fun _ => false) n = 0 := by
        intro n
        induction n with
        | zero => rfl
        | succ n ih => rw [zCt, ih, if_neg (by decide)]
      rw [this, z0, if_pos x160]
  obtain ⟨R, e, hR⟩ := zLp_inv (body := fX10_find_64 4 (nI nd)) (fun i y => ∃ P E S', y = (S', nI E, nI i) ∧ i ≤ E ∧ BI S (adM m) s nd P i 0 E S') (fun R => zFnd S m s nd R) 160 (fun i y hi hI => by
    obtain ⟨P, E, S', rfl, h1, h2⟩ := hI
    rcases c_find64 hh hw hsL hnd h1 h2 with ⟨P', E', S2, g1, g2, g3, g4⟩ | ⟨R, g1, g2⟩
    · exact Or.inl ⟨_, g1, ⟨P', E', S2, rfl, g2, g3⟩, g4⟩
    · exact Or.inr ⟨R, g1, g2⟩) 2000 0 (S1, 1, 0) (by omega) (by omega) ⟨_, 1, S1, rfl, by omega, start⟩
  refine ⟨R, ?_, hR⟩
  unfold fX10_find
  refine zLp_copy (c := 259) (o := 0) (n := 160) (f := fun _ => 0) (fun j hj => ?_) ?_ (by omega)
  · unfold fX10_find_3
    dsimp only
    rw [show (160 : Int32) = nI 160 from rfl, zle_f hj (by omega), zIx_nI hj (by omega), zGd_t, zLt_s, zLt_s, nI_clamp (by omega), nI_1, Nat.zero_add]
    rfl
  · unfold fX10_find_3 fX10_state
    dsimp only
    rw [show (160 : Int32) = nI 160 from rfl, zle_t (Nat.le_refl _) (by omega), zSh1 (by omega), show (5 : Int32) = nI 5 from rfl, pk_mul, nI_add, Nat.mul_comm (2 ^ s) 5, ← hx, zBd_s, zg_0_160, zGd_t, zt_0, zLt_s, zIx_nI x160 (by omega), zGd_t, zLt_s, zGd_t, zLt_s, nI_clamp (by omega), ← hG, show vp_nar FieldType.boolean (1 : Int32) = 1 from rfl, ← hS1, e, zXr_s]
theorem op_round (r : Rel S T) (v : Int32) : ∃ z S' T', fX11_round S v = some (z, S') ∧ fX12_round T v = some (z, T') ∧ Rel S' T' := by
  have rt := Rel_thrown r 0
  obtain ⟨-, ⟨hh, hw, hl, hv, -⟩, -⟩ := id r
  have h5 := hw.1.2
  have h6 := hw.2.1.2
  have hc : fX3_has S 4 0 v = some (aIs (kL (T.1 2)) v) := c_has hh (show 0 < 4 by omega) hw.1.1 v
  have hm : fX12_isParlour (zI T 0 0 0) v = some (aIs (kL (T.1 2)) v) := by
    rw [m_isParlour (T := zI T 0 0 0) (by rw [zTh]; exact hw), zTh]
  unfold fX11_round fX12_round
  rw [zLt_s, hc, hm, zBd_s, zBd_s]
  rcases aIs_cases (kL (T.1 2)) v (by omega) with h | ⟨h, s, hs, rfl⟩
  · rw [h, zBr_p rfl, zBr_p rfl]; exact ⟨_, _, _, rfl, rfl, rt⟩
  rw [h, zBr_q (show ¬ (1 : Int32) = 0 by decide), zBr_q (show ¬ (1 : Int32) = 0 by decide)]
  obtain ⟨nd, hnd, ed⟩ := aDp_lt hw hv (kP (T.1 2)) (Nat.le_refl _)
  rw [c_parloursWithDust (b := 14) hh hw hl, ed, zBd_s]
  have hadj := adM_ok hw
  have gl : ∀ w, zGl (T.1 2) s nd w ↔ gW (adM (T.1 2)) s (lfM nd s) w := fun w => by
    constructor
    · rintro ⟨w1, w2⟩
      refine ⟨w1, ?_⟩
      have := (wLf_bn hadj w s (2 ^ s) nd w1 (zPw (by omega)) hnd).2
      rw [w2] at this
      exact this.symm
    · rintro ⟨w1, w2⟩
      refine ⟨w1, ?_⟩
      have := (wLf_bn hadj w s (2 ^ s) nd w1 (zPw (by omega)) hnd).2
      rw [this]
      exact w2
  obtain ⟨R, cR, hR⟩ := c_find hh hw hs hnd
  obtain ⟨f, t, ht, hM⟩ := m_round (T := zI T 0 0 0) (by rw [zTh]; exact hw) (by rw [zTh]; exact hv) (a := s) (nd := nd) (by rw [zTh]; exact hs) hnd (by rw [zTh]; exact ed)
  rw [zTh] at ht hM
  have lk := lfM_lt (k := s) hnd
  obtain ⟨r1, -, -, -, -, r6, r7, r8, r9, -⟩ := id rt
  rw [cR]
  rcases hM with ⟨m1, m2⟩ | ⟨m1, g, m2, m3⟩
  · rcases hR with ⟨S', rfl, ⟨f1, f2⟩, no⟩ | ⟨w, g, S', rfl, -, wg, -⟩
    · rw [m2]
      refine ⟨_, _, _, rfl, rfl, ?_⟩
      refine Rel_side rt (fun c hc => f2 c (by omega) (by omega) (by omega)) (fun c hc => by rw [f1]) ⟨zPut_ne (by omega), zPut_ne (by omega), zPut_ne (by omega), zPut_ne (by omega)⟩ ⟨rfl, rfl⟩ (by rw [zPut_ne (by omega)]) ?_ ?_ ?_ ?_ ?_
      · rw [f2 1 (by omega) (by omega) (by omega), f2 2 (by omega) (by omega) (by omega), zPut_ne (by omega), zPut_ne (by omega)]; exact r1
      · rw [f2 0 (by omega) (by omega) (by omega), zPut_ne (by omega)]; exact r6
      · rw [f2 256 (by omega) (by omega) (by omega), f2 260 (by omega) (by omega) (by omega), zPut_ne (by omega), zPut_ne (by omega)]; exact r7
      · rw [f2 255 (by omega) (by omega) (by omega), zPut_ne (by omega), zPut_ne (by omega)]; exact r8
      · rw [f2 240 (by omega) (by omega) (by omega), zPut_ne (by omega), zPut_ne (by omega)]; exact r9
    · exfalso
      have := tOk_le hadj ht 25 s (lfM nd s) (by omega) lk (eB_25 lk (by omega) (eB_of hadj w s _ ((gl w).mp wg)))
      omega
  · have gm := gM_ok hadj ht (t s (lfM nd s)) s (lfM nd s) (by omega) lk rfl (by omega)
    rcases hR with ⟨S', rfl, -, no⟩ | ⟨w, g', S', rfl, ⟨f1, f2⟩, wg, wmin, wst⟩
    · exact absurd ((gl _).mpr gm.1) (no _)
    · have w1 := wmin _ ((gl _).mpr gm.1)
      have w2 := gM_least hadj ht (a := s) (lf := lfM nd s) (by omega) lk (by omega) ((gl w).mp wg)
      have ew : w = gM (adM (T.1 2)) t (t s (lfM nd s)) s (lfM nd s) := wC_eq hadj wg.1 gm.1.1 (by omega)
      have el : w.length = t s (lfM nd s) := by rw [ew, gM_len]
      rw [m2, ← el]
      refine ⟨_, _, _, rfl, rfl, ?_⟩
      have sc : ∀ c, c ≠ 256 → c ≠ 257 → c ≠ 258 → c ≠ 259 → c ≠ 260 → (zPut (zI S' 256 4 (nI w.length)) 260 g').1 c = S.1 c := fun c c1 c2 c3 c4 c5 => by rw [zPut_ne c5, zI_ne c1, f2 c c2 c3 c4]
      have tc : ∀ c, c ≠ 0 → c ≠ 12 → c ≠ 13 → (zI (zPut (zPut (zI T 0 0 0) 12 f) 13 g) 0 29 (nI w.length)).1 c = (zI T 0 0 0).1 c := fun c c1 c2 c3 => by rw [zI_ne c1, zPut_ne c3, zPut_ne c2]
      have t0 : ∀ j, j ≠ 29 → (zI (zPut (zPut (zI T 0 0 0) 12 f) 13 g) 0 29 (nI w.length)).1 0 j = (zI T 0 0 0).1 0 j := fun j hj => by rw [zI_at, if_neg (by omega), zPut_ne (by omega), zPut_ne (by omega)]
      refine Rel_side rt (fun c hc => sc c (by omega) (by omega) (by omega) (by omega) (by omega)) (fun c hc => by rw [zPut_2, zI_at2, f1]) ⟨tc 2 (by omega) (by omega) (by omega), tc 4 (by omega) (by omega) (by omega), tc 5 (by omega) (by omega) (by omega), tc 10 (by omega) (by omega) (by omega)⟩ ⟨rfl, rfl⟩ (t0 24 (by omega)) ?_ ?_ ?_ ?_ ?_
      · rw [sc 1 (by omega) (by omega) (by omega) (by omega) (by omega), sc 2 (by omega) (by omega) (by omega) (by omega) (by omega), t0 2 (by omega), tc 1 (by omega) (by omega) (by omega)]; exact r1
      · rw [sc 0 (by omega) (by omega) (by omega) (by omega) (by omega), t0 10 (by omega), t0 25 (by omega), t0 26 (by omega)]; exact r6
      · refine ⟨w.length, by omega, ?_, ?_, fun i hi => ?_⟩
        · rw [zPut_ne (by omega), zI_at, if_pos ⟨rfl, rfl⟩]
        · rw [zI_at, if_pos ⟨rfl, rfl⟩]
        · rw [zPut_eq, zI_ne (by omega), zPut_eq, wst i w[i] (List.getElem?_eq_getElem hi), m3 i w[i] (by rw [← ew]; exact List.getElem?_eq_getElem hi)]
      · rw [sc 255 (by omega) (by omega) (by omega) (by omega) (by omega), t0 31 (by omega), tc 14 (by omega) (by omega) (by omega)]; exact r8
      · rw [sc 240 (by omega) (by omega) (by omega) (by omega) (by omega), t0 39 (by omega), tc 17 (by omega) (by omega) (by omega)]; exact r9
end Round
