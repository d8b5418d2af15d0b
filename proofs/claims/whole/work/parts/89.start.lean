/-! a house begun anew -/
def rSo (g : Nat → Int32) : Nat → Int32 := fun k => if 26 ≤ k ∧ k < 32 then g (k - 15) else if 86 ≤ k ∧ k < 164 then -1 else if 24 ≤ k ∧ k < 406 then 0 else g k
section Start
variable {S T : zSt}
theorem zSeg_z {g f : Nat → Int32} {o n k : Nat} (hf : ∀ i, f i = (0 : Int32)) (h1 : o ≤ k) (h2 : k < o + n) : zSeg f g o n k = 0 := by rw [zSeg_in h1 h2, hf]
theorem m_startSo : fX12_startSo T = some (zPut T 2 (rSo (T.1 2))) := by
  obtain ⟨g0, hg0⟩ : ∃ g, g = T.1 2 := ⟨_, rfl⟩
  rw [← hg0]
  obtain ⟨g1, hg1⟩ : ∃ g, g = zSeg (fun _ => 0) g0 24 382 := ⟨_, rfl⟩
  obtain ⟨g2, hg2⟩ : ∃ g, g = zSeg (fun _ => -1) g1 86 78 := ⟨_, rfl⟩
  have e3 : zSeg (fun p => g2 (11 + p)) g2 26 6 = rSo g0 := by
    funext k
    unfold rSo
    by_cases c1 : 26 ≤ k ∧ k < 32
    · rw [if_pos c1, zSeg_in c1.1 (by omega), hg2, zSeg_out (by omega), hg1, zSeg_out (by omega)]
      congr 1
      omega
    · rw [if_neg c1, zSeg_out (by omega), hg2]
      by_cases c2 : 86 ≤ k ∧ k < 164
      · rw [if_pos c2, zSeg_in c2.1 (by omega)]
      · rw [if_neg c2, zSeg_out (by omega), hg1]
        by_cases c3 : 24 ≤ k ∧ k < 406
        · rw [if_pos c3, zSeg_in c3.1 (by omega)]
        · rw [if_neg c3, zSeg_out (by omega)]
  have l3 : zLp fX12_startSo_48 2000 (zPut T 2 g2, 0) = some (zPut T 2 (rSo g0)) := by
    have key := zLp_copy (body := fX12_startSo_48) (T := zPut T 2 g2) (c := 2) (o := 26) (n := 6) (fuel := 2000) (f := fun p => g2 (11 + p)) (r := zPut T 2 (rSo g0)) (fun i hi => ?_) ?_ (by omega)
    · exact key
    · unfold fX12_startSo_48
      dsimp only
      rw [zPut_put, zPut_eq, zPut_eq, show (6 : Int32) = nI 6 from rfl, zle_f hi (by omega), zo_11, zo_26, zIx_nI (by omega) (by omega), zGd_t, zIx_nI (by omega) (by omega), zGd_t, zLt_s, zLt_s, nI_clamp (by omega), nI_clamp (by omega), nI_1, zSeg_out (by omega)]
    · unfold fX12_startSo_48
      dsimp only
      rw [zBr_p (show (6 : Int32) ≤ nI 6 by decide), zXr_s, zPut_put, zPut_eq, e3]
  have l2 : zLp fX12_startSo_26 2000 (zPut T 2 g1, 86) = some (zPut T 2 (rSo g0)) := by
    have key := zLp_run (body := fX12_startSo_26) (fun i => (zPut T 2 (zSeg (fun _ => -1) g1 86 i), nI (86 + i))) (r := zPut T 2 (rSo g0)) 78 2000 (fun i hi => ?_) ?_ (by omega)
    · rw [zSeg_0] at key
      exact key
    · unfold fX12_startSo_26
      dsimp only
      rw [show (164 : Int32) = nI 164 from rfl, zle_f (by omega) (by omega), zIx_nI (by omega) (by omega), zGd_t, zLt_s, zLt_s, nI_clamp (by omega), zI_zPut, nI_1]
      have := zSeg_s (fun _ => (-1 : Int32)) g1 86 i
      rw [this]
      rfl
    · unfold fX12_startSo_26
      dsimp only
      rw [zBr_p (show (164 : Int32) ≤ nI (86 + 78) by decide), ← hg2, l3, zXr_s]
  unfold fX12_startSo
  have key := zLp_run (body := fX12_startSo_3) (fun i => (zPut T 2 (zSeg (fun _ => 0) g0 24 i), nI (24 + i))) (r := zPut T 2 (rSo g0)) 382 2000 (fun i hi => ?_) ?_ (by omega)
  · rw [zSeg_0, hg0, zPut_id, ← hg0] at key
    exact key
  · unfold fX12_startSo_3
    dsimp only
    rw [show (406 : Int32) = nI 406 from rfl, zle_f (by omega) (by omega), zIx_nI (by omega) (by omega), zGd_t, zLt_s, zLt_s, nI_clamp (by omega), zI_zPut, nI_1]
    have := zSeg_s (fun _ => (0 : Int32)) g0 24 i
    rw [this]
    rfl
  · unfold fX12_startSo_3
    dsimp only
    rw [zBr_p (show (406 : Int32) ≤ nI (24 + 382) by decide), ← hg1, l2, zXr_s]
/-- the reference, its draft taken -/
theorem m_houseEnd (v : Int32) : zLp (fX12_house_95 v) 2000 (T, 0) = some (v, zI (zPut (zPutJ T 7 (zSegJ (T.2 8) (T.2 7) 0 20)) 2 (rSo (zSeg (T.1 3) (T.1 2) 0 24))) 0 24 0) := by
  refine zLp_copy (c := 2) (o := 0) (n := 24) (f := T.1 3) (fun i hi => ?_) ?_ (by omega)
  · unfold fX12_house_95
    dsimp only
    rw [show (24 : Int32) = nI 24 from rfl, zle_f hi (by omega), zIx_nI (by omega) (by omega), zGd_t, zIx_nI (by omega) (by omega), zGd_t, zLt_s, zLt_s, nI_clamp (by omega), nI_1, zPut_ne (by omega), Nat.zero_add]
  · unfold fX12_house_95
    dsimp only
    rw [zBr_p (show (24 : Int32) ≤ nI 24 by decide)]
    have := zLp_copyJ (body := fX12_house_121 v) (T := zPut T 2 (zSeg (T.1 3) (T.1 2) 0 24)) (c := 7) (o := 0) (n := 20) (fuel := 2000) (f := T.2 8) (r := (v, zI (zPut (zPutJ T 7 (zSegJ (T.2 8) (T.2 7) 0 20)) 2 (rSo (zSeg (T.1 3) (T.1 2) 0 24))) 0 24 0)) (fun i hi => ?_) ?_ (by omega)
    · rw [this, zXr_s]
    · unfold fX12_house_121
      dsimp only
      rw [show (20 : Int32) = nI 20 from rfl, zle_f hi (by omega), zIx_nI (by omega) (by omega), zGd_t, zGd_t, zLt_s, zLt_s, nI_clamp (by omega), nI_1, zPutJ_ne (by omega), Nat.zero_add]
      rfl
    · unfold fX12_house_121
      dsimp only
      rw [zBr_p (show (20 : Int32) ≤ nI 20 by decide), m_startSo, zBd_s, zLt_s, zXr_s, zPutJ_1, zPut_eq]
      have e : zPut (zPutJ (zPut T 2 (zSeg (T.1 3) (T.1 2) 0 24)) 7 (zSegJ (T.2 8) ((zPut T 2 (zSeg (T.1 3) (T.1 2) 0 24)).2 7) 0 20)) 2 (rSo (zSeg (T.1 3) (T.1 2) 0 24)) = zPut (zPutJ T 7 (zSegJ (T.2 8) (T.2 7) 0 20)) 2 (rSo (zSeg (T.1 3) (T.1 2) 0 24)) := by
        unfold zPut zPutJ
        refine Prod.ext ?_ rfl
        funext a
        by_cases h : a = 2 <;> simp [h]
      rw [e]
/-- the class's life begun anew -/
theorem c_begin (hz : ∀ p, p < 6 → True) : ∃ S', fX6_begin S 14 = some S' ∧ S'.2 = S.2 ∧ (∀ c, c ≠ 14 → c ≠ 26 → c ≠ 27 → c ≠ 28 → S'.1 c = S.1 c) ∧ S'.1 14 1 = 0 ∧ S'.1 14 2 = 0 ∧ ∀ p, p < 6 → S'.1 26 p = 0 ∧ S'.1 28 p = 0 ∧ S'.1 27 p = S.1 7 p := by
  unfold fX6_begin
  rw [zLt_s, zLt_s]
  obtain ⟨R, e, h⟩ := zLp_inv (body := fX6_begin_12 14) (fun i s => ∃ X, s = (X, nI i) ∧ X.2 = S.2 ∧ (∀ c, c ≠ 14 → c ≠ 26 → c ≠ 27 → c ≠ 28 → X.1 c = S.1 c) ∧ X.1 14 1 = 0 ∧ X.1 14 2 = 0 ∧ ∀ p, p < i → X.1 26 p = 0 ∧ X.1 28 p = 0 ∧ X.1 27 p = S.1 7 p) (fun X => X.2 = S.2 ∧ (∀ c, c ≠ 14 → c ≠ 26 → c ≠ 27 → c ≠ 28 → X.1 c = S.1 c) ∧ X.1 14 1 = 0 ∧ X.1 14 2 = 0 ∧ ∀ p, p < 6 → X.1 26 p = 0 ∧ X.1 28 p = 0 ∧ X.1 27 p = S.1 7 p) 6 (fun i s hi hI => by
    obtain ⟨X, rfl, x1, x2, x3, x4, x5⟩ := hI
    unfold fX6_begin_12
    dsimp only
    by_cases q : i < 6
    · refine Or.inl ⟨(zI (zI (zI X 26 i 0) 28 i 0) 27 i (S.1 7 i), nI (i + 1)), ?_, ⟨_, rfl, x1, fun c c1 c2 c3 c4 => by rw [zI_ne c3, zI_ne c4, zI_ne c2]; exact x2 c c1 c2 c3 c4, by rw [zI_ne (by omega), zI_ne (by omega), zI_ne (by omega)]; exact x3, by rw [zI_ne (by omega), zI_ne (by omega), zI_ne (by omega)]; exact x4, fun p hp => ?_⟩, q⟩
      · rw [show (6 : Int32) = nI 6 from rfl, zle_f q (by omega), zIx_nI q (by omega), zGd_t, zLt_s, zGd_t, zLt_s, zGd_t, zGd_t, zLt_s, zLt_s, nI_clamp (by omega), nI_1, show zHs 14 = 4 from rfl, show (zI (zI X (14 + 12) i 0) (14 + 14) i 0).1 (4 + 3) i = S.1 7 i by rw [zI_ne (by omega), zI_ne (by omega), x2 (4 + 3) (by omega) (by omega) (by omega) (by omega)]]
      · by_cases e : p = i
        · subst e
          exact ⟨by rw [zI_ne (by omega), zI_ne (by omega), zI_at, if_pos ⟨rfl, rfl⟩], by rw [zI_ne (by omega), zI_at, if_pos ⟨rfl, rfl⟩], by rw [zI_at, if_pos ⟨rfl, rfl⟩]⟩
        · obtain ⟨y1, y2, y3⟩ := x5 p (by omega)
          exact ⟨by rw [zI_ne (by omega), zI_ne (by omega), zI_at, if_neg (by omega)]; exact y1, by rw [zI_ne (by omega), zI_at, if_neg (by omega), zI_ne (by omega)]; exact y2, by rw [zI_at, if_neg (by omega), zI_ne (by omega), zI_ne (by omega)]; exact y3⟩
    · have ei : i = 6 := by omega
      subst ei
      exact Or.inr ⟨X, by rw [zBr_p (show (6 : Int32) ≤ nI 6 by decide), zXr_s], x1, x2, x3, x4, x5⟩) 2000 0 (zI (zI S 14 1 0) 14 2 0, 0) (by omega) (by omega) ⟨_, rfl, rfl, fun c c1 _ _ _ => by rw [zI_ne c1, zI_ne c1], by rw [zI_at, if_neg (by omega), zI_at, if_pos ⟨rfl, rfl⟩], by rw [zI_at, if_pos ⟨rfl, rfl⟩], fun p hp => by omega⟩
  exact ⟨R, e, h⟩
/-- the class's draft begun anew -/
theorem c_clear : ∃ S', fX3_clear S 230 = some S' ∧ S'.2 = S.2 ∧ (∀ c, c ≠ 230 → c ≠ 231 → c ≠ 232 → S'.1 c = S.1 c) ∧ (∀ k, k < 4 → S'.1 231 k = 0) ∧ (∀ l, l < 5 → S'.1 232 l = 0) ∧ S'.1 230 9 = 0 ∧ S'.1 230 10 = 6 ∧ S'.1 230 11 = 2 := by
  obtain ⟨S2, hS2⟩ : ∃ X, X = zPut S 231 (zSeg (fun _ => 0) (S.1 231) 0 4) := ⟨_, rfl⟩
  obtain ⟨S3, hS3⟩ : ∃ X, X = zPut S2 232 (zSeg (fun _ => 0) (S2.1 232) 0 5) := ⟨_, rfl⟩
  have n3 : ∀ c, c ≠ 231 → c ≠ 232 → S3.1 c = S.1 c := fun c c1 c2 => by rw [hS3, zPut_ne c2, hS2, zPut_ne c1]
  refine ⟨zI (zI (zI S3 230 9 0) 230 10 6) 230 11 2, ?_, by rw [hS3, hS2]; rfl, fun c c0 c1 c2 => by rw [zI_ne c0, zI_ne c0, zI_ne c0, n3 c c1 c2], fun k hk => ?_, fun l hl => ?_, by rw [zI_at, if_neg (by omega), zI_at, if_neg (by omega), zI_at, if_pos ⟨rfl, rfl⟩], by rw [zI_at, if_neg (by omega), zI_at, if_pos ⟨rfl, rfl⟩], by rw [zI_at, if_pos ⟨rfl, rfl⟩]⟩
  · unfold fX3_clear
    refine zLp_copy (c := 231) (o := 0) (n := 4) (f := fun _ => 0) (fun i hi => ?_) ?_ (by omega)
    · unfold fX3_clear_2
      dsimp only
      rw [show (4 : Int32) = nI 4 from rfl, zle_f hi (by omega), zIx_nI hi (by omega), zGd_t, zLt_s, zLt_s, nI_clamp (by omega), nI_1, Nat.zero_add]
    · unfold fX3_clear_2
      dsimp only
      rw [zBr_p (show (4 : Int32) ≤ nI 4 by decide), ← hS2]
      have := zLp_copy (body := fX3_clear_22 230) (T := S2) (c := 232) (o := 0) (n := 5) (fuel := 2000) (f := fun _ => 0) (r := zI (zI (zI S3 230 9 0) 230 10 6) 230 11 2) (fun i hi => ?_) ?_ (by omega)
      · rw [this, zXr_s]
      · unfold fX3_clear_22
        dsimp only
        rw [show (5 : Int32) = nI 5 from rfl, zle_f hi (by omega), zIx_nI hi (by omega), zGd_t, zLt_s, zLt_s, nI_clamp (by omega), nI_1, Nat.zero_add]
      · unfold fX3_clear_22
        dsimp only
        rw [zBr_p (show (5 : Int32) ≤ nI 5 by decide), ← hS3, zLt_s, zLt_s, zLt_s, zXr_s]
  · rw [zI_ne (by omega), zI_ne (by omega), zI_ne (by omega), hS3, zPut_ne (by omega), hS2, zPut_eq, zSeg_in (by omega) (by omega)]
  · rw [zI_ne (by omega), zI_ne (by omega), zI_ne (by omega), hS3, zPut_eq, zSeg_in (by omega) (by omega)]
end Start
