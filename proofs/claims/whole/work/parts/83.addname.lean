/-! a name added to the draft -/
def mMost (s : Nat) : Nat := if s = 0 then 5 else if s = 1 then 6 else if s = 2 then 4 else 5
theorem mMost_c {m : Nat → Int32} (hw : WFc m) {s : Nat} (hs : s < 4) : (m s).toNatClampNeg ≤ mMost s := by
  obtain ⟨⟨-, a2⟩, ⟨-, b2⟩, ⟨-, c2⟩, ⟨-, d2⟩, -⟩ := hw
  rcases (show s = 0 ∨ s = 1 ∨ s = 2 ∨ s = 3 by omega) with rfl | rfl | rfl | rfl
  · exact a2
  · exact b2
  · exact c2
  · exact d2
theorem nB_dis {s s' c c' : Nat} (hs : s < 4) (hs' : s' < 4) (hc : c < mMost s) (hc' : c' < mMost s') (h : nB s + c = nB s' + c') : s = s' ∧ c = c' := by
  rcases (show s = 0 ∨ s = 1 ∨ s = 2 ∨ s = 3 by omega) with rfl | rfl | rfl | rfl <;> rcases (show s' = 0 ∨ s' = 1 ∨ s' = 2 ∨ s' = 3 by omega) with rfl | rfl | rfl | rfl <;> simp [nB, mMost] at h hc hc' <;> first | exact ⟨rfl, by omega⟩ | omega
theorem nB_20 {s c : Nat} (hs : s < 4) (hc : c < mMost s) : nB s + c < 20 := by
  rcases (show s = 0 ∨ s = 1 ∨ s = 2 ∨ s = 3 by omega) with rfl | rfl | rfl | rfl <;> simp [nB, mMost] at hc ⊢ <;> omega
theorem upd_cnt {m : Nat → Int32} {s n : Nat} (hn : n < 1000) : (upd m s (nI n) s).toNatClampNeg = n := by rw [pk_us, nI_clamp (by omega)]
theorem WFc_upd {m : Nat → Int32} (hw : WFc m) {s n : Nat} (hs : s < 4) (hn : n ≤ mMost s) : WFc (upd m s (nI n)) := by
  obtain ⟨a, b, c, d, -⟩ := hw
  unfold WFc kL kP kE kD at *
  rcases (show s = 0 ∨ s = 1 ∨ s = 2 ∨ s = 3 by omega) with rfl | rfl | rfl | rfl
  · have hn' : n ≤ 5 := hn
    rw [pk_us, pk_un (show (1 : Nat) ≠ 0 by omega), pk_un (show (2 : Nat) ≠ 0 by omega), pk_un (show (3 : Nat) ≠ 0 by omega), nI_clamp (by omega)]
    exact ⟨⟨rfl, hn'⟩, b, c, d, trivial⟩
  · have hn' : n ≤ 6 := hn
    rw [pk_us, pk_un (show (0 : Nat) ≠ 1 by omega), pk_un (show (2 : Nat) ≠ 1 by omega), pk_un (show (3 : Nat) ≠ 1 by omega), nI_clamp (by omega)]
    exact ⟨a, ⟨rfl, hn'⟩, c, d, trivial⟩
  · have hn' : n ≤ 4 := hn
    rw [pk_us, pk_un (show (0 : Nat) ≠ 2 by omega), pk_un (show (1 : Nat) ≠ 2 by omega), pk_un (show (3 : Nat) ≠ 2 by omega), nI_clamp (by omega)]
    exact ⟨a, b, ⟨rfl, hn'⟩, d, trivial⟩
  · have hn' : n ≤ 5 := hn
    rw [pk_us, pk_un (show (0 : Nat) ≠ 3 by omega), pk_un (show (1 : Nat) ≠ 3 by omega), pk_un (show (2 : Nat) ≠ 3 by omega), nI_clamp (by omega)]
    exact ⟨a, b, c, ⟨rfl, hn'⟩, trivial⟩
theorem sum_upd {m : Nat → Int32} (hw : WFc m) {s : Nat} (hs : s < 4) {c : Nat} (hc : (m s).toNatClampNeg = c) (hm : c < mMost s) : kL (upd m s (nI (c + 1))) + kP (upd m s (nI (c + 1))) + kE (upd m s (nI (c + 1))) + kD (upd m s (nI (c + 1))) = kL m + kP m + kE m + kD m + 1 := by
  have h20 := nB_20 hs hm
  unfold kL kP kE kD
  rcases (show s = 0 ∨ s = 1 ∨ s = 2 ∨ s = 3 by omega) with rfl | rfl | rfl | rfl
  · rw [pk_us, pk_un (show (1 : Nat) ≠ 0 by omega), pk_un (show (2 : Nat) ≠ 0 by omega), pk_un (show (3 : Nat) ≠ 0 by omega), nI_clamp (by omega), hc]; omega
  · rw [pk_us, pk_un (show (0 : Nat) ≠ 1 by omega), pk_un (show (2 : Nat) ≠ 1 by omega), pk_un (show (3 : Nat) ≠ 1 by omega), nI_clamp (by omega), hc]; omega
  · rw [pk_us, pk_un (show (0 : Nat) ≠ 2 by omega), pk_un (show (1 : Nat) ≠ 2 by omega), pk_un (show (3 : Nat) ≠ 2 by omega), nI_clamp (by omega), hc]; omega
  · rw [pk_us, pk_un (show (0 : Nat) ≠ 3 by omega), pk_un (show (1 : Nat) ≠ 3 by omega), pk_un (show (2 : Nat) ≠ 3 by omega), nI_clamp (by omega), hc]; omega
section AddName
variable {S T : zSt} {m : Nat → Int32}
theorem c_addName {nm : Nat → Int64} (hw : WFc m) (hn : rNm S.1 S.2 230 nm m) (hz : ∀ k, k < 4 → S.1 231 k = m k) {x y : Int64} (hx : nmR x y) {s c : Nat} (hs : s < 4) (hc : (m s).toNatClampNeg = c) (hm : c < mMost s) (new : ∀ W, W ≤ 20 → S.1 230 9 = nI W → ∀ k, k < W → ¬ S.2 237 k = x) : ∃ S', fX3_addName S 230 x (nI s) = some S' ∧ (∀ a, a ≠ 230 → a ≠ 231 → a ≠ 238 → a ≠ 239 → S'.1 a = S.1 a) ∧ (∀ a, a ≠ 236 → a ≠ 237 → S'.2 a = S.2 a) ∧ (∀ j, j ≠ 9 → S'.1 230 j = S.1 230 j) ∧ (∀ k, k < 4 → S'.1 231 k = upd m s (nI (c + 1)) k) ∧ rNm S'.1 S'.2 230 (vp_updL nm (nB s + c) y) (upd m s (nI (c + 1))) := by
  obtain ⟨W, n1, n2, n3, n4, n5, n6⟩ := hn
  have k0 := hw.1.2
  have k1 := hw.2.1.2
  have k2 := hw.2.2.1.2
  have k3 := hw.2.2.2.1.2
  have hc6 := (WFh_cnt hw hs).2.2
  have hms : m s = nI c := by rw [(WFh_cnt hw hs).1, hc]
  have sz : S.1 231 s = nI c := by rw [hz s hs, hms]
  have tot : W < 20 := by
    have h1 := mMost_c hw (show 0 < 4 by omega)
    have h2 := mMost_c hw (show 1 < 4 by omega)
    have h3 := mMost_c hw (show 2 < 4 by omega)
    have h4 := mMost_c hw (show 3 < 4 by omega)
    have e0 : kL m = (m 0).toNatClampNeg := rfl
    have e1 : kP m = (m 1).toNatClampNeg := rfl
    have e2 : kE m = (m 2).toNatClampNeg := rfl
    have e3 : kD m = (m 3).toNatClampNeg := rfl
    have q0 : mMost 0 = 5 := rfl
    have q1 : mMost 1 = 6 := rfl
    have q2 : mMost 2 = 4 := rfl
    have q3 : mMost 3 = 5 := rfl
    rcases (show s = 0 ∨ s = 1 ∨ s = 2 ∨ s = 3 by omega) with rfl | rfl | rfl | rfl <;> omega
  obtain ⟨S8, hS8⟩ : ∃ X, X = zI (zI (zI (zJ S 237 W x) 238 W (nI s)) 239 W (nI c)) 230 9 (nI (W + 1)) := ⟨_, rfl⟩
  have a1 : ∀ a, a ≠ 230 → a ≠ 238 → a ≠ 239 → S8.1 a = S.1 a := fun a h1 h2 h3 => by rw [hS8, zI_ne h1, zI_ne h3, zI_ne h2, zJ_at1]
  have a2 : ∀ a, a ≠ 237 → S8.2 a = S.2 a := fun a h1 => by rw [hS8, zI_at2, zI_at2, zI_at2, zJ_ne h1]
  obtain ⟨S9, hS9⟩ : ∃ X, X = if s = 1 then zJ S8 236 c x else S8 := ⟨_, rfl⟩
  have b1 : S9.1 = S8.1 := by
    rw [hS9]
    split <;> rfl
  have b2 : ∀ a, a ≠ 236 → S9.2 a = S8.2 a := fun a ha => by
    rw [hS9]
    split
    · exact zJ_ne ha
    · rfl
  refine ⟨zI S9 231 s (nI (c + 1)), ?_, fun a h1 h2 h3 h4 => by rw [zI_ne h2, b1, a1 a h1 h3 h4], fun a h1 h2 => by rw [zI_at2, b2 a h1, a2 a h2], fun j hj => ?_, fun k hk => ?_, ?_⟩
  · have st : fX3_addName_62 S9 230 (nI s) = some (zI S9 231 s (nI (c + 1))) := by
      unfold fX3_addName_62
      rw [zIx_nI hs (by omega), zGd_t, zGd_t, nI_clamp (by omega), show S9.1 (230 + 1) s = nI c by rw [b1, a1 (230 + 1) (by omega) (by omega) (by omega)]; exact sz, nI_1, zLt_s]
    unfold fX3_addName
    rw [n1, zIx_nI tot (by omega), zGd_t, zLt_s, nI_clamp (by omega), zJ_at1, n1, zIx_nI tot (by omega), zGd_t, zLt_s, nI_clamp (by omega), zIx_nI hs (by omega), zGd_t, zI_ne (show (230 : Nat) ≠ 230 + 8 by omega), zJ_at1, n1, zIx_nI tot (by omega), zGd_t, nI_clamp (by omega), nI_clamp (by omega), zI_ne (show (230 + 1 : Nat) ≠ 230 + 8 by omega), zJ_at1, show S.1 (230 + 1) s = nI c from sz, zLt_s, zI_ne (show (230 : Nat) ≠ 230 + 9 by omega), zI_ne (show (230 : Nat) ≠ 230 + 8 by omega), zJ_at1, n1, nI_1, zLt_s]
    rw [show zI (zI (zI (zJ S (230 + 7) W x) (230 + 8) W (nI s)) (230 + 9) W (nI c)) 230 9 (nI (W + 1)) = S8 from hS8.symm]
    by_cases s1 : s = 1
    · subst s1
      have hc6' : c < 6 := hm
      rw [zBr_p (show nI 1 = 1 from rfl), zGd_t, show S8.1 (230 + 1) 1 = nI c by rw [a1 (230 + 1) (by omega) (by omega) (by omega)]; exact sz, zIx_nI hc6' (by omega), zGd_t, nI_clamp (by omega), zLt_s]
      rw [if_pos rfl] at hS9
      rw [show zJ S8 (230 + 6) c x = S9 from hS9.symm]
      exact st
    · rw [if_neg s1] at hS9
      rw [zBr_q (show ¬ nI s = (1 : Int32) from fun q => s1 ((nI_eq (b := 1) (by omega) (by omega)).mp q)), ← hS9]
      exact st
  · rw [zI_ne (by omega), b1, hS8, zI_at, if_neg (by omega), zI_ne (by omega), zI_ne (by omega), zJ_at1]
  · by_cases e : k = s
    · subst e; rw [zI_at, if_pos ⟨rfl, rfl⟩, pk_us]
    · rw [zI_at, if_neg (by omega), b1, a1 231 (by omega) (by omega) (by omega), pk_un e]; exact hz k hk
  · have r7 : ∀ k, (zI S9 231 s (nI (c + 1))).2 237 k = if k = W then x else S.2 237 k := fun k => by
      rw [zI_at2, b2 237 (by omega), hS8, zI_at2, zI_at2, zI_at2, zJ_eq]; rfl
    have r8 : ∀ k, (zI S9 231 s (nI (c + 1))).1 238 k = if k = W then nI s else S.1 238 k := fun k => by
      rw [zI_ne (by omega), b1, hS8, zI_ne (by omega), zI_ne (by omega), zI_eq, zJ_at1]; rfl
    have r9 : ∀ k, (zI S9 231 s (nI (c + 1))).1 239 k = if k = W then nI c else S.1 239 k := fun k => by
      rw [zI_ne (by omega), b1, hS8, zI_ne (by omega), zI_eq, zI_ne (by omega), zJ_at1]; rfl
    have cnt : ∀ s', s' < 4 → (upd m s (nI (c + 1)) s').toNatClampNeg = if s' = s then c + 1 else (m s').toNatClampNeg := fun s' hs' => by
      by_cases e : s' = s
      · subst e; rw [pk_us, nI_clamp (by omega), if_pos rfl]
      · rw [pk_un e, if_neg e]
    refine ⟨W + 1, ?_, by rw [sum_upd hw hs hc hm]; omega, fun k hk => ?_, fun s' j hs' hj => ?_, fun k k' hk hk' e => ?_, fun p hp => ?_⟩
    · rw [zI_ne (by omega), b1, hS8, zI_at, if_pos ⟨rfl, rfl⟩]
    · show ∃ s_1 j, s_1 < 4 ∧ (zI S9 231 s (nI (c + 1))).1 238 k = nI s_1 ∧ (zI S9 231 s (nI (c + 1))).1 239 k = nI j ∧ _ ∧ nmR ((zI S9 231 s (nI (c + 1))).2 237 k) _
      rw [r7, r8, r9]
      by_cases e : k = W
      · rw [if_pos e, if_pos e, if_pos e]
        refine ⟨s, c, hs, rfl, rfl, by rw [cnt s hs, if_pos rfl]; omega, ?_⟩
        rw [pk_uLs]; exact hx
      · rw [if_neg e, if_neg e, if_neg e]
        obtain ⟨s', j', d1, d2, d3, d4, d5⟩ := n3 k (by omega)
        have d6 := mMost_c hw d1
        refine ⟨s', j', d1, d2, d3, ?_, ?_⟩
        · rw [cnt s' d1]
          by_cases es : s' = s
          · subst es; rw [if_pos rfl]; omega
          · rw [if_neg es]; exact d4
        · rw [pk_uLn (fun z => by
            obtain ⟨z1, z2⟩ := nB_dis d1 hs (show j' < mMost s' by omega) hm z
            subst z1
            omega)]
          exact d5
    · rw [cnt s' hs'] at hj
      show ∃ k, k < W + 1 ∧ (zI S9 231 s (nI (c + 1))).1 238 k = nI s' ∧ (zI S9 231 s (nI (c + 1))).1 239 k = nI j
      by_cases es : s' = s ∧ j = c
      · obtain ⟨rfl, rfl⟩ := es
        exact ⟨W, by omega, by rw [r8, if_pos rfl], by rw [r9, if_pos rfl]⟩
      · have hj' : j < (m s').toNatClampNeg := by
          by_cases e : s' = s
          · subst e
            rw [if_pos rfl] at hj
            have : j ≠ c := fun z => es ⟨rfl, z⟩
            omega
          · rw [if_neg e] at hj; exact hj
        obtain ⟨k, hk, d1, d2⟩ := n4 s' j hs' hj'
        exact ⟨k, by omega, by rw [r8, if_neg (by omega)]; exact d1, by rw [r9, if_neg (by omega)]; exact d2⟩
    · have e' : (zI S9 231 s (nI (c + 1))).2 237 k = (zI S9 231 s (nI (c + 1))).2 237 k' := e
      rw [r7, r7] at e'
      by_cases q1 : k = W
      · by_cases q2 : k' = W
        · omega
        · rw [if_pos q1, if_neg q2] at e'
          exact absurd e'.symm (new W (by omega) n1 k' (by omega))
      · by_cases q2 : k' = W
        · rw [if_neg q1, if_pos q2] at e'
          exact absurd e' (new W (by omega) n1 k (by omega))
        · rw [if_neg q1, if_neg q2] at e'
          exact n5 k k' (by omega) (by omega) e'
    · show nmR ((zI S9 231 s (nI (c + 1))).2 236 p) _
      have hp' : p < if (1 : Nat) = s then c + 1 else kP m := by
        have := cnt 1 (by omega)
        unfold kP at hp
        rw [this] at hp
        exact hp
      rw [zI_at2, hS9]
      by_cases s1 : s = 1
      · subst s1
        rw [if_pos rfl] at hp'
        rw [if_pos rfl, show nB 1 = 5 from rfl]
        by_cases e : p = c
        · subst e
          rw [zJ_at, if_pos ⟨rfl, rfl⟩, pk_uLs]; exact hx
        · rw [zJ_at, if_neg (by omega), a2 236 (by omega), pk_uLn (by omega)]
          exact n6 p (by unfold kP; omega)
      · rw [if_neg (show ¬ (1 : Nat) = s by omega)] at hp'
        rw [if_neg s1, a2 236 (by omega), pk_uLn (fun z => by
          have := nB_dis (s := 1) (s' := s) (c := p) (c' := c) (by omega) hs (show p < 6 by omega) hm z
          omega)]
        exact n6 p hp'
end AddName
