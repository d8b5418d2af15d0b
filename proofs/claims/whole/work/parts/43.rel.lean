/-! the relation between the class's state S and the reference's T -/
def nmR (x y : Int64) : Prop := ∃ l : List Nat, 1 ≤ l.length ∧ l.length ≤ 7 ∧ (∀ c ∈ l, 1 ≤ c ∧ c ≤ 26) ∧ x = lN (l.foldl (fun a c => a * 32 + c) 0) ∧ y = lN (l.foldl (fun a c => a * 27 + c) 0)
def nB (s : Nat) : Nat := if s = 0 then 0 else if s = 1 then 5 else if s = 2 then 11 else 15
def rNm (I : Nat → Nat → Int32) (J : Nat → Nat → Int64) (h : Nat) (nm : Nat → Int64) (m : Nat → Int32) : Prop := ∃ W : Nat, I h 9 = nI W ∧ W = kL m + kP m + kE m + kD m ∧
  (∀ k, k < W → ∃ s j : Nat, s < 4 ∧ I (h + 8) k = nI s ∧ I (h + 9) k = nI j ∧ j < (m s).toNatClampNeg ∧ nmR (J (h + 7) k) (nm (nB s + j))) ∧
  (∀ s j, s < 4 → j < (m s).toNatClampNeg → ∃ k, k < W ∧ I (h + 8) k = nI s ∧ I (h + 9) k = nI j) ∧
  (∀ k k', k < W → k' < W → J (h + 7) k = J (h + 7) k' → k = k') ∧ (∀ p, p < kP m → nmR (J (h + 6) p) (nm (5 + p)))
def sLeaf (w a b r : Int32) : Int32 × Int32 × Int32 := if w = 64 then (15, 0, 0) else if w = 65 then (3, 0, 0) else if w = 66 then (16, a, 0) else if w = 67 then (17, a, 0) else if w = 68 then (18, a, 0) else if w = 69 then (19, r, b) else if w = 70 then (20, r, b) else (21, r, b)
def sComp (g : Nat → Int32) : Nat → Nat → List (Int32 × Int32 × Int32)
  | 0, _ => []
  | f + 1, k => if g (4 * k) = 1 then sComp g f (g (4 * k + 1)).toNatClampNeg ++ [(14, 0, 0)] else if g (4 * k) = 2 then sComp g f (g (4 * k + 1)).toNatClampNeg ++ sComp g f (g (4 * k + 2)).toNatClampNeg ++ [(13, 0, 0)] else if g (4 * k) = 3 then sComp g f (g (4 * k + 1)).toNatClampNeg ++ sComp g f (g (4 * k + 2)).toNatClampNeg ++ [(12, 0, 0)] else [sLeaf (g (4 * k)) (g (4 * k + 1)) (g (4 * k + 2)) (g (4 * k + 3))]
def sOk (g : Nat → Int32) (nL nE : Nat) : Nat → Nat → Prop
  | 0, _ => False
  | f + 1, k => k < 60 ∧ ((g (4 * k) = 1 ∧ ∃ a, a < k ∧ g (4 * k + 1) = nI a ∧ sOk g nL nE f a) ∨ ((g (4 * k) = 2 ∨ g (4 * k) = 3) ∧ ∃ a b, a < k ∧ b < k ∧ g (4 * k + 1) = nI a ∧ g (4 * k + 2) = nI b ∧ sOk g nL nE f a ∧ sOk g nL nE f b) ∨ g (4 * k) = 64 ∨ g (4 * k) = 65 ∨ ((g (4 * k) = 66 ∨ g (4 * k) = 67) ∧ zIn (g (4 * k + 1)) nL) ∨ (g (4 * k) = 68 ∧ zIn (g (4 * k + 1)) nE) ∨ ((g (4 * k) = 69 ∨ g (4 * k) = 70 ∨ g (4 * k) = 71) ∧ zIn (g (4 * k + 2)) 1000 ∧ (g (4 * k + 3) = 60 ∨ g (4 * k + 3) = 61 ∨ g (4 * k + 3) = 62)))
def rSen (I : Nat → Nat → Int32) (t : Nat) (m : Nat → Int32) : Prop := (m 164 = 0 ∧ I t 5 = 0 ∧ I t 4 = 0) ∨ (m 164 = 1 ∧ ∃ k o : Nat, m 165 = nI k ∧ I t 5 = nI o ∧ 1 ≤ o ∧ o ≤ 20 ∧ sOk (fun j => m (166 + j)) (kL m) (kE m) (k + 1) k ∧ I t 4 = nI (sComp (fun j => m (166 + j)) (k + 1) k).length ∧ (sComp (fun j => m (166 + j)) (k + 1) k).length ≤ 40 ∧ ∀ j x, (sComp (fun j => m (166 + j)) (k + 1) k)[j]? = some x → I (t + 1) j = x.1 ∧ I (t + 2) j = x.2.1 ∧ I (t + 3) j = x.2.2)
def rTp (cl : Int32) (cb : Nat → Int32) (ml : Int32) (mb : Nat → Int32) : Prop := ∃ L : Nat, L ≤ 940 ∧ cl = nI L ∧ ml = nI L ∧ ∀ i, i < L → cb i = mb i ∧ zIn (mb i) 256
def rAll (I : Nat → Nat → Int32) (J : Nat → Nat → Int64) (h b t : Nat) (m : Nat → Int32) (nm : Nat → Int64) : Prop := Rh I h m ∧ WFh m ∧ Rl I b m ∧ WFl m ∧ rNm I J h nm m ∧ rSen I t m
def mSn (m sn : Nat → Int32) (t : Nat) : Nat → Int32 := fun k => if 24 ≤ k ∧ k < 164 then sn (140 * t + (k - 24)) else m k
def rPast (I : Nat → Nat → Int32) (m sn : Nat → Int32) (cn ck mk : Int32) : Prop := ∃ nx kp : Nat, nx < 8 ∧ kp ≤ 8 ∧ cn = nI nx ∧ ck = nI kp ∧ mk = nI kp ∧ ∀ t, t < kp → Rl I (46 + 15 * ((nx + 8 - kp + t) % 8)) (mSn m sn t) ∧ WFl (mSn m sn t)
def rImg (I : Nat → Nat → Int32) (J : Nat → Nat → Int64) (k : Nat) (kf : Nat → Int32) (kt : Nat → Int32) (kn : Nat → Int64) : Prop := (I (167 + 31 * k) 3 = 0 ∧ kf k = 0) ∨ (I (167 + 31 * k) 3 = 1 ∧ kf k = 1 ∧ rAll I J (168 + 31 * k) (178 + 31 * k) (193 + 31 * k) (fun i => kt (406 * k + i)) (fun i => kn (20 * k + i)))
def rWay (cl : Int32) (cs : Nat → Int32) (ml : Int32) (ms : Nat → Int32) : Prop := ∃ w : Nat, w ≤ 32 ∧ cl = nI w ∧ ml = nI w ∧ ∀ i, i < w → cs i = ms i
def rCho (c : Nat → Int32) (hc : Int32) (ch : Nat → Int32) : Prop := (hc = 0 ∧ c 2 = -1 ∧ c 3 = -1 ∧ c 4 = -1) ∨ (¬ hc = 0 ∧ c 2 = ch 0 ∧ c 3 = ch 1 ∧ c 4 = ch 2)
def rTold (c : Nat → Int32) (hw : Int32) (wr : Nat → Int32) : Prop := (hw = 0 ∧ c 7 = -1 ∧ c 8 = -1 ∧ c 9 = -1 ∧ c 10 = -1) ∨ (¬ hw = 0 ∧ c 7 = wr 0 ∧ c 8 = wr 1 ∧ c 9 = wr 2 ∧ c 10 = wr 3)
/-- the class's own words, once made -/
def zKey (k : Nat) : Nat := [17232707250, 20225300, 17171924, 202318, 542723566, 136356, 4902553, 17382886, 146611, 654817509, 3197529, 4153, 498, 1476, 14836, 2500036, 302, 627891, 21148051, 407951539, 153204, 492210354].getD k 0
def rKey (J : Nat → Int64) : Prop := ∀ k, k < 22 → J k = lN (zKey k)
def Rel (S T : zSt) : Prop := rTp (S.1 1 1) (S.1 2) (T.1 0 2) (T.1 1) ∧ rAll S.1 S.2 4 14 245 (T.1 2) (T.2 7) ∧ rPast S.1 (T.1 2) (T.1 5) (S.1 44 1) (S.1 44 2) (T.1 0 24) ∧ rImg S.1 S.2 0 (T.1 10) (T.1 4) (T.2 9) ∧ rImg S.1 S.2 1 (T.1 10) (T.1 4) (T.2 9) ∧ (S.1 0 14 = T.1 0 10 ∧ S.1 0 15 = T.1 0 25 ∧ S.1 0 16 = T.1 0 26) ∧ rWay (S.1 256 4) (S.1 260) (T.1 0 29) (T.1 13) ∧ rCho (S.1 255) (T.1 0 31) (T.1 14) ∧ rTold (S.1 240) (T.1 0 39) (T.1 17) ∧ rKey (S.2 3)
theorem Rh_cong {I I' : Nat → Nat → Int32} {h : Nat} {m : Nat → Int32} (e : ∀ a, h ≤ a → a < h + 10 → I' a = I a) (r : Rh I h m) : Rh I' h m := by
  obtain ⟨r1, r2, r3, r4, r5⟩ := r
  refine ⟨fun k hk => ?_, ?_, ?_, fun l hl => ?_, fun p hp => ?_⟩
  · rw [e _ (by omega) (by omega)]; exact r1 k hk
  · rw [e _ (by omega) (by omega)]; exact r2
  · rw [e _ (by omega) (by omega)]; exact r3
  · rw [e _ (by omega) (by omega)]; exact r4 l hl
  · rw [e _ (by omega) (by omega), e _ (by omega) (by omega), e _ (by omega) (by omega)]; exact r5 p hp
theorem Rl_cong {I I' : Nat → Nat → Int32} {b : Nat} {m : Nat → Int32} (h6 : kP m ≤ 6) (e : ∀ a, b ≤ a → a < b + 15 → I' a = I a) (r : Rl I b m) : Rl I' b m := by
  obtain ⟨r1, r2, r3, r4, r5⟩ := r
  refine ⟨?_, ?_, fun p hp => ?_, fun i hi => ?_, fun p i hp hi => ?_⟩
  · rw [e _ (by omega) (by omega)]; exact r1
  · rw [e _ (by omega) (by omega)]; exact r2
  · rw [e _ (by omega) (by omega), e _ (by omega) (by omega), e _ (by omega) (by omega)]; exact r3 p hp
  · rw [e _ (by omega) (by omega), e _ (by omega) (by omega), e _ (by omega) (by omega), e _ (by omega) (by omega)]; exact r4 i hi
  · rw [e _ (by omega) (by omega)]; exact r5 p i hp hi
theorem rNm_cong {I I' : Nat → Nat → Int32} {J J' : Nat → Nat → Int64} {h : Nat} {nm : Nat → Int64} {m : Nat → Int32} (e : ∀ a, h ≤ a → a < h + 10 → I' a = I a) (f : ∀ a, h ≤ a → a < h + 10 → J' a = J a) (r : rNm I J h nm m) : rNm I' J' h nm m := by
  unfold rNm at r ⊢
  rw [e h (by omega) (by omega), e (h + 8) (by omega) (by omega), e (h + 9) (by omega) (by omega), f (h + 7) (by omega) (by omega), f (h + 6) (by omega) (by omega)]
  exact r
theorem rSen_cong {I I' : Nat → Nat → Int32} {t : Nat} {m : Nat → Int32} (e : ∀ a, t ≤ a → a < t + 4 → I' a = I a) (r : rSen I t m) : rSen I' t m := by
  unfold rSen at r ⊢
  rw [e t (by omega) (by omega), e (t + 1) (by omega) (by omega), e (t + 2) (by omega) (by omega), e (t + 3) (by omega) (by omega)]
  exact r
theorem rAll_cong {I I' : Nat → Nat → Int32} {J J' : Nat → Nat → Int64} {h b t : Nat} {m : Nat → Int32} {nm : Nat → Int64} (e : ∀ a, (h ≤ a ∧ a < h + 10) ∨ (b ≤ a ∧ a < b + 15) ∨ (t ≤ a ∧ a < t + 4) → I' a = I a) (f : ∀ a, h ≤ a → a < h + 10 → J' a = J a) (r : rAll I J h b t m nm) : rAll I' J' h b t m nm := by
  obtain ⟨r1, r2, r3, r4, r5, r6⟩ := r
  exact ⟨Rh_cong (fun a h1 h2 => e a (Or.inl ⟨h1, h2⟩)) r1, r2, Rl_cong r2.2.1.2 (fun a h1 h2 => e a (Or.inr (Or.inl ⟨h1, h2⟩))) r3, r4, rNm_cong (fun a h1 h2 => e a (Or.inl ⟨h1, h2⟩)) f r5, rSen_cong (fun a h1 h2 => e a (Or.inr (Or.inr ⟨h1, h2⟩))) r6⟩
theorem mSn_kP (m sn : Nat → Int32) (t : Nat) : kP (mSn m sn t) = kP m := rfl
theorem rPast_cong {I I' : Nat → Nat → Int32} {m sn : Nat → Int32} {cn ck mk : Int32} (h6 : kP m ≤ 6) (e : ∀ a, 46 ≤ a → a < 166 → I' a = I a) (r : rPast I m sn cn ck mk) : rPast I' m sn cn ck mk := by
  obtain ⟨nx, kp, h1, h2, h3, h4, h5, r⟩ := r
  refine ⟨nx, kp, h1, h2, h3, h4, h5, fun t ht => ⟨Rl_cong h6 (fun a q1 q2 => e a (by omega) ?_) (r t ht).1, (r t ht).2⟩⟩
  have : (nx + 8 - kp + t) % 8 < 8 := Nat.mod_lt _ (by omega)
  omega
theorem rImg_cong {I I' : Nat → Nat → Int32} {J J' : Nat → Nat → Int64} {k : Nat} {kf kt : Nat → Int32} {kn : Nat → Int64} (e : ∀ a, 167 + 31 * k ≤ a → a < 198 + 31 * k → I' a = I a) (f : ∀ a, 167 + 31 * k ≤ a → a < 198 + 31 * k → J' a = J a) (r : rImg I J k kf kt kn) : rImg I' J' k kf kt kn := by
  rcases r with ⟨r1, r2⟩ | ⟨r1, r2, r3⟩
  · exact Or.inl ⟨by rw [e _ (by omega) (by omega)]; exact r1, r2⟩
  · exact Or.inr ⟨by rw [e _ (by omega) (by omega)]; exact r1, r2, rAll_cong (fun a ha => e a (by omega) (by omega)) (fun a q1 q2 => f a (by omega) (by omega)) r3⟩
/-- the reference's 'thrown' is nobody's -/
theorem Rel_thrown {S T : zSt} (r : Rel S T) (v : Int32) : Rel S (zI T 0 0 v) := by
  unfold Rel at r ⊢
  simp only [zI_at2, zI_ne (show (1 : Nat) ≠ 0 by omega), zI_ne (show (2 : Nat) ≠ 0 by omega), zI_ne (show (5 : Nat) ≠ 0 by omega), zI_ne (show (10 : Nat) ≠ 0 by omega), zI_ne (show (4 : Nat) ≠ 0 by omega), zI_ne (show (13 : Nat) ≠ 0 by omega), zI_ne (show (14 : Nat) ≠ 0 by omega), zI_ne (show (17 : Nat) ≠ 0 by omega)]
  simp only [zI_at, show ¬ ((0 : Nat) = 0 ∧ (2 : Nat) = 0) by omega, show ¬ ((0 : Nat) = 0 ∧ (24 : Nat) = 0) by omega, show ¬ ((0 : Nat) = 0 ∧ (10 : Nat) = 0) by omega, show ¬ ((0 : Nat) = 0 ∧ (25 : Nat) = 0) by omega, show ¬ ((0 : Nat) = 0 ∧ (26 : Nat) = 0) by omega, show ¬ ((0 : Nat) = 0 ∧ (29 : Nat) = 0) by omega, show ¬ ((0 : Nat) = 0 ∧ (31 : Nat) = 0) by omega, show ¬ ((0 : Nat) = 0 ∧ (39 : Nat) = 0) by omega, if_false]
  exact r
