theorem zg_0_2 : zIx (0 : Int32) 2 = true := by decide
theorem zg_0_3 : zIx (0 : Int32) 3 = true := by decide
theorem zg_0_4 : zIx (0 : Int32) 4 = true := by decide
theorem zg_0_24 : zIx (0 : Int32) 24 = true := by decide
theorem zg_0_40 : zIx (0 : Int32) 40 = true := by decide
theorem zg_0_160 : zIx (0 : Int32) 160 = true := by decide
theorem zg_0_406 : zIx (0 : Int32) 406 = true := by decide
theorem zg_1_2 : zIx (1 : Int32) 2 = true := by decide
theorem zg_1_3 : zIx (1 : Int32) 3 = true := by decide
theorem zg_1_4 : zIx (1 : Int32) 4 = true := by decide
theorem zg_1_24 : zIx (1 : Int32) 24 = true := by decide
theorem zg_1_406 : zIx (1 : Int32) 406 = true := by decide
theorem zg_2_3 : zIx (2 : Int32) 3 = true := by decide
theorem zg_2_4 : zIx (2 : Int32) 4 = true := by decide
theorem zg_2_24 : zIx (2 : Int32) 24 = true := by decide
theorem zg_2_406 : zIx (2 : Int32) 406 = true := by decide
theorem zg_3_4 : zIx (3 : Int32) 4 = true := by decide
theorem zg_3_24 : zIx (3 : Int32) 24 = true := by decide
theorem zg_3_406 : zIx (3 : Int32) 406 = true := by decide
theorem zg_4_24 : zIx (4 : Int32) 24 = true := by decide
theorem zg_4_406 : zIx (4 : Int32) 406 = true := by decide
theorem zg_5_24 : zIx (5 : Int32) 24 = true := by decide
theorem zg_5_406 : zIx (5 : Int32) 406 = true := by decide
theorem zg_23_24 : zIx (23 : Int32) 24 = true := by decide
theorem zg_23_406 : zIx (23 : Int32) 406 = true := by decide
theorem zg_24_406 : zIx (24 : Int32) 406 = true := by decide
theorem zg_25_406 : zIx (25 : Int32) 406 = true := by decide
theorem zg_164_406 : zIx (164 : Int32) 406 = true := by decide
theorem zg_165_406 : zIx (165 : Int32) 406 = true := by decide
theorem zt_0 : (0 : Int32).toNatClampNeg = 0 := rfl
theorem zt_1 : (1 : Int32).toNatClampNeg = 1 := rfl
theorem zt_2 : (2 : Int32).toNatClampNeg = 2 := rfl
theorem zt_3 : (3 : Int32).toNatClampNeg = 3 := rfl
theorem zt_4 : (4 : Int32).toNatClampNeg = 4 := rfl
theorem zt_5 : (5 : Int32).toNatClampNeg = 5 := rfl
theorem zt_6 : (6 : Int32).toNatClampNeg = 6 := rfl
theorem zt_20 : (20 : Int32).toNatClampNeg = 20 := rfl
theorem zt_23 : (23 : Int32).toNatClampNeg = 23 := rfl
theorem zt_24 : (24 : Int32).toNatClampNeg = 24 := rfl
theorem zt_25 : (25 : Int32).toNatClampNeg = 25 := rfl
theorem zt_164 : (164 : Int32).toNatClampNeg = 164 := rfl
theorem zt_165 : (165 : Int32).toNatClampNeg = 165 := rfl
theorem zo_5 {p : Nat} : (5 : Int32) + nI p = nI (5 + p) := nI_add 5 p
theorem zo_6 {p : Nat} : (6 : Int32) + nI p = nI (6 + p) := nI_add 6 p
theorem zo_11 {p : Nat} : (11 : Int32) + nI p = nI (11 + p) := nI_add 11 p
theorem zo_17 {p : Nat} : (17 : Int32) + nI p = nI (17 + p) := nI_add 17 p
theorem zo_24 {p : Nat} : (24 : Int32) + nI p = nI (24 + p) := nI_add 24 p
theorem zo_26 {p : Nat} : (26 : Int32) + nI p = nI (26 + p) := nI_add 26 p
theorem zo_32 {p : Nat} : (32 : Int32) + nI p = nI (32 + p) := nI_add 32 p
theorem zo_38 {p : Nat} : (38 : Int32) + nI p = nI (38 + p) := nI_add 38 p
theorem zo_50 {p : Nat} : (50 : Int32) + nI p = nI (50 + p) := nI_add 50 p
theorem zo_62 {p : Nat} : (62 : Int32) + nI p = nI (62 + p) := nI_add 62 p
theorem zo_74 {p : Nat} : (74 : Int32) + nI p = nI (74 + p) := nI_add 74 p
theorem zo_86 {p : Nat} : (86 : Int32) + nI p = nI (86 + p) := nI_add 86 p
theorem zo_158 {p : Nat} : (158 : Int32) + nI p = nI (158 + p) := nI_add 158 p
theorem zo_166 {p : Nat} : (166 : Int32) + nI p = nI (166 + p) := nI_add 166 p

theorem zLp_bits {β : Type} {body : Int32 × Int32 → Option ((Int32 × Int32) ⊕ β)} {P : Nat → Bool} {n fuel : Nat} {g : Int32 → β} (h : ∀ acc i, i < n → body (acc, nI i) = some (.inl (if P i = true then acc ||| ((1 : Int32) <<< (nI i &&& 31)) else acc, nI (i + 1)))) (hx : ∀ acc, body (acc, nI n) = some (.inr (g acc))) (hf : n < fuel) : zLp body fuel (0, 0) = some (g (zBits P n)) :=
  zLp_run (fun i => (zBits P i, nI i)) n fuel (fun i hi => by
    rw [h _ i hi]
    show some (Sum.inl (_, _)) = some (Sum.inl (zBits P (i + 1), nI (i + 1)))
    rw [zBits]) (hx _) hf
def zFo {α : Type} (F : Nat → α → α) (a : α) : Nat → α
  | 0 => a
  | n + 1 => F n (zFo F a n)
theorem zFo_cong {α : Type} {F G : Nat → α → α} {a : α} : ∀ {n : Nat}, (∀ k x, k < n → F k x = G k x) → zFo F a n = zFo G a n
  | 0, _ => rfl
  | n + 1, h => by
    rw [zFo, zFo, zFo_cong (fun k x hk => h k x (by omega)), h n _ (by omega)]
theorem zLp_fold {α β : Type} {body : α × Int32 → Option ((α × Int32) ⊕ β)} {F : Nat → α → α} {a : α} {n fuel : Nat} {r : β} (h : ∀ acc i, i < n → body (acc, nI i) = some (.inl (F i acc, nI (i + 1)))) (hx : body (zFo F a n, nI n) = some (.inr r)) (hf : n < fuel) : zLp body fuel (a, 0) = some r :=
  zLp_run (fun i => (zFo F a i, nI i)) n fuel (fun i hi => by
    rw [h _ i hi]
    rfl) hx hf
theorem zle_t {β : Type} {a b : Nat} {x y : Option β} (h : a ≤ b) (hb : b < 2147483648) : zBr (nI a ≤ nI b) x y = x := zBr_p ((nI_leI (by omega) (by omega)).mpr h)
theorem zle_f {β : Type} {a b : Nat} {x y : Option β} (h : b < a) (ha : a < 2147483648) : zBr (nI a ≤ nI b) x y = y := zBr_q (fun q => by have := (nI_leI (by omega) (by omega)).mp q; omega)
theorem zlt_t {β : Type} {a b : Nat} {x y : Option β} (h : a < b) (hb : b < 2147483648) : zBr (nI a < nI b) x y = x := zBr_p ((nI_ltI (by omega) (by omega)).mpr h)
theorem zlt_f {β : Type} {a b : Nat} {x y : Option β} (h : b ≤ a) (ha : a < 2147483648) : zBr (nI a < nI b) x y = y := zBr_q (fun q => by have := (nI_ltI (by omega) (by omega)).mp q; omega)
def aCome (m : Nat → Int32) (p i : Nat) : Bool := decide (¬ m (86 + 12 * p + i) = -1) && decide (¬ m 24 < m (86 + 12 * p + i))
def aWill (m : Nat → Int32) (p i : Nat) : Bool := decide (¬ m (86 + 12 * p + i) ≤ m 24)
def aBy (m : Nat → Int32) (d : Int32) (p i : Nat) : Bool := decide (¬ m (86 + 12 * p + i) = -1) && decide (¬ d < m (86 + 12 * p + i))
theorem aBy_come (m : Nat → Int32) (p i : Nat) : aBy m (m 24) p i = aCome m p i := rfl
def aProved (m : Nat → Int32) (i : Nat) : Bool := decide (¬ nI (zCt (fun p => aCome m p i) (kP m)) < m 5)
section CRead
variable {S : zSt} {b : Nat} {m : Nat → Int32}
theorem c_witnessesBy (hh : Rh S.1 (zHs b) m) (hw : WFh m) (hl : Rl S.1 b m) {i : Nat} (hi : i < kA m) (ha : kA m ≤ 12) (d : Int32) : fX6_witnessesBy S b (nI i) d = some (zBits (fun p => aBy m d p i) (kP m)) := by
  have h6 := hw.2.1.2
  have e1 := hw.2.1.1
  refine zLp_bits (g := id) (fun acc p hp => ?_) (fun acc => ?_) (by omega)
  · have e2 := hl.2.2.2.2 p i hp hi
    simp (disch := omega) only [fX6_witnessesBy_5, fX6_witnessesBy_47, c_plants hh, zBd_s, e1, zle_f, zGd_t, zBd_s, zBp_s, zLt_s, zXr_s, zXr_n, zBd_n, zIx_nI, nI_clamp, e2]
    by_cases h1 : m (86 + 12 * p + i) = -1
    · simp [zBr_if, h1, aBy, zLt_s, nI_1]
    · by_cases h2 : d < m (86 + 12 * p + i) <;> simp [zBr_if, h1, h2, aBy, zLt_s, nI_1]
  · simp (disch := omega) only [fX6_witnessesBy_5, c_plants hh, zBd_s, e1, zle_t, zXr_s]
    rfl
theorem c_witnessesDue (hh : Rh S.1 (zHs b) m) (hw : WFh m) (hl : Rl S.1 b m) {i : Nat} (hi : i < kA m) (ha : kA m ≤ 12) : fX6_witnessesDue S b (nI i) = some (zBits (fun p => aWill m p i) (kP m)) := by
  have h6 := hw.2.1.2
  have e1 := hw.2.1.1
  refine zLp_bits (g := id) (fun acc p hp => ?_) (fun acc => ?_) (by omega)
  · have e2 := hl.2.2.2.2 p i hp hi
    simp (disch := omega) only [fX6_witnessesDue_4, fX6_witnessesDue_33, c_plants hh, zBd_s, e1, zle_f, zGd_t, zBd_s, zBp_s, zLt_s, zXr_s, zXr_n, zBd_n, zIx_nI, nI_clamp, e2, hl.1]
    by_cases h1 : m (86 + 12 * p + i) ≤ m 24 <;> simp [zBr_if, h1, aWill, zLt_s, nI_1]
  · simp (disch := omega) only [fX6_witnessesDue_4, c_plants hh, zBd_s, e1, zle_t, zXr_s]
    rfl
theorem c_isProved (hh : Rh S.1 (zHs b) m) (hw : WFh m) (hl : Rl S.1 b m) {i : Nat} (hi : i < kA m) (ha : kA m ≤ 12) : fX6_isProved S b (nI i) = some (if aProved m i = true then 1 else 0) := by
  have h6 := hw.2.1.2
  have e := c_witnessesBy hh hw hl hi ha (m 24)
  have e2 : (fun p => aBy m (m 24) p i) = (fun p => aCome m p i) := rfl
  rw [e2] at e
  unfold fX6_isProved
  rw [hl.1, e, zBd_s, c_bitcB (fun p => aCome m p i) (show kP m ≤ 12 by omega), zBd_s, hh.2.2.1, zBr_if]
  unfold aProved
  by_cases h : nI (zCt (fun p => aCome m p i) (kP m)) < m 5 <;> simp [h]
theorem c_actsShown (hl : Rl S.1 b m) (hv : WFl m) (hw : WFh m) {p : Nat} (hp : p < kP m) : fX6_actsShown S b (nI p) = some (zBits (aCome m p) (kA m)) := by
  have h6 := hw.2.1.2
  have e1 := hv.2.1.1
  have ha := hv.2.1.2
  refine zLp_bits (g := id) (fun acc i hi => ?_) (fun acc => ?_) (by omega)
  · have e2 := hl.2.2.2.2 p i hp hi
    simp (disch := omega) only [fX6_actsShown_4, fX6_actsShown_45, hl.2.1, e1, zle_f, zGd_t, zBd_s, zBp_s, zLt_s, zXr_s, zXr_n, zBd_n, zIx_nI, nI_clamp, e2, hl.1]
    by_cases h1 : m (86 + 12 * p + i) = -1
    · simp [zBr_if, h1, aCome, zLt_s, nI_1]
    · by_cases h2 : m 24 < m (86 + 12 * p + i) <;> simp [zBr_if, h1, h2, aCome, zLt_s, nI_1]
  · simp (disch := omega) only [fX6_actsShown_4, hl.2.1, e1, zle_t, zXr_s]
    rfl
theorem c_leavesDue (hl : Rl S.1 b m) (hv : WFl m) (hw : WFh m) {p : Nat} (hp : p < kP m) : fX6_leavesDue S b (nI p) = some (nI (zCt (aWill m p) (kA m))) := by
  have h6 := hw.2.1.2
  have e1 := hv.2.1.1
  have ha := hv.2.1.2
  have key : ∀ n, zFo (fun i acc => if aWill m p i = true then acc + 1 else acc) (0 : Int32) n = nI (zCt (aWill m p) n) := by
    intro n
    induction n with
    | zero => rfl
    | succ n ih =>
      rw [zFo, zCt, ih]
      by_cases h : aWill m p n = true <;> simp [h, nI_1]
  refine zLp_fold (F := fun i acc => if aWill m p i = true then acc + 1 else acc) (n := kA m) (fun acc i hi => ?_) ?_ (by omega)
  · have e2 := hl.2.2.2.2 p i hp hi
    simp (disch := omega) only [fX6_leavesDue_4, fX6_leavesDue_30, hl.2.1, e1, zle_f, zGd_t, zBd_s, zBp_s, zLt_s, zXr_s, zXr_n, zBd_n, zIx_nI, nI_clamp, e2, hl.1]
    by_cases h1 : m (86 + 12 * p + i) ≤ m 24 <;> simp [zBr_if, h1, aWill, zLt_s, nI_1]
  · simp (disch := omega) only [fX6_leavesDue_4, hl.2.1, e1, zle_t, zXr_s, key]
theorem c_actsProved (hh : Rh S.1 (zHs b) m) (hw : WFh m) (hl : Rl S.1 b m) (hv : WFl m) : fX6_actsProved S b = some (zBits (aProved m) (kA m)) := by
  have e1 := hv.2.1.1
  have ha := hv.2.1.2
  refine zLp_bits (g := id) (fun acc i hi => ?_) (fun acc => ?_) (by omega)
  · simp (disch := omega) only [fX6_actsProved_4, fX6_actsProved_26, hl.2.1, e1, zle_f, c_isProved hh hw hl hi ha, zGd_t, zBd_s, zBp_s, zLt_s, zXr_s, zXr_n, zBd_n, zIx_nI, nI_clamp]
    by_cases h1 : aProved m i = true <;> simp [zBr_if, h1, nI_1]
  · simp (disch := omega) only [fX6_actsProved_4, hl.2.1, e1, zle_t, zXr_s]
    rfl
theorem c_actsOf (hl : Rl S.1 b m) (hv : WFl m) (v : Int32) : fX6_actsOf S b v = some (zBits (fun i => decide (m (38 + i) = v)) (kA m)) := by
  have e1 := hv.2.1.1
  have ha := hv.2.1.2
  refine zLp_bits (g := id) (fun acc i hi => ?_) (fun acc => ?_) (by omega)
  · simp (disch := omega) only [fX6_actsOf_4, fX6_actsOf_28, hl.2.1, e1, zle_f, zGd_t, zBd_s, zBp_s, zLt_s, zXr_s, zXr_n, zBd_n, zIx_nI, nI_clamp, (hl.2.2.2.1 i hi).1]
    by_cases h1 : m (38 + i) = v <;> simp [zBr_if, h1, nI_1]
  · simp (disch := omega) only [fX6_actsOf_4, hl.2.1, e1, zle_t, zXr_s]
    rfl
theorem c_actsOfDeed (hl : Rl S.1 b m) (hv : WFl m) (v : Int32) : fX6_actsOfDeed S b v = some (zBits (fun i => decide (m (50 + i) = v)) (kA m)) := by
  have e1 := hv.2.1.1
  have ha := hv.2.1.2
  refine zLp_bits (g := id) (fun acc i hi => ?_) (fun acc => ?_) (by omega)
  · simp (disch := omega) only [fX6_actsOfDeed_4, fX6_actsOfDeed_28, hl.2.1, e1, zle_f, zGd_t, zBd_s, zBp_s, zLt_s, zXr_s, zXr_n, zBd_n, zIx_nI, nI_clamp, (hl.2.2.2.1 i hi).2.1]
    by_cases h1 : m (50 + i) = v <;> simp [zBr_if, h1, nI_1]
  · simp (disch := omega) only [fX6_actsOfDeed_4, hl.2.1, e1, zle_t, zXr_s]
    rfl
def aSeer (m : Nat → Int32) (p : Nat) : Bool := !(aFern m p) && decide (m (32 + p) < m 4)
theorem c_plantsThatSee (hh : Rh S.1 (zHs b) m) (hw : WFh m) (hl : Rl S.1 b m) : fX6_plantsThatSee S b = some (zBits (aSeer m) (kP m)) := by
  have h6 := hw.2.1.2
  have e1 := hw.2.1.1
  refine zLp_bits (g := id) (fun acc p hp => ?_) (fun acc => ?_) (by omega)
  · simp (disch := omega) only [fX6_plantsThatSee_4, fX6_plantsThatSee_26, c_plants hh, zBd_s, e1, zle_f, zGd_t, zBd_s, zBp_s, zLt_s, zXr_s, zXr_n, zBd_n, zIx_nI, nI_clamp, c_isBlind hh hw hl hp]
    by_cases h1 : aFern m p = true
    · simp [zBr_if, h1, aSeer, nI_1]
    · by_cases h2 : m (32 + p) < m 4 <;> simp [zBr_if, h1, h2, aSeer, nI_1]
  · simp (disch := omega) only [fX6_plantsThatSee_4, c_plants hh, zBd_s, e1, zle_t, zXr_s]
    rfl
theorem c_plantsWithDust (hh : Rh S.1 (zHs b) m) (hw : WFh m) (hl : Rl S.1 b m) : fX6_plantsWithDust S b = some (zBits (fun p => decide (¬ m (32 + p) ≤ 0)) (kP m)) := by
  have h6 := hw.2.1.2
  have e1 := hw.2.1.1
  refine zLp_bits (g := id) (fun acc p hp => ?_) (fun acc => ?_) (by omega)
  · simp (disch := omega) only [fX6_plantsWithDust_4, fX6_plantsWithDust_27, c_plants hh, zBd_s, e1, zle_f, zGd_t, zBd_s, zBp_s, zLt_s, zXr_s, zXr_n, zBd_n, zIx_nI, nI_clamp, (hl.2.2.1 p hp).2.1]
    by_cases h2 : m (32 + p) ≤ 0 <;> simp [zBr_if, h2, nI_1]
  · simp (disch := omega) only [fX6_plantsWithDust_4, c_plants hh, zBd_s, e1, zle_t, zXr_s]
    rfl
def aDp (m : Nat → Int32) (p : Nat) (acc : Int32) : Int32 := if m (32 + p) ≤ 0 then acc else acc ||| ((1 : Int32) <<< (m (26 + p) &&& 31))
theorem c_parloursWithDust (hh : Rh S.1 (zHs b) m) (hw : WFh m) (hl : Rl S.1 b m) : fX6_parloursWithDust S b = some (zFo (aDp m) 0 (kP m)) := by
  have h6 := hw.2.1.2
  have e1 := hw.2.1.1
  refine zLp_fold (F := aDp m) (n := kP m) (fun acc p hp => ?_) ?_ (by omega)
  · simp (disch := omega) only [fX6_parloursWithDust_4, fX6_parloursWithDust_32, c_plants hh, zBd_s, e1, zle_f, zGd_t, zBd_s, zBp_s, zLt_s, zXr_s, zXr_n, zBd_n, zIx_nI, nI_clamp, (hl.2.2.1 p hp).2.1, (hl.2.2.1 p hp).1]
    by_cases h2 : m (32 + p) ≤ 0 <;> simp [zBr_if, h2, nI_1, aDp]
  · simp (disch := omega) only [fX6_parloursWithDust_4, c_plants hh, zBd_s, e1, zle_t, zXr_s]
theorem c_allLeavesCome (hh : Rh S.1 (zHs b) m) (hw : WFh m) (hl : Rl S.1 b m) (hv : WFl m) : fX6_allLeavesCome S b = some (zFo (fun p acc => acc + nI (zCt (aCome m p) (kA m))) 0 (kP m)) := by
  have h6 := hw.2.1.2
  have e1 := hw.2.1.1
  refine zLp_fold (F := fun p acc => acc + nI (zCt (aCome m p) (kA m))) (n := kP m) (fun acc p hp => ?_) ?_ (by omega)
  · simp (disch := omega) only [fX6_allLeavesCome_4, c_plants hh, zBd_s, e1, zle_f, zGd_t, zBd_s, zBp_s, zLt_s, zXr_s, zXr_n, zBd_n, zIx_nI, nI_clamp, c_actsShown hl hv hw hp, c_bitcB (aCome m p) hv.2.1.2, nI_1]
  · simp (disch := omega) only [fX6_allLeavesCome_4, c_plants hh, zBd_s, e1, zle_t, zXr_s]
theorem c_allLeavesDue (hh : Rh S.1 (zHs b) m) (hw : WFh m) (hl : Rl S.1 b m) (hv : WFl m) : fX6_allLeavesDue S b = some (zFo (fun p acc => acc + nI (zCt (aWill m p) (kA m))) 0 (kP m)) := by
  have h6 := hw.2.1.2
  have e1 := hw.2.1.1
  refine zLp_fold (F := fun p acc => acc + nI (zCt (aWill m p) (kA m))) (n := kP m) (fun acc p hp => ?_) ?_ (by omega)
  · simp (disch := omega) only [fX6_allLeavesDue_4, c_plants hh, zBd_s, e1, zle_f, zGd_t, zBd_s, zBp_s, zLt_s, zXr_s, zXr_n, zBd_n, zIx_nI, nI_clamp, c_leavesDue hl hv hw hp, nI_1]
  · simp (disch := omega) only [fX6_allLeavesDue_4, c_plants hh, zBd_s, e1, zle_t, zXr_s]
theorem c_parloursUnseen (hh : Rh S.1 (zHs b) m) (hw : WFh m) (hl : Rl S.1 b m) (hv : WFl m) : fX6_parloursUnseen S b = some ((((1 : Int32) <<< (m 0 &&& 31)) - 1) &&& (zFo (fun p acc => acc ||| aSees m p 0) 0 (kP m) ^^^ (-1))) := by
  have h6 := hw.2.1.2
  have e1 := hw.2.1.1
  refine zLp_fold (F := fun p acc => acc ||| aSees m p 0) (n := kP m) (fun acc p hp => ?_) ?_ (by omega)
  · simp (disch := omega) only [fX6_parloursUnseen_4, c_plants hh, zBd_s, e1, zle_f, zGd_t, zBd_s, zBp_s, zLt_s, zXr_s, zXr_n, zBd_n, zIx_nI, nI_clamp, c_seenBy hh hw hl hv hp, nI_1]
  · simp (disch := omega) only [fX6_parloursUnseen_4, c_plants hh, zBd_s, e1, zle_t, zg_0_2, zg_0_3, zg_0_4, zg_0_24, zg_0_40, zg_0_160, zg_0_406, zg_1_2, zg_1_3, zg_1_4, zg_1_24, zg_1_406, zg_2_3, zg_2_4, zg_2_24, zg_2_406, zg_3_4, zg_3_24, zg_3_406, zg_4_24, zg_4_406, zg_5_24, zg_5_406, zg_23_24, zg_23_406, zg_24_406, zg_25_406, zg_164_406, zg_165_406, zt_0, zt_1, zt_2, zt_3, zt_4, zt_5, zt_6, zt_20, zt_23, zt_24, zt_25, zt_164, zt_165, zGd_t, hh.1 0 (by omega), fX11_allBits, zXr_s]
end CRead
/-! the reference's readers -/
theorem zo_leaf {p i : Nat} : ((86 : Int32) + ((12 : Int32) * nI p)) + nI i = nI (86 + 12 * p + i) := by
  rw [show (86 : Int32) = nI 86 from rfl, show (12 : Int32) = nI 12 from rfl, pk_mul, nI_add, nI_add]
def aIs (n : Nat) (x : Int32) : Int32 := if x < 0 then 0 else if nI n ≤ x then 0 else 1
theorem zpred {n : Nat} (hn : n < 1000) (x : Int32) : nI n - 1 < x ↔ nI n ≤ x := by
  have h1 : (nI n).toInt = n := nI_toInt (by omega)
  have h2 : (nI n - 1).toInt = (n : Int) - 1 := by
    have := pk_sub_toInt (a := n) (b := 1) (by omega) (by omega)
    rw [show (1 : Int32) = nI 1 from rfl, this]
    omega
  rw [Int32.lt_iff_toInt_lt, Int32.le_iff_toInt_le, h1, h2]
  omega
theorem m_isIn {n : Nat} (hn : n < 1000) (x : Int32) : fX12_isIn x 0 (nI n - 1) = some (aIs n x) := by
  simp only [fX12_isIn, zBr_if, zpred hn, aIs]
  by_cases h1 : x < 0
  · simp [h1]
  · by_cases h2 : nI n ≤ x <;> simp [h1, h2]
theorem zBo_is (n : Nat) (x : Int32) : zBo (aIs n x) = true := by
  unfold aIs
  split
  · rfl
  · split <;> rfl
theorem zBo_if (c : Prop) [Decidable c] : zBo (if c then 1 else 0) = true := by
  split <;> rfl
section MRead
variable {T : zSt}
theorem m_isParlour (hw : WFh (T.1 2)) (x : Int32) : fX12_isParlour T x = some (aIs (kL (T.1 2)) x) := by
  have := hw.1
  simp (disch := omega) only [fX12_isParlour, zg_0_2, zg_0_3, zg_0_4, zg_0_24, zg_0_40, zg_0_160, zg_0_406, zg_1_2, zg_1_3, zg_1_4, zg_1_24, zg_1_406, zg_2_3, zg_2_4, zg_2_24, zg_2_406, zg_3_4, zg_3_24, zg_3_406, zg_4_24, zg_4_406, zg_5_24, zg_5_406, zg_23_24, zg_23_406, zg_24_406, zg_25_406, zg_164_406, zg_165_406, zt_0, zt_1, zt_2, zt_3, zt_4, zt_5, zt_6, zt_20, zt_23, zt_24, zt_25, zt_164, zt_165, zGd_t, this.1, m_isIn, zBd_s, zBo_is]
theorem m_isPlant (hw : WFh (T.1 2)) (x : Int32) : fX12_isPlant T x = some (aIs (kP (T.1 2)) x) := by
  have := hw.2.1
  simp (disch := omega) only [fX12_isPlant, zg_0_2, zg_0_3, zg_0_4, zg_0_24, zg_0_40, zg_0_160, zg_0_406, zg_1_2, zg_1_3, zg_1_4, zg_1_24, zg_1_406, zg_2_3, zg_2_4, zg_2_24, zg_2_406, zg_3_4, zg_3_24, zg_3_406, zg_4_24, zg_4_406, zg_5_24, zg_5_406, zg_23_24, zg_23_406, zg_24_406, zg_25_406, zg_164_406, zg_165_406, zt_0, zt_1, zt_2, zt_3, zt_4, zt_5, zt_6, zt_20, zt_23, zt_24, zt_25, zt_164, zt_165, zGd_t, this.1, m_isIn, zBd_s, zBo_is]
theorem m_isPerson (hw : WFh (T.1 2)) (x : Int32) : fX12_isPerson T x = some (aIs (kE (T.1 2)) x) := by
  have := hw.2.2.1
  simp (disch := omega) only [fX12_isPerson, zg_0_2, zg_0_3, zg_0_4, zg_0_24, zg_0_40, zg_0_160, zg_0_406, zg_1_2, zg_1_3, zg_1_4, zg_1_24, zg_1_406, zg_2_3, zg_2_4, zg_2_24, zg_2_406, zg_3_4, zg_3_24, zg_3_406, zg_4_24, zg_4_406, zg_5_24, zg_5_406, zg_23_24, zg_23_406, zg_24_406, zg_25_406, zg_164_406, zg_165_406, zt_0, zt_1, zt_2, zt_3, zt_4, zt_5, zt_6, zt_20, zt_23, zt_24, zt_25, zt_164, zt_165, zGd_t, this.1, m_isIn, zBd_s, zBo_is]
theorem m_isDeed (hw : WFh (T.1 2)) (x : Int32) : fX12_isDeed T x = some (aIs (kD (T.1 2)) x) := by
  have := hw.2.2.2.1
  simp (disch := omega) only [fX12_isDeed, zg_0_2, zg_0_3, zg_0_4, zg_0_24, zg_0_40, zg_0_160, zg_0_406, zg_1_2, zg_1_3, zg_1_4, zg_1_24, zg_1_406, zg_2_3, zg_2_4, zg_2_24, zg_2_406, zg_3_4, zg_3_24, zg_3_406, zg_4_24, zg_4_406, zg_5_24, zg_5_406, zg_23_24, zg_23_406, zg_24_406, zg_25_406, zg_164_406, zg_165_406, zt_0, zt_1, zt_2, zt_3, zt_4, zt_5, zt_6, zt_20, zt_23, zt_24, zt_25, zt_164, zt_165, zGd_t, this.1, m_isIn, zBd_s, zBo_is]
theorem m_isAct (hv : WFl (T.1 2)) (x : Int32) : fX12_isAct T x = some (aIs (kA (T.1 2)) x) := by
  have := hv.2.1
  simp (disch := omega) only [fX12_isAct, zg_0_2, zg_0_3, zg_0_4, zg_0_24, zg_0_40, zg_0_160, zg_0_406, zg_1_2, zg_1_3, zg_1_4, zg_1_24, zg_1_406, zg_2_3, zg_2_4, zg_2_24, zg_2_406, zg_3_4, zg_3_24, zg_3_406, zg_4_24, zg_4_406, zg_5_24, zg_5_406, zg_23_24, zg_23_406, zg_24_406, zg_25_406, zg_164_406, zg_165_406, zt_0, zt_1, zt_2, zt_3, zt_4, zt_5, zt_6, zt_20, zt_23, zt_24, zt_25, zt_164, zt_165, zGd_t, this.1, m_isIn, zBd_s, zBo_is]
theorem m_isFern {p : Nat} : fX12_isFern T (nI p) = some (if aFern (T.1 2) p = true then 1 else 0) := by
  simp only [fX12_isFern, zg_0_2, zg_0_3, zg_0_4, zg_0_24, zg_0_40, zg_0_160, zg_0_406, zg_1_2, zg_1_3, zg_1_4, zg_1_24, zg_1_406, zg_2_3, zg_2_4, zg_2_24, zg_2_406, zg_3_4, zg_3_24, zg_3_406, zg_4_24, zg_4_406, zg_5_24, zg_5_406, zg_23_24, zg_23_406, zg_24_406, zg_25_406, zg_164_406, zg_165_406, zt_0, zt_1, zt_2, zt_3, zt_4, zt_5, zt_6, zt_20, zt_23, zt_24, zt_25, zt_164, zt_165, zGd_t, fX12_has, zBr_if, aFern]
  by_cases h : (T.1 2 23 >>> (nI p &&& 31)) &&& (1 : Int32) = 1 <;> simp [h, zBd_s, zGd, zBo]
theorem m_around {l : Nat} (hl : l < 5) : fX12_around T (nI l) = some (aRch (T.1 2) l) := by
  simp (disch := omega) only [fX12_around, zo_5, zo_6, zo_11, zo_17, zo_24, zo_26, zo_32, zo_38, zo_50, zo_62, zo_74, zo_86, zo_158, zo_166, zGd_t, zBd_s, zBp_s, zLt_s, zXr_s, zXr_n, zBd_n, zIx_nI, nI_clamp, aRch]
theorem m_seesOf (hw : WFh (T.1 2)) (hv : WFl (T.1 2)) {p : Nat} (hp : p < kP (T.1 2)) (more : Int32) : fX12_seesOf T (nI p) more = some (aSees (T.1 2) p more) := by
  have h6 := hw.2.1.2
  have h5 := hw.1.2
  obtain ⟨a, ha, ea⟩ := (hv.2.2.1 p hp).1
  simp (disch := omega) only [fX12_seesOf, m_isFern, zBd_s, zo_5, zo_6, zo_11, zo_17, zo_24, zo_26, zo_32, zo_38, zo_50, zo_62, zo_74, zo_86, zo_158, zo_166, zGd_t, zBd_s, zBp_s, zLt_s, zXr_s, zXr_n, zBd_n, zIx_nI, nI_clamp, zg_0_2, zg_0_3, zg_0_4, zg_0_24, zg_0_40, zg_0_160, zg_0_406, zg_1_2, zg_1_3, zg_1_4, zg_1_24, zg_1_406, zg_2_3, zg_2_4, zg_2_24, zg_2_406, zg_3_4, zg_3_24, zg_3_406, zg_4_24, zg_4_406, zg_5_24, zg_5_406, zg_23_24, zg_23_406, zg_24_406, zg_25_406, zg_164_406, zg_165_406, zt_0, zt_1, zt_2, zt_3, zt_4, zt_5, zt_6, zt_20, zt_23, zt_24, zt_25, zt_164, zt_165, ea, m_around, aSees]
  by_cases hf : aFern (T.1 2) p = true
  · simp [hf, zBr_if]
  · by_cases hd : T.1 2 (32 + p) + more < T.1 2 4 <;> simp [hf, hd, zBr_if]
theorem m_leafOf {p i : Nat} (hp : p < 6) (hi : i < 12) : fX12_leafOf T (nI p) (nI i) = some (T.1 2 (86 + 12 * p + i)) := by
  simp (disch := omega) only [fX12_leafOf, zo_leaf, zGd_t, zBd_s, zBp_s, zLt_s, zXr_s, zXr_n, zBd_n, zIx_nI, nI_clamp]
theorem m_hasCome {p i : Nat} (hp : p < 6) (hi : i < 12) : fX12_hasCome T (nI p) (nI i) = some (if aCome (T.1 2) p i = true then 1 else 0) := by
  simp only [fX12_hasCome, m_leafOf hp hi, zBd_s, zg_0_2, zg_0_3, zg_0_4, zg_0_24, zg_0_40, zg_0_160, zg_0_406, zg_1_2, zg_1_3, zg_1_4, zg_1_24, zg_1_406, zg_2_3, zg_2_4, zg_2_24, zg_2_406, zg_3_4, zg_3_24, zg_3_406, zg_4_24, zg_4_406, zg_5_24, zg_5_406, zg_23_24, zg_23_406, zg_24_406, zg_25_406, zg_164_406, zg_165_406, zt_0, zt_1, zt_2, zt_3, zt_4, zt_5, zt_6, zt_20, zt_23, zt_24, zt_25, zt_164, zt_165, zGd_t, zBr_if, aCome]
  by_cases h1 : T.1 2 (86 + 12 * p + i) = -1
  · simp [h1]
  · by_cases h2 : T.1 2 24 < T.1 2 (86 + 12 * p + i) <;> simp [h1, h2]
theorem m_willCome {p i : Nat} (hp : p < 6) (hi : i < 12) : fX12_willCome T (nI p) (nI i) = some (if aWill (T.1 2) p i = true then 1 else 0) := by
  simp only [fX12_willCome, m_leafOf hp hi, zBd_s, zg_0_2, zg_0_3, zg_0_4, zg_0_24, zg_0_40, zg_0_160, zg_0_406, zg_1_2, zg_1_3, zg_1_4, zg_1_24, zg_1_406, zg_2_3, zg_2_4, zg_2_24, zg_2_406, zg_3_4, zg_3_24, zg_3_406, zg_4_24, zg_4_406, zg_5_24, zg_5_406, zg_23_24, zg_23_406, zg_24_406, zg_25_406, zg_164_406, zg_165_406, zt_0, zt_1, zt_2, zt_3, zt_4, zt_5, zt_6, zt_20, zt_23, zt_24, zt_25, zt_164, zt_165, zGd_t, zBr_if, aWill]
  by_cases h2 : T.1 2 (86 + 12 * p + i) ≤ T.1 2 24 <;> simp [h2]
theorem m_shownBy1 (hw : WFh (T.1 2)) (hv : WFl (T.1 2)) {p : Nat} (hp : p < kP (T.1 2)) : fX12_shownBy T (nI p) 1 = some (zBits (aCome (T.1 2) p) (kA (T.1 2))) := by
  have h6 := hw.2.1.2
  have e1 := hv.2.1.1
  have ha := hv.2.1.2
  refine zLp_bits (g := id) (fun acc i hi => ?_) (fun acc => ?_) (by omega)
  · simp (disch := omega) only [fX12_shownBy_5, fX12_shownBy_51, fX12_shownBy_44, zg_0_2, zg_0_3, zg_0_4, zg_0_24, zg_0_40, zg_0_160, zg_0_406, zg_1_2, zg_1_3, zg_1_4, zg_1_24, zg_1_406, zg_2_3, zg_2_4, zg_2_24, zg_2_406, zg_3_4, zg_3_24, zg_3_406, zg_4_24, zg_4_406, zg_5_24, zg_5_406, zg_23_24, zg_23_406, zg_24_406, zg_25_406, zg_164_406, zg_165_406, zt_0, zt_1, zt_2, zt_3, zt_4, zt_5, zt_6, zt_20, zt_23, zt_24, zt_25, zt_164, zt_165, zGd_t, e1, zle_f, m_hasCome, zBd_s, zLt_s]
    by_cases h1 : aCome (T.1 2) p i = true <;> simp [zBr_if, h1, nI_1]
  · simp (disch := omega) only [fX12_shownBy_5, zg_0_2, zg_0_3, zg_0_4, zg_0_24, zg_0_40, zg_0_160, zg_0_406, zg_1_2, zg_1_3, zg_1_4, zg_1_24, zg_1_406, zg_2_3, zg_2_4, zg_2_24, zg_2_406, zg_3_4, zg_3_24, zg_3_406, zg_4_24, zg_4_406, zg_5_24, zg_5_406, zg_23_24, zg_23_406, zg_24_406, zg_25_406, zg_164_406, zg_165_406, zt_0, zt_1, zt_2, zt_3, zt_4, zt_5, zt_6, zt_20, zt_23, zt_24, zt_25, zt_164, zt_165, zGd_t, e1, zle_t, zXr_s]
    rfl
theorem m_shownBy0 (hw : WFh (T.1 2)) (hv : WFl (T.1 2)) {p : Nat} (hp : p < kP (T.1 2)) : fX12_shownBy T (nI p) 0 = some (zBits (aWill (T.1 2) p) (kA (T.1 2))) := by
  have h6 := hw.2.1.2
  have e1 := hv.2.1.1
  have ha := hv.2.1.2
  refine zLp_bits (g := id) (fun acc i hi => ?_) (fun acc => ?_) (by omega)
  · simp (disch := omega) only [fX12_shownBy_5, fX12_shownBy_51, fX12_shownBy_44, zg_0_2, zg_0_3, zg_0_4, zg_0_24, zg_0_40, zg_0_160, zg_0_406, zg_1_2, zg_1_3, zg_1_4, zg_1_24, zg_1_406, zg_2_3, zg_2_4, zg_2_24, zg_2_406, zg_3_4, zg_3_24, zg_3_406, zg_4_24, zg_4_406, zg_5_24, zg_5_406, zg_23_24, zg_23_406, zg_24_406, zg_25_406, zg_164_406, zg_165_406, zt_0, zt_1, zt_2, zt_3, zt_4, zt_5, zt_6, zt_20, zt_23, zt_24, zt_25, zt_164, zt_165, zGd_t, e1, zle_f, m_willCome, zBd_s, zLt_s]
    by_cases h1 : aWill (T.1 2) p i = true <;> simp [zBr_if, h1, nI_1]
  · simp (disch := omega) only [fX12_shownBy_5, zg_0_2, zg_0_3, zg_0_4, zg_0_24, zg_0_40, zg_0_160, zg_0_406, zg_1_2, zg_1_3, zg_1_4, zg_1_24, zg_1_406, zg_2_3, zg_2_4, zg_2_24, zg_2_406, zg_3_4, zg_3_24, zg_3_406, zg_4_24, zg_4_406, zg_5_24, zg_5_406, zg_23_24, zg_23_406, zg_24_406, zg_25_406, zg_164_406, zg_165_406, zt_0, zt_1, zt_2, zt_3, zt_4, zt_5, zt_6, zt_20, zt_23, zt_24, zt_25, zt_164, zt_165, zGd_t, e1, zle_t, zXr_s]
    rfl
theorem m_plantsFor1 (hw : WFh (T.1 2)) (hv : WFl (T.1 2)) {i : Nat} (hi : i < kA (T.1 2)) : fX12_plantsFor T (nI i) 1 = some (zBits (fun p => aCome (T.1 2) p i) (kP (T.1 2))) := by
  have h6 := hw.2.1.2
  have e1 := hw.2.1.1
  have ha := hv.2.1.2
  refine zLp_bits (g := id) (fun acc p hp => ?_) (fun acc => ?_) (by omega)
  · simp (disch := omega) only [fX12_plantsFor_5, fX12_plantsFor_50, fX12_plantsFor_43, zg_0_2, zg_0_3, zg_0_4, zg_0_24, zg_0_40, zg_0_160, zg_0_406, zg_1_2, zg_1_3, zg_1_4, zg_1_24, zg_1_406, zg_2_3, zg_2_4, zg_2_24, zg_2_406, zg_3_4, zg_3_24, zg_3_406, zg_4_24, zg_4_406, zg_5_24, zg_5_406, zg_23_24, zg_23_406, zg_24_406, zg_25_406, zg_164_406, zg_165_406, zt_0, zt_1, zt_2, zt_3, zt_4, zt_5, zt_6, zt_20, zt_23, zt_24, zt_25, zt_164, zt_165, zGd_t, e1, zle_f, m_hasCome, zBd_s, zLt_s]
    by_cases h1 : aCome (T.1 2) p i = true <;> simp [zBr_if, h1, nI_1]
  · simp (disch := omega) only [fX12_plantsFor_5, zg_0_2, zg_0_3, zg_0_4, zg_0_24, zg_0_40, zg_0_160, zg_0_406, zg_1_2, zg_1_3, zg_1_4, zg_1_24, zg_1_406, zg_2_3, zg_2_4, zg_2_24, zg_2_406, zg_3_4, zg_3_24, zg_3_406, zg_4_24, zg_4_406, zg_5_24, zg_5_406, zg_23_24, zg_23_406, zg_24_406, zg_25_406, zg_164_406, zg_165_406, zt_0, zt_1, zt_2, zt_3, zt_4, zt_5, zt_6, zt_20, zt_23, zt_24, zt_25, zt_164, zt_165, zGd_t, e1, zle_t, zXr_s]
    rfl
theorem m_plantsFor0 (hw : WFh (T.1 2)) (hv : WFl (T.1 2)) {i : Nat} (hi : i < kA (T.1 2)) : fX12_plantsFor T (nI i) 0 = some (zBits (fun p => aWill (T.1 2) p i) (kP (T.1 2))) := by
  have h6 := hw.2.1.2
  have e1 := hw.2.1.1
  have ha := hv.2.1.2
  refine zLp_bits (g := id) (fun acc p hp => ?_) (fun acc => ?_) (by omega)
  · simp (disch := omega) only [fX12_plantsFor_5, fX12_plantsFor_50, fX12_plantsFor_43, zg_0_2, zg_0_3, zg_0_4, zg_0_24, zg_0_40, zg_0_160, zg_0_406, zg_1_2, zg_1_3, zg_1_4, zg_1_24, zg_1_406, zg_2_3, zg_2_4, zg_2_24, zg_2_406, zg_3_4, zg_3_24, zg_3_406, zg_4_24, zg_4_406, zg_5_24, zg_5_406, zg_23_24, zg_23_406, zg_24_406, zg_25_406, zg_164_406, zg_165_406, zt_0, zt_1, zt_2, zt_3, zt_4, zt_5, zt_6, zt_20, zt_23, zt_24, zt_25, zt_164, zt_165, zGd_t, e1, zle_f, m_willCome, zBd_s, zLt_s]
    by_cases h1 : aWill (T.1 2) p i = true <;> simp [zBr_if, h1, nI_1]
  · simp (disch := omega) only [fX12_plantsFor_5, zg_0_2, zg_0_3, zg_0_4, zg_0_24, zg_0_40, zg_0_160, zg_0_406, zg_1_2, zg_1_3, zg_1_4, zg_1_24, zg_1_406, zg_2_3, zg_2_4, zg_2_24, zg_2_406, zg_3_4, zg_3_24, zg_3_406, zg_4_24, zg_4_406, zg_5_24, zg_5_406, zg_23_24, zg_23_406, zg_24_406, zg_25_406, zg_164_406, zg_165_406, zt_0, zt_1, zt_2, zt_3, zt_4, zt_5, zt_6, zt_20, zt_23, zt_24, zt_25, zt_164, zt_165, zGd_t, e1, zle_t, zXr_s]
    rfl
theorem m_isProved (hw : WFh (T.1 2)) (hv : WFl (T.1 2)) {i : Nat} (hi : i < kA (T.1 2)) : fX12_isProved T (nI i) = some (if aProved (T.1 2) i = true then 1 else 0) := by
  have h6 := hw.2.1.2
  unfold fX12_isProved
  rw [m_plantsFor1 hw hv hi, zBd_s, m_bitsB (fun p => aCome (T.1 2) p i) (show kP (T.1 2) ≤ 12 by omega), zBd_s, zg_5_406, zGd_t, zt_5, zBr_if]
  unfold aProved
  by_cases h : nI (zCt (fun p => aCome (T.1 2) p i) (kP (T.1 2))) < T.1 2 5 <;> simp [h]
theorem m_proved (hw : WFh (T.1 2)) (hv : WFl (T.1 2)) : fX12_proved T = some (zBits (aProved (T.1 2)) (kA (T.1 2))) := by
  have e1 := hv.2.1.1
  have ha := hv.2.1.2
  refine zLp_bits (g := id) (fun acc i hi => ?_) (fun acc => ?_) (by omega)
  · simp (disch := omega) only [fX12_proved_4, fX12_proved_29, zg_0_2, zg_0_3, zg_0_4, zg_0_24, zg_0_40, zg_0_160, zg_0_406, zg_1_2, zg_1_3, zg_1_4, zg_1_24, zg_1_406, zg_2_3, zg_2_4, zg_2_24, zg_2_406, zg_3_4, zg_3_24, zg_3_406, zg_4_24, zg_4_406, zg_5_24, zg_5_406, zg_23_24, zg_23_406, zg_24_406, zg_25_406, zg_164_406, zg_165_406, zt_0, zt_1, zt_2, zt_3, zt_4, zt_5, zt_6, zt_20, zt_23, zt_24, zt_25, zt_164, zt_165, zGd_t, e1, zle_f, m_isProved hw hv hi, zGd_t, zBd_s, zBp_s, zLt_s, zXr_s, zXr_n, zBd_n, zIx_nI, nI_clamp]
    by_cases h1 : aProved (T.1 2) i = true <;> simp [zBr_if, h1, nI_1]
  · simp (disch := omega) only [fX12_proved_4, zg_0_2, zg_0_3, zg_0_4, zg_0_24, zg_0_40, zg_0_160, zg_0_406, zg_1_2, zg_1_3, zg_1_4, zg_1_24, zg_1_406, zg_2_3, zg_2_4, zg_2_24, zg_2_406, zg_3_4, zg_3_24, zg_3_406, zg_4_24, zg_4_406, zg_5_24, zg_5_406, zg_23_24, zg_23_406, zg_24_406, zg_25_406, zg_164_406, zg_165_406, zt_0, zt_1, zt_2, zt_3, zt_4, zt_5, zt_6, zt_20, zt_23, zt_24, zt_25, zt_164, zt_165, zGd_t, e1, zle_t, zXr_s]
    rfl
theorem m_unseen (hw : WFh (T.1 2)) (hv : WFl (T.1 2)) (more : Int32) : fX12_unseen T more = some (zFo (fun p acc => acc &&& (aSees (T.1 2) p more ^^^ (-1))) (((1 : Int32) <<< (T.1 2 0 &&& 31)) - 1) (kP (T.1 2))) := by
  have h6 := hw.2.1.2
  have e1 := hw.2.1.1
  simp only [fX12_unseen, zg_0_2, zg_0_3, zg_0_4, zg_0_24, zg_0_40, zg_0_160, zg_0_406, zg_1_2, zg_1_3, zg_1_4, zg_1_24, zg_1_406, zg_2_3, zg_2_4, zg_2_24, zg_2_406, zg_3_4, zg_3_24, zg_3_406, zg_4_24, zg_4_406, zg_5_24, zg_5_406, zg_23_24, zg_23_406, zg_24_406, zg_25_406, zg_164_406, zg_165_406, zt_0, zt_1, zt_2, zt_3, zt_4, zt_5, zt_6, zt_20, zt_23, zt_24, zt_25, zt_164, zt_165, zGd_t, zLt_s]
  refine zLp_fold (F := fun p acc => acc &&& (aSees (T.1 2) p more ^^^ (-1))) (n := kP (T.1 2)) (fun acc p hp => ?_) ?_ (by omega)
  · simp (disch := omega) only [fX12_unseen_13, zg_0_2, zg_0_3, zg_0_4, zg_0_24, zg_0_40, zg_0_160, zg_0_406, zg_1_2, zg_1_3, zg_1_4, zg_1_24, zg_1_406, zg_2_3, zg_2_4, zg_2_24, zg_2_406, zg_3_4, zg_3_24, zg_3_406, zg_4_24, zg_4_406, zg_5_24, zg_5_406, zg_23_24, zg_23_406, zg_24_406, zg_25_406, zg_164_406, zg_165_406, zt_0, zt_1, zt_2, zt_3, zt_4, zt_5, zt_6, zt_20, zt_23, zt_24, zt_25, zt_164, zt_165, zGd_t, e1, zle_f, m_seesOf hw hv hp, zBd_s, zLt_s, nI_1]
  · simp (disch := omega) only [fX12_unseen_13, zg_0_2, zg_0_3, zg_0_4, zg_0_24, zg_0_40, zg_0_160, zg_0_406, zg_1_2, zg_1_3, zg_1_4, zg_1_24, zg_1_406, zg_2_3, zg_2_4, zg_2_24, zg_2_406, zg_3_4, zg_3_24, zg_3_406, zg_4_24, zg_4_406, zg_5_24, zg_5_406, zg_23_24, zg_23_406, zg_24_406, zg_25_406, zg_164_406, zg_165_406, zt_0, zt_1, zt_2, zt_3, zt_4, zt_5, zt_6, zt_20, zt_23, zt_24, zt_25, zt_164, zt_165, zGd_t, e1, zle_t, zXr_s]
end MRead
