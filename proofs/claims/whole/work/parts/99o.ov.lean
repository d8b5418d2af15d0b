/-! each call, the card's text with it -/
def rTx (tx : List Nat) (T : zSt) : Prop := tx.length ≤ 20 ∧ T.1 0 34 = nI tx.length ∧ ∀ i x, tx[i]? = some x → x < 128 ∧ T.1 15 i = nI x
def RelT (tx : List Nat) (S T : zSt) : Prop := Rel S T ∧ rTx tx T
section Ov
variable {S T : zSt} {tx : List Nat}
theorem rTx_K {T' : zSt} (h : rTx tx T) (k : K T T') : rTx tx T' := ⟨h.1, by rw [k.2]; exact h.2.1, fun i x hx => by rw [k.1]; exact h.2.2 i x hx⟩
theorem K_th (T : zSt) (v : Int32) : K T (zI T 0 0 v) := ⟨zI_ne (by omega), by rw [zI_at, if_neg (by omega)]⟩
theorem ov_fault (r : RelT tx S T) : ∃ z T', fX11_fault S  = some z ∧ fX12_fault T  = some (z, T') ∧ RelT tx S T' := by
  obtain ⟨z, e1, e2⟩ := op_fault r.1 
  exact ⟨z, _, e1, e2, Rel_thrown r.1 0, rTx_K r.2 (K_th T 0)⟩
theorem ov_ask (r : RelT tx S T) : ∃ z T', fX11_ask S  = some z ∧ fX12_ask T  = some (z, T') ∧ RelT tx S T' := by
  obtain ⟨z, e1, e2⟩ := op_ask r.1 
  exact ⟨z, _, e1, e2, Rel_thrown r.1 0, rTx_K r.2 (K_th T 0)⟩
theorem ov_covering (r : RelT tx S T) : ∃ z T', fX11_covering S  = some z ∧ fX12_covering T  = some (z, T') ∧ RelT tx S T' := by
  obtain ⟨z, e1, e2⟩ := op_covering r.1 
  exact ⟨z, _, e1, e2, Rel_thrown r.1 0, rTx_K r.2 (K_th T 0)⟩
theorem ov_comes (r : RelT tx S T) (p i : Int32) : ∃ z T', fX11_comes S p i = some z ∧ fX12_comes T p i = some (z, T') ∧ RelT tx S T' := by
  obtain ⟨z, e1, e2⟩ := op_comes r.1 p i
  exact ⟨z, _, e1, e2, Rel_thrown r.1 0, rTx_K r.2 (K_th T 0)⟩
theorem ov_sights (r : RelT tx S T) (l : Int32) : ∃ z T', fX11_sights S l = some z ∧ fX12_sights T l = some (z, T') ∧ RelT tx S T' := by
  obtain ⟨z, e1, e2⟩ := op_sights r.1 l
  exact ⟨z, _, e1, e2, Rel_thrown r.1 0, rTx_K r.2 (K_th T 0)⟩
theorem ov_count (r : RelT tx S T) (w : Int32) : ∃ z T', fX11_count S w = some z ∧ fX12_count T w = some (z, T') ∧ RelT tx S T' := by
  obtain ⟨z, e1, e2⟩ := op_count r.1 w
  exact ⟨z, _, e1, e2, Rel_thrown r.1 0, rTx_K r.2 (K_th T 0)⟩
theorem ov_told (r : RelT tx S T) (w : Int32) : ∃ z T', fX11_told S w = some z ∧ fX12_told T w = some (z, T') ∧ RelT tx S T' := by
  obtain ⟨z, e1, e2⟩ := op_told r.1 w
  exact ⟨z, _, e1, e2, Rel_thrown r.1 0, rTx_K r.2 (K_th T 0)⟩
theorem ov_chosen (r : RelT tx S T) (w : Int32) : ∃ z T', fX11_chosen S w = some z ∧ fX12_chosen T w = some (z, T') ∧ RelT tx S T' := by
  obtain ⟨z, e1, e2⟩ := op_chosen r.1 w
  exact ⟨z, _, e1, e2, Rel_thrown r.1 0, rTx_K r.2 (K_th T 0)⟩
theorem ov_roundAt (r : RelT tx S T) (k : Int32) : ∃ z T', fX11_roundAt S k = some z ∧ fX12_roundAt T k = some (z, T') ∧ RelT tx S T' := by
  obtain ⟨z, e1, e2⟩ := op_roundAt r.1 k
  exact ⟨z, _, e1, e2, Rel_thrown r.1 0, rTx_K r.2 (K_th T 0)⟩
theorem ov_guilty (r : RelT tx S T) (x d : Int32) : ∃ z T', fX11_guilty S x d = some z ∧ fX12_guilty T x d = some (z, T') ∧ RelT tx S T' := by
  obtain ⟨z, e1, e2⟩ := op_guilty r.1 x d
  exact ⟨z, _, e1, e2, Rel_thrown r.1 0, rTx_K r.2 (K_th T 0)⟩
theorem ov_now (r : RelT tx S T) (w : Int32) : ∃ z T', fX11_now S w = some z ∧ fX12_now T w = some (z, T') ∧ RelT tx S T' := by
  obtain ⟨z, e1, e2⟩ := op_now r.1 w
  exact ⟨z, _, e1, e2, Rel_thrown r.1 0, rTx_K r.2 (K_th T 0)⟩
theorem ov_elder (r : RelT tx S T) : ∃ z T', fX11_elder S  = some z ∧ fX12_elder T  = some (z, T') ∧ RelT tx S T' := by
  obtain ⟨z, e1, e2⟩ := op_elder r.1 
  exact ⟨z, _, e1, e2, Rel_thrown r.1 0, rTx_K r.2 (K_th T 0)⟩
theorem ov_hides (r : RelT tx S T) (k : Int32) : ∃ z T', fX11_hides S k = some z ∧ fX12_hides T k = some (z, T') ∧ RelT tx S T' := by
  obtain ⟨z, e1, e2⟩ := op_hides r.1 k
  exact ⟨z, _, e1, e2, Rel_thrown r.1 0, rTx_K r.2 (K_th T 0)⟩
theorem ov_end (r : RelT tx S T) (n : Int32) : ∃ z S' T', fX11_end S n = some (z, S') ∧ fX12_end T n = some (z, T') ∧ RelT tx S' T' := by
  obtain ⟨z, S', T', e1, e2, e3⟩ := op_end r.1 n
  exact ⟨z, S', T', e1, e2, e3, rTx_K r.2 (kTX12_end T n (K.refl T) _ e2)⟩
theorem ov_sponge (r : RelT tx S T) (x : Int32) : ∃ z S' T', fX11_sponge S x = some (z, S') ∧ fX12_sponge T x = some (z, T') ∧ RelT tx S' T' := by
  obtain ⟨z, S', T', e1, e2, e3⟩ := op_sponge r.1 x
  exact ⟨z, S', T', e1, e2, e3, rTx_K r.2 (kTX12_sponge T x (K.refl T) _ e2)⟩
theorem ov_carry (r : RelT tx S T) (x l : Int32) : ∃ z S' T', fX11_carry S x l = some (z, S') ∧ fX12_carry T x l = some (z, T') ∧ RelT tx S' T' := by
  obtain ⟨z, S', T', e1, e2, e3⟩ := op_carry r.1 x l
  exact ⟨z, S', T', e1, e2, e3, rTx_K r.2 (kTX12_carry T x l (K.refl T) _ e2)⟩
theorem ov_undo (r : RelT tx S T) : ∃ z S' T', fX11_undo S  = some (z, S') ∧ fX12_undo T  = some (z, T') ∧ RelT tx S' T' := by
  obtain ⟨z, S', T', e1, e2, e3⟩ := op_undo r.1 
  exact ⟨z, S', T', e1, e2, e3, rTx_K r.2 (kTX12_undo T  (K.refl T) _ e2)⟩
theorem ov_days (r : RelT tx S T) (v : Int32) : ∃ z S' T', fX11_days S v = some (z, S') ∧ fX12_days T v = some (z, T') ∧ RelT tx S' T' := by
  obtain ⟨z, S', T', e1, e2, e3⟩ := op_days r.1 v
  exact ⟨z, S', T', e1, e2, e3, rTx_K r.2 (kTX12_days T v (K.refl T) _ e2)⟩
theorem ov_does (r : RelT tx S T) (x y l : Int32) : ∃ z S' T', fX11_does S x y l = some (z, S') ∧ fX12_does T x y l = some (z, T') ∧ RelT tx S' T' := by
  obtain ⟨z, S', T', e1, e2, e3⟩ := op_does r.1 x y l
  exact ⟨z, S', T', e1, e2, e3, rTx_K r.2 (kTX12_does T x y l (K.refl T) _ e2)⟩
theorem ov_feed (r : RelT tx S T) (v1 v2 v3 v4 v5 : Int32) : ∃ z S' T', fX11_feed S v1 v2 v3 v4 v5 = some (z, S') ∧ fX12_feed T v1 v2 v3 v4 v5 = some (z, T') ∧ RelT tx S' T' := by
  obtain ⟨z, S', T', e1, e2, e3⟩ := op_feed r.1 v1 v2 v3 v4 v5
  exact ⟨z, S', T', e1, e2, e3, rTx_K r.2 (kTX12_feed T v1 v2 v3 v4 v5 (K.refl T) _ e2)⟩
theorem ov_proves (r : RelT tx S T) (x : Int32) : ∃ z T', fX11_proves S x = some z ∧ fX12_proves T x = some (z, T') ∧ RelT tx S T' := by
  obtain ⟨z, e1, e2⟩ := op_proves r.1 x
  exact ⟨z, _, e1, e2, Rel_thrown r.1 0, rTx_K r.2 (K_th T 0)⟩
theorem ov_dark (r : RelT tx S T) (x : Int32) : ∃ z T', fX11_dark S x = some z ∧ fX12_dark T x = some (z, T') ∧ RelT tx S T' := by
  obtain ⟨z, e1, e2⟩ := op_dark r.1 x
  exact ⟨z, _, e1, e2, Rel_thrown r.1 0, rTx_K r.2 (K_th T 0)⟩
theorem ov_fits (r : RelT tx S T) : ∃ z S' T', fX11_fits S  = some (z, S') ∧ fX12_fits T  = some (z, T') ∧ RelT tx S' T' := by
  obtain ⟨z, S', T', e1, e2, e3⟩ := op_fits r.1 
  exact ⟨z, S', T', e1, e2, e3, rTx_K r.2 (kTX12_fits T  (K.refl T) _ e2)⟩
theorem ov_cover (r : RelT tx S T) : ∃ z S' T', fX11_cover S  = some (z, S') ∧ fX12_cover T  = some (z, T') ∧ RelT tx S' T' := by
  obtain ⟨z, S', T', e1, e2, e3⟩ := op_cover r.1 
  exact ⟨z, S', T', e1, e2, e3, rTx_K r.2 (kTX12_cover T  (K.refl T) _ e2)⟩
theorem ov_choice (r : RelT tx S T) : ∃ z S' T', fX11_choice S  = some (z, S') ∧ fX12_choice T  = some (z, T') ∧ RelT tx S' T' := by
  obtain ⟨z, S', T', e1, e2, e3⟩ := op_choice r.1 
  exact ⟨z, S', T', e1, e2, e3, rTx_K r.2 (kTX12_choice T  (K.refl T) _ e2)⟩
theorem ov_round (r : RelT tx S T) (v : Int32) : ∃ z S' T', fX11_round S v = some (z, S') ∧ fX12_round T v = some (z, T') ∧ RelT tx S' T' := by
  obtain ⟨z, S', T', e1, e2, e3⟩ := op_round r.1 v
  exact ⟨z, S', T', e1, e2, e3, rTx_K r.2 (kTX12_round T v (K.refl T) _ e2)⟩
theorem ov_drawn (r : RelT tx S T) (v x : Int32) : ∃ z S' T', fX11_drawn S v x = some (z, S') ∧ fX12_drawn T v x = some (z, T') ∧ RelT tx S' T' := by
  obtain ⟨z, S', T', e1, e2, e3⟩ := op_drawn r.1 v x
  exact ⟨z, S', T', e1, e2, e3, rTx_K r.2 (kTX12_drawn T v x (K.refl T) _ e2)⟩
theorem ov_odds (r : RelT tx S T) (v u x : Int32) : ∃ z S' T', fX11_odds S v u x = some (z, S') ∧ fX12_odds T v u x = some (z, T') ∧ RelT tx S' T' := by
  obtain ⟨z, S', T', e1, e2, e3⟩ := op_odds r.1 v u x
  exact ⟨z, S', T', e1, e2, e3, rTx_K r.2 (kTX12_odds T v u x (K.refl T) _ e2)⟩
theorem ov_image (r : RelT tx S T) (v : Int32) : ∃ z S' T', fX11_image S v = some (z, S') ∧ fX12_image T v = some (z, T') ∧ RelT tx S' T' := by
  obtain ⟨z, S', T', e1, e2, e3⟩ := op_image r.1 v
  exact ⟨z, S', T', e1, e2, e3, rTx_K r.2 (kTX12_image T v (K.refl T) _ e2)⟩
theorem ov_restore (r : RelT tx S T) (v : Int32) : ∃ z S' T', fX11_restore S v = some (z, S') ∧ fX12_restore T v = some (z, T') ∧ RelT tx S' T' := by
  obtain ⟨z, S', T', e1, e2, e3⟩ := op_restore r.1 v
  exact ⟨z, S', T', e1, e2, e3, rTx_K r.2 (kTX12_restore T v (K.refl T) _ e2)⟩
theorem ov_said (r : RelT tx S T) (v : Int32) : ∃ z S' T', fX11_said S v = some (z, S') ∧ fX12_said T v = some (z, T') ∧ RelT tx S' T' := by
  obtain ⟨z, S', T', e1, e2, e3⟩ := op_said r.1 v
  exact ⟨z, S', T', e1, e2, e3, rTx_K r.2 (kTX12_said T v (K.refl T) _ e2)⟩
theorem ov_house (r : RelT tx S T) : ∃ z S' T', fX11_house S  = some (z, S') ∧ fX12_house T  = some (z, T') ∧ RelT tx S' T' := by
  obtain ⟨z, S', T', e1, e2, e3⟩ := op_house r.1 
  exact ⟨z, S', T', e1, e2, e3, rTx_K r.2 (kTX12_house T  (K.refl T) _ e2)⟩
theorem ov_book (r : RelT tx S T) (v : Int32) : ∃ z S' T', fX11_book S v = some (z, S') ∧ fX12_book T v = some (z, T') ∧ RelT tx S' T' := by
  obtain ⟨z, S', T', e1, e2, e3⟩ := op_book r.1 v
  exact ⟨z, S', T', e1, e2, e3, rTx_K r.2 (kTX12_book T v (K.refl T) _ e2)⟩
theorem ov_sentence (r : RelT tx S T) : ∃ z S' T', fX11_sentence S  = some (z, S') ∧ fX12_sentence T  = some (z, T') ∧ RelT tx S' T' := by
  obtain ⟨z, S', T', e1, e2, e3⟩ := op_sentence r.1 
  exact ⟨z, S', T', e1, e2, e3, rTx_K r.2 (kTX12_sentence T  (K.refl T) _ e2)⟩
theorem ov_plant (r : RelT tx S T) (p w : Int32) : ∃ x z T', pPlant S p w = some x ∧ fX12_plant T p w = some (z, T') ∧ RelT tx S T' ∧ ((x = some z ∧ T'.1 0 0 = 0) ∨ (x = none ∧ T'.1 0 0 = 1)) := by
  rcases op_plant r.1 p w with ⟨z, e1, e2⟩ | ⟨e1, z, e2⟩
  · exact ⟨some z, z, _, e1, e2, ⟨Rel_thrown r.1 0, rTx_K r.2 (K_th T 0)⟩, Or.inl ⟨rfl, by rw [zI_at, if_pos ⟨rfl, rfl⟩]⟩⟩
  · exact ⟨none, z, _, e1, e2, ⟨Rel_thrown (Rel_thrown r.1 0) 1, rTx_K (rTx_K r.2 (K_th T 0)) (K_th _ 1)⟩, Or.inr ⟨rfl, by rw [zI_at, if_pos ⟨rfl, rfl⟩]⟩⟩
theorem ov_act (r : RelT tx S T) (p w : Int32) : ∃ x z T', pAct S p w = some x ∧ fX12_act T p w = some (z, T') ∧ RelT tx S T' ∧ ((x = some z ∧ T'.1 0 0 = 0) ∨ (x = none ∧ T'.1 0 0 = 1)) := by
  rcases op_act r.1 p w with ⟨z, e1, e2⟩ | ⟨e1, z, e2⟩
  · exact ⟨some z, z, _, e1, e2, ⟨Rel_thrown r.1 0, rTx_K r.2 (K_th T 0)⟩, Or.inl ⟨rfl, by rw [zI_at, if_pos ⟨rfl, rfl⟩]⟩⟩
  · exact ⟨none, z, _, e1, e2, ⟨Rel_thrown (Rel_thrown r.1 0) 1, rTx_K (rTx_K r.2 (K_th T 0)) (K_th _ 1)⟩, Or.inr ⟨rfl, by rw [zI_at, if_pos ⟨rfl, rfl⟩]⟩⟩
/-- a byte of the card's text -/
def bAt (tx : List Nat) (v : Int32) : Int32 := if v < 0 then -1 else match tx[v.toNatClampNeg]? with
  | some x => nI x
  | none => -1
theorem ov_byteAt (r : RelT tx S T) (v : Int32) : ∃ T', fX12_byteAt T v = some (bAt tx v, T') ∧ RelT tx S T' := by
  obtain ⟨l2, l3, l4⟩ := r.2
  refine ⟨zI T 0 0 0, ?_, Rel_thrown r.1 0, rTx_K r.2 (K_th T 0)⟩
  unfold fX12_byteAt
  rw [zLt_s, zI_at, if_neg (by omega), l3, m_isIn (by omega), zBd_s]
  unfold bAt
  rcases zCase v tx.length (by omega) with h | ⟨h, h'⟩ | ⟨n, hn, rfl⟩
  · unfold aIs
    rw [if_pos h, if_pos h, zBr_p rfl]
  · have h0 : ¬ v < 0 := fun q => by
      have := Int32.lt_of_le_of_lt h' q
      have := (nI_ltI (a := tx.length) (b := 0) (by omega) (by omega)).mp this
      omega
    unfold aIs
    rw [if_neg h0, if_pos h', zBr_p rfl, if_neg h0]
    have : tx[v.toNatClampNeg]? = none := by
      rw [List.getElem?_eq_none_iff]
      have a := Int32.le_iff_toInt_le.mp h'
      rw [show (nI tx.length).toInt = tx.length from Int32.toInt_ofNat_of_lt (by omega)] at a
      show tx.length ≤ v.toInt.toNat
      omega
    rw [this]
  · have h0 : ¬ nI n < 0 := fun q => by
      have := (nI_ltI (a := n) (b := 0) (by omega) (by omega)).mp q
      omega
    unfold aIs
    rw [if_neg h0, if_neg (fun q => by have := (nI_leI (by omega) (by omega)).mp q; omega), zBr_q (by decide), if_neg h0, zIx_nI (show n < 64 by omega) (by omega), zGd_t, nI_clamp (by omega), zI_ne (by omega), List.getElem?_eq_getElem hn, (l4 n _ (List.getElem?_eq_getElem hn)).2]
theorem cTx_lt {l : List Nat} (ok : dOk l) (f b : Bool) {n : Nat} (hn : n ≤ 12) {x : Nat} (hx : x ∈ cTx l f n b) : x < 128 := by
  unfold cTx at hx
  rcases List.mem_append.mp hx with h | h
  · obtain ⟨c, hc, rfl⟩ := List.mem_map.mp h
    have := ok c hc
    omega
  · cases f
    · rw [if_neg (by decide)] at h
      rcases List.mem_append.mp h with h | h
      · simp at h; omega
      · rcases List.mem_append.mp h with h | h
        · unfold dig at h
          split at h
          · simp at h; omega
          · simp at h; omega
        · cases b
          · simp at h
          · simp at h; omega
    · rw [if_pos rfl] at h
      simp at h; omega
/-- card: a plant's -/
theorem ov_card (r : RelT tx S T) {j : Nat} (hj : j < kP (T.1 2)) : ∃ l T', 1 ≤ l.length ∧ l.length ≤ 7 ∧ dOk l ∧ S.2 10 j = lN (f32 l) ∧ fX12_card T (nI j) = some (nI (cTx l (aFern (T.1 2) j) (zCt (aCome (T.1 2) j) (kA (T.1 2))) (decide (aSees (T.1 2) j 0 = 0))).length, T') ∧ RelT (cTx l (aFern (T.1 2) j) (zCt (aCome (T.1 2) j) (kA (T.1 2))) (decide (aSees (T.1 2) j 0 = 0))) S T' := by
  obtain ⟨l, T', l1, l7, ok, ex, e1, e2⟩ := m_card r.1 hj
  obtain ⟨-, ⟨-, -, -, hv, -⟩, -⟩ := id r.1
  have n12 : zCt (aCome (T.1 2) j) (kA (T.1 2)) ≤ 12 := Nat.le_trans (zCt_le _ _) hv.2.1.2
  refine ⟨l, T', l1, l7, ok, ex, e1, ?_, cTx_le l7 _ _ n12, e2.2.2.2.1, fun i x hx => ⟨cTx_lt ok _ _ n12 (List.mem_of_getElem? hx), e2.2.2.2.2 i x hx⟩⟩
  obtain ⟨q1, q2, q3, q4, q5, q6, q7, q8, q9, q10⟩ := id (Rel_thrown r.1 0)
  refine Rel_side2 (Rel_thrown r.1 0) (fun _ _ => rfl) (fun _ _ => rfl) ⟨e2.2.1 2 (by omega) (by omega), e2.2.1 4 (by omega) (by omega), e2.2.1 5 (by omega) (by omega), e2.2.1 10 (by omega) (by omega)⟩ ⟨by rw [e2.1], by rw [e2.1]⟩ (e2.2.2.1 24 (by omega)) ?_ ?_ ?_ ?_ ?_
  · rw [e2.2.2.1 2 (by omega), e2.2.1 1 (by omega) (by omega)]; exact q1
  · rw [e2.2.2.1 10 (by omega), e2.2.2.1 25 (by omega), e2.2.2.1 26 (by omega)]; exact q6
  · rw [e2.2.2.1 29 (by omega), e2.2.1 13 (by omega) (by omega)]; exact q7
  · rw [e2.2.2.1 31 (by omega), e2.2.1 14 (by omega) (by omega)]; exact q8
  · rw [e2.2.2.1 39 (by omega), e2.2.1 17 (by omega) (by omega)]; exact q9
/-- card: of what is no plant -/
theorem ov_card0 (r : RelT tx S T) {v : Int32} (h : aIs (kP (T.1 2)) v = 0) : ∃ T', fX12_card T v = some (-1, T') ∧ RelT tx S T' := by
  obtain ⟨-, ⟨-, hw, -⟩, -⟩ := id r.1
  refine ⟨zI T 0 0 0, ?_, Rel_thrown r.1 0, rTx_K r.2 (K_th T 0)⟩
  unfold fX12_card
  rw [zLt_s, m_isPlant (T := zI T 0 0 0) (by rw [zTh]; exact hw), zTh, h, zBd_s, zBr_p rfl]
end Ov
