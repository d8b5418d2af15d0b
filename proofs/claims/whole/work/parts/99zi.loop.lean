/-! the law's loop, printed by wip/gen/law2.py -/
theorem zc_6 : Int32.ofInt (6) = (6 : Int32) := by decide
theorem zand63 (x : Int32) : ∃ k, k < 64 ∧ x &&& 63 = nI k := by
  refine ⟨x.toUInt32.toNat % 64, Nat.mod_lt _ (by decide), ?_⟩
  have h1 : (x &&& 63).toUInt32.toNat = x.toUInt32.toNat % 64 := by
    show (x.toUInt32 &&& 63).toNat = _
    rw [UInt32.toNat_and]
    exact Nat.and_two_pow_sub_one_eq_mod _ 6
  have h2 : (nI (x.toUInt32.toNat % 64)).toUInt32.toNat = (x.toUInt32.toNat % 64) % 4294967296 := by
    show (Int32.ofNat _).toUInt32.toNat = _
    rw [Int32.toUInt32_ofNat']
    exact UInt32.toNat_ofNat'
  refine congrArg UInt32.toInt32 (UInt32.toNat_inj.mp ?_ : (x &&& 63).toUInt32 = (nI (x.toUInt32.toNat % 64)).toUInt32)
  rw [h1, h2]
  exact (Nat.mod_eq_of_lt (Nat.lt_of_lt_of_le (Nat.mod_lt _ (by decide)) (by decide))).symm
theorem dL_law_1268 : decode cL_law 1268 = .ok (.iinc 4 6, 3) := by decide +kernel
theorem dL_law_1271 : decode cL_law 1271 = .ok (.goto (-1248), 3) := by decide +kernel
theorem dL_law_33 : decode cL_law 33 = .ok (.aload_n 0, 1) := by decide +kernel
theorem dL_law_34 : decode cL_law 34 = .ok (.iload 4, 2) := by decide +kernel
theorem dL_law_36 : decode cL_law 36 = .ok (.iaload, 1) := by decide +kernel
theorem dL_law_37 : decode cL_law 37 = .ok (.bipush 63, 2) := by decide +kernel
theorem dL_law_39 : decode cL_law 39 = .ok (.iand, 1) := by decide +kernel
theorem dL_law_40 : decode cL_law 40 = .ok (.tableswitch 1228 0 37 #[168, 241, 266, 279, 292, 360, 428, 465, 490, 515, 564, 589, 626, 651, 664, 701, 726, 751, 776, 789, 802, 815, 828, 853, 878, 891, 916, 929, 954, 979, 1016, 1065, 1090, 1115, 1128, 1153, 1178, 1203], 168) := by decide +kernel
theorem z_toInt_nI {k : Nat} (h : k < 64) : (nI k).toInt = (k : Int) := by
  have key : ∀ k, k < 64 → (nI k).toInt = (k : Int) := by decide
  exact key k h
set_option maxHeartbeats 1000000 in
theorem law_sw {p : Program} {l : Launch} {e : Env} {s : State} {m : MethodId} {below : List Frame} {meth : Method} {c : Code} {D : va_G} {cy : Nat → ClassId} {kK kV q qm : Nat → Nat} {o b L i cells slots : Nat} {xs : Nat → Int32} {Q : State → Prop} (cx : zX RL cL_law 7 p s m #[Value.ref b] c D cy) (hE : zEn kK kV (zAL s) s) (hX : va_X b L xs s s.heap) (hbl : b < s.heap.size) (hL : L ≤ 3072) (hi : i + 6 ≤ L) (hcl : cells + 2 ≤ 601024) (hsl : slots + 68 ≤ 7293034) (hl0 : l.stackTraces = false)
    (KC : ∀ (H : Heap) (locs : List Loc) (ls : Array Slot) (c1 s1 : Nat), zIv D cy s q qm o H locs → lv_has ls 7 [(4, .int (nI i)), (0, .ref b), (1, .ref (q 0)), (2, .ref (qm 0)), (3, .ref o)] → c1 ≤ cells + 2 → s1 ≤ slots + 68 → W p l e room_1 s m #[Value.ref b] below meth c H locs c1 s1 Q (F0 m 1268 ls []))
    {H : Heap} {locs : List Loc} {ls : Array Slot} (hv : zIv D cy s q qm o H locs) (hl : lv_has ls 7 [(4, .int (nI i)), (0, .ref b), (1, .ref (q 0)), (2, .ref (qm 0)), (3, .ref o)]) {k : Nat} (hk : k < 64) : W p l e room_1 s m #[Value.ref b] below meth c H locs cells slots Q (F0 m 40 ls [.int (nI k)]) := by
  have hx := cx.1
  have hb := cx.2.1
  by_cases h38 : k < 38
  · have key : k = 0 ∨ k = 1 ∨ k = 2 ∨ k = 3 ∨ k = 4 ∨ k = 5 ∨ k = 6 ∨ k = 7 ∨ k = 8 ∨ k = 9 ∨ k = 10 ∨ k = 11 ∨ k = 12 ∨ k = 13 ∨ k = 14 ∨ k = 15 ∨ k = 16 ∨ k = 17 ∨ k = 18 ∨ k = 19 ∨ k = 20 ∨ k = 21 ∨ k = 22 ∨ k = 23 ∨ k = 24 ∨ k = 25 ∨ k = 26 ∨ k = 27 ∨ k = 28 ∨ k = 29 ∨ k = 30 ∨ k = 31 ∨ k = 32 ∨ k = 33 ∨ k = 34 ∨ k = 35 ∨ k = 36 ∨ k = 37 := by omega
    rcases key with rfl | rfl | rfl | rfl | rfl | rfl | rfl | rfl | rfl | rfl | rfl | rfl | rfl | rfl | rfl | rfl | rfl | rfl | rfl | rfl | rfl | rfl | rfl | rfl | rfl | rfl | rfl | rfl | rfl | rfl | rfl | rfl | rfl | rfl | rfl | rfl | rfl | rfl
    · exact lv_tableIn (pc := 40) (off := 168) (tgt := 208) hx hb dL_law_40 (by decide) (by decide) rfl (by decide) (law_0 cx hE hX hbl hL hi hcl hsl hl0 KC hv hl)
    · exact lv_tableIn (pc := 40) (off := 241) (tgt := 281) hx hb dL_law_40 (by decide) (by decide) rfl (by decide) (law_1 cx hE hX hbl hL hi hcl hsl hl0 KC hv hl)
    · exact lv_tableIn (pc := 40) (off := 266) (tgt := 306) hx hb dL_law_40 (by decide) (by decide) rfl (by decide) (law_2 cx hE hX hbl hL hi hcl hsl hl0 KC hv hl)
    · exact lv_tableIn (pc := 40) (off := 279) (tgt := 319) hx hb dL_law_40 (by decide) (by decide) rfl (by decide) (law_3 cx hE hX hbl hL hi hcl hsl hl0 KC hv hl)
    · exact lv_tableIn (pc := 40) (off := 292) (tgt := 332) hx hb dL_law_40 (by decide) (by decide) rfl (by decide) (law_4 cx hE hX hbl hL hi hcl hsl hl0 KC hv hl)
    · exact lv_tableIn (pc := 40) (off := 360) (tgt := 400) hx hb dL_law_40 (by decide) (by decide) rfl (by decide) (law_5 cx hE hX hbl hL hi hcl hsl hl0 KC hv hl)
    · exact lv_tableIn (pc := 40) (off := 428) (tgt := 468) hx hb dL_law_40 (by decide) (by decide) rfl (by decide) (law_6 cx hE hX hbl hL hi hcl hsl hl0 KC hv hl)
    · exact lv_tableIn (pc := 40) (off := 465) (tgt := 505) hx hb dL_law_40 (by decide) (by decide) rfl (by decide) (law_7 cx hE hX hbl hL hi hcl hsl hl0 KC hv hl)
    · exact lv_tableIn (pc := 40) (off := 490) (tgt := 530) hx hb dL_law_40 (by decide) (by decide) rfl (by decide) (law_8 cx hE hX hbl hL hi hcl hsl hl0 KC hv hl)
    · exact lv_tableIn (pc := 40) (off := 515) (tgt := 555) hx hb dL_law_40 (by decide) (by decide) rfl (by decide) (law_9 cx hE hX hbl hL hi hcl hsl hl0 KC hv hl)
    · exact lv_tableIn (pc := 40) (off := 564) (tgt := 604) hx hb dL_law_40 (by decide) (by decide) rfl (by decide) (law_10 cx hE hX hbl hL hi hcl hsl hl0 KC hv hl)
    · exact lv_tableIn (pc := 40) (off := 589) (tgt := 629) hx hb dL_law_40 (by decide) (by decide) rfl (by decide) (law_11 cx hE hX hbl hL hi hcl hsl hl0 KC hv hl)
    · exact lv_tableIn (pc := 40) (off := 626) (tgt := 666) hx hb dL_law_40 (by decide) (by decide) rfl (by decide) (law_12 cx hE hX hbl hL hi hcl hsl hl0 KC hv hl)
    · exact lv_tableIn (pc := 40) (off := 651) (tgt := 691) hx hb dL_law_40 (by decide) (by decide) rfl (by decide) (law_13 cx hE hX hbl hL hi hcl hsl hl0 KC hv hl)
    · exact lv_tableIn (pc := 40) (off := 664) (tgt := 704) hx hb dL_law_40 (by decide) (by decide) rfl (by decide) (law_14 cx hE hX hbl hL hi hcl hsl hl0 KC hv hl)
    · exact lv_tableIn (pc := 40) (off := 701) (tgt := 741) hx hb dL_law_40 (by decide) (by decide) rfl (by decide) (law_15 cx hE hX hbl hL hi hcl hsl hl0 KC hv hl)
    · exact lv_tableIn (pc := 40) (off := 726) (tgt := 766) hx hb dL_law_40 (by decide) (by decide) rfl (by decide) (law_16 cx hE hX hbl hL hi hcl hsl hl0 KC hv hl)
    · exact lv_tableIn (pc := 40) (off := 751) (tgt := 791) hx hb dL_law_40 (by decide) (by decide) rfl (by decide) (law_17 cx hE hX hbl hL hi hcl hsl hl0 KC hv hl)
    · exact lv_tableIn (pc := 40) (off := 776) (tgt := 816) hx hb dL_law_40 (by decide) (by decide) rfl (by decide) (law_18 cx hE hX hbl hL hi hcl hsl hl0 KC hv hl)
    · exact lv_tableIn (pc := 40) (off := 789) (tgt := 829) hx hb dL_law_40 (by decide) (by decide) rfl (by decide) (law_19 cx hE hX hbl hL hi hcl hsl hl0 KC hv hl)
    · exact lv_tableIn (pc := 40) (off := 802) (tgt := 842) hx hb dL_law_40 (by decide) (by decide) rfl (by decide) (law_20 cx hE hX hbl hL hi hcl hsl hl0 KC hv hl)
    · exact lv_tableIn (pc := 40) (off := 815) (tgt := 855) hx hb dL_law_40 (by decide) (by decide) rfl (by decide) (law_21 cx hE hX hbl hL hi hcl hsl hl0 KC hv hl)
    · exact lv_tableIn (pc := 40) (off := 828) (tgt := 868) hx hb dL_law_40 (by decide) (by decide) rfl (by decide) (law_22 cx hE hX hbl hL hi hcl hsl hl0 KC hv hl)
    · exact lv_tableIn (pc := 40) (off := 853) (tgt := 893) hx hb dL_law_40 (by decide) (by decide) rfl (by decide) (law_23 cx hE hX hbl hL hi hcl hsl hl0 KC hv hl)
    · exact lv_tableIn (pc := 40) (off := 878) (tgt := 918) hx hb dL_law_40 (by decide) (by decide) rfl (by decide) (law_24 cx hE hX hbl hL hi hcl hsl hl0 KC hv hl)
    · exact lv_tableIn (pc := 40) (off := 891) (tgt := 931) hx hb dL_law_40 (by decide) (by decide) rfl (by decide) (law_25 cx hE hX hbl hL hi hcl hsl hl0 KC hv hl)
    · exact lv_tableIn (pc := 40) (off := 916) (tgt := 956) hx hb dL_law_40 (by decide) (by decide) rfl (by decide) (law_26 cx hE hX hbl hL hi hcl hsl hl0 KC hv hl)
    · exact lv_tableIn (pc := 40) (off := 929) (tgt := 969) hx hb dL_law_40 (by decide) (by decide) rfl (by decide) (law_27 cx hE hX hbl hL hi hcl hsl hl0 KC hv hl)
    · exact lv_tableIn (pc := 40) (off := 954) (tgt := 994) hx hb dL_law_40 (by decide) (by decide) rfl (by decide) (law_28 cx hE hX hbl hL hi hcl hsl hl0 KC hv hl)
    · exact lv_tableIn (pc := 40) (off := 979) (tgt := 1019) hx hb dL_law_40 (by decide) (by decide) rfl (by decide) (law_29 cx hE hX hbl hL hi hcl hsl hl0 KC hv hl)
    · exact lv_tableIn (pc := 40) (off := 1016) (tgt := 1056) hx hb dL_law_40 (by decide) (by decide) rfl (by decide) (law_30 cx hE hX hbl hL hi hcl hsl hl0 KC hv hl)
    · exact lv_tableIn (pc := 40) (off := 1065) (tgt := 1105) hx hb dL_law_40 (by decide) (by decide) rfl (by decide) (law_31 cx hE hX hbl hL hi hcl hsl hl0 KC hv hl)
    · exact lv_tableIn (pc := 40) (off := 1090) (tgt := 1130) hx hb dL_law_40 (by decide) (by decide) rfl (by decide) (law_32 cx hE hX hbl hL hi hcl hsl hl0 KC hv hl)
    · exact lv_tableIn (pc := 40) (off := 1115) (tgt := 1155) hx hb dL_law_40 (by decide) (by decide) rfl (by decide) (law_33 cx hE hX hbl hL hi hcl hsl hl0 KC hv hl)
    · exact lv_tableIn (pc := 40) (off := 1128) (tgt := 1168) hx hb dL_law_40 (by decide) (by decide) rfl (by decide) (law_34 cx hE hX hbl hL hi hcl hsl hl0 KC hv hl)
    · exact lv_tableIn (pc := 40) (off := 1153) (tgt := 1193) hx hb dL_law_40 (by decide) (by decide) rfl (by decide) (law_35 cx hE hX hbl hL hi hcl hsl hl0 KC hv hl)
    · exact lv_tableIn (pc := 40) (off := 1178) (tgt := 1218) hx hb dL_law_40 (by decide) (by decide) rfl (by decide) (law_36 cx hE hX hbl hL hi hcl hsl hl0 KC hv hl)
    · exact lv_tableIn (pc := 40) (off := 1203) (tgt := 1243) hx hb dL_law_40 (by decide) (by decide) rfl (by decide) (law_37 cx hE hX hbl hL hi hcl hsl hl0 KC hv hl)
  · have hne : ¬ (nI k).toInt ≤ 37 := by
      have h1 := z_toInt_nI (k := k) (by omega)
      rw [h1]; omega
    exact zr_tsD (pc := 40) (tgt := 1268) hx hb dL_law_40 (fun _ h2 => absurd h2 hne) (by decide) (KC _ _ _ _ _ hv hl (by omega) (by omega))
theorem dL_law_23 : decode cL_law 23 = .ok (.iload 4, 2) := by decide +kernel
theorem dL_law_25 : decode cL_law 25 = .ok (.aload_n 0, 1) := by decide +kernel
theorem dL_law_26 : decode cL_law 26 = .ok (.arraylength, 1) := by decide +kernel
theorem dL_law_27 : decode cL_law 27 = .ok (.bipush 6, 2) := by decide +kernel
theorem dL_law_29 : decode cL_law 29 = .ok (.isub, 1) := by decide +kernel
theorem dL_law_30 : decode cL_law 30 = .ok (.if_icmp .gt 1244, 3) := by decide +kernel
theorem dL_law_1274 : decode cL_law 1274 = .ok (.iconst 1, 1) := by decide +kernel
theorem law_loop {p : Program} {l : Launch} {e : Env} {s : State} {m : MethodId} {below : List Frame} {meth : Method} {c : Code} {D : va_G} {cy : Nat → ClassId} {kK kV q qm : Nat → Nat} {o b L : Nat} {xs : Nat → Int32} {Q : State → Prop} (cx : zX RL cL_law 7 p s m #[Value.ref b] c D cy) (hE : zEn kK kV (zAL s) s) (hX : va_X b L xs s s.heap) (hbl : b < s.heap.size) (hL : L ≤ 3072) (hl0 : l.stackTraces = false)
    (fin : ∀ (H : Heap) (ls : Array Slot), W p l e room_1 s m #[Value.ref b] below meth c H [] 601024 7293034 Q (F0 m 1275 ls [.int 1])) : ∀ (n i cells slots : Nat) (H : Heap) (locs : List Loc) (ls : Array Slot), L < i + 6 * n + 6 → i ≤ 4000 → cells + 2 * n ≤ 601024 → slots + 68 * n ≤ 7293034 → zIv D cy s q qm o H locs → lv_has ls 7 [(4, .int (nI i)), (0, .ref b), (1, .ref (q 0)), (2, .ref (qm 0)), (3, .ref o)] → W p l e room_1 s m #[Value.ref b] below meth c H locs cells slots Q (F0 m 23 ls []) := by
  have hx := cx.1
  have hb := cx.2.1
  have hbA : ¬ zAL s b := Nat.not_le.mpr hbl
  have head : ∀ (i cells slots : Nat) (H : Heap) (locs : List Loc) (ls : Array Slot), i ≤ 4000 → cells ≤ 601024 → slots ≤ 7293034 → zIv D cy s q qm o H locs → lv_has ls 7 [(4, .int (nI i)), (0, .ref b), (1, .ref (q 0)), (2, .ref (qm 0)), (3, .ref o)] → (i + 6 ≤ L → W p l e room_1 s m #[Value.ref b] below meth c H locs cells slots Q (F0 m 33 ls [])) → W p l e room_1 s m #[Value.ref b] below meth c H locs cells slots Q (F0 m 23 ls []) := by
    intro i cells slots H locs ls hi hcl hsl hv hl kk
    obtain ⟨S, T, tx, u, f, r, hu, hse, hw, hS⟩ := id hv
    refine lv_iload (pc := 23) hx hb dL_law_23 (lv_at hl 0 rfl) ?_
    refine lv_aload_n (pc := 25) hx hb dL_law_25 rfl (lv_at hl 1 rfl) ?_
    refine va_slen (pc := 26) hx hb hX hbl hbA hS dL_law_26 ?_
    refine lv_bipush (pc := 27) hx hb dL_law_27 zb_6 ?_
    refine lv_isub (pc := 29) hx hb dL_law_29 ?_
    refine lv_icmp_gt (pc := 30) (tgt := 1274) hx hb dL_law_30 (by decide) (fun _ => ?_) (fun h => kk (zl_more hL hi h))
    refine lv_iconst (pc := 1274) hx hb dL_law_1274 zc_1 ?_
    refine va_forget (fun q9 h9 => hS.2.2 q9 h9) ?_
    refine W.widen (k := 601024) (n := 7293034) hcl hsl ?_
    exact fin H ls
  intro n
  induction n with
  | zero =>
    intro i cells slots H locs ls hn hi hcl hsl hv hl
    exact head i cells slots H locs ls hi (by omega) (by omega) hv hl (fun h6 => absurd h6 (by omega))
  | succ n ih =>
    intro i cells slots H locs ls hn hi hcl hsl hv hl
    refine head i cells slots H locs ls hi (by omega) (by omega) hv hl (fun h6 => ?_)
    have KC : ∀ (H : Heap) (locs : List Loc) (ls : Array Slot) (c1 s1 : Nat), zIv D cy s q qm o H locs → lv_has ls 7 [(4, .int (nI i)), (0, .ref b), (1, .ref (q 0)), (2, .ref (qm 0)), (3, .ref o)] → c1 ≤ cells + 2 → s1 ≤ slots + 68 → W p l e room_1 s m #[Value.ref b] below meth c H locs c1 s1 Q (F0 m 1268 ls []) := by
      intro H locs ls c1 s1 hv hl h1 h2
      refine lv_iinc (v := nI (i + 6)) (lv' := [(4, .int (nI (i + 6))), (0, .ref b), (1, .ref (q 0)), (2, .ref (qm 0)), (3, .ref o)]) (pc := 1268) hx hb dL_law_1268 hl (k := 0) rfl (by rw [zc_6]; exact z_addI) (by decide) rfl (fun ls hl => ?_)
      refine lv_goto (pc := 1271) (tgt := 23) hx hb dL_law_1271 (by decide) ?_
      exact ih (i + 6) c1 s1 H locs ls (by omega) (by omega) (by omega) (by omega) hv hl
    have hin : vp_in (nI i) L := vp_in_nI (by omega) (by omega)
    obtain ⟨S, T, tx, u, f, r, hu, hse, hw, hS⟩ := id hv
    refine lv_aload_n (pc := 33) hx hb dL_law_33 rfl (lv_at hl 1 rfl) ?_
    refine lv_iload (pc := 34) hx hb dL_law_34 (lv_at hl 0 rfl) ?_
    refine va_sld (pc := 36) hx hb hX hbl hbA hS hin dL_law_36 ?_
    refine lv_bipush (pc := 37) hx hb dL_law_37 zb_63 ?_
    refine lv_iand (pc := 39) hx hb dL_law_39 ?_
    obtain ⟨k, hk, ek⟩ := zand63 (xs (nI i).toNatClampNeg)
    rw [ek]
    exact law_sw cx hE hX hbl hL h6 (by omega) (by omega) hl0 KC hv hl hk
