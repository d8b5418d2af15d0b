/-! the reference's world, once made -/
def t8 : zSt := (fun k j => match k with
  | 0 => if j = 25 ∨ j = 26 then -1 else 0
  | _ => 0, fun _ _ => 0)
theorem zQ_list {A : Nat → Prop} {sh : Nat → zSp} {N : Nat} {cy : Nat → ClassId} {q : Nat → Nat} {S : zSt} (h : va_D A (zW sh N cy q S)) : zQ A q N := by
  refine ⟨fun i j hi hj e => ?_, fun k hk => ?_⟩
  · exact h.1 i j _ _ (zW_at hi rfl) (zW_at hj rfl) e
  · exact h.2 k _ (zW_at hk rfl)
set_option maxHeartbeats 400000 in
theorem zC_model0 (a q1 q2 q3 q4 q5 q6 q7 q8 q9 q10 q11 q12 q13 q14 q15 q16 q17 q18 : Nat) : zFl (fun k => [a, q1, q2, q3, q4, q5, q6, q7, q8, q9, q10, q11, q12, q13, q14, q15, q16, q17, q18].getD k 0) t8 0 [none, some (some 1), none, none, none, none, none, none, none, none, none, none, some none, none, some (some 2), some (some 3), some (some 4), some (some 5), some (some 6), some (some 7), some (some 8), some (some 9), some (some 10), some (some 11), none, none, none, some (some 12), some (some 13), none, some (some 14), none, none, some (some 15), none, none, some (some 16), some (some 17), none, none, some (some 18), none, none, none, none] = [.int 0, .ref q1, .int 0, .int 0, .int 0, .int 0, .int 0, .int 0, .int 0, .int 0, .int 0, .int 0, .long 0, .int 0, .ref q2, .ref q3, .ref q4, .ref q5, .ref q6, .ref q7, .ref q8, .ref q9, .ref q10, .ref q11, .int 0, .int (-1), .int (-1), .ref q12, .ref q13, .int 0, .ref q14, .int 0, .int 0, .ref q15, .int 0, .int 0, .ref q16, .ref q17, .int 0, .int 0, .ref q18, .int 0, .int 0, .int 0, .int 0] := by
  unfold zFl
  simp only [List.mapIdx_cons, List.mapIdx_nil, zFv]
  rfl
